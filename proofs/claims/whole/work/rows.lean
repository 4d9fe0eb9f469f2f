section
/-- a private method of a class that the tables say can be made, by its rows of tables_1 -/
def lw_okq (q : MethodName × Nat) : Prop := (q.1.cls ≠ "java/lang/invoke/MethodHandle" ∧ q.1.cls ≠ "java/lang/invoke/VarHandle") ∧ Cond.instantiable q.1.cls q.2 ∈ tables_1 ∧ Cond.privateMethod q.1 ∈ tables_1 ∧ Cond.instanceMethod q.1 ∈ tables_1
theorem lw_p0 : lw_okq (⟨"DragonTithe", "tally", "(I)I"⟩, 15) := ⟨⟨by decide +kernel, by decide +kernel⟩, List.mem_of_getElem? (i := 21) (by decide +kernel), List.mem_of_getElem? (i := 365) (by decide +kernel), List.mem_of_getElem? (i := 366) (by decide +kernel)⟩
theorem lw_p1 : lw_okq (⟨"DragonTithe$Scroll", "step", "()V"⟩, 9) := ⟨⟨by decide +kernel, by decide +kernel⟩, List.mem_of_getElem? (i := 155) (by decide +kernel), List.mem_of_getElem? (i := 481) (by decide +kernel), List.mem_of_getElem? (i := 482) (by decide +kernel)⟩
theorem lw_p2 : lw_okq (⟨"DragonTithe$Scroll", "isLetter", "(I)Z"⟩, 9) := ⟨⟨by decide +kernel, by decide +kernel⟩, List.mem_of_getElem? (i := 155) (by decide +kernel), List.mem_of_getElem? (i := 485) (by decide +kernel), List.mem_of_getElem? (i := 486) (by decide +kernel)⟩
theorem lw_p3 : lw_okq (⟨"DragonTithe$Scroll", "stepOverWord", "()V"⟩, 9) := ⟨⟨by decide +kernel, by decide +kernel⟩, List.mem_of_getElem? (i := 155) (by decide +kernel), List.mem_of_getElem? (i := 489) (by decide +kernel), List.mem_of_getElem? (i := 490) (by decide +kernel)⟩
theorem lw_p4 : lw_okq (⟨"DragonTithe$Scroll", "tokenIs", "(Ljava/lang/String;)Z"⟩, 9) := ⟨⟨by decide +kernel, by decide +kernel⟩, List.mem_of_getElem? (i := 155) (by decide +kernel), List.mem_of_getElem? (i := 502) (by decide +kernel), List.mem_of_getElem? (i := 503) (by decide +kernel)⟩
theorem lw_p5 : lw_okq (⟨"DragonTithe$Scroll", "isFigure", "(I)Z"⟩, 9) := ⟨⟨by decide +kernel, by decide +kernel⟩, List.mem_of_getElem? (i := 155) (by decide +kernel), List.mem_of_getElem? (i := 554) (by decide +kernel), List.mem_of_getElem? (i := 555) (by decide +kernel)⟩
theorem lw_p6 : lw_okq (⟨"DragonTithe$Scroll", "stepOverNumber", "()V"⟩, 9) := ⟨⟨by decide +kernel, by decide +kernel⟩, List.mem_of_getElem? (i := 155) (by decide +kernel), List.mem_of_getElem? (i := 558) (by decide +kernel), List.mem_of_getElem? (i := 559) (by decide +kernel)⟩
theorem lw_p7 : lw_okq (⟨"DragonTithe$Scroll", "parseItem", "(I)Z"⟩, 9) := ⟨⟨by decide +kernel, by decide +kernel⟩, List.mem_of_getElem? (i := 155) (by decide +kernel), List.mem_of_getElem? (i := 562) (by decide +kernel), List.mem_of_getElem? (i := 563) (by decide +kernel)⟩
theorem lw_p8 : lw_okq (⟨"DragonTithe", "tellItem", "(I)I"⟩, 15) := ⟨⟨by decide +kernel, by decide +kernel⟩, List.mem_of_getElem? (i := 21) (by decide +kernel), List.mem_of_getElem? (i := 568) (by decide +kernel), List.mem_of_getElem? (i := 569) (by decide +kernel)⟩
theorem lw_p9 : lw_okq (⟨"DragonTithe$Herd", "takeFrom", "(I)I"⟩, 8) := ⟨⟨by decide +kernel, by decide +kernel⟩, List.mem_of_getElem? (i := 35) (by decide +kernel), List.mem_of_getElem? (i := 630) (by decide +kernel), List.mem_of_getElem? (i := 631) (by decide +kernel)⟩
theorem lw_p10 : lw_okq (⟨"DragonTithe$Herd", "growAll", "()V"⟩, 8) := ⟨⟨by decide +kernel, by decide +kernel⟩, List.mem_of_getElem? (i := 35) (by decide +kernel), List.mem_of_getElem? (i := 644) (by decide +kernel), List.mem_of_getElem? (i := 645) (by decide +kernel)⟩
theorem lw_p11 : lw_okq (⟨"DragonTithe", "refuseAsBad", "(I)I"⟩, 15) := ⟨⟨by decide +kernel, by decide +kernel⟩, List.mem_of_getElem? (i := 21) (by decide +kernel), List.mem_of_getElem? (i := 689) (by decide +kernel), List.mem_of_getElem? (i := 690) (by decide +kernel)⟩
theorem lw_p12 : lw_okq (⟨"DragonTithe$Moves", "takenNow", "()I"⟩, 7) := ⟨⟨by decide +kernel, by decide +kernel⟩, List.mem_of_getElem? (i := 221) (by decide +kernel), List.mem_of_getElem? (i := 709) (by decide +kernel), List.mem_of_getElem? (i := 710) (by decide +kernel)⟩
theorem lw_p13 : lw_okq (⟨"DragonTithe$Moves", "tryLastMove", "(II)V"⟩, 7) := ⟨⟨by decide +kernel, by decide +kernel⟩, List.mem_of_getElem? (i := 221) (by decide +kernel), List.mem_of_getElem? (i := 714) (by decide +kernel), List.mem_of_getElem? (i := 715) (by decide +kernel)⟩
theorem lw_p14 : lw_okq (⟨"DragonTithe$Moves", "shift", "(III)V"⟩, 7) := ⟨⟨by decide +kernel, by decide +kernel⟩, List.mem_of_getElem? (i := 221) (by decide +kernel), List.mem_of_getElem? (i := 718) (by decide +kernel), List.mem_of_getElem? (i := 719) (by decide +kernel)⟩
theorem lw_p15 : lw_okq (⟨"DragonTithe$Moves", "weigh", "(II)V"⟩, 7) := ⟨⟨by decide +kernel, by decide +kernel⟩, List.mem_of_getElem? (i := 221) (by decide +kernel), List.mem_of_getElem? (i := 724) (by decide +kernel), List.mem_of_getElem? (i := 725) (by decide +kernel)⟩
def lw_privs_1 : List (MethodName × Nat) := [(⟨"DragonTithe", "tally", "(I)I"⟩, 15), (⟨"DragonTithe$Scroll", "step", "()V"⟩, 9), (⟨"DragonTithe$Scroll", "isLetter", "(I)Z"⟩, 9), (⟨"DragonTithe$Scroll", "stepOverWord", "()V"⟩, 9), (⟨"DragonTithe$Scroll", "tokenIs", "(Ljava/lang/String;)Z"⟩, 9), (⟨"DragonTithe$Scroll", "isFigure", "(I)Z"⟩, 9), (⟨"DragonTithe$Scroll", "stepOverNumber", "()V"⟩, 9), (⟨"DragonTithe$Scroll", "parseItem", "(I)Z"⟩, 9), (⟨"DragonTithe", "tellItem", "(I)I"⟩, 15), (⟨"DragonTithe$Herd", "takeFrom", "(I)I"⟩, 8), (⟨"DragonTithe$Herd", "growAll", "()V"⟩, 8), (⟨"DragonTithe", "refuseAsBad", "(I)I"⟩, 15), (⟨"DragonTithe$Moves", "takenNow", "()I"⟩, 7), (⟨"DragonTithe$Moves", "tryLastMove", "(II)V"⟩, 7), (⟨"DragonTithe$Moves", "shift", "(III)V"⟩, 7), (⟨"DragonTithe$Moves", "weigh", "(II)V"⟩, 7)]
theorem lw_r1 : ∀ q ∈ lw_privs_1, lw_okq q := List.forall_mem_cons.mpr ⟨lw_p0, List.forall_mem_cons.mpr ⟨lw_p1, List.forall_mem_cons.mpr ⟨lw_p2, List.forall_mem_cons.mpr ⟨lw_p3, List.forall_mem_cons.mpr ⟨lw_p4, List.forall_mem_cons.mpr ⟨lw_p5, List.forall_mem_cons.mpr ⟨lw_p6, List.forall_mem_cons.mpr ⟨lw_p7, List.forall_mem_cons.mpr ⟨lw_p8, List.forall_mem_cons.mpr ⟨lw_p9, List.forall_mem_cons.mpr ⟨lw_p10, List.forall_mem_cons.mpr ⟨lw_p11, List.forall_mem_cons.mpr ⟨lw_p12, List.forall_mem_cons.mpr ⟨lw_p13, List.forall_mem_cons.mpr ⟨lw_p14, List.forall_mem_cons.mpr ⟨lw_p15, fun _ h => absurd h List.not_mem_nil⟩⟩⟩⟩⟩⟩⟩⟩⟩⟩⟩⟩⟩⟩⟩⟩
theorem lw_p16 : lw_okq (⟨"DragonTithe$Moves", "tryTwoMoves", "()V"⟩, 7) := ⟨⟨by decide +kernel, by decide +kernel⟩, List.mem_of_getElem? (i := 221) (by decide +kernel), List.mem_of_getElem? (i := 728) (by decide +kernel), List.mem_of_getElem? (i := 729) (by decide +kernel)⟩
theorem lw_p17 : lw_okq (⟨"DragonTithe$Weather", "casesOf", "(I[I)J"⟩, 5) := ⟨⟨by decide +kernel, by decide +kernel⟩, List.mem_of_getElem? (i := 196) (by decide +kernel), List.mem_of_getElem? (i := 744) (by decide +kernel), List.mem_of_getElem? (i := 745) (by decide +kernel)⟩
theorem lw_p18 : lw_okq (⟨"DragonTithe", "setFraction", "(JJ)V"⟩, 15) := ⟨⟨by decide +kernel, by decide +kernel⟩, List.mem_of_getElem? (i := 21) (by decide +kernel), List.mem_of_getElem? (i := 748) (by decide +kernel), List.mem_of_getElem? (i := 749) (by decide +kernel)⟩
theorem lw_p19 : lw_okq (⟨"DragonTithe$Roads", "spread", "(II)I"⟩, 4) := ⟨⟨by decide +kernel, by decide +kernel⟩, List.mem_of_getElem? (i := 87) (by decide +kernel), List.mem_of_getElem? (i := 790) (by decide +kernel), List.mem_of_getElem? (i := 791) (by decide +kernel)⟩
theorem lw_p20 : lw_okq (⟨"DragonTithe$Game", "rests", "(II)Z"⟩, 5) := ⟨⟨by decide +kernel, by decide +kernel⟩, List.mem_of_getElem? (i := 254) (by decide +kernel), List.mem_of_getElem? (i := 823) (by decide +kernel), List.mem_of_getElem? (i := 824) (by decide +kernel)⟩
theorem lw_p21 : lw_okq (⟨"DragonTithe$Game", "lossOfOne", "(II)I"⟩, 5) := ⟨⟨by decide +kernel, by decide +kernel⟩, List.mem_of_getElem? (i := 254) (by decide +kernel), List.mem_of_getElem? (i := 827) (by decide +kernel), List.mem_of_getElem? (i := 828) (by decide +kernel)⟩
theorem lw_p22 : lw_okq (⟨"DragonTithe$Game", "takesFromOne", "(II)Z"⟩, 5) := ⟨⟨by decide +kernel, by decide +kernel⟩, List.mem_of_getElem? (i := 254) (by decide +kernel), List.mem_of_getElem? (i := 831) (by decide +kernel), List.mem_of_getElem? (i := 832) (by decide +kernel)⟩
theorem lw_p23 : lw_okq (⟨"DragonTithe$Game", "lossOfOther", "(II)I"⟩, 5) := ⟨⟨by decide +kernel, by decide +kernel⟩, List.mem_of_getElem? (i := 254) (by decide +kernel), List.mem_of_getElem? (i := 835) (by decide +kernel), List.mem_of_getElem? (i := 836) (by decide +kernel)⟩
theorem lw_p24 : lw_okq (⟨"DragonTithe$Fit", "rowsFrom", "(II[I)I"⟩, 4) := ⟨⟨by decide +kernel, by decide +kernel⟩, List.mem_of_getElem? (i := 278) (by decide +kernel), List.mem_of_getElem? (i := 880) (by decide +kernel), List.mem_of_getElem? (i := 881) (by decide +kernel)⟩
theorem lw_p25 : lw_okq (⟨"DragonTithe$Fit", "sortClouds", "(I)V"⟩, 4) := ⟨⟨by decide +kernel, by decide +kernel⟩, List.mem_of_getElem? (i := 278) (by decide +kernel), List.mem_of_getElem? (i := 884) (by decide +kernel), List.mem_of_getElem? (i := 885) (by decide +kernel)⟩
theorem lw_p26 : lw_okq (⟨"DragonTithe", "howMany", "(I)I"⟩, 15) := ⟨⟨by decide +kernel, by decide +kernel⟩, List.mem_of_getElem? (i := 21) (by decide +kernel), List.mem_of_getElem? (i := 923) (by decide +kernel), List.mem_of_getElem? (i := 924) (by decide +kernel)⟩
theorem lw_p27 : lw_okq (⟨"DragonTitheModel", "begins", "(I)V"⟩, 20) := ⟨⟨by decide +kernel, by decide +kernel⟩, List.mem_of_getElem? (i := 938) (by decide +kernel), List.mem_of_getElem? (i := 944) (by decide +kernel), List.mem_of_getElem? (i := 945) (by decide +kernel)⟩
theorem lw_p28 : lw_okq (⟨"DragonTitheModel", "bad", "()I"⟩, 20) := ⟨⟨by decide +kernel, by decide +kernel⟩, List.mem_of_getElem? (i := 938) (by decide +kernel), List.mem_of_getElem? (i := 1017) (by decide +kernel), List.mem_of_getElem? (i := 1018) (by decide +kernel)⟩
theorem lw_p29 : lw_okq (⟨"DragonTitheModel", "refuses", "(II)I"⟩, 20) := ⟨⟨by decide +kernel, by decide +kernel⟩, List.mem_of_getElem? (i := 938) (by decide +kernel), List.mem_of_getElem? (i := 1021) (by decide +kernel), List.mem_of_getElem? (i := 1022) (by decide +kernel)⟩
theorem lw_p30 : lw_okq (⟨"DragonTitheModel", "isVillage", "(I)Z"⟩, 20) := ⟨⟨by decide +kernel, by decide +kernel⟩, List.mem_of_getElem? (i := 938) (by decide +kernel), List.mem_of_getElem? (i := 1029) (by decide +kernel), List.mem_of_getElem? (i := 1030) (by decide +kernel)⟩
theorem lw_p31 : lw_okq (⟨"DragonTitheModel", "full", "()I"⟩, 20) := ⟨⟨by decide +kernel, by decide +kernel⟩, List.mem_of_getElem? (i := 938) (by decide +kernel), List.mem_of_getElem? (i := 1034) (by decide +kernel), List.mem_of_getElem? (i := 1035) (by decide +kernel)⟩
def lw_privs_2 : List (MethodName × Nat) := [(⟨"DragonTithe$Moves", "tryTwoMoves", "()V"⟩, 7), (⟨"DragonTithe$Weather", "casesOf", "(I[I)J"⟩, 5), (⟨"DragonTithe", "setFraction", "(JJ)V"⟩, 15), (⟨"DragonTithe$Roads", "spread", "(II)I"⟩, 4), (⟨"DragonTithe$Game", "rests", "(II)Z"⟩, 5), (⟨"DragonTithe$Game", "lossOfOne", "(II)I"⟩, 5), (⟨"DragonTithe$Game", "takesFromOne", "(II)Z"⟩, 5), (⟨"DragonTithe$Game", "lossOfOther", "(II)I"⟩, 5), (⟨"DragonTithe$Fit", "rowsFrom", "(II[I)I"⟩, 4), (⟨"DragonTithe$Fit", "sortClouds", "(I)V"⟩, 4), (⟨"DragonTithe", "howMany", "(I)I"⟩, 15), (⟨"DragonTitheModel", "begins", "(I)V"⟩, 20), (⟨"DragonTitheModel", "bad", "()I"⟩, 20), (⟨"DragonTitheModel", "refuses", "(II)I"⟩, 20), (⟨"DragonTitheModel", "isVillage", "(I)Z"⟩, 20), (⟨"DragonTitheModel", "full", "()I"⟩, 20)]
theorem lw_r2 : ∀ q ∈ lw_privs_2, lw_okq q := List.forall_mem_cons.mpr ⟨lw_p16, List.forall_mem_cons.mpr ⟨lw_p17, List.forall_mem_cons.mpr ⟨lw_p18, List.forall_mem_cons.mpr ⟨lw_p19, List.forall_mem_cons.mpr ⟨lw_p20, List.forall_mem_cons.mpr ⟨lw_p21, List.forall_mem_cons.mpr ⟨lw_p22, List.forall_mem_cons.mpr ⟨lw_p23, List.forall_mem_cons.mpr ⟨lw_p24, List.forall_mem_cons.mpr ⟨lw_p25, List.forall_mem_cons.mpr ⟨lw_p26, List.forall_mem_cons.mpr ⟨lw_p27, List.forall_mem_cons.mpr ⟨lw_p28, List.forall_mem_cons.mpr ⟨lw_p29, List.forall_mem_cons.mpr ⟨lw_p30, List.forall_mem_cons.mpr ⟨lw_p31, fun _ h => absurd h List.not_mem_nil⟩⟩⟩⟩⟩⟩⟩⟩⟩⟩⟩⟩⟩⟩⟩⟩
theorem lw_p32 : lw_okq (⟨"DragonTitheModel", "isLot", "(I)Z"⟩, 20) := ⟨⟨by decide +kernel, by decide +kernel⟩, List.mem_of_getElem? (i := 938) (by decide +kernel), List.mem_of_getElem? (i := 1042) (by decide +kernel), List.mem_of_getElem? (i := 1043) (by decide +kernel)⟩
theorem lw_p33 : lw_okq (⟨"DragonTitheModel", "puts", "(II)I"⟩, 20) := ⟨⟨by decide +kernel, by decide +kernel⟩, List.mem_of_getElem? (i := 938) (by decide +kernel), List.mem_of_getElem? (i := 1046) (by decide +kernel), List.mem_of_getElem? (i := 1047) (by decide +kernel)⟩
theorem lw_p34 : lw_okq (⟨"DragonTitheModel", "no", "()I"⟩, 20) := ⟨⟨by decide +kernel, by decide +kernel⟩, List.mem_of_getElem? (i := 938) (by decide +kernel), List.mem_of_getElem? (i := 1054) (by decide +kernel), List.mem_of_getElem? (i := 1055) (by decide +kernel)⟩
theorem lw_p35 : lw_okq (⟨"DragonTitheModel", "remembers", "()V"⟩, 20) := ⟨⟨by decide +kernel, by decide +kernel⟩, List.mem_of_getElem? (i := 938) (by decide +kernel), List.mem_of_getElem? (i := 1058) (by decide +kernel), List.mem_of_getElem? (i := 1059) (by decide +kernel)⟩
theorem lw_p36 : lw_okq (⟨"DragonTitheModel", "areTwo", "(II)Z"⟩, 20) := ⟨⟨by decide +kernel, by decide +kernel⟩, List.mem_of_getElem? (i := 938) (by decide +kernel), List.mem_of_getElem? (i := 1080) (by decide +kernel), List.mem_of_getElem? (i := 1081) (by decide +kernel)⟩
theorem lw_p37 : lw_okq (⟨"DragonTitheModel", "reads", "()Z"⟩, 20) := ⟨⟨by decide +kernel, by decide +kernel⟩, List.mem_of_getElem? (i := 938) (by decide +kernel), List.mem_of_getElem? (i := 1101) (by decide +kernel), List.mem_of_getElem? (i := 1102) (by decide +kernel)⟩
theorem lw_p38 : lw_okq (⟨"DragonTitheModel", "scans", "()V"⟩, 20) := ⟨⟨by decide +kernel, by decide +kernel⟩, List.mem_of_getElem? (i := 938) (by decide +kernel), List.mem_of_getElem? (i := 1105) (by decide +kernel), List.mem_of_getElem? (i := 1106) (by decide +kernel)⟩
theorem lw_p39 : lw_okq (⟨"DragonTitheModel", "isAt", "(II)Z"⟩, 20) := ⟨⟨by decide +kernel, by decide +kernel⟩, List.mem_of_getElem? (i := 938) (by decide +kernel), List.mem_of_getElem? (i := 1109) (by decide +kernel), List.mem_of_getElem? (i := 1110) (by decide +kernel)⟩
theorem lw_p40 : lw_okq (⟨"DragonTitheModel", "tellsItem", "(I)Z"⟩, 20) := ⟨⟨by decide +kernel, by decide +kernel⟩, List.mem_of_getElem? (i := 938) (by decide +kernel), List.mem_of_getElem? (i := 1127) (by decide +kernel), List.mem_of_getElem? (i := 1128) (by decide +kernel)⟩
theorem lw_p41 : lw_okq (⟨"DragonTitheModel", "isSet", "(I)Z"⟩, 20) := ⟨⟨by decide +kernel, by decide +kernel⟩, List.mem_of_getElem? (i := 938) (by decide +kernel), List.mem_of_getElem? (i := 1141) (by decide +kernel), List.mem_of_getElem? (i := 1142) (by decide +kernel)⟩
theorem lw_p42 : lw_okq (⟨"DragonTitheModel", "asNow", "()V"⟩, 20) := ⟨⟨by decide +kernel, by decide +kernel⟩, List.mem_of_getElem? (i := 938) (by decide +kernel), List.mem_of_getElem? (i := 1145) (by decide +kernel), List.mem_of_getElem? (i := 1146) (by decide +kernel)⟩
theorem lw_p43 : lw_okq (⟨"DragonTitheModel", "goes", "(IZII)I"⟩, 20) := ⟨⟨by decide +kernel, by decide +kernel⟩, List.mem_of_getElem? (i := 938) (by decide +kernel), List.mem_of_getElem? (i := 1149) (by decide +kernel), List.mem_of_getElem? (i := 1150) (by decide +kernel)⟩
theorem lw_p44 : lw_okq (⟨"DragonTitheModel", "all", "()I"⟩, 20) := ⟨⟨by decide +kernel, by decide +kernel⟩, List.mem_of_getElem? (i := 938) (by decide +kernel), List.mem_of_getElem? (i := 1153) (by decide +kernel), List.mem_of_getElem? (i := 1154) (by decide +kernel)⟩
theorem lw_p45 : lw_okq (⟨"DragonTitheModel", "greatestOf", "(IIII)I"⟩, 20) := ⟨⟨by decide +kernel, by decide +kernel⟩, List.mem_of_getElem? (i := 938) (by decide +kernel), List.mem_of_getElem? (i := 1157) (by decide +kernel), List.mem_of_getElem? (i := 1158) (by decide +kernel)⟩
theorem lw_p46 : lw_okq (⟨"DragonTitheModel", "sightOf", "(II)I"⟩, 20) := ⟨⟨by decide +kernel, by decide +kernel⟩, List.mem_of_getElem? (i := 938) (by decide +kernel), List.mem_of_getElem? (i := 1161) (by decide +kernel), List.mem_of_getElem? (i := 1162) (by decide +kernel)⟩
theorem lw_p47 : lw_okq (⟨"DragonTitheModel", "headsOf", "(I)I"⟩, 20) := ⟨⟨by decide +kernel, by decide +kernel⟩, List.mem_of_getElem? (i := 938) (by decide +kernel), List.mem_of_getElem? (i := 1184) (by decide +kernel), List.mem_of_getElem? (i := 1185) (by decide +kernel)⟩
def lw_privs_3 : List (MethodName × Nat) := [(⟨"DragonTitheModel", "isLot", "(I)Z"⟩, 20), (⟨"DragonTitheModel", "puts", "(II)I"⟩, 20), (⟨"DragonTitheModel", "no", "()I"⟩, 20), (⟨"DragonTitheModel", "remembers", "()V"⟩, 20), (⟨"DragonTitheModel", "areTwo", "(II)Z"⟩, 20), (⟨"DragonTitheModel", "reads", "()Z"⟩, 20), (⟨"DragonTitheModel", "scans", "()V"⟩, 20), (⟨"DragonTitheModel", "isAt", "(II)Z"⟩, 20), (⟨"DragonTitheModel", "tellsItem", "(I)Z"⟩, 20), (⟨"DragonTitheModel", "isSet", "(I)Z"⟩, 20), (⟨"DragonTitheModel", "asNow", "()V"⟩, 20), (⟨"DragonTitheModel", "goes", "(IZII)I"⟩, 20), (⟨"DragonTitheModel", "all", "()I"⟩, 20), (⟨"DragonTitheModel", "greatestOf", "(IIII)I"⟩, 20), (⟨"DragonTitheModel", "sightOf", "(II)I"⟩, 20), (⟨"DragonTitheModel", "headsOf", "(I)I"⟩, 20)]
theorem lw_r3 : ∀ q ∈ lw_privs_3, lw_okq q := List.forall_mem_cons.mpr ⟨lw_p32, List.forall_mem_cons.mpr ⟨lw_p33, List.forall_mem_cons.mpr ⟨lw_p34, List.forall_mem_cons.mpr ⟨lw_p35, List.forall_mem_cons.mpr ⟨lw_p36, List.forall_mem_cons.mpr ⟨lw_p37, List.forall_mem_cons.mpr ⟨lw_p38, List.forall_mem_cons.mpr ⟨lw_p39, List.forall_mem_cons.mpr ⟨lw_p40, List.forall_mem_cons.mpr ⟨lw_p41, List.forall_mem_cons.mpr ⟨lw_p42, List.forall_mem_cons.mpr ⟨lw_p43, List.forall_mem_cons.mpr ⟨lw_p44, List.forall_mem_cons.mpr ⟨lw_p45, List.forall_mem_cons.mpr ⟨lw_p46, List.forall_mem_cons.mpr ⟨lw_p47, fun _ h => absurd h List.not_mem_nil⟩⟩⟩⟩⟩⟩⟩⟩⟩⟩⟩⟩⟩⟩⟩⟩
theorem lw_p48 : lw_okq (⟨"DragonTitheModel", "tries", "(III)V"⟩, 20) := ⟨⟨by decide +kernel, by decide +kernel⟩, List.mem_of_getElem? (i := 938) (by decide +kernel), List.mem_of_getElem? (i := 1198) (by decide +kernel), List.mem_of_getElem? (i := 1199) (by decide +kernel)⟩
theorem lw_p49 : lw_okq (⟨"DragonTitheModel", "takenNow", "(I)I"⟩, 20) := ⟨⟨by decide +kernel, by decide +kernel⟩, List.mem_of_getElem? (i := 938) (by decide +kernel), List.mem_of_getElem? (i := 1202) (by decide +kernel), List.mem_of_getElem? (i := 1203) (by decide +kernel)⟩
theorem lw_p50 : lw_okq (⟨"DragonTitheModel", "tithe", "(I)I"⟩, 20) := ⟨⟨by decide +kernel, by decide +kernel⟩, List.mem_of_getElem? (i := 938) (by decide +kernel), List.mem_of_getElem? (i := 1206) (by decide +kernel), List.mem_of_getElem? (i := 1207) (by decide +kernel)⟩
theorem lw_p51 : lw_okq (⟨"DragonTitheModel", "waysOf", "(I)J"⟩, 20) := ⟨⟨by decide +kernel, by decide +kernel⟩, List.mem_of_getElem? (i := 938) (by decide +kernel), List.mem_of_getElem? (i := 1214) (by decide +kernel), List.mem_of_getElem? (i := 1215) (by decide +kernel)⟩
theorem lw_p52 : lw_okq (⟨"DragonTitheModel", "whole", "()J"⟩, 20) := ⟨⟨by decide +kernel, by decide +kernel⟩, List.mem_of_getElem? (i := 938) (by decide +kernel), List.mem_of_getElem? (i := 1218) (by decide +kernel), List.mem_of_getElem? (i := 1219) (by decide +kernel)⟩
theorem lw_p53 : lw_okq (⟨"DragonTitheModel", "keeps", "(JJ)I"⟩, 20) := ⟨⟨by decide +kernel, by decide +kernel⟩, List.mem_of_getElem? (i := 938) (by decide +kernel), List.mem_of_getElem? (i := 1222) (by decide +kernel), List.mem_of_getElem? (i := 1223) (by decide +kernel)⟩
theorem lw_p54 : lw_okq (⟨"DragonTitheModel", "meanOf", "(III)J"⟩, 20) := ⟨⟨by decide +kernel, by decide +kernel⟩, List.mem_of_getElem? (i := 938) (by decide +kernel), List.mem_of_getElem? (i := 1233) (by decide +kernel), List.mem_of_getElem? (i := 1234) (by decide +kernel)⟩
theorem lw_p55 : lw_okq (⟨"DragonTitheModel", "openRoads", "()I"⟩, 20) := ⟨⟨by decide +kernel, by decide +kernel⟩, List.mem_of_getElem? (i := 938) (by decide +kernel), List.mem_of_getElem? (i := 1245) (by decide +kernel), List.mem_of_getElem? (i := 1246) (by decide +kernel)⟩
theorem lw_p56 : lw_okq (⟨"DragonTitheModel", "steps", "(II)I"⟩, 20) := ⟨⟨by decide +kernel, by decide +kernel⟩, List.mem_of_getElem? (i := 938) (by decide +kernel), List.mem_of_getElem? (i := 1249) (by decide +kernel), List.mem_of_getElem? (i := 1250) (by decide +kernel)⟩
theorem lw_p57 : lw_okq (⟨"DragonTitheModel", "reaches", "(II)I"⟩, 20) := ⟨⟨by decide +kernel, by decide +kernel⟩, List.mem_of_getElem? (i := 938) (by decide +kernel), List.mem_of_getElem? (i := 1260) (by decide +kernel), List.mem_of_getElem? (i := 1261) (by decide +kernel)⟩
theorem lw_p58 : lw_okq (⟨"DragonTitheModel", "countOf", "(I)I"⟩, 20) := ⟨⟨by decide +kernel, by decide +kernel⟩, List.mem_of_getElem? (i := 938) (by decide +kernel), List.mem_of_getElem? (i := 1329) (by decide +kernel), List.mem_of_getElem? (i := 1330) (by decide +kernel)⟩
theorem lw_p59 : lw_okq (⟨"DragonTitheModel", "mixed", "(JII)J"⟩, 20) := ⟨⟨by decide +kernel, by decide +kernel⟩, List.mem_of_getElem? (i := 938) (by decide +kernel), List.mem_of_getElem? (i := 1339) (by decide +kernel), List.mem_of_getElem? (i := 1340) (by decide +kernel)⟩
def lw_privs_4 : List (MethodName × Nat) := [(⟨"DragonTitheModel", "tries", "(III)V"⟩, 20), (⟨"DragonTitheModel", "takenNow", "(I)I"⟩, 20), (⟨"DragonTitheModel", "tithe", "(I)I"⟩, 20), (⟨"DragonTitheModel", "waysOf", "(I)J"⟩, 20), (⟨"DragonTitheModel", "whole", "()J"⟩, 20), (⟨"DragonTitheModel", "keeps", "(JJ)I"⟩, 20), (⟨"DragonTitheModel", "meanOf", "(III)J"⟩, 20), (⟨"DragonTitheModel", "openRoads", "()I"⟩, 20), (⟨"DragonTitheModel", "steps", "(II)I"⟩, 20), (⟨"DragonTitheModel", "reaches", "(II)I"⟩, 20), (⟨"DragonTitheModel", "countOf", "(I)I"⟩, 20), (⟨"DragonTitheModel", "mixed", "(JII)J"⟩, 20)]
theorem lw_r4 : ∀ q ∈ lw_privs_4, lw_okq q := List.forall_mem_cons.mpr ⟨lw_p48, List.forall_mem_cons.mpr ⟨lw_p49, List.forall_mem_cons.mpr ⟨lw_p50, List.forall_mem_cons.mpr ⟨lw_p51, List.forall_mem_cons.mpr ⟨lw_p52, List.forall_mem_cons.mpr ⟨lw_p53, List.forall_mem_cons.mpr ⟨lw_p54, List.forall_mem_cons.mpr ⟨lw_p55, List.forall_mem_cons.mpr ⟨lw_p56, List.forall_mem_cons.mpr ⟨lw_p57, List.forall_mem_cons.mpr ⟨lw_p58, List.forall_mem_cons.mpr ⟨lw_p59, fun _ h => absurd h List.not_mem_nil⟩⟩⟩⟩⟩⟩⟩⟩⟩⟩⟩⟩
def lw_privs : List (MethodName × Nat) := lw_privs_1 ++ (lw_privs_2 ++ (lw_privs_3 ++ (lw_privs_4)))
def lw_tbl : List Cond := k2_sels lw_privs ++ tables_1
theorem lw_privs_ok : ∀ q ∈ lw_privs, lw_okq q := by
  show ∀ q ∈ lw_privs_1 ++ (lw_privs_2 ++ (lw_privs_3 ++ (lw_privs_4))), lw_okq q
  exact List.forall_mem_append.mpr ⟨lw_r1, List.forall_mem_append.mpr ⟨lw_r2, List.forall_mem_append.mpr ⟨lw_r3, lw_r4⟩⟩⟩
def RX0 : String := "DragonTithe$County"
def TX0 : u_T := fun k => match k with
  | 0 => ("DragonTithe$County", "herd", "LDragonTithe$Herd;", true)
  | 1 => ("DragonTithe$County", "roads", "LDragonTithe$Roads;", true)
  | 2 => ("DragonTithe$County", "past", "LDragonTithe$Past;", true)
  | 3 => ("DragonTithe$County", "odds", "[I", true)
  | _ => ("DragonTithe$County", "toldTaken", "[I", true)
def tyX0 : Nat → FieldType := fun k => match k with
  | 0 => .object "DragonTithe$Herd"
  | 1 => .object "DragonTithe$Roads"
  | 2 => .object "DragonTithe$Past"
  | 3 => .array .int
  | _ => .array .int
abbrev wsX00 : List Cond := u_ws RX0 TX0 5
theorem nmX0 : ∀ a, a < 5 → ∀ b, b < 5 → a ≠ b → (TX0 a).2.1 ≠ (TX0 b).2.1 := by decide +kernel
theorem tyX0_ok : ∀ k, k < 5 → parseFieldDescriptor (TX0 k).2.2.1 = some (tyX0 k) := by decide +kernel
abbrev cX0_init : ByteArray := prog_2_method_1_code
def yX0_init : MethodName := ⟨RX0, "<init>", "()V"⟩
abbrev cX0_become : ByteArray := prog_2_method_2_code
def yX0_become : MethodName := ⟨RX0, "become", "(LDragonTithe$County;)V"⟩
abbrev cX0_startAnew : ByteArray := prog_2_method_3_code
def yX0_startAnew : MethodName := ⟨RX0, "startAnew", "(I)I"⟩
abbrev cX0_addLot : ByteArray := prog_2_method_4_code
def yX0_addLot : MethodName := ⟨RX0, "addLot", "(III)I"⟩
abbrev cX0_moveLot : ByteArray := prog_2_method_5_code
def yX0_moveLot : MethodName := ⟨RX0, "moveLot", "(II)I"⟩
abbrev cX0_driveHeads : ByteArray := prog_2_method_6_code
def yX0_driveHeads : MethodName := ⟨RX0, "driveHeads", "(III)I"⟩
abbrev cX0_dropLot : ByteArray := prog_2_method_7_code
def yX0_dropLot : MethodName := ⟨RX0, "dropLot", "()I"⟩
abbrev cX0_setGrowth : ByteArray := prog_2_method_8_code
def yX0_setGrowth : MethodName := ⟨RX0, "setGrowth", "(I)I"⟩
abbrev cX0_setOdds : ByteArray := prog_2_method_9_code
def yX0_setOdds : MethodName := ⟨RX0, "setOdds", "(II)I"⟩
abbrev cX0_addRoad : ByteArray := prog_2_method_10_code
def yX0_addRoad : MethodName := ⟨RX0, "addRoad", "(II)I"⟩
abbrev cX0_setGuard : ByteArray := prog_2_method_11_code
def yX0_setGuard : MethodName := ⟨RX0, "setGuard", "(IZ)I"⟩
abbrev cX0_setTold : ByteArray := prog_2_method_12_code
def yX0_setTold : MethodName := ⟨RX0, "setTold", "(II)I"⟩
abbrev cX0_passMoon : ByteArray := prog_2_method_13_code
def yX0_passMoon : MethodName := ⟨RX0, "passMoon", "(IZ)I"⟩
abbrev cX0_undoLast : ByteArray := prog_2_method_14_code
def yX0_undoLast : MethodName := ⟨RX0, "undoLast", "()I"⟩
abbrev cX0_digestOn : ByteArray := prog_2_method_15_code
def yX0_digestOn : MethodName := ⟨RX0, "digestOn", "(J)J"⟩
def RX1 : String := "DragonTithe$Fit"
def TX1 : u_T := fun k => match k with
  | 0 => ("DragonTithe$Fit", "ahead", "[LDragonTithe$Herd;", true)
  | 1 => ("DragonTithe$Fit", "ways", "[[I", true)
  | 2 => ("DragonTithe$Fit", "leastClouds", "[[I", true)
  | _ => ("DragonTithe$Fit", "first", "[I", true)
def tyX1 : Nat → FieldType := fun k => match k with
  | 0 => .array (.object "DragonTithe$Herd")
  | 1 => .array (.array .int)
  | 2 => .array (.array .int)
  | _ => .array .int
abbrev wsX10 : List Cond := u_ws RX1 TX1 4
theorem nmX1 : ∀ a, a < 4 → ∀ b, b < 4 → a ≠ b → (TX1 a).2.1 ≠ (TX1 b).2.1 := by decide +kernel
theorem tyX1_ok : ∀ k, k < 4 → parseFieldDescriptor (TX1 k).2.2.1 = some (tyX1 k) := by decide +kernel
abbrev cX1_init : ByteArray := prog_3_method_1_code
def yX1_init : MethodName := ⟨RX1, "<init>", "()V"⟩
abbrev cX1_search : ByteArray := prog_3_method_2_code
def yX1_search : MethodName := ⟨RX1, "search", "(LDragonTithe$County;I)I"⟩
abbrev cX1_rowsFrom : ByteArray := prog_3_method_3_code
def yX1_rowsFrom : MethodName := ⟨RX1, "rowsFrom", "(II[I)I"⟩
abbrev cX1_sortClouds : ByteArray := prog_3_method_4_code
def yX1_sortClouds : MethodName := ⟨RX1, "sortClouds", "(I)V"⟩
def RX2 : String := "DragonTithe$Game"
def TX2 : u_T := fun k => match k with
  | 0 => ("DragonTithe$Game", "oneSight", "I", false)
  | 1 => ("DragonTithe$Game", "otherSight", "I", false)
  | 2 => ("DragonTithe$Game", "oneIsLesser", "Z", false)
  | 3 => ("DragonTithe$Game", "resting", "I", false)
  | _ => ("DragonTithe$Game", "first", "I", false)
def tyX2 : Nat → FieldType := fun k => match k with
  | 0 => .int
  | 1 => .int
  | 2 => .boolean
  | 3 => .int
  | _ => .int
abbrev wsX20 : List Cond := u_ws RX2 TX2 5
theorem nmX2 : ∀ a, a < 5 → ∀ b, b < 5 → a ≠ b → (TX2 a).2.1 ≠ (TX2 b).2.1 := by decide +kernel
theorem tyX2_ok : ∀ k, k < 5 → parseFieldDescriptor (TX2 k).2.2.1 = some (tyX2 k) := by decide +kernel
abbrev cX2_init : ByteArray := prog_4_method_1_code
def yX2_init : MethodName := ⟨RX2, "<init>", "()V"⟩
abbrev cX2_search : ByteArray := prog_4_method_2_code
def yX2_search : MethodName := ⟨RX2, "search", "(LDragonTithe$Herd;II)V"⟩
abbrev cX2_rests : ByteArray := prog_4_method_3_code
def yX2_rests : MethodName := ⟨RX2, "rests", "(II)Z"⟩
abbrev cX2_lossOfOne : ByteArray := prog_4_method_4_code
def yX2_lossOfOne : MethodName := ⟨RX2, "lossOfOne", "(II)I"⟩
abbrev cX2_lossOfOther : ByteArray := prog_4_method_5_code
def yX2_lossOfOther : MethodName := ⟨RX2, "lossOfOther", "(II)I"⟩
abbrev cX2_takesFromOne : ByteArray := prog_4_method_6_code
def yX2_takesFromOne : MethodName := ⟨RX2, "takesFromOne", "(II)Z"⟩
def RX3 : String := "DragonTithe$Herd"
def TX3 : u_T := fun k => match k with
  | 0 => ("DragonTithe$Herd", "villages", "I", false)
  | 1 => ("DragonTithe$Herd", "lots", "I", false)
  | 2 => ("DragonTithe$Herd", "moon", "I", false)
  | 3 => ("DragonTithe$Herd", "growth", "I", false)
  | 4 => ("DragonTithe$Herd", "kind", "[I", true)
  | 5 => ("DragonTithe$Herd", "place", "[I", true)
  | 6 => ("DragonTithe$Herd", "heads", "[I", true)
  | _ => ("DragonTithe$Herd", "sight", "[I", true)
def tyX3 : Nat → FieldType := fun k => match k with
  | 0 => .int
  | 1 => .int
  | 2 => .int
  | 3 => .int
  | 4 => .array .int
  | 5 => .array .int
  | 6 => .array .int
  | _ => .array .int
abbrev wsX30 : List Cond := u_ws RX3 TX3 8
theorem nmX3 : ∀ a, a < 8 → ∀ b, b < 8 → a ≠ b → (TX3 a).2.1 ≠ (TX3 b).2.1 := by decide +kernel
theorem tyX3_ok : ∀ k, k < 8 → parseFieldDescriptor (TX3 k).2.2.1 = some (tyX3 k) := by decide +kernel
abbrev cX3_init : ByteArray := prog_5_method_1_code
def yX3_init : MethodName := ⟨RX3, "<init>", "()V"⟩
abbrev cX3_startAnew : ByteArray := prog_5_method_2_code
def yX3_startAnew : MethodName := ⟨RX3, "startAnew", "(I)V"⟩
abbrev cX3_become : ByteArray := prog_5_method_3_code
def yX3_become : MethodName := ⟨RX3, "become", "(LDragonTithe$Herd;)V"⟩
abbrev cX3_hasVillage : ByteArray := prog_5_method_4_code
def yX3_hasVillage : MethodName := ⟨RX3, "hasVillage", "(I)Z"⟩
abbrev cX3_hasPair : ByteArray := prog_5_method_5_code
def yX3_hasPair : MethodName := ⟨RX3, "hasPair", "(II)Z"⟩
abbrev cX3_hasLot : ByteArray := prog_5_method_6_code
def yX3_hasLot : MethodName := ⟨RX3, "hasLot", "(I)Z"⟩
abbrev cX3_hasClouds : ByteArray := prog_5_method_7_code
def yX3_hasClouds : MethodName := ⟨RX3, "hasClouds", "(I)Z"⟩
abbrev cX3_seenOf : ByteArray := prog_5_method_8_code
def yX3_seenOf : MethodName := ⟨RX3, "seenOf", "(I)I"⟩
abbrev cX3_takenOf : ByteArray := prog_5_method_9_code
def yX3_takenOf : MethodName := ⟨RX3, "takenOf", "(I)I"⟩
abbrev cX3_headsIn : ByteArray := prog_5_method_10_code
def yX3_headsIn : MethodName := ⟨RX3, "headsIn", "(I)I"⟩
abbrev cX3_sightOf : ByteArray := prog_5_method_11_code
def yX3_sightOf : MethodName := ⟨RX3, "sightOf", "(I)I"⟩
abbrev cX3_tollOf : ByteArray := prog_5_method_12_code
def yX3_tollOf : MethodName := ⟨RX3, "tollOf", "(I)I"⟩
abbrev cX3_look : ByteArray := prog_5_method_13_code
def yX3_look : MethodName := ⟨RX3, "look", "()V"⟩
abbrev cX3_greatestBut : ByteArray := prog_5_method_14_code
def yX3_greatestBut : MethodName := ⟨RX3, "greatestBut", "(I)I"⟩
abbrev cX3_greatestIn : ByteArray := prog_5_method_15_code
def yX3_greatestIn : MethodName := ⟨RX3, "greatestIn", "([III)I"⟩
abbrev cX3_takenFromLeague : ByteArray := prog_5_method_16_code
def yX3_takenFromLeague : MethodName := ⟨RX3, "takenFromLeague", "(I)I"⟩
abbrev cX3_fullMoon : ByteArray := prog_5_method_17_code
def yX3_fullMoon : MethodName := ⟨RX3, "fullMoon", "(IZ)I"⟩
abbrev cX3_takeFrom : ByteArray := prog_5_method_18_code
def yX3_takeFrom : MethodName := ⟨RX3, "takeFrom", "(I)I"⟩
abbrev cX3_growAll : ByteArray := prog_5_method_19_code
def yX3_growAll : MethodName := ⟨RX3, "growAll", "()V"⟩
def RX4 : String := "DragonTithe$Kind"
def TX4 : u_T := fun k => match k with
  | _ => ("", "", "", false)
def tyX4 : Nat → FieldType := fun k => match k with
  | _ => .int
abbrev wsX40 : List Cond := u_ws RX4 TX4 0
theorem nmX4 : ∀ a, a < 0 → ∀ b, b < 0 → a ≠ b → (TX4 a).2.1 ≠ (TX4 b).2.1 := by decide +kernel
theorem tyX4_ok : ∀ k, k < 0 → parseFieldDescriptor (TX4 k).2.2.1 = some (tyX4 k) := by decide +kernel
abbrev cX4_seen : ByteArray := prog_6_method_2_code
def yX4_seen : MethodName := ⟨RX4, "seen", "(III)I"⟩
abbrev cX4_taken : ByteArray := prog_6_method_3_code
def yX4_taken : MethodName := ⟨RX4, "taken", "(II)I"⟩
abbrev cX4_grows : ByteArray := prog_6_method_4_code
def yX4_grows : MethodName := ⟨RX4, "grows", "(I)Z"⟩
def RX5 : String := "DragonTithe$Moves"
def TX5 : u_T := fun k => match k with
  | 0 => ("DragonTithe$Moves", "herd", "LDragonTithe$Herd;", true)
  | 1 => ("DragonTithe$Moves", "clouds", "I", false)
  | 2 => ("DragonTithe$Moves", "sight", "[I", true)
  | 3 => ("DragonTithe$Moves", "toll", "[I", true)
  | 4 => ("DragonTithe$Moves", "best", "I", false)
  | 5 => ("DragonTithe$Moves", "first", "I", false)
  | _ => ("DragonTithe$Moves", "second", "I", false)
def tyX5 : Nat → FieldType := fun k => match k with
  | 0 => .object "DragonTithe$Herd"
  | 1 => .int
  | 2 => .array .int
  | 3 => .array .int
  | 4 => .int
  | 5 => .int
  | _ => .int
abbrev wsX50 : List Cond := u_ws RX5 TX5 7
theorem nmX5 : ∀ a, a < 7 → ∀ b, b < 7 → a ≠ b → (TX5 a).2.1 ≠ (TX5 b).2.1 := by decide +kernel
theorem tyX5_ok : ∀ k, k < 7 → parseFieldDescriptor (TX5 k).2.2.1 = some (tyX5 k) := by decide +kernel
abbrev cX5_init : ByteArray := prog_7_method_1_code
def yX5_init : MethodName := ⟨RX5, "<init>", "()V"⟩
abbrev cX5_search : ByteArray := prog_7_method_2_code
def yX5_search : MethodName := ⟨RX5, "search", "(LDragonTithe$Herd;II)V"⟩
abbrev cX5_tryTwoMoves : ByteArray := prog_7_method_3_code
def yX5_tryTwoMoves : MethodName := ⟨RX5, "tryTwoMoves", "()V"⟩
abbrev cX5_tryLastMove : ByteArray := prog_7_method_4_code
def yX5_tryLastMove : MethodName := ⟨RX5, "tryLastMove", "(II)V"⟩
abbrev cX5_weigh : ByteArray := prog_7_method_5_code
def yX5_weigh : MethodName := ⟨RX5, "weigh", "(II)V"⟩
abbrev cX5_shift : ByteArray := prog_7_method_6_code
def yX5_shift : MethodName := ⟨RX5, "shift", "(III)V"⟩
abbrev cX5_takenNow : ByteArray := prog_7_method_7_code
def yX5_takenNow : MethodName := ⟨RX5, "takenNow", "()I"⟩
def RX6 : String := "DragonTithe$Past"
def TX6 : u_T := fun k => match k with
  | 0 => ("DragonTithe$Past", "size", "I", false)
  | 1 => ("DragonTithe$Past", "moons", "[I", true)
  | _ => ("DragonTithe$Past", "heads", "[I", true)
def tyX6 : Nat → FieldType := fun k => match k with
  | 0 => .int
  | 1 => .array .int
  | _ => .array .int
abbrev wsX60 : List Cond := u_ws RX6 TX6 3
theorem nmX6 : ∀ a, a < 3 → ∀ b, b < 3 → a ≠ b → (TX6 a).2.1 ≠ (TX6 b).2.1 := by decide +kernel
theorem tyX6_ok : ∀ k, k < 3 → parseFieldDescriptor (TX6 k).2.2.1 = some (tyX6 k) := by decide +kernel
abbrev cX6_init : ByteArray := prog_8_method_1_code
def yX6_init : MethodName := ⟨RX6, "<init>", "()V"⟩
abbrev cX6_become : ByteArray := prog_8_method_2_code
def yX6_become : MethodName := ⟨RX6, "become", "(LDragonTithe$Past;)V"⟩
abbrev cX6_keep : ByteArray := prog_8_method_3_code
def yX6_keep : MethodName := ⟨RX6, "keep", "(LDragonTithe$Herd;)V"⟩
abbrev cX6_putBack : ByteArray := prog_8_method_4_code
def yX6_putBack : MethodName := ⟨RX6, "putBack", "(LDragonTithe$Herd;)I"⟩
def RX7 : String := "DragonTithe$Roads"
def TX7 : u_T := fun k => match k with
  | 0 => ("DragonTithe$Roads", "size", "I", false)
  | 1 => ("DragonTithe$Roads", "one", "[I", true)
  | 2 => ("DragonTithe$Roads", "other", "[I", true)
  | _ => ("DragonTithe$Roads", "guarded", "I", false)
def tyX7 : Nat → FieldType := fun k => match k with
  | 0 => .int
  | 1 => .array .int
  | 2 => .array .int
  | _ => .int
abbrev wsX70 : List Cond := u_ws RX7 TX7 4
theorem nmX7 : ∀ a, a < 4 → ∀ b, b < 4 → a ≠ b → (TX7 a).2.1 ≠ (TX7 b).2.1 := by decide +kernel
theorem tyX7_ok : ∀ k, k < 4 → parseFieldDescriptor (TX7 k).2.2.1 = some (tyX7 k) := by decide +kernel
abbrev cX7_init : ByteArray := prog_9_method_1_code
def yX7_init : MethodName := ⟨RX7, "<init>", "()V"⟩
abbrev cX7_startAnew : ByteArray := prog_9_method_2_code
def yX7_startAnew : MethodName := ⟨RX7, "startAnew", "()V"⟩
abbrev cX7_become : ByteArray := prog_9_method_3_code
def yX7_become : MethodName := ⟨RX7, "become", "(LDragonTithe$Roads;)V"⟩
abbrev cX7_add : ByteArray := prog_9_method_4_code
def yX7_add : MethodName := ⟨RX7, "add", "(II)I"⟩
abbrev cX7_isGuarded : ByteArray := prog_9_method_5_code
def yX7_isGuarded : MethodName := ⟨RX7, "isGuarded", "(I)Z"⟩
abbrev cX7_shortestWay : ByteArray := prog_9_method_6_code
def yX7_shortestWay : MethodName := ⟨RX7, "shortestWay", "(II)I"⟩
abbrev cX7_sideOf : ByteArray := prog_9_method_7_code
def yX7_sideOf : MethodName := ⟨RX7, "sideOf", "(II)I"⟩
abbrev cX7_fewestGuards : ByteArray := prog_9_method_8_code
def yX7_fewestGuards : MethodName := ⟨RX7, "fewestGuards", "(II)I"⟩
abbrev cX7_spread : ByteArray := prog_9_method_9_code
def yX7_spread : MethodName := ⟨RX7, "spread", "(II)I"⟩
def RX8 : String := "DragonTithe$Scroll"
def TX8 : u_T := fun k => match k with
  | 0 => ("DragonTithe$Scroll", "text", "[C", true)
  | 1 => ("DragonTithe$Scroll", "length", "I", false)
  | 2 => ("DragonTithe$Scroll", "items", "I", false)
  | 3 => ("DragonTithe$Scroll", "word", "[I", true)
  | 4 => ("DragonTithe$Scroll", "numbers", "[I", true)
  | 5 => ("DragonTithe$Scroll", "place", "I", false)
  | 6 => ("DragonTithe$Scroll", "behind", "I", false)
  | 7 => ("DragonTithe$Scroll", "sort", "I", false)
  | _ => ("DragonTithe$Scroll", "value", "I", false)
def tyX8 : Nat → FieldType := fun k => match k with
  | 0 => .array .char
  | 1 => .int
  | 2 => .int
  | 3 => .array .int
  | 4 => .array .int
  | 5 => .int
  | 6 => .int
  | 7 => .int
  | _ => .int
abbrev wsX80 : List Cond := u_ws RX8 TX8 9
theorem nmX8 : ∀ a, a < 9 → ∀ b, b < 9 → a ≠ b → (TX8 a).2.1 ≠ (TX8 b).2.1 := by decide +kernel
theorem tyX8_ok : ∀ k, k < 9 → parseFieldDescriptor (TX8 k).2.2.1 = some (tyX8 k) := by decide +kernel
abbrev cX8_init : ByteArray := prog_10_method_1_code
def yX8_init : MethodName := ⟨RX8, "<init>", "()V"⟩
abbrev cX8_append : ByteArray := prog_10_method_2_code
def yX8_append : MethodName := ⟨RX8, "append", "(I)I"⟩
abbrev cX8_numberOf : ByteArray := prog_10_method_3_code
def yX8_numberOf : MethodName := ⟨RX8, "numberOf", "(II)I"⟩
abbrev cX8_parse : ByteArray := prog_10_method_4_code
def yX8_parse : MethodName := ⟨RX8, "parse", "()I"⟩
abbrev cX8_parseItem : ByteArray := prog_10_method_5_code
def yX8_parseItem : MethodName := ⟨RX8, "parseItem", "(I)Z"⟩
abbrev cX8_step : ByteArray := prog_10_method_6_code
def yX8_step : MethodName := ⟨RX8, "step", "()V"⟩
abbrev cX8_stepOverWord : ByteArray := prog_10_method_7_code
def yX8_stepOverWord : MethodName := ⟨RX8, "stepOverWord", "()V"⟩
abbrev cX8_stepOverNumber : ByteArray := prog_10_method_8_code
def yX8_stepOverNumber : MethodName := ⟨RX8, "stepOverNumber", "()V"⟩
abbrev cX8_tokenIs : ByteArray := prog_10_method_9_code
def yX8_tokenIs : MethodName := ⟨RX8, "tokenIs", "(Ljava/lang/String;)Z"⟩
abbrev cX8_isLetter : ByteArray := prog_10_method_10_code
def yX8_isLetter : MethodName := ⟨RX8, "isLetter", "(I)Z"⟩
abbrev cX8_isFigure : ByteArray := prog_10_method_11_code
def yX8_isFigure : MethodName := ⟨RX8, "isFigure", "(I)Z"⟩
abbrev cX8_nameOf : ByteArray := prog_10_method_12_code
def yX8_nameOf : MethodName := ⟨RX8, "nameOf", "(I)Ljava/lang/String;"⟩
def RX9 : String := "DragonTithe$Weather"
def TX9 : u_T := fun k => match k with
  | 0 => ("DragonTithe$Weather", "sight", "[I", true)
  | 1 => ("DragonTithe$Weather", "toll", "[I", true)
  | 2 => ("DragonTithe$Weather", "weight", "[J", true)
  | 3 => ("DragonTithe$Weather", "whole", "J", false)
  | _ => ("DragonTithe$Weather", "villages", "I", false)
def tyX9 : Nat → FieldType := fun k => match k with
  | 0 => .array .int
  | 1 => .array .int
  | 2 => .array .long
  | 3 => .long
  | _ => .int
abbrev wsX90 : List Cond := u_ws RX9 TX9 5
theorem nmX9 : ∀ a, a < 5 → ∀ b, b < 5 → a ≠ b → (TX9 a).2.1 ≠ (TX9 b).2.1 := by decide +kernel
theorem tyX9_ok : ∀ k, k < 5 → parseFieldDescriptor (TX9 k).2.2.1 = some (tyX9 k) := by decide +kernel
abbrev cX9_init : ByteArray := prog_11_method_1_code
def yX9_init : MethodName := ⟨RX9, "<init>", "()V"⟩
abbrev cX9_foresee : ByteArray := prog_11_method_2_code
def yX9_foresee : MethodName := ⟨RX9, "foresee", "(LDragonTithe$County;II)V"⟩
abbrev cX9_casesOf : ByteArray := prog_11_method_3_code
def yX9_casesOf : MethodName := ⟨RX9, "casesOf", "(I[I)J"⟩
abbrev cX9_lossOf : ByteArray := prog_11_method_4_code
def yX9_lossOf : MethodName := ⟨RX9, "lossOf", "(I)J"⟩
abbrev cX9_lossOfAll : ByteArray := prog_11_method_5_code
def yX9_lossOfAll : MethodName := ⟨RX9, "lossOfAll", "()J"⟩
abbrev cX9_bestPainting : ByteArray := prog_11_method_6_code
def yX9_bestPainting : MethodName := ⟨RX9, "bestPainting", "(LDragonTithe$County;II)I"⟩
def RX10 : String := "DragonTithe"
def TX10 : u_T := fun k => match k with
  | 0 => ("DragonTithe", "now", "LDragonTithe$County;", true)
  | 1 => ("DragonTithe", "images", "[LDragonTithe$County;", true)
  | 2 => ("DragonTithe", "kept", "[Z", true)
  | 3 => ("DragonTithe", "scroll", "LDragonTithe$Scroll;", true)
  | 4 => ("DragonTithe", "trial", "LDragonTithe$County;", true)
  | 5 => ("DragonTithe", "trialHerd", "LDragonTithe$Herd;", true)
  | 6 => ("DragonTithe", "weather", "LDragonTithe$Weather;", true)
  | 7 => ("DragonTithe", "moves", "LDragonTithe$Moves;", true)
  | 8 => ("DragonTithe", "play", "LDragonTithe$Game;", true)
  | 9 => ("DragonTithe", "fits", "LDragonTithe$Fit;", true)
  | 10 => ("DragonTithe", "above", "J", false)
  | 11 => ("DragonTithe", "below", "J", false)
  | 12 => ("DragonTithe", "refusedBad", "I", false)
  | 13 => ("DragonTithe", "refusedNo", "I", false)
  | _ => ("DragonTithe", "refusedFull", "I", false)
def tyX10 : Nat → FieldType := fun k => match k with
  | 0 => .object "DragonTithe$County"
  | 1 => .array (.object "DragonTithe$County")
  | 2 => .array .boolean
  | 3 => .object "DragonTithe$Scroll"
  | 4 => .object "DragonTithe$County"
  | 5 => .object "DragonTithe$Herd"
  | 6 => .object "DragonTithe$Weather"
  | 7 => .object "DragonTithe$Moves"
  | 8 => .object "DragonTithe$Game"
  | 9 => .object "DragonTithe$Fit"
  | 10 => .long
  | 11 => .long
  | 12 => .int
  | 13 => .int
  | _ => .int
abbrev wsX100 : List Cond := u_ws RX10 TX10 15
theorem nmX10 : ∀ a, a < 15 → ∀ b, b < 15 → a ≠ b → (TX10 a).2.1 ≠ (TX10 b).2.1 := by decide +kernel
theorem tyX10_ok : ∀ k, k < 15 → parseFieldDescriptor (TX10 k).2.2.1 = some (tyX10 k) := by decide +kernel
abbrev cX10_init : ByteArray := prog_1_method_1_code
def yX10_init : MethodName := ⟨RX10, "<init>", "()V"⟩
abbrev cX10_county : ByteArray := prog_1_method_2_code
def yX10_county : MethodName := ⟨RX10, "county", "(I)I"⟩
abbrev cX10_lot : ByteArray := prog_1_method_3_code
def yX10_lot : MethodName := ⟨RX10, "lot", "(III)I"⟩
abbrev cX10_move : ByteArray := prog_1_method_4_code
def yX10_move : MethodName := ⟨RX10, "move", "(II)I"⟩
abbrev cX10_drive : ByteArray := prog_1_method_5_code
def yX10_drive : MethodName := ⟨RX10, "drive", "(III)I"⟩
abbrev cX10_drop : ByteArray := prog_1_method_6_code
def yX10_drop : MethodName := ⟨RX10, "drop", "()I"⟩
abbrev cX10_growth : ByteArray := prog_1_method_7_code
def yX10_growth : MethodName := ⟨RX10, "growth", "(I)I"⟩
abbrev cX10_cloud : ByteArray := prog_1_method_8_code
def yX10_cloud : MethodName := ⟨RX10, "cloud", "(II)I"⟩
abbrev cX10_road : ByteArray := prog_1_method_9_code
def yX10_road : MethodName := ⟨RX10, "road", "(II)I"⟩
abbrev cX10_guard : ByteArray := prog_1_method_10_code
def yX10_guard : MethodName := ⟨RX10, "guard", "(IZ)I"⟩
abbrev cX10_type : ByteArray := prog_1_method_11_code
def yX10_type : MethodName := ⟨RX10, "type", "(I)I"⟩
abbrev cX10_clear : ByteArray := prog_1_method_12_code
def yX10_clear : MethodName := ⟨RX10, "clear", "()I"⟩
abbrev cX10_read : ByteArray := prog_1_method_13_code
def yX10_read : MethodName := ⟨RX10, "read", "()I"⟩
abbrev cX10_moon : ByteArray := prog_1_method_14_code
def yX10_moon : MethodName := ⟨RX10, "moon", "(IZ)I"⟩
abbrev cX10_undo : ByteArray := prog_1_method_15_code
def yX10_undo : MethodName := ⟨RX10, "undo", "()I"⟩
abbrev cX10_of : ByteArray := prog_1_method_16_code
def yX10_of : MethodName := ⟨RX10, "of", "(II)I"⟩
abbrev cX10_village : ByteArray := prog_1_method_17_code
def yX10_village : MethodName := ⟨RX10, "village", "(II)I"⟩
abbrev cX10_greatest : ByteArray := prog_1_method_18_code
def yX10_greatest : MethodName := ⟨RX10, "greatest", "(I)I"⟩
abbrev cX10_least : ByteArray := prog_1_method_19_code
def yX10_least : MethodName := ⟨RX10, "least", "(III)I"⟩
abbrev cX10_chance : ByteArray := prog_1_method_20_code
def yX10_chance : MethodName := ⟨RX10, "chance", "(I)I"⟩
abbrev cX10_mean : ByteArray := prog_1_method_21_code
def yX10_mean : MethodName := ⟨RX10, "mean", "(I)I"⟩
abbrev cX10_painting : ByteArray := prog_1_method_22_code
def yX10_painting : MethodName := ⟨RX10, "painting", "(II)I"⟩
abbrev cX10_unseen : ByteArray := prog_1_method_23_code
def yX10_unseen : MethodName := ⟨RX10, "unseen", "(II)I"⟩
abbrev cX10_cut : ByteArray := prog_1_method_24_code
def yX10_cut : MethodName := ⟨RX10, "cut", "(III)I"⟩
abbrev cX10_game : ByteArray := prog_1_method_25_code
def yX10_game : MethodName := ⟨RX10, "game", "(III)I"⟩
abbrev cX10_league : ByteArray := prog_1_method_26_code
def yX10_league : MethodName := ⟨RX10, "league", "(I)I"⟩
abbrev cX10_share : ByteArray := prog_1_method_27_code
def yX10_share : MethodName := ⟨RX10, "share", "(I)I"⟩
abbrev cX10_pays : ByteArray := prog_1_method_28_code
def yX10_pays : MethodName := ⟨RX10, "pays", "(II)I"⟩
abbrev cX10_told : ByteArray := prog_1_method_29_code
def yX10_told : MethodName := ⟨RX10, "told", "(II)I"⟩
abbrev cX10_fit : ByteArray := prog_1_method_30_code
def yX10_fit : MethodName := ⟨RX10, "fit", "(II)I"⟩
abbrev cX10_drawn : ByteArray := prog_1_method_31_code
def yX10_drawn : MethodName := ⟨RX10, "drawn", "(II)I"⟩
abbrev cX10_part : ByteArray := prog_1_method_32_code
def yX10_part : MethodName := ⟨RX10, "part", "(I)J"⟩
abbrev cX10_image : ByteArray := prog_1_method_33_code
def yX10_image : MethodName := ⟨RX10, "image", "(I)I"⟩
abbrev cX10_from : ByteArray := prog_1_method_34_code
def yX10_from : MethodName := ⟨RX10, "from", "(I)I"⟩
abbrev cX10_status : ByteArray := prog_1_method_35_code
def yX10_status : MethodName := ⟨RX10, "status", "(I)I"⟩
abbrev cX10_count : ByteArray := prog_1_method_36_code
def yX10_count : MethodName := ⟨RX10, "count", "(I)I"⟩
abbrev cX10_digest : ByteArray := prog_1_method_37_code
def yX10_digest : MethodName := ⟨RX10, "digest", "()J"⟩
abbrev cX10_tally : ByteArray := prog_1_method_38_code
def yX10_tally : MethodName := ⟨RX10, "tally", "(I)I"⟩
abbrev cX10_refuseAsBad : ByteArray := prog_1_method_39_code
def yX10_refuseAsBad : MethodName := ⟨RX10, "refuseAsBad", "(I)I"⟩
abbrev cX10_howMany : ByteArray := prog_1_method_40_code
def yX10_howMany : MethodName := ⟨RX10, "howMany", "(I)I"⟩
abbrev cX10_tellItem : ByteArray := prog_1_method_41_code
def yX10_tellItem : MethodName := ⟨RX10, "tellItem", "(I)I"⟩
abbrev cX10_ordersWith : ByteArray := prog_1_method_42_code
def yX10_ordersWith : MethodName := ⟨RX10, "ordersWith", "(II)J"⟩
abbrev cX10_setFraction : ByteArray := prog_1_method_43_code
def yX10_setFraction : MethodName := ⟨RX10, "setFraction", "(JJ)V"⟩
abbrev cX10_commonDivisor : ByteArray := prog_1_method_44_code
def yX10_commonDivisor : MethodName := ⟨RX10, "commonDivisor", "(JJ)J"⟩
def RX11 : String := "DragonTitheModel"
def TX11 : u_T := fun k => match k with
  | 0 => ("DragonTitheModel", "book", "[I", true)
  | 1 => ("DragonTitheModel", "images", "[I", true)
  | 2 => ("DragonTitheModel", "kept", "[Z", true)
  | 3 => ("DragonTitheModel", "aside", "[I", true)
  | 4 => ("DragonTitheModel", "refused", "[I", true)
  | 5 => ("DragonTitheModel", "quiet", "Z", false)
  | 6 => ("DragonTitheModel", "above", "J", false)
  | 7 => ("DragonTitheModel", "below", "J", false)
  | 8 => ("DragonTitheModel", "text", "[I", true)
  | 9 => ("DragonTitheModel", "typed", "I", false)
  | 10 => ("DragonTitheModel", "at", "I", false)
  | 11 => ("DragonTitheModel", "start", "I", false)
  | 12 => ("DragonTitheModel", "token", "I", false)
  | 13 => ("DragonTitheModel", "value", "I", false)
  | 14 => ("DragonTitheModel", "items", "[I", true)
  | 15 => ("DragonTitheModel", "many", "I", false)
  | 16 => ("DragonTitheModel", "so", "[I", true)
  | 17 => ("DragonTitheModel", "leastTaken", "I", false)
  | 18 => ("DragonTitheModel", "firstMove", "I", false)
  | _ => ("DragonTitheModel", "secondMove", "I", false)
def tyX11 : Nat → FieldType := fun k => match k with
  | 0 => .array .int
  | 1 => .array .int
  | 2 => .array .boolean
  | 3 => .array .int
  | 4 => .array .int
  | 5 => .boolean
  | 6 => .long
  | 7 => .long
  | 8 => .array .int
  | 9 => .int
  | 10 => .int
  | 11 => .int
  | 12 => .int
  | 13 => .int
  | 14 => .array .int
  | 15 => .int
  | 16 => .array .int
  | 17 => .int
  | 18 => .int
  | _ => .int
abbrev wsX110 : List Cond := u_ws RX11 TX11 20
theorem nmX11 : ∀ a, a < 20 → ∀ b, b < 20 → a ≠ b → (TX11 a).2.1 ≠ (TX11 b).2.1 := by decide +kernel
theorem tyX11_ok : ∀ k, k < 20 → parseFieldDescriptor (TX11 k).2.2.1 = some (tyX11 k) := by decide +kernel
abbrev cX11_in : ByteArray := prog_13_method_2_code
def yX11_in : MethodName := ⟨RX11, "in", "(JJJ)Z"⟩
abbrev cX11_init : ByteArray := prog_13_method_3_code
def yX11_init : MethodName := ⟨RX11, "<init>", "()V"⟩
abbrev cX11_begins : ByteArray := prog_13_method_4_code
def yX11_begins : MethodName := ⟨RX11, "begins", "(I)V"⟩
abbrev cX11_refuses : ByteArray := prog_13_method_5_code
def yX11_refuses : MethodName := ⟨RX11, "refuses", "(II)I"⟩
abbrev cX11_bad : ByteArray := prog_13_method_6_code
def yX11_bad : MethodName := ⟨RX11, "bad", "()I"⟩
abbrev cX11_no : ByteArray := prog_13_method_7_code
def yX11_no : MethodName := ⟨RX11, "no", "()I"⟩
abbrev cX11_full : ByteArray := prog_13_method_8_code
def yX11_full : MethodName := ⟨RX11, "full", "()I"⟩
abbrev cX11_isVillage : ByteArray := prog_13_method_9_code
def yX11_isVillage : MethodName := ⟨RX11, "isVillage", "(I)Z"⟩
abbrev cX11_isLot : ByteArray := prog_13_method_10_code
def yX11_isLot : MethodName := ⟨RX11, "isLot", "(I)Z"⟩
abbrev cX11_areTwo : ByteArray := prog_13_method_11_code
def yX11_areTwo : MethodName := ⟨RX11, "areTwo", "(II)Z"⟩
abbrev cX11_isSet : ByteArray := prog_13_method_12_code
def yX11_isSet : MethodName := ⟨RX11, "isSet", "(I)Z"⟩
abbrev cX11_puts : ByteArray := prog_13_method_13_code
def yX11_puts : MethodName := ⟨RX11, "puts", "(II)I"⟩
abbrev cX11_county : ByteArray := prog_13_method_14_code
def yX11_county : MethodName := ⟨RX11, "county", "(I)I"⟩
abbrev cX11_lot : ByteArray := prog_13_method_15_code
def yX11_lot : MethodName := ⟨RX11, "lot", "(III)I"⟩
abbrev cX11_move : ByteArray := prog_13_method_16_code
def yX11_move : MethodName := ⟨RX11, "move", "(II)I"⟩
abbrev cX11_remembers : ByteArray := prog_13_method_17_code
def yX11_remembers : MethodName := ⟨RX11, "remembers", "()V"⟩
abbrev cX11_drive : ByteArray := prog_13_method_18_code
def yX11_drive : MethodName := ⟨RX11, "drive", "(III)I"⟩
abbrev cX11_drop : ByteArray := prog_13_method_19_code
def yX11_drop : MethodName := ⟨RX11, "drop", "()I"⟩
abbrev cX11_growth : ByteArray := prog_13_method_20_code
def yX11_growth : MethodName := ⟨RX11, "growth", "(I)I"⟩
abbrev cX11_cloud : ByteArray := prog_13_method_21_code
def yX11_cloud : MethodName := ⟨RX11, "cloud", "(II)I"⟩
abbrev cX11_road : ByteArray := prog_13_method_22_code
def yX11_road : MethodName := ⟨RX11, "road", "(II)I"⟩
abbrev cX11_guard : ByteArray := prog_13_method_23_code
def yX11_guard : MethodName := ⟨RX11, "guard", "(IZ)I"⟩
abbrev cX11_type : ByteArray := prog_13_method_24_code
def yX11_type : MethodName := ⟨RX11, "type", "(I)I"⟩
abbrev cX11_clear : ByteArray := prog_13_method_25_code
def yX11_clear : MethodName := ⟨RX11, "clear", "()I"⟩
abbrev cX11_isAt : ByteArray := prog_13_method_26_code
def yX11_isAt : MethodName := ⟨RX11, "isAt", "(II)Z"⟩
abbrev cX11_verbOf : ByteArray := prog_13_method_27_code
def yX11_verbOf : MethodName := ⟨RX11, "verbOf", "(J)I"⟩
abbrev cX11_scans : ByteArray := prog_13_method_28_code
def yX11_scans : MethodName := ⟨RX11, "scans", "()V"⟩
abbrev cX11_numbers : ByteArray := prog_13_method_29_code
def yX11_numbers : MethodName := ⟨RX11, "numbers", "(I)I"⟩
abbrev cX11_reads : ByteArray := prog_13_method_30_code
def yX11_reads : MethodName := ⟨RX11, "reads", "()Z"⟩
abbrev cX11_tellsItem : ByteArray := prog_13_method_31_code
def yX11_tellsItem : MethodName := ⟨RX11, "tellsItem", "(I)Z"⟩
abbrev cX11_read : ByteArray := prog_13_method_32_code
def yX11_read : MethodName := ⟨RX11, "read", "()I"⟩
abbrev cX11_asNow : ByteArray := prog_13_method_33_code
def yX11_asNow : MethodName := ⟨RX11, "asNow", "()V"⟩
abbrev cX11_seenOf : ByteArray := prog_13_method_34_code
def yX11_seenOf : MethodName := ⟨RX11, "seenOf", "(III)I"⟩
abbrev cX11_takenOf : ByteArray := prog_13_method_35_code
def yX11_takenOf : MethodName := ⟨RX11, "takenOf", "(II)I"⟩
abbrev cX11_sightOf : ByteArray := prog_13_method_36_code
def yX11_sightOf : MethodName := ⟨RX11, "sightOf", "(II)I"⟩
abbrev cX11_greatestOf : ByteArray := prog_13_method_37_code
def yX11_greatestOf : MethodName := ⟨RX11, "greatestOf", "(IIII)I"⟩
abbrev cX11_all : ByteArray := prog_13_method_38_code
def yX11_all : MethodName := ⟨RX11, "all", "()I"⟩
abbrev cX11_tithe : ByteArray := prog_13_method_39_code
def yX11_tithe : MethodName := ⟨RX11, "tithe", "(I)I"⟩
abbrev cX11_goes : ByteArray := prog_13_method_40_code
def yX11_goes : MethodName := ⟨RX11, "goes", "(IZII)I"⟩
abbrev cX11_moon : ByteArray := prog_13_method_41_code
def yX11_moon : MethodName := ⟨RX11, "moon", "(IZ)I"⟩
abbrev cX11_undo : ByteArray := prog_13_method_42_code
def yX11_undo : MethodName := ⟨RX11, "undo", "()I"⟩
abbrev cX11_of : ByteArray := prog_13_method_43_code
def yX11_of : MethodName := ⟨RX11, "of", "(II)I"⟩
abbrev cX11_headsOf : ByteArray := prog_13_method_44_code
def yX11_headsOf : MethodName := ⟨RX11, "headsOf", "(I)I"⟩
abbrev cX11_village : ByteArray := prog_13_method_45_code
def yX11_village : MethodName := ⟨RX11, "village", "(II)I"⟩
abbrev cX11_greatest : ByteArray := prog_13_method_46_code
def yX11_greatest : MethodName := ⟨RX11, "greatest", "(I)I"⟩
abbrev cX11_takenNow : ByteArray := prog_13_method_47_code
def yX11_takenNow : MethodName := ⟨RX11, "takenNow", "(I)I"⟩
abbrev cX11_tries : ByteArray := prog_13_method_48_code
def yX11_tries : MethodName := ⟨RX11, "tries", "(III)V"⟩
abbrev cX11_least : ByteArray := prog_13_method_49_code
def yX11_least : MethodName := ⟨RX11, "least", "(III)I"⟩
abbrev cX11_divisor : ByteArray := prog_13_method_50_code
def yX11_divisor : MethodName := ⟨RX11, "divisor", "(JJ)J"⟩
abbrev cX11_keeps : ByteArray := prog_13_method_51_code
def yX11_keeps : MethodName := ⟨RX11, "keeps", "(JJ)I"⟩
abbrev cX11_whole : ByteArray := prog_13_method_52_code
def yX11_whole : MethodName := ⟨RX11, "whole", "()J"⟩
abbrev cX11_waysOf : ByteArray := prog_13_method_53_code
def yX11_waysOf : MethodName := ⟨RX11, "waysOf", "(I)J"⟩
abbrev cX11_chance : ByteArray := prog_13_method_54_code
def yX11_chance : MethodName := ⟨RX11, "chance", "(I)I"⟩
abbrev cX11_meanOf : ByteArray := prog_13_method_55_code
def yX11_meanOf : MethodName := ⟨RX11, "meanOf", "(III)J"⟩
abbrev cX11_mean : ByteArray := prog_13_method_56_code
def yX11_mean : MethodName := ⟨RX11, "mean", "(I)I"⟩
abbrev cX11_painting : ByteArray := prog_13_method_57_code
def yX11_painting : MethodName := ⟨RX11, "painting", "(II)I"⟩
abbrev cX11_steps : ByteArray := prog_13_method_58_code
def yX11_steps : MethodName := ⟨RX11, "steps", "(II)I"⟩
abbrev cX11_openRoads : ByteArray := prog_13_method_59_code
def yX11_openRoads : MethodName := ⟨RX11, "openRoads", "()I"⟩
abbrev cX11_unseen : ByteArray := prog_13_method_60_code
def yX11_unseen : MethodName := ⟨RX11, "unseen", "(II)I"⟩
abbrev cX11_reaches : ByteArray := prog_13_method_61_code
def yX11_reaches : MethodName := ⟨RX11, "reaches", "(II)I"⟩
abbrev cX11_bits : ByteArray := prog_13_method_62_code
def yX11_bits : MethodName := ⟨RX11, "bits", "(I)I"⟩
abbrev cX11_cut : ByteArray := prog_13_method_63_code
def yX11_cut : MethodName := ⟨RX11, "cut", "(III)I"⟩
abbrev cX11_loss : ByteArray := prog_13_method_64_code
def yX11_loss : MethodName := ⟨RX11, "loss", "(IIIIZ)I"⟩
abbrev cX11_game : ByteArray := prog_13_method_65_code
def yX11_game : MethodName := ⟨RX11, "game", "(III)I"⟩
abbrev cX11_league : ByteArray := prog_13_method_66_code
def yX11_league : MethodName := ⟨RX11, "league", "(I)I"⟩
abbrev cX11_orders : ByteArray := prog_13_method_67_code
def yX11_orders : MethodName := ⟨RX11, "orders", "(I)I"⟩
abbrev cX11_share : ByteArray := prog_13_method_68_code
def yX11_share : MethodName := ⟨RX11, "share", "(I)I"⟩
abbrev cX11_pays : ByteArray := prog_13_method_69_code
def yX11_pays : MethodName := ⟨RX11, "pays", "(II)I"⟩
abbrev cX11_told : ByteArray := prog_13_method_70_code
def yX11_told : MethodName := ⟨RX11, "told", "(II)I"⟩
abbrev cX11_fit : ByteArray := prog_13_method_71_code
def yX11_fit : MethodName := ⟨RX11, "fit", "(II)I"⟩
abbrev cX11_drawn : ByteArray := prog_13_method_72_code
def yX11_drawn : MethodName := ⟨RX11, "drawn", "(II)I"⟩
abbrev cX11_part : ByteArray := prog_13_method_73_code
def yX11_part : MethodName := ⟨RX11, "part", "(I)J"⟩
abbrev cX11_image : ByteArray := prog_13_method_74_code
def yX11_image : MethodName := ⟨RX11, "image", "(I)I"⟩
abbrev cX11_from : ByteArray := prog_13_method_75_code
def yX11_from : MethodName := ⟨RX11, "from", "(I)I"⟩
abbrev cX11_status : ByteArray := prog_13_method_76_code
def yX11_status : MethodName := ⟨RX11, "status", "(I)I"⟩
abbrev cX11_countOf : ByteArray := prog_13_method_77_code
def yX11_countOf : MethodName := ⟨RX11, "countOf", "(I)I"⟩
abbrev cX11_count : ByteArray := prog_13_method_78_code
def yX11_count : MethodName := ⟨RX11, "count", "(I)I"⟩
abbrev cX11_mixed : ByteArray := prog_13_method_79_code
def yX11_mixed : MethodName := ⟨RX11, "mixed", "(JII)J"⟩
abbrev cX11_digest : ByteArray := prog_13_method_80_code
def yX11_digest : MethodName := ⟨RX11, "digest", "()J"⟩
def RJ6 : String := "java/lang/Integer"
def TJ6 : u_T := fun k => match k with
  | _ => ("", "", "", false)
def tyJ6 : Nat → FieldType := fun k => match k with
  | _ => .int
abbrev wsJ60 : List Cond := u_ws RJ6 TJ6 0
theorem nmJ6 : ∀ a, a < 0 → ∀ b, b < 0 → a ≠ b → (TJ6 a).2.1 ≠ (TJ6 b).2.1 := by decide +kernel
theorem tyJ6_ok : ∀ k, k < 0 → parseFieldDescriptor (TJ6 k).2.2.1 = some (tyJ6 k) := by decide +kernel
abbrev cJ6_bitCount_0f7a4 : ByteArray := prog_14_method_49_code
def yJ6_bitCount_0f7a4 : MethodName := ⟨RJ6, "bitCount", "(I)I"⟩
def RJ9 : String := "java/lang/Math"
def TJ9 : u_T := fun k => match k with
  | _ => ("", "", "", false)
def tyJ9 : Nat → FieldType := fun k => match k with
  | _ => .int
abbrev wsJ90 : List Cond := u_ws RJ9 TJ9 0
theorem nmJ9 : ∀ a, a < 0 → ∀ b, b < 0 → a ≠ b → (TJ9 a).2.1 ≠ (TJ9 b).2.1 := by decide +kernel
theorem tyJ9_ok : ∀ k, k < 0 → parseFieldDescriptor (TJ9 k).2.2.1 = some (tyJ9 k) := by decide +kernel
abbrev cJ9_abs_067f4 : ByteArray := prog_15_method_61_code
def yJ9_abs_067f4 : MethodName := ⟨RJ9, "abs", "(J)J"⟩
abbrev cJ9_min_7cf53 : ByteArray := prog_15_method_69_code
def yJ9_min_7cf53 : MethodName := ⟨RJ9, "min", "(II)I"⟩
def RJ0 : String := "java/lang/String"
def TJ0 : u_T := fun k => match k with
  | _ => ("", "", "", false)
def tyJ0 : Nat → FieldType := fun k => match k with
  | _ => .int
abbrev wsJ00 : List Cond := u_ws RJ0 TJ0 0
theorem nmJ0 : ∀ a, a < 0 → ∀ b, b < 0 → a ≠ b → (TJ0 a).2.1 ≠ (TJ0 b).2.1 := by decide +kernel
theorem tyJ0_ok : ∀ k, k < 0 → parseFieldDescriptor (TJ0 k).2.2.1 = some (tyJ0 k) := by decide +kernel
abbrev cJ0_length_8abf5 : ByteArray := prog_16_method_54_code
def yJ0_length_8abf5 : MethodName := ⟨RJ0, "length", "()I"⟩
abbrev cJ0_charAt_5068e : ByteArray := prog_16_method_56_code
def yJ0_charAt_5068e : MethodName := ⟨RJ0, "charAt", "(I)C"⟩
abbrev cJ0_coder_7d493 : ByteArray := prog_16_method_152_code
def yJ0_coder_7d493 : MethodName := ⟨RJ0, "coder", "()B"⟩
abbrev cJ0_isLatin1_aae02 : ByteArray := prog_16_method_154_code
def yJ0_isLatin1_aae02 : MethodName := ⟨RJ0, "isLatin1", "()Z"⟩
abbrev cJ0_checkIndex_df160 : ByteArray := prog_16_method_155_code
def yJ0_checkIndex_df160 : MethodName := ⟨RJ0, "checkIndex", "(II)V"⟩
def RJ1 : String := "java/lang/StringLatin1"
def TJ1 : u_T := fun k => match k with
  | _ => ("", "", "", false)
def tyJ1 : Nat → FieldType := fun k => match k with
  | _ => .int
abbrev wsJ10 : List Cond := u_ws RJ1 TJ1 0
theorem nmJ1 : ∀ a, a < 0 → ∀ b, b < 0 → a ≠ b → (TJ1 a).2.1 ≠ (TJ1 b).2.1 := by decide +kernel
theorem tyJ1_ok : ∀ k, k < 0 → parseFieldDescriptor (TJ1 k).2.2.1 = some (tyJ1 k) := by decide +kernel
abbrev cJ1_charAt_3b067 : ByteArray := prog_17_method_2_code
def yJ1_charAt_3b067 : MethodName := ⟨RJ1, "charAt", "([BI)C"⟩
def RJ2 : String := "java/lang/StringUTF16"
def TJ2 : u_T := fun k => match k with
  | _ => ("", "", "", false)
def tyJ2 : Nat → FieldType := fun k => match k with
  | _ => .int
abbrev wsJ20 : List Cond := u_ws RJ2 TJ2 0
theorem nmJ2 : ∀ a, a < 0 → ∀ b, b < 0 → a ≠ b → (TJ2 a).2.1 ≠ (TJ2 b).2.1 := by decide +kernel
theorem tyJ2_ok : ∀ k, k < 0 → parseFieldDescriptor (TJ2 k).2.2.1 = some (tyJ2 k) := by decide +kernel
abbrev cJ2_getChar_3b067 : ByteArray := prog_18_method_5_code
def yJ2_getChar_3b067 : MethodName := ⟨RJ2, "getChar", "([BI)C"⟩
abbrev cJ2_length_9d52b : ByteArray := prog_18_method_6_code
def yJ2_length_9d52b : MethodName := ⟨RJ2, "length", "([B)I"⟩
abbrev cJ2_charAt_3b067 : ByteArray := prog_18_method_83_code
def yJ2_charAt_3b067 : MethodName := ⟨RJ2, "charAt", "([BI)C"⟩
abbrev cJ2_checkIndex_2214a : ByteArray := prog_18_method_91_code
def yJ2_checkIndex_2214a : MethodName := ⟨RJ2, "checkIndex", "(I[B)V"⟩
def RJ10 : String := "java/lang/System"
def TJ10 : u_T := fun k => match k with
  | _ => ("", "", "", false)
def tyJ10 : Nat → FieldType := fun k => match k with
  | _ => .int
abbrev wsJ100 : List Cond := u_ws RJ10 TJ10 0
theorem nmJ10 : ∀ a, a < 0 → ∀ b, b < 0 → a ≠ b → (TJ10 a).2.1 ≠ (TJ10 b).2.1 := by decide +kernel
theorem tyJ10_ok : ∀ k, k < 0 → parseFieldDescriptor (TJ10 k).2.2.1 = some (tyJ10 k) := by decide +kernel
def RJ3 : String := "jdk/internal/util/Preconditions"
def TJ3 : u_T := fun k => match k with
  | _ => ("", "", "", false)
def tyJ3 : Nat → FieldType := fun k => match k with
  | _ => .int
abbrev wsJ30 : List Cond := u_ws RJ3 TJ3 0
theorem nmJ3 : ∀ a, a < 0 → ∀ b, b < 0 → a ≠ b → (TJ3 a).2.1 ≠ (TJ3 b).2.1 := by decide +kernel
theorem tyJ3_ok : ∀ k, k < 0 → parseFieldDescriptor (TJ3 k).2.2.1 = some (tyJ3 k) := by decide +kernel
abbrev cJ3_checkIndex_8e157 : ByteArray := prog_20_method_11_code
def yJ3_checkIndex_8e157 : MethodName := ⟨RJ3, "checkIndex", "(IILjava/util/function/BiFunction;)I"⟩
def RL : String := "DragonTitheLaw"
abbrev cL_law : ByteArray := code
def yL_law : MethodName := ⟨RL, "law", "([I)Z"⟩
end
section
/-! The flat memory: 121 places, a static tree of cells. -/
abbrev Mem : Type := (Nat → Nat → Int32) × (Nat → Nat → Int64)
def NP : Nat := 121
/-- the kind of a place: 0..10 objects (clX), 11 int[], 12 char[], 13 boolean[], 14 long[], 15 County[], 16 Herd[], 17 int[][] -/
def tyL : List Nat := [9, 0, 3, 11, 11, 11, 11, 6, 11, 11, 5, 11, 11, 11, 11, 15, 0, 3, 11, 11, 11, 11, 6, 11, 11, 5, 11, 11, 11, 11, 0, 3, 11, 11, 11, 11, 6, 11, 11, 5, 11, 11, 11, 11, 13, 7, 12, 11, 11, 0, 3, 11, 11, 11, 11, 6, 11, 11, 5, 11, 11, 11, 11, 3, 11, 11, 11, 11, 8, 11, 11, 14, 4, 3, 11, 11, 11, 11, 11, 11, 2, 1, 16, 3, 11, 11, 11, 11, 3, 11, 11, 11, 11, 3, 11, 11, 11, 11, 3, 11, 11, 11, 11, 17, 11, 11, 11, 17, 11, 11, 11, 11, 10, 11, 11, 13, 11, 11, 11, 11, 11]
def lenL : List Nat := [0, 0, 0, 10, 10, 10, 5, 0, 10, 10, 0, 10, 100, 5, 3, 2, 0, 0, 10, 10, 10, 5, 0, 10, 10, 0, 10, 100, 5, 3, 0, 0, 10, 10, 10, 5, 0, 10, 10, 0, 10, 100, 5, 3, 2, 0, 150, 30, 90, 0, 0, 10, 10, 10, 5, 0, 10, 10, 0, 10, 100, 5, 3, 0, 10, 10, 10, 5, 0, 5, 5, 5, 0, 0, 10, 10, 10, 5, 5, 5, 0, 0, 4, 0, 10, 10, 10, 5, 0, 10, 10, 10, 5, 0, 10, 10, 10, 5, 0, 10, 10, 10, 5, 3, 6, 6, 6, 3, 6, 6, 6, 4, 0, 184, 368, 2, 184, 3, 150, 200, 10]
def tyOf (k : Nat) : Nat := tyL.getD k 99
def lenOf (k : Nat) : Nat := lenL.getD k 0
/-- the fields of a class: 0 an int, 1 a long, n + 2 the place n behind the object's own -/
def fkL : List (List Nat) := [[3, 8, 11, 14, 15], [3, 24, 28, 32], [0, 0, 0, 0, 0], [0, 0, 0, 0, 3, 4, 5, 6], [3, 0, 8, 9, 0, 0, 0], [0, 3, 4], [0, 3, 4, 0], [3, 0, 0, 4, 5, 0, 0, 0, 0], [3, 4, 5, 1, 0], [3, 17, 46, 47, 51, 65, 70, 74, 82, 83, 1, 1, 0, 0, 0], [3, 4, 5, 6, 7, 0, 1, 1, 8, 0, 0, 0, 0, 0, 9, 0, 10, 0, 0, 0]]
def fkOf (ci : Nat) : List Nat := fkL.getD ci []
abbrev clX : List vw_C := [(RX0, TX0, 5), (RX1, TX1, 4), (RX2, TX2, 5), (RX3, TX3, 8), (RX5, TX5, 7), (RX6, TX6, 3), (RX7, TX7, 4), (RX8, TX8, 9), (RX9, TX9, 5), (RX10, TX10, 15), (RX11, TX11, 20)]
def fld (ad : Nat → Nat) (μ : Mem) (k j c : Nat) : Value := if c = 0 then .int (μ.1 k j) else if c = 1 then .long (μ.2 k j) else .ref (ad (k + (c - 2)))
def flds (ad : Nat → Nat) (μ : Mem) (k ci : Nat) : List Value := (fkOf ci).mapIdx (fun j c => fld ad μ k j c)
def rowA (ad : Nat → Nat) (k st : Nat) : Nat → Option Nat := fun i => some (ad (k + 1 + st * i))
def cellE (cy : Nat → ClassId) (ad : Nat → Nat) (μ : Mem) (k : Nat) : va_E :=
  if tyOf k ≤ 10 then .inr (tyOf k, flds ad μ k (tyOf k))
  else if tyOf k = 14 then .inl (cy 14, lenOf k, .inr (.inl (μ.2 k)))
  else if tyOf k = 15 then .inl (cy 15, lenOf k, .inr (.inr (.inr (.inr (rowA ad k 14)))))
  else if tyOf k = 16 then .inl (cy 16, lenOf k, .inr (.inr (.inr (.inr (rowA ad k 5)))))
  else if tyOf k = 17 then .inl (cy 17, lenOf k, .inr (.inr (.inr (.inr (rowA ad k 1)))))
  else .inl (cy (tyOf k), lenOf k, .inl (μ.1 k))
def wsOf (cy : Nat → ClassId) (ad : Nat → Nat) (μ : Mem) : va_W := (List.range NP).map (fun k => (ad k, cellE cy ad μ k))
abbrev tysX (cy : Nat → ClassId) : List (ClassId × FieldType) := [(cy 11, .int), (cy 12, .char), (cy 13, .boolean), (cy 14, .long), (cy 15, .object RX0), (cy 16, .object RX3), (cy 17, .array .int)]
def setI (μ : Mem) (a j : Nat) (x : Int32) : Mem := (fun b i => if b = a ∧ i = j then x else μ.1 b i, μ.2)
def setL (μ : Mem) (a j : Nat) (x : Int64) : Mem := (μ.1, fun b i => if b = a ∧ i = j then x else μ.2 b i)
def cpyI (μ : Mem) (src sp dst dp n : Nat) : Mem := (fun b i => if b = dst ∧ dp ≤ i ∧ i < dp + n then μ.1 src (sp + (i - dp)) else μ.1 b i, μ.2)
theorem ty_lt {k : Nat} (h : tyOf k ≤ 17) : k < NP := by
  by_cases hk : k < 121
  · exact hk
  · have : tyOf k = 99 := by
      unfold tyOf
      rw [List.getD_eq_getElem?_getD, List.getElem?_eq_none (by show 121 ≤ k; omega)]
      rfl
    omega
theorem wsOf_at (cy : Nat → ClassId) (ad : Nat → Nat) (μ : Mem) {k : Nat} (h : k < NP) : (wsOf cy ad μ)[k]? = some (ad k, cellE cy ad μ k) := by
  unfold wsOf
  rw [List.getElem?_map, List.getElem?_range h]
  rfl
theorem wsOf_len (cy : Nat → ClassId) (ad : Nat → Nat) (μ : Mem) : (wsOf cy ad μ).length = NP := by simp [wsOf]
theorem flds_at {ad : Nat → Nat} {μ : Mem} {k ci j c : Nat} (h : (fkOf ci)[j]? = some c) : (flds ad μ k ci)[j]? = some (fld ad μ k j c) := by
  unfold flds
  rw [List.getElem?_mapIdx, h]
  rfl
theorem flds_len {ad : Nat → Nat} {μ : Mem} {k ci : Nat} : (flds ad μ k ci).length = (fkOf ci).length := by simp [flds]
theorem fld_other {ad : Nat → Nat} {μ ν : Mem} {k j c : Nat} (h1 : ν.1 k j = μ.1 k j) (h2 : ν.2 k j = μ.2 k j) : fld ad ν k j c = fld ad μ k j c := by
  unfold fld
  rw [h1, h2]
theorem flds_other {ad : Nat → Nat} {μ ν : Mem} {k ci : Nat} (h1 : ∀ j, ν.1 k j = μ.1 k j) (h2 : ∀ j, ν.2 k j = μ.2 k j) : flds ad ν k ci = flds ad μ k ci := by
  apply List.ext_getElem?
  intro j
  unfold flds
  rw [List.getElem?_mapIdx, List.getElem?_mapIdx]
  cases (fkOf ci)[j]? with
  | none => rfl
  | some c => exact congrArg some (fld_other (h1 j) (h2 j))
theorem cell_other {cy : Nat → ClassId} {ad : Nat → Nat} {μ ν : Mem} {k : Nat} (h1 : ∀ j, ν.1 k j = μ.1 k j) (h2 : ∀ j, ν.2 k j = μ.2 k j) : cellE cy ad ν k = cellE cy ad μ k := by
  have e1 : ν.1 k = μ.1 k := funext h1
  have e2 : ν.2 k = μ.2 k := funext h2
  unfold cellE
  rw [flds_other h1 h2, e1, e2]
/-- a world of which one place's cell is another: the world of the memory that differs there -/
theorem wsOf_set {cy : Nat → ClassId} {ad : Nat → Nat} {μ ν : Mem} {a : Nat} {e : va_E} (ha : a < NP) (h1 : ∀ k j, k ≠ a → ν.1 k j = μ.1 k j) (h2 : ∀ k j, k ≠ a → ν.2 k j = μ.2 k j) (he : cellE cy ad ν a = e) : (wsOf cy ad μ).set a (ad a, e) = wsOf cy ad ν := by
  apply List.ext_getElem?
  intro k
  by_cases hk : k < NP
  · by_cases hka : k = a
    · subst hka
      rw [List.getElem?_set_self (by rw [wsOf_len]; exact hk), wsOf_at _ _ _ hk, he]
    · rw [List.getElem?_set_ne (fun q => hka q.symm), wsOf_at _ _ _ hk, wsOf_at _ _ _ hk, cell_other (fun j => h1 k j hka) (fun j => h2 k j hka)]
  · rw [List.getElem?_eq_none (by rw [List.length_set, wsOf_len]; omega), List.getElem?_eq_none (by rw [wsOf_len]; omega)]
theorem cell_obj {cy : Nat → ClassId} {ad : Nat → Nat} {μ : Mem} {k ci : Nat} (h : tyOf k = ci) (hc : ci ≤ 10) : cellE cy ad μ k = .inr (ci, flds ad μ k ci) := by
  subst h
  unfold cellE
  rw [if_pos hc]
theorem cell_arr {cy : Nat → ClassId} {ad : Nat → Nat} {μ : Mem} {k t n : Nat} (h : tyOf k = t) (hn : lenOf k = n) (ht : t = 11 ∨ t = 12 ∨ t = 13) : cellE cy ad μ k = .inl (cy t, n, .inl (μ.1 k)) := by
  subst h; subst hn
  unfold cellE
  rw [if_neg (by omega), if_neg (by omega), if_neg (by omega), if_neg (by omega), if_neg (by omega)]
theorem cell_lng {cy : Nat → ClassId} {ad : Nat → Nat} {μ : Mem} {k n : Nat} (h : tyOf k = 14) (hn : lenOf k = n) : cellE cy ad μ k = .inl (cy 14, n, .inr (.inl (μ.2 k))) := by
  subst hn
  unfold cellE
  rw [if_neg (by omega), if_pos h]
theorem cell_row {cy : Nat → ClassId} {ad : Nat → Nat} {μ : Mem} {k t n st : Nat} (h : tyOf k = t) (hn : lenOf k = n) (ht : (t = 15 ∧ st = 14) ∨ (t = 16 ∧ st = 5) ∨ (t = 17 ∧ st = 1)) : cellE cy ad μ k = .inl (cy t, n, .inr (.inr (.inr (.inr (rowA ad k st))))) := by
  subst hn
  unfold cellE
  rcases ht with ⟨rfl, rfl⟩ | ⟨rfl, rfl⟩ | ⟨rfl, rfl⟩
  · rw [if_neg (by omega), if_neg (by omega), if_pos h]
  · rw [if_neg (by omega), if_neg (by omega), if_neg (by omega), if_pos h]
  · rw [if_neg (by omega), if_neg (by omega), if_neg (by omega), if_neg (by omega), if_pos h]
theorem flds_setI {ad : Nat → Nat} {μ : Mem} {k ci j : Nat} {x : Int32} (h : (fkOf ci)[j]? = some 0) : flds ad (setI μ k j x) k ci = (flds ad μ k ci).set j (.int x) := by
  apply List.ext_getElem?
  intro i
  by_cases hij : j = i
  · subst hij
    rw [List.getElem?_set_self (by rw [flds_len]; exact (List.getElem?_eq_some_iff.mp h).1), flds_at h]
    simp [fld, setI]
  · rw [List.getElem?_set_ne hij]
    unfold flds
    rw [List.getElem?_mapIdx, List.getElem?_mapIdx]
    cases (fkOf ci)[i]? with
    | none => rfl
    | some c => exact congrArg some (fld_other (by simp [setI, Ne.symm hij]) rfl)
theorem flds_setL {ad : Nat → Nat} {μ : Mem} {k ci j : Nat} {x : Int64} (h : (fkOf ci)[j]? = some 1) : flds ad (setL μ k j x) k ci = (flds ad μ k ci).set j (.long x) := by
  apply List.ext_getElem?
  intro i
  by_cases hij : j = i
  · subst hij
    rw [List.getElem?_set_self (by rw [flds_len]; exact (List.getElem?_eq_some_iff.mp h).1), flds_at h]
    simp [fld, setL]
  · rw [List.getElem?_set_ne hij]
    unfold flds
    rw [List.getElem?_mapIdx, List.getElem?_mapIdx]
    cases (fkOf ci)[i]? with
    | none => rfl
    | some c => exact congrArg some (fld_other rfl (by simp [setL, Ne.symm hij]))
theorem setI_row (μ : Mem) (a j : Nat) (x : Int32) : (setI μ a j x).1 a = upd (μ.1 a) j x := by
  funext i
  by_cases h : i = j
  · simp [setI, upd, h]
  · simp [setI, upd, h]
theorem setL_row (μ : Mem) (a j : Nat) (x : Int64) : (setL μ a j x).2 a = vp_updL (μ.2 a) j x := by
  funext i
  by_cases h : i = j
  · simp [setL, vp_updL, h]
  · simp [setL, vp_updL, h]
theorem cpyI_row (μ : Mem) (src sp dst dp n : Nat) : (cpyI μ src sp dst dp n).1 dst = va_cpy (μ.1 src) (μ.1 dst) sp dp n := by
  funext i
  by_cases h : dp ≤ i ∧ i < dp + n
  · simp [cpyI, va_cpy, h]
  · simp [cpyI, va_cpy, h]
end
section
def TB : List Cond := lw_tbl.filter goodWord
theorem tb (i : Nat) {w : Cond} (h : tables_1[i]? = some w) (hg : goodWord w = true) : w ∈ TB := List.mem_filter.mpr ⟨List.mem_append_right _ (List.mem_of_getElem? h), hg⟩
theorem tbp (i : Nat) {w : Cond} (h : (k2_sels lw_privs)[i]? = some w) (hg : goodWord w = true) : w ∈ TB := List.mem_filter.mpr ⟨List.mem_append_left _ (List.mem_of_getElem? h), hg⟩
/-- what is known of a class whose objects the worlds hold -/
def CKx (ci : Nat) (C : String) (T : u_T) (N : Nat) (ty : Nat → FieldType) : Prop := clX[ci]? = some (C, T, N) ∧ (∀ w ∈ u_ws C T N, w ∈ TB) ∧ (∀ k, k < N → parseFieldDescriptor (T k).2.2.1 = some (ty k)) ∧ (∀ a, a < N → ∀ b, b < N → a ≠ b → (T a).2.1 ≠ (T b).2.1) ∧ (fkOf ci).length = N ∧ ci ≤ 10
/-- a field of such a class, as one of our classes links it -/
def FLk (own : String) (index ci j c : Nat) (t : FieldType) (fin : Bool) : Prop := ∃ (C : String) (T : u_T) (N : Nat) (ty : Nat → FieldType), CKx ci C T N ty ∧ j < N ∧ (fkOf ci)[j]? = some c ∧ Cond.fieldLink own index (T j).1 (T j).2.1 (T j).2.2.1 ∈ TB ∧ ty j = t ∧ (T j).2.2.2 = fin
/-- a method that can be called: its code, its class, its parameters -/
def MKx (y : MethodName) (cc : ByteArray) (maxL : Nat) (ret : Option FieldType) (n : Nat) : Prop := Cond.code y cc maxL ret ∈ TB ∧ Cond.initialized y.cls ∈ TB ∧ (y.cls ≠ "java/lang/invoke/MethodHandle" ∧ y.cls ≠ "java/lang/invoke/VarHandle") ∧ (parseMethodDescriptor y.desc).map (fun d => d.parameters.length) = some n
def CVx (own : String) (index : Nat) (y : MethodName) : Prop := Cond.methodLink own index y ∈ TB
def VKx (C : String) (y : MethodName) : Prop := Cond.instanceMethod y ∈ TB ∧ Cond.selects C y y ∈ TB
theorem iw0 : ∀ w ∈ u_ws RX0 TX0 5, w ∈ TB := by
  intro w hw
  obtain ⟨k, hk, rfl⟩ := List.mem_map.mp hw
  have hk := List.mem_range.mp hk
  match k, hk with
  | 0, _ => exact tb 142 (by decide +kernel) (by decide)
  | 1, _ => exact tb 144 (by decide +kernel) (by decide)
  | 2, _ => exact tb 146 (by decide +kernel) (by decide)
  | 3, _ => exact tb 148 (by decide +kernel) (by decide)
  | 4, _ => exact tb 150 (by decide +kernel) (by decide)
  | k + 5, h => exact absurd h (by omega)
theorem ck0 : CKx 0 RX0 TX0 5 tyX0 := ⟨rfl, iw0, tyX0_ok, nmX0, rfl, by decide⟩
theorem iw1 : ∀ w ∈ u_ws RX1 TX1 4, w ∈ TB := by
  intro w hw
  obtain ⟨k, hk, rfl⟩ := List.mem_map.mp hw
  have hk := List.mem_range.mp hk
  match k, hk with
  | 0, _ => exact tb 293 (by decide +kernel) (by decide)
  | 1, _ => exact tb 295 (by decide +kernel) (by decide)
  | 2, _ => exact tb 297 (by decide +kernel) (by decide)
  | 3, _ => exact tb 299 (by decide +kernel) (by decide)
  | k + 4, h => exact absurd h (by omega)
theorem ck1 : CKx 1 RX1 TX1 4 tyX1 := ⟨rfl, iw1, tyX1_ok, nmX1, rfl, by decide⟩
theorem iw2 : ∀ w ∈ u_ws RX2 TX2 5, w ∈ TB := by
  intro w hw
  obtain ⟨k, hk, rfl⟩ := List.mem_map.mp hw
  have hk := List.mem_range.mp hk
  match k, hk with
  | 0, _ => exact tb 266 (by decide +kernel) (by decide)
  | 1, _ => exact tb 268 (by decide +kernel) (by decide)
  | 2, _ => exact tb 270 (by decide +kernel) (by decide)
  | 3, _ => exact tb 272 (by decide +kernel) (by decide)
  | 4, _ => exact tb 274 (by decide +kernel) (by decide)
  | k + 5, h => exact absurd h (by omega)
theorem ck2 : CKx 2 RX2 TX2 5 tyX2 := ⟨rfl, iw2, tyX2_ok, nmX2, rfl, by decide⟩
theorem iw3 : ∀ w ∈ u_ws RX3 TX3 8, w ∈ TB := by
  intro w hw
  obtain ⟨k, hk, rfl⟩ := List.mem_map.mp hw
  have hk := List.mem_range.mp hk
  match k, hk with
  | 0, _ => exact tb 68 (by decide +kernel) (by decide)
  | 1, _ => exact tb 70 (by decide +kernel) (by decide)
  | 2, _ => exact tb 72 (by decide +kernel) (by decide)
  | 3, _ => exact tb 74 (by decide +kernel) (by decide)
  | 4, _ => exact tb 76 (by decide +kernel) (by decide)
  | 5, _ => exact tb 78 (by decide +kernel) (by decide)
  | 6, _ => exact tb 80 (by decide +kernel) (by decide)
  | 7, _ => exact tb 82 (by decide +kernel) (by decide)
  | k + 8, h => exact absurd h (by omega)
theorem ck3 : CKx 3 RX3 TX3 8 tyX3 := ⟨rfl, iw3, tyX3_ok, nmX3, rfl, by decide⟩
theorem iw4 : ∀ w ∈ u_ws RX5 TX5 7, w ∈ TB := by
  intro w hw
  obtain ⟨k, hk, rfl⟩ := List.mem_map.mp hw
  have hk := List.mem_range.mp hk
  match k, hk with
  | 0, _ => exact tb 238 (by decide +kernel) (by decide)
  | 1, _ => exact tb 240 (by decide +kernel) (by decide)
  | 2, _ => exact tb 242 (by decide +kernel) (by decide)
  | 3, _ => exact tb 244 (by decide +kernel) (by decide)
  | 4, _ => exact tb 246 (by decide +kernel) (by decide)
  | 5, _ => exact tb 248 (by decide +kernel) (by decide)
  | 6, _ => exact tb 250 (by decide +kernel) (by decide)
  | k + 7, h => exact absurd h (by omega)
theorem ck4 : CKx 4 RX5 TX5 7 tyX5 := ⟨rfl, iw4, tyX5_ok, nmX5, rfl, by decide⟩
theorem iw5 : ∀ w ∈ u_ws RX6 TX6 3, w ∈ TB := by
  intro w hw
  obtain ⟨k, hk, rfl⟩ := List.mem_map.mp hw
  have hk := List.mem_range.mp hk
  match k, hk with
  | 0, _ => exact tb 122 (by decide +kernel) (by decide)
  | 1, _ => exact tb 124 (by decide +kernel) (by decide)
  | 2, _ => exact tb 126 (by decide +kernel) (by decide)
  | k + 3, h => exact absurd h (by omega)
theorem ck5 : CKx 5 RX6 TX6 3 tyX6 := ⟨rfl, iw5, tyX6_ok, nmX6, rfl, by decide⟩
theorem iw6 : ∀ w ∈ u_ws RX7 TX7 4, w ∈ TB := by
  intro w hw
  obtain ⟨k, hk, rfl⟩ := List.mem_map.mp hw
  have hk := List.mem_range.mp hk
  match k, hk with
  | 0, _ => exact tb 102 (by decide +kernel) (by decide)
  | 1, _ => exact tb 104 (by decide +kernel) (by decide)
  | 2, _ => exact tb 106 (by decide +kernel) (by decide)
  | 3, _ => exact tb 108 (by decide +kernel) (by decide)
  | k + 4, h => exact absurd h (by omega)
theorem ck6 : CKx 6 RX7 TX7 4 tyX7 := ⟨rfl, iw6, tyX7_ok, nmX7, rfl, by decide⟩
theorem iw7 : ∀ w ∈ u_ws RX8 TX8 9, w ∈ TB := by
  intro w hw
  obtain ⟨k, hk, rfl⟩ := List.mem_map.mp hw
  have hk := List.mem_range.mp hk
  match k, hk with
  | 0, _ => exact tb 172 (by decide +kernel) (by decide)
  | 1, _ => exact tb 174 (by decide +kernel) (by decide)
  | 2, _ => exact tb 176 (by decide +kernel) (by decide)
  | 3, _ => exact tb 178 (by decide +kernel) (by decide)
  | 4, _ => exact tb 180 (by decide +kernel) (by decide)
  | 5, _ => exact tb 182 (by decide +kernel) (by decide)
  | 6, _ => exact tb 184 (by decide +kernel) (by decide)
  | 7, _ => exact tb 186 (by decide +kernel) (by decide)
  | 8, _ => exact tb 188 (by decide +kernel) (by decide)
  | k + 9, h => exact absurd h (by omega)
theorem ck7 : CKx 7 RX8 TX8 9 tyX8 := ⟨rfl, iw7, tyX8_ok, nmX8, rfl, by decide⟩
theorem iw8 : ∀ w ∈ u_ws RX9 TX9 5, w ∈ TB := by
  intro w hw
  obtain ⟨k, hk, rfl⟩ := List.mem_map.mp hw
  have hk := List.mem_range.mp hk
  match k, hk with
  | 0, _ => exact tb 208 (by decide +kernel) (by decide)
  | 1, _ => exact tb 210 (by decide +kernel) (by decide)
  | 2, _ => exact tb 212 (by decide +kernel) (by decide)
  | 3, _ => exact tb 214 (by decide +kernel) (by decide)
  | 4, _ => exact tb 216 (by decide +kernel) (by decide)
  | k + 5, h => exact absurd h (by omega)
theorem ck8 : CKx 8 RX9 TX9 5 tyX9 := ⟨rfl, iw8, tyX9_ok, nmX9, rfl, by decide⟩
theorem iw9 : ∀ w ∈ u_ws RX10 TX10 15, w ∈ TB := by
  intro w hw
  obtain ⟨k, hk, rfl⟩ := List.mem_map.mp hw
  have hk := List.mem_range.mp hk
  match k, hk with
  | 0, _ => exact tb 317 (by decide +kernel) (by decide)
  | 1, _ => exact tb 319 (by decide +kernel) (by decide)
  | 2, _ => exact tb 321 (by decide +kernel) (by decide)
  | 3, _ => exact tb 323 (by decide +kernel) (by decide)
  | 4, _ => exact tb 325 (by decide +kernel) (by decide)
  | 5, _ => exact tb 327 (by decide +kernel) (by decide)
  | 6, _ => exact tb 329 (by decide +kernel) (by decide)
  | 7, _ => exact tb 331 (by decide +kernel) (by decide)
  | 8, _ => exact tb 333 (by decide +kernel) (by decide)
  | 9, _ => exact tb 335 (by decide +kernel) (by decide)
  | 10, _ => exact tb 337 (by decide +kernel) (by decide)
  | 11, _ => exact tb 339 (by decide +kernel) (by decide)
  | 12, _ => exact tb 341 (by decide +kernel) (by decide)
  | 13, _ => exact tb 343 (by decide +kernel) (by decide)
  | 14, _ => exact tb 345 (by decide +kernel) (by decide)
  | k + 15, h => exact absurd h (by omega)
theorem ck9 : CKx 9 RX10 TX10 15 tyX10 := ⟨rfl, iw9, tyX10_ok, nmX10, rfl, by decide⟩
theorem iw10 : ∀ w ∈ u_ws RX11 TX11 20, w ∈ TB := by
  intro w hw
  obtain ⟨k, hk, rfl⟩ := List.mem_map.mp hw
  have hk := List.mem_range.mp hk
  match k, hk with
  | 0, _ => exact tb 967 (by decide +kernel) (by decide)
  | 1, _ => exact tb 969 (by decide +kernel) (by decide)
  | 2, _ => exact tb 971 (by decide +kernel) (by decide)
  | 3, _ => exact tb 973 (by decide +kernel) (by decide)
  | 4, _ => exact tb 975 (by decide +kernel) (by decide)
  | 5, _ => exact tb 977 (by decide +kernel) (by decide)
  | 6, _ => exact tb 979 (by decide +kernel) (by decide)
  | 7, _ => exact tb 981 (by decide +kernel) (by decide)
  | 8, _ => exact tb 983 (by decide +kernel) (by decide)
  | 9, _ => exact tb 985 (by decide +kernel) (by decide)
  | 10, _ => exact tb 987 (by decide +kernel) (by decide)
  | 11, _ => exact tb 989 (by decide +kernel) (by decide)
  | 12, _ => exact tb 991 (by decide +kernel) (by decide)
  | 13, _ => exact tb 993 (by decide +kernel) (by decide)
  | 14, _ => exact tb 995 (by decide +kernel) (by decide)
  | 15, _ => exact tb 997 (by decide +kernel) (by decide)
  | 16, _ => exact tb 999 (by decide +kernel) (by decide)
  | 17, _ => exact tb 1001 (by decide +kernel) (by decide)
  | 18, _ => exact tb 1003 (by decide +kernel) (by decide)
  | 19, _ => exact tb 1005 (by decide +kernel) (by decide)
  | k + 20, h => exact absurd h (by omega)
theorem ck10 : CKx 10 RX11 TX11 20 tyX11 := ⟨rfl, iw10, tyX11_ok, nmX11, rfl, by decide⟩
theorem flX0_12 : FLk RX0 12 0 0 3 (tyX0 0) true := ⟨_, _, _, _, ck0, by decide, rfl, tb 129 (by decide +kernel) (by decide), rfl, rfl⟩
theorem flX0_21 : FLk RX0 21 0 1 8 (tyX0 1) true := ⟨_, _, _, _, ck0, by decide, rfl, tb 133 (by decide +kernel) (by decide), rfl, rfl⟩
theorem flX0_28 : FLk RX0 28 0 2 11 (tyX0 2) true := ⟨_, _, _, _, ck0, by decide, rfl, tb 135 (by decide +kernel) (by decide), rfl, rfl⟩
theorem flX0_32 : FLk RX0 32 0 3 14 (tyX0 3) true := ⟨_, _, _, _, ck0, by decide, rfl, tb 137 (by decide +kernel) (by decide), rfl, rfl⟩
theorem flX0_36 : FLk RX0 36 0 4 15 (tyX0 4) true := ⟨_, _, _, _, ck0, by decide, rfl, tb 140 (by decide +kernel) (by decide), rfl, rfl⟩
theorem flX0_55 : FLk RX0 55 3 0 0 (.int) false := ⟨_, _, _, _, ck3, by decide, rfl, tb 43 (by decide +kernel) (by decide), rfl, rfl⟩
theorem flX0_65 : FLk RX0 65 5 0 0 (.int) false := ⟨_, _, _, _, ck5, by decide, rfl, tb 118 (by decide +kernel) (by decide), rfl, rfl⟩
theorem flX0_72 : FLk RX0 72 3 1 0 (.int) false := ⟨_, _, _, _, ck3, by decide, rfl, tb 48 (by decide +kernel) (by decide), rfl, rfl⟩
theorem flX0_75 : FLk RX0 75 3 4 3 (tyX3 4) true := ⟨_, _, _, _, ck3, by decide, rfl, tb 57 (by decide +kernel) (by decide), rfl, rfl⟩
theorem flX0_78 : FLk RX0 78 3 5 4 (tyX3 5) true := ⟨_, _, _, _, ck3, by decide, rfl, tb 61 (by decide +kernel) (by decide), rfl, rfl⟩
theorem flX0_81 : FLk RX0 81 3 6 5 (tyX3 6) true := ⟨_, _, _, _, ck3, by decide, rfl, tb 65 (by decide +kernel) (by decide), rfl, rfl⟩
theorem flX0_90 : FLk RX0 90 3 3 0 (.int) false := ⟨_, _, _, _, ck3, by decide, rfl, tb 54 (by decide +kernel) (by decide), rfl, rfl⟩
theorem flX0_101 : FLk RX0 101 6 0 0 (.int) false := ⟨_, _, _, _, ck6, by decide, rfl, tb 93 (by decide +kernel) (by decide), rfl, rfl⟩
theorem flX0_105 : FLk RX0 105 6 3 0 (.int) false := ⟨_, _, _, _, ck6, by decide, rfl, tb 100 (by decide +kernel) (by decide), rfl, rfl⟩
theorem flX0_121 : FLk RX0 121 6 1 3 (tyX7 1) true := ⟨_, _, _, _, ck6, by decide, rfl, tb 96 (by decide +kernel) (by decide), rfl, rfl⟩
theorem flX0_124 : FLk RX0 124 6 2 4 (tyX7 2) true := ⟨_, _, _, _, ck6, by decide, rfl, tb 98 (by decide +kernel) (by decide), rfl, rfl⟩
theorem flX1_11 : FLk RX1 11 1 0 3 (tyX1 0) true := ⟨_, _, _, _, ck1, by decide, rfl, tb 288 (by decide +kernel) (by decide), rfl, rfl⟩
theorem flX1_19 : FLk RX1 19 1 1 24 (tyX1 1) true := ⟨_, _, _, _, ck1, by decide, rfl, tb 289 (by decide +kernel) (by decide), rfl, rfl⟩
theorem flX1_22 : FLk RX1 22 1 2 28 (tyX1 2) true := ⟨_, _, _, _, ck1, by decide, rfl, tb 290 (by decide +kernel) (by decide), rfl, rfl⟩
theorem flX1_25 : FLk RX1 25 1 3 32 (tyX1 3) true := ⟨_, _, _, _, ck1, by decide, rfl, tb 291 (by decide +kernel) (by decide), rfl, rfl⟩
theorem flX1_30 : FLk RX1 30 0 0 3 (tyX0 0) true := ⟨_, _, _, _, ck0, by decide, rfl, tb 131 (by decide +kernel) (by decide), rfl, rfl⟩
theorem flX1_40 : FLk RX1 40 0 4 15 (tyX0 4) true := ⟨_, _, _, _, ck0, by decide, rfl, tb 141 (by decide +kernel) (by decide), rfl, rfl⟩
theorem flX1_64 : FLk RX1 64 3 0 0 (.int) false := ⟨_, _, _, _, ck3, by decide, rfl, tb 44 (by decide +kernel) (by decide), rfl, rfl⟩
theorem flX10_10 : FLk RX10 10 9 0 3 (tyX10 0) true := ⟨_, _, _, _, ck9, by decide, rfl, tb 302 (by decide +kernel) (by decide), rfl, rfl⟩
theorem flX10_16 : FLk RX10 16 9 1 17 (tyX10 1) true := ⟨_, _, _, _, ck9, by decide, rfl, tb 303 (by decide +kernel) (by decide), rfl, rfl⟩
theorem flX10_20 : FLk RX10 20 9 2 46 (tyX10 2) true := ⟨_, _, _, _, ck9, by decide, rfl, tb 304 (by decide +kernel) (by decide), rfl, rfl⟩
theorem flX10_27 : FLk RX10 27 9 3 47 (tyX10 3) true := ⟨_, _, _, _, ck9, by decide, rfl, tb 305 (by decide +kernel) (by decide), rfl, rfl⟩
theorem flX10_31 : FLk RX10 31 9 4 51 (tyX10 4) true := ⟨_, _, _, _, ck9, by decide, rfl, tb 306 (by decide +kernel) (by decide), rfl, rfl⟩
theorem flX10_37 : FLk RX10 37 9 5 65 (tyX10 5) true := ⟨_, _, _, _, ck9, by decide, rfl, tb 307 (by decide +kernel) (by decide), rfl, rfl⟩
theorem flX10_44 : FLk RX10 44 9 6 70 (tyX10 6) true := ⟨_, _, _, _, ck9, by decide, rfl, tb 308 (by decide +kernel) (by decide), rfl, rfl⟩
theorem flX10_51 : FLk RX10 51 9 7 74 (tyX10 7) true := ⟨_, _, _, _, ck9, by decide, rfl, tb 309 (by decide +kernel) (by decide), rfl, rfl⟩
theorem flX10_58 : FLk RX10 58 9 8 82 (tyX10 8) true := ⟨_, _, _, _, ck9, by decide, rfl, tb 310 (by decide +kernel) (by decide), rfl, rfl⟩
theorem flX10_65 : FLk RX10 65 9 9 83 (tyX10 9) true := ⟨_, _, _, _, ck9, by decide, rfl, tb 311 (by decide +kernel) (by decide), rfl, rfl⟩
theorem flX10_69 : FLk RX10 69 9 10 1 (.long) false := ⟨_, _, _, _, ck9, by decide, rfl, tb 312 (by decide +kernel) (by decide), rfl, rfl⟩
theorem flX10_73 : FLk RX10 73 9 11 1 (.long) false := ⟨_, _, _, _, ck9, by decide, rfl, tb 313 (by decide +kernel) (by decide), rfl, rfl⟩
theorem flX10_76 : FLk RX10 76 9 12 0 (.int) false := ⟨_, _, _, _, ck9, by decide, rfl, tb 314 (by decide +kernel) (by decide), rfl, rfl⟩
theorem flX10_80 : FLk RX10 80 9 13 0 (.int) false := ⟨_, _, _, _, ck9, by decide, rfl, tb 315 (by decide +kernel) (by decide), rfl, rfl⟩
theorem flX10_83 : FLk RX10 83 9 14 0 (.int) false := ⟨_, _, _, _, ck9, by decide, rfl, tb 316 (by decide +kernel) (by decide), rfl, rfl⟩
theorem flX10_124 : FLk RX10 124 7 1 0 (.int) false := ⟨_, _, _, _, ck7, by decide, rfl, tb 162 (by decide +kernel) (by decide), rfl, rfl⟩
theorem flX10_130 : FLk RX10 130 7 2 0 (.int) false := ⟨_, _, _, _, ck7, by decide, rfl, tb 164 (by decide +kernel) (by decide), rfl, rfl⟩
theorem flX10_146 : FLk RX10 146 0 0 3 (tyX0 0) true := ⟨_, _, _, _, ck0, by decide, rfl, tb 132 (by decide +kernel) (by decide), rfl, rfl⟩
theorem flX10_153 : FLk RX10 153 3 4 3 (tyX3 4) true := ⟨_, _, _, _, ck3, by decide, rfl, tb 58 (by decide +kernel) (by decide), rfl, rfl⟩
theorem flX10_157 : FLk RX10 157 3 5 4 (tyX3 5) true := ⟨_, _, _, _, ck3, by decide, rfl, tb 62 (by decide +kernel) (by decide), rfl, rfl⟩
theorem flX10_160 : FLk RX10 160 3 6 5 (tyX3 6) true := ⟨_, _, _, _, ck3, by decide, rfl, tb 66 (by decide +kernel) (by decide), rfl, rfl⟩
theorem flX10_194 : FLk RX10 194 4 4 0 (.int) false := ⟨_, _, _, _, ck4, by decide, rfl, tb 233 (by decide +kernel) (by decide), rfl, rfl⟩
theorem flX10_197 : FLk RX10 197 4 5 0 (.int) false := ⟨_, _, _, _, ck4, by decide, rfl, tb 235 (by decide +kernel) (by decide), rfl, rfl⟩
theorem flX10_200 : FLk RX10 200 4 6 0 (.int) false := ⟨_, _, _, _, ck4, by decide, rfl, tb 237 (by decide +kernel) (by decide), rfl, rfl⟩
theorem flX10_207 : FLk RX10 207 8 2 5 (tyX9 2) true := ⟨_, _, _, _, ck8, by decide, rfl, tb 204 (by decide +kernel) (by decide), rfl, rfl⟩
theorem flX10_211 : FLk RX10 211 8 3 1 (.long) false := ⟨_, _, _, _, ck8, by decide, rfl, tb 206 (by decide +kernel) (by decide), rfl, rfl⟩
theorem flX10_234 : FLk RX10 234 0 1 8 (tyX0 1) true := ⟨_, _, _, _, ck0, by decide, rfl, tb 134 (by decide +kernel) (by decide), rfl, rfl⟩
theorem flX10_251 : FLk RX10 251 6 3 0 (.int) false := ⟨_, _, _, _, ck6, by decide, rfl, tb 101 (by decide +kernel) (by decide), rfl, rfl⟩
theorem flX10_258 : FLk RX10 258 2 3 0 (.int) false := ⟨_, _, _, _, ck2, by decide, rfl, tb 263 (by decide +kernel) (by decide), rfl, rfl⟩
theorem flX10_261 : FLk RX10 261 2 4 0 (.int) false := ⟨_, _, _, _, ck2, by decide, rfl, tb 265 (by decide +kernel) (by decide), rfl, rfl⟩
theorem flX10_265 : FLk RX10 265 3 0 0 (.int) false := ⟨_, _, _, _, ck3, by decide, rfl, tb 45 (by decide +kernel) (by decide), rfl, rfl⟩
theorem flX10_278 : FLk RX10 278 3 3 0 (.int) false := ⟨_, _, _, _, ck3, by decide, rfl, tb 55 (by decide +kernel) (by decide), rfl, rfl⟩
theorem flX10_290 : FLk RX10 290 1 3 32 (tyX1 3) true := ⟨_, _, _, _, ck1, by decide, rfl, tb 292 (by decide +kernel) (by decide), rfl, rfl⟩
theorem flX10_303 : FLk RX10 303 0 3 14 (tyX0 3) true := ⟨_, _, _, _, ck0, by decide, rfl, tb 139 (by decide +kernel) (by decide), rfl, rfl⟩
theorem flX10_319 : FLk RX10 319 3 1 0 (.int) false := ⟨_, _, _, _, ck3, by decide, rfl, tb 49 (by decide +kernel) (by decide), rfl, rfl⟩
theorem flX10_322 : FLk RX10 322 6 0 0 (.int) false := ⟨_, _, _, _, ck6, by decide, rfl, tb 94 (by decide +kernel) (by decide), rfl, rfl⟩
theorem flX10_325 : FLk RX10 325 3 2 0 (.int) false := ⟨_, _, _, _, ck3, by decide, rfl, tb 52 (by decide +kernel) (by decide), rfl, rfl⟩
theorem flX10_328 : FLk RX10 328 0 2 11 (tyX0 2) true := ⟨_, _, _, _, ck0, by decide, rfl, tb 136 (by decide +kernel) (by decide), rfl, rfl⟩
theorem flX10_332 : FLk RX10 332 5 0 0 (.int) false := ⟨_, _, _, _, ck5, by decide, rfl, tb 119 (by decide +kernel) (by decide), rfl, rfl⟩
theorem flX10_338 : FLk RX10 338 7 3 4 (tyX8 3) true := ⟨_, _, _, _, ck7, by decide, rfl, tb 166 (by decide +kernel) (by decide), rfl, rfl⟩
theorem flX11_7 : FLk RX11 7 10 0 3 (tyX11 0) true := ⟨_, _, _, _, ck10, by decide, rfl, tb 947 (by decide +kernel) (by decide), rfl, rfl⟩
theorem flX11_13 : FLk RX11 13 10 1 4 (tyX11 1) true := ⟨_, _, _, _, ck10, by decide, rfl, tb 948 (by decide +kernel) (by decide), rfl, rfl⟩
theorem flX11_16 : FLk RX11 16 10 2 5 (tyX11 2) true := ⟨_, _, _, _, ck10, by decide, rfl, tb 949 (by decide +kernel) (by decide), rfl, rfl⟩
theorem flX11_20 : FLk RX11 20 10 3 6 (tyX11 3) true := ⟨_, _, _, _, ck10, by decide, rfl, tb 950 (by decide +kernel) (by decide), rfl, rfl⟩
theorem flX11_23 : FLk RX11 23 10 4 7 (tyX11 4) true := ⟨_, _, _, _, ck10, by decide, rfl, tb 951 (by decide +kernel) (by decide), rfl, rfl⟩
theorem flX11_26 : FLk RX11 26 10 8 8 (tyX11 8) true := ⟨_, _, _, _, ck10, by decide, rfl, tb 955 (by decide +kernel) (by decide), rfl, rfl⟩
theorem flX11_29 : FLk RX11 29 10 14 9 (tyX11 14) true := ⟨_, _, _, _, ck10, by decide, rfl, tb 961 (by decide +kernel) (by decide), rfl, rfl⟩
theorem flX11_32 : FLk RX11 32 10 16 10 (tyX11 16) true := ⟨_, _, _, _, ck10, by decide, rfl, tb 963 (by decide +kernel) (by decide), rfl, rfl⟩
theorem flX11_35 : FLk RX11 35 10 7 1 (.long) false := ⟨_, _, _, _, ck10, by decide, rfl, tb 954 (by decide +kernel) (by decide), rfl, rfl⟩
theorem flX11_43 : FLk RX11 43 10 5 0 (.boolean) false := ⟨_, _, _, _, ck10, by decide, rfl, tb 952 (by decide +kernel) (by decide), rfl, rfl⟩
theorem flX11_92 : FLk RX11 92 10 9 0 (.int) false := ⟨_, _, _, _, ck10, by decide, rfl, tb 956 (by decide +kernel) (by decide), rfl, rfl⟩
theorem flX11_96 : FLk RX11 96 10 10 0 (.int) false := ⟨_, _, _, _, ck10, by decide, rfl, tb 957 (by decide +kernel) (by decide), rfl, rfl⟩
theorem flX11_114 : FLk RX11 114 10 11 0 (.int) false := ⟨_, _, _, _, ck10, by decide, rfl, tb 958 (by decide +kernel) (by decide), rfl, rfl⟩
theorem flX11_117 : FLk RX11 117 10 12 0 (.int) false := ⟨_, _, _, _, ck10, by decide, rfl, tb 959 (by decide +kernel) (by decide), rfl, rfl⟩
theorem flX11_128 : FLk RX11 128 10 13 0 (.int) false := ⟨_, _, _, _, ck10, by decide, rfl, tb 960 (by decide +kernel) (by decide), rfl, rfl⟩
theorem flX11_131 : FLk RX11 131 10 15 0 (.int) false := ⟨_, _, _, _, ck10, by decide, rfl, tb 962 (by decide +kernel) (by decide), rfl, rfl⟩
theorem flX11_205 : FLk RX11 205 10 17 0 (.int) false := ⟨_, _, _, _, ck10, by decide, rfl, tb 964 (by decide +kernel) (by decide), rfl, rfl⟩
theorem flX11_208 : FLk RX11 208 10 18 0 (.int) false := ⟨_, _, _, _, ck10, by decide, rfl, tb 965 (by decide +kernel) (by decide), rfl, rfl⟩
theorem flX11_211 : FLk RX11 211 10 19 0 (.int) false := ⟨_, _, _, _, ck10, by decide, rfl, tb 966 (by decide +kernel) (by decide), rfl, rfl⟩
theorem flX11_225 : FLk RX11 225 10 6 1 (.long) false := ⟨_, _, _, _, ck10, by decide, rfl, tb 953 (by decide +kernel) (by decide), rfl, rfl⟩
theorem flX2_9 : FLk RX2 9 2 0 0 (.int) false := ⟨_, _, _, _, ck2, by decide, rfl, tb 259 (by decide +kernel) (by decide), rfl, rfl⟩
theorem flX2_15 : FLk RX2 15 2 1 0 (.int) false := ⟨_, _, _, _, ck2, by decide, rfl, tb 260 (by decide +kernel) (by decide), rfl, rfl⟩
theorem flX2_18 : FLk RX2 18 2 2 0 (.boolean) false := ⟨_, _, _, _, ck2, by decide, rfl, tb 261 (by decide +kernel) (by decide), rfl, rfl⟩
theorem flX2_22 : FLk RX2 22 2 3 0 (.int) false := ⟨_, _, _, _, ck2, by decide, rfl, tb 262 (by decide +kernel) (by decide), rfl, rfl⟩
theorem flX2_25 : FLk RX2 25 2 4 0 (.int) false := ⟨_, _, _, _, ck2, by decide, rfl, tb 264 (by decide +kernel) (by decide), rfl, rfl⟩
theorem flX3_9 : FLk RX3 9 3 0 0 (.int) false := ⟨_, _, _, _, ck3, by decide, rfl, tb 40 (by decide +kernel) (by decide), rfl, rfl⟩
theorem flX3_15 : FLk RX3 15 3 1 0 (.int) false := ⟨_, _, _, _, ck3, by decide, rfl, tb 46 (by decide +kernel) (by decide), rfl, rfl⟩
theorem flX3_18 : FLk RX3 18 3 2 0 (.int) false := ⟨_, _, _, _, ck3, by decide, rfl, tb 50 (by decide +kernel) (by decide), rfl, rfl⟩
theorem flX3_21 : FLk RX3 21 3 3 0 (.int) false := ⟨_, _, _, _, ck3, by decide, rfl, tb 53 (by decide +kernel) (by decide), rfl, rfl⟩
theorem flX3_24 : FLk RX3 24 3 4 3 (tyX3 4) true := ⟨_, _, _, _, ck3, by decide, rfl, tb 56 (by decide +kernel) (by decide), rfl, rfl⟩
theorem flX3_28 : FLk RX3 28 3 5 4 (tyX3 5) true := ⟨_, _, _, _, ck3, by decide, rfl, tb 59 (by decide +kernel) (by decide), rfl, rfl⟩
theorem flX3_31 : FLk RX3 31 3 6 5 (tyX3 6) true := ⟨_, _, _, _, ck3, by decide, rfl, tb 63 (by decide +kernel) (by decide), rfl, rfl⟩
theorem flX3_34 : FLk RX3 34 3 7 6 (tyX3 7) true := ⟨_, _, _, _, ck3, by decide, rfl, tb 67 (by decide +kernel) (by decide), rfl, rfl⟩
theorem flX5_12 : FLk RX5 12 4 0 3 (tyX5 0) true := ⟨_, _, _, _, ck4, by decide, rfl, tb 228 (by decide +kernel) (by decide), rfl, rfl⟩
theorem flX5_18 : FLk RX5 18 4 1 0 (.int) false := ⟨_, _, _, _, ck4, by decide, rfl, tb 229 (by decide +kernel) (by decide), rfl, rfl⟩
theorem flX5_22 : FLk RX5 22 4 2 8 (tyX5 2) true := ⟨_, _, _, _, ck4, by decide, rfl, tb 230 (by decide +kernel) (by decide), rfl, rfl⟩
theorem flX5_26 : FLk RX5 26 4 3 9 (tyX5 3) true := ⟨_, _, _, _, ck4, by decide, rfl, tb 231 (by decide +kernel) (by decide), rfl, rfl⟩
theorem flX5_29 : FLk RX5 29 4 4 0 (.int) false := ⟨_, _, _, _, ck4, by decide, rfl, tb 232 (by decide +kernel) (by decide), rfl, rfl⟩
theorem flX5_32 : FLk RX5 32 4 5 0 (.int) false := ⟨_, _, _, _, ck4, by decide, rfl, tb 234 (by decide +kernel) (by decide), rfl, rfl⟩
theorem flX5_35 : FLk RX5 35 4 6 0 (.int) false := ⟨_, _, _, _, ck4, by decide, rfl, tb 236 (by decide +kernel) (by decide), rfl, rfl⟩
theorem flX5_42 : FLk RX5 42 3 0 0 (.int) false := ⟨_, _, _, _, ck3, by decide, rfl, tb 42 (by decide +kernel) (by decide), rfl, rfl⟩
theorem flX5_63 : FLk RX5 63 3 1 0 (.int) false := ⟨_, _, _, _, ck3, by decide, rfl, tb 47 (by decide +kernel) (by decide), rfl, rfl⟩
theorem flX5_66 : FLk RX5 66 3 5 4 (tyX3 5) true := ⟨_, _, _, _, ck3, by decide, rfl, tb 60 (by decide +kernel) (by decide), rfl, rfl⟩
theorem flX6_9 : FLk RX6 9 5 0 0 (.int) false := ⟨_, _, _, _, ck5, by decide, rfl, tb 117 (by decide +kernel) (by decide), rfl, rfl⟩
theorem flX6_15 : FLk RX6 15 5 1 3 (tyX6 1) true := ⟨_, _, _, _, ck5, by decide, rfl, tb 120 (by decide +kernel) (by decide), rfl, rfl⟩
theorem flX6_19 : FLk RX6 19 5 2 4 (tyX6 2) true := ⟨_, _, _, _, ck5, by decide, rfl, tb 121 (by decide +kernel) (by decide), rfl, rfl⟩
theorem flX6_28 : FLk RX6 28 3 2 0 (.int) false := ⟨_, _, _, _, ck3, by decide, rfl, tb 51 (by decide +kernel) (by decide), rfl, rfl⟩
theorem flX6_33 : FLk RX6 33 3 6 5 (tyX3 6) true := ⟨_, _, _, _, ck3, by decide, rfl, tb 64 (by decide +kernel) (by decide), rfl, rfl⟩
theorem flX7_9 : FLk RX7 9 6 0 0 (.int) false := ⟨_, _, _, _, ck6, by decide, rfl, tb 92 (by decide +kernel) (by decide), rfl, rfl⟩
theorem flX7_15 : FLk RX7 15 6 1 3 (tyX7 1) true := ⟨_, _, _, _, ck6, by decide, rfl, tb 95 (by decide +kernel) (by decide), rfl, rfl⟩
theorem flX7_19 : FLk RX7 19 6 2 4 (tyX7 2) true := ⟨_, _, _, _, ck6, by decide, rfl, tb 97 (by decide +kernel) (by decide), rfl, rfl⟩
theorem flX7_22 : FLk RX7 22 6 3 0 (.int) false := ⟨_, _, _, _, ck6, by decide, rfl, tb 99 (by decide +kernel) (by decide), rfl, rfl⟩
theorem flX8_9 : FLk RX8 9 7 0 3 (tyX8 0) true := ⟨_, _, _, _, ck7, by decide, rfl, tb 160 (by decide +kernel) (by decide), rfl, rfl⟩
theorem flX8_15 : FLk RX8 15 7 1 0 (.int) false := ⟨_, _, _, _, ck7, by decide, rfl, tb 161 (by decide +kernel) (by decide), rfl, rfl⟩
theorem flX8_19 : FLk RX8 19 7 2 0 (.int) false := ⟨_, _, _, _, ck7, by decide, rfl, tb 163 (by decide +kernel) (by decide), rfl, rfl⟩
theorem flX8_22 : FLk RX8 22 7 3 4 (tyX8 3) true := ⟨_, _, _, _, ck7, by decide, rfl, tb 165 (by decide +kernel) (by decide), rfl, rfl⟩
theorem flX8_26 : FLk RX8 26 7 4 5 (tyX8 4) true := ⟨_, _, _, _, ck7, by decide, rfl, tb 167 (by decide +kernel) (by decide), rfl, rfl⟩
theorem flX8_29 : FLk RX8 29 7 5 0 (.int) false := ⟨_, _, _, _, ck7, by decide, rfl, tb 168 (by decide +kernel) (by decide), rfl, rfl⟩
theorem flX8_32 : FLk RX8 32 7 6 0 (.int) false := ⟨_, _, _, _, ck7, by decide, rfl, tb 169 (by decide +kernel) (by decide), rfl, rfl⟩
theorem flX8_35 : FLk RX8 35 7 7 0 (.int) false := ⟨_, _, _, _, ck7, by decide, rfl, tb 170 (by decide +kernel) (by decide), rfl, rfl⟩
theorem flX8_38 : FLk RX8 38 7 8 0 (.int) false := ⟨_, _, _, _, ck7, by decide, rfl, tb 171 (by decide +kernel) (by decide), rfl, rfl⟩
theorem flX9_9 : FLk RX9 9 8 0 3 (tyX9 0) true := ⟨_, _, _, _, ck8, by decide, rfl, tb 201 (by decide +kernel) (by decide), rfl, rfl⟩
theorem flX9_15 : FLk RX9 15 8 1 4 (tyX9 1) true := ⟨_, _, _, _, ck8, by decide, rfl, tb 202 (by decide +kernel) (by decide), rfl, rfl⟩
theorem flX9_18 : FLk RX9 18 8 2 5 (tyX9 2) true := ⟨_, _, _, _, ck8, by decide, rfl, tb 203 (by decide +kernel) (by decide), rfl, rfl⟩
theorem flX9_22 : FLk RX9 22 8 3 1 (.long) false := ⟨_, _, _, _, ck8, by decide, rfl, tb 205 (by decide +kernel) (by decide), rfl, rfl⟩
theorem flX9_26 : FLk RX9 26 8 4 0 (.int) false := ⟨_, _, _, _, ck8, by decide, rfl, tb 207 (by decide +kernel) (by decide), rfl, rfl⟩
theorem flX9_30 : FLk RX9 30 0 0 3 (tyX0 0) true := ⟨_, _, _, _, ck0, by decide, rfl, tb 130 (by decide +kernel) (by decide), rfl, rfl⟩
theorem flX9_36 : FLk RX9 36 3 0 0 (.int) false := ⟨_, _, _, _, ck3, by decide, rfl, tb 41 (by decide +kernel) (by decide), rfl, rfl⟩
theorem flX9_52 : FLk RX9 52 0 3 14 (tyX0 3) true := ⟨_, _, _, _, ck0, by decide, rfl, tb 138 (by decide +kernel) (by decide), rfl, rfl⟩
theorem mkJ0_charAt_5068e : MKx yJ0_charAt_5068e cJ0_charAt_5068e 2 (some .char) 1 := ⟨tb 518 (by decide +kernel) (by decide), tb 13 (by decide +kernel) (by decide), by decide +kernel, by decide +kernel⟩
theorem vkJ0_charAt_5068e : VKx RJ0 yJ0_charAt_5068e := ⟨tb 516 (by decide +kernel) (by decide), tb 517 (by decide +kernel) (by decide)⟩
theorem mkJ0_checkIndex_df160 : MKx yJ0_checkIndex_df160 cJ0_checkIndex_df160 2 none 2 := ⟨tb 528 (by decide +kernel) (by decide), tb 13 (by decide +kernel) (by decide), by decide +kernel, by decide +kernel⟩
theorem mkJ0_coder_7d493 : MKx yJ0_coder_7d493 cJ0_coder_7d493 1 (some .byte) 0 := ⟨tb 512 (by decide +kernel) (by decide), tb 13 (by decide +kernel) (by decide), by decide +kernel, by decide +kernel⟩
theorem vkJ0_coder_7d493 : VKx RJ0 yJ0_coder_7d493 := ⟨tb 510 (by decide +kernel) (by decide), tb 511 (by decide +kernel) (by decide)⟩
theorem mkJ0_isLatin1_aae02 : MKx yJ0_isLatin1_aae02 cJ0_isLatin1_aae02 1 (some .boolean) 0 := ⟨tb 522 (by decide +kernel) (by decide), tb 13 (by decide +kernel) (by decide), by decide +kernel, by decide +kernel⟩
theorem vkJ0_isLatin1_aae02 : VKx RJ0 yJ0_isLatin1_aae02 := ⟨tb 520 (by decide +kernel) (by decide), tb 521 (by decide +kernel) (by decide)⟩
theorem mkJ0_length_8abf5 : MKx yJ0_length_8abf5 cJ0_length_8abf5 1 (some .int) 0 := ⟨tb 508 (by decide +kernel) (by decide), tb 13 (by decide +kernel) (by decide), by decide +kernel, by decide +kernel⟩
theorem vkJ0_length_8abf5 : VKx RJ0 yJ0_length_8abf5 := ⟨tb 506 (by decide +kernel) (by decide), tb 507 (by decide +kernel) (by decide)⟩
theorem mkJ1_charAt_3b067 : MKx yJ1_charAt_3b067 cJ1_charAt_3b067 2 (some .char) 2 := ⟨tb 525 (by decide +kernel) (by decide), tb 14 (by decide +kernel) (by decide), by decide +kernel, by decide +kernel⟩
theorem mkJ2_charAt_3b067 : MKx yJ2_charAt_3b067 cJ2_charAt_3b067 2 (some .char) 2 := ⟨tb 536 (by decide +kernel) (by decide), tb 16 (by decide +kernel) (by decide), by decide +kernel, by decide +kernel⟩
theorem mkJ2_checkIndex_2214a : MKx yJ2_checkIndex_2214a cJ2_checkIndex_2214a 2 none 2 := ⟨tb 539 (by decide +kernel) (by decide), tb 16 (by decide +kernel) (by decide), by decide +kernel, by decide +kernel⟩
theorem mkJ2_getChar_3b067 : MKx yJ2_getChar_3b067 cJ2_getChar_3b067 2 (some .char) 2 := ⟨tb 546 (by decide +kernel) (by decide), tb 16 (by decide +kernel) (by decide), by decide +kernel, by decide +kernel⟩
theorem mkJ2_length_9d52b : MKx yJ2_length_9d52b cJ2_length_9d52b 1 (some .int) 1 := ⟨tb 542 (by decide +kernel) (by decide), tb 16 (by decide +kernel) (by decide), by decide +kernel, by decide +kernel⟩
theorem mkJ3_checkIndex_8e157 : MKx yJ3_checkIndex_8e157 cJ3_checkIndex_8e157 3 (some .int) 3 := ⟨tb 533 (by decide +kernel) (by decide), tb 15 (by decide +kernel) (by decide), by decide +kernel, by decide +kernel⟩
theorem mkJ6_bitCount_0f7a4 : MKx yJ6_bitCount_0f7a4 cJ6_bitCount_0f7a4 1 (some .int) 1 := ⟨tb 803 (by decide +kernel) (by decide), tb 19 (by decide +kernel) (by decide), by decide +kernel, by decide +kernel⟩
theorem mkJ9_abs_067f4 : MKx yJ9_abs_067f4 cJ9_abs_067f4 2 (some .long) 1 := ⟨tb 753 (by decide +kernel) (by decide), tb 18 (by decide +kernel) (by decide), by decide +kernel, by decide +kernel⟩
theorem mkJ9_min_7cf53 : MKx yJ9_min_7cf53 cJ9_min_7cf53 2 (some .int) 2 := ⟨tb 642 (by decide +kernel) (by decide), tb 18 (by decide +kernel) (by decide), by decide +kernel, by decide +kernel⟩
theorem mkX0_addLot : MKx yX0_addLot cX0_addLot 5 (some .int) 3 := ⟨tb 375 (by decide +kernel) (by decide), tb 2 (by decide +kernel) (by decide), by decide +kernel, by decide +kernel⟩
theorem vkX0_addLot : VKx RX0 yX0_addLot := ⟨tb 373 (by decide +kernel) (by decide), tb 374 (by decide +kernel) (by decide)⟩
theorem mkX0_addRoad : MKx yX0_addRoad cX0_addRoad 3 (some .int) 2 := ⟨tb 438 (by decide +kernel) (by decide), tb 2 (by decide +kernel) (by decide), by decide +kernel, by decide +kernel⟩
theorem vkX0_addRoad : VKx RX0 yX0_addRoad := ⟨tb 436 (by decide +kernel) (by decide), tb 437 (by decide +kernel) (by decide)⟩
theorem mkX0_become : MKx yX0_become cX0_become 2 none 1 := ⟨tb 578 (by decide +kernel) (by decide), tb 2 (by decide +kernel) (by decide), by decide +kernel, by decide +kernel⟩
theorem vkX0_become : VKx RX0 yX0_become := ⟨tb 576 (by decide +kernel) (by decide), tb 577 (by decide +kernel) (by decide)⟩
theorem mkX0_digestOn : MKx yX0_digestOn cX0_digestOn 6 (some .long) 1 := ⟨tb 935 (by decide +kernel) (by decide), tb 2 (by decide +kernel) (by decide), by decide +kernel, by decide +kernel⟩
theorem vkX0_digestOn : VKx RX0 yX0_digestOn := ⟨tb 933 (by decide +kernel) (by decide), tb 934 (by decide +kernel) (by decide)⟩
theorem mkX0_driveHeads : MKx yX0_driveHeads cX0_driveHeads 4 (some .int) 3 := ⟨tb 399 (by decide +kernel) (by decide), tb 2 (by decide +kernel) (by decide), by decide +kernel, by decide +kernel⟩
theorem vkX0_driveHeads : VKx RX0 yX0_driveHeads := ⟨tb 397 (by decide +kernel) (by decide), tb 398 (by decide +kernel) (by decide)⟩
theorem mkX0_dropLot : MKx yX0_dropLot cX0_dropLot 1 (some .int) 0 := ⟨tb 414 (by decide +kernel) (by decide), tb 2 (by decide +kernel) (by decide), by decide +kernel, by decide +kernel⟩
theorem vkX0_dropLot : VKx RX0 yX0_dropLot := ⟨tb 412 (by decide +kernel) (by decide), tb 413 (by decide +kernel) (by decide)⟩
theorem mkX0_init : MKx yX0_init cX0_init 1 none 0 := ⟨tb 32 (by decide +kernel) (by decide), tb 2 (by decide +kernel) (by decide), by decide +kernel, by decide +kernel⟩
theorem mkX0_moveLot : MKx yX0_moveLot cX0_moveLot 4 (some .int) 2 := ⟨tb 387 (by decide +kernel) (by decide), tb 2 (by decide +kernel) (by decide), by decide +kernel, by decide +kernel⟩
theorem vkX0_moveLot : VKx RX0 yX0_moveLot := ⟨tb 385 (by decide +kernel) (by decide), tb 386 (by decide +kernel) (by decide)⟩
theorem mkX0_passMoon : MKx yX0_passMoon cX0_passMoon 3 (some .int) 2 := ⟨tb 602 (by decide +kernel) (by decide), tb 2 (by decide +kernel) (by decide), by decide +kernel, by decide +kernel⟩
theorem vkX0_passMoon : VKx RX0 yX0_passMoon := ⟨tb 600 (by decide +kernel) (by decide), tb 601 (by decide +kernel) (by decide)⟩
theorem mkX0_setGrowth : MKx yX0_setGrowth cX0_setGrowth 3 (some .int) 1 := ⟨tb 422 (by decide +kernel) (by decide), tb 2 (by decide +kernel) (by decide), by decide +kernel, by decide +kernel⟩
theorem vkX0_setGrowth : VKx RX0 yX0_setGrowth := ⟨tb 420 (by decide +kernel) (by decide), tb 421 (by decide +kernel) (by decide)⟩
theorem mkX0_setGuard : MKx yX0_setGuard cX0_setGuard 3 (some .int) 2 := ⟨tb 455 (by decide +kernel) (by decide), tb 2 (by decide +kernel) (by decide), by decide +kernel, by decide +kernel⟩
theorem vkX0_setGuard : VKx RX0 yX0_setGuard := ⟨tb 453 (by decide +kernel) (by decide), tb 454 (by decide +kernel) (by decide)⟩
theorem mkX0_setOdds : MKx yX0_setOdds cX0_setOdds 4 (some .int) 2 := ⟨tb 430 (by decide +kernel) (by decide), tb 2 (by decide +kernel) (by decide), by decide +kernel, by decide +kernel⟩
theorem vkX0_setOdds : VKx RX0 yX0_setOdds := ⟨tb 428 (by decide +kernel) (by decide), tb 429 (by decide +kernel) (by decide)⟩
theorem mkX0_setTold : MKx yX0_setTold cX0_setTold 4 (some .int) 2 := ⟨tb 869 (by decide +kernel) (by decide), tb 2 (by decide +kernel) (by decide), by decide +kernel, by decide +kernel⟩
theorem vkX0_setTold : VKx RX0 yX0_setTold := ⟨tb 867 (by decide +kernel) (by decide), tb 868 (by decide +kernel) (by decide)⟩
theorem mkX0_startAnew : MKx yX0_startAnew cX0_startAnew 4 (some .int) 1 := ⟨tb 355 (by decide +kernel) (by decide), tb 2 (by decide +kernel) (by decide), by decide +kernel, by decide +kernel⟩
theorem vkX0_startAnew : VKx RX0 yX0_startAnew := ⟨tb 353 (by decide +kernel) (by decide), tb 354 (by decide +kernel) (by decide)⟩
theorem mkX0_undoLast : MKx yX0_undoLast cX0_undoLast 1 (some .int) 0 := ⟨tb 658 (by decide +kernel) (by decide), tb 2 (by decide +kernel) (by decide), by decide +kernel, by decide +kernel⟩
theorem vkX0_undoLast : VKx RX0 yX0_undoLast := ⟨tb 656 (by decide +kernel) (by decide), tb 657 (by decide +kernel) (by decide)⟩
theorem mkX10_chance : MKx yX10_chance cX10_chance 2 (some .int) 1 := ⟨tb 734 (by decide +kernel) (by decide), tb 1 (by decide +kernel) (by decide), by decide +kernel, by decide +kernel⟩
theorem vkX10_chance : VKx RX10 yX10_chance := ⟨tb 732 (by decide +kernel) (by decide), tb 733 (by decide +kernel) (by decide)⟩
theorem mkX10_clear : MKx yX10_clear cX10_clear 2 (some .int) 0 := ⟨tb 471 (by decide +kernel) (by decide), tb 1 (by decide +kernel) (by decide), by decide +kernel, by decide +kernel⟩
theorem vkX10_clear : VKx RX10 yX10_clear := ⟨tb 469 (by decide +kernel) (by decide), tb 470 (by decide +kernel) (by decide)⟩
theorem mkX10_cloud : MKx yX10_cloud cX10_cloud 3 (some .int) 2 := ⟨tb 426 (by decide +kernel) (by decide), tb 1 (by decide +kernel) (by decide), by decide +kernel, by decide +kernel⟩
theorem vkX10_cloud : VKx RX10 yX10_cloud := ⟨tb 424 (by decide +kernel) (by decide), tb 425 (by decide +kernel) (by decide)⟩
theorem mkX10_commonDivisor : MKx yX10_commonDivisor cX10_commonDivisor 7 (some .long) 2 := ⟨tb 756 (by decide +kernel) (by decide), tb 1 (by decide +kernel) (by decide), by decide +kernel, by decide +kernel⟩
theorem mkX10_count : MKx yX10_count cX10_count 2 (some .int) 1 := ⟨tb 921 (by decide +kernel) (by decide), tb 1 (by decide +kernel) (by decide), by decide +kernel, by decide +kernel⟩
theorem vkX10_count : VKx RX10 yX10_count := ⟨tb 919 (by decide +kernel) (by decide), tb 920 (by decide +kernel) (by decide)⟩
theorem mkX10_county : MKx yX10_county cX10_county 2 (some .int) 1 := ⟨tb 351 (by decide +kernel) (by decide), tb 1 (by decide +kernel) (by decide), by decide +kernel, by decide +kernel⟩
theorem vkX10_county : VKx RX10 yX10_county := ⟨tb 349 (by decide +kernel) (by decide), tb 350 (by decide +kernel) (by decide)⟩
theorem mkX10_cut : MKx yX10_cut cX10_cut 5 (some .int) 3 := ⟨tb 796 (by decide +kernel) (by decide), tb 1 (by decide +kernel) (by decide), by decide +kernel, by decide +kernel⟩
theorem vkX10_cut : VKx RX10 yX10_cut := ⟨tb 794 (by decide +kernel) (by decide), tb 795 (by decide +kernel) (by decide)⟩
theorem mkX10_digest : MKx yX10_digest cX10_digest 4 (some .long) 0 := ⟨tb 929 (by decide +kernel) (by decide), tb 1 (by decide +kernel) (by decide), by decide +kernel, by decide +kernel⟩
theorem vkX10_digest : VKx RX10 yX10_digest := ⟨tb 927 (by decide +kernel) (by decide), tb 928 (by decide +kernel) (by decide)⟩
theorem mkX10_drawn : MKx yX10_drawn cX10_drawn 9 (some .int) 2 := ⟨tb 894 (by decide +kernel) (by decide), tb 1 (by decide +kernel) (by decide), by decide +kernel, by decide +kernel⟩
theorem vkX10_drawn : VKx RX10 yX10_drawn := ⟨tb 892 (by decide +kernel) (by decide), tb 893 (by decide +kernel) (by decide)⟩
theorem mkX10_drive : MKx yX10_drive cX10_drive 4 (some .int) 3 := ⟨tb 395 (by decide +kernel) (by decide), tb 1 (by decide +kernel) (by decide), by decide +kernel, by decide +kernel⟩
theorem vkX10_drive : VKx RX10 yX10_drive := ⟨tb 393 (by decide +kernel) (by decide), tb 394 (by decide +kernel) (by decide)⟩
theorem mkX10_drop : MKx yX10_drop cX10_drop 1 (some .int) 0 := ⟨tb 410 (by decide +kernel) (by decide), tb 1 (by decide +kernel) (by decide), by decide +kernel, by decide +kernel⟩
theorem vkX10_drop : VKx RX10 yX10_drop := ⟨tb 408 (by decide +kernel) (by decide), tb 409 (by decide +kernel) (by decide)⟩
theorem mkX10_fit : MKx yX10_fit cX10_fit 4 (some .int) 2 := ⟨tb 873 (by decide +kernel) (by decide), tb 1 (by decide +kernel) (by decide), by decide +kernel, by decide +kernel⟩
theorem vkX10_fit : VKx RX10 yX10_fit := ⟨tb 871 (by decide +kernel) (by decide), tb 872 (by decide +kernel) (by decide)⟩
theorem mkX10_from : MKx yX10_from cX10_from 2 (some .int) 1 := ⟨tb 913 (by decide +kernel) (by decide), tb 1 (by decide +kernel) (by decide), by decide +kernel, by decide +kernel⟩
theorem vkX10_from : VKx RX10 yX10_from := ⟨tb 911 (by decide +kernel) (by decide), tb 912 (by decide +kernel) (by decide)⟩
theorem mkX10_game : MKx yX10_game cX10_game 4 (some .int) 3 := ⟨tb 816 (by decide +kernel) (by decide), tb 1 (by decide +kernel) (by decide), by decide +kernel, by decide +kernel⟩
theorem vkX10_game : VKx RX10 yX10_game := ⟨tb 814 (by decide +kernel) (by decide), tb 815 (by decide +kernel) (by decide)⟩
theorem mkX10_greatest : MKx yX10_greatest cX10_greatest 3 (some .int) 1 := ⟨tb 686 (by decide +kernel) (by decide), tb 1 (by decide +kernel) (by decide), by decide +kernel, by decide +kernel⟩
theorem vkX10_greatest : VKx RX10 yX10_greatest := ⟨tb 684 (by decide +kernel) (by decide), tb 685 (by decide +kernel) (by decide)⟩
theorem mkX10_growth : MKx yX10_growth cX10_growth 2 (some .int) 1 := ⟨tb 418 (by decide +kernel) (by decide), tb 1 (by decide +kernel) (by decide), by decide +kernel, by decide +kernel⟩
theorem vkX10_growth : VKx RX10 yX10_growth := ⟨tb 416 (by decide +kernel) (by decide), tb 417 (by decide +kernel) (by decide)⟩
theorem mkX10_guard : MKx yX10_guard cX10_guard 3 (some .int) 2 := ⟨tb 451 (by decide +kernel) (by decide), tb 1 (by decide +kernel) (by decide), by decide +kernel, by decide +kernel⟩
theorem vkX10_guard : VKx RX10 yX10_guard := ⟨tb 449 (by decide +kernel) (by decide), tb 450 (by decide +kernel) (by decide)⟩
theorem mkX10_howMany : MKx yX10_howMany cX10_howMany 2 (some .int) 1 := ⟨tb 925 (by decide +kernel) (by decide), tb 1 (by decide +kernel) (by decide), by decide +kernel, by decide +kernel⟩
theorem vkX10_howMany : VKx RX10 yX10_howMany := ⟨tb 924 (by decide +kernel) (by decide), tbp 26 (by decide +kernel) (by decide)⟩
theorem mkX10_image : MKx yX10_image cX10_image 2 (some .int) 1 := ⟨tb 909 (by decide +kernel) (by decide), tb 1 (by decide +kernel) (by decide), by decide +kernel, by decide +kernel⟩
theorem vkX10_image : VKx RX10 yX10_image := ⟨tb 907 (by decide +kernel) (by decide), tb 908 (by decide +kernel) (by decide)⟩
theorem mkX10_init : MKx yX10_init cX10_init 2 none 0 := ⟨tb 24 (by decide +kernel) (by decide), tb 1 (by decide +kernel) (by decide), by decide +kernel, by decide +kernel⟩
theorem mkX10_league : MKx yX10_league cX10_league 2 (some .int) 1 := ⟨tb 841 (by decide +kernel) (by decide), tb 1 (by decide +kernel) (by decide), by decide +kernel, by decide +kernel⟩
theorem vkX10_league : VKx RX10 yX10_league := ⟨tb 839 (by decide +kernel) (by decide), tb 840 (by decide +kernel) (by decide)⟩
theorem mkX10_least : MKx yX10_least cX10_least 4 (some .int) 3 := ⟨tb 697 (by decide +kernel) (by decide), tb 1 (by decide +kernel) (by decide), by decide +kernel, by decide +kernel⟩
theorem vkX10_least : VKx RX10 yX10_least := ⟨tb 695 (by decide +kernel) (by decide), tb 696 (by decide +kernel) (by decide)⟩
theorem mkX10_lot : MKx yX10_lot cX10_lot 4 (some .int) 3 := ⟨tb 371 (by decide +kernel) (by decide), tb 1 (by decide +kernel) (by decide), by decide +kernel, by decide +kernel⟩
theorem vkX10_lot : VKx RX10 yX10_lot := ⟨tb 369 (by decide +kernel) (by decide), tb 370 (by decide +kernel) (by decide)⟩
theorem mkX10_mean : MKx yX10_mean cX10_mean 2 (some .int) 1 := ⟨tb 760 (by decide +kernel) (by decide), tb 1 (by decide +kernel) (by decide), by decide +kernel, by decide +kernel⟩
theorem vkX10_mean : VKx RX10 yX10_mean := ⟨tb 758 (by decide +kernel) (by decide), tb 759 (by decide +kernel) (by decide)⟩
theorem mkX10_moon : MKx yX10_moon cX10_moon 3 (some .int) 2 := ⟨tb 598 (by decide +kernel) (by decide), tb 1 (by decide +kernel) (by decide), by decide +kernel, by decide +kernel⟩
theorem vkX10_moon : VKx RX10 yX10_moon := ⟨tb 596 (by decide +kernel) (by decide), tb 597 (by decide +kernel) (by decide)⟩
theorem mkX10_move : MKx yX10_move cX10_move 3 (some .int) 2 := ⟨tb 383 (by decide +kernel) (by decide), tb 1 (by decide +kernel) (by decide), by decide +kernel, by decide +kernel⟩
theorem vkX10_move : VKx RX10 yX10_move := ⟨tb 381 (by decide +kernel) (by decide), tb 382 (by decide +kernel) (by decide)⟩
theorem mkX10_of : MKx yX10_of cX10_of 4 (some .int) 2 := ⟨tb 666 (by decide +kernel) (by decide), tb 1 (by decide +kernel) (by decide), by decide +kernel, by decide +kernel⟩
theorem vkX10_of : VKx RX10 yX10_of := ⟨tb 664 (by decide +kernel) (by decide), tb 665 (by decide +kernel) (by decide)⟩
theorem mkX10_ordersWith : MKx yX10_ordersWith cX10_ordersWith 3 (some .long) 2 := ⟨tb 853 (by decide +kernel) (by decide), tb 1 (by decide +kernel) (by decide), by decide +kernel, by decide +kernel⟩
theorem mkX10_painting : MKx yX10_painting cX10_painting 3 (some .int) 2 := ⟨tb 773 (by decide +kernel) (by decide), tb 1 (by decide +kernel) (by decide), by decide +kernel, by decide +kernel⟩
theorem vkX10_painting : VKx RX10 yX10_painting := ⟨tb 771 (by decide +kernel) (by decide), tb 772 (by decide +kernel) (by decide)⟩
theorem mkX10_part : MKx yX10_part cX10_part 2 (some .long) 1 := ⟨tb 904 (by decide +kernel) (by decide), tb 1 (by decide +kernel) (by decide), by decide +kernel, by decide +kernel⟩
theorem vkX10_part : VKx RX10 yX10_part := ⟨tb 902 (by decide +kernel) (by decide), tb 903 (by decide +kernel) (by decide)⟩
theorem mkX10_pays : MKx yX10_pays cX10_pays 6 (some .int) 2 := ⟨tb 859 (by decide +kernel) (by decide), tb 1 (by decide +kernel) (by decide), by decide +kernel, by decide +kernel⟩
theorem vkX10_pays : VKx RX10 yX10_pays := ⟨tb 857 (by decide +kernel) (by decide), tb 858 (by decide +kernel) (by decide)⟩
theorem mkX10_read : MKx yX10_read cX10_read 3 (some .int) 0 := ⟨tb 475 (by decide +kernel) (by decide), tb 1 (by decide +kernel) (by decide), by decide +kernel, by decide +kernel⟩
theorem vkX10_read : VKx RX10 yX10_read := ⟨tb 473 (by decide +kernel) (by decide), tb 474 (by decide +kernel) (by decide)⟩
theorem mkX10_refuseAsBad : MKx yX10_refuseAsBad cX10_refuseAsBad 2 (some .int) 1 := ⟨tb 691 (by decide +kernel) (by decide), tb 1 (by decide +kernel) (by decide), by decide +kernel, by decide +kernel⟩
theorem vkX10_refuseAsBad : VKx RX10 yX10_refuseAsBad := ⟨tb 690 (by decide +kernel) (by decide), tbp 11 (by decide +kernel) (by decide)⟩
theorem mkX10_road : MKx yX10_road cX10_road 3 (some .int) 2 := ⟨tb 434 (by decide +kernel) (by decide), tb 1 (by decide +kernel) (by decide), by decide +kernel, by decide +kernel⟩
theorem vkX10_road : VKx RX10 yX10_road := ⟨tb 432 (by decide +kernel) (by decide), tb 433 (by decide +kernel) (by decide)⟩
theorem mkX10_setFraction : MKx yX10_setFraction cX10_setFraction 7 none 2 := ⟨tb 750 (by decide +kernel) (by decide), tb 1 (by decide +kernel) (by decide), by decide +kernel, by decide +kernel⟩
theorem vkX10_setFraction : VKx RX10 yX10_setFraction := ⟨tb 749 (by decide +kernel) (by decide), tbp 18 (by decide +kernel) (by decide)⟩
theorem mkX10_share : MKx yX10_share cX10_share 9 (some .int) 1 := ⟨tb 850 (by decide +kernel) (by decide), tb 1 (by decide +kernel) (by decide), by decide +kernel, by decide +kernel⟩
theorem vkX10_share : VKx RX10 yX10_share := ⟨tb 848 (by decide +kernel) (by decide), tb 849 (by decide +kernel) (by decide)⟩
theorem mkX10_status : MKx yX10_status cX10_status 2 (some .int) 1 := ⟨tb 917 (by decide +kernel) (by decide), tb 1 (by decide +kernel) (by decide), by decide +kernel, by decide +kernel⟩
theorem vkX10_status : VKx RX10 yX10_status := ⟨tb 915 (by decide +kernel) (by decide), tb 916 (by decide +kernel) (by decide)⟩
theorem mkX10_tally : MKx yX10_tally cX10_tally 2 (some .int) 1 := ⟨tb 367 (by decide +kernel) (by decide), tb 1 (by decide +kernel) (by decide), by decide +kernel, by decide +kernel⟩
theorem vkX10_tally : VKx RX10 yX10_tally := ⟨tb 366 (by decide +kernel) (by decide), tbp 0 (by decide +kernel) (by decide)⟩
theorem mkX10_tellItem : MKx yX10_tellItem cX10_tellItem 4 (some .int) 1 := ⟨tb 570 (by decide +kernel) (by decide), tb 1 (by decide +kernel) (by decide), by decide +kernel, by decide +kernel⟩
theorem vkX10_tellItem : VKx RX10 yX10_tellItem := ⟨tb 569 (by decide +kernel) (by decide), tbp 8 (by decide +kernel) (by decide)⟩
theorem mkX10_told : MKx yX10_told cX10_told 3 (some .int) 2 := ⟨tb 865 (by decide +kernel) (by decide), tb 1 (by decide +kernel) (by decide), by decide +kernel, by decide +kernel⟩
theorem vkX10_told : VKx RX10 yX10_told := ⟨tb 863 (by decide +kernel) (by decide), tb 864 (by decide +kernel) (by decide)⟩
theorem mkX10_type : MKx yX10_type cX10_type 2 (some .int) 1 := ⟨tb 463 (by decide +kernel) (by decide), tb 1 (by decide +kernel) (by decide), by decide +kernel, by decide +kernel⟩
theorem vkX10_type : VKx RX10 yX10_type := ⟨tb 461 (by decide +kernel) (by decide), tb 462 (by decide +kernel) (by decide)⟩
theorem mkX10_undo : MKx yX10_undo cX10_undo 1 (some .int) 0 := ⟨tb 654 (by decide +kernel) (by decide), tb 1 (by decide +kernel) (by decide), by decide +kernel, by decide +kernel⟩
theorem vkX10_undo : VKx RX10 yX10_undo := ⟨tb 652 (by decide +kernel) (by decide), tb 653 (by decide +kernel) (by decide)⟩
theorem mkX10_unseen : MKx yX10_unseen cX10_unseen 3 (some .int) 2 := ⟨tb 783 (by decide +kernel) (by decide), tb 1 (by decide +kernel) (by decide), by decide +kernel, by decide +kernel⟩
theorem vkX10_unseen : VKx RX10 yX10_unseen := ⟨tb 781 (by decide +kernel) (by decide), tb 782 (by decide +kernel) (by decide)⟩
theorem mkX10_village : MKx yX10_village cX10_village 4 (some .int) 2 := ⟨tb 673 (by decide +kernel) (by decide), tb 1 (by decide +kernel) (by decide), by decide +kernel, by decide +kernel⟩
theorem vkX10_village : VKx RX10 yX10_village := ⟨tb 671 (by decide +kernel) (by decide), tb 672 (by decide +kernel) (by decide)⟩
theorem mkX11_all : MKx yX11_all cX11_all 1 (some .int) 0 := ⟨tb 1155 (by decide +kernel) (by decide), tb 11 (by decide +kernel) (by decide), by decide +kernel, by decide +kernel⟩
theorem vkX11_all : VKx RX11 yX11_all := ⟨tb 1154 (by decide +kernel) (by decide), tbp 44 (by decide +kernel) (by decide)⟩
theorem mkX11_areTwo : MKx yX11_areTwo cX11_areTwo 3 (some .boolean) 2 := ⟨tb 1082 (by decide +kernel) (by decide), tb 11 (by decide +kernel) (by decide), by decide +kernel, by decide +kernel⟩
theorem vkX11_areTwo : VKx RX11 yX11_areTwo := ⟨tb 1081 (by decide +kernel) (by decide), tbp 36 (by decide +kernel) (by decide)⟩
theorem mkX11_asNow : MKx yX11_asNow cX11_asNow 2 none 0 := ⟨tb 1147 (by decide +kernel) (by decide), tb 11 (by decide +kernel) (by decide), by decide +kernel, by decide +kernel⟩
theorem vkX11_asNow : VKx RX11 yX11_asNow := ⟨tb 1146 (by decide +kernel) (by decide), tbp 42 (by decide +kernel) (by decide)⟩
theorem mkX11_bad : MKx yX11_bad cX11_bad 1 (some .int) 0 := ⟨tb 1019 (by decide +kernel) (by decide), tb 11 (by decide +kernel) (by decide), by decide +kernel, by decide +kernel⟩
theorem vkX11_bad : VKx RX11 yX11_bad := ⟨tb 1018 (by decide +kernel) (by decide), tbp 28 (by decide +kernel) (by decide)⟩
theorem mkX11_begins : MKx yX11_begins cX11_begins 3 none 1 := ⟨tb 946 (by decide +kernel) (by decide), tb 11 (by decide +kernel) (by decide), by decide +kernel, by decide +kernel⟩
theorem vkX11_begins : VKx RX11 yX11_begins := ⟨tb 945 (by decide +kernel) (by decide), tbp 27 (by decide +kernel) (by decide)⟩
theorem mkX11_bits : MKx yX11_bits cX11_bits 3 (some .int) 1 := ⟨tb 1258 (by decide +kernel) (by decide), tb 11 (by decide +kernel) (by decide), by decide +kernel, by decide +kernel⟩
theorem mkX11_chance : MKx yX11_chance cX11_chance 5 (some .int) 1 := ⟨tb 1212 (by decide +kernel) (by decide), tb 11 (by decide +kernel) (by decide), by decide +kernel, by decide +kernel⟩
theorem vkX11_chance : VKx RX11 yX11_chance := ⟨tb 1210 (by decide +kernel) (by decide), tb 1211 (by decide +kernel) (by decide)⟩
theorem mkX11_clear : MKx yX11_clear cX11_clear 2 (some .int) 0 := ⟨tb 1095 (by decide +kernel) (by decide), tb 11 (by decide +kernel) (by decide), by decide +kernel, by decide +kernel⟩
theorem vkX11_clear : VKx RX11 yX11_clear := ⟨tb 1093 (by decide +kernel) (by decide), tb 1094 (by decide +kernel) (by decide)⟩
theorem mkX11_cloud : MKx yX11_cloud cX11_cloud 3 (some .int) 2 := ⟨tb 1073 (by decide +kernel) (by decide), tb 11 (by decide +kernel) (by decide), by decide +kernel, by decide +kernel⟩
theorem vkX11_cloud : VKx RX11 yX11_cloud := ⟨tb 1071 (by decide +kernel) (by decide), tb 1072 (by decide +kernel) (by decide)⟩
theorem mkX11_count : MKx yX11_count cX11_count 2 (some .int) 1 := ⟨tb 1326 (by decide +kernel) (by decide), tb 11 (by decide +kernel) (by decide), by decide +kernel, by decide +kernel⟩
theorem vkX11_count : VKx RX11 yX11_count := ⟨tb 1324 (by decide +kernel) (by decide), tb 1325 (by decide +kernel) (by decide)⟩
theorem mkX11_countOf : MKx yX11_countOf cX11_countOf 2 (some .int) 1 := ⟨tb 1331 (by decide +kernel) (by decide), tb 11 (by decide +kernel) (by decide), by decide +kernel, by decide +kernel⟩
theorem vkX11_countOf : VKx RX11 yX11_countOf := ⟨tb 1330 (by decide +kernel) (by decide), tbp 58 (by decide +kernel) (by decide)⟩
theorem mkX11_county : MKx yX11_county cX11_county 3 (some .int) 1 := ⟨tb 1011 (by decide +kernel) (by decide), tb 11 (by decide +kernel) (by decide), by decide +kernel, by decide +kernel⟩
theorem vkX11_county : VKx RX11 yX11_county := ⟨tb 1009 (by decide +kernel) (by decide), tb 1010 (by decide +kernel) (by decide)⟩
theorem mkX11_cut : MKx yX11_cut cX11_cut 8 (some .int) 3 := ⟨tb 1255 (by decide +kernel) (by decide), tb 11 (by decide +kernel) (by decide), by decide +kernel, by decide +kernel⟩
theorem vkX11_cut : VKx RX11 yX11_cut := ⟨tb 1253 (by decide +kernel) (by decide), tb 1254 (by decide +kernel) (by decide)⟩
theorem mkX11_digest : MKx yX11_digest cX11_digest 4 (some .long) 0 := ⟨tb 1335 (by decide +kernel) (by decide), tb 11 (by decide +kernel) (by decide), by decide +kernel, by decide +kernel⟩
theorem vkX11_digest : VKx RX11 yX11_digest := ⟨tb 1333 (by decide +kernel) (by decide), tb 1334 (by decide +kernel) (by decide)⟩
theorem mkX11_divisor : MKx yX11_divisor cX11_divisor 10 (some .long) 2 := ⟨tb 1227 (by decide +kernel) (by decide), tb 11 (by decide +kernel) (by decide), by decide +kernel, by decide +kernel⟩
theorem mkX11_drawn : MKx yX11_drawn cX11_drawn 9 (some .int) 2 := ⟨tb 1299 (by decide +kernel) (by decide), tb 11 (by decide +kernel) (by decide), by decide +kernel, by decide +kernel⟩
theorem vkX11_drawn : VKx RX11 yX11_drawn := ⟨tb 1297 (by decide +kernel) (by decide), tb 1298 (by decide +kernel) (by decide)⟩
theorem mkX11_drive : MKx yX11_drive cX11_drive 4 (some .int) 3 := ⟨tb 1052 (by decide +kernel) (by decide), tb 11 (by decide +kernel) (by decide), by decide +kernel, by decide +kernel⟩
theorem vkX11_drive : VKx RX11 yX11_drive := ⟨tb 1050 (by decide +kernel) (by decide), tb 1051 (by decide +kernel) (by decide)⟩
theorem mkX11_drop : MKx yX11_drop cX11_drop 1 (some .int) 0 := ⟨tb 1064 (by decide +kernel) (by decide), tb 11 (by decide +kernel) (by decide), by decide +kernel, by decide +kernel⟩
theorem vkX11_drop : VKx RX11 yX11_drop := ⟨tb 1062 (by decide +kernel) (by decide), tb 1063 (by decide +kernel) (by decide)⟩
theorem mkX11_fit : MKx yX11_fit cX11_fit 9 (some .int) 2 := ⟨tb 1294 (by decide +kernel) (by decide), tb 11 (by decide +kernel) (by decide), by decide +kernel, by decide +kernel⟩
theorem vkX11_fit : VKx RX11 yX11_fit := ⟨tb 1292 (by decide +kernel) (by decide), tb 1293 (by decide +kernel) (by decide)⟩
theorem mkX11_from : MKx yX11_from cX11_from 3 (some .int) 1 := ⟨tb 1318 (by decide +kernel) (by decide), tb 11 (by decide +kernel) (by decide), by decide +kernel, by decide +kernel⟩
theorem vkX11_from : VKx RX11 yX11_from := ⟨tb 1316 (by decide +kernel) (by decide), tb 1317 (by decide +kernel) (by decide)⟩
theorem mkX11_full : MKx yX11_full cX11_full 1 (some .int) 0 := ⟨tb 1036 (by decide +kernel) (by decide), tb 11 (by decide +kernel) (by decide), by decide +kernel, by decide +kernel⟩
theorem vkX11_full : VKx RX11 yX11_full := ⟨tb 1035 (by decide +kernel) (by decide), tbp 31 (by decide +kernel) (by decide)⟩
theorem mkX11_game : MKx yX11_game cX11_game 12 (some .int) 3 := ⟨tb 1266 (by decide +kernel) (by decide), tb 11 (by decide +kernel) (by decide), by decide +kernel, by decide +kernel⟩
theorem vkX11_game : VKx RX11 yX11_game := ⟨tb 1264 (by decide +kernel) (by decide), tb 1265 (by decide +kernel) (by decide)⟩
theorem mkX11_goes : MKx yX11_goes cX11_goes 13 (some .int) 4 := ⟨tb 1151 (by decide +kernel) (by decide), tb 11 (by decide +kernel) (by decide), by decide +kernel, by decide +kernel⟩
theorem vkX11_goes : VKx RX11 yX11_goes := ⟨tb 1150 (by decide +kernel) (by decide), tbp 43 (by decide +kernel) (by decide)⟩
theorem mkX11_greatest : MKx yX11_greatest cX11_greatest 2 (some .int) 1 := ⟨tb 1190 (by decide +kernel) (by decide), tb 11 (by decide +kernel) (by decide), by decide +kernel, by decide +kernel⟩
theorem vkX11_greatest : VKx RX11 yX11_greatest := ⟨tb 1188 (by decide +kernel) (by decide), tb 1189 (by decide +kernel) (by decide)⟩
theorem mkX11_greatestOf : MKx yX11_greatestOf cX11_greatestOf 9 (some .int) 4 := ⟨tb 1159 (by decide +kernel) (by decide), tb 11 (by decide +kernel) (by decide), by decide +kernel, by decide +kernel⟩
theorem vkX11_greatestOf : VKx RX11 yX11_greatestOf := ⟨tb 1158 (by decide +kernel) (by decide), tbp 45 (by decide +kernel) (by decide)⟩
theorem mkX11_growth : MKx yX11_growth cX11_growth 2 (some .int) 1 := ⟨tb 1068 (by decide +kernel) (by decide), tb 11 (by decide +kernel) (by decide), by decide +kernel, by decide +kernel⟩
theorem vkX11_growth : VKx RX11 yX11_growth := ⟨tb 1066 (by decide +kernel) (by decide), tb 1067 (by decide +kernel) (by decide)⟩
theorem mkX11_guard : MKx yX11_guard cX11_guard 4 (some .int) 2 := ⟨tb 1086 (by decide +kernel) (by decide), tb 11 (by decide +kernel) (by decide), by decide +kernel, by decide +kernel⟩
theorem vkX11_guard : VKx RX11 yX11_guard := ⟨tb 1084 (by decide +kernel) (by decide), tb 1085 (by decide +kernel) (by decide)⟩
theorem mkX11_headsOf : MKx yX11_headsOf cX11_headsOf 4 (some .int) 1 := ⟨tb 1186 (by decide +kernel) (by decide), tb 11 (by decide +kernel) (by decide), by decide +kernel, by decide +kernel⟩
theorem vkX11_headsOf : VKx RX11 yX11_headsOf := ⟨tb 1185 (by decide +kernel) (by decide), tbp 47 (by decide +kernel) (by decide)⟩
theorem mkX11_image : MKx yX11_image cX11_image 3 (some .int) 1 := ⟨tb 1314 (by decide +kernel) (by decide), tb 11 (by decide +kernel) (by decide), by decide +kernel, by decide +kernel⟩
theorem vkX11_image : VKx RX11 yX11_image := ⟨tb 1312 (by decide +kernel) (by decide), tb 1313 (by decide +kernel) (by decide)⟩
theorem mkX11_in : MKx yX11_in cX11_in 6 (some .boolean) 3 := ⟨tb 1015 (by decide +kernel) (by decide), tb 11 (by decide +kernel) (by decide), by decide +kernel, by decide +kernel⟩
theorem mkX11_init : MKx yX11_init cX11_init 1 none 0 := ⟨tb 941 (by decide +kernel) (by decide), tb 11 (by decide +kernel) (by decide), by decide +kernel, by decide +kernel⟩
theorem mkX11_isAt : MKx yX11_isAt cX11_isAt 3 (some .boolean) 2 := ⟨tb 1111 (by decide +kernel) (by decide), tb 11 (by decide +kernel) (by decide), by decide +kernel, by decide +kernel⟩
theorem vkX11_isAt : VKx RX11 yX11_isAt := ⟨tb 1110 (by decide +kernel) (by decide), tbp 39 (by decide +kernel) (by decide)⟩
theorem mkX11_isLot : MKx yX11_isLot cX11_isLot 2 (some .boolean) 1 := ⟨tb 1044 (by decide +kernel) (by decide), tb 11 (by decide +kernel) (by decide), by decide +kernel, by decide +kernel⟩
theorem vkX11_isLot : VKx RX11 yX11_isLot := ⟨tb 1043 (by decide +kernel) (by decide), tbp 32 (by decide +kernel) (by decide)⟩
theorem mkX11_isSet : MKx yX11_isSet cX11_isSet 2 (some .boolean) 1 := ⟨tb 1143 (by decide +kernel) (by decide), tb 11 (by decide +kernel) (by decide), by decide +kernel, by decide +kernel⟩
theorem vkX11_isSet : VKx RX11 yX11_isSet := ⟨tb 1142 (by decide +kernel) (by decide), tbp 41 (by decide +kernel) (by decide)⟩
theorem mkX11_isVillage : MKx yX11_isVillage cX11_isVillage 2 (some .boolean) 1 := ⟨tb 1031 (by decide +kernel) (by decide), tb 11 (by decide +kernel) (by decide), by decide +kernel, by decide +kernel⟩
theorem vkX11_isVillage : VKx RX11 yX11_isVillage := ⟨tb 1030 (by decide +kernel) (by decide), tbp 30 (by decide +kernel) (by decide)⟩
theorem mkX11_keeps : MKx yX11_keeps cX11_keeps 7 (some .int) 2 := ⟨tb 1224 (by decide +kernel) (by decide), tb 11 (by decide +kernel) (by decide), by decide +kernel, by decide +kernel⟩
theorem vkX11_keeps : VKx RX11 yX11_keeps := ⟨tb 1223 (by decide +kernel) (by decide), tbp 53 (by decide +kernel) (by decide)⟩
theorem mkX11_league : MKx yX11_league cX11_league 2 (some .int) 1 := ⟨tb 1273 (by decide +kernel) (by decide), tb 11 (by decide +kernel) (by decide), by decide +kernel, by decide +kernel⟩
theorem vkX11_league : VKx RX11 yX11_league := ⟨tb 1271 (by decide +kernel) (by decide), tb 1272 (by decide +kernel) (by decide)⟩
theorem mkX11_least : MKx yX11_least cX11_least 11 (some .int) 3 := ⟨tb 1194 (by decide +kernel) (by decide), tb 11 (by decide +kernel) (by decide), by decide +kernel, by decide +kernel⟩
theorem vkX11_least : VKx RX11 yX11_least := ⟨tb 1192 (by decide +kernel) (by decide), tb 1193 (by decide +kernel) (by decide)⟩
theorem mkX11_loss : MKx yX11_loss cX11_loss 7 (some .int) 5 := ⟨tb 1269 (by decide +kernel) (by decide), tb 11 (by decide +kernel) (by decide), by decide +kernel, by decide +kernel⟩
theorem mkX11_lot : MKx yX11_lot cX11_lot 5 (some .int) 3 := ⟨tb 1027 (by decide +kernel) (by decide), tb 11 (by decide +kernel) (by decide), by decide +kernel, by decide +kernel⟩
theorem vkX11_lot : VKx RX11 yX11_lot := ⟨tb 1025 (by decide +kernel) (by decide), tb 1026 (by decide +kernel) (by decide)⟩
theorem mkX11_mean : MKx yX11_mean cX11_mean 2 (some .int) 1 := ⟨tb 1231 (by decide +kernel) (by decide), tb 11 (by decide +kernel) (by decide), by decide +kernel, by decide +kernel⟩
theorem vkX11_mean : VKx RX11 yX11_mean := ⟨tb 1229 (by decide +kernel) (by decide), tb 1230 (by decide +kernel) (by decide)⟩
theorem mkX11_meanOf : MKx yX11_meanOf cX11_meanOf 8 (some .long) 3 := ⟨tb 1235 (by decide +kernel) (by decide), tb 11 (by decide +kernel) (by decide), by decide +kernel, by decide +kernel⟩
theorem vkX11_meanOf : VKx RX11 yX11_meanOf := ⟨tb 1234 (by decide +kernel) (by decide), tbp 54 (by decide +kernel) (by decide)⟩
theorem mkX11_mixed : MKx yX11_mixed cX11_mixed 8 (some .long) 3 := ⟨tb 1341 (by decide +kernel) (by decide), tb 11 (by decide +kernel) (by decide), by decide +kernel, by decide +kernel⟩
theorem vkX11_mixed : VKx RX11 yX11_mixed := ⟨tb 1340 (by decide +kernel) (by decide), tbp 59 (by decide +kernel) (by decide)⟩
theorem mkX11_moon : MKx yX11_moon cX11_moon 5 (some .int) 2 := ⟨tb 1139 (by decide +kernel) (by decide), tb 11 (by decide +kernel) (by decide), by decide +kernel, by decide +kernel⟩
theorem vkX11_moon : VKx RX11 yX11_moon := ⟨tb 1137 (by decide +kernel) (by decide), tb 1138 (by decide +kernel) (by decide)⟩
theorem mkX11_move : MKx yX11_move cX11_move 3 (some .int) 2 := ⟨tb 1040 (by decide +kernel) (by decide), tb 11 (by decide +kernel) (by decide), by decide +kernel, by decide +kernel⟩
theorem vkX11_move : VKx RX11 yX11_move := ⟨tb 1038 (by decide +kernel) (by decide), tb 1039 (by decide +kernel) (by decide)⟩
theorem mkX11_no : MKx yX11_no cX11_no 1 (some .int) 0 := ⟨tb 1056 (by decide +kernel) (by decide), tb 11 (by decide +kernel) (by decide), by decide +kernel, by decide +kernel⟩
theorem vkX11_no : VKx RX11 yX11_no := ⟨tb 1055 (by decide +kernel) (by decide), tbp 34 (by decide +kernel) (by decide)⟩
theorem mkX11_numbers : MKx yX11_numbers cX11_numbers 1 (some .int) 1 := ⟨tb 1125 (by decide +kernel) (by decide), tb 11 (by decide +kernel) (by decide), by decide +kernel, by decide +kernel⟩
theorem mkX11_of : MKx yX11_of cX11_of 6 (some .int) 2 := ⟨tb 1177 (by decide +kernel) (by decide), tb 11 (by decide +kernel) (by decide), by decide +kernel, by decide +kernel⟩
theorem vkX11_of : VKx RX11 yX11_of := ⟨tb 1175 (by decide +kernel) (by decide), tb 1176 (by decide +kernel) (by decide)⟩
theorem mkX11_openRoads : MKx yX11_openRoads cX11_openRoads 3 (some .int) 0 := ⟨tb 1247 (by decide +kernel) (by decide), tb 11 (by decide +kernel) (by decide), by decide +kernel, by decide +kernel⟩
theorem vkX11_openRoads : VKx RX11 yX11_openRoads := ⟨tb 1246 (by decide +kernel) (by decide), tbp 55 (by decide +kernel) (by decide)⟩
theorem mkX11_orders : MKx yX11_orders cX11_orders 3 (some .int) 1 := ⟨tb 1280 (by decide +kernel) (by decide), tb 11 (by decide +kernel) (by decide), by decide +kernel, by decide +kernel⟩
theorem mkX11_painting : MKx yX11_painting cX11_painting 9 (some .int) 2 := ⟨tb 1239 (by decide +kernel) (by decide), tb 11 (by decide +kernel) (by decide), by decide +kernel, by decide +kernel⟩
theorem vkX11_painting : VKx RX11 yX11_painting := ⟨tb 1237 (by decide +kernel) (by decide), tb 1238 (by decide +kernel) (by decide)⟩
theorem mkX11_part : MKx yX11_part cX11_part 2 (some .long) 1 := ⟨tb 1309 (by decide +kernel) (by decide), tb 11 (by decide +kernel) (by decide), by decide +kernel, by decide +kernel⟩
theorem vkX11_part : VKx RX11 yX11_part := ⟨tb 1307 (by decide +kernel) (by decide), tb 1308 (by decide +kernel) (by decide)⟩
theorem mkX11_pays : MKx yX11_pays cX11_pays 6 (some .int) 2 := ⟨tb 1284 (by decide +kernel) (by decide), tb 11 (by decide +kernel) (by decide), by decide +kernel, by decide +kernel⟩
theorem vkX11_pays : VKx RX11 yX11_pays := ⟨tb 1282 (by decide +kernel) (by decide), tb 1283 (by decide +kernel) (by decide)⟩
theorem mkX11_puts : MKx yX11_puts cX11_puts 4 (some .int) 2 := ⟨tb 1048 (by decide +kernel) (by decide), tb 11 (by decide +kernel) (by decide), by decide +kernel, by decide +kernel⟩
theorem vkX11_puts : VKx RX11 yX11_puts := ⟨tb 1047 (by decide +kernel) (by decide), tbp 33 (by decide +kernel) (by decide)⟩
theorem mkX11_reaches : MKx yX11_reaches cX11_reaches 5 (some .int) 2 := ⟨tb 1262 (by decide +kernel) (by decide), tb 11 (by decide +kernel) (by decide), by decide +kernel, by decide +kernel⟩
theorem vkX11_reaches : VKx RX11 yX11_reaches := ⟨tb 1261 (by decide +kernel) (by decide), tbp 57 (by decide +kernel) (by decide)⟩
theorem mkX11_read : MKx yX11_read cX11_read 3 (some .int) 0 := ⟨tb 1099 (by decide +kernel) (by decide), tb 11 (by decide +kernel) (by decide), by decide +kernel, by decide +kernel⟩
theorem vkX11_read : VKx RX11 yX11_read := ⟨tb 1097 (by decide +kernel) (by decide), tb 1098 (by decide +kernel) (by decide)⟩
theorem mkX11_reads : MKx yX11_reads cX11_reads 3 (some .boolean) 0 := ⟨tb 1103 (by decide +kernel) (by decide), tb 11 (by decide +kernel) (by decide), by decide +kernel, by decide +kernel⟩
theorem vkX11_reads : VKx RX11 yX11_reads := ⟨tb 1102 (by decide +kernel) (by decide), tbp 37 (by decide +kernel) (by decide)⟩
theorem mkX11_refuses : MKx yX11_refuses cX11_refuses 3 (some .int) 2 := ⟨tb 1023 (by decide +kernel) (by decide), tb 11 (by decide +kernel) (by decide), by decide +kernel, by decide +kernel⟩
theorem vkX11_refuses : VKx RX11 yX11_refuses := ⟨tb 1022 (by decide +kernel) (by decide), tbp 29 (by decide +kernel) (by decide)⟩
theorem mkX11_remembers : MKx yX11_remembers cX11_remembers 3 none 0 := ⟨tb 1060 (by decide +kernel) (by decide), tb 11 (by decide +kernel) (by decide), by decide +kernel, by decide +kernel⟩
theorem vkX11_remembers : VKx RX11 yX11_remembers := ⟨tb 1059 (by decide +kernel) (by decide), tbp 35 (by decide +kernel) (by decide)⟩
theorem mkX11_road : MKx yX11_road cX11_road 6 (some .int) 2 := ⟨tb 1078 (by decide +kernel) (by decide), tb 11 (by decide +kernel) (by decide), by decide +kernel, by decide +kernel⟩
theorem vkX11_road : VKx RX11 yX11_road := ⟨tb 1076 (by decide +kernel) (by decide), tb 1077 (by decide +kernel) (by decide)⟩
theorem mkX11_scans : MKx yX11_scans cX11_scans 3 none 0 := ⟨tb 1107 (by decide +kernel) (by decide), tb 11 (by decide +kernel) (by decide), by decide +kernel, by decide +kernel⟩
theorem vkX11_scans : VKx RX11 yX11_scans := ⟨tb 1106 (by decide +kernel) (by decide), tbp 38 (by decide +kernel) (by decide)⟩
theorem mkX11_seenOf : MKx yX11_seenOf cX11_seenOf 5 (some .int) 3 := ⟨tb 1166 (by decide +kernel) (by decide), tb 11 (by decide +kernel) (by decide), by decide +kernel, by decide +kernel⟩
theorem mkX11_share : MKx yX11_share cX11_share 9 (some .int) 1 := ⟨tb 1277 (by decide +kernel) (by decide), tb 11 (by decide +kernel) (by decide), by decide +kernel, by decide +kernel⟩
theorem vkX11_share : VKx RX11 yX11_share := ⟨tb 1275 (by decide +kernel) (by decide), tb 1276 (by decide +kernel) (by decide)⟩
theorem mkX11_sightOf : MKx yX11_sightOf cX11_sightOf 5 (some .int) 2 := ⟨tb 1163 (by decide +kernel) (by decide), tb 11 (by decide +kernel) (by decide), by decide +kernel, by decide +kernel⟩
theorem vkX11_sightOf : VKx RX11 yX11_sightOf := ⟨tb 1162 (by decide +kernel) (by decide), tbp 46 (by decide +kernel) (by decide)⟩
theorem mkX11_status : MKx yX11_status cX11_status 2 (some .int) 1 := ⟨tb 1322 (by decide +kernel) (by decide), tb 11 (by decide +kernel) (by decide), by decide +kernel, by decide +kernel⟩
theorem vkX11_status : VKx RX11 yX11_status := ⟨tb 1320 (by decide +kernel) (by decide), tb 1321 (by decide +kernel) (by decide)⟩
theorem mkX11_steps : MKx yX11_steps cX11_steps 8 (some .int) 2 := ⟨tb 1251 (by decide +kernel) (by decide), tb 11 (by decide +kernel) (by decide), by decide +kernel, by decide +kernel⟩
theorem vkX11_steps : VKx RX11 yX11_steps := ⟨tb 1250 (by decide +kernel) (by decide), tbp 56 (by decide +kernel) (by decide)⟩
theorem mkX11_takenNow : MKx yX11_takenNow cX11_takenNow 3 (some .int) 1 := ⟨tb 1204 (by decide +kernel) (by decide), tb 11 (by decide +kernel) (by decide), by decide +kernel, by decide +kernel⟩
theorem vkX11_takenNow : VKx RX11 yX11_takenNow := ⟨tb 1203 (by decide +kernel) (by decide), tbp 49 (by decide +kernel) (by decide)⟩
theorem mkX11_takenOf : MKx yX11_takenOf cX11_takenOf 3 (some .int) 2 := ⟨tb 1169 (by decide +kernel) (by decide), tb 11 (by decide +kernel) (by decide), by decide +kernel, by decide +kernel⟩
theorem mkX11_tellsItem : MKx yX11_tellsItem cX11_tellsItem 7 (some .boolean) 1 := ⟨tb 1129 (by decide +kernel) (by decide), tb 11 (by decide +kernel) (by decide), by decide +kernel, by decide +kernel⟩
theorem vkX11_tellsItem : VKx RX11 yX11_tellsItem := ⟨tb 1128 (by decide +kernel) (by decide), tbp 40 (by decide +kernel) (by decide)⟩
theorem mkX11_tithe : MKx yX11_tithe cX11_tithe 4 (some .int) 1 := ⟨tb 1208 (by decide +kernel) (by decide), tb 11 (by decide +kernel) (by decide), by decide +kernel, by decide +kernel⟩
theorem vkX11_tithe : VKx RX11 yX11_tithe := ⟨tb 1207 (by decide +kernel) (by decide), tbp 50 (by decide +kernel) (by decide)⟩
theorem mkX11_told : MKx yX11_told cX11_told 3 (some .int) 2 := ⟨tb 1289 (by decide +kernel) (by decide), tb 11 (by decide +kernel) (by decide), by decide +kernel, by decide +kernel⟩
theorem vkX11_told : VKx RX11 yX11_told := ⟨tb 1287 (by decide +kernel) (by decide), tb 1288 (by decide +kernel) (by decide)⟩
theorem mkX11_tries : MKx yX11_tries cX11_tries 5 none 3 := ⟨tb 1200 (by decide +kernel) (by decide), tb 11 (by decide +kernel) (by decide), by decide +kernel, by decide +kernel⟩
theorem vkX11_tries : VKx RX11 yX11_tries := ⟨tb 1199 (by decide +kernel) (by decide), tbp 48 (by decide +kernel) (by decide)⟩
theorem mkX11_type : MKx yX11_type cX11_type 2 (some .int) 1 := ⟨tb 1090 (by decide +kernel) (by decide), tb 11 (by decide +kernel) (by decide), by decide +kernel, by decide +kernel⟩
theorem vkX11_type : VKx RX11 yX11_type := ⟨tb 1088 (by decide +kernel) (by decide), tb 1089 (by decide +kernel) (by decide)⟩
theorem mkX11_undo : MKx yX11_undo cX11_undo 3 (some .int) 0 := ⟨tb 1173 (by decide +kernel) (by decide), tb 11 (by decide +kernel) (by decide), by decide +kernel, by decide +kernel⟩
theorem vkX11_undo : VKx RX11 yX11_undo := ⟨tb 1171 (by decide +kernel) (by decide), tb 1172 (by decide +kernel) (by decide)⟩
theorem mkX11_unseen : MKx yX11_unseen cX11_unseen 5 (some .int) 2 := ⟨tb 1243 (by decide +kernel) (by decide), tb 11 (by decide +kernel) (by decide), by decide +kernel, by decide +kernel⟩
theorem vkX11_unseen : VKx RX11 yX11_unseen := ⟨tb 1241 (by decide +kernel) (by decide), tb 1242 (by decide +kernel) (by decide)⟩
theorem mkX11_verbOf : MKx yX11_verbOf cX11_verbOf 4 (some .int) 1 := ⟨tb 1116 (by decide +kernel) (by decide), tb 11 (by decide +kernel) (by decide), by decide +kernel, by decide +kernel⟩
theorem mkX11_village : MKx yX11_village cX11_village 3 (some .int) 2 := ⟨tb 1182 (by decide +kernel) (by decide), tb 11 (by decide +kernel) (by decide), by decide +kernel, by decide +kernel⟩
theorem vkX11_village : VKx RX11 yX11_village := ⟨tb 1180 (by decide +kernel) (by decide), tb 1181 (by decide +kernel) (by decide)⟩
theorem mkX11_waysOf : MKx yX11_waysOf cX11_waysOf 5 (some .long) 1 := ⟨tb 1216 (by decide +kernel) (by decide), tb 11 (by decide +kernel) (by decide), by decide +kernel, by decide +kernel⟩
theorem vkX11_waysOf : VKx RX11 yX11_waysOf := ⟨tb 1215 (by decide +kernel) (by decide), tbp 51 (by decide +kernel) (by decide)⟩
theorem mkX11_whole : MKx yX11_whole cX11_whole 4 (some .long) 0 := ⟨tb 1220 (by decide +kernel) (by decide), tb 11 (by decide +kernel) (by decide), by decide +kernel, by decide +kernel⟩
theorem vkX11_whole : VKx RX11 yX11_whole := ⟨tb 1219 (by decide +kernel) (by decide), tbp 52 (by decide +kernel) (by decide)⟩
theorem mkX1_init : MKx yX1_init cX1_init 2 none 0 := ⟨tb 281 (by decide +kernel) (by decide), tb 10 (by decide +kernel) (by decide), by decide +kernel, by decide +kernel⟩
theorem mkX1_rowsFrom : MKx yX1_rowsFrom cX1_rowsFrom 9 (some .int) 3 := ⟨tb 882 (by decide +kernel) (by decide), tb 10 (by decide +kernel) (by decide), by decide +kernel, by decide +kernel⟩
theorem vkX1_rowsFrom : VKx RX1 yX1_rowsFrom := ⟨tb 881 (by decide +kernel) (by decide), tbp 24 (by decide +kernel) (by decide)⟩
theorem mkX1_search : MKx yX1_search cX1_search 3 (some .int) 2 := ⟨tb 877 (by decide +kernel) (by decide), tb 10 (by decide +kernel) (by decide), by decide +kernel, by decide +kernel⟩
theorem vkX1_search : VKx RX1 yX1_search := ⟨tb 875 (by decide +kernel) (by decide), tb 876 (by decide +kernel) (by decide)⟩
theorem mkX1_sortClouds : MKx yX1_sortClouds cX1_sortClouds 5 none 1 := ⟨tb 886 (by decide +kernel) (by decide), tb 10 (by decide +kernel) (by decide), by decide +kernel, by decide +kernel⟩
theorem vkX1_sortClouds : VKx RX1 yX1_sortClouds := ⟨tb 885 (by decide +kernel) (by decide), tbp 25 (by decide +kernel) (by decide)⟩
theorem mkX2_init : MKx yX2_init cX2_init 1 none 0 := ⟨tb 257 (by decide +kernel) (by decide), tb 9 (by decide +kernel) (by decide), by decide +kernel, by decide +kernel⟩
theorem mkX2_lossOfOne : MKx yX2_lossOfOne cX2_lossOfOne 3 (some .int) 2 := ⟨tb 829 (by decide +kernel) (by decide), tb 9 (by decide +kernel) (by decide), by decide +kernel, by decide +kernel⟩
theorem vkX2_lossOfOne : VKx RX2 yX2_lossOfOne := ⟨tb 828 (by decide +kernel) (by decide), tbp 21 (by decide +kernel) (by decide)⟩
theorem mkX2_lossOfOther : MKx yX2_lossOfOther cX2_lossOfOther 3 (some .int) 2 := ⟨tb 837 (by decide +kernel) (by decide), tb 9 (by decide +kernel) (by decide), by decide +kernel, by decide +kernel⟩
theorem vkX2_lossOfOther : VKx RX2 yX2_lossOfOther := ⟨tb 836 (by decide +kernel) (by decide), tbp 23 (by decide +kernel) (by decide)⟩
theorem mkX2_rests : MKx yX2_rests cX2_rests 4 (some .boolean) 2 := ⟨tb 825 (by decide +kernel) (by decide), tb 9 (by decide +kernel) (by decide), by decide +kernel, by decide +kernel⟩
theorem vkX2_rests : VKx RX2 yX2_rests := ⟨tb 824 (by decide +kernel) (by decide), tbp 20 (by decide +kernel) (by decide)⟩
theorem mkX2_search : MKx yX2_search cX2_search 6 none 3 := ⟨tb 820 (by decide +kernel) (by decide), tb 9 (by decide +kernel) (by decide), by decide +kernel, by decide +kernel⟩
theorem vkX2_search : VKx RX2 yX2_search := ⟨tb 818 (by decide +kernel) (by decide), tb 819 (by decide +kernel) (by decide)⟩
theorem mkX2_takesFromOne : MKx yX2_takesFromOne cX2_takesFromOne 5 (some .boolean) 2 := ⟨tb 833 (by decide +kernel) (by decide), tb 9 (by decide +kernel) (by decide), by decide +kernel, by decide +kernel⟩
theorem vkX2_takesFromOne : VKx RX2 yX2_takesFromOne := ⟨tb 832 (by decide +kernel) (by decide), tbp 22 (by decide +kernel) (by decide)⟩
theorem mkX3_become : MKx yX3_become cX3_become 2 none 1 := ⟨tb 582 (by decide +kernel) (by decide), tb 3 (by decide +kernel) (by decide), by decide +kernel, by decide +kernel⟩
theorem vkX3_become : VKx RX3 yX3_become := ⟨tb 580 (by decide +kernel) (by decide), tb 581 (by decide +kernel) (by decide)⟩
theorem mkX3_fullMoon : MKx yX3_fullMoon cX3_fullMoon 6 (some .int) 2 := ⟨tb 610 (by decide +kernel) (by decide), tb 3 (by decide +kernel) (by decide), by decide +kernel, by decide +kernel⟩
theorem vkX3_fullMoon : VKx RX3 yX3_fullMoon := ⟨tb 608 (by decide +kernel) (by decide), tb 609 (by decide +kernel) (by decide)⟩
theorem mkX3_greatestBut : MKx yX3_greatestBut cX3_greatestBut 2 (some .int) 1 := ⟨tb 625 (by decide +kernel) (by decide), tb 3 (by decide +kernel) (by decide), by decide +kernel, by decide +kernel⟩
theorem vkX3_greatestBut : VKx RX3 yX3_greatestBut := ⟨tb 623 (by decide +kernel) (by decide), tb 624 (by decide +kernel) (by decide)⟩
theorem mkX3_greatestIn : MKx yX3_greatestIn cX3_greatestIn 6 (some .int) 3 := ⟨tb 628 (by decide +kernel) (by decide), tb 3 (by decide +kernel) (by decide), by decide +kernel, by decide +kernel⟩
theorem mkX3_growAll : MKx yX3_growAll cX3_growAll 2 none 0 := ⟨tb 646 (by decide +kernel) (by decide), tb 3 (by decide +kernel) (by decide), by decide +kernel, by decide +kernel⟩
theorem vkX3_growAll : VKx RX3 yX3_growAll := ⟨tb 645 (by decide +kernel) (by decide), tbp 10 (by decide +kernel) (by decide)⟩
theorem mkX3_hasClouds : MKx yX3_hasClouds cX3_hasClouds 2 (some .boolean) 1 := ⟨tb 606 (by decide +kernel) (by decide), tb 3 (by decide +kernel) (by decide), by decide +kernel, by decide +kernel⟩
theorem vkX3_hasClouds : VKx RX3 yX3_hasClouds := ⟨tb 604 (by decide +kernel) (by decide), tb 605 (by decide +kernel) (by decide)⟩
theorem mkX3_hasLot : MKx yX3_hasLot cX3_hasLot 2 (some .boolean) 1 := ⟨tb 391 (by decide +kernel) (by decide), tb 3 (by decide +kernel) (by decide), by decide +kernel, by decide +kernel⟩
theorem vkX3_hasLot : VKx RX3 yX3_hasLot := ⟨tb 389 (by decide +kernel) (by decide), tb 390 (by decide +kernel) (by decide)⟩
theorem mkX3_hasPair : MKx yX3_hasPair cX3_hasPair 3 (some .boolean) 2 := ⟨tb 442 (by decide +kernel) (by decide), tb 3 (by decide +kernel) (by decide), by decide +kernel, by decide +kernel⟩
theorem vkX3_hasPair : VKx RX3 yX3_hasPair := ⟨tb 440 (by decide +kernel) (by decide), tb 441 (by decide +kernel) (by decide)⟩
theorem mkX3_hasVillage : MKx yX3_hasVillage cX3_hasVillage 2 (some .boolean) 1 := ⟨tb 379 (by decide +kernel) (by decide), tb 3 (by decide +kernel) (by decide), by decide +kernel, by decide +kernel⟩
theorem vkX3_hasVillage : VKx RX3 yX3_hasVillage := ⟨tb 377 (by decide +kernel) (by decide), tb 378 (by decide +kernel) (by decide)⟩
theorem mkX3_headsIn : MKx yX3_headsIn cX3_headsIn 4 (some .int) 1 := ⟨tb 682 (by decide +kernel) (by decide), tb 3 (by decide +kernel) (by decide), by decide +kernel, by decide +kernel⟩
theorem vkX3_headsIn : VKx RX3 yX3_headsIn := ⟨tb 680 (by decide +kernel) (by decide), tb 681 (by decide +kernel) (by decide)⟩
theorem mkX3_init : MKx yX3_init cX3_init 1 none 0 := ⟨tb 38 (by decide +kernel) (by decide), tb 3 (by decide +kernel) (by decide), by decide +kernel, by decide +kernel⟩
theorem mkX3_look : MKx yX3_look cX3_look 2 none 0 := ⟨tb 614 (by decide +kernel) (by decide), tb 3 (by decide +kernel) (by decide), by decide +kernel, by decide +kernel⟩
theorem vkX3_look : VKx RX3 yX3_look := ⟨tb 612 (by decide +kernel) (by decide), tb 613 (by decide +kernel) (by decide)⟩
theorem mkX3_seenOf : MKx yX3_seenOf cX3_seenOf 2 (some .int) 1 := ⟨tb 618 (by decide +kernel) (by decide), tb 3 (by decide +kernel) (by decide), by decide +kernel, by decide +kernel⟩
theorem vkX3_seenOf : VKx RX3 yX3_seenOf := ⟨tb 616 (by decide +kernel) (by decide), tb 617 (by decide +kernel) (by decide)⟩
theorem mkX3_sightOf : MKx yX3_sightOf cX3_sightOf 4 (some .int) 1 := ⟨tb 678 (by decide +kernel) (by decide), tb 3 (by decide +kernel) (by decide), by decide +kernel, by decide +kernel⟩
theorem vkX3_sightOf : VKx RX3 yX3_sightOf := ⟨tb 676 (by decide +kernel) (by decide), tb 677 (by decide +kernel) (by decide)⟩
theorem mkX3_startAnew : MKx yX3_startAnew cX3_startAnew 2 none 1 := ⟨tb 359 (by decide +kernel) (by decide), tb 3 (by decide +kernel) (by decide), by decide +kernel, by decide +kernel⟩
theorem vkX3_startAnew : VKx RX3 yX3_startAnew := ⟨tb 357 (by decide +kernel) (by decide), tb 358 (by decide +kernel) (by decide)⟩
theorem mkX3_takeFrom : MKx yX3_takeFrom cX3_takeFrom 5 (some .int) 1 := ⟨tb 632 (by decide +kernel) (by decide), tb 3 (by decide +kernel) (by decide), by decide +kernel, by decide +kernel⟩
theorem vkX3_takeFrom : VKx RX3 yX3_takeFrom := ⟨tb 631 (by decide +kernel) (by decide), tbp 9 (by decide +kernel) (by decide)⟩
theorem mkX3_takenFromLeague : MKx yX3_takenFromLeague cX3_takenFromLeague 3 (some .int) 1 := ⟨tb 845 (by decide +kernel) (by decide), tb 3 (by decide +kernel) (by decide), by decide +kernel, by decide +kernel⟩
theorem vkX3_takenFromLeague : VKx RX3 yX3_takenFromLeague := ⟨tb 843 (by decide +kernel) (by decide), tb 844 (by decide +kernel) (by decide)⟩
theorem mkX3_takenOf : MKx yX3_takenOf cX3_takenOf 2 (some .int) 1 := ⟨tb 636 (by decide +kernel) (by decide), tb 3 (by decide +kernel) (by decide), by decide +kernel, by decide +kernel⟩
theorem vkX3_takenOf : VKx RX3 yX3_takenOf := ⟨tb 634 (by decide +kernel) (by decide), tb 635 (by decide +kernel) (by decide)⟩
theorem mkX3_tollOf : MKx yX3_tollOf cX3_tollOf 4 (some .int) 1 := ⟨tb 707 (by decide +kernel) (by decide), tb 3 (by decide +kernel) (by decide), by decide +kernel, by decide +kernel⟩
theorem vkX3_tollOf : VKx RX3 yX3_tollOf := ⟨tb 705 (by decide +kernel) (by decide), tb 706 (by decide +kernel) (by decide)⟩
theorem mkX4_grows : MKx yX4_grows cX4_grows 1 (some .boolean) 1 := ⟨tb 649 (by decide +kernel) (by decide), tb 17 (by decide +kernel) (by decide), by decide +kernel, by decide +kernel⟩
theorem mkX4_seen : MKx yX4_seen cX4_seen 6 (some .int) 3 := ⟨tb 621 (by decide +kernel) (by decide), tb 17 (by decide +kernel) (by decide), by decide +kernel, by decide +kernel⟩
theorem mkX4_taken : MKx yX4_taken cX4_taken 3 (some .int) 2 := ⟨tb 639 (by decide +kernel) (by decide), tb 17 (by decide +kernel) (by decide), by decide +kernel, by decide +kernel⟩
theorem mkX5_init : MKx yX5_init cX5_init 1 none 0 := ⟨tb 224 (by decide +kernel) (by decide), tb 8 (by decide +kernel) (by decide), by decide +kernel, by decide +kernel⟩
theorem mkX5_search : MKx yX5_search cX5_search 5 none 3 := ⟨tb 701 (by decide +kernel) (by decide), tb 8 (by decide +kernel) (by decide), by decide +kernel, by decide +kernel⟩
theorem vkX5_search : VKx RX5 yX5_search := ⟨tb 699 (by decide +kernel) (by decide), tb 700 (by decide +kernel) (by decide)⟩
theorem mkX5_shift : MKx yX5_shift cX5_shift 4 none 3 := ⟨tb 720 (by decide +kernel) (by decide), tb 8 (by decide +kernel) (by decide), by decide +kernel, by decide +kernel⟩
theorem vkX5_shift : VKx RX5 yX5_shift := ⟨tb 719 (by decide +kernel) (by decide), tbp 14 (by decide +kernel) (by decide)⟩
theorem mkX5_takenNow : MKx yX5_takenNow cX5_takenNow 2 (some .int) 0 := ⟨tb 711 (by decide +kernel) (by decide), tb 8 (by decide +kernel) (by decide), by decide +kernel, by decide +kernel⟩
theorem vkX5_takenNow : VKx RX5 yX5_takenNow := ⟨tb 710 (by decide +kernel) (by decide), tbp 12 (by decide +kernel) (by decide)⟩
theorem mkX5_tryLastMove : MKx yX5_tryLastMove cX5_tryLastMove 6 none 2 := ⟨tb 716 (by decide +kernel) (by decide), tb 8 (by decide +kernel) (by decide), by decide +kernel, by decide +kernel⟩
theorem vkX5_tryLastMove : VKx RX5 yX5_tryLastMove := ⟨tb 715 (by decide +kernel) (by decide), tbp 13 (by decide +kernel) (by decide)⟩
theorem mkX5_tryTwoMoves : MKx yX5_tryTwoMoves cX5_tryTwoMoves 4 none 0 := ⟨tb 730 (by decide +kernel) (by decide), tb 8 (by decide +kernel) (by decide), by decide +kernel, by decide +kernel⟩
theorem vkX5_tryTwoMoves : VKx RX5 yX5_tryTwoMoves := ⟨tb 729 (by decide +kernel) (by decide), tbp 16 (by decide +kernel) (by decide)⟩
theorem mkX5_weigh : MKx yX5_weigh cX5_weigh 4 none 2 := ⟨tb 726 (by decide +kernel) (by decide), tb 8 (by decide +kernel) (by decide), by decide +kernel, by decide +kernel⟩
theorem vkX5_weigh : VKx RX5 yX5_weigh := ⟨tb 725 (by decide +kernel) (by decide), tbp 15 (by decide +kernel) (by decide)⟩
theorem mkX6_become : MKx yX6_become cX6_become 2 none 1 := ⟨tb 592 (by decide +kernel) (by decide), tb 5 (by decide +kernel) (by decide), by decide +kernel, by decide +kernel⟩
theorem vkX6_become : VKx RX6 yX6_become := ⟨tb 590 (by decide +kernel) (by decide), tb 591 (by decide +kernel) (by decide)⟩
theorem mkX6_init : MKx yX6_init cX6_init 1 none 0 := ⟨tb 115 (by decide +kernel) (by decide), tb 5 (by decide +kernel) (by decide), by decide +kernel, by decide +kernel⟩
theorem mkX6_keep : MKx yX6_keep cX6_keep 2 none 1 := ⟨tb 403 (by decide +kernel) (by decide), tb 5 (by decide +kernel) (by decide), by decide +kernel, by decide +kernel⟩
theorem vkX6_keep : VKx RX6 yX6_keep := ⟨tb 401 (by decide +kernel) (by decide), tb 402 (by decide +kernel) (by decide)⟩
theorem mkX6_putBack : MKx yX6_putBack cX6_putBack 2 (some .int) 1 := ⟨tb 662 (by decide +kernel) (by decide), tb 5 (by decide +kernel) (by decide), by decide +kernel, by decide +kernel⟩
theorem vkX6_putBack : VKx RX6 yX6_putBack := ⟨tb 660 (by decide +kernel) (by decide), tb 661 (by decide +kernel) (by decide)⟩
theorem mkX7_add : MKx yX7_add cX7_add 4 (some .int) 2 := ⟨tb 447 (by decide +kernel) (by decide), tb 4 (by decide +kernel) (by decide), by decide +kernel, by decide +kernel⟩
theorem vkX7_add : VKx RX7 yX7_add := ⟨tb 445 (by decide +kernel) (by decide), tb 446 (by decide +kernel) (by decide)⟩
theorem mkX7_become : MKx yX7_become cX7_become 2 none 1 := ⟨tb 587 (by decide +kernel) (by decide), tb 4 (by decide +kernel) (by decide), by decide +kernel, by decide +kernel⟩
theorem vkX7_become : VKx RX7 yX7_become := ⟨tb 585 (by decide +kernel) (by decide), tb 586 (by decide +kernel) (by decide)⟩
theorem mkX7_fewestGuards : MKx yX7_fewestGuards cX7_fewestGuards 6 (some .int) 2 := ⟨tb 800 (by decide +kernel) (by decide), tb 4 (by decide +kernel) (by decide), by decide +kernel, by decide +kernel⟩
theorem vkX7_fewestGuards : VKx RX7 yX7_fewestGuards := ⟨tb 798 (by decide +kernel) (by decide), tb 799 (by decide +kernel) (by decide)⟩
theorem mkX7_init : MKx yX7_init cX7_init 1 none 0 := ⟨tb 90 (by decide +kernel) (by decide), tb 4 (by decide +kernel) (by decide), by decide +kernel, by decide +kernel⟩
theorem mkX7_isGuarded : MKx yX7_isGuarded cX7_isGuarded 2 (some .boolean) 1 := ⟨tb 459 (by decide +kernel) (by decide), tb 4 (by decide +kernel) (by decide), by decide +kernel, by decide +kernel⟩
theorem vkX7_isGuarded : VKx RX7 yX7_isGuarded := ⟨tb 457 (by decide +kernel) (by decide), tb 458 (by decide +kernel) (by decide)⟩
theorem mkX7_shortestWay : MKx yX7_shortestWay cX7_shortestWay 5 (some .int) 2 := ⟨tb 788 (by decide +kernel) (by decide), tb 4 (by decide +kernel) (by decide), by decide +kernel, by decide +kernel⟩
theorem vkX7_shortestWay : VKx RX7 yX7_shortestWay := ⟨tb 786 (by decide +kernel) (by decide), tb 787 (by decide +kernel) (by decide)⟩
theorem mkX7_sideOf : MKx yX7_sideOf cX7_sideOf 5 (some .int) 2 := ⟨tb 810 (by decide +kernel) (by decide), tb 4 (by decide +kernel) (by decide), by decide +kernel, by decide +kernel⟩
theorem vkX7_sideOf : VKx RX7 yX7_sideOf := ⟨tb 808 (by decide +kernel) (by decide), tb 809 (by decide +kernel) (by decide)⟩
theorem mkX7_spread : MKx yX7_spread cX7_spread 5 (some .int) 2 := ⟨tb 792 (by decide +kernel) (by decide), tb 4 (by decide +kernel) (by decide), by decide +kernel, by decide +kernel⟩
theorem vkX7_spread : VKx RX7 yX7_spread := ⟨tb 791 (by decide +kernel) (by decide), tbp 19 (by decide +kernel) (by decide)⟩
theorem mkX7_startAnew : MKx yX7_startAnew cX7_startAnew 1 none 0 := ⟨tb 363 (by decide +kernel) (by decide), tb 4 (by decide +kernel) (by decide), by decide +kernel, by decide +kernel⟩
theorem vkX7_startAnew : VKx RX7 yX7_startAnew := ⟨tb 361 (by decide +kernel) (by decide), tb 362 (by decide +kernel) (by decide)⟩
theorem mkX8_append : MKx yX8_append cX8_append 2 (some .int) 1 := ⟨tb 467 (by decide +kernel) (by decide), tb 6 (by decide +kernel) (by decide), by decide +kernel, by decide +kernel⟩
theorem vkX8_append : VKx RX8 yX8_append := ⟨tb 465 (by decide +kernel) (by decide), tb 466 (by decide +kernel) (by decide)⟩
theorem mkX8_init : MKx yX8_init cX8_init 1 none 0 := ⟨tb 158 (by decide +kernel) (by decide), tb 6 (by decide +kernel) (by decide), by decide +kernel, by decide +kernel⟩
theorem mkX8_isFigure : MKx yX8_isFigure cX8_isFigure 2 (some .boolean) 1 := ⟨tb 556 (by decide +kernel) (by decide), tb 6 (by decide +kernel) (by decide), by decide +kernel, by decide +kernel⟩
theorem vkX8_isFigure : VKx RX8 yX8_isFigure := ⟨tb 555 (by decide +kernel) (by decide), tbp 5 (by decide +kernel) (by decide)⟩
theorem mkX8_isLetter : MKx yX8_isLetter cX8_isLetter 2 (some .boolean) 1 := ⟨tb 487 (by decide +kernel) (by decide), tb 6 (by decide +kernel) (by decide), by decide +kernel, by decide +kernel⟩
theorem vkX8_isLetter : VKx RX8 yX8_isLetter := ⟨tb 486 (by decide +kernel) (by decide), tbp 2 (by decide +kernel) (by decide)⟩
theorem mkX8_nameOf : MKx yX8_nameOf cX8_nameOf 1 (some (.object "java/lang/String")) 1 := ⟨tb 494 (by decide +kernel) (by decide), tb 6 (by decide +kernel) (by decide), by decide +kernel, by decide +kernel⟩
theorem mkX8_numberOf : MKx yX8_numberOf cX8_numberOf 3 (some .int) 2 := ⟨tb 574 (by decide +kernel) (by decide), tb 6 (by decide +kernel) (by decide), by decide +kernel, by decide +kernel⟩
theorem vkX8_numberOf : VKx RX8 yX8_numberOf := ⟨tb 572 (by decide +kernel) (by decide), tb 573 (by decide +kernel) (by decide)⟩
theorem mkX8_parse : MKx yX8_parse cX8_parse 2 (some .int) 0 := ⟨tb 479 (by decide +kernel) (by decide), tb 6 (by decide +kernel) (by decide), by decide +kernel, by decide +kernel⟩
theorem vkX8_parse : VKx RX8 yX8_parse := ⟨tb 477 (by decide +kernel) (by decide), tb 478 (by decide +kernel) (by decide)⟩
theorem mkX8_parseItem : MKx yX8_parseItem cX8_parseItem 4 (some .boolean) 1 := ⟨tb 564 (by decide +kernel) (by decide), tb 6 (by decide +kernel) (by decide), by decide +kernel, by decide +kernel⟩
theorem vkX8_parseItem : VKx RX8 yX8_parseItem := ⟨tb 563 (by decide +kernel) (by decide), tbp 7 (by decide +kernel) (by decide)⟩
theorem mkX8_step : MKx yX8_step cX8_step 1 none 0 := ⟨tb 483 (by decide +kernel) (by decide), tb 6 (by decide +kernel) (by decide), by decide +kernel, by decide +kernel⟩
theorem vkX8_step : VKx RX8 yX8_step := ⟨tb 482 (by decide +kernel) (by decide), tbp 1 (by decide +kernel) (by decide)⟩
theorem mkX8_stepOverNumber : MKx yX8_stepOverNumber cX8_stepOverNumber 1 none 0 := ⟨tb 560 (by decide +kernel) (by decide), tb 6 (by decide +kernel) (by decide), by decide +kernel, by decide +kernel⟩
theorem vkX8_stepOverNumber : VKx RX8 yX8_stepOverNumber := ⟨tb 559 (by decide +kernel) (by decide), tbp 6 (by decide +kernel) (by decide)⟩
theorem mkX8_stepOverWord : MKx yX8_stepOverWord cX8_stepOverWord 2 none 0 := ⟨tb 491 (by decide +kernel) (by decide), tb 6 (by decide +kernel) (by decide), by decide +kernel, by decide +kernel⟩
theorem vkX8_stepOverWord : VKx RX8 yX8_stepOverWord := ⟨tb 490 (by decide +kernel) (by decide), tbp 3 (by decide +kernel) (by decide)⟩
theorem mkX8_tokenIs : MKx yX8_tokenIs cX8_tokenIs 3 (some .boolean) 1 := ⟨tb 504 (by decide +kernel) (by decide), tb 6 (by decide +kernel) (by decide), by decide +kernel, by decide +kernel⟩
theorem vkX8_tokenIs : VKx RX8 yX8_tokenIs := ⟨tb 503 (by decide +kernel) (by decide), tbp 4 (by decide +kernel) (by decide)⟩
theorem mkX9_bestPainting : MKx yX9_bestPainting cX9_bestPainting 8 (some .int) 3 := ⟨tb 777 (by decide +kernel) (by decide), tb 7 (by decide +kernel) (by decide), by decide +kernel, by decide +kernel⟩
theorem vkX9_bestPainting : VKx RX9 yX9_bestPainting := ⟨tb 775 (by decide +kernel) (by decide), tb 776 (by decide +kernel) (by decide)⟩
theorem mkX9_casesOf : MKx yX9_casesOf cX9_casesOf 6 (some .long) 2 := ⟨tb 746 (by decide +kernel) (by decide), tb 7 (by decide +kernel) (by decide), by decide +kernel, by decide +kernel⟩
theorem vkX9_casesOf : VKx RX9 yX9_casesOf := ⟨tb 745 (by decide +kernel) (by decide), tbp 17 (by decide +kernel) (by decide)⟩
theorem mkX9_foresee : MKx yX9_foresee cX9_foresee 6 none 3 := ⟨tb 738 (by decide +kernel) (by decide), tb 7 (by decide +kernel) (by decide), by decide +kernel, by decide +kernel⟩
theorem vkX9_foresee : VKx RX9 yX9_foresee := ⟨tb 736 (by decide +kernel) (by decide), tb 737 (by decide +kernel) (by decide)⟩
theorem mkX9_init : MKx yX9_init cX9_init 1 none 0 := ⟨tb 199 (by decide +kernel) (by decide), tb 7 (by decide +kernel) (by decide), by decide +kernel, by decide +kernel⟩
theorem mkX9_lossOf : MKx yX9_lossOf cX9_lossOf 2 (some .long) 1 := ⟨tb 768 (by decide +kernel) (by decide), tb 7 (by decide +kernel) (by decide), by decide +kernel, by decide +kernel⟩
theorem vkX9_lossOf : VKx RX9 yX9_lossOf := ⟨tb 766 (by decide +kernel) (by decide), tb 767 (by decide +kernel) (by decide)⟩
theorem mkX9_lossOfAll : MKx yX9_lossOfAll cX9_lossOfAll 4 (some .long) 0 := ⟨tb 764 (by decide +kernel) (by decide), tb 7 (by decide +kernel) (by decide), by decide +kernel, by decide +kernel⟩
theorem vkX9_lossOfAll : VKx RX9 yX9_lossOfAll := ⟨tb 762 (by decide +kernel) (by decide), tb 763 (by decide +kernel) (by decide)⟩
theorem cvJ0_335 : CVx RJ0 335 yJ0_coder_7d493 := tb 509 (by decide +kernel) (by decide)
theorem cvJ0_492 : CVx RJ0 492 yJ0_isLatin1_aae02 := tb 519 (by decide +kernel) (by decide)
theorem cvJ0_495 : CVx RJ0 495 yJ1_charAt_3b067 := tb 523 (by decide +kernel) (by decide)
theorem cvJ0_498 : CVx RJ0 498 yJ2_charAt_3b067 := tb 534 (by decide +kernel) (by decide)
theorem cvJ0_1059 : CVx RJ0 1059 yJ3_checkIndex_8e157 := tb 531 (by decide +kernel) (by decide)
theorem cvJ1_9 : CVx RJ1 9 yJ0_checkIndex_df160 := tb 526 (by decide +kernel) (by decide)
theorem cvJ2_48 : CVx RJ2 48 yJ2_length_9d52b := tb 540 (by decide +kernel) (by decide)
theorem cvJ2_67 : CVx RJ2 67 yJ2_checkIndex_2214a := tb 537 (by decide +kernel) (by decide)
theorem cvJ2_71 : CVx RJ2 71 yJ2_getChar_3b067 := tb 544 (by decide +kernel) (by decide)
theorem cvJ2_414 : CVx RJ2 414 yJ0_checkIndex_df160 := tb 543 (by decide +kernel) (by decide)
theorem cvL_9 : CVx RL 9 yX10_init := tb 22 (by decide +kernel) (by decide)
theorem cvL_12 : CVx RL 12 yX11_init := tb 939 (by decide +kernel) (by decide)
theorem cvL_13 : CVx RL 13 yX10_county := tb 348 (by decide +kernel) (by decide)
theorem cvL_17 : CVx RL 17 yX11_county := tb 1008 (by decide +kernel) (by decide)
theorem cvL_18 : CVx RL 18 yX10_lot := tb 368 (by decide +kernel) (by decide)
theorem cvL_22 : CVx RL 22 yX11_lot := tb 1024 (by decide +kernel) (by decide)
theorem cvL_23 : CVx RL 23 yX10_move := tb 380 (by decide +kernel) (by decide)
theorem cvL_27 : CVx RL 27 yX11_move := tb 1037 (by decide +kernel) (by decide)
theorem cvL_28 : CVx RL 28 yX10_drive := tb 392 (by decide +kernel) (by decide)
theorem cvL_31 : CVx RL 31 yX11_drive := tb 1049 (by decide +kernel) (by decide)
theorem cvL_32 : CVx RL 32 yX10_drop := tb 407 (by decide +kernel) (by decide)
theorem cvL_36 : CVx RL 36 yX11_drop := tb 1061 (by decide +kernel) (by decide)
theorem cvL_37 : CVx RL 37 yX10_growth := tb 415 (by decide +kernel) (by decide)
theorem cvL_40 : CVx RL 40 yX11_growth := tb 1065 (by decide +kernel) (by decide)
theorem cvL_41 : CVx RL 41 yX10_cloud := tb 423 (by decide +kernel) (by decide)
theorem cvL_44 : CVx RL 44 yX11_cloud := tb 1070 (by decide +kernel) (by decide)
theorem cvL_45 : CVx RL 45 yX10_road := tb 431 (by decide +kernel) (by decide)
theorem cvL_48 : CVx RL 48 yX11_road := tb 1075 (by decide +kernel) (by decide)
theorem cvL_49 : CVx RL 49 yX10_guard := tb 448 (by decide +kernel) (by decide)
theorem cvL_53 : CVx RL 53 yX11_guard := tb 1083 (by decide +kernel) (by decide)
theorem cvL_54 : CVx RL 54 yX10_type := tb 460 (by decide +kernel) (by decide)
theorem cvL_57 : CVx RL 57 yX11_type := tb 1087 (by decide +kernel) (by decide)
theorem cvL_58 : CVx RL 58 yX10_clear := tb 468 (by decide +kernel) (by decide)
theorem cvL_61 : CVx RL 61 yX11_clear := tb 1092 (by decide +kernel) (by decide)
theorem cvL_62 : CVx RL 62 yX10_read := tb 472 (by decide +kernel) (by decide)
theorem cvL_65 : CVx RL 65 yX11_read := tb 1096 (by decide +kernel) (by decide)
theorem cvL_66 : CVx RL 66 yX10_moon := tb 595 (by decide +kernel) (by decide)
theorem cvL_69 : CVx RL 69 yX11_moon := tb 1136 (by decide +kernel) (by decide)
theorem cvL_70 : CVx RL 70 yX10_undo := tb 651 (by decide +kernel) (by decide)
theorem cvL_73 : CVx RL 73 yX11_undo := tb 1170 (by decide +kernel) (by decide)
theorem cvL_74 : CVx RL 74 yX10_of := tb 663 (by decide +kernel) (by decide)
theorem cvL_77 : CVx RL 77 yX11_of := tb 1174 (by decide +kernel) (by decide)
theorem cvL_78 : CVx RL 78 yX10_village := tb 670 (by decide +kernel) (by decide)
theorem cvL_81 : CVx RL 81 yX11_village := tb 1179 (by decide +kernel) (by decide)
theorem cvL_82 : CVx RL 82 yX10_greatest := tb 683 (by decide +kernel) (by decide)
theorem cvL_85 : CVx RL 85 yX11_greatest := tb 1187 (by decide +kernel) (by decide)
theorem cvL_86 : CVx RL 86 yX10_least := tb 694 (by decide +kernel) (by decide)
theorem cvL_89 : CVx RL 89 yX11_least := tb 1191 (by decide +kernel) (by decide)
theorem cvL_90 : CVx RL 90 yX10_chance := tb 731 (by decide +kernel) (by decide)
theorem cvL_93 : CVx RL 93 yX11_chance := tb 1209 (by decide +kernel) (by decide)
theorem cvL_94 : CVx RL 94 yX10_mean := tb 757 (by decide +kernel) (by decide)
theorem cvL_97 : CVx RL 97 yX11_mean := tb 1228 (by decide +kernel) (by decide)
theorem cvL_98 : CVx RL 98 yX10_painting := tb 770 (by decide +kernel) (by decide)
theorem cvL_101 : CVx RL 101 yX11_painting := tb 1236 (by decide +kernel) (by decide)
theorem cvL_102 : CVx RL 102 yX10_unseen := tb 780 (by decide +kernel) (by decide)
theorem cvL_105 : CVx RL 105 yX11_unseen := tb 1240 (by decide +kernel) (by decide)
theorem cvL_106 : CVx RL 106 yX10_cut := tb 793 (by decide +kernel) (by decide)
theorem cvL_109 : CVx RL 109 yX11_cut := tb 1252 (by decide +kernel) (by decide)
theorem cvL_110 : CVx RL 110 yX10_game := tb 813 (by decide +kernel) (by decide)
theorem cvL_113 : CVx RL 113 yX11_game := tb 1263 (by decide +kernel) (by decide)
theorem cvL_114 : CVx RL 114 yX10_league := tb 838 (by decide +kernel) (by decide)
theorem cvL_117 : CVx RL 117 yX11_league := tb 1270 (by decide +kernel) (by decide)
theorem cvL_118 : CVx RL 118 yX10_share := tb 847 (by decide +kernel) (by decide)
theorem cvL_121 : CVx RL 121 yX11_share := tb 1274 (by decide +kernel) (by decide)
theorem cvL_122 : CVx RL 122 yX10_pays := tb 856 (by decide +kernel) (by decide)
theorem cvL_125 : CVx RL 125 yX11_pays := tb 1281 (by decide +kernel) (by decide)
theorem cvL_126 : CVx RL 126 yX10_told := tb 862 (by decide +kernel) (by decide)
theorem cvL_129 : CVx RL 129 yX11_told := tb 1286 (by decide +kernel) (by decide)
theorem cvL_130 : CVx RL 130 yX10_fit := tb 870 (by decide +kernel) (by decide)
theorem cvL_133 : CVx RL 133 yX11_fit := tb 1291 (by decide +kernel) (by decide)
theorem cvL_134 : CVx RL 134 yX10_drawn := tb 891 (by decide +kernel) (by decide)
theorem cvL_137 : CVx RL 137 yX11_drawn := tb 1296 (by decide +kernel) (by decide)
theorem cvL_138 : CVx RL 138 yX10_part := tb 901 (by decide +kernel) (by decide)
theorem cvL_142 : CVx RL 142 yX11_part := tb 1306 (by decide +kernel) (by decide)
theorem cvL_143 : CVx RL 143 yX10_image := tb 906 (by decide +kernel) (by decide)
theorem cvL_146 : CVx RL 146 yX11_image := tb 1311 (by decide +kernel) (by decide)
theorem cvL_147 : CVx RL 147 yX10_from := tb 910 (by decide +kernel) (by decide)
theorem cvL_150 : CVx RL 150 yX11_from := tb 1315 (by decide +kernel) (by decide)
theorem cvL_151 : CVx RL 151 yX10_status := tb 914 (by decide +kernel) (by decide)
theorem cvL_154 : CVx RL 154 yX11_status := tb 1319 (by decide +kernel) (by decide)
theorem cvL_155 : CVx RL 155 yX10_count := tb 918 (by decide +kernel) (by decide)
theorem cvL_158 : CVx RL 158 yX11_count := tb 1323 (by decide +kernel) (by decide)
theorem cvL_159 : CVx RL 159 yX10_digest := tb 926 (by decide +kernel) (by decide)
theorem cvL_163 : CVx RL 163 yX11_digest := tb 1332 (by decide +kernel) (by decide)
theorem cvX0_3 : CVx RX0 3 objectInit := tb 33 (by decide +kernel) (by decide)
theorem cvX0_39 : CVx RX0 39 yX3_become := tb 579 (by decide +kernel) (by decide)
theorem cvX0_43 : CVx RX0 43 yX7_become := tb 584 (by decide +kernel) (by decide)
theorem cvX0_46 : CVx RX0 46 yX6_become := tb 589 (by decide +kernel) (by decide)
theorem cvX0_49 : CVx RX0 49 arraycopyName := tb 593 (by decide +kernel) (by decide)
theorem cvX0_59 : CVx RX0 59 yX3_startAnew := tb 356 (by decide +kernel) (by decide)
theorem cvX0_63 : CVx RX0 63 yX7_startAnew := tb 360 (by decide +kernel) (by decide)
theorem cvX0_68 : CVx RX0 68 yX3_hasVillage := tb 376 (by decide +kernel) (by decide)
theorem cvX0_84 : CVx RX0 84 yX3_hasLot := tb 388 (by decide +kernel) (by decide)
theorem cvX0_87 : CVx RX0 87 yX6_keep := tb 400 (by decide +kernel) (by decide)
theorem cvX0_93 : CVx RX0 93 yX3_hasPair := tb 439 (by decide +kernel) (by decide)
theorem cvX0_97 : CVx RX0 97 yX7_add := tb 444 (by decide +kernel) (by decide)
theorem cvX0_102 : CVx RX0 102 yX7_isGuarded := tb 456 (by decide +kernel) (by decide)
theorem cvX0_108 : CVx RX0 108 yX3_hasClouds := tb 603 (by decide +kernel) (by decide)
theorem cvX0_111 : CVx RX0 111 yX3_fullMoon := tb 607 (by decide +kernel) (by decide)
theorem cvX0_115 : CVx RX0 115 yX6_putBack := tb 659 (by decide +kernel) (by decide)
theorem cvX1_3 : CVx RX1 3 objectInit := tb 282 (by decide +kernel) (by decide)
theorem cvX1_36 : CVx RX1 36 yX3_become := tb 878 (by decide +kernel) (by decide)
theorem cvX1_43 : CVx RX1 43 yX1_rowsFrom := tb 879 (by decide +kernel) (by decide)
theorem cvX1_47 : CVx RX1 47 yX1_sortClouds := tb 883 (by decide +kernel) (by decide)
theorem cvX1_51 : CVx RX1 51 yX3_fullMoon := tb 889 (by decide +kernel) (by decide)
theorem cvX1_55 : CVx RX1 55 Lib.Math.min.name := tb 890 (by decide +kernel) (by decide)
theorem cvX1_61 : CVx RX1 61 yX3_look := tb 887 (by decide +kernel) (by decide)
theorem cvX1_68 : CVx RX1 68 yX3_greatestBut := tb 888 (by decide +kernel) (by decide)
theorem cvX10_1 : CVx RX10 1 objectInit := tb 25 (by decide +kernel) (by decide)
theorem cvX10_64 : CVx RX10 64 yX1_init := tb 279 (by decide +kernel) (by decide)
theorem cvX10_86 : CVx RX10 86 yX0_startAnew := tb 352 (by decide +kernel) (by decide)
theorem cvX10_90 : CVx RX10 90 yX10_tally := tb 364 (by decide +kernel) (by decide)
theorem cvX10_93 : CVx RX10 93 yX0_addLot := tb 372 (by decide +kernel) (by decide)
theorem cvX10_97 : CVx RX10 97 yX0_moveLot := tb 384 (by decide +kernel) (by decide)
theorem cvX10_101 : CVx RX10 101 yX0_driveHeads := tb 396 (by decide +kernel) (by decide)
theorem cvX10_104 : CVx RX10 104 yX0_dropLot := tb 411 (by decide +kernel) (by decide)
theorem cvX10_108 : CVx RX10 108 yX0_setGrowth := tb 419 (by decide +kernel) (by decide)
theorem cvX10_111 : CVx RX10 111 yX0_setOdds := tb 427 (by decide +kernel) (by decide)
theorem cvX10_114 : CVx RX10 114 yX0_addRoad := tb 435 (by decide +kernel) (by decide)
theorem cvX10_117 : CVx RX10 117 yX0_setGuard := tb 452 (by decide +kernel) (by decide)
theorem cvX10_121 : CVx RX10 121 yX8_append := tb 464 (by decide +kernel) (by decide)
theorem cvX10_127 : CVx RX10 127 yX8_parse := tb 476 (by decide +kernel) (by decide)
theorem cvX10_133 : CVx RX10 133 yX10_tellItem := tb 567 (by decide +kernel) (by decide)
theorem cvX10_136 : CVx RX10 136 yX0_become := tb 575 (by decide +kernel) (by decide)
theorem cvX10_140 : CVx RX10 140 yX0_passMoon := tb 599 (by decide +kernel) (by decide)
theorem cvX10_143 : CVx RX10 143 yX0_undoLast := tb 655 (by decide +kernel) (by decide)
theorem cvX10_149 : CVx RX10 149 yX3_hasLot := tb 667 (by decide +kernel) (by decide)
theorem cvX10_163 : CVx RX10 163 yX3_seenOf := tb 668 (by decide +kernel) (by decide)
theorem cvX10_166 : CVx RX10 166 yX3_takenOf := tb 669 (by decide +kernel) (by decide)
theorem cvX10_169 : CVx RX10 169 yX3_hasVillage := tb 674 (by decide +kernel) (by decide)
theorem cvX10_172 : CVx RX10 172 yX3_sightOf := tb 675 (by decide +kernel) (by decide)
theorem cvX10_175 : CVx RX10 175 yX3_headsIn := tb 679 (by decide +kernel) (by decide)
theorem cvX10_178 : CVx RX10 178 yX3_hasClouds := tb 687 (by decide +kernel) (by decide)
theorem cvX10_181 : CVx RX10 181 yX10_refuseAsBad := tb 688 (by decide +kernel) (by decide)
theorem cvX10_184 : CVx RX10 184 yX3_look := tb 692 (by decide +kernel) (by decide)
theorem cvX10_187 : CVx RX10 187 yX3_greatestBut := tb 693 (by decide +kernel) (by decide)
theorem cvX10_190 : CVx RX10 190 yX5_search := tb 698 (by decide +kernel) (by decide)
theorem cvX10_203 : CVx RX10 203 yX9_foresee := tb 735 (by decide +kernel) (by decide)
theorem cvX10_214 : CVx RX10 214 yX10_setFraction := tb 747 (by decide +kernel) (by decide)
theorem cvX10_218 : CVx RX10 218 yX9_lossOfAll := tb 761 (by decide +kernel) (by decide)
theorem cvX10_222 : CVx RX10 222 yX9_lossOf := tb 769 (by decide +kernel) (by decide)
theorem cvX10_226 : CVx RX10 226 yX9_bestPainting := tb 774 (by decide +kernel) (by decide)
theorem cvX10_230 : CVx RX10 230 yX3_hasPair := tb 784 (by decide +kernel) (by decide)
theorem cvX10_238 : CVx RX10 238 yX7_shortestWay := tb 785 (by decide +kernel) (by decide)
theorem cvX10_243 : CVx RX10 243 yX7_fewestGuards := tb 797 (by decide +kernel) (by decide)
theorem cvX10_246 : CVx RX10 246 yJ6_bitCount_0f7a4 := tb 811 (by decide +kernel) (by decide)
theorem cvX10_254 : CVx RX10 254 yX7_sideOf := tb 812 (by decide +kernel) (by decide)
theorem cvX10_257 : CVx RX10 257 yX2_search := tb 817 (by decide +kernel) (by decide)
theorem cvX10_262 : CVx RX10 262 yX3_takenFromLeague := tb 842 (by decide +kernel) (by decide)
theorem cvX10_268 : CVx RX10 268 yX10_ordersWith := tb 851 (by decide +kernel) (by decide)
theorem cvX10_275 : CVx RX10 275 yX3_become := tb 860 (by decide +kernel) (by decide)
theorem cvX10_281 : CVx RX10 281 yX3_fullMoon := tb 861 (by decide +kernel) (by decide)
theorem cvX10_284 : CVx RX10 284 yX0_setTold := tb 866 (by decide +kernel) (by decide)
theorem cvX10_287 : CVx RX10 287 yX1_search := tb 874 (by decide +kernel) (by decide)
theorem cvX10_308 : CVx RX10 308 yX10_howMany := tb 922 (by decide +kernel) (by decide)
theorem cvX10_315 : CVx RX10 315 yX0_digestOn := tb 932 (by decide +kernel) (by decide)
theorem cvX10_335 : CVx RX10 335 yX8_numberOf := tb 571 (by decide +kernel) (by decide)
theorem cvX10_341 : CVx RX10 341 Lib.MathLoose.abs_long.x := tb 751 (by decide +kernel) (by decide)
theorem cvX10_346 : CVx RX10 346 yX10_commonDivisor := tb 754 (by decide +kernel) (by decide)
theorem cvX11_1 : CVx RX11 1 objectInit := tb 942 (by decide +kernel) (by decide)
theorem cvX11_39 : CVx RX11 39 yX11_begins := tb 943 (by decide +kernel) (by decide)
theorem cvX11_47 : CVx RX11 47 yX11_refuses := tb 1020 (by decide +kernel) (by decide)
theorem cvX11_51 : CVx RX11 51 yX11_in := tb 1013 (by decide +kernel) (by decide)
theorem cvX11_55 : CVx RX11 55 yX11_isVillage := tb 1028 (by decide +kernel) (by decide)
theorem cvX11_61 : CVx RX11 61 yX11_bad := tb 1016 (by decide +kernel) (by decide)
theorem cvX11_67 : CVx RX11 67 yX11_full := tb 1033 (by decide +kernel) (by decide)
theorem cvX11_70 : CVx RX11 70 yX11_isLot := tb 1041 (by decide +kernel) (by decide)
theorem cvX11_73 : CVx RX11 73 yX11_puts := tb 1045 (by decide +kernel) (by decide)
theorem cvX11_76 : CVx RX11 76 yX11_no := tb 1053 (by decide +kernel) (by decide)
theorem cvX11_79 : CVx RX11 79 yX11_remembers := tb 1057 (by decide +kernel) (by decide)
theorem cvX11_86 : CVx RX11 86 yX11_areTwo := tb 1079 (by decide +kernel) (by decide)
theorem cvX11_111 : CVx RX11 111 yX11_isAt := tb 1108 (by decide +kernel) (by decide)
theorem cvX11_124 : CVx RX11 124 yX11_verbOf := tb 1114 (by decide +kernel) (by decide)
theorem cvX11_134 : CVx RX11 134 yX11_scans := tb 1104 (by decide +kernel) (by decide)
theorem cvX11_137 : CVx RX11 137 yX11_numbers := tb 1123 (by decide +kernel) (by decide)
theorem cvX11_141 : CVx RX11 141 yX11_county := tb 1130 (by decide +kernel) (by decide)
theorem cvX11_144 : CVx RX11 144 yX11_lot := tb 1131 (by decide +kernel) (by decide)
theorem cvX11_148 : CVx RX11 148 yX11_growth := tb 1132 (by decide +kernel) (by decide)
theorem cvX11_151 : CVx RX11 151 yX11_cloud := tb 1133 (by decide +kernel) (by decide)
theorem cvX11_154 : CVx RX11 154 yX11_road := tb 1134 (by decide +kernel) (by decide)
theorem cvX11_157 : CVx RX11 157 yX11_guard := tb 1135 (by decide +kernel) (by decide)
theorem cvX11_161 : CVx RX11 161 yX11_reads := tb 1100 (by decide +kernel) (by decide)
theorem cvX11_165 : CVx RX11 165 yX11_tellsItem := tb 1126 (by decide +kernel) (by decide)
theorem cvX11_168 : CVx RX11 168 yX11_seenOf := tb 1164 (by decide +kernel) (by decide)
theorem cvX11_171 : CVx RX11 171 yX11_sightOf := tb 1160 (by decide +kernel) (by decide)
theorem cvX11_174 : CVx RX11 174 yX11_takenOf := tb 1167 (by decide +kernel) (by decide)
theorem cvX11_177 : CVx RX11 177 yX11_all := tb 1152 (by decide +kernel) (by decide)
theorem cvX11_180 : CVx RX11 180 yX11_greatestOf := tb 1156 (by decide +kernel) (by decide)
theorem cvX11_184 : CVx RX11 184 yX11_isSet := tb 1140 (by decide +kernel) (by decide)
theorem cvX11_187 : CVx RX11 187 yX11_asNow := tb 1144 (by decide +kernel) (by decide)
theorem cvX11_190 : CVx RX11 190 yX11_goes := tb 1148 (by decide +kernel) (by decide)
theorem cvX11_196 : CVx RX11 196 yX11_headsOf := tb 1183 (by decide +kernel) (by decide)
theorem cvX11_199 : CVx RX11 199 yX11_tithe := tb 1205 (by decide +kernel) (by decide)
theorem cvX11_202 : CVx RX11 202 yX11_takenNow := tb 1201 (by decide +kernel) (by decide)
theorem cvX11_217 : CVx RX11 217 yX11_tries := tb 1197 (by decide +kernel) (by decide)
theorem cvX11_221 : CVx RX11 221 yX11_divisor := tb 1225 (by decide +kernel) (by decide)
theorem cvX11_228 : CVx RX11 228 yX11_waysOf := tb 1213 (by decide +kernel) (by decide)
theorem cvX11_232 : CVx RX11 232 yX11_whole := tb 1217 (by decide +kernel) (by decide)
theorem cvX11_236 : CVx RX11 236 yX11_keeps := tb 1221 (by decide +kernel) (by decide)
theorem cvX11_240 : CVx RX11 240 yX11_meanOf := tb 1232 (by decide +kernel) (by decide)
theorem cvX11_244 : CVx RX11 244 yX11_openRoads := tb 1244 (by decide +kernel) (by decide)
theorem cvX11_247 : CVx RX11 247 yX11_steps := tb 1248 (by decide +kernel) (by decide)
theorem cvX11_250 : CVx RX11 250 yX11_bits := tb 1256 (by decide +kernel) (by decide)
theorem cvX11_253 : CVx RX11 253 yX11_reaches := tb 1259 (by decide +kernel) (by decide)
theorem cvX11_256 : CVx RX11 256 yX11_loss := tb 1267 (by decide +kernel) (by decide)
theorem cvX11_260 : CVx RX11 260 yX11_orders := tb 1278 (by decide +kernel) (by decide)
theorem cvX11_284 : CVx RX11 284 yX11_countOf := tb 1328 (by decide +kernel) (by decide)
theorem cvX11_291 : CVx RX11 291 yX11_mixed := tb 1338 (by decide +kernel) (by decide)
theorem cvX2_3 : CVx RX2 3 objectInit := tb 258 (by decide +kernel) (by decide)
theorem cvX2_28 : CVx RX2 28 yX3_sightOf := tb 821 (by decide +kernel) (by decide)
theorem cvX2_34 : CVx RX2 34 yX2_rests := tb 822 (by decide +kernel) (by decide)
theorem cvX2_38 : CVx RX2 38 yX2_lossOfOne := tb 826 (by decide +kernel) (by decide)
theorem cvX2_42 : CVx RX2 42 yX2_lossOfOther := tb 834 (by decide +kernel) (by decide)
theorem cvX2_45 : CVx RX2 45 yX2_takesFromOne := tb 830 (by decide +kernel) (by decide)
theorem cvX3_3 : CVx RX3 3 objectInit := tb 39 (by decide +kernel) (by decide)
theorem cvX3_37 : CVx RX3 37 arraycopyName := tb 583 (by decide +kernel) (by decide)
theorem cvX3_43 : CVx RX3 43 yX3_hasVillage := tb 443 (by decide +kernel) (by decide)
theorem cvX3_47 : CVx RX3 47 yX4_seen := tb 619 (by decide +kernel) (by decide)
theorem cvX3_53 : CVx RX3 53 yX4_taken := tb 637 (by decide +kernel) (by decide)
theorem cvX3_57 : CVx RX3 57 yX3_seenOf := tb 615 (by decide +kernel) (by decide)
theorem cvX3_61 : CVx RX3 61 yX3_takenOf := tb 633 (by decide +kernel) (by decide)
theorem cvX3_64 : CVx RX3 64 yX3_greatestIn := tb 626 (by decide +kernel) (by decide)
theorem cvX3_68 : CVx RX3 68 yX3_greatestBut := tb 622 (by decide +kernel) (by decide)
theorem cvX3_71 : CVx RX3 71 yX3_tollOf := tb 846 (by decide +kernel) (by decide)
theorem cvX3_74 : CVx RX3 74 yX3_look := tb 611 (by decide +kernel) (by decide)
theorem cvX3_77 : CVx RX3 77 yX3_takeFrom := tb 629 (by decide +kernel) (by decide)
theorem cvX3_80 : CVx RX3 80 yX3_growAll := tb 643 (by decide +kernel) (by decide)
theorem cvX3_83 : CVx RX3 83 yX4_grows := tb 647 (by decide +kernel) (by decide)
theorem cvX3_86 : CVx RX3 86 Lib.Math.min.name := tb 650 (by decide +kernel) (by decide)
theorem cvX4_7 : CVx RX4 7 Lib.Math.min.name := tb 640 (by decide +kernel) (by decide)
theorem cvX5_3 : CVx RX5 3 objectInit := tb 225 (by decide +kernel) (by decide)
theorem cvX5_38 : CVx RX5 38 yX3_become := tb 702 (by decide +kernel) (by decide)
theorem cvX5_45 : CVx RX5 45 yX3_sightOf := tb 703 (by decide +kernel) (by decide)
theorem cvX5_49 : CVx RX5 49 yX3_tollOf := tb 704 (by decide +kernel) (by decide)
theorem cvX5_52 : CVx RX5 52 yX5_takenNow := tb 708 (by decide +kernel) (by decide)
theorem cvX5_56 : CVx RX5 56 yX5_tryLastMove := tb 713 (by decide +kernel) (by decide)
theorem cvX5_60 : CVx RX5 60 yX5_tryTwoMoves := tb 727 (by decide +kernel) (by decide)
theorem cvX5_69 : CVx RX5 69 yX5_shift := tb 717 (by decide +kernel) (by decide)
theorem cvX5_73 : CVx RX5 73 yX5_weigh := tb 723 (by decide +kernel) (by decide)
theorem cvX5_76 : CVx RX5 76 yX3_seenOf := tb 721 (by decide +kernel) (by decide)
theorem cvX5_79 : CVx RX5 79 yX3_takenOf := tb 722 (by decide +kernel) (by decide)
theorem cvX5_82 : CVx RX5 82 yX3_greatestIn := tb 712 (by decide +kernel) (by decide)
theorem cvX6_3 : CVx RX6 3 objectInit := tb 116 (by decide +kernel) (by decide)
theorem cvX6_22 : CVx RX6 22 arraycopyName := tb 404 (by decide +kernel) (by decide)
theorem cvX7_3 : CVx RX7 3 objectInit := tb 91 (by decide +kernel) (by decide)
theorem cvX7_25 : CVx RX7 25 arraycopyName := tb 588 (by decide +kernel) (by decide)
theorem cvX7_31 : CVx RX7 31 yX7_spread := tb 789 (by decide +kernel) (by decide)
theorem cvX7_35 : CVx RX7 35 yJ6_bitCount_0f7a4 := tb 801 (by decide +kernel) (by decide)
theorem cvX7_41 : CVx RX7 41 yX7_sideOf := tb 807 (by decide +kernel) (by decide)
theorem cvX8_3 : CVx RX8 3 objectInit := tb 159 (by decide +kernel) (by decide)
theorem cvX8_41 : CVx RX8 41 yX8_step := tb 480 (by decide +kernel) (by decide)
theorem cvX8_44 : CVx RX8 44 yX8_parseItem := tb 561 (by decide +kernel) (by decide)
theorem cvX8_51 : CVx RX8 51 yX8_isLetter := tb 484 (by decide +kernel) (by decide)
theorem cvX8_54 : CVx RX8 54 yX8_stepOverWord := tb 488 (by decide +kernel) (by decide)
theorem cvX8_57 : CVx RX8 57 yX8_isFigure := tb 553 (by decide +kernel) (by decide)
theorem cvX8_60 : CVx RX8 60 yX8_stepOverNumber := tb 557 (by decide +kernel) (by decide)
theorem cvX8_63 : CVx RX8 63 yX8_nameOf := tb 492 (by decide +kernel) (by decide)
theorem cvX8_67 : CVx RX8 67 yX8_tokenIs := tb 501 (by decide +kernel) (by decide)
theorem cvX8_71 : CVx RX8 71 yJ0_length_8abf5 := tb 505 (by decide +kernel) (by decide)
theorem cvX8_76 : CVx RX8 76 yJ0_charAt_5068e := tb 515 (by decide +kernel) (by decide)
theorem cvX9_3 : CVx RX9 3 objectInit := tb 200 (by decide +kernel) (by decide)
theorem cvX9_39 : CVx RX9 39 yX3_sightOf := tb 739 (by decide +kernel) (by decide)
theorem cvX9_43 : CVx RX9 43 yX3_tollOf := tb 740 (by decide +kernel) (by decide)
theorem cvX9_48 : CVx RX9 48 yX3_greatestIn := tb 742 (by decide +kernel) (by decide)
theorem cvX9_55 : CVx RX9 55 yX9_casesOf := tb 743 (by decide +kernel) (by decide)
theorem cvX9_59 : CVx RX9 59 yX9_lossOf := tb 765 (by decide +kernel) (by decide)
theorem cvX9_63 : CVx RX9 63 yX9_foresee := tb 778 (by decide +kernel) (by decide)
theorem cvX9_69 : CVx RX9 69 yX4_seen := tb 779 (by decide +kernel) (by decide)
end
section
/-! The abstract machine: a goal G at (pc, locals, stack, memory); Sim: if the program P gives a and K a holds, then G. -/
abbrev GT : Type := Launch × (Nat → ClassId) × (Nat → Nat) × va_G × (Nat → Prop) × (Nat → Nat) × (Nat → Nat) × (Nat → Nat)
abbrev gl (g : GT) : Launch := g.1
abbrev gcy (g : GT) : Nat → ClassId := g.2.1
abbrev gad (g : GT) : Nat → Nat := g.2.2.1
abbrev gD (g : GT) : va_G := g.2.2.2.1
abbrev gA (g : GT) : Nat → Prop := g.2.2.2.2.1
abbrev gK (g : GT) : Nat → Nat := g.2.2.2.2.2.1
abbrev gV (g : GT) : Nat → Nat := g.2.2.2.2.2.2.1
abbrev gTb (g : GT) : Nat → Nat := g.2.2.2.2.2.2.2
/-- a reference to a place -/
def rf (g : GT) (k : Nat) : Value := .ref (gad g k)
/-- a reference to a String constant -/
def rfS (g : GT) (k : Nat) : Value := .ref (gK g k)
/-- a reference to a static table -/
def rfT (g : GT) (k : Nat) : Value := .ref (gTb g k)
def FACT : Nat → Int32 := fun j => ([1, 1, 2, 6, 24, 120] : List Int32).getD j 0
def NUMB : Nat → Int32 := fun j => ([1, 3, 1, 2, 2, 1] : List Int32).getD j 0
def TBLV (t : Nat) : Nat → Int32 := if t = 0 then FACT else NUMB
def SLEN : List Nat := [6, 3, 6, 5, 4, 5]
def SBYT : List (List Int32) := [[99, 111, 117, 110, 116, 121], [108, 111, 116], [103, 114, 111, 119, 116, 104], [99, 108, 111, 117, 100], [114, 111, 97, 100], [103, 117, 97, 114, 100]]
def STXT : List String := ["county", "lot", "growth", "cloud", "road", "guard"]
def Stt (g : GT) (U : State) (H : Heap) : Prop :=
  (va_Z "DragonTithe" "FACTORIALS" "[I" (.ref (gTb g 0)) (gA g) U H ∧ va_T .int (gTb g 0) 6 (fun j => .int (FACT j)) (gA g) U H) ∧
  (va_Z "DragonTithe$Scroll" "NUMBERS_BEHIND" "[I" (.ref (gTb g 1)) (gA g) U H ∧ va_T .int (gTb g 1) 6 (fun j => .int (NUMB j)) (gA g) U H) ∧
  vk_S 6 SLEN SBYT (gK g) (gV g) (gA g) U H ∧ (∀ i, i < 6 → vk_R "DragonTithe$Scroll" (80 + 2 * i) (STXT.getD i "") (gK g i) U) ∧
  va_Z "java/lang/String" "COMPACT_STRINGS" "Z" (.int 1) (gA g) U H ∧ va_Zq "jdk/internal/util/Preconditions" "SIOOBE_FORMATTER" "Ljava/util/function/BiFunction;" (gA g) U H
theorem Stt.alike {g : GT} {u U : State} {H : Heap} (hvm : u.vm.Alike U.vm) (hr : ∀ i, i < 6 → vk_R "DragonTithe$Scroll" (80 + 2 * i) (STXT.getD i "") (gK g i) U) (h : Stt g u H) : Stt g U H := by
  obtain ⟨⟨a1, a2⟩, ⟨b1, b2⟩, c1, -, e1, f1⟩ := h
  exact ⟨⟨a1.moved hvm, a2.moved hvm⟩, ⟨b1.moved hvm, b2.moved hvm⟩, c1.moved hvm, hr, e1.moved hvm, f1.moved hvm⟩
theorem Stt.warm {g : GT} {s U : State} {H : Heap} (hW : s.WarmedH U.vm) (h : Stt g s H) : Stt g U H := h.alike hW.alike (fun i hi => (h.2.2.2.1 i hi).warm hW)
theorem Stt.same {g : GT} {u U : State} {H : Heap} (hv : U.vm = u.vm) (h : Stt g u H) : Stt g U H := h.alike (by rw [hv]; exact Vm.Alike.refl _) (fun i hi => (h.2.2.2.1 i hi).same hv)
theorem Stt.kept {g : GT} {U : State} {H H1 : Heap} (h : Stt g U H) (hq : ∀ a : Nat, a < H.size → ¬ gA g a → H1[a]? = H[a]?) : Stt g U H1 := by
  obtain ⟨⟨a1, a2⟩, ⟨b1, b2⟩, c1, d1, e1, f1⟩ := h
  exact ⟨⟨a1.kept hq, a2.kept hq⟩, ⟨b1.kept hq, b2.kept hq⟩, c1.kept hq, d1, e1.kept hq, f1.kept hq⟩
def GOK (g : GT) : Prop := (∀ i j, i < NP → j < NP → gad g i = gad g j → i = j) ∧ ∀ k, k < NP → gA g (gad g k)
theorem GOK.D {g : GT} (h : GOK g) (μ : Mem) : va_D (gA g) (wsOf (gcy g) (gad g) μ) := by
  have at' : ∀ (k : Nat) (q : Nat × va_E), (wsOf (gcy g) (gad g) μ)[k]? = some q → k < NP ∧ q.1 = gad g k := by
    intro k q hq
    have hk : k < NP := by
      have := (List.getElem?_eq_some_iff.mp hq).1
      rwa [wsOf_len] at this
    rw [wsOf_at _ _ _ hk] at hq
    cases hq
    exact ⟨hk, rfl⟩
  refine ⟨fun i j p q hp hq e => ?_, fun k q hq => ?_⟩
  · obtain ⟨h1, e1⟩ := at' i p hp
    obtain ⟨h2, e2⟩ := at' j q hq
    exact h.1 i j h1 h2 (by rw [← e1, ← e2]; exact e)
  · obtain ⟨h1, e1⟩ := at' k q hq
    rw [e1]
    exact h.2 k h1
def PW (g : GT) (μ : Mem) (H : Heap) : Prop := va_P (gD g) clX (wsOf (gcy g) (gad g) μ) H
def Wd (g : GT) (μ : Mem) (U : State) : Prop := PW g μ U.heap ∧ va_K (gD g) clX (tysX (gcy g)) U ∧ Stt g U U.heap ∧ GOK g
abbrev LV : Type := List (Nat × Value)
abbrev GP : Type := Nat → LV → List Value → Mem → Prop
def WW (g : GT) (p : Program) (e : Env) (R : Room) (s : State) (m : MethodId) (args : Array Value) (below : List Frame) (meth : Method) (c : Code) (nL cells slots : Nat) (Q : State → Prop) : GP := fun pc lv st μ => ∀ (H : Heap) (locs : List Loc) (ls : Array Slot), PW g μ H → va_S (gA g) s.heap H locs → lv_has ls nL lv → W p (gl g) e R s m args below meth c H locs cells slots Q (F0 m pc ls st)
/-- what the rules know of a goal: the code, the owner, the room -/
def CX (g : GT) (G : GP) (cc : ByteArray) (own : String) (nL n : Nat) : Prop := ∃ (p : Program) (e : Env) (R : Room) (s : State) (m : MethodId) (args : Array Value) (below : List Frame) (meth : Method) (c : Code) (cells slots : Nat) (Q : State → Prop), G = WW g p e R s m args below meth c nL cells slots Q ∧ p.tables.exec = Jvm.exec ∧ c.code = cc ∧ c.maxLocals = nL ∧ s.vm.findClass own = some m.cls ∧ (∀ w ∈ TB, w.before args s = true) ∧ va_K (gD g) clX (tysX (gcy g)) s ∧ Stt g s s.heap ∧ GOK g ∧ n ≤ R.frames ∧ 64 * n ≤ R.locals ∧ cells ≤ R.cells ∧ slots ≤ R.slots
def Sim {α : Type} (G : GP) (Pr : Option α) (K : α → Prop) (pc : Nat) (lv : LV) (st : List Value) (μ : Mem) : Prop := ∀ a, Pr = some a → K a → G pc lv st μ
/-! the program's words -/
def lt {α β : Type} (a : α) (f : α → β) : β := f a
def jn {γ α : Type} (j : γ) (f : γ → α) : α := f j
def bd {α β : Type} (x : Option α) (f : α → Option β) : Option β := match x with
  | none => none
  | some a => f a
def bd2 {α γ β : Type} (x : Option (α × γ)) (f : α → γ → Option β) : Option β := match x with
  | none => none
  | some (a, b) => f a b
def ix (i : Int32) : Nat := i.toNatClampNeg
def chk {α : Type} (i : Int32) (n : Nat) (x : Option α) : Option α := if ¬ (i < 0 ∨ n ≤ ix i) then x else none
def ckz {α : Type} (y : Int32) (x : Option α) : Option α := if y = 0 then none else x
def ckZ {α : Type} (y : Int64) (x : Option α) : Option α := if y = 0 then none else x
def ckB {α : Type} (y : Int32) (x : Option α) : Option α := if y = 0 ∨ y = 1 then x else none
def ckC {α : Type} (sp dp n : Int32) (n0 n1 : Nat) (x : Option α) : Option α := if ¬ sp < 0 ∧ ¬ dp < 0 ∧ ¬ n < 0 ∧ ix sp + ix n ≤ n0 ∧ ix dp + ix n ≤ n1 then x else none
def itn {σ ε : Type} (F : σ → Option (σ ⊕ ε)) : Nat → σ → Option ε
  | 0, _ => none
  | n + 1, s => match F s with
    | none => none
    | some (.inl s') => itn F n s'
    | some (.inr e) => some e
noncomputable def lp {σ ε : Type} (F : σ → Option (σ ⊕ ε)) (s : σ) : Option ε := Classical.epsilon (fun o => (∃ n e, itn F n s = some e ∧ o = some e) ∨ ((∀ n, itn F n s = none) ∧ o = none))
theorem itn_mono {σ ε : Type} {F : σ → Option (σ ⊕ ε)} : ∀ (n k : Nat) (s : σ) (e : ε), itn F n s = some e → itn F (n + k) s = some e := by
  intro n
  induction n with
  | zero => intro k s e h; cases h
  | succ n ih =>
    intro k s e h
    rw [Nat.succ_add]
    simp only [itn] at h ⊢
    cases hF : F s with
    | none => rw [hF] at h; cases h
    | some x =>
      rw [hF] at h
      cases x with
      | inl s' => exact ih k s' e h
      | inr e' => exact h
theorem itn_fun {σ ε : Type} {F : σ → Option (σ ⊕ ε)} {n m : Nat} {s : σ} {e e' : ε} (h : itn F n s = some e) (h' : itn F m s = some e') : e = e' := by
  have h1 := itn_mono n m s e h
  have h2 := itn_mono m n s e' h'
  rw [Nat.add_comm] at h2
  exact Option.some.inj (h1.symm.trans h2)
theorem lp_spec {σ ε : Type} (F : σ → Option (σ ⊕ ε)) (s : σ) : (∃ n e, itn F n s = some e ∧ lp F s = some e) ∨ ((∀ n, itn F n s = none) ∧ lp F s = none) := by
  have : ∃ o, (∃ n e, itn F n s = some e ∧ o = some e) ∨ ((∀ n, itn F n s = none) ∧ o = (none : Option ε)) := by
    by_cases h : ∃ n e, itn F n s = some e
    · obtain ⟨n, e, h⟩ := h
      exact ⟨some e, Or.inl ⟨n, e, h, rfl⟩⟩
    · refine ⟨none, Or.inr ⟨fun n => ?_, rfl⟩⟩
      cases hn : itn F n s with
      | none => rfl
      | some e => exact absurd ⟨n, e, hn⟩ h
  exact Classical.epsilon_spec this
theorem lp_of {σ ε : Type} {F : σ → Option (σ ⊕ ε)} {s : σ} {n : Nat} {e : ε} (h : itn F n s = some e) : lp F s = some e := by
  rcases lp_spec F s with ⟨m, e', h1, h2⟩ | ⟨h1, -⟩
  · rw [h2, itn_fun h h1]
  · rw [h1 n] at h; cases h
theorem lp_itn {σ ε : Type} {F : σ → Option (σ ⊕ ε)} {s : σ} {e : ε} (h : lp F s = some e) : ∃ n, itn F n s = some e := by
  rcases lp_spec F s with ⟨m, e', h1, h2⟩ | ⟨-, h2⟩
  · rw [h2] at h; cases h; exact ⟨m, h1⟩
  · rw [h2] at h; cases h
theorem lp_inl {σ ε : Type} {F : σ → Option (σ ⊕ ε)} {s s' : σ} (h : F s = some (.inl s')) : lp F s = lp F s' := by
  rcases lp_spec F s' with ⟨m, e', h1, h2⟩ | ⟨h1, h2⟩
  · rw [h2]; exact lp_of (n := m + 1) (by simp only [itn, h]; exact h1)
  · rcases lp_spec F s with ⟨m, e', g1, g2⟩ | ⟨g1, g2⟩
    · cases m with
      | zero => cases g1
      | succ m => simp only [itn, h] at g1; rw [h1 m] at g1; cases g1
    · rw [g2, h2]
theorem lp_inr {σ ε : Type} {F : σ → Option (σ ⊕ ε)} {s : σ} {e : ε} (h : F s = some (.inr e)) : lp F s = some e := lp_of (n := 1) (by simp only [itn, h])
/-- a loop that counts: its state is known at each round -/
theorem lp_for {σ ε : Type} {F : σ → Option (σ ⊕ ε)} (st : Nat → σ) (N : Nat) {e : ε} (hs : ∀ i, i < N → F (st i) = some (.inl (st (i + 1)))) (he : F (st N) = some (.inr e)) : lp F (st 0) = some e := by
  have : ∀ k, k ≤ N → lp F (st (N - k)) = some e := by
    intro k
    induction k with
    | zero => intro _; exact lp_inr he
    | succ k ih =>
      intro hk
      rw [lp_inl (hs (N - (k + 1)) (by omega)), show N - (k + 1) + 1 = N - k by omega]
      exact ih (by omega)
  have h := this N (Nat.le_refl N)
  rwa [Nat.sub_self] at h
/-- a loop by an invariant -/
theorem lp_inv {σ ε : Type} {F : σ → Option (σ ⊕ ε)} (I : Nat → σ → Prop) (J : ε → Prop) (N : Nat) (hs : ∀ i s, i < N → I i s → (∃ s', F s = some (.inl s') ∧ I (i + 1) s') ∨ ∃ e, F s = some (.inr e) ∧ J e) (he : ∀ s, I N s → ∃ e, F s = some (.inr e) ∧ J e) {s : σ} (h0 : I 0 s) : ∃ e, lp F s = some e ∧ J e := by
  have : ∀ k i s, i + k = N → I i s → ∃ e, lp F s = some e ∧ J e := by
    intro k
    induction k with
    | zero =>
      intro i s h hI
      have : i = N := by omega
      subst this
      obtain ⟨e, h1, h2⟩ := he s hI
      exact ⟨e, lp_inr h1, h2⟩
    | succ k ih =>
      intro i s h hI
      rcases hs i s (by omega) hI with ⟨s', h1, h2⟩ | ⟨e, h1, h2⟩
      · obtain ⟨e, g1, g2⟩ := ih (i + 1) s' (by omega) h2
        exact ⟨e, by rw [lp_inl h1]; exact g1, g2⟩
      · exact ⟨e, lp_inr h1, h2⟩
  exact this N 0 s (by omega) h0
def cu2 {A B γ : Type} (F : A → B → γ) : A × B → γ := fun s => F s.1 s.2
def cu3 {A B C γ : Type} (F : A → B → C → γ) : A × B × C → γ := fun s => F s.1 s.2.1 s.2.2
def cu4 {A B C D γ : Type} (F : A → B → C → D → γ) : A × B × C × D → γ := fun s => F s.1 s.2.1 s.2.2.1 s.2.2.2
def cu5 {A B C D E γ : Type} (F : A → B → C → D → E → γ) : A × B × C × D × E → γ := fun s => F s.1 s.2.1 s.2.2.1 s.2.2.2.1 s.2.2.2.2
def cu6 {A B C D E I γ : Type} (F : A → B → C → D → E → I → γ) : A × B × C × D × E × I → γ := fun s => F s.1 s.2.1 s.2.2.1 s.2.2.2.1 s.2.2.2.2.1 s.2.2.2.2.2
/-- a loop's end: on, or back to the caller -/
def bdr {ε ρ β : Type} (x : Option (ε ⊕ ρ)) (f : ε → Option β) (h : ρ → Option β) : Option β := match x with
  | none => none
  | some (.inl a) => f a
  | some (.inr b) => h b
section SIMR
variable {g : GT} {G : GP} {cc : ByteArray} {own : String} {nL n : Nat} {α : Type} {Pr : Option α} {K : α → Prop} {pc : Nat} {lv : LV} {st : List Value} {μ : Mem}
theorem CX.sub (hX : CX g G cc own nL n) {lv' : LV} (ks : List Nat) (hl : lv_pick lv ks = lv') (k : G pc lv' st μ) : G pc lv st μ := by
  obtain ⟨p, e, R, s, m, args, below, meth, c, cells, slots, Q, rfl, -⟩ := hX
  exact fun H locs ls hP hS h => k H locs ls hP hS (lv_sub h ks hl)
theorem s_to (hX : CX g G cc own nL n) {lv' : LV} (ks : List Nat) (hl : lv_pick lv ks = lv') (k : Sim G Pr K pc lv' st μ) : Sim G Pr K pc lv st μ := fun a h1 h2 => hX.sub ks hl (k a h1 h2)
theorem s_end (hX : CX g G cc own nL n) {x : α} {lv' : LV} (k : K x → G pc lv' st μ) (ks : List Nat) (hl : lv_pick lv ks = lv') : Sim G (some x) K pc lv st μ := fun a h1 h2 => by
  cases h1
  exact hX.sub ks hl (k h2)
theorem s_lt {β : Type} {a : β} {f : β → Option α} (k : ∀ x, x = a → Sim G (f x) K pc lv st μ) : Sim G (lt a f) K pc lv st μ := k a rfl
theorem s_lti {x : Int32} {f : Int32 → Option α} (k : ∀ y, Sim G (f y) K pc lv (.int y :: st) μ) : Sim G (lt x f) K pc lv (.int x :: st) μ := k x
theorem s_ltl {x : Int64} {f : Int64 → Option α} (k : ∀ y, Sim G (f y) K pc lv (.long y :: st) μ) : Sim G (lt x f) K pc lv (.long x :: st) μ := k x
theorem s_jn {γ : Type} {j : γ} {f : γ → Option α} (C : γ → Prop) (hj : C j) (k : ∀ j', C j' → Sim G (f j') K pc lv st μ) : Sim G (jn j f) K pc lv st μ := k j hj
theorem s_loop {σ ε : Type} {F : σ → Option (σ ⊕ ε)} {s0 : σ} {rest : ε → Option α} (hX : CX g G cc own nL n) (head exit : Nat) (lvs : σ → LV) (ms : σ → Mem) (lve : ε → LV) (me : ε → Mem) (ks : List Nat) (hl : lv_pick lv ks = lvs s0) (hpc : pc = head) (hm : μ = ms s0)
    (hb : ∀ (K' : σ ⊕ ε → Prop), (∀ s', K' (.inl s') → G head (lvs s') st (ms s')) → (∀ e, K' (.inr e) → G exit (lve e) st (me e)) → ∀ s, Sim G (F s) K' head (lvs s) st (ms s)) (hr : ∀ e, Sim G (rest e) K exit (lve e) st (me e)) : Sim G (bd (lp F s0) rest) K pc lv st μ := by
  subst hpc
  subst hm
  intro a h1 h2
  cases hq : lp F s0 with
  | none => rw [hq] at h1; cases h1
  | some e =>
    rw [hq] at h1
    have hJ := hr e a h1 h2
    obtain ⟨N, hN⟩ := lp_itn hq
    refine hX.sub ks hl ?_
    have key : ∀ (N : Nat) (s : σ), itn F N s = some e → G pc (lvs s) st (ms s) := by
      intro N
      induction N with
      | zero => intro s h; cases h
      | succ N ih =>
        intro s h
        simp only [itn] at h
        cases hF : F s with
        | none => rw [hF] at h; cases h
        | some x =>
          rw [hF] at h
          refine hb (fun y => y = x) ?_ ?_ s x hF rfl
          · intro s' hs; subst hs; exact ih s' h
          · intro e' he; subst he; cases h; exact hJ
    exact key N s0 hN
theorem s_loopR {σ ε ρ : Type} {F : σ → Option (σ ⊕ (ε ⊕ ρ))} {s0 : σ} {rest : ε → Option α} {kr : ρ → Option α} (hX : CX g G cc own nL n) (head exit : Nat) (lvs : σ → LV) (ms : σ → Mem) (lve : ε → LV) (me : ε → Mem) (ks : List Nat) (hl : lv_pick lv ks = lvs s0) (hpc : pc = head) (hm : μ = ms s0) (KR : ρ → Prop) (hKR : ∀ r a, kr r = some a → K a → KR r)
    (hb : ∀ (K' : σ ⊕ (ε ⊕ ρ) → Prop), (∀ s', K' (.inl s') → G head (lvs s') st (ms s')) → (∀ e, K' (.inr (.inl e)) → G exit (lve e) st (me e)) → (∀ r, K' (.inr (.inr r)) → KR r) → ∀ s, Sim G (F s) K' head (lvs s) st (ms s)) (hr : ∀ e, Sim G (rest e) K exit (lve e) st (me e)) : Sim G (bdr (lp F s0) rest kr) K pc lv st μ := by
  subst hpc
  subst hm
  intro a h1 h2
  cases hq : lp F s0 with
  | none => rw [hq] at h1; cases h1
  | some e =>
    rw [hq] at h1
    obtain ⟨N, hN⟩ := lp_itn hq
    refine hX.sub ks hl ?_
    have key : ∀ (N : Nat) (s : σ), itn F N s = some e → G pc (lvs s) st (ms s) := by
      intro N
      induction N with
      | zero => intro s h; cases h
      | succ N ih =>
        intro s h
        simp only [itn] at h
        cases hF : F s with
        | none => rw [hF] at h; cases h
        | some x =>
          rw [hF] at h
          refine hb (fun y => y = x) ?_ ?_ ?_ s x hF rfl
          · intro s' hs; subst hs; exact ih s' h
          · intro e' he; subst he; cases h; exact hr e' a h1 h2
          · intro r he; subst he; cases h; exact hKR r a h1 h2
    exact key N s0 hN
theorem s_ireti {β : Type} {inj : Int32 × Mem → β} {K : β → Prop} {r0 v : Int32} {μ0 : Mem} (hK : ∀ r, K (inj r) → r = (r0, μ0)) (hR : ∀ pc lv, decode cc pc = .ok (.ireturn, 1) → G pc lv [.int r0] μ0) (hd : decode cc pc = .ok (.ireturn, 1)) : Sim G (some (inj (v, μ))) K pc lv [.int v] μ := fun a h1 h2 => by
  cases h1
  cases hK _ h2
  exact hR _ _ hd
theorem s_iretr {β : Type} {inj : Int32 → β} {K : β → Prop} {r0 v : Int32} (hK : ∀ r, K (inj r) → r = r0) (hR : ∀ pc lv, decode cc pc = .ok (.ireturn, 1) → G pc lv [.int r0] μ) (hd : decode cc pc = .ok (.ireturn, 1)) : Sim G (some (inj v)) K pc lv [.int v] μ := fun a h1 h2 => by
  cases h1
  cases hK _ h2
  exact hR _ _ hd
theorem s_lreti {β : Type} {inj : Int64 × Mem → β} {K : β → Prop} {r0 v : Int64} {μ0 : Mem} (hK : ∀ r, K (inj r) → r = (r0, μ0)) (hR : ∀ pc lv, decode cc pc = .ok (.lreturn, 1) → G pc lv [.long r0] μ0) (hd : decode cc pc = .ok (.lreturn, 1)) : Sim G (some (inj (v, μ))) K pc lv [.long v] μ := fun a h1 h2 => by
  cases h1
  cases hK _ h2
  exact hR _ _ hd
theorem s_lretr {β : Type} {inj : Int64 → β} {K : β → Prop} {r0 v : Int64} (hK : ∀ r, K (inj r) → r = r0) (hR : ∀ pc lv, decode cc pc = .ok (.lreturn, 1) → G pc lv [.long r0] μ) (hd : decode cc pc = .ok (.lreturn, 1)) : Sim G (some (inj v)) K pc lv [.long v] μ := fun a h1 h2 => by
  cases h1
  cases hK _ h2
  exact hR _ _ hd
theorem s_vreti {β : Type} {inj : Mem → β} {K : β → Prop} {μ0 : Mem} (hK : ∀ r, K (inj r) → r = μ0) (hR : ∀ pc lv, decode cc pc = .ok (.return_, 1) → G pc lv [] μ0) (hd : decode cc pc = .ok (.return_, 1)) : Sim G (some (inj μ)) K pc lv [] μ := fun a h1 h2 => by
  cases h1
  cases hK _ h2
  exact hR _ _ hd
theorem s_iconst (hX : CX g G cc own nL n) {i : Int} {v : Int32} (hd : decode cc pc = .ok (.iconst i, 1)) (hv : Int32.ofInt i = v) (k : Sim G Pr K (pc + 1) lv (.int v :: st) μ) : Sim G Pr K pc lv (st) μ := by
  obtain ⟨p, e, R, s, m, args, below, meth, c, cells, slots, Q, rfl, hx, hb, hml, hown, hts, hK, hT, hO, hn1, hn2, hn3, hn4⟩ := hX
  exact fun a h1 h2 H locs ls hP hS hl => lv_iconst hx hb hd hv (k a h1 h2 H locs ls hP hS hl)
theorem s_bipush (hX : CX g G cc own nL n) {i : Int} {v : Int32} (hd : decode cc pc = .ok (.bipush i, 2)) (hv : (Int8.ofInt i).toInt32 = v) (k : Sim G Pr K (pc + 2) lv (.int v :: st) μ) : Sim G Pr K pc lv (st) μ := by
  obtain ⟨p, e, R, s, m, args, below, meth, c, cells, slots, Q, rfl, hx, hb, hml, hown, hts, hK, hT, hO, hn1, hn2, hn3, hn4⟩ := hX
  exact fun a h1 h2 H locs ls hP hS hl => lv_bipush hx hb hd hv (k a h1 h2 H locs ls hP hS hl)
theorem s_sipush (hX : CX g G cc own nL n) {i : Int} {v : Int32} (hd : decode cc pc = .ok (.sipush i, 3)) (hv : (Int16.ofInt i).toInt32 = v) (k : Sim G Pr K (pc + 3) lv (.int v :: st) μ) : Sim G Pr K pc lv (st) μ := by
  obtain ⟨p, e, R, s, m, args, below, meth, c, cells, slots, Q, rfl, hx, hb, hml, hown, hts, hK, hT, hO, hn1, hn2, hn3, hn4⟩ := hX
  exact fun a h1 h2 H locs ls hP hS hl => lv_sipush hx hb hd hv (k a h1 h2 H locs ls hP hS hl)
theorem s_lconst (hX : CX g G cc own nL n) {i : Fin 2} {v : Int64} (hd : decode cc pc = .ok (.lconst i, 1)) (hv : Int64.ofNat (i : Nat) = v) (k : Sim G Pr K (pc + 1) lv (.long v :: st) μ) : Sim G Pr K pc lv (st) μ := by
  obtain ⟨p, e, R, s, m, args, below, meth, c, cells, slots, Q, rfl, hx, hb, hml, hown, hts, hK, hT, hO, hn1, hn2, hn3, hn4⟩ := hX
  exact fun a h1 h2 H locs ls hP hS hl => lv_lconst hx hb hd hv (k a h1 h2 H locs ls hP hS hl)
theorem s_ldc (hX : CX g G cc own nL n) {i : Nat} {v : Int32} (hd : decode cc pc = .ok (.ldc i, 2)) (hw : Cond.constant own i v ∈ TB) (k : Sim G Pr K (pc + 2) lv (.int v :: st) μ) : Sim G Pr K pc lv (st) μ := by
  obtain ⟨p, e, R, s, m, args, below, meth, c, cells, slots, Q, rfl, hx, hb, hml, hown, hts, hK, hT, hO, hn1, hn2, hn3, hn4⟩ := hX
  exact fun a h1 h2 H locs ls hP hS hl => lv_ldc hx hb hown (hts _ hw) hd (k a h1 h2 H locs ls hP hS hl)
theorem s_ldcw (hX : CX g G cc own nL n) {i : Nat} {v : Int32} (hd : decode cc pc = .ok (.ldc_w i, 3)) (hw : Cond.constant own i v ∈ TB) (k : Sim G Pr K (pc + 3) lv (.int v :: st) μ) : Sim G Pr K pc lv (st) μ := by
  obtain ⟨p, e, R, s, m, args, below, meth, c, cells, slots, Q, rfl, hx, hb, hml, hown, hts, hK, hT, hO, hn1, hn2, hn3, hn4⟩ := hX
  exact fun a h1 h2 H locs ls hP hS hl => lv_ldcw hx hb hown (hts _ hw) hd (k a h1 h2 H locs ls hP hS hl)
theorem s_ldc2 (hX : CX g G cc own nL n) {i : Nat} {v : Int64} (hd : decode cc pc = .ok (.ldc2_w i, 3)) (hw : Cond.constantLong own i v ∈ TB) (k : Sim G Pr K (pc + 3) lv (.long v :: st) μ) : Sim G Pr K pc lv (st) μ := by
  obtain ⟨p, e, R, s, m, args, below, meth, c, cells, slots, Q, rfl, hx, hb, hml, hown, hts, hK, hT, hO, hn1, hn2, hn3, hn4⟩ := hX
  exact fun a h1 h2 H locs ls hP hS hl => lv_ldc2 hx hb hown (hts _ hw) hd (k a h1 h2 H locs ls hP hS hl)
theorem s_iload_n (hX : CX g G cc own nL n) {q : Fin 4} {i : Nat} {x : Int32} (hd : decode cc pc = .ok (.iload_n q, 1)) (hi : (q : Nat) = i) (k0 : Nat) (h0 : lv[k0]? = some (i, .int x)) (k : Sim G Pr K (pc + 1) lv (.int x :: st) μ) : Sim G Pr K pc lv (st) μ := by
  obtain ⟨p, e, R, s, m, args, below, meth, c, cells, slots, Q, rfl, hx, hb, hml, hown, hts, hK, hT, hO, hn1, hn2, hn3, hn4⟩ := hX
  exact fun a h1 h2 H locs ls hP hS hl => lv_iload_n hx hb hd hi (lv_at hl k0 h0) (k a h1 h2 H locs ls hP hS hl)
theorem s_iload (hX : CX g G cc own nL n) {i : Nat} {x : Int32} (hd : decode cc pc = .ok (.iload i, 2)) (k0 : Nat) (h0 : lv[k0]? = some (i, .int x)) (k : Sim G Pr K (pc + 2) lv (.int x :: st) μ) : Sim G Pr K pc lv (st) μ := by
  obtain ⟨p, e, R, s, m, args, below, meth, c, cells, slots, Q, rfl, hx, hb, hml, hown, hts, hK, hT, hO, hn1, hn2, hn3, hn4⟩ := hX
  exact fun a h1 h2 H locs ls hP hS hl => lv_iload hx hb hd (lv_at hl k0 h0) (k a h1 h2 H locs ls hP hS hl)
theorem s_lload_n (hX : CX g G cc own nL n) {q : Fin 4} {i : Nat} {x : Int64} (hd : decode cc pc = .ok (.lload_n q, 1)) (hi : (q : Nat) = i) (k0 : Nat) (h0 : lv[k0]? = some (i, .long x)) (k : Sim G Pr K (pc + 1) lv (.long x :: st) μ) : Sim G Pr K pc lv (st) μ := by
  obtain ⟨p, e, R, s, m, args, below, meth, c, cells, slots, Q, rfl, hx, hb, hml, hown, hts, hK, hT, hO, hn1, hn2, hn3, hn4⟩ := hX
  exact fun a h1 h2 H locs ls hP hS hl => lv_lload_n hx hb hd hi (lv_at hl k0 h0) (k a h1 h2 H locs ls hP hS hl)
theorem s_lload (hX : CX g G cc own nL n) {i : Nat} {x : Int64} (hd : decode cc pc = .ok (.lload i, 2)) (k0 : Nat) (h0 : lv[k0]? = some (i, .long x)) (k : Sim G Pr K (pc + 2) lv (.long x :: st) μ) : Sim G Pr K pc lv (st) μ := by
  obtain ⟨p, e, R, s, m, args, below, meth, c, cells, slots, Q, rfl, hx, hb, hml, hown, hts, hK, hT, hO, hn1, hn2, hn3, hn4⟩ := hX
  exact fun a h1 h2 H locs ls hP hS hl => lv_lload hx hb hd (lv_at hl k0 h0) (k a h1 h2 H locs ls hP hS hl)
theorem s_aload_n (hX : CX g G cc own nL n) {q : Fin 4} {i : Nat} {x : Nat} (hd : decode cc pc = .ok (.aload_n q, 1)) (hi : (q : Nat) = i) (k0 : Nat) (h0 : lv[k0]? = some (i, rf g x)) (k : Sim G Pr K (pc + 1) lv (rf g x :: st) μ) : Sim G Pr K pc lv (st) μ := by
  obtain ⟨p, e, R, s, m, args, below, meth, c, cells, slots, Q, rfl, hx, hb, hml, hown, hts, hK, hT, hO, hn1, hn2, hn3, hn4⟩ := hX
  exact fun a h1 h2 H locs ls hP hS hl => lv_aload_n hx hb hd hi (lv_at hl k0 h0) (k a h1 h2 H locs ls hP hS hl)
theorem s_aload (hX : CX g G cc own nL n) {i : Nat} {x : Nat} (hd : decode cc pc = .ok (.aload i, 2)) (k0 : Nat) (h0 : lv[k0]? = some (i, rf g x)) (k : Sim G Pr K (pc + 2) lv (rf g x :: st) μ) : Sim G Pr K pc lv (st) μ := by
  obtain ⟨p, e, R, s, m, args, below, meth, c, cells, slots, Q, rfl, hx, hb, hml, hown, hts, hK, hT, hO, hn1, hn2, hn3, hn4⟩ := hX
  exact fun a h1 h2 H locs ls hP hS hl => lv_aload hx hb hd (lv_at hl k0 h0) (k a h1 h2 H locs ls hP hS hl)
theorem s_Sload_n (hX : CX g G cc own nL n) {q : Fin 4} {i : Nat} {x : Nat} (hd : decode cc pc = .ok (.aload_n q, 1)) (hi : (q : Nat) = i) (k0 : Nat) (h0 : lv[k0]? = some (i, rfS g x)) (k : Sim G Pr K (pc + 1) lv (rfS g x :: st) μ) : Sim G Pr K pc lv (st) μ := by
  obtain ⟨p, e, R, s, m, args, below, meth, c, cells, slots, Q, rfl, hx, hb, hml, hown, hts, hK, hT, hO, hn1, hn2, hn3, hn4⟩ := hX
  exact fun a h1 h2 H locs ls hP hS hl => lv_aload_n hx hb hd hi (lv_at hl k0 h0) (k a h1 h2 H locs ls hP hS hl)
theorem s_Sload (hX : CX g G cc own nL n) {i : Nat} {x : Nat} (hd : decode cc pc = .ok (.aload i, 2)) (k0 : Nat) (h0 : lv[k0]? = some (i, rfS g x)) (k : Sim G Pr K (pc + 2) lv (rfS g x :: st) μ) : Sim G Pr K pc lv (st) μ := by
  obtain ⟨p, e, R, s, m, args, below, meth, c, cells, slots, Q, rfl, hx, hb, hml, hown, hts, hK, hT, hO, hn1, hn2, hn3, hn4⟩ := hX
  exact fun a h1 h2 H locs ls hP hS hl => lv_aload hx hb hd (lv_at hl k0 h0) (k a h1 h2 H locs ls hP hS hl)
theorem s_xload_n (hX : CX g G cc own nL n) {q : Fin 4} {i : Nat} {x : Nat} (hd : decode cc pc = .ok (.aload_n q, 1)) (hi : (q : Nat) = i) (k0 : Nat) (h0 : lv[k0]? = some (i, Value.ref x)) (k : Sim G Pr K (pc + 1) lv (Value.ref x :: st) μ) : Sim G Pr K pc lv (st) μ := by
  obtain ⟨p, e, R, s, m, args, below, meth, c, cells, slots, Q, rfl, hx, hb, hml, hown, hts, hK, hT, hO, hn1, hn2, hn3, hn4⟩ := hX
  exact fun a h1 h2 H locs ls hP hS hl => lv_aload_n hx hb hd hi (lv_at hl k0 h0) (k a h1 h2 H locs ls hP hS hl)
theorem s_xload (hX : CX g G cc own nL n) {i : Nat} {x : Nat} (hd : decode cc pc = .ok (.aload i, 2)) (k0 : Nat) (h0 : lv[k0]? = some (i, Value.ref x)) (k : Sim G Pr K (pc + 2) lv (Value.ref x :: st) μ) : Sim G Pr K pc lv (st) μ := by
  obtain ⟨p, e, R, s, m, args, below, meth, c, cells, slots, Q, rfl, hx, hb, hml, hown, hts, hK, hT, hO, hn1, hn2, hn3, hn4⟩ := hX
  exact fun a h1 h2 H locs ls hP hS hl => lv_aload hx hb hd (lv_at hl k0 h0) (k a h1 h2 H locs ls hP hS hl)
theorem s_istore_n (hX : CX g G cc own nL n) {q : Fin 4} {i : Nat} {x : Int32} {lv' : LV} (hd : decode cc pc = .ok (.istore_n q, 1)) (hi : (q : Nat) = i) (hn : i < nL) (hl : (i, Value.int x) :: lv.filter (fun q => !(q.1 == i) && !(q.1 + 1 == i && q.2.category == 2)) = lv') (k : Sim G Pr K (pc + 1) lv' st μ) : Sim G Pr K pc lv (Value.int x :: st) μ := by
  obtain ⟨p, e, R, s, m, args, below, meth, c, cells, slots, Q, rfl, hx, hb, hml, hown, hts, hK, hT, hO, hn1, hn2, hn3, hn4⟩ := hX
  exact fun a h1 h2 H locs ls hP hS h => lv_istore_n hx hb hd hi h hn hl (fun ls' hl' => k a h1 h2 H locs ls' hP hS hl')
theorem s_istore (hX : CX g G cc own nL n) {i : Nat} {x : Int32} {lv' : LV} (hd : decode cc pc = .ok (.istore i, 2)) (hn : i < nL) (hl : (i, Value.int x) :: lv.filter (fun q => !(q.1 == i) && !(q.1 + 1 == i && q.2.category == 2)) = lv') (k : Sim G Pr K (pc + 2) lv' st μ) : Sim G Pr K pc lv (Value.int x :: st) μ := by
  obtain ⟨p, e, R, s, m, args, below, meth, c, cells, slots, Q, rfl, hx, hb, hml, hown, hts, hK, hT, hO, hn1, hn2, hn3, hn4⟩ := hX
  exact fun a h1 h2 H locs ls hP hS h => lv_istore hx hb hd h hn hl (fun ls' hl' => k a h1 h2 H locs ls' hP hS hl')
theorem s_lstore_n (hX : CX g G cc own nL n) {q : Fin 4} {i : Nat} {x : Int64} {lv' : LV} (hd : decode cc pc = .ok (.lstore_n q, 1)) (hi : (q : Nat) = i) (hn : i + 1 < nL) (hl : (i, Value.long x) :: lv.filter (fun q => !(q.1 == i) && (!(q.1 == i + 1) && !(q.1 + 1 == i && q.2.category == 2))) = lv') (k : Sim G Pr K (pc + 1) lv' st μ) : Sim G Pr K pc lv (Value.long x :: st) μ := by
  obtain ⟨p, e, R, s, m, args, below, meth, c, cells, slots, Q, rfl, hx, hb, hml, hown, hts, hK, hT, hO, hn1, hn2, hn3, hn4⟩ := hX
  exact fun a h1 h2 H locs ls hP hS h => lv_lstore_n hx hb hd hi h hn hl (fun ls' hl' => k a h1 h2 H locs ls' hP hS hl')
theorem s_lstore (hX : CX g G cc own nL n) {i : Nat} {x : Int64} {lv' : LV} (hd : decode cc pc = .ok (.lstore i, 2)) (hn : i + 1 < nL) (hl : (i, Value.long x) :: lv.filter (fun q => !(q.1 == i) && (!(q.1 == i + 1) && !(q.1 + 1 == i && q.2.category == 2))) = lv') (k : Sim G Pr K (pc + 2) lv' st μ) : Sim G Pr K pc lv (Value.long x :: st) μ := by
  obtain ⟨p, e, R, s, m, args, below, meth, c, cells, slots, Q, rfl, hx, hb, hml, hown, hts, hK, hT, hO, hn1, hn2, hn3, hn4⟩ := hX
  exact fun a h1 h2 H locs ls hP hS h => lv_lstore hx hb hd h hn hl (fun ls' hl' => k a h1 h2 H locs ls' hP hS hl')
theorem s_astore_n (hX : CX g G cc own nL n) {q : Fin 4} {i : Nat} {x : Nat} {lv' : LV} (hd : decode cc pc = .ok (.astore_n q, 1)) (hi : (q : Nat) = i) (hn : i < nL) (hl : (i, rf g x) :: lv.filter (fun q => !(q.1 == i) && !(q.1 + 1 == i && q.2.category == 2)) = lv') (k : Sim G Pr K (pc + 1) lv' st μ) : Sim G Pr K pc lv (rf g x :: st) μ := by
  obtain ⟨p, e, R, s, m, args, below, meth, c, cells, slots, Q, rfl, hx, hb, hml, hown, hts, hK, hT, hO, hn1, hn2, hn3, hn4⟩ := hX
  exact fun a h1 h2 H locs ls hP hS h => lv_astore_n hx hb hd hi h hn hl (fun ls' hl' => k a h1 h2 H locs ls' hP hS hl')
theorem s_astore (hX : CX g G cc own nL n) {i : Nat} {x : Nat} {lv' : LV} (hd : decode cc pc = .ok (.astore i, 2)) (hn : i < nL) (hl : (i, rf g x) :: lv.filter (fun q => !(q.1 == i) && !(q.1 + 1 == i && q.2.category == 2)) = lv') (k : Sim G Pr K (pc + 2) lv' st μ) : Sim G Pr K pc lv (rf g x :: st) μ := by
  obtain ⟨p, e, R, s, m, args, below, meth, c, cells, slots, Q, rfl, hx, hb, hml, hown, hts, hK, hT, hO, hn1, hn2, hn3, hn4⟩ := hX
  exact fun a h1 h2 H locs ls hP hS h => lv_astore hx hb hd h hn hl (fun ls' hl' => k a h1 h2 H locs ls' hP hS hl')
theorem s_iinc (hX : CX g G cc own nL n) {i : Nat} {z : Int} {x v : Int32} {lv' : LV} (hd : decode cc pc = .ok (.iinc i z, 3)) (k0 : Nat) (h0 : lv[k0]? = some (i, .int x)) (hv : x + Int32.ofInt z = v) (hn : i < nL) (hl : (i, Value.int v) :: lv.filter (fun q => !(q.1 == i) && !(q.1 + 1 == i && q.2.category == 2)) = lv') (k : Sim G Pr K (pc + 3) lv' st μ) : Sim G Pr K pc lv st μ := by
  obtain ⟨p, e, R, s, m, args, below, meth, c, cells, slots, Q, rfl, hx, hb, hml, hown, hts, hK, hT, hO, hn1, hn2, hn3, hn4⟩ := hX
  exact fun a h1 h2 H locs ls hP hS h => lv_iinc hx hb hd h h0 hv hn hl (fun ls' hl' => k a h1 h2 H locs ls' hP hS hl')
theorem s_iadd (hX : CX g G cc own nL n) {x y : Int32} (hd : decode cc pc = .ok (.iadd, 1)) (k : Sim G Pr K (pc + 1) lv (.int (x + y) :: st) μ) : Sim G Pr K pc lv (.int y :: .int x :: st) μ := by
  obtain ⟨p, e, R, s, m, args, below, meth, c, cells, slots, Q, rfl, hx, hb, hml, hown, hts, hK, hT, hO, hn1, hn2, hn3, hn4⟩ := hX
  exact fun a h1 h2 H locs ls hP hS hl => lv_iadd hx hb hd (k a h1 h2 H locs ls hP hS hl)
theorem s_isub (hX : CX g G cc own nL n) {x y : Int32} (hd : decode cc pc = .ok (.isub, 1)) (k : Sim G Pr K (pc + 1) lv (.int (x - y) :: st) μ) : Sim G Pr K pc lv (.int y :: .int x :: st) μ := by
  obtain ⟨p, e, R, s, m, args, below, meth, c, cells, slots, Q, rfl, hx, hb, hml, hown, hts, hK, hT, hO, hn1, hn2, hn3, hn4⟩ := hX
  exact fun a h1 h2 H locs ls hP hS hl => lv_isub hx hb hd (k a h1 h2 H locs ls hP hS hl)
theorem s_imul (hX : CX g G cc own nL n) {x y : Int32} (hd : decode cc pc = .ok (.imul, 1)) (k : Sim G Pr K (pc + 1) lv (.int (x * y) :: st) μ) : Sim G Pr K pc lv (.int y :: .int x :: st) μ := by
  obtain ⟨p, e, R, s, m, args, below, meth, c, cells, slots, Q, rfl, hx, hb, hml, hown, hts, hK, hT, hO, hn1, hn2, hn3, hn4⟩ := hX
  exact fun a h1 h2 H locs ls hP hS hl => lv_imul hx hb hd (k a h1 h2 H locs ls hP hS hl)
theorem s_iand (hX : CX g G cc own nL n) {x y : Int32} (hd : decode cc pc = .ok (.iand, 1)) (k : Sim G Pr K (pc + 1) lv (.int (x &&& y) :: st) μ) : Sim G Pr K pc lv (.int y :: .int x :: st) μ := by
  obtain ⟨p, e, R, s, m, args, below, meth, c, cells, slots, Q, rfl, hx, hb, hml, hown, hts, hK, hT, hO, hn1, hn2, hn3, hn4⟩ := hX
  exact fun a h1 h2 H locs ls hP hS hl => lv_iand hx hb hd (k a h1 h2 H locs ls hP hS hl)
theorem s_ior (hX : CX g G cc own nL n) {x y : Int32} (hd : decode cc pc = .ok (.ior, 1)) (k : Sim G Pr K (pc + 1) lv (.int (x ||| y) :: st) μ) : Sim G Pr K pc lv (.int y :: .int x :: st) μ := by
  obtain ⟨p, e, R, s, m, args, below, meth, c, cells, slots, Q, rfl, hx, hb, hml, hown, hts, hK, hT, hO, hn1, hn2, hn3, hn4⟩ := hX
  exact fun a h1 h2 H locs ls hP hS hl => lv_ior hx hb hd (k a h1 h2 H locs ls hP hS hl)
theorem s_ixor (hX : CX g G cc own nL n) {x y : Int32} (hd : decode cc pc = .ok (.ixor, 1)) (k : Sim G Pr K (pc + 1) lv (.int (x ^^^ y) :: st) μ) : Sim G Pr K pc lv (.int y :: .int x :: st) μ := by
  obtain ⟨p, e, R, s, m, args, below, meth, c, cells, slots, Q, rfl, hx, hb, hml, hown, hts, hK, hT, hO, hn1, hn2, hn3, hn4⟩ := hX
  exact fun a h1 h2 H locs ls hP hS hl => lv_ixor hx hb hd (k a h1 h2 H locs ls hP hS hl)
theorem s_ishl (hX : CX g G cc own nL n) {x y : Int32} (hd : decode cc pc = .ok (.ishl, 1)) (k : Sim G Pr K (pc + 1) lv (.int (x <<< (y &&& 31)) :: st) μ) : Sim G Pr K pc lv (.int y :: .int x :: st) μ := by
  obtain ⟨p, e, R, s, m, args, below, meth, c, cells, slots, Q, rfl, hx, hb, hml, hown, hts, hK, hT, hO, hn1, hn2, hn3, hn4⟩ := hX
  exact fun a h1 h2 H locs ls hP hS hl => lv_ishl hx hb hd (k a h1 h2 H locs ls hP hS hl)
theorem s_ishr (hX : CX g G cc own nL n) {x y : Int32} (hd : decode cc pc = .ok (.ishr, 1)) (k : Sim G Pr K (pc + 1) lv (.int (x >>> (y &&& 31)) :: st) μ) : Sim G Pr K pc lv (.int y :: .int x :: st) μ := by
  obtain ⟨p, e, R, s, m, args, below, meth, c, cells, slots, Q, rfl, hx, hb, hml, hown, hts, hK, hT, hO, hn1, hn2, hn3, hn4⟩ := hX
  exact fun a h1 h2 H locs ls hP hS hl => lv_ishr hx hb hd (k a h1 h2 H locs ls hP hS hl)
theorem s_iushr (hX : CX g G cc own nL n) {x y : Int32} (hd : decode cc pc = .ok (.iushr, 1)) (k : Sim G Pr K (pc + 1) lv (.int ((x.toUInt32 >>> (y.toUInt32 &&& Int32.toUInt32 31)).toInt32) :: st) μ) : Sim G Pr K pc lv (.int y :: .int x :: st) μ := by
  obtain ⟨p, e, R, s, m, args, below, meth, c, cells, slots, Q, rfl, hx, hb, hml, hown, hts, hK, hT, hO, hn1, hn2, hn3, hn4⟩ := hX
  exact fun a h1 h2 H locs ls hP hS hl => lv_iushr hx hb hd rfl (k a h1 h2 H locs ls hP hS hl)
theorem s_idiv (hX : CX g G cc own nL n) {x y : Int32} (hd : decode cc pc = .ok (.idiv, 1)) (hne : ¬ y = 0) (k : Sim G Pr K (pc + 1) lv (.int (x / y) :: st) μ) : Sim G Pr K pc lv (.int y :: .int x :: st) μ := by
  obtain ⟨p, e, R, s, m, args, below, meth, c, cells, slots, Q, rfl, hx, hb, hml, hown, hts, hK, hT, hO, hn1, hn2, hn3, hn4⟩ := hX
  exact fun a h1 h2 H locs ls hP hS hl => lv_idiv hx hb hd hne (k a h1 h2 H locs ls hP hS hl)
theorem s_irem (hX : CX g G cc own nL n) {x y : Int32} (hd : decode cc pc = .ok (.irem, 1)) (hne : ¬ y = 0) (k : Sim G Pr K (pc + 1) lv (.int (x - x / y * y) :: st) μ) : Sim G Pr K pc lv (.int y :: .int x :: st) μ := by
  obtain ⟨p, e, R, s, m, args, below, meth, c, cells, slots, Q, rfl, hx, hb, hml, hown, hts, hK, hT, hO, hn1, hn2, hn3, hn4⟩ := hX
  exact fun a h1 h2 H locs ls hP hS hl => lv_irem hx hb hd hne (k a h1 h2 H locs ls hP hS hl)
theorem s_ladd (hX : CX g G cc own nL n) {x y : Int64} (hd : decode cc pc = .ok (.ladd, 1)) (k : Sim G Pr K (pc + 1) lv (.long (x + y) :: st) μ) : Sim G Pr K pc lv (.long y :: .long x :: st) μ := by
  obtain ⟨p, e, R, s, m, args, below, meth, c, cells, slots, Q, rfl, hx, hb, hml, hown, hts, hK, hT, hO, hn1, hn2, hn3, hn4⟩ := hX
  exact fun a h1 h2 H locs ls hP hS hl => lv_ladd hx hb hd (k a h1 h2 H locs ls hP hS hl)
theorem s_lsub (hX : CX g G cc own nL n) {x y : Int64} (hd : decode cc pc = .ok (.lsub, 1)) (k : Sim G Pr K (pc + 1) lv (.long (x - y) :: st) μ) : Sim G Pr K pc lv (.long y :: .long x :: st) μ := by
  obtain ⟨p, e, R, s, m, args, below, meth, c, cells, slots, Q, rfl, hx, hb, hml, hown, hts, hK, hT, hO, hn1, hn2, hn3, hn4⟩ := hX
  exact fun a h1 h2 H locs ls hP hS hl => lv_lsub hx hb hd (k a h1 h2 H locs ls hP hS hl)
theorem s_lmul (hX : CX g G cc own nL n) {x y : Int64} (hd : decode cc pc = .ok (.lmul, 1)) (k : Sim G Pr K (pc + 1) lv (.long (x * y) :: st) μ) : Sim G Pr K pc lv (.long y :: .long x :: st) μ := by
  obtain ⟨p, e, R, s, m, args, below, meth, c, cells, slots, Q, rfl, hx, hb, hml, hown, hts, hK, hT, hO, hn1, hn2, hn3, hn4⟩ := hX
  exact fun a h1 h2 H locs ls hP hS hl => lv_lmul hx hb hd (k a h1 h2 H locs ls hP hS hl)
theorem s_ldiv (hX : CX g G cc own nL n) {x y : Int64} (hd : decode cc pc = .ok (.ldiv, 1)) (hne : ¬ y = 0) (k : Sim G Pr K (pc + 1) lv (.long (x / y) :: st) μ) : Sim G Pr K pc lv (.long y :: .long x :: st) μ := by
  obtain ⟨p, e, R, s, m, args, below, meth, c, cells, slots, Q, rfl, hx, hb, hml, hown, hts, hK, hT, hO, hn1, hn2, hn3, hn4⟩ := hX
  exact fun a h1 h2 H locs ls hP hS hl => lv_ldiv hx hb hd hne (k a h1 h2 H locs ls hP hS hl)
theorem s_ldivZ (hX : CX g G cc own nL n) {x y : Int64} (hd : decode cc pc = .ok (.ldiv, 1)) (k : Sim G Pr K (pc + 1) lv (.long (x / y) :: st) μ) : Sim G (ckZ y Pr) K pc lv (.long y :: .long x :: st) μ := by
  intro a h1 h2
  unfold ckZ at h1
  by_cases hy : y = 0
  · rw [if_pos hy] at h1; cases h1
  · rw [if_neg hy] at h1; exact s_ldiv hX hd hy k a h1 h2
theorem s_lrem (hX : CX g G cc own nL n) {x y : Int64} (hd : decode cc pc = .ok (.lrem, 1)) (hne : ¬ y = 0) (k : Sim G Pr K (pc + 1) lv (.long (x - x / y * y) :: st) μ) : Sim G Pr K pc lv (.long y :: .long x :: st) μ := by
  obtain ⟨p, e, R, s, m, args, below, meth, c, cells, slots, Q, rfl, hx, hb, hml, hown, hts, hK, hT, hO, hn1, hn2, hn3, hn4⟩ := hX
  exact fun a h1 h2 H locs ls hP hS hl => lv_lrem hx hb hd hne (k a h1 h2 H locs ls hP hS hl)
theorem s_lremZ (hX : CX g G cc own nL n) {x y : Int64} (hd : decode cc pc = .ok (.lrem, 1)) (k : Sim G Pr K (pc + 1) lv (.long (x - x / y * y) :: st) μ) : Sim G (ckZ y Pr) K pc lv (.long y :: .long x :: st) μ := by
  intro a h1 h2
  unfold ckZ at h1
  by_cases hy : y = 0
  · rw [if_pos hy] at h1; cases h1
  · rw [if_neg hy] at h1; exact s_lrem hX hd hy k a h1 h2
theorem s_lneg (hX : CX g G cc own nL n) {x : Int64} (hd : decode cc pc = .ok (.lneg, 1)) (k : Sim G Pr K (pc + 1) lv (.long (-x) :: st) μ) : Sim G Pr K pc lv (.long x :: st) μ := by
  obtain ⟨p, e, R, s, m, args, below, meth, c, cells, slots, Q, rfl, hx, hb, hml, hown, hts, hK, hT, hO, hn1, hn2, hn3, hn4⟩ := hX
  exact fun a h1 h2 H locs ls hP hS hl => lv_lneg hx hb hd (k a h1 h2 H locs ls hP hS hl)
theorem s_i2l (hX : CX g G cc own nL n) {x : Int32} (hd : decode cc pc = .ok (.i2l, 1)) (k : Sim G Pr K (pc + 1) lv (.long x.toInt64 :: st) μ) : Sim G Pr K pc lv (.int x :: st) μ := by
  obtain ⟨p, e, R, s, m, args, below, meth, c, cells, slots, Q, rfl, hx, hb, hml, hown, hts, hK, hT, hO, hn1, hn2, hn3, hn4⟩ := hX
  exact fun a h1 h2 H locs ls hP hS hl => lv_i2l hx hb hd rfl (k a h1 h2 H locs ls hP hS hl)
theorem s_i2c (hX : CX g G cc own nL n) {x : Int32} (hd : decode cc pc = .ok (.i2c, 1)) (k : Sim G Pr K (pc + 1) lv (.int ((x.toUInt32 % 65536).toInt32) :: st) μ) : Sim G Pr K pc lv (.int x :: st) μ := by
  obtain ⟨p, e, R, s, m, args, below, meth, c, cells, slots, Q, rfl, hx, hb, hml, hown, hts, hK, hT, hO, hn1, hn2, hn3, hn4⟩ := hX
  exact fun a h1 h2 H locs ls hP hS hl => lv_i2c hx hb hd rfl (k a h1 h2 H locs ls hP hS hl)
theorem s_dup (hX : CX g G cc own nL n) {va : Value} (hd : decode cc pc = .ok (.dup, 1)) (hc : va.category = 1) (k : Sim G Pr K (pc + 1) lv (va :: va :: st) μ) : Sim G Pr K pc lv (va :: st) μ := by
  obtain ⟨p, e, R, s, m, args, below, meth, c, cells, slots, Q, rfl, hx, hb, hml, hown, hts, hK, hT, hO, hn1, hn2, hn3, hn4⟩ := hX
  exact fun a h1 h2 H locs ls hP hS hl => lv_dup hx hb hd hc (k a h1 h2 H locs ls hP hS hl)
theorem s_pop (hX : CX g G cc own nL n) {va : Value} (hd : decode cc pc = .ok (.pop, 1)) (hc : va.category = 1) (k : Sim G Pr K (pc + 1) lv (st) μ) : Sim G Pr K pc lv (va :: st) μ := by
  obtain ⟨p, e, R, s, m, args, below, meth, c, cells, slots, Q, rfl, hx, hb, hml, hown, hts, hK, hT, hO, hn1, hn2, hn3, hn4⟩ := hX
  exact fun a h1 h2 H locs ls hP hS hl => lv_pop hx hb hd hc (k a h1 h2 H locs ls hP hS hl)
theorem s_dup2 (hX : CX g G cc own nL n) {va vb : Value} (hd : decode cc pc = .ok (.dup2, 1)) (hc : va.category = 1) (hc' : vb.category = 1) (k : Sim G Pr K (pc + 1) lv (va :: vb :: va :: vb :: st) μ) : Sim G Pr K pc lv (va :: vb :: st) μ := by
  obtain ⟨p, e, R, s, m, args, below, meth, c, cells, slots, Q, rfl, hx, hb, hml, hown, hts, hK, hT, hO, hn1, hn2, hn3, hn4⟩ := hX
  exact fun a h1 h2 H locs ls hP hS hl => lv_dup2_11 hx hb hd hc hc' (k a h1 h2 H locs ls hP hS hl)
theorem s_goto (hX : CX g G cc own nL n) {off : Int} (tgt : Nat) (hd : decode cc pc = .ok (.goto off, 3)) (ht : (pc : Int) + off = (tgt : Int)) (k : Sim G Pr K tgt lv st μ) : Sim G Pr K pc lv st μ := by
  obtain ⟨p, e, R, s, m, args, below, meth, c, cells, slots, Q, rfl, hx, hb, hml, hown, hts, hK, hT, hO, hn1, hn2, hn3, hn4⟩ := hX
  exact fun a h1 h2 H locs ls hP hS hl => lv_goto hx hb hd ht (k a h1 h2 H locs ls hP hS hl)
theorem s_icmp_eq (hX : CX g G cc own nL n) {x y : Int32} {P1 P2 : Option α} {off : Int} (tgt : Nat) (hd : decode cc pc = .ok (.if_icmp .eq off, 3)) (ht : (pc : Int) + off = (tgt : Int)) (kt : Sim G P1 K tgt lv st μ) (kf : Sim G P2 K (pc + 3) lv st μ) : Sim G (if x = y then P1 else P2) K pc lv (.int y :: .int x :: st) μ := by
  obtain ⟨p, e, R, s, m, args, below, meth, c, cells, slots, Q, rfl, hx, hb, hml, hown, hts, hK, hT, hO, hn1, hn2, hn3, hn4⟩ := hX
  intro a h1 h2 H locs ls hP hS hl
  exact lv_icmp_eq hx hb hd ht (fun q => by rw [if_pos q] at h1; exact kt a h1 h2 H locs ls hP hS hl) (fun q => by rw [if_neg q] at h1; exact kf a h1 h2 H locs ls hP hS hl)
theorem s_icmp_ne (hX : CX g G cc own nL n) {x y : Int32} {P1 P2 : Option α} {off : Int} (tgt : Nat) (hd : decode cc pc = .ok (.if_icmp .ne off, 3)) (ht : (pc : Int) + off = (tgt : Int)) (kt : Sim G P2 K tgt lv st μ) (kf : Sim G P1 K (pc + 3) lv st μ) : Sim G (if x = y then P1 else P2) K pc lv (.int y :: .int x :: st) μ := by
  obtain ⟨p, e, R, s, m, args, below, meth, c, cells, slots, Q, rfl, hx, hb, hml, hown, hts, hK, hT, hO, hn1, hn2, hn3, hn4⟩ := hX
  intro a h1 h2 H locs ls hP hS hl
  exact lv_icmp_ne hx hb hd ht (fun q => by rw [if_neg (q)] at h1; exact kt a h1 h2 H locs ls hP hS hl) (fun q => by rw [if_pos (q)] at h1; exact kf a h1 h2 H locs ls hP hS hl)
theorem s_icmp_lt (hX : CX g G cc own nL n) {x y : Int32} {P1 P2 : Option α} {off : Int} (tgt : Nat) (hd : decode cc pc = .ok (.if_icmp .lt off, 3)) (ht : (pc : Int) + off = (tgt : Int)) (kt : Sim G P1 K tgt lv st μ) (kf : Sim G P2 K (pc + 3) lv st μ) : Sim G (if x < y then P1 else P2) K pc lv (.int y :: .int x :: st) μ := by
  obtain ⟨p, e, R, s, m, args, below, meth, c, cells, slots, Q, rfl, hx, hb, hml, hown, hts, hK, hT, hO, hn1, hn2, hn3, hn4⟩ := hX
  intro a h1 h2 H locs ls hP hS hl
  exact lv_icmp_lt hx hb hd ht (fun q => by rw [if_pos q] at h1; exact kt a h1 h2 H locs ls hP hS hl) (fun q => by rw [if_neg q] at h1; exact kf a h1 h2 H locs ls hP hS hl)
theorem s_icmp_ge (hX : CX g G cc own nL n) {x y : Int32} {P1 P2 : Option α} {off : Int} (tgt : Nat) (hd : decode cc pc = .ok (.if_icmp .ge off, 3)) (ht : (pc : Int) + off = (tgt : Int)) (kt : Sim G P2 K tgt lv st μ) (kf : Sim G P1 K (pc + 3) lv st μ) : Sim G (if x < y then P1 else P2) K pc lv (.int y :: .int x :: st) μ := by
  obtain ⟨p, e, R, s, m, args, below, meth, c, cells, slots, Q, rfl, hx, hb, hml, hown, hts, hK, hT, hO, hn1, hn2, hn3, hn4⟩ := hX
  intro a h1 h2 H locs ls hP hS hl
  exact lv_icmp_ge hx hb hd ht (fun q => by rw [if_neg (Int32.not_lt.mpr q)] at h1; exact kt a h1 h2 H locs ls hP hS hl) (fun q => by rw [if_pos (Int32.not_le.mp q)] at h1; exact kf a h1 h2 H locs ls hP hS hl)
theorem s_icmp_gt (hX : CX g G cc own nL n) {x y : Int32} {P1 P2 : Option α} {off : Int} (tgt : Nat) (hd : decode cc pc = .ok (.if_icmp .gt off, 3)) (ht : (pc : Int) + off = (tgt : Int)) (kt : Sim G P1 K tgt lv st μ) (kf : Sim G P2 K (pc + 3) lv st μ) : Sim G (if y < x then P1 else P2) K pc lv (.int y :: .int x :: st) μ := by
  obtain ⟨p, e, R, s, m, args, below, meth, c, cells, slots, Q, rfl, hx, hb, hml, hown, hts, hK, hT, hO, hn1, hn2, hn3, hn4⟩ := hX
  intro a h1 h2 H locs ls hP hS hl
  exact lv_icmp_gt hx hb hd ht (fun q => by rw [if_pos q] at h1; exact kt a h1 h2 H locs ls hP hS hl) (fun q => by rw [if_neg q] at h1; exact kf a h1 h2 H locs ls hP hS hl)
theorem s_icmp_le (hX : CX g G cc own nL n) {x y : Int32} {P1 P2 : Option α} {off : Int} (tgt : Nat) (hd : decode cc pc = .ok (.if_icmp .le off, 3)) (ht : (pc : Int) + off = (tgt : Int)) (kt : Sim G P2 K tgt lv st μ) (kf : Sim G P1 K (pc + 3) lv st μ) : Sim G (if y < x then P1 else P2) K pc lv (.int y :: .int x :: st) μ := by
  obtain ⟨p, e, R, s, m, args, below, meth, c, cells, slots, Q, rfl, hx, hb, hml, hown, hts, hK, hT, hO, hn1, hn2, hn3, hn4⟩ := hX
  intro a h1 h2 H locs ls hP hS hl
  exact lv_icmp_le hx hb hd ht (fun q => by rw [if_neg (Int32.not_lt.mpr q)] at h1; exact kt a h1 h2 H locs ls hP hS hl) (fun q => by rw [if_pos (Int32.not_le.mp q)] at h1; exact kf a h1 h2 H locs ls hP hS hl)
theorem s_if_eq (hX : CX g G cc own nL n) {x : Int32} {P1 P2 : Option α} {off : Int} (tgt : Nat) (hd : decode cc pc = .ok (.ifCond .eq off, 3)) (ht : (pc : Int) + off = (tgt : Int)) (kt : Sim G P1 K tgt lv st μ) (kf : Sim G P2 K (pc + 3) lv st μ) : Sim G (if x = 0 then P1 else P2) K pc lv (.int x :: st) μ := by
  obtain ⟨p, e, R, s, m, args, below, meth, c, cells, slots, Q, rfl, hx, hb, hml, hown, hts, hK, hT, hO, hn1, hn2, hn3, hn4⟩ := hX
  intro a h1 h2 H locs ls hP hS hl
  exact lv_if_eq hx hb hd ht (fun q => by rw [if_pos q] at h1; exact kt a h1 h2 H locs ls hP hS hl) (fun q => by rw [if_neg q] at h1; exact kf a h1 h2 H locs ls hP hS hl)
theorem s_if_ne (hX : CX g G cc own nL n) {x : Int32} {P1 P2 : Option α} {off : Int} (tgt : Nat) (hd : decode cc pc = .ok (.ifCond .ne off, 3)) (ht : (pc : Int) + off = (tgt : Int)) (kt : Sim G P2 K tgt lv st μ) (kf : Sim G P1 K (pc + 3) lv st μ) : Sim G (if x = 0 then P1 else P2) K pc lv (.int x :: st) μ := by
  obtain ⟨p, e, R, s, m, args, below, meth, c, cells, slots, Q, rfl, hx, hb, hml, hown, hts, hK, hT, hO, hn1, hn2, hn3, hn4⟩ := hX
  intro a h1 h2 H locs ls hP hS hl
  exact lv_if_ne hx hb hd ht (fun q => by rw [if_neg (q)] at h1; exact kt a h1 h2 H locs ls hP hS hl) (fun q => by rw [if_pos (q)] at h1; exact kf a h1 h2 H locs ls hP hS hl)
theorem s_if_lt (hX : CX g G cc own nL n) {x : Int32} {P1 P2 : Option α} {off : Int} (tgt : Nat) (hd : decode cc pc = .ok (.ifCond .lt off, 3)) (ht : (pc : Int) + off = (tgt : Int)) (kt : Sim G P1 K tgt lv st μ) (kf : Sim G P2 K (pc + 3) lv st μ) : Sim G (if x < 0 then P1 else P2) K pc lv (.int x :: st) μ := by
  obtain ⟨p, e, R, s, m, args, below, meth, c, cells, slots, Q, rfl, hx, hb, hml, hown, hts, hK, hT, hO, hn1, hn2, hn3, hn4⟩ := hX
  intro a h1 h2 H locs ls hP hS hl
  exact lv_if_lt hx hb hd ht (fun q => by rw [if_pos q] at h1; exact kt a h1 h2 H locs ls hP hS hl) (fun q => by rw [if_neg q] at h1; exact kf a h1 h2 H locs ls hP hS hl)
theorem s_if_ge (hX : CX g G cc own nL n) {x : Int32} {P1 P2 : Option α} {off : Int} (tgt : Nat) (hd : decode cc pc = .ok (.ifCond .ge off, 3)) (ht : (pc : Int) + off = (tgt : Int)) (kt : Sim G P2 K tgt lv st μ) (kf : Sim G P1 K (pc + 3) lv st μ) : Sim G (if x < 0 then P1 else P2) K pc lv (.int x :: st) μ := by
  obtain ⟨p, e, R, s, m, args, below, meth, c, cells, slots, Q, rfl, hx, hb, hml, hown, hts, hK, hT, hO, hn1, hn2, hn3, hn4⟩ := hX
  intro a h1 h2 H locs ls hP hS hl
  exact lv_if_ge hx hb hd ht (fun q => by rw [if_neg (Int32.not_lt.mpr q)] at h1; exact kt a h1 h2 H locs ls hP hS hl) (fun q => by rw [if_pos (Int32.not_le.mp q)] at h1; exact kf a h1 h2 H locs ls hP hS hl)
theorem s_if_gt (hX : CX g G cc own nL n) {x : Int32} {P1 P2 : Option α} {off : Int} (tgt : Nat) (hd : decode cc pc = .ok (.ifCond .gt off, 3)) (ht : (pc : Int) + off = (tgt : Int)) (kt : Sim G P1 K tgt lv st μ) (kf : Sim G P2 K (pc + 3) lv st μ) : Sim G (if 0 < x then P1 else P2) K pc lv (.int x :: st) μ := by
  obtain ⟨p, e, R, s, m, args, below, meth, c, cells, slots, Q, rfl, hx, hb, hml, hown, hts, hK, hT, hO, hn1, hn2, hn3, hn4⟩ := hX
  intro a h1 h2 H locs ls hP hS hl
  exact lv_if_gt hx hb hd ht (fun q => by rw [if_pos q] at h1; exact kt a h1 h2 H locs ls hP hS hl) (fun q => by rw [if_neg q] at h1; exact kf a h1 h2 H locs ls hP hS hl)
theorem s_if_le (hX : CX g G cc own nL n) {x : Int32} {P1 P2 : Option α} {off : Int} (tgt : Nat) (hd : decode cc pc = .ok (.ifCond .le off, 3)) (ht : (pc : Int) + off = (tgt : Int)) (kt : Sim G P2 K tgt lv st μ) (kf : Sim G P1 K (pc + 3) lv st μ) : Sim G (if 0 < x then P1 else P2) K pc lv (.int x :: st) μ := by
  obtain ⟨p, e, R, s, m, args, below, meth, c, cells, slots, Q, rfl, hx, hb, hml, hown, hts, hK, hT, hO, hn1, hn2, hn3, hn4⟩ := hX
  intro a h1 h2 H locs ls hP hS hl
  exact lv_if_le hx hb hd ht (fun q => by rw [if_neg (Int32.not_lt.mpr q)] at h1; exact kt a h1 h2 H locs ls hP hS hl) (fun q => by rw [if_pos (Int32.not_le.mp q)] at h1; exact kf a h1 h2 H locs ls hP hS hl)
theorem s_lcmp (hX : CX g G cc own nL n) {x y : Int64} (hd : decode cc pc = .ok (.lcmp, 1)) (k : Sim G Pr K (pc + 1) lv (.int (lg_cmp x y) :: st) μ) : Sim G Pr K pc lv (.long y :: .long x :: st) μ := by
  obtain ⟨p, e, R, s, m, args, below, meth, c, cells, slots, Q, rfl, hx, hb, hml, hown, hts, hK, hT, hO, hn1, hn2, hn3, hn4⟩ := hX
  exact fun a h1 h2 H locs ls hP hS hl => W.lcmp hx hb hd (k a h1 h2 H locs ls hP hS hl)
theorem lgc_lt (x y : Int64) : (lg_cmp x y < 0) ↔ x < y := by
  unfold lg_cmp
  simp only [gt_iff_lt, Int64.lt_iff_toInt_lt, ← Int64.toInt_inj]
  repeat' split
  all_goals simp <;> omega
theorem lgc_gt (x y : Int64) : (0 < lg_cmp x y) ↔ y < x := by
  unfold lg_cmp
  simp only [gt_iff_lt, Int64.lt_iff_toInt_lt, ← Int64.toInt_inj]
  repeat' split
  all_goals simp <;> omega
theorem lgc_eq (x y : Int64) : (lg_cmp x y = 0) ↔ x = y := by
  unfold lg_cmp
  simp only [gt_iff_lt, Int64.lt_iff_toInt_lt, ← Int64.toInt_inj]
  repeat' split
  all_goals simp <;> omega
theorem s_ifc {c d : Prop} [Decidable c] [Decidable d] (e : c ↔ d) {P1 P2 : Option α} (k : Sim G (if c then P1 else P2) K pc lv st μ) : Sim G (if d then P1 else P2) K pc lv st μ := by
  intro a h1 h2
  refine k a ?_ h2
  rw [← h1]
  by_cases h : c
  · rw [if_pos h, if_pos (e.mp h)]
  · rw [if_neg h, if_neg (fun q => h (e.mpr q))]

theorem s_lcmp_lt (hX : CX g G cc own nL n) {x y : Int64} {P1 P2 : Option α} {off : Int} (tgt : Nat) (hc : decode cc pc = .ok (.lcmp, 1)) (hd : decode cc (pc + 1) = .ok (.ifCond .lt off, 3)) (ht : ((pc + 1 : Nat) : Int) + off = (tgt : Int)) (kt : Sim G P1 K tgt lv st μ) (kf : Sim G P2 K (pc + 4) lv st μ) : Sim G (if x < y then P1 else P2) K pc lv (.long y :: .long x :: st) μ := s_lcmp hX hc (s_ifc (lgc_lt x y) (s_if_lt hX tgt hd ht kt kf))
theorem s_lcmp_ge (hX : CX g G cc own nL n) {x y : Int64} {P1 P2 : Option α} {off : Int} (tgt : Nat) (hc : decode cc pc = .ok (.lcmp, 1)) (hd : decode cc (pc + 1) = .ok (.ifCond .ge off, 3)) (ht : ((pc + 1 : Nat) : Int) + off = (tgt : Int)) (kt : Sim G P2 K tgt lv st μ) (kf : Sim G P1 K (pc + 4) lv st μ) : Sim G (if x < y then P1 else P2) K pc lv (.long y :: .long x :: st) μ := s_lcmp hX hc (s_ifc (lgc_lt x y) (s_if_ge hX tgt hd ht kt kf))
theorem s_lcmp_gt (hX : CX g G cc own nL n) {x y : Int64} {P1 P2 : Option α} {off : Int} (tgt : Nat) (hc : decode cc pc = .ok (.lcmp, 1)) (hd : decode cc (pc + 1) = .ok (.ifCond .gt off, 3)) (ht : ((pc + 1 : Nat) : Int) + off = (tgt : Int)) (kt : Sim G P1 K tgt lv st μ) (kf : Sim G P2 K (pc + 4) lv st μ) : Sim G (if y < x then P1 else P2) K pc lv (.long y :: .long x :: st) μ := s_lcmp hX hc (s_ifc (lgc_gt x y) (s_if_gt hX tgt hd ht kt kf))
theorem s_lcmp_le (hX : CX g G cc own nL n) {x y : Int64} {P1 P2 : Option α} {off : Int} (tgt : Nat) (hc : decode cc pc = .ok (.lcmp, 1)) (hd : decode cc (pc + 1) = .ok (.ifCond .le off, 3)) (ht : ((pc + 1 : Nat) : Int) + off = (tgt : Int)) (kt : Sim G P2 K tgt lv st μ) (kf : Sim G P1 K (pc + 4) lv st μ) : Sim G (if y < x then P1 else P2) K pc lv (.long y :: .long x :: st) μ := s_lcmp hX hc (s_ifc (lgc_gt x y) (s_if_le hX tgt hd ht kt kf))
theorem s_lcmp_eq (hX : CX g G cc own nL n) {x y : Int64} {P1 P2 : Option α} {off : Int} (tgt : Nat) (hc : decode cc pc = .ok (.lcmp, 1)) (hd : decode cc (pc + 1) = .ok (.ifCond .eq off, 3)) (ht : ((pc + 1 : Nat) : Int) + off = (tgt : Int)) (kt : Sim G P1 K tgt lv st μ) (kf : Sim G P2 K (pc + 4) lv st μ) : Sim G (if x = y then P1 else P2) K pc lv (.long y :: .long x :: st) μ := s_lcmp hX hc (s_ifc (lgc_eq x y) (s_if_eq hX tgt hd ht kt kf))
theorem s_lcmp_ne (hX : CX g G cc own nL n) {x y : Int64} {P1 P2 : Option α} {off : Int} (tgt : Nat) (hc : decode cc pc = .ok (.lcmp, 1)) (hd : decode cc (pc + 1) = .ok (.ifCond .ne off, 3)) (ht : ((pc + 1 : Nat) : Int) + off = (tgt : Int)) (kt : Sim G P2 K tgt lv st μ) (kf : Sim G P1 K (pc + 4) lv st μ) : Sim G (if x = y then P1 else P2) K pc lv (.long y :: .long x :: st) μ := s_lcmp hX hc (s_ifc (lgc_eq x y) (s_if_ne hX tgt hd ht kt kf))
theorem s_tabC (hX : CX g G cc own nL n) {x v : Int32} {P1 P2 : Option α} {dflt lo hi a off : Int} {offs : Array Int} {len : Nat} (tgt : Nat) (hd : decode cc pc = .ok (.tableswitch dflt lo hi offs, len)) (hv : v.toInt = a) (h1 : ¬ a < lo) (h2 : ¬ hi < a) (ho : offs[(a - lo).toNat]? = some off) (ht : (pc : Int) + off = (tgt : Int)) (k1 : Sim G P1 K tgt lv st μ) (k2 : ¬ x.toInt = a → Sim G P2 K pc lv (.int x :: st) μ) : Sim G (if x = v then P1 else P2) K pc lv (.int x :: st) μ := by
  intro b g1 g2
  by_cases hq : x = v
  · rw [if_pos hq] at g1
    subst hq
    subst hv
    have kk := k1 b g1 g2
    obtain ⟨p, e, R, s, m, args, below, meth, c, cells, slots, Q, rfl, hx, hb, hml, hown, hts, hK, hT, hO, hn1, hn2, hn3, hn4⟩ := hX
    exact fun H locs ls hP hS hl => lv_tableIn hx hb hd h1 h2 ho ht (kk H locs ls hP hS hl)
  · rw [if_neg hq] at g1
    exact k2 (fun q => hq (Int32.toInt_inj.mp (by rw [hv]; exact q))) b g1 g2
theorem s_tabD (hX : CX g G cc own nL n) {x : Int32} {dflt lo hi : Int} {offs : Array Int} {len : Nat} (tgt : Nat) (hd : decode cc pc = .ok (.tableswitch dflt lo hi offs, len)) (h : x.toInt < lo ∨ hi < x.toInt) (ht : (pc : Int) + dflt = (tgt : Int)) (k : Sim G Pr K tgt lv st μ) : Sim G Pr K pc lv (.int x :: st) μ := by
  obtain ⟨p, e, R, s, m, args, below, meth, c, cells, slots, Q, rfl, hx, hb, hml, hown, hts, hK, hT, hO, hn1, hn2, hn3, hn4⟩ := hX
  exact fun a h1 h2 H locs ls hP hS hl => lv_tableOut hx hb hd h ht (k a h1 h2 H locs ls hP hS hl)
theorem s_getI (hX : CX g G cc own nL n) {idx ci j k : Nat} {t : FieldType} {fin : Bool} (hf : FLk own idx ci j 0 t fin) (hk : tyOf k = ci) (hd : decode cc pc = .ok (.getfield idx, 3)) (kk : Sim G Pr K (pc + 3) lv (.int (μ.1 k j) :: st) μ) : Sim G Pr K pc lv (rf g k :: st) μ := by
  obtain ⟨p, e, R, s, m, args, below, meth, c, cells, slots, Q, rfl, hx, hb, hml, hown, hts, hK, hT, hO, hn1, hn2, hn3, hn4⟩ := hX
  obtain ⟨C, T, N, ty, ⟨hc, hin, -, -, hN, h10⟩, hj, hfk, hlk, -, -⟩ := hf
  exact fun a h1 h2 H locs ls hP hS hl => va_get hx hb hts hin hown hK hP k (fs := flds (gad g) μ k ci) (by rw [wsOf_at _ _ _ (ty_lt (by omega)), cell_obj hk h10]) hc j hj (hts _ hlk) (fun _ h => h) (v := .int (μ.1 k j)) (by rw [flds_at hfk]; rfl) hd (kk a h1 h2 H locs ls hP hS hl)
theorem s_getL (hX : CX g G cc own nL n) {idx ci j k : Nat} {t : FieldType} {fin : Bool} (hf : FLk own idx ci j 1 t fin) (hk : tyOf k = ci) (hd : decode cc pc = .ok (.getfield idx, 3)) (kk : Sim G Pr K (pc + 3) lv (.long (μ.2 k j) :: st) μ) : Sim G Pr K pc lv (rf g k :: st) μ := by
  obtain ⟨p, e, R, s, m, args, below, meth, c, cells, slots, Q, rfl, hx, hb, hml, hown, hts, hK, hT, hO, hn1, hn2, hn3, hn4⟩ := hX
  obtain ⟨C, T, N, ty, ⟨hc, hin, -, -, hN, h10⟩, hj, hfk, hlk, -, -⟩ := hf
  exact fun a h1 h2 H locs ls hP hS hl => va_get hx hb hts hin hown hK hP k (fs := flds (gad g) μ k ci) (by rw [wsOf_at _ _ _ (ty_lt (by omega)), cell_obj hk h10]) hc j hj (hts _ hlk) (fun _ h => h) (v := .long (μ.2 k j)) (by rw [flds_at hfk]; rfl) hd (kk a h1 h2 H locs ls hP hS hl)
theorem s_getR (hX : CX g G cc own nL n) {idx ci j d k : Nat} (k' : Nat) {t : FieldType} {fin : Bool} (hf : FLk own idx ci j (d + 2) t fin) (hk : tyOf k = ci) (he : k + d = k') (hd : decode cc pc = .ok (.getfield idx, 3)) (kk : Sim G Pr K (pc + 3) lv (rf g k' :: st) μ) : Sim G Pr K pc lv (rf g k :: st) μ := by
  obtain ⟨p, e, R, s, m, args, below, meth, c, cells, slots, Q, rfl, hx, hb, hml, hown, hts, hK, hT, hO, hn1, hn2, hn3, hn4⟩ := hX
  obtain ⟨C, T, N, ty, ⟨hc, hin, -, -, hN, h10⟩, hj, hfk, hlk, -, -⟩ := hf
  subst he
  exact fun a h1 h2 H locs ls hP hS hl => va_get hx hb hts hin hown hK hP k (fs := flds (gad g) μ k ci) (by rw [wsOf_at _ _ _ (ty_lt (by omega)), cell_obj hk h10]) hc j hj (hts _ hlk) (fun _ h => h) (v := rf g (k + d)) (by rw [flds_at hfk]; simp [fld, rf]) hd (kk a h1 h2 H locs ls hP hS hl)
theorem s_putI (hX : CX g G cc own nL n) {idx ci j k : Nat} {t : FieldType} {x : Int32} {f : Mem → Option α} (hf : FLk own idx ci j 0 t false) (hk : tyOf k = ci) (hnf : narrow t (.int x) = .int x ∧ fits t (.int x) = true) (hd : decode cc pc = .ok (.putfield idx, 3)) (kk : ∀ ν, Sim G (f ν) K (pc + 3) lv st ν) : Sim G (lt (setI μ k j x) f) K pc lv (.int x :: rf g k :: st) μ := by
  obtain ⟨p, e, R, s, m, args, below, meth, c, cells, slots, Q, rfl, hx, hb, hml, hown, hts, hK, hT, hO, hn1, hn2, hn3, hn4⟩ := hX
  obtain ⟨C, T, N, ty, ⟨hc, hin, hty, hnm, hN, h10⟩, hj, hfk, hlk, ht, hfin⟩ := hf
  intro a h1 h2 H locs ls hP hS hl
  refine va_put hx hb hts hin ty hty hnm hown hK hP (hO.D μ) hS k (fs := flds (gad g) μ k ci) (by rw [wsOf_at _ _ _ (ty_lt (by omega)), cell_obj hk h10]) hc j hj (hts _ hlk) (fun _ h => h) hfin (ty := t) (v := .int x) (by rw [← ht]; exact hty j hj) hnf.1 hnf.2 (by rw [flds_len, hN]; exact hj) hd (fun H1 locs1 hP1 hD1 hS1 => ?_)
  rw [wsOf_set (cy := gcy g) (ad := gad g) (μ := μ) (ν := setI μ k j x) (a := k) (ty_lt (by omega)) (fun q i hq => by simp [setI, hq]) (fun q i hq => rfl) (by rw [cell_obj hk h10, flds_setI hfk])] at hP1
  exact kk _ a h1 h2 H1 locs1 ls hP1 hS1 hl
theorem s_putL (hX : CX g G cc own nL n) {idx ci j k : Nat} {t : FieldType} {x : Int64} {f : Mem → Option α} (hf : FLk own idx ci j 1 t false) (hk : tyOf k = ci) (hnf : narrow t (.long x) = .long x ∧ fits t (.long x) = true) (hd : decode cc pc = .ok (.putfield idx, 3)) (kk : ∀ ν, Sim G (f ν) K (pc + 3) lv st ν) : Sim G (lt (setL μ k j x) f) K pc lv (.long x :: rf g k :: st) μ := by
  obtain ⟨p, e, R, s, m, args, below, meth, c, cells, slots, Q, rfl, hx, hb, hml, hown, hts, hK, hT, hO, hn1, hn2, hn3, hn4⟩ := hX
  obtain ⟨C, T, N, ty, ⟨hc, hin, hty, hnm, hN, h10⟩, hj, hfk, hlk, ht, hfin⟩ := hf
  intro a h1 h2 H locs ls hP hS hl
  refine va_put hx hb hts hin ty hty hnm hown hK hP (hO.D μ) hS k (fs := flds (gad g) μ k ci) (by rw [wsOf_at _ _ _ (ty_lt (by omega)), cell_obj hk h10]) hc j hj (hts _ hlk) (fun _ h => h) hfin (ty := t) (v := .long x) (by rw [← ht]; exact hty j hj) hnf.1 hnf.2 (by rw [flds_len, hN]; exact hj) hd (fun H1 locs1 hP1 hD1 hS1 => ?_)
  rw [wsOf_set (cy := gcy g) (ad := gad g) (μ := μ) (ν := setL μ k j x) (a := k) (ty_lt (by omega)) (fun q i hq => rfl) (fun q i hq => by simp [setL, hq]) (by rw [cell_obj hk h10, flds_setL hfk])] at hP1
  exact kk _ a h1 h2 H1 locs1 ls hP1 hS1 hl
theorem s_iald (hX : CX g G cc own nL n) {k N : Nat} {i : Int32} (hk : tyOf k = 11) (hN : lenOf k = N) (hd : decode cc pc = .ok (.iaload, 1)) (kk : Sim G Pr K (pc + 1) lv (.int (μ.1 k (ix i)) :: st) μ) : Sim G (chk i N Pr) K pc lv (.int i :: rf g k :: st) μ := by
  obtain ⟨p, e, R, s, m, args, below, meth, c, cells, slots, Q, rfl, hx, hb, hml, hown, hts, hK, hT, hO, hn1, hn2, hn3, hn4⟩ := hX
  intro a h1 h2
  unfold chk at h1
  by_cases hin : ¬ (i < 0 ∨ N ≤ ix i)
  · rw [if_pos hin] at h1
    exact fun H locs ls hP hS hl => va_iald hx hb hK hP k 0 (by rw [wsOf_at _ _ _ (ty_lt (by omega)), cell_arr hk hN (by omega)]) rfl hin hd (kk a h1 h2 H locs ls hP hS hl)
  · rw [if_neg hin] at h1; cases h1
theorem s_cald (hX : CX g G cc own nL n) {k N : Nat} {i : Int32} (hk : tyOf k = 12) (hN : lenOf k = N) (hd : decode cc pc = .ok (.caload, 1)) (kk : Sim G Pr K (pc + 1) lv (.int (μ.1 k (ix i)) :: st) μ) : Sim G (chk i N Pr) K pc lv (.int i :: rf g k :: st) μ := by
  obtain ⟨p, e, R, s, m, args, below, meth, c, cells, slots, Q, rfl, hx, hb, hml, hown, hts, hK, hT, hO, hn1, hn2, hn3, hn4⟩ := hX
  intro a h1 h2
  unfold chk at h1
  by_cases hin : ¬ (i < 0 ∨ N ≤ ix i)
  · rw [if_pos hin] at h1
    exact fun H locs ls hP hS hl => va_cald hx hb hK hP k 1 (by rw [wsOf_at _ _ _ (ty_lt (by omega)), cell_arr hk hN (by omega)]) rfl hin hd (kk a h1 h2 H locs ls hP hS hl)
  · rw [if_neg hin] at h1; cases h1
theorem s_zald (hX : CX g G cc own nL n) {k N : Nat} {i : Int32} (hk : tyOf k = 13) (hN : lenOf k = N) (hd : decode cc pc = .ok (.baload, 1)) (kk : Sim G Pr K (pc + 1) lv (.int (μ.1 k (ix i)) :: st) μ) : Sim G (chk i N Pr) K pc lv (.int i :: rf g k :: st) μ := by
  obtain ⟨p, e, R, s, m, args, below, meth, c, cells, slots, Q, rfl, hx, hb, hml, hown, hts, hK, hT, hO, hn1, hn2, hn3, hn4⟩ := hX
  intro a h1 h2
  unfold chk at h1
  by_cases hin : ¬ (i < 0 ∨ N ≤ ix i)
  · rw [if_pos hin] at h1
    exact fun H locs ls hP hS hl => va_zald hx hb hK hP k 2 (by rw [wsOf_at _ _ _ (ty_lt (by omega)), cell_arr hk hN (by omega)]) rfl hin hd (kk a h1 h2 H locs ls hP hS hl)
  · rw [if_neg hin] at h1; cases h1
theorem s_lald (hX : CX g G cc own nL n) {k N : Nat} {i : Int32} (hk : tyOf k = 14) (hN : lenOf k = N) (hd : decode cc pc = .ok (.laload, 1)) (kk : Sim G Pr K (pc + 1) lv (.long (μ.2 k (ix i)) :: st) μ) : Sim G (chk i N Pr) K pc lv (.int i :: rf g k :: st) μ := by
  obtain ⟨p, e, R, s, m, args, below, meth, c, cells, slots, Q, rfl, hx, hb, hml, hown, hts, hK, hT, hO, hn1, hn2, hn3, hn4⟩ := hX
  intro a h1 h2
  unfold chk at h1
  by_cases hin : ¬ (i < 0 ∨ N ≤ ix i)
  · rw [if_pos hin] at h1
    exact fun H locs ls hP hS hl => va_lald hx hb hK hP k 3 (by rw [wsOf_at _ _ _ (ty_lt (by omega)), cell_lng hk hN]) rfl hin hd (kk a h1 h2 H locs ls hP hS hl)
  · rw [if_neg hin] at h1; cases h1
theorem s_aald15 (hX : CX g G cc own nL n) {k N t u : Nat} {i : Int32} {f : Nat → Option α} (hk : tyOf k = 15) (hN : lenOf k = N) (hq : ∀ j, j < N → tyOf (k + 1 + 14 * j) = t ∧ lenOf (k + 1 + 14 * j) = u) (hd : decode cc pc = .ok (.aaload, 1)) (kk : ∀ q, tyOf q = t → lenOf q = u → Sim G (f q) K (pc + 1) lv (rf g q :: st) μ) : Sim G (chk i N (lt (k + 1 + 14 * ix i) f)) K pc lv (.int i :: rf g k :: st) μ := by
  obtain ⟨p, e, R, s, m, args, below, meth, c, cells, slots, Q, rfl, hx, hb, hml, hown, hts, hK, hT, hO, hn1, hn2, hn3, hn4⟩ := hX
  have hlt : ¬ (i < 0 ∨ N ≤ ix i) → ix i < N := fun h => Nat.not_le.mp fun q => h (Or.inr q)
  intro a h1 h2
  unfold chk at h1
  by_cases hin : ¬ (i < 0 ∨ N ≤ ix i)
  · rw [if_pos hin] at h1
    exact fun H locs ls hP hS hl => W.aald (v := rf g (k + 1 + 14 * ix i)) (ty := (tysX (gcy g))[4].2) hx hb (hP k (gad g k, .inl (gcy g 15, N, .inr (.inr (.inr (.inr (rowA (gad g) k 14)))))) (by rw [wsOf_at _ _ _ (ty_lt (by omega)), cell_row (st := 14) hk hN (by omega)])) ((hK.2 4 _ rfl).1 N (fun j => va_rf (rowA (gad g) k 14 j))) rfl (fun q => by cases q) (by show ¬ (i < 0 ∨ (arrV _ _ _).slots.size ≤ _); rw [arrV_size]; exact hin) (by show (arrV (gcy g 15) N (fun j => va_rf (rowA (gad g) k 14 j))).slots[i.toNatClampNeg]? = _; rw [arrV_read _ _ (show i.toNatClampNeg < N from hlt hin)]; rfl) rfl rfl hd (kk _ (hq _ (hlt hin)).1 (hq _ (hlt hin)).2 a h1 h2 H locs ls hP hS hl)
  · rw [if_neg hin] at h1; cases h1
theorem s_aald16 (hX : CX g G cc own nL n) {k N t u : Nat} {i : Int32} {f : Nat → Option α} (hk : tyOf k = 16) (hN : lenOf k = N) (hq : ∀ j, j < N → tyOf (k + 1 + 5 * j) = t ∧ lenOf (k + 1 + 5 * j) = u) (hd : decode cc pc = .ok (.aaload, 1)) (kk : ∀ q, tyOf q = t → lenOf q = u → Sim G (f q) K (pc + 1) lv (rf g q :: st) μ) : Sim G (chk i N (lt (k + 1 + 5 * ix i) f)) K pc lv (.int i :: rf g k :: st) μ := by
  obtain ⟨p, e, R, s, m, args, below, meth, c, cells, slots, Q, rfl, hx, hb, hml, hown, hts, hK, hT, hO, hn1, hn2, hn3, hn4⟩ := hX
  have hlt : ¬ (i < 0 ∨ N ≤ ix i) → ix i < N := fun h => Nat.not_le.mp fun q => h (Or.inr q)
  intro a h1 h2
  unfold chk at h1
  by_cases hin : ¬ (i < 0 ∨ N ≤ ix i)
  · rw [if_pos hin] at h1
    exact fun H locs ls hP hS hl => W.aald (v := rf g (k + 1 + 5 * ix i)) (ty := (tysX (gcy g))[5].2) hx hb (hP k (gad g k, .inl (gcy g 16, N, .inr (.inr (.inr (.inr (rowA (gad g) k 5)))))) (by rw [wsOf_at _ _ _ (ty_lt (by omega)), cell_row (st := 5) hk hN (by omega)])) ((hK.2 5 _ rfl).1 N (fun j => va_rf (rowA (gad g) k 5 j))) rfl (fun q => by cases q) (by show ¬ (i < 0 ∨ (arrV _ _ _).slots.size ≤ _); rw [arrV_size]; exact hin) (by show (arrV (gcy g 16) N (fun j => va_rf (rowA (gad g) k 5 j))).slots[i.toNatClampNeg]? = _; rw [arrV_read _ _ (show i.toNatClampNeg < N from hlt hin)]; rfl) rfl rfl hd (kk _ (hq _ (hlt hin)).1 (hq _ (hlt hin)).2 a h1 h2 H locs ls hP hS hl)
  · rw [if_neg hin] at h1; cases h1
theorem s_aald17 (hX : CX g G cc own nL n) {k N t u : Nat} {i : Int32} {f : Nat → Option α} (hk : tyOf k = 17) (hN : lenOf k = N) (hq : ∀ j, j < N → tyOf (k + 1 + 1 * j) = t ∧ lenOf (k + 1 + 1 * j) = u) (hd : decode cc pc = .ok (.aaload, 1)) (kk : ∀ q, tyOf q = t → lenOf q = u → Sim G (f q) K (pc + 1) lv (rf g q :: st) μ) : Sim G (chk i N (lt (k + 1 + 1 * ix i) f)) K pc lv (.int i :: rf g k :: st) μ := by
  obtain ⟨p, e, R, s, m, args, below, meth, c, cells, slots, Q, rfl, hx, hb, hml, hown, hts, hK, hT, hO, hn1, hn2, hn3, hn4⟩ := hX
  have hlt : ¬ (i < 0 ∨ N ≤ ix i) → ix i < N := fun h => Nat.not_le.mp fun q => h (Or.inr q)
  intro a h1 h2
  unfold chk at h1
  by_cases hin : ¬ (i < 0 ∨ N ≤ ix i)
  · rw [if_pos hin] at h1
    exact fun H locs ls hP hS hl => W.aald (v := rf g (k + 1 + 1 * ix i)) (ty := (tysX (gcy g))[6].2) hx hb (hP k (gad g k, .inl (gcy g 17, N, .inr (.inr (.inr (.inr (rowA (gad g) k 1)))))) (by rw [wsOf_at _ _ _ (ty_lt (by omega)), cell_row (st := 1) hk hN (by omega)])) ((hK.2 6 _ rfl).1 N (fun j => va_rf (rowA (gad g) k 1 j))) rfl (fun q => by cases q) (by show ¬ (i < 0 ∨ (arrV _ _ _).slots.size ≤ _); rw [arrV_size]; exact hin) (by show (arrV (gcy g 17) N (fun j => va_rf (rowA (gad g) k 1 j))).slots[i.toNatClampNeg]? = _; rw [arrV_read _ _ (show i.toNatClampNeg < N from hlt hin)]; rfl) rfl rfl hd (kk _ (hq _ (hlt hin)).1 (hq _ (hlt hin)).2 a h1 h2 H locs ls hP hS hl)
  · rw [if_neg hin] at h1; cases h1
theorem s_iast (hX : CX g G cc own nL n) {k N : Nat} {i x : Int32} {f : Mem → Option α} (hk : tyOf k = 11) (hN : lenOf k = N) (hd : decode cc pc = .ok (.iastore, 1)) (kk : ∀ ν, Sim G (f ν) K (pc + 1) lv st ν) : Sim G (chk i N (lt (setI μ k (ix i) x) f)) K pc lv (.int x :: .int i :: rf g k :: st) μ := by
  obtain ⟨p, e, R, s, m, args, below, meth, c, cells, slots, Q, rfl, hx, hb, hml, hown, hts, hK, hT, hO, hn1, hn2, hn3, hn4⟩ := hX
  intro a h1 h2
  unfold chk at h1
  by_cases hin : ¬ (i < 0 ∨ N ≤ ix i)
  · rw [if_pos hin] at h1
    intro H locs ls hP hS hl
    refine va_iast hx hb hK hP (hO.D μ) hS k 0 (by rw [wsOf_at _ _ _ (ty_lt (by omega)), cell_arr hk hN (by omega)]) rfl hin hd (fun H1 locs1 hP1 hD1 hS1 => ?_)
    rw [wsOf_set (cy := gcy g) (ad := gad g) (μ := μ) (ν := setI μ k (ix i) x) (a := k) (ty_lt (by omega)) (fun q z hq => by simp [setI, hq]) (fun q z hq => rfl) (by rw [cell_arr hk hN (by omega), setI_row]; rfl)] at hP1
    exact kk _ a h1 h2 H1 locs1 ls hP1 hS1 hl
  · rw [if_neg hin] at h1; cases h1
theorem s_cast (hX : CX g G cc own nL n) {k N : Nat} {i x : Int32} {f : Mem → Option α} (hk : tyOf k = 12) (hN : lenOf k = N) (hv : vp_nar .char x = x) (hd : decode cc pc = .ok (.castore, 1)) (kk : ∀ ν, Sim G (f ν) K (pc + 1) lv st ν) : Sim G (chk i N (lt (setI μ k (ix i) x) f)) K pc lv (.int x :: .int i :: rf g k :: st) μ := by
  obtain ⟨p, e, R, s, m, args, below, meth, c, cells, slots, Q, rfl, hx, hb, hml, hown, hts, hK, hT, hO, hn1, hn2, hn3, hn4⟩ := hX
  intro a h1 h2
  unfold chk at h1
  by_cases hin : ¬ (i < 0 ∨ N ≤ ix i)
  · rw [if_pos hin] at h1
    intro H locs ls hP hS hl
    refine va_cast hx hb hK hP (hO.D μ) hS k 1 (by rw [wsOf_at _ _ _ (ty_lt (by omega)), cell_arr hk hN (by omega)]) rfl hin hd (fun H1 locs1 hP1 hD1 hS1 => ?_)
    rw [hv] at hP1
    rw [wsOf_set (cy := gcy g) (ad := gad g) (μ := μ) (ν := setI μ k (ix i) x) (a := k) (ty_lt (by omega)) (fun q z hq => by simp [setI, hq]) (fun q z hq => rfl) (by rw [cell_arr hk hN (by omega), setI_row]; rfl)] at hP1
    exact kk _ a h1 h2 H1 locs1 ls hP1 hS1 hl
  · rw [if_neg hin] at h1; cases h1
theorem s_zast (hX : CX g G cc own nL n) {k N : Nat} {i x : Int32} {f : Mem → Option α} (hk : tyOf k = 13) (hN : lenOf k = N) (hv : vp_nar .boolean x = x) (hd : decode cc pc = .ok (.bastore, 1)) (kk : ∀ ν, Sim G (f ν) K (pc + 1) lv st ν) : Sim G (chk i N (lt (setI μ k (ix i) x) f)) K pc lv (.int x :: .int i :: rf g k :: st) μ := by
  obtain ⟨p, e, R, s, m, args, below, meth, c, cells, slots, Q, rfl, hx, hb, hml, hown, hts, hK, hT, hO, hn1, hn2, hn3, hn4⟩ := hX
  intro a h1 h2
  unfold chk at h1
  by_cases hin : ¬ (i < 0 ∨ N ≤ ix i)
  · rw [if_pos hin] at h1
    intro H locs ls hP hS hl
    refine va_zast hx hb hK hP (hO.D μ) hS k 2 (by rw [wsOf_at _ _ _ (ty_lt (by omega)), cell_arr hk hN (by omega)]) rfl hin hd (fun H1 locs1 hP1 hD1 hS1 => ?_)
    rw [hv] at hP1
    rw [wsOf_set (cy := gcy g) (ad := gad g) (μ := μ) (ν := setI μ k (ix i) x) (a := k) (ty_lt (by omega)) (fun q z hq => by simp [setI, hq]) (fun q z hq => rfl) (by rw [cell_arr hk hN (by omega), setI_row]; rfl)] at hP1
    exact kk _ a h1 h2 H1 locs1 ls hP1 hS1 hl
  · rw [if_neg hin] at h1; cases h1
theorem s_last (hX : CX g G cc own nL n) {k N : Nat} {i : Int32} {x : Int64} {f : Mem → Option α} (hk : tyOf k = 14) (hN : lenOf k = N) (hd : decode cc pc = .ok (.lastore, 1)) (kk : ∀ ν, Sim G (f ν) K (pc + 1) lv st ν) : Sim G (chk i N (lt (setL μ k (ix i) x) f)) K pc lv (.long x :: .int i :: rf g k :: st) μ := by
  obtain ⟨p, e, R, s, m, args, below, meth, c, cells, slots, Q, rfl, hx, hb, hml, hown, hts, hK, hT, hO, hn1, hn2, hn3, hn4⟩ := hX
  intro a h1 h2
  unfold chk at h1
  by_cases hin : ¬ (i < 0 ∨ N ≤ ix i)
  · rw [if_pos hin] at h1
    intro H locs ls hP hS hl
    refine va_last hx hb hK hP (hO.D μ) hS k 3 (by rw [wsOf_at _ _ _ (ty_lt (by omega)), cell_lng hk hN]) rfl hin hd (fun H1 locs1 hP1 hD1 hS1 => ?_)
    rw [wsOf_set (cy := gcy g) (ad := gad g) (μ := μ) (ν := setL μ k (ix i) x) (a := k) (ty_lt (by omega)) (fun q z hq => rfl) (fun q z hq => by simp [setL, hq]) (by rw [cell_lng hk hN, setL_row]; rfl)] at hP1
    exact kk _ a h1 h2 H1 locs1 ls hP1 hS1 hl
  · rw [if_neg hin] at h1; cases h1
theorem s_alen (hX : CX g G cc own nL n) {k N : Nat} {v : Int32} (hk : tyOf k = 11) (hN : lenOf k = N) (hv : Int32.ofNat N = v) (hd : decode cc pc = .ok (.arraylength, 1)) (kk : Sim G Pr K (pc + 1) lv (.int v :: st) μ) : Sim G Pr K pc lv (rf g k :: st) μ := by
  obtain ⟨p, e, R, s, m, args, below, meth, c, cells, slots, Q, rfl, hx, hb, hml, hown, hts, hK, hT, hO, hn1, hn2, hn3, hn4⟩ := hX
  exact fun a h1 h2 H locs ls hP hS hl => va_alen hx hb hK hP k 0 (by rw [wsOf_at _ _ _ (ty_lt (by omega)), cell_arr hk hN (by omega)]) rfl hv hd (kk a h1 h2 H locs ls hP hS hl)
theorem s_ialdK (hX : CX g G cc own nL n) {k N j : Nat} {i : Int32} (hk : tyOf k = 11) (hN : lenOf k = N) (hin : ¬ (i < 0 ∨ N ≤ ix i)) (hj : ix i = j) (hd : decode cc pc = .ok (.iaload, 1)) (kk : Sim G Pr K (pc + 1) lv (.int (μ.1 k j) :: st) μ) : Sim G Pr K pc lv (.int i :: rf g k :: st) μ := by
  subst hj
  intro a h1 h2
  exact s_iald hX hk hN hd kk a (by unfold chk; rw [if_pos hin]; exact h1) h2
theorem s_iastK (hX : CX g G cc own nL n) {k N j : Nat} {i x : Int32} {f : Mem → Option α} (hk : tyOf k = 11) (hN : lenOf k = N) (hin : ¬ (i < 0 ∨ N ≤ ix i)) (hj : ix i = j) (hd : decode cc pc = .ok (.iastore, 1)) (kk : ∀ ν, Sim G (f ν) K (pc + 1) lv st ν) : Sim G (lt (setI μ k j x) f) K pc lv (.int x :: .int i :: rf g k :: st) μ := by
  subst hj
  intro a h1 h2
  exact s_iast hX hk hN hd kk a (by unfold chk; rw [if_pos hin]; exact h1) h2
theorem s_ckB {y : Int32} (k : (y = 0 ∨ y = 1) → Sim G Pr K pc lv st μ) : Sim G (ckB y Pr) K pc lv st μ := by
  intro a h1 h2
  unfold ckB at h1
  by_cases hy : y = 0 ∨ y = 1
  · rw [if_pos hy] at h1; exact k hy a h1 h2
  · rw [if_neg hy] at h1; cases h1
theorem zK {r : Int32} (h : r = 0 ∨ r = 1) : narrow .boolean (.int r) = .int r := by rcases h with rfl | rfl <;> rfl
theorem nfB {r : Int32} (h : r = 0 ∨ r = 1) : narrow .boolean (.int r) = .int r ∧ fits .boolean (.int r) = true := by rcases h with rfl | rfl <;> exact ⟨rfl, rfl⟩
theorem s_zreti {β : Type} {inj : Int32 × Mem → β} {K : β → Prop} {r0 v : Int32} {μ0 : Mem} (hv : v = 0 ∨ v = 1) (hK : ∀ r, K (inj r) → r = (r0, μ0)) (hR : ∀ pc lv, decode cc pc = .ok (.ireturn, 1) → (r0 = 0 ∨ r0 = 1) → G pc lv [.int r0] μ0) (hd : decode cc pc = .ok (.ireturn, 1)) : Sim G (some (inj (v, μ))) K pc lv [.int v] μ := fun a h1 h2 => by
  cases h1
  cases hK _ h2
  exact hR _ _ hd hv
theorem s_zretr {β : Type} {inj : Int32 → β} {K : β → Prop} {r0 v : Int32} (hv : v = 0 ∨ v = 1) (hK : ∀ r, K (inj r) → r = r0) (hR : ∀ pc lv, decode cc pc = .ok (.ireturn, 1) → (r0 = 0 ∨ r0 = 1) → G pc lv [.int r0] μ) (hd : decode cc pc = .ok (.ireturn, 1)) : Sim G (some (inj v)) K pc lv [.int v] μ := fun a h1 h2 => by
  cases h1
  cases hK _ h2
  exact hR _ _ hd hv
theorem s_cu2 {A B : Type} {F : A → B → Option α} {a : A} {b : B} (k : Sim G (F a b) K pc lv st μ) : Sim G (cu2 F (a, b)) K pc lv st μ := k
theorem s_cu3 {A B C : Type} {F : A → B → C → Option α} {a : A} {b : B} {c : C} (k : Sim G (F a b c) K pc lv st μ) : Sim G (cu3 F (a, b, c)) K pc lv st μ := k
theorem s_cu4 {A B C D : Type} {F : A → B → C → D → Option α} {a : A} {b : B} {c : C} {d : D} (k : Sim G (F a b c d) K pc lv st μ) : Sim G (cu4 F (a, b, c, d)) K pc lv st μ := k
theorem s_cu5 {A B C D E : Type} {F : A → B → C → D → E → Option α} {a : A} {b : B} {c : C} {d : D} {e : E} (k : Sim G (F a b c d e) K pc lv st μ) : Sim G (cu5 F (a, b, c, d, e)) K pc lv st μ := k
theorem s_cu6 {A B C D E I : Type} {F : A → B → C → D → E → I → Option α} {a : A} {b : B} {c : C} {d : D} {e : E} {i : I} (k : Sim G (F a b c d e i) K pc lv st μ) : Sim G (cu6 F (a, b, c, d, e, i)) K pc lv st μ := k
theorem s_gets0 (hX : CX g G cc own nL n) {idx : Nat} (hw : Cond.fieldLink own idx "DragonTithe" "FACTORIALS" "[I" ∈ TB) (hd : decode cc pc = .ok (.getstatic idx, 3)) (kk : Sim G Pr K (pc + 3) lv (rfT g 0 :: st) μ) : Sim G Pr K pc lv st μ := by
  obtain ⟨p, e, R, s, m, args, below, meth, c, cells, slots, Q, rfl, hx, hb, hml, hown, hts, hK, hT, hO, hn1, hn2, hn3, hn4⟩ := hX
  exact fun a h1 h2 H locs ls hP hS hl => va_gets hx hb hT.1.1 hS hown (hts _ hw) (fun _ h => h) hd (kk a h1 h2 H locs ls hP hS hl)
theorem s_tald0 (hX : CX g G cc own nL n) {i : Int32} (hd : decode cc pc = .ok (.iaload, 1)) (kk : Sim G Pr K (pc + 1) lv (.int (FACT (ix i)) :: st) μ) : Sim G (chk i 6 Pr) K pc lv (.int i :: rfT g 0 :: st) μ := by
  obtain ⟨p, e, R, s, m, args, below, meth, c, cells, slots, Q, rfl, hx, hb, hml, hown, hts, hK, hT, hO, hn1, hn2, hn3, hn4⟩ := hX
  intro a h1 h2
  unfold chk at h1
  by_cases hin : ¬ (i < 0 ∨ 6 ≤ ix i)
  · rw [if_pos hin] at h1
    exact fun H locs ls hP hS hl => va_ti hx hb hT.1.2 hS hin rfl hd (kk a h1 h2 H locs ls hP hS hl)
  · rw [if_neg hin] at h1; cases h1
theorem s_tlen0 (hX : CX g G cc own nL n) {v : Int32} (hv : Int32.ofNat 6 = v) (hd : decode cc pc = .ok (.arraylength, 1)) (kk : Sim G Pr K (pc + 1) lv (.int v :: st) μ) : Sim G Pr K pc lv (rfT g 0 :: st) μ := by
  obtain ⟨p, e, R, s, m, args, below, meth, c, cells, slots, Q, rfl, hx, hb, hml, hown, hts, hK, hT, hO, hn1, hn2, hn3, hn4⟩ := hX
  exact fun a h1 h2 H locs ls hP hS hl => va_tlen hx hb hT.1.2 hS hv hd (kk a h1 h2 H locs ls hP hS hl)
theorem s_gets1 (hX : CX g G cc own nL n) {idx : Nat} (hw : Cond.fieldLink own idx "DragonTithe$Scroll" "NUMBERS_BEHIND" "[I" ∈ TB) (hd : decode cc pc = .ok (.getstatic idx, 3)) (kk : Sim G Pr K (pc + 3) lv (rfT g 1 :: st) μ) : Sim G Pr K pc lv st μ := by
  obtain ⟨p, e, R, s, m, args, below, meth, c, cells, slots, Q, rfl, hx, hb, hml, hown, hts, hK, hT, hO, hn1, hn2, hn3, hn4⟩ := hX
  exact fun a h1 h2 H locs ls hP hS hl => va_gets hx hb hT.2.1.1 hS hown (hts _ hw) (fun _ h => h) hd (kk a h1 h2 H locs ls hP hS hl)
theorem s_tald1 (hX : CX g G cc own nL n) {i : Int32} (hd : decode cc pc = .ok (.iaload, 1)) (kk : Sim G Pr K (pc + 1) lv (.int (NUMB (ix i)) :: st) μ) : Sim G (chk i 6 Pr) K pc lv (.int i :: rfT g 1 :: st) μ := by
  obtain ⟨p, e, R, s, m, args, below, meth, c, cells, slots, Q, rfl, hx, hb, hml, hown, hts, hK, hT, hO, hn1, hn2, hn3, hn4⟩ := hX
  intro a h1 h2
  unfold chk at h1
  by_cases hin : ¬ (i < 0 ∨ 6 ≤ ix i)
  · rw [if_pos hin] at h1
    exact fun H locs ls hP hS hl => va_ti hx hb hT.2.1.2 hS hin rfl hd (kk a h1 h2 H locs ls hP hS hl)
  · rw [if_neg hin] at h1; cases h1
theorem s_tlen1 (hX : CX g G cc own nL n) {v : Int32} (hv : Int32.ofNat 6 = v) (hd : decode cc pc = .ok (.arraylength, 1)) (kk : Sim G Pr K (pc + 1) lv (.int v :: st) μ) : Sim G Pr K pc lv (rfT g 1 :: st) μ := by
  obtain ⟨p, e, R, s, m, args, below, meth, c, cells, slots, Q, rfl, hx, hb, hml, hown, hts, hK, hT, hO, hn1, hn2, hn3, hn4⟩ := hX
  exact fun a h1 h2 H locs ls hP hS hl => va_tlen hx hb hT.2.1.2 hS hv hd (kk a h1 h2 H locs ls hP hS hl)
theorem s_copy (hX : CX g G cc own nL n) {k0 k1 n0 n1 idx : Nat} {sp dp z : Int32} {f : Mem → Option α} (hk0 : tyOf k0 = 11) (hn0 : lenOf k0 = n0) (hk1 : tyOf k1 = 11) (hn1 : lenOf k1 = n1) (hc : CVx own idx arraycopyName) (hs : 1 ≤ n ∧ (st.map fun v => v.category).sum ≤ 8) (hw : Cond.native arraycopyName ∈ TB ∧ Cond.static arraycopyName ∈ TB ∧ Cond.initialized "java/lang/System" ∈ TB) (hd : decode cc pc = .ok (.invokestatic idx, 3)) (kk : ∀ ν, Sim G (f ν) K (pc + 3) lv st ν) : Sim G (ckC sp dp z n0 n1 (lt (cpyI μ k0 (ix sp) k1 (ix dp) (ix z)) f)) K pc lv (.int z :: .int dp :: rf g k1 :: .int sp :: rf g k0 :: st) μ := by
  obtain ⟨p, e, R, s, m, args, below, meth, c, cells, slots, Q, rfl, hx, hb, hml, hown, hts, hK, hT, hO, hm1, hm2, hm3, hm4⟩ := hX
  intro a h1 h2
  unfold ckC at h1
  by_cases hin : ¬ sp < 0 ∧ ¬ dp < 0 ∧ ¬ z < 0 ∧ ix sp + ix z ≤ n0 ∧ ix dp + ix z ≤ n1
  · rw [if_pos hin] at h1
    intro H locs ls hP hS hl
    have hwords : nativeFrameWords "java/lang/System" "arraycopy" 5 + 11 ≤ 56 := by decide
    refine va_copyi hx hb (by rw [hml]; exact hl.1.symm) hown (hts _ hc) (hts _ hw.1) (hts _ hw.2.1) (hts _ hw.2.2) hK hP (hO.D μ) hS k0 k1 0 0 (by rw [wsOf_at _ _ _ (ty_lt (by omega)), cell_arr hk0 hn0 (by omega)]) (by rw [wsOf_at _ _ _ (ty_lt (by omega)), cell_arr hk1 hn1 (by omega)]) rfl rfl rfl hin.1 hin.2.1 hin.2.2.1 hin.2.2.2.1 hin.2.2.2.2 (fun i _ => rfl) (by omega) (by omega) hd (fun H1 locs1 hP1 hD1 hS1 => ?_)
    rw [wsOf_set (cy := gcy g) (ad := gad g) (μ := μ) (ν := cpyI μ k0 (ix sp) k1 (ix dp) (ix z)) (a := k1) (ty_lt (by omega)) (fun q i hq => by simp [cpyI, hq]) (fun q i hq => rfl) (by rw [cell_arr hk1 hn1 (by omega), cpyI_row]; rfl)] at hP1
    exact kk _ a h1 h2 H1 locs1 ls hP1 hS1 hl
  · rw [if_neg hin] at h1; cases h1
/-! contracts -/
def RM (n : Nat) : Room := { frames := n, cells := 0, slots := 0, locals := 64 * n }
def Mt (g : GT) (y : MethodName) (cc : ByteArray) (maxL : Nat) (ret : Option FieldType) (n : Nat) (av : List Value) (μ : Mem) (Qc : Array Value → State → Outcome → State → Prop) : Prop := Met (gl g) y (Cond.code y cc maxL ret :: TB) (RM n) (va_Pc av (Wd g μ)) Qc 0 0 (gA g)
def PB (g : GT) (u : Mem) (t : State) : Prop := PW g u t.heap
/-- the method returns the int r and the memory ν -/
def CI (g : GT) (y : MethodName) (cc : ByteArray) (maxL : Nat) (ret : Option FieldType) (n : Nat) (av : List Value) (μ : Mem) (r : Int32) (ν : Mem) : Prop := Mt g y cc maxL ret n av μ (va_Qi (fun r1 u => r1 = r ∧ u = ν) (PB g) (gA g))
def CL (g : GT) (y : MethodName) (cc : ByteArray) (maxL : Nat) (ret : Option FieldType) (n : Nat) (av : List Value) (μ : Mem) (r : Int64) (ν : Mem) : Prop := Mt g y cc maxL ret n av μ (va_Ql (fun r1 u => r1 = r ∧ u = ν) (PB g) (gA g))
def CV (g : GT) (y : MethodName) (cc : ByteArray) (maxL : Nat) (ret : Option FieldType) (n : Nat) (av : List Value) (μ ν : Mem) : Prop := Mt g y cc maxL ret n av μ (va_Qv (fun u => u = ν) (PB g) (gA g))
def SKx (y : MethodName) : Prop := Cond.static y ∈ TB
theorem goodTB {y : MethodName} {cc : ByteArray} {maxL : Nat} {ret : Option FieldType} (h : Cond.code y cc maxL ret ∈ TB) : GoodIn TB (Cond.code y cc maxL ret :: TB) := by
  intro w hw
  have hw : w ∈ TB := by
    rcases List.mem_cons.mp hw with rfl | h2
    · exact h
    · exact h2
  exact ⟨hw, good_of_word (List.mem_filter.mp hw).2⟩
theorem Wd.blind {g : GT} {μ : Mem} {av : List Value} : FrameBlind (va_Pc av (Wd g μ)) := by
  intro a U gg mk q
  obtain ⟨q0, q1, q2, q3, q4⟩ := q
  exact ⟨q0, q1, va_K.moved (u := U) (U := U.calling gg mk a) (Vm.Alike.refl U.vm) q2, Stt.same (u := U) (U := U.calling gg mk a) rfl q3, q4⟩
theorem s_callViw (hX : CX g G cc own nL n) {y : MethodName} {yc : ByteArray} {maxL idx n' : Nat} {ret : Option FieldType} {F : Option (Int32 × Mem)} {f : Int32 → Mem → Option α} {st0 : List Value} (As : List Value) {k ci np : Nat} {C : String} (hk : tyOf k = ci) (hC : ∃ T N, clX[ci]? = some (C, T, N)) (hv : VKx C y) (hM : ∀ r ν, F = some (r, ν) → CI g y yc maxL ret n' (rf g k :: As) μ r ν) (hy : MKx y yc maxL ret np) (hc : CVx own idx y) (hn : As.length = np) (hst : st0 = As.reverse ++ rf g k :: st) (hrm : n' + 1 ≤ n ∧ maxL ≤ 45 ∧ (st.map fun v => v.category).sum ≤ 8) (hd : decode cc pc = .ok (.invokevirtual idx, 3)) (kk : ∀ r ν, Sim G (f r ν) K (pc + 3) lv (.int r :: st) ν) : Sim G (bd2 F f) K pc lv st0 μ := by
  obtain ⟨p, e, R, s, m, args, below, meth, c, cells, slots, Q, rfl, hx, hb, hml, hown, hts, hK, hT, hO, hn1, hn2, hn3, hn4⟩ := hX
  obtain ⟨y1, y2, y3, y4⟩ := hy
  intro a h1 h2
  cases hF : F with
  | none => rw [hF] at h1; cases h1
  | some z =>
    obtain ⟨r0, ν0⟩ := z
    rw [hF] at h1
    obtain ⟨T, N, hcl⟩ := hC
    obtain ⟨v1, v2⟩ := hv
    intro H locs ls hP hS hl
    subst hst
    have cb := callB_of (R := R) (rm := RM n') (mc := 0) (ms := 0) np hts (goodTB y1) rfl rfl rfl (hts _ y2) (hts _ hc) ⟨y3.1, y3.2, y4⟩ ⟨by show n' + 1 ≤ R.frames; omega, by show 8 + (maxL + 11) + 64 * n' ≤ R.locals; omega⟩
    have hrun := va_runV (As := As) (rest := st) (g := F0 m pc ls (As.reverse ++ rf g k :: st)) (locs := locs) (cells := cells) (slots := slots) (below := below) (e := e) (meth := meth) ⟨hx, hb, hml, hown, hts⟩ (hM r0 ν0 hF) ⟨cb, hts _ v1, hts _ v2⟩ ⟨Wd.blind, va_recv hK hP hcl (q0 := k) (fs := flds (gad g) μ k ci) (by rw [wsOf_at _ _ _ (ty_lt (by have := (List.getElem?_eq_some_iff.mp hcl).1; simp [clX] at this; omega)), cell_obj hk (by have := (List.getElem?_eq_some_iff.mp hcl).1; simp [clX] at this; omega)]), fun U hU hW => ⟨rfl, by show PW g μ U.heap; rw [hU]; exact hP, va_K.moved hW.alike hK, (Stt.warm hW hT).kept (fun q hq hA => by rw [hU]; exact hS.2.1 q hq hA), hO⟩⟩ rfl hn hl.1 rfl (lv_room hrm.2.2) hd ⟨by omega, by omega⟩
    refine va_calli hrun hS (fun q _ h => h) (fun q h => h) (fun r1 u t H1 locs1 ht hvm hw hB hz hk1 hS1 => ?_)
    obtain ⟨rfl, rfl⟩ := hw
    subst ht
    exact kk _ _ a h1 h2 _ locs1 ls hB hS1 hl
theorem s_callVir (hX : CX g G cc own nL n) {y : MethodName} {yc : ByteArray} {maxL idx n' : Nat} {ret : Option FieldType} {F : Option Int32} {f : Int32 → Option α} {st0 : List Value} (As : List Value) {k ci np : Nat} {C : String} (hk : tyOf k = ci) (hC : ∃ T N, clX[ci]? = some (C, T, N)) (hv : VKx C y) (hM : ∀ r, F = some r → CI g y yc maxL ret n' (rf g k :: As) μ r μ) (hy : MKx y yc maxL ret np) (hc : CVx own idx y) (hn : As.length = np) (hst : st0 = As.reverse ++ rf g k :: st) (hrm : n' + 1 ≤ n ∧ maxL ≤ 45 ∧ (st.map fun v => v.category).sum ≤ 8) (hd : decode cc pc = .ok (.invokevirtual idx, 3)) (kk : ∀ r, Sim G (f r) K (pc + 3) lv (.int r :: st) μ) : Sim G (bd F f) K pc lv st0 μ := by
  obtain ⟨p, e, R, s, m, args, below, meth, c, cells, slots, Q, rfl, hx, hb, hml, hown, hts, hK, hT, hO, hn1, hn2, hn3, hn4⟩ := hX
  obtain ⟨y1, y2, y3, y4⟩ := hy
  intro a h1 h2
  cases hF : F with
  | none => rw [hF] at h1; cases h1
  | some z =>
    rw [hF] at h1
    obtain ⟨T, N, hcl⟩ := hC
    obtain ⟨v1, v2⟩ := hv
    intro H locs ls hP hS hl
    subst hst
    have cb := callB_of (R := R) (rm := RM n') (mc := 0) (ms := 0) np hts (goodTB y1) rfl rfl rfl (hts _ y2) (hts _ hc) ⟨y3.1, y3.2, y4⟩ ⟨by show n' + 1 ≤ R.frames; omega, by show 8 + (maxL + 11) + 64 * n' ≤ R.locals; omega⟩
    have hrun := va_runV (As := As) (rest := st) (g := F0 m pc ls (As.reverse ++ rf g k :: st)) (locs := locs) (cells := cells) (slots := slots) (below := below) (e := e) (meth := meth) ⟨hx, hb, hml, hown, hts⟩ (hM z hF) ⟨cb, hts _ v1, hts _ v2⟩ ⟨Wd.blind, va_recv hK hP hcl (q0 := k) (fs := flds (gad g) μ k ci) (by rw [wsOf_at _ _ _ (ty_lt (by have := (List.getElem?_eq_some_iff.mp hcl).1; simp [clX] at this; omega)), cell_obj hk (by have := (List.getElem?_eq_some_iff.mp hcl).1; simp [clX] at this; omega)]), fun U hU hW => ⟨rfl, by show PW g μ U.heap; rw [hU]; exact hP, va_K.moved hW.alike hK, (Stt.warm hW hT).kept (fun q hq hA => by rw [hU]; exact hS.2.1 q hq hA), hO⟩⟩ rfl hn hl.1 rfl (lv_room hrm.2.2) hd ⟨by omega, by omega⟩
    refine va_calli hrun hS (fun q _ h => h) (fun q h => h) (fun r1 u t H1 locs1 ht hvm hw hB hz hk1 hS1 => ?_)
    obtain ⟨rfl, rfl⟩ := hw
    subst ht
    exact kk _ a h1 h2 _ locs1 ls hB hS1 hl
theorem s_callSiw (hX : CX g G cc own nL n) {y : MethodName} {yc : ByteArray} {maxL idx n' : Nat} {ret : Option FieldType} {F : Option (Int32 × Mem)} {f : Int32 → Mem → Option α} {st0 : List Value} (As : List Value) {np : Nat} (hv : SKx y) (hM : ∀ r ν, F = some (r, ν) → CI g y yc maxL ret n' As μ r ν) (hy : MKx y yc maxL ret np) (hc : CVx own idx y) (hn : As.length = np) (hst : st0 = As.reverse ++ st) (hrm : n' + 1 ≤ n ∧ maxL ≤ 45 ∧ (st.map fun v => v.category).sum ≤ 8) (hd : decode cc pc = .ok (.invokestatic idx, 3)) (kk : ∀ r ν, Sim G (f r ν) K (pc + 3) lv (.int r :: st) ν) : Sim G (bd2 F f) K pc lv st0 μ := by
  obtain ⟨p, e, R, s, m, args, below, meth, c, cells, slots, Q, rfl, hx, hb, hml, hown, hts, hK, hT, hO, hn1, hn2, hn3, hn4⟩ := hX
  obtain ⟨y1, y2, y3, y4⟩ := hy
  intro a h1 h2
  cases hF : F with
  | none => rw [hF] at h1; cases h1
  | some z =>
    obtain ⟨r0, ν0⟩ := z
    rw [hF] at h1
    intro H locs ls hP hS hl
    subst hst
    have cb := callB_of (R := R) (rm := RM n') (mc := 0) (ms := 0) np hts (goodTB y1) rfl rfl rfl (hts _ y2) (hts _ hc) ⟨y3.1, y3.2, y4⟩ ⟨by show n' + 1 ≤ R.frames; omega, by show 8 + (maxL + 11) + 64 * n' ≤ R.locals; omega⟩
    have hrun := va_runS (As := As) (rest := st) (g := F0 m pc ls (As.reverse ++ st)) (locs := locs) (cells := cells) (slots := slots) (below := below) (e := e) (meth := meth) ⟨hx, hb, hml, hown, hts⟩ (hM r0 ν0 hF) ⟨cb, hts _ hv⟩ ⟨Wd.blind, fun U hU hW => ⟨rfl, by show PW g μ U.heap; rw [hU]; exact hP, va_K.moved hW.alike hK, (Stt.warm hW hT).kept (fun q hq hA => by rw [hU]; exact hS.2.1 q hq hA), hO⟩⟩ rfl hn hl.1 rfl (lv_room hrm.2.2) hd ⟨by omega, by omega⟩
    refine va_calli hrun hS (fun q _ h => h) (fun q h => h) (fun r1 u t H1 locs1 ht hvm hw hB hz hk1 hS1 => ?_)
    obtain ⟨rfl, rfl⟩ := hw
    subst ht
    exact kk _ _ a h1 h2 _ locs1 ls hB hS1 hl
theorem s_callSir (hX : CX g G cc own nL n) {y : MethodName} {yc : ByteArray} {maxL idx n' : Nat} {ret : Option FieldType} {F : Option Int32} {f : Int32 → Option α} {st0 : List Value} (As : List Value) {np : Nat} (hv : SKx y) (hM : ∀ r, F = some r → CI g y yc maxL ret n' As μ r μ) (hy : MKx y yc maxL ret np) (hc : CVx own idx y) (hn : As.length = np) (hst : st0 = As.reverse ++ st) (hrm : n' + 1 ≤ n ∧ maxL ≤ 45 ∧ (st.map fun v => v.category).sum ≤ 8) (hd : decode cc pc = .ok (.invokestatic idx, 3)) (kk : ∀ r, Sim G (f r) K (pc + 3) lv (.int r :: st) μ) : Sim G (bd F f) K pc lv st0 μ := by
  obtain ⟨p, e, R, s, m, args, below, meth, c, cells, slots, Q, rfl, hx, hb, hml, hown, hts, hK, hT, hO, hn1, hn2, hn3, hn4⟩ := hX
  obtain ⟨y1, y2, y3, y4⟩ := hy
  intro a h1 h2
  cases hF : F with
  | none => rw [hF] at h1; cases h1
  | some z =>
    rw [hF] at h1
    intro H locs ls hP hS hl
    subst hst
    have cb := callB_of (R := R) (rm := RM n') (mc := 0) (ms := 0) np hts (goodTB y1) rfl rfl rfl (hts _ y2) (hts _ hc) ⟨y3.1, y3.2, y4⟩ ⟨by show n' + 1 ≤ R.frames; omega, by show 8 + (maxL + 11) + 64 * n' ≤ R.locals; omega⟩
    have hrun := va_runS (As := As) (rest := st) (g := F0 m pc ls (As.reverse ++ st)) (locs := locs) (cells := cells) (slots := slots) (below := below) (e := e) (meth := meth) ⟨hx, hb, hml, hown, hts⟩ (hM z hF) ⟨cb, hts _ hv⟩ ⟨Wd.blind, fun U hU hW => ⟨rfl, by show PW g μ U.heap; rw [hU]; exact hP, va_K.moved hW.alike hK, (Stt.warm hW hT).kept (fun q hq hA => by rw [hU]; exact hS.2.1 q hq hA), hO⟩⟩ rfl hn hl.1 rfl (lv_room hrm.2.2) hd ⟨by omega, by omega⟩
    refine va_calli hrun hS (fun q _ h => h) (fun q h => h) (fun r1 u t H1 locs1 ht hvm hw hB hz hk1 hS1 => ?_)
    obtain ⟨rfl, rfl⟩ := hw
    subst ht
    exact kk _ a h1 h2 _ locs1 ls hB hS1 hl
theorem s_callVlw (hX : CX g G cc own nL n) {y : MethodName} {yc : ByteArray} {maxL idx n' : Nat} {ret : Option FieldType} {F : Option (Int64 × Mem)} {f : Int64 → Mem → Option α} {st0 : List Value} (As : List Value) {k ci np : Nat} {C : String} (hk : tyOf k = ci) (hC : ∃ T N, clX[ci]? = some (C, T, N)) (hv : VKx C y) (hM : ∀ r ν, F = some (r, ν) → CL g y yc maxL ret n' (rf g k :: As) μ r ν) (hy : MKx y yc maxL ret np) (hc : CVx own idx y) (hn : As.length = np) (hst : st0 = As.reverse ++ rf g k :: st) (hrm : n' + 1 ≤ n ∧ maxL ≤ 45 ∧ (st.map fun v => v.category).sum ≤ 8) (hd : decode cc pc = .ok (.invokevirtual idx, 3)) (kk : ∀ r ν, Sim G (f r ν) K (pc + 3) lv (.long r :: st) ν) : Sim G (bd2 F f) K pc lv st0 μ := by
  obtain ⟨p, e, R, s, m, args, below, meth, c, cells, slots, Q, rfl, hx, hb, hml, hown, hts, hK, hT, hO, hn1, hn2, hn3, hn4⟩ := hX
  obtain ⟨y1, y2, y3, y4⟩ := hy
  intro a h1 h2
  cases hF : F with
  | none => rw [hF] at h1; cases h1
  | some z =>
    obtain ⟨r0, ν0⟩ := z
    rw [hF] at h1
    obtain ⟨T, N, hcl⟩ := hC
    obtain ⟨v1, v2⟩ := hv
    intro H locs ls hP hS hl
    subst hst
    have cb := callB_of (R := R) (rm := RM n') (mc := 0) (ms := 0) np hts (goodTB y1) rfl rfl rfl (hts _ y2) (hts _ hc) ⟨y3.1, y3.2, y4⟩ ⟨by show n' + 1 ≤ R.frames; omega, by show 8 + (maxL + 11) + 64 * n' ≤ R.locals; omega⟩
    have hrun := va_runV (As := As) (rest := st) (g := F0 m pc ls (As.reverse ++ rf g k :: st)) (locs := locs) (cells := cells) (slots := slots) (below := below) (e := e) (meth := meth) ⟨hx, hb, hml, hown, hts⟩ (hM r0 ν0 hF) ⟨cb, hts _ v1, hts _ v2⟩ ⟨Wd.blind, va_recv hK hP hcl (q0 := k) (fs := flds (gad g) μ k ci) (by rw [wsOf_at _ _ _ (ty_lt (by have := (List.getElem?_eq_some_iff.mp hcl).1; simp [clX] at this; omega)), cell_obj hk (by have := (List.getElem?_eq_some_iff.mp hcl).1; simp [clX] at this; omega)]), fun U hU hW => ⟨rfl, by show PW g μ U.heap; rw [hU]; exact hP, va_K.moved hW.alike hK, (Stt.warm hW hT).kept (fun q hq hA => by rw [hU]; exact hS.2.1 q hq hA), hO⟩⟩ rfl hn hl.1 rfl (lv_room hrm.2.2) hd ⟨by omega, by omega⟩
    refine va_calll hrun hS (fun q _ h => h) (fun q h => h) (fun r1 u t H1 locs1 ht hvm hw hB hz hk1 hS1 => ?_)
    obtain ⟨rfl, rfl⟩ := hw
    subst ht
    exact kk _ _ a h1 h2 _ locs1 ls hB hS1 hl
theorem s_callVlr (hX : CX g G cc own nL n) {y : MethodName} {yc : ByteArray} {maxL idx n' : Nat} {ret : Option FieldType} {F : Option Int64} {f : Int64 → Option α} {st0 : List Value} (As : List Value) {k ci np : Nat} {C : String} (hk : tyOf k = ci) (hC : ∃ T N, clX[ci]? = some (C, T, N)) (hv : VKx C y) (hM : ∀ r, F = some r → CL g y yc maxL ret n' (rf g k :: As) μ r μ) (hy : MKx y yc maxL ret np) (hc : CVx own idx y) (hn : As.length = np) (hst : st0 = As.reverse ++ rf g k :: st) (hrm : n' + 1 ≤ n ∧ maxL ≤ 45 ∧ (st.map fun v => v.category).sum ≤ 8) (hd : decode cc pc = .ok (.invokevirtual idx, 3)) (kk : ∀ r, Sim G (f r) K (pc + 3) lv (.long r :: st) μ) : Sim G (bd F f) K pc lv st0 μ := by
  obtain ⟨p, e, R, s, m, args, below, meth, c, cells, slots, Q, rfl, hx, hb, hml, hown, hts, hK, hT, hO, hn1, hn2, hn3, hn4⟩ := hX
  obtain ⟨y1, y2, y3, y4⟩ := hy
  intro a h1 h2
  cases hF : F with
  | none => rw [hF] at h1; cases h1
  | some z =>
    rw [hF] at h1
    obtain ⟨T, N, hcl⟩ := hC
    obtain ⟨v1, v2⟩ := hv
    intro H locs ls hP hS hl
    subst hst
    have cb := callB_of (R := R) (rm := RM n') (mc := 0) (ms := 0) np hts (goodTB y1) rfl rfl rfl (hts _ y2) (hts _ hc) ⟨y3.1, y3.2, y4⟩ ⟨by show n' + 1 ≤ R.frames; omega, by show 8 + (maxL + 11) + 64 * n' ≤ R.locals; omega⟩
    have hrun := va_runV (As := As) (rest := st) (g := F0 m pc ls (As.reverse ++ rf g k :: st)) (locs := locs) (cells := cells) (slots := slots) (below := below) (e := e) (meth := meth) ⟨hx, hb, hml, hown, hts⟩ (hM z hF) ⟨cb, hts _ v1, hts _ v2⟩ ⟨Wd.blind, va_recv hK hP hcl (q0 := k) (fs := flds (gad g) μ k ci) (by rw [wsOf_at _ _ _ (ty_lt (by have := (List.getElem?_eq_some_iff.mp hcl).1; simp [clX] at this; omega)), cell_obj hk (by have := (List.getElem?_eq_some_iff.mp hcl).1; simp [clX] at this; omega)]), fun U hU hW => ⟨rfl, by show PW g μ U.heap; rw [hU]; exact hP, va_K.moved hW.alike hK, (Stt.warm hW hT).kept (fun q hq hA => by rw [hU]; exact hS.2.1 q hq hA), hO⟩⟩ rfl hn hl.1 rfl (lv_room hrm.2.2) hd ⟨by omega, by omega⟩
    refine va_calll hrun hS (fun q _ h => h) (fun q h => h) (fun r1 u t H1 locs1 ht hvm hw hB hz hk1 hS1 => ?_)
    obtain ⟨rfl, rfl⟩ := hw
    subst ht
    exact kk _ a h1 h2 _ locs1 ls hB hS1 hl
theorem s_callSlw (hX : CX g G cc own nL n) {y : MethodName} {yc : ByteArray} {maxL idx n' : Nat} {ret : Option FieldType} {F : Option (Int64 × Mem)} {f : Int64 → Mem → Option α} {st0 : List Value} (As : List Value) {np : Nat} (hv : SKx y) (hM : ∀ r ν, F = some (r, ν) → CL g y yc maxL ret n' As μ r ν) (hy : MKx y yc maxL ret np) (hc : CVx own idx y) (hn : As.length = np) (hst : st0 = As.reverse ++ st) (hrm : n' + 1 ≤ n ∧ maxL ≤ 45 ∧ (st.map fun v => v.category).sum ≤ 8) (hd : decode cc pc = .ok (.invokestatic idx, 3)) (kk : ∀ r ν, Sim G (f r ν) K (pc + 3) lv (.long r :: st) ν) : Sim G (bd2 F f) K pc lv st0 μ := by
  obtain ⟨p, e, R, s, m, args, below, meth, c, cells, slots, Q, rfl, hx, hb, hml, hown, hts, hK, hT, hO, hn1, hn2, hn3, hn4⟩ := hX
  obtain ⟨y1, y2, y3, y4⟩ := hy
  intro a h1 h2
  cases hF : F with
  | none => rw [hF] at h1; cases h1
  | some z =>
    obtain ⟨r0, ν0⟩ := z
    rw [hF] at h1
    intro H locs ls hP hS hl
    subst hst
    have cb := callB_of (R := R) (rm := RM n') (mc := 0) (ms := 0) np hts (goodTB y1) rfl rfl rfl (hts _ y2) (hts _ hc) ⟨y3.1, y3.2, y4⟩ ⟨by show n' + 1 ≤ R.frames; omega, by show 8 + (maxL + 11) + 64 * n' ≤ R.locals; omega⟩
    have hrun := va_runS (As := As) (rest := st) (g := F0 m pc ls (As.reverse ++ st)) (locs := locs) (cells := cells) (slots := slots) (below := below) (e := e) (meth := meth) ⟨hx, hb, hml, hown, hts⟩ (hM r0 ν0 hF) ⟨cb, hts _ hv⟩ ⟨Wd.blind, fun U hU hW => ⟨rfl, by show PW g μ U.heap; rw [hU]; exact hP, va_K.moved hW.alike hK, (Stt.warm hW hT).kept (fun q hq hA => by rw [hU]; exact hS.2.1 q hq hA), hO⟩⟩ rfl hn hl.1 rfl (lv_room hrm.2.2) hd ⟨by omega, by omega⟩
    refine va_calll hrun hS (fun q _ h => h) (fun q h => h) (fun r1 u t H1 locs1 ht hvm hw hB hz hk1 hS1 => ?_)
    obtain ⟨rfl, rfl⟩ := hw
    subst ht
    exact kk _ _ a h1 h2 _ locs1 ls hB hS1 hl
theorem s_callSlr (hX : CX g G cc own nL n) {y : MethodName} {yc : ByteArray} {maxL idx n' : Nat} {ret : Option FieldType} {F : Option Int64} {f : Int64 → Option α} {st0 : List Value} (As : List Value) {np : Nat} (hv : SKx y) (hM : ∀ r, F = some r → CL g y yc maxL ret n' As μ r μ) (hy : MKx y yc maxL ret np) (hc : CVx own idx y) (hn : As.length = np) (hst : st0 = As.reverse ++ st) (hrm : n' + 1 ≤ n ∧ maxL ≤ 45 ∧ (st.map fun v => v.category).sum ≤ 8) (hd : decode cc pc = .ok (.invokestatic idx, 3)) (kk : ∀ r, Sim G (f r) K (pc + 3) lv (.long r :: st) μ) : Sim G (bd F f) K pc lv st0 μ := by
  obtain ⟨p, e, R, s, m, args, below, meth, c, cells, slots, Q, rfl, hx, hb, hml, hown, hts, hK, hT, hO, hn1, hn2, hn3, hn4⟩ := hX
  obtain ⟨y1, y2, y3, y4⟩ := hy
  intro a h1 h2
  cases hF : F with
  | none => rw [hF] at h1; cases h1
  | some z =>
    rw [hF] at h1
    intro H locs ls hP hS hl
    subst hst
    have cb := callB_of (R := R) (rm := RM n') (mc := 0) (ms := 0) np hts (goodTB y1) rfl rfl rfl (hts _ y2) (hts _ hc) ⟨y3.1, y3.2, y4⟩ ⟨by show n' + 1 ≤ R.frames; omega, by show 8 + (maxL + 11) + 64 * n' ≤ R.locals; omega⟩
    have hrun := va_runS (As := As) (rest := st) (g := F0 m pc ls (As.reverse ++ st)) (locs := locs) (cells := cells) (slots := slots) (below := below) (e := e) (meth := meth) ⟨hx, hb, hml, hown, hts⟩ (hM z hF) ⟨cb, hts _ hv⟩ ⟨Wd.blind, fun U hU hW => ⟨rfl, by show PW g μ U.heap; rw [hU]; exact hP, va_K.moved hW.alike hK, (Stt.warm hW hT).kept (fun q hq hA => by rw [hU]; exact hS.2.1 q hq hA), hO⟩⟩ rfl hn hl.1 rfl (lv_room hrm.2.2) hd ⟨by omega, by omega⟩
    refine va_calll hrun hS (fun q _ h => h) (fun q h => h) (fun r1 u t H1 locs1 ht hvm hw hB hz hk1 hS1 => ?_)
    obtain ⟨rfl, rfl⟩ := hw
    subst ht
    exact kk _ a h1 h2 _ locs1 ls hB hS1 hl
theorem s_callVvw (hX : CX g G cc own nL n) {y : MethodName} {yc : ByteArray} {maxL idx n' : Nat} {ret : Option FieldType} {F : Option Mem} {f : Mem → Option α} {st0 : List Value} (As : List Value) {k ci np : Nat} {C : String} (hk : tyOf k = ci) (hC : ∃ T N, clX[ci]? = some (C, T, N)) (hv : VKx C y) (hM : ∀ ν, F = some ν → CV g y yc maxL ret n' (rf g k :: As) μ ν) (hy : MKx y yc maxL ret np) (hc : CVx own idx y) (hn : As.length = np) (hst : st0 = As.reverse ++ rf g k :: st) (hrm : n' + 1 ≤ n ∧ maxL ≤ 45 ∧ (st.map fun v => v.category).sum ≤ 8) (hd : decode cc pc = .ok (.invokevirtual idx, 3)) (kk : ∀ ν, Sim G (f ν) K (pc + 3) lv st ν) : Sim G (bd F f) K pc lv st0 μ := by
  obtain ⟨p, e, R, s, m, args, below, meth, c, cells, slots, Q, rfl, hx, hb, hml, hown, hts, hK, hT, hO, hn1, hn2, hn3, hn4⟩ := hX
  obtain ⟨y1, y2, y3, y4⟩ := hy
  intro a h1 h2
  cases hF : F with
  | none => rw [hF] at h1; cases h1
  | some z =>
    rw [hF] at h1
    obtain ⟨T, N, hcl⟩ := hC
    obtain ⟨v1, v2⟩ := hv
    intro H locs ls hP hS hl
    subst hst
    have cb := callB_of (R := R) (rm := RM n') (mc := 0) (ms := 0) np hts (goodTB y1) rfl rfl rfl (hts _ y2) (hts _ hc) ⟨y3.1, y3.2, y4⟩ ⟨by show n' + 1 ≤ R.frames; omega, by show 8 + (maxL + 11) + 64 * n' ≤ R.locals; omega⟩
    have hrun := va_runV (As := As) (rest := st) (g := F0 m pc ls (As.reverse ++ rf g k :: st)) (locs := locs) (cells := cells) (slots := slots) (below := below) (e := e) (meth := meth) ⟨hx, hb, hml, hown, hts⟩ (hM z hF) ⟨cb, hts _ v1, hts _ v2⟩ ⟨Wd.blind, va_recv hK hP hcl (q0 := k) (fs := flds (gad g) μ k ci) (by rw [wsOf_at _ _ _ (ty_lt (by have := (List.getElem?_eq_some_iff.mp hcl).1; simp [clX] at this; omega)), cell_obj hk (by have := (List.getElem?_eq_some_iff.mp hcl).1; simp [clX] at this; omega)]), fun U hU hW => ⟨rfl, by show PW g μ U.heap; rw [hU]; exact hP, va_K.moved hW.alike hK, (Stt.warm hW hT).kept (fun q hq hA => by rw [hU]; exact hS.2.1 q hq hA), hO⟩⟩ rfl hn hl.1 rfl (lv_room hrm.2.2) hd ⟨by omega, by omega⟩
    refine va_callv hrun hS (fun q _ h => h) (fun q h => h) (fun u t H1 locs1 ht hvm hw hB hz hk1 hS1 => ?_)
    subst hw
    subst ht
    exact kk _ a h1 h2 _ locs1 ls hB hS1 hl
theorem s_callSvw (hX : CX g G cc own nL n) {y : MethodName} {yc : ByteArray} {maxL idx n' : Nat} {ret : Option FieldType} {F : Option Mem} {f : Mem → Option α} {st0 : List Value} (As : List Value) {np : Nat} (hv : SKx y) (hM : ∀ ν, F = some ν → CV g y yc maxL ret n' As μ ν) (hy : MKx y yc maxL ret np) (hc : CVx own idx y) (hn : As.length = np) (hst : st0 = As.reverse ++ st) (hrm : n' + 1 ≤ n ∧ maxL ≤ 45 ∧ (st.map fun v => v.category).sum ≤ 8) (hd : decode cc pc = .ok (.invokestatic idx, 3)) (kk : ∀ ν, Sim G (f ν) K (pc + 3) lv st ν) : Sim G (bd F f) K pc lv st0 μ := by
  obtain ⟨p, e, R, s, m, args, below, meth, c, cells, slots, Q, rfl, hx, hb, hml, hown, hts, hK, hT, hO, hn1, hn2, hn3, hn4⟩ := hX
  obtain ⟨y1, y2, y3, y4⟩ := hy
  intro a h1 h2
  cases hF : F with
  | none => rw [hF] at h1; cases h1
  | some z =>
    rw [hF] at h1
    intro H locs ls hP hS hl
    subst hst
    have cb := callB_of (R := R) (rm := RM n') (mc := 0) (ms := 0) np hts (goodTB y1) rfl rfl rfl (hts _ y2) (hts _ hc) ⟨y3.1, y3.2, y4⟩ ⟨by show n' + 1 ≤ R.frames; omega, by show 8 + (maxL + 11) + 64 * n' ≤ R.locals; omega⟩
    have hrun := va_runS (As := As) (rest := st) (g := F0 m pc ls (As.reverse ++ st)) (locs := locs) (cells := cells) (slots := slots) (below := below) (e := e) (meth := meth) ⟨hx, hb, hml, hown, hts⟩ (hM z hF) ⟨cb, hts _ hv⟩ ⟨Wd.blind, fun U hU hW => ⟨rfl, by show PW g μ U.heap; rw [hU]; exact hP, va_K.moved hW.alike hK, (Stt.warm hW hT).kept (fun q hq hA => by rw [hU]; exact hS.2.1 q hq hA), hO⟩⟩ rfl hn hl.1 rfl (lv_room hrm.2.2) hd ⟨by omega, by omega⟩
    refine va_callv hrun hS (fun q _ h => h) (fun q h => h) (fun u t H1 locs1 ht hvm hw hB hz hk1 hS1 => ?_)
    subst hw
    subst ht
    exact kk _ a h1 h2 _ locs1 ls hB hS1 hl
theorem mk_i {y : MethodName} {yc : ByteArray} {maxL N : Nat} {av : List Value} {μ0 ν : Mem} {r : Int32} (hy : plainName y.cls = true) (hav : (lg_sl av).length ≤ maxL) (body : ∀ G, CX g G yc y.cls maxL N → (∀ pc lv, decode yc pc = .ok (.ireturn, 1) → G pc lv [.int r] ν) → G 0 (lv_args 0 av) [] μ0) : CI g y yc maxL (some .int) N av μ0 r ν := by
  refine Met.ofW (cc := yc) (maxL := maxL) (ret := some .int) hy rfl ?_
  intro p e s m args below meth c s₁ B hml hv
  obtain ⟨rfl, hP0, hK, hT, hO⟩ := hv
  have hx := B.exec
  have hb := B.bytes
  have hr := B.returns
  have hts := atoms_spec (ws := Cond.code y yc maxL (some .int) :: TB) B.pre
  have hown : s.vm.findClass y.cls = some m.cls := findClass_of_methodNamed B.named
  have hlocks := B.notSynchronized
  have hl := lv_entry av (n := maxL) hav
  rw [lg_entry_eq]
  refine body _ ⟨p, e, RM N, s, m, _, below, meth, c, 0, 0, _, rfl, hx, hb, hml, hown, fun w hw => hts w (List.mem_cons_of_mem _ hw), hK, hT, hO, Nat.le_refl _, Nat.le_refl _, Nat.le_refl _, Nat.le_refl _⟩ ?_ s.heap [] _ hP0 va_S.rf hl
  intro pc lv hd H locs ls hP hS _
  exact W.iret hx hb hr (fun t ht hW => ⟨⟨r, ν, rfl, ⟨rfl, rfl⟩, by show PW g ν t.heap; rw [ht]; exact hP⟩, hS.F ht⟩) hS.2.2 hd
theorem mk_l {y : MethodName} {yc : ByteArray} {maxL N : Nat} {av : List Value} {μ0 ν : Mem} {r : Int64} (hy : plainName y.cls = true) (hav : (lg_sl av).length ≤ maxL) (body : ∀ G, CX g G yc y.cls maxL N → (∀ pc lv, decode yc pc = .ok (.lreturn, 1) → G pc lv [.long r] ν) → G 0 (lv_args 0 av) [] μ0) : CL g y yc maxL (some .long) N av μ0 r ν := by
  refine Met.ofW (cc := yc) (maxL := maxL) (ret := some .long) hy rfl ?_
  intro p e s m args below meth c s₁ B hml hv
  obtain ⟨rfl, hP0, hK, hT, hO⟩ := hv
  have hx := B.exec
  have hb := B.bytes
  have hr := B.returns
  have hts := atoms_spec (ws := Cond.code y yc maxL (some .long) :: TB) B.pre
  have hown : s.vm.findClass y.cls = some m.cls := findClass_of_methodNamed B.named
  have hlocks := B.notSynchronized
  have hl := lv_entry av (n := maxL) hav
  rw [lg_entry_eq]
  refine body _ ⟨p, e, RM N, s, m, _, below, meth, c, 0, 0, _, rfl, hx, hb, hml, hown, fun w hw => hts w (List.mem_cons_of_mem _ hw), hK, hT, hO, Nat.le_refl _, Nat.le_refl _, Nat.le_refl _, Nat.le_refl _⟩ ?_ s.heap [] _ hP0 va_S.rf hl
  intro pc lv hd H locs ls hP hS _
  exact W.lret hx hb hr (fun t ht hW => ⟨⟨r, ν, rfl, ⟨rfl, rfl⟩, by show PW g ν t.heap; rw [ht]; exact hP⟩, hS.F ht⟩) hS.2.2 hd
theorem mk_v {y : MethodName} {yc : ByteArray} {maxL N : Nat} {av : List Value} {μ0 ν : Mem} (hy : plainName y.cls = true) (hav : (lg_sl av).length ≤ maxL) (body : ∀ G, CX g G yc y.cls maxL N → (∀ pc lv, decode yc pc = .ok (.return_, 1) → G pc lv [] ν) → G 0 (lv_args 0 av) [] μ0) : CV g y yc maxL (none) N av μ0 ν := by
  refine Met.ofW (cc := yc) (maxL := maxL) (ret := none) hy rfl ?_
  intro p e s m args below meth c s₁ B hml hv
  obtain ⟨rfl, hP0, hK, hT, hO⟩ := hv
  have hx := B.exec
  have hb := B.bytes
  have hr := B.returns
  have hts := atoms_spec (ws := Cond.code y yc maxL (none) :: TB) B.pre
  have hown : s.vm.findClass y.cls = some m.cls := findClass_of_methodNamed B.named
  have hlocks := B.notSynchronized
  have hl := lv_entry av (n := maxL) hav
  rw [lg_entry_eq]
  refine body _ ⟨p, e, RM N, s, m, _, below, meth, c, 0, 0, _, rfl, hx, hb, hml, hown, fun w hw => hts w (List.mem_cons_of_mem _ hw), hK, hT, hO, Nat.le_refl _, Nat.le_refl _, Nat.le_refl _, Nat.le_refl _⟩ ?_ s.heap [] _ hP0 va_S.rf hl
  intro pc lv hd H locs ls hP hS _
  exact W.vret hx hb hr (fun t ht hW => ⟨⟨ν, rfl, rfl, by show PW g ν t.heap; rw [ht]; exact hP⟩, hS.F ht⟩) hS.2.2 hd
theorem mk_z {y : MethodName} {yc : ByteArray} {maxL N : Nat} {av : List Value} {μ0 ν : Mem} {r : Int32} (hy : plainName y.cls = true) (hav : (lg_sl av).length ≤ maxL) (body : ∀ G, CX g G yc y.cls maxL N → (∀ pc lv, decode yc pc = .ok (.ireturn, 1) → (r = 0 ∨ r = 1) → G pc lv [.int r] ν) → G 0 (lv_args 0 av) [] μ0) : CI g y yc maxL (some .boolean) N av μ0 r ν := by
  refine Met.ofW (cc := yc) (maxL := maxL) (ret := some .boolean) hy rfl ?_
  intro p e s m args below meth c s₁ B hml hv
  obtain ⟨rfl, hP0, hK, hT, hO⟩ := hv
  have hx := B.exec
  have hb := B.bytes
  have hr := B.returns
  have hts := atoms_spec (ws := Cond.code y yc maxL (some .boolean) :: TB) B.pre
  have hown : s.vm.findClass y.cls = some m.cls := findClass_of_methodNamed B.named
  have hlocks := B.notSynchronized
  have hl := lv_entry av (n := maxL) hav
  rw [lg_entry_eq]
  refine body _ ⟨p, e, RM N, s, m, _, below, meth, c, 0, 0, _, rfl, hx, hb, hml, hown, fun w hw => hts w (List.mem_cons_of_mem _ hw), hK, hT, hO, Nat.le_refl _, Nat.le_refl _, Nat.le_refl _, Nat.le_refl _⟩ ?_ s.heap [] _ hP0 va_S.rf hl
  intro pc lv hd hzz H locs ls hP hS _
  exact W.zret hx hb hr (zK hzz) (fun t ht hW => ⟨⟨r, ν, rfl, ⟨rfl, rfl⟩, by show PW g ν t.heap; rw [ht]; exact hP⟩, hS.F ht⟩) hS.2.2 hd
end SIMR
end
section
theorem tyd_0_1 : ∀ k, k < 121 → tyOf k = 0 → tyOf (k + 1) = 3 ∧ lenOf (k + 1) = 0 := by decide +kernel
theorem ty_0_1 {k : Nat} (h : tyOf k = 0) : tyOf (k + 1) = 3 ∧ lenOf (k + 1) = 0 := tyd_0_1 k (ty_lt (by omega)) h
theorem tyd_0_2 : ∀ k, k < 121 → tyOf k = 0 → tyOf (k + 2) = 11 ∧ lenOf (k + 2) = 10 := by decide +kernel
theorem ty_0_2 {k : Nat} (h : tyOf k = 0) : tyOf (k + 2) = 11 ∧ lenOf (k + 2) = 10 := tyd_0_2 k (ty_lt (by omega)) h
theorem tyd_0_3 : ∀ k, k < 121 → tyOf k = 0 → tyOf (k + 3) = 11 ∧ lenOf (k + 3) = 10 := by decide +kernel
theorem ty_0_3 {k : Nat} (h : tyOf k = 0) : tyOf (k + 3) = 11 ∧ lenOf (k + 3) = 10 := tyd_0_3 k (ty_lt (by omega)) h
theorem tyd_0_4 : ∀ k, k < 121 → tyOf k = 0 → tyOf (k + 4) = 11 ∧ lenOf (k + 4) = 10 := by decide +kernel
theorem ty_0_4 {k : Nat} (h : tyOf k = 0) : tyOf (k + 4) = 11 ∧ lenOf (k + 4) = 10 := tyd_0_4 k (ty_lt (by omega)) h
theorem tyd_0_6 : ∀ k, k < 121 → tyOf k = 0 → tyOf (k + 6) = 6 ∧ lenOf (k + 6) = 0 := by decide +kernel
theorem ty_0_6 {k : Nat} (h : tyOf k = 0) : tyOf (k + 6) = 6 ∧ lenOf (k + 6) = 0 := tyd_0_6 k (ty_lt (by omega)) h
theorem tyd_0_7 : ∀ k, k < 121 → tyOf k = 0 → tyOf (k + 7) = 11 ∧ lenOf (k + 7) = 10 := by decide +kernel
theorem ty_0_7 {k : Nat} (h : tyOf k = 0) : tyOf (k + 7) = 11 ∧ lenOf (k + 7) = 10 := tyd_0_7 k (ty_lt (by omega)) h
theorem tyd_0_8 : ∀ k, k < 121 → tyOf k = 0 → tyOf (k + 8) = 11 ∧ lenOf (k + 8) = 10 := by decide +kernel
theorem ty_0_8 {k : Nat} (h : tyOf k = 0) : tyOf (k + 8) = 11 ∧ lenOf (k + 8) = 10 := tyd_0_8 k (ty_lt (by omega)) h
theorem tyd_0_9 : ∀ k, k < 121 → tyOf k = 0 → tyOf (k + 9) = 5 ∧ lenOf (k + 9) = 0 := by decide +kernel
theorem ty_0_9 {k : Nat} (h : tyOf k = 0) : tyOf (k + 9) = 5 ∧ lenOf (k + 9) = 0 := tyd_0_9 k (ty_lt (by omega)) h
theorem tyd_0_12 : ∀ k, k < 121 → tyOf k = 0 → tyOf (k + 12) = 11 ∧ lenOf (k + 12) = 5 := by decide +kernel
theorem ty_0_12 {k : Nat} (h : tyOf k = 0) : tyOf (k + 12) = 11 ∧ lenOf (k + 12) = 5 := tyd_0_12 k (ty_lt (by omega)) h
theorem tyd_0_13 : ∀ k, k < 121 → tyOf k = 0 → tyOf (k + 13) = 11 ∧ lenOf (k + 13) = 3 := by decide +kernel
theorem ty_0_13 {k : Nat} (h : tyOf k = 0) : tyOf (k + 13) = 11 ∧ lenOf (k + 13) = 3 := tyd_0_13 k (ty_lt (by omega)) h
theorem tyd_3_1 : ∀ k, k < 121 → tyOf k = 3 → tyOf (k + 1) = 11 ∧ lenOf (k + 1) = 10 := by decide +kernel
theorem ty_3_1 {k : Nat} (h : tyOf k = 3) : tyOf (k + 1) = 11 ∧ lenOf (k + 1) = 10 := tyd_3_1 k (ty_lt (by omega)) h
theorem tyd_3_2 : ∀ k, k < 121 → tyOf k = 3 → tyOf (k + 2) = 11 ∧ lenOf (k + 2) = 10 := by decide +kernel
theorem ty_3_2 {k : Nat} (h : tyOf k = 3) : tyOf (k + 2) = 11 ∧ lenOf (k + 2) = 10 := tyd_3_2 k (ty_lt (by omega)) h
theorem tyd_3_3 : ∀ k, k < 121 → tyOf k = 3 → tyOf (k + 3) = 11 ∧ lenOf (k + 3) = 10 := by decide +kernel
theorem ty_3_3 {k : Nat} (h : tyOf k = 3) : tyOf (k + 3) = 11 ∧ lenOf (k + 3) = 10 := tyd_3_3 k (ty_lt (by omega)) h
theorem tyd_3_4 : ∀ k, k < 121 → tyOf k = 3 → tyOf (k + 4) = 11 ∧ lenOf (k + 4) = 5 := by decide +kernel
theorem ty_3_4 {k : Nat} (h : tyOf k = 3) : tyOf (k + 4) = 11 ∧ lenOf (k + 4) = 5 := tyd_3_4 k (ty_lt (by omega)) h
theorem tyd_5_1 : ∀ k, k < 121 → tyOf k = 5 → tyOf (k + 1) = 11 ∧ lenOf (k + 1) = 10 := by decide +kernel
theorem ty_5_1 {k : Nat} (h : tyOf k = 5) : tyOf (k + 1) = 11 ∧ lenOf (k + 1) = 10 := tyd_5_1 k (ty_lt (by omega)) h
theorem tyd_5_2 : ∀ k, k < 121 → tyOf k = 5 → tyOf (k + 2) = 11 ∧ lenOf (k + 2) = 100 := by decide +kernel
theorem ty_5_2 {k : Nat} (h : tyOf k = 5) : tyOf (k + 2) = 11 ∧ lenOf (k + 2) = 100 := tyd_5_2 k (ty_lt (by omega)) h
theorem tyd_6_1 : ∀ k, k < 121 → tyOf k = 6 → tyOf (k + 1) = 11 ∧ lenOf (k + 1) = 10 := by decide +kernel
theorem ty_6_1 {k : Nat} (h : tyOf k = 6) : tyOf (k + 1) = 11 ∧ lenOf (k + 1) = 10 := tyd_6_1 k (ty_lt (by omega)) h
theorem tyd_6_2 : ∀ k, k < 121 → tyOf k = 6 → tyOf (k + 2) = 11 ∧ lenOf (k + 2) = 10 := by decide +kernel
theorem ty_6_2 {k : Nat} (h : tyOf k = 6) : tyOf (k + 2) = 11 ∧ lenOf (k + 2) = 10 := tyd_6_2 k (ty_lt (by omega)) h
theorem hc0 : ∃ T N, clX[0]? = some (RX0, T, N) := ⟨_, _, rfl⟩
theorem hc1 : ∃ T N, clX[1]? = some (RX1, T, N) := ⟨_, _, rfl⟩
theorem hc2 : ∃ T N, clX[2]? = some (RX2, T, N) := ⟨_, _, rfl⟩
theorem hc3 : ∃ T N, clX[3]? = some (RX3, T, N) := ⟨_, _, rfl⟩
theorem hc4 : ∃ T N, clX[4]? = some (RX5, T, N) := ⟨_, _, rfl⟩
theorem hc5 : ∃ T N, clX[5]? = some (RX6, T, N) := ⟨_, _, rfl⟩
theorem hc6 : ∃ T N, clX[6]? = some (RX7, T, N) := ⟨_, _, rfl⟩
theorem hc7 : ∃ T N, clX[7]? = some (RX8, T, N) := ⟨_, _, rfl⟩
theorem hc8 : ∃ T N, clX[8]? = some (RX9, T, N) := ⟨_, _, rfl⟩
theorem hc9 : ∃ T N, clX[9]? = some (RX10, T, N) := ⟨_, _, rfl⟩
theorem hc10 : ∃ T N, clX[10]? = some (RX11, T, N) := ⟨_, _, rfl⟩
theorem kcJ6_265 : Cond.constant RJ6 265 1431655765 ∈ TB := tb 804 (by decide +kernel) (by decide)
theorem kcJ6_266 : Cond.constant RJ6 266 858993459 ∈ TB := tb 805 (by decide +kernel) (by decide)
theorem kcJ6_267 : Cond.constant RJ6 267 252645135 ∈ TB := tb 806 (by decide +kernel) (by decide)
theorem kcX10_292 : Cond.constant RX10 292 999999 ∈ TB := tb 895 (by decide +kernel) (by decide)
theorem kcX11_216 : Cond.constant RX11 216 1000000 ∈ TB := tb 1196 (by decide +kernel) (by decide)
theorem kcX11_281 : Cond.constant RX11 281 (-100000) ∈ TB := tb 1310 (by decide +kernel) (by decide)
theorem klX0_119 : Cond.constantLong RX0 119 31 ∈ TB := tb 936 (by decide +kernel) (by decide)
theorem klX10_293 : Cond.constantLong RX10 293 1103515245 ∈ TB := tb 896 (by decide +kernel) (by decide)
theorem klX10_295 : Cond.constantLong RX10 295 12345 ∈ TB := tb 897 (by decide +kernel) (by decide)
theorem klX10_297 : Cond.constantLong RX10 297 2147483648 ∈ TB := tb 898 (by decide +kernel) (by decide)
theorem klX10_299 : Cond.constantLong RX10 299 65536 ∈ TB := tb 899 (by decide +kernel) (by decide)
theorem klX10_301 : Cond.constantLong RX10 301 10 ∈ TB := tb 900 (by decide +kernel) (by decide)
theorem klX10_306 : Cond.constantLong RX10 306 (-100000) ∈ TB := tb 905 (by decide +kernel) (by decide)
theorem klX10_311 : Cond.constantLong RX10 311 853 ∈ TB := tb 930 (by decide +kernel) (by decide)
theorem klX10_313 : Cond.constantLong RX10 313 31 ∈ TB := tb 931 (by decide +kernel) (by decide)
theorem klX11_59 : Cond.constantLong RX11 59 5 ∈ TB := tb 1012 (by decide +kernel) (by decide)
theorem klX11_65 : Cond.constantLong RX11 65 99 ∈ TB := tb 1032 (by decide +kernel) (by decide)
theorem klX11_82 : Cond.constantLong RX11 82 9 ∈ TB := tb 1069 (by decide +kernel) (by decide)
theorem klX11_84 : Cond.constantLong RX11 84 10 ∈ TB := tb 1074 (by decide +kernel) (by decide)
theorem klX11_90 : Cond.constantLong RX11 90 127 ∈ TB := tb 1091 (by decide +kernel) (by decide)
theorem klX11_99 : Cond.constantLong RX11 99 117095065 ∈ TB := tb 1117 (by decide +kernel) (by decide)
theorem klX11_101 : Cond.constantLong RX11 101 12788 ∈ TB := tb 1118 (by decide +kernel) (by decide)
theorem klX11_103 : Cond.constantLong RX11 103 254271112 ∈ TB := tb 1119 (by decide +kernel) (by decide)
theorem klX11_105 : Cond.constantLong RX11 105 3554980 ∈ TB := tb 1120 (by decide +kernel) (by decide)
theorem klX11_107 : Cond.constantLong RX11 107 605220 ∈ TB := tb 1121 (by decide +kernel) (by decide)
theorem klX11_109 : Cond.constantLong RX11 109 8029764 ∈ TB := tb 1122 (by decide +kernel) (by decide)
theorem klX11_120 : Cond.constantLong RX11 120 32 ∈ TB := tb 1112 (by decide +kernel) (by decide)
theorem klX11_122 : Cond.constantLong RX11 122 97 ∈ TB := tb 1113 (by decide +kernel) (by decide)
theorem klX11_194 : Cond.constantLong RX11 194 4 ∈ TB := tb 1178 (by decide +kernel) (by decide)
theorem klX11_214 : Cond.constantLong RX11 214 2 ∈ TB := tb 1195 (by decide +kernel) (by decide)
theorem klX11_263 : Cond.constantLong RX11 263 40 ∈ TB := tb 1285 (by decide +kernel) (by decide)
theorem klX11_265 : Cond.constantLong RX11 265 999 ∈ TB := tb 1290 (by decide +kernel) (by decide)
theorem klX11_267 : Cond.constantLong RX11 267 3 ∈ TB := tb 1295 (by decide +kernel) (by decide)
theorem klX11_269 : Cond.constantLong RX11 269 60 ∈ TB := tb 1300 (by decide +kernel) (by decide)
theorem klX11_271 : Cond.constantLong RX11 271 999999 ∈ TB := tb 1301 (by decide +kernel) (by decide)
theorem klX11_273 : Cond.constantLong RX11 273 1103515245 ∈ TB := tb 1302 (by decide +kernel) (by decide)
theorem klX11_275 : Cond.constantLong RX11 275 12345 ∈ TB := tb 1303 (by decide +kernel) (by decide)
theorem klX11_277 : Cond.constantLong RX11 277 2147483648 ∈ TB := tb 1304 (by decide +kernel) (by decide)
theorem klX11_279 : Cond.constantLong RX11 279 65536 ∈ TB := tb 1305 (by decide +kernel) (by decide)
theorem klX11_282 : Cond.constantLong RX11 282 6 ∈ TB := tb 1327 (by decide +kernel) (by decide)
theorem klX11_287 : Cond.constantLong RX11 287 31 ∈ TB := tb 1337 (by decide +kernel) (by decide)
theorem klX11_289 : Cond.constantLong RX11 289 853 ∈ TB := tb 1336 (by decide +kernel) (by decide)
theorem klX9_46 : Cond.constantLong RX9 46 10 ∈ TB := tb 741 (by decide +kernel) (by decide)
theorem ksX10_272 : Cond.fieldLink RX10 272 "DragonTithe" "FACTORIALS" "[I" ∈ TB := tb 854 (by decide +kernel) (by decide)
theorem ksX8_48 : Cond.fieldLink RX8 48 "DragonTithe$Scroll" "NUMBERS_BEHIND" "[I" ∈ TB := tb 565 (by decide +kernel) (by decide)
theorem skJ0_checkIndex_df160 : SKx yJ0_checkIndex_df160 := tb 527 (by decide +kernel) (by decide)
theorem skJ1_charAt_3b067 : SKx yJ1_charAt_3b067 := tb 524 (by decide +kernel) (by decide)
theorem skJ3_checkIndex_8e157 : SKx yJ3_checkIndex_8e157 := tb 532 (by decide +kernel) (by decide)
theorem skJ6_bitCount_0f7a4 : SKx yJ6_bitCount_0f7a4 := tb 802 (by decide +kernel) (by decide)
theorem skX10_commonDivisor : SKx yX10_commonDivisor := tb 755 (by decide +kernel) (by decide)
theorem skX10_ordersWith : SKx yX10_ordersWith := tb 852 (by decide +kernel) (by decide)
theorem skX11_bits : SKx yX11_bits := tb 1257 (by decide +kernel) (by decide)
theorem skX11_divisor : SKx yX11_divisor := tb 1226 (by decide +kernel) (by decide)
theorem skX11_in : SKx yX11_in := tb 1014 (by decide +kernel) (by decide)
theorem skX11_loss : SKx yX11_loss := tb 1268 (by decide +kernel) (by decide)
theorem skX11_numbers : SKx yX11_numbers := tb 1124 (by decide +kernel) (by decide)
theorem skX11_orders : SKx yX11_orders := tb 1279 (by decide +kernel) (by decide)
theorem skX11_seenOf : SKx yX11_seenOf := tb 1165 (by decide +kernel) (by decide)
theorem skX11_takenOf : SKx yX11_takenOf := tb 1168 (by decide +kernel) (by decide)
theorem skX11_verbOf : SKx yX11_verbOf := tb 1115 (by decide +kernel) (by decide)
theorem skX3_greatestIn : SKx yX3_greatestIn := tb 627 (by decide +kernel) (by decide)
theorem skX4_grows : SKx yX4_grows := tb 648 (by decide +kernel) (by decide)
theorem skX4_seen : SKx yX4_seen := tb 620 (by decide +kernel) (by decide)
theorem skX4_taken : SKx yX4_taken := tb 638 (by decide +kernel) (by decide)
theorem skX8_nameOf : SKx yX8_nameOf := tb 493 (by decide +kernel) (by decide)
theorem kw_copy : Cond.native arraycopyName ∈ TB ∧ Cond.static arraycopyName ∈ TB ∧ Cond.initialized "java/lang/System" ∈ TB := ⟨tb 406 (by decide +kernel) (by decide), tb 405 (by decide +kernel) (by decide), tb 12 (by decide +kernel) (by decide)⟩
theorem kfJ0_9 : Cond.fieldLink RJ0 9 "java/lang/String" "value" "[B" ∈ TB := tb 1342 (by decide +kernel) (by decide)
theorem kfJ0_15 : Cond.fieldLink RJ0 15 "java/lang/String" "coder" "B" ∈ TB := tb 1343 (by decide +kernel) (by decide)
theorem kfJ0_38 : Cond.fieldLink RJ0 38 "java/lang/String" "COMPACT_STRINGS" "Z" ∈ TB := tb 513 (by decide +kernel) (by decide)
theorem kfJ0_1053 : Cond.fieldLink RJ0 1053 "jdk/internal/util/Preconditions" "SIOOBE_FORMATTER" "Ljava/util/function/BiFunction;" ∈ TB := tb 529 (by decide +kernel) (by decide)
def rfV (g : GT) (k : Nat) : Value := .ref (gV g k)
def SCH (w j : Nat) : Int32 := (SBYT.getD w []).getD j 0
def ckN {α : Type} (y : Int32) (x : Option α) : Option α := if (y.toUInt32 % 65536).toInt32 = y then x else none
section SIMS
variable {g : GT} {G : GP} {cc : ByteArray} {own : String} {nL n : Nat} {α : Type} {Pr : Option α} {K : α → Prop} {pc : Nat} {lv : LV} {st : List Value} {μ : Mem}
theorem s_none : Sim G (none : Option α) K pc lv st μ := fun a h => by cases h
theorem s_ckN {y : Int32} (k : (y.toUInt32 % 65536).toInt32 = y → Sim G Pr K pc lv st μ) : Sim G (ckN y Pr) K pc lv st μ := by
  intro a h1 h2
  unfold ckN at h1
  by_cases hy : (y.toUInt32 % 65536).toInt32 = y
  · rw [if_pos hy] at h1; exact k hy a h1 h2
  · rw [if_neg hy] at h1; cases h1
theorem nByte {r : Int32} (h : r = 0 ∨ r = 1) : narrow .byte (.int r) = .int r := by rcases h with rfl | rfl <;> rfl
theorem nChar {r : Int32} (h : (r.toUInt32 % 65536).toInt32 = r) : narrow .char (.int r) = .int r := by
  have := pk_nc r
  rwa [h] at this
theorem s_nretr {β : Type} {inj : Int32 → β} {K : β → Prop} {r0 v : Int32} {ty : FieldType} (hv : narrow ty (.int v) = .int v) (hK : ∀ r, K (inj r) → r = r0) (hR : ∀ pc lv, decode cc pc = .ok (.ireturn, 1) → narrow ty (.int r0) = .int r0 → G pc lv [.int r0] μ) (hd : decode cc pc = .ok (.ireturn, 1)) : Sim G (some (inj v)) K pc lv [.int v] μ := fun a h1 h2 => by
  cases h1
  cases hK _ h2
  exact hR _ _ hd hv
theorem s_vretr {β : Type} {inj : Unit → β} {K : β → Prop} (hK : ∀ r, K (inj r) → r = ()) (hR : ∀ pc lv, decode cc pc = .ok (.return_, 1) → G pc lv [] μ) (hd : decode cc pc = .ok (.return_, 1)) : Sim G (some (inj ())) K pc lv [] μ := fun a h1 h2 => hR _ _ hd
def CS (g : GT) (y : MethodName) (cc : ByteArray) (maxL : Nat) (ret : Option FieldType) (n : Nat) (av : List Value) (μ : Mem) (r : Nat) (ν : Mem) : Prop := Mt g y cc maxL ret n av μ (va_Qr (fun u => u = ν ∧ r < 6) (fun u a t => a = gK g r ∧ PB g u t) (gA g))
theorem s_Sret {β : Type} {inj : Nat → β} {K : β → Prop} {r0 v : Nat} (hv : v < 6) (hK : ∀ r, K (inj r) → r = r0) (hR : ∀ pc lv, decode cc pc = .ok (.areturn, 1) → r0 < 6 → G pc lv [rfS g r0] μ) (hd : decode cc pc = .ok (.areturn, 1)) : Sim G (some (inj v)) K pc lv [rfS g v] μ := fun a h1 h2 => by
  cases h1
  cases hK _ h2
  exact hR _ _ hd hv
theorem mk_n {y : MethodName} {yc : ByteArray} {maxL N : Nat} {av : List Value} {μ0 ν : Mem} {r : Int32} {ty : FieldType} (hy : plainName y.cls = true) (hav : (lg_sl av).length ≤ maxL) (body : ∀ G, CX g G yc y.cls maxL N → (∀ pc lv, decode yc pc = .ok (.ireturn, 1) → narrow ty (.int r) = .int r → G pc lv [.int r] ν) → G 0 (lv_args 0 av) [] μ0) : CI g y yc maxL (some ty) N av μ0 r ν := by
  refine Met.ofW (cc := yc) (maxL := maxL) (ret := some ty) hy rfl ?_
  intro p e s m args below meth c s₁ B hml hv
  obtain ⟨rfl, hP0, hK, hT, hO⟩ := hv
  have hx := B.exec
  have hb := B.bytes
  have hr := B.returns
  have hts := atoms_spec (ws := Cond.code y yc maxL (some ty) :: TB) B.pre
  have hown : s.vm.findClass y.cls = some m.cls := findClass_of_methodNamed B.named
  have hlocks := B.notSynchronized
  have hl := lv_entry av (n := maxL) hav
  rw [lg_entry_eq]
  refine body _ ⟨p, e, RM N, s, m, _, below, meth, c, 0, 0, _, rfl, hx, hb, hml, hown, fun w hw => hts w (List.mem_cons_of_mem _ hw), hK, hT, hO, Nat.le_refl _, Nat.le_refl _, Nat.le_refl _, Nat.le_refl _⟩ ?_ s.heap [] _ hP0 va_S.rf hl
  intro pc lv hd hzz H locs ls hP hS _
  exact W.zret hx hb hr hzz (fun t ht hW => ⟨⟨r, ν, rfl, ⟨rfl, rfl⟩, by show PW g ν t.heap; rw [ht]; exact hP⟩, hS.F ht⟩) hS.2.2 hd
theorem mk_S {y : MethodName} {yc : ByteArray} {maxL N : Nat} {av : List Value} {μ0 ν : Mem} {r : Nat} (hy : plainName y.cls = true) (hav : (lg_sl av).length ≤ maxL) (body : ∀ G, CX g G yc y.cls maxL N → (∀ pc lv, decode yc pc = .ok (.areturn, 1) → r < 6 → G pc lv [rfS g r] ν) → G 0 (lv_args 0 av) [] μ0) : CS g y yc maxL (some (.object "java/lang/String")) N av μ0 r ν := by
  refine Met.ofW (cc := yc) (maxL := maxL) (ret := some (.object "java/lang/String")) hy rfl ?_
  intro p e s m args below meth c s₁ B hml hv
  obtain ⟨rfl, hP0, hK, hT, hO⟩ := hv
  have hx := B.exec
  have hb := B.bytes
  have hr := B.returns
  have hts := atoms_spec (ws := Cond.code y yc maxL (some (.object "java/lang/String")) :: TB) B.pre
  have hown : s.vm.findClass y.cls = some m.cls := findClass_of_methodNamed B.named
  have hlocks := B.notSynchronized
  have hl := lv_entry av (n := maxL) hav
  rw [lg_entry_eq]
  refine body _ ⟨p, e, RM N, s, m, _, below, meth, c, 0, 0, _, rfl, hx, hb, hml, hown, fun w hw => hts w (List.mem_cons_of_mem _ hw), hK, hT, hO, Nat.le_refl _, Nat.le_refl _, Nat.le_refl _, Nat.le_refl _⟩ ?_ s.heap [] _ hP0 va_S.rf hl
  intro pc lv hd hzz H locs ls hP hS _
  exact W.aret (v := rfS g r) hx hb hr (Or.inl ⟨_, rfl⟩) (Or.inr ⟨_, rfl⟩) (fun t ht hW => ⟨⟨ν, gK g r, rfl, ⟨rfl, hzz⟩, rfl, by show PW g ν t.heap; rw [ht]; exact hP⟩, hS.F ht⟩) hS.2.2 hd
theorem s_Vload_n (hX : CX g G cc own nL n) {q : Fin 4} {i : Nat} {x : Nat} (hd : decode cc pc = .ok (.aload_n q, 1)) (hi : (q : Nat) = i) (k0 : Nat) (h0 : lv[k0]? = some (i, rfV g x)) (k : Sim G Pr K (pc + 1) lv (rfV g x :: st) μ) : Sim G Pr K pc lv (st) μ := by
  obtain ⟨p, e, R, s, m, args, below, meth, c, cells, slots, Q, rfl, hx, hb, hml, hown, hts, hK, hT, hO, hn1, hn2, hn3, hn4⟩ := hX
  exact fun a h1 h2 H locs ls hP hS hl => lv_aload_n hx hb hd hi (lv_at hl k0 h0) (k a h1 h2 H locs ls hP hS hl)
theorem s_ldcS (w : Nat) (hX : CX g G cc "DragonTithe$Scroll" nL n) (hd : decode cc pc = .ok (.ldc (80 + 2 * w), 2)) (hw : w < 6) (k : Sim G Pr K (pc + 2) lv (rfS g w :: st) μ) : Sim G Pr K pc lv st μ := by
  obtain ⟨p, e, R, s, m, args, below, meth, c, cells, slots, Q, rfl, hx, hb, hml, hown, hts, hK, hT, hO, hn1, hn2, hn3, hn4⟩ := hX
  exact fun a h1 h2 H locs ls hP hS hl => va_ldcS hx hb hown (hT.2.2.2.1 w hw) hd (k a h1 h2 H locs ls hP hS hl)
theorem s_getSv (hX : CX g G cc own nL n) {w idx : Nat} (hw : w < 6) (hk : Cond.fieldLink own idx "java/lang/String" "value" "[B" ∈ TB) (hd : decode cc pc = .ok (.getfield idx, 3)) (k : Sim G Pr K (pc + 3) lv (rfV g w :: st) μ) : Sim G Pr K pc lv (rfS g w :: st) μ := by
  obtain ⟨p, e, R, s, m, args, below, meth, c, cells, slots, Q, rfl, hx, hb, hml, hown, hts, hK, hT, hO, hn1, hn2, hn3, hn4⟩ := hX
  intro a h1 h2 H locs ls hP hS hl
  obtain ⟨cf, kc, fi, f, cell, q1, q2, q3, q4, q5, q6⟩ := ((hT.2.2.1.1 w hw).2.2.1).kept hS.2.1
  exact W.getf hx hb hown (hts _ hk) q1 q2 q3 q4 (v := rfV g w) q5 rfl rfl hd (k a h1 h2 H locs ls hP hS hl)
theorem s_getSc (hX : CX g G cc own nL n) {w idx : Nat} (hw : w < 6) (hk : Cond.fieldLink own idx "java/lang/String" "coder" "B" ∈ TB) (hd : decode cc pc = .ok (.getfield idx, 3)) (k : Sim G Pr K (pc + 3) lv (.int 0 :: st) μ) : Sim G Pr K pc lv (rfS g w :: st) μ := by
  obtain ⟨p, e, R, s, m, args, below, meth, c, cells, slots, Q, rfl, hx, hb, hml, hown, hts, hK, hT, hO, hn1, hn2, hn3, hn4⟩ := hX
  intro a h1 h2 H locs ls hP hS hl
  obtain ⟨cf, kc, fi, f, cell, q1, q2, q3, q4, q5, q6⟩ := ((hT.2.2.1.1 w hw).2.1).kept hS.2.1
  exact W.getf hx hb hown (hts _ hk) q1 q2 q3 q4 (v := .int 0) q5 rfl rfl hd (k a h1 h2 H locs ls hP hS hl)
theorem s_getsC (hX : CX g G cc own nL n) {idx : Nat} (hw : Cond.fieldLink own idx "java/lang/String" "COMPACT_STRINGS" "Z" ∈ TB) (hd : decode cc pc = .ok (.getstatic idx, 3)) (kk : Sim G Pr K (pc + 3) lv (.int 1 :: st) μ) : Sim G Pr K pc lv st μ := by
  obtain ⟨p, e, R, s, m, args, below, meth, c, cells, slots, Q, rfl, hx, hb, hml, hown, hts, hK, hT, hO, hn1, hn2, hn3, hn4⟩ := hX
  exact fun a h1 h2 H locs ls hP hS hl => va_gets hx hb hT.2.2.2.2.1 hS hown (hts _ hw) (fun _ h => h) hd (kk a h1 h2 H locs ls hP hS hl)
theorem s_getsF (hX : CX g G cc own nL n) {idx : Nat} (hw : Cond.fieldLink own idx "jdk/internal/util/Preconditions" "SIOOBE_FORMATTER" "Ljava/util/function/BiFunction;" ∈ TB) (hd : decode cc pc = .ok (.getstatic idx, 3)) (kk : ∀ v : Value, (v = .null ∨ ∃ t, v = .ref t) → Sim G Pr K (pc + 3) lv (v :: st) μ) : Sim G Pr K pc lv st μ := by
  obtain ⟨p, e, R, s, m, args, below, meth, c, cells, slots, Q, rfl, hx, hb, hml, hown, hts, hK, hT, hO, hn1, hn2, hn3, hn4⟩ := hX
  intro a h1 h2 H locs ls hP hS hl
  rcases hT.2.2.2.2.2 with h | ⟨t, h⟩
  · exact va_gets hx hb h hS hown (hts _ hw) (fun _ h => h) hd (kk _ (Or.inl rfl) a h1 h2 H locs ls hP hS hl)
  · exact va_gets hx hb h hS hown (hts _ hw) (fun _ h => h) hd (kk _ (Or.inr ⟨t, rfl⟩) a h1 h2 H locs ls hP hS hl)
theorem s_vlen (hX : CX g G cc own nL n) {w : Nat} (hw : w < 6) (hd : decode cc pc = .ok (.arraylength, 1)) (kk : Sim G Pr K (pc + 1) lv (.int (Int32.ofNat (SLEN.getD w 0)) :: st) μ) : Sim G Pr K pc lv (rfV g w :: st) μ := by
  obtain ⟨p, e, R, s, m, args, below, meth, c, cells, slots, Q, rfl, hx, hb, hml, hown, hts, hK, hT, hO, hn1, hn2, hn3, hn4⟩ := hX
  exact fun a h1 h2 H locs ls hP hS hl => va_tlen hx hb (hT.2.2.1.1 w hw).2.2.2 hS rfl hd (kk a h1 h2 H locs ls hP hS hl)
theorem s_vald (hX : CX g G cc own nL n) {w : Nat} {i : Int32} (hw : w < 6) (hd : decode cc pc = .ok (.baload, 1)) (kk : Sim G Pr K (pc + 1) lv (.int (SCH w (ix i)) :: st) μ) : Sim G (chk i (SLEN.getD w 0) Pr) K pc lv (.int i :: rfV g w :: st) μ := by
  obtain ⟨p, e, R, s, m, args, below, meth, c, cells, slots, Q, rfl, hx, hb, hml, hown, hts, hK, hT, hO, hn1, hn2, hn3, hn4⟩ := hX
  intro a h1 h2
  unfold chk at h1
  by_cases hin : ¬ (i < 0 ∨ SLEN.getD w 0 ≤ ix i)
  · rw [if_pos hin] at h1
    exact fun H locs ls hP hS hl => va_tb hx hb (hT.2.2.1.1 w hw).2.2.2 hS hin rfl hd (kk a h1 h2 H locs ls hP hS hl)
  · rw [if_neg hin] at h1; cases h1
theorem s_callUir (hX : CX g G cc own nL n) {y : MethodName} {yc : ByteArray} {maxL idx n' : Nat} {ret : Option FieldType} {F : Option Int32} {f : Int32 → Option α} {st0 : List Value} (As : List Value) {w np : Nat} (hw : w < 6) (hv : VKx "java/lang/String" y) (hM : ∀ r, F = some r → CI g y yc maxL ret n' (rfS g w :: As) μ r μ) (hy : MKx y yc maxL ret np) (hc : CVx own idx y) (hn : As.length = np) (hst : st0 = As.reverse ++ rfS g w :: st) (hrm : n' + 1 ≤ n ∧ maxL ≤ 45 ∧ (st.map fun v => v.category).sum ≤ 8) (hd : decode cc pc = .ok (.invokevirtual idx, 3)) (kk : ∀ r, Sim G (f r) K (pc + 3) lv (.int r :: st) μ) : Sim G (bd F f) K pc lv st0 μ := by
  obtain ⟨p, e, R, s, m, args, below, meth, c, cells, slots, Q, rfl, hx, hb, hml, hown, hts, hK, hT, hO, hn1, hn2, hn3, hn4⟩ := hX
  obtain ⟨y1, y2, y3, y4⟩ := hy
  intro a h1 h2
  cases hF : F with
  | none => rw [hF] at h1; cases h1
  | some z =>
    rw [hF] at h1
    intro H locs ls hP hS hl
    subst hst
    have cb := callB_of (R := R) (rm := RM n') (mc := 0) (ms := 0) np hts (goodTB y1) rfl rfl rfl (hts _ y2) (hts _ hc) ⟨y3.1, y3.2, y4⟩ ⟨by show n' + 1 ≤ R.frames; omega, by show 8 + (maxL + 11) + 64 * n' ≤ R.locals; omega⟩
    have hrun := va_runV (As := As) (rest := st) (g := F0 m pc ls (As.reverse ++ rfS g w :: st)) (locs := locs) (cells := cells) (slots := slots) (below := below) (e := e) (meth := meth) ⟨hx, hb, hml, hown, hts⟩ (hM z hF) ⟨cb, hts _ hv.1, hts _ hv.2⟩ ⟨Wd.blind, va_Orecv (hT.2.2.1.1 w hw).1 hS, fun U hU hW => ⟨rfl, by show PW g μ U.heap; rw [hU]; exact hP, va_K.moved hW.alike hK, (Stt.warm hW hT).kept (fun q hq hA => by rw [hU]; exact hS.2.1 q hq hA), hO⟩⟩ rfl hn hl.1 rfl (lv_room hrm.2.2) hd ⟨by omega, by omega⟩
    refine va_calli hrun hS (fun q _ h => h) (fun q h => h) (fun r1 u t H1 locs1 ht hvm hw hB hz hk1 hS1 => ?_)
    obtain ⟨rfl, rfl⟩ := hw
    subst ht
    exact kk _ a h1 h2 _ locs1 ls hB hS1 hl
theorem s_callSvr (hX : CX g G cc own nL n) {y : MethodName} {yc : ByteArray} {maxL idx n' : Nat} {ret : Option FieldType} {F : Option Unit} {f : Unit → Option α} {st0 : List Value} (As : List Value) {np : Nat} (hv : SKx y) (hM : F = some () → CV g y yc maxL ret n' As μ μ) (hy : MKx y yc maxL ret np) (hc : CVx own idx y) (hn : As.length = np) (hst : st0 = As.reverse ++ st) (hrm : n' + 1 ≤ n ∧ maxL ≤ 45 ∧ (st.map fun v => v.category).sum ≤ 8) (hd : decode cc pc = .ok (.invokestatic idx, 3)) (kk : Sim G (f ()) K (pc + 3) lv st μ) : Sim G (bd F f) K pc lv st0 μ := by
  obtain ⟨p, e, R, s, m, args, below, meth, c, cells, slots, Q, rfl, hx, hb, hml, hown, hts, hK, hT, hO, hn1, hn2, hn3, hn4⟩ := hX
  obtain ⟨y1, y2, y3, y4⟩ := hy
  intro a h1 h2
  cases hF : F with
  | none => rw [hF] at h1; cases h1
  | some z =>
    rw [hF] at h1
    intro H locs ls hP hS hl
    subst hst
    have cb := callB_of (R := R) (rm := RM n') (mc := 0) (ms := 0) np hts (goodTB y1) rfl rfl rfl (hts _ y2) (hts _ hc) ⟨y3.1, y3.2, y4⟩ ⟨by show n' + 1 ≤ R.frames; omega, by show 8 + (maxL + 11) + 64 * n' ≤ R.locals; omega⟩
    have hrun := va_runS (As := As) (rest := st) (g := F0 m pc ls (As.reverse ++ st)) (locs := locs) (cells := cells) (slots := slots) (below := below) (e := e) (meth := meth) ⟨hx, hb, hml, hown, hts⟩ (hM hF) ⟨cb, hts _ hv⟩ ⟨Wd.blind, fun U hU hW => ⟨rfl, by show PW g μ U.heap; rw [hU]; exact hP, va_K.moved hW.alike hK, (Stt.warm hW hT).kept (fun q hq hA => by rw [hU]; exact hS.2.1 q hq hA), hO⟩⟩ rfl hn hl.1 rfl (lv_room hrm.2.2) hd ⟨by omega, by omega⟩
    refine va_callv hrun hS (fun q _ h => h) (fun q h => h) (fun u t H1 locs1 ht hvm hw hB hz hk1 hS1 => ?_)
    subst hw
    subst ht
    exact kk a h1 h2 _ locs1 ls hB hS1 hl
theorem s_callSSr (hX : CX g G cc own nL n) {y : MethodName} {yc : ByteArray} {maxL idx n' : Nat} {ret : Option FieldType} {F : Option Nat} {f : Nat → Option α} {st0 : List Value} (As : List Value) {np : Nat} (hv : SKx y) (hM : ∀ r, F = some r → CS g y yc maxL ret n' As μ r μ) (hy : MKx y yc maxL ret np) (hc : CVx own idx y) (hn : As.length = np) (hst : st0 = As.reverse ++ st) (hrm : n' + 1 ≤ n ∧ maxL ≤ 45 ∧ (st.map fun v => v.category).sum ≤ 8) (hd : decode cc pc = .ok (.invokestatic idx, 3)) (kk : ∀ r, r < 6 → Sim G (f r) K (pc + 3) lv (rfS g r :: st) μ) : Sim G (bd F f) K pc lv st0 μ := by
  obtain ⟨p, e, R, s, m, args, below, meth, c, cells, slots, Q, rfl, hx, hb, hml, hown, hts, hK, hT, hO, hn1, hn2, hn3, hn4⟩ := hX
  obtain ⟨y1, y2, y3, y4⟩ := hy
  intro a h1 h2
  cases hF : F with
  | none => rw [hF] at h1; cases h1
  | some z =>
    rw [hF] at h1
    intro H locs ls hP hS hl
    subst hst
    have cb := callB_of (R := R) (rm := RM n') (mc := 0) (ms := 0) np hts (goodTB y1) rfl rfl rfl (hts _ y2) (hts _ hc) ⟨y3.1, y3.2, y4⟩ ⟨by show n' + 1 ≤ R.frames; omega, by show 8 + (maxL + 11) + 64 * n' ≤ R.locals; omega⟩
    have hrun := va_runS (As := As) (rest := st) (g := F0 m pc ls (As.reverse ++ st)) (locs := locs) (cells := cells) (slots := slots) (below := below) (e := e) (meth := meth) ⟨hx, hb, hml, hown, hts⟩ (hM z hF) ⟨cb, hts _ hv⟩ ⟨Wd.blind, fun U hU hW => ⟨rfl, by show PW g μ U.heap; rw [hU]; exact hP, va_K.moved hW.alike hK, (Stt.warm hW hT).kept (fun q hq hA => by rw [hU]; exact hS.2.1 q hq hA), hO⟩⟩ rfl hn hl.1 rfl (lv_room hrm.2.2) hd ⟨by omega, by omega⟩
    refine va_callr hrun hS (fun q _ h => h) (fun q h => h) (fun u ra t H1 locs1 ht hvm hw hB hz hk1 hS1 => ?_)
    obtain ⟨rfl, hz6⟩ := hw
    obtain ⟨rfl, hB⟩ := hB
    subst ht
    exact kk _ hz6 a h1 h2 _ locs1 ls hB hS1 hl
theorem kw_min : Cond.static Lib.Math.min.name ∈ TB ∧ Cond.initialized "java/lang/Math" ∈ TB ∧ Cond.code Lib.Math.min.name Lib.Math.min.code 2 (some .int) ∈ TB := ⟨tb 641 (by decide +kernel) (by decide), tb 18 (by decide +kernel) (by decide), tb 642 (by decide +kernel) (by decide)⟩
theorem kw_abs : Cond.static Lib.MathLoose.abs_long.x ∈ TB ∧ Cond.initialized "java/lang/Math" ∈ TB ∧ Cond.code Lib.MathLoose.abs_long.x Lib.MathLoose.abs_long.code 2 (some .long) ∈ TB := ⟨tb 752 (by decide +kernel) (by decide), tb 18 (by decide +kernel) (by decide), tb 753 (by decide +kernel) (by decide)⟩
theorem s_min (hX : CX g G cc own nL n) {x y : Int32} {idx : Nat} (hc : CVx own idx Lib.Math.min.name) (hn : 1 ≤ n) (hs : (st.map fun v => v.category).sum ≤ 8) (hd : decode cc pc = .ok (.invokestatic idx, 3)) (k : Sim G Pr K (pc + 3) lv (.int (if y < x then y else x) :: st) μ) : Sim G Pr K pc lv (.int y :: .int x :: st) μ := by
  obtain ⟨p, e, R, s, m, args, below, meth, c, cells, slots, Q, rfl, hx, hb, hml, hown, hts, hK, hT, hO, hn1, hn2, hn3, hn4⟩ := hX
  exact fun a h1 h2 H locs ls hP hS hl => va_mmin hx hb (by rw [hml]; exact hl.1.symm) hown (hts _ hc) (hts _ kw_min.1) (hts _ kw_min.2.1) (hts _ kw_min.2.2) (by omega) (by omega) hn3 hn4 hd (k a h1 h2 H locs ls hP hS hl)
theorem s_abs (hX : CX g G cc own nL n) {x : Int64} {idx : Nat} (hc : CVx own idx Lib.MathLoose.abs_long.x) (hn : 1 ≤ n) (hs : (st.map fun v => v.category).sum ≤ 8) (hd : decode cc pc = .ok (.invokestatic idx, 3)) (k : Sim G Pr K (pc + 3) lv (.long (if 0 < x then x else -x) :: st) μ) : Sim G Pr K pc lv (.long x :: st) μ := by
  obtain ⟨p, e, R, s, m, args, below, meth, c, cells, slots, Q, rfl, hx, hb, hml, hown, hts, hK, hT, hO, hn1, hn2, hn3, hn4⟩ := hX
  exact fun a h1 h2 H locs ls hP hS hl => va_mabs_long hx hb (by rw [hml]; exact hl.1.symm) hown (hts _ hc) (hts _ kw_abs.1) (hts _ kw_abs.2.1) (hts _ kw_abs.2.2) (by omega) (by omega) hn3 hn4 hd (k a h1 h2 H locs ls hP hS hl)
end SIMS
end
section
theorem dJ0_coder_7d493_0 : decode cJ0_coder_7d493 0 = .ok (.getstatic 38, 3) := by decide +kernel
theorem dJ0_coder_7d493_3 : decode cJ0_coder_7d493 3 = .ok (.ifCond .eq 10, 3) := by decide +kernel
theorem dJ0_coder_7d493_6 : decode cJ0_coder_7d493 6 = .ok (.aload_n 0, 1) := by decide +kernel
theorem dJ0_coder_7d493_7 : decode cJ0_coder_7d493 7 = .ok (.getfield 15, 3) := by decide +kernel
theorem dJ0_coder_7d493_10 : decode cJ0_coder_7d493 10 = .ok (.goto 4, 3) := by decide +kernel
theorem dJ0_coder_7d493_13 : decode cJ0_coder_7d493 13 = .ok (.iconst 1, 1) := by decide +kernel
theorem dJ0_coder_7d493_14 : decode cJ0_coder_7d493 14 = .ok (.ireturn, 1) := by decide +kernel
noncomputable def f_J0_coder_7d493 (w0 : Nat) : Option Int32 :=
  jn (fun (y1 : Int32) =>
    ckB y1 (
      some y1
      )
    ) fun j2 =>
  if (1 : Int32) = 0 then
    j2 1
  else
    j2 0
set_option maxHeartbeats 4000000 in
set_option maxRecDepth 100000 in
theorem c_J0_coder_7d493 {g : GT} {w0 : Nat} {μ : Mem} {r0 : Int32} (hw0 : w0 < 6) (hf : f_J0_coder_7d493 w0 = some r0) : CI g yJ0_coder_7d493 cJ0_coder_7d493 1 (some .byte) 1 [rfS g w0] μ r0 μ := by
  refine mk_n (by decide) (Nat.le_of_ble_eq_true rfl) ?_
  intro G hX hR
  have hX : CX g G cJ0_coder_7d493 RJ0 1 1 := hX
  suffices S : ∀ K : Int32 → Prop, (∀ a, K a → a = r0) → Sim G (f_J0_coder_7d493 w0) K 0 [(0, rfS g w0)] [] μ from S (fun a => a = r0) (fun a h => h) _ hf rfl
  intro K hK
  unfold f_J0_coder_7d493
  refine s_getsC hX kfJ0_38 dJ0_coder_7d493_0 ?_
  refine s_jn (C := fun j => ∀ (y1 : Int32), Sim G (j y1) K 14 [] [.int y1] μ) ?_ (fun j2 hj2 => ?_)
  · intro y1
    show Sim G _ _ 14 [] [.int y1] μ
    refine s_ckB (fun hzb => ?_)
    exact s_nretr (nByte hzb) hK hR dJ0_coder_7d493_14
  refine s_if_eq hX 13 dJ0_coder_7d493_3 (by decide) ?_ ?_
  · refine s_iconst (v := 1) hX dJ0_coder_7d493_13 (by decide) ?_
    exact s_to hX [] rfl (hj2 1)
  · refine s_Sload_n hX dJ0_coder_7d493_6 rfl 0 rfl ?_
    refine s_getSc hX hw0 kfJ0_15 dJ0_coder_7d493_7 ?_
    refine s_goto hX 14 dJ0_coder_7d493_10 (by decide) ?_
    exact s_to hX [] rfl (hj2 0)
theorem dJ0_isLatin1_aae02_0 : decode cJ0_isLatin1_aae02 0 = .ok (.getstatic 38, 3) := by decide +kernel
theorem dJ0_isLatin1_aae02_3 : decode cJ0_isLatin1_aae02 3 = .ok (.ifCond .eq 14, 3) := by decide +kernel
theorem dJ0_isLatin1_aae02_6 : decode cJ0_isLatin1_aae02 6 = .ok (.aload_n 0, 1) := by decide +kernel
theorem dJ0_isLatin1_aae02_7 : decode cJ0_isLatin1_aae02 7 = .ok (.getfield 15, 3) := by decide +kernel
theorem dJ0_isLatin1_aae02_10 : decode cJ0_isLatin1_aae02 10 = .ok (.ifCond .ne 7, 3) := by decide +kernel
theorem dJ0_isLatin1_aae02_13 : decode cJ0_isLatin1_aae02 13 = .ok (.iconst 1, 1) := by decide +kernel
theorem dJ0_isLatin1_aae02_14 : decode cJ0_isLatin1_aae02 14 = .ok (.goto 4, 3) := by decide +kernel
theorem dJ0_isLatin1_aae02_17 : decode cJ0_isLatin1_aae02 17 = .ok (.iconst 0, 1) := by decide +kernel
theorem dJ0_isLatin1_aae02_18 : decode cJ0_isLatin1_aae02 18 = .ok (.ireturn, 1) := by decide +kernel
noncomputable def f_J0_isLatin1_aae02 (w0 : Nat) : Option Int32 :=
  jn (fun (y1 : Int32) =>
    ckB y1 (
      some y1
      )
    ) fun j2 =>
  jn (
    j2 0
    ) fun j3 =>
  if (1 : Int32) = 0 then
    j3
  else
    if (0 : Int32) = 0 then
      j2 1
    else
      j3
set_option maxHeartbeats 4000000 in
set_option maxRecDepth 100000 in
theorem c_J0_isLatin1_aae02 {g : GT} {w0 : Nat} {μ : Mem} {r0 : Int32} (hw0 : w0 < 6) (hf : f_J0_isLatin1_aae02 w0 = some r0) : CI g yJ0_isLatin1_aae02 cJ0_isLatin1_aae02 1 (some .boolean) 1 [rfS g w0] μ r0 μ := by
  refine mk_z (by decide) (Nat.le_of_ble_eq_true rfl) ?_
  intro G hX hR
  have hX : CX g G cJ0_isLatin1_aae02 RJ0 1 1 := hX
  suffices S : ∀ K : Int32 → Prop, (∀ a, K a → a = r0) → Sim G (f_J0_isLatin1_aae02 w0) K 0 [(0, rfS g w0)] [] μ from S (fun a => a = r0) (fun a h => h) _ hf rfl
  intro K hK
  unfold f_J0_isLatin1_aae02
  refine s_getsC hX kfJ0_38 dJ0_isLatin1_aae02_0 ?_
  refine s_jn (C := fun j => ∀ (y1 : Int32), Sim G (j y1) K 18 [] [.int y1] μ) ?_ (fun j2 hj2 => ?_)
  · intro y1
    show Sim G _ _ 18 [] [.int y1] μ
    refine s_ckB (fun hzb => ?_)
    exact s_zretr hzb hK hR dJ0_isLatin1_aae02_18
  refine s_jn (C := fun j => Sim G (j) K 17 [] [] μ) ?_ (fun j3 hj3 => ?_)
  · skip
    show Sim G _ _ 17 [] [] μ
    refine s_iconst (v := 0) hX dJ0_isLatin1_aae02_17 (by decide) ?_
    exact s_to hX [] rfl (hj2 0)
  refine s_if_eq hX 17 dJ0_isLatin1_aae02_3 (by decide) ?_ ?_
  · exact s_to hX [] rfl (hj3)
  · refine s_Sload_n hX dJ0_isLatin1_aae02_6 rfl 0 rfl ?_
    refine s_getSc hX hw0 kfJ0_15 dJ0_isLatin1_aae02_7 ?_
    refine s_if_ne hX 17 dJ0_isLatin1_aae02_10 (by decide) ?_ ?_
    · exact s_to hX [] rfl (hj3)
    · refine s_iconst (v := 1) hX dJ0_isLatin1_aae02_13 (by decide) ?_
      refine s_goto hX 18 dJ0_isLatin1_aae02_14 (by decide) ?_
      exact s_to hX [] rfl (hj2 1)
theorem dJ3_checkIndex_8e157_0 : decode cJ3_checkIndex_8e157 0 = .ok (.iload_n 0, 1) := by decide +kernel
theorem dJ3_checkIndex_8e157_1 : decode cJ3_checkIndex_8e157 1 = .ok (.ifCond .lt 8, 3) := by decide +kernel
theorem dJ3_checkIndex_8e157_4 : decode cJ3_checkIndex_8e157 4 = .ok (.iload_n 0, 1) := by decide +kernel
theorem dJ3_checkIndex_8e157_5 : decode cJ3_checkIndex_8e157 5 = .ok (.iload_n 1, 1) := by decide +kernel
theorem dJ3_checkIndex_8e157_6 : decode cJ3_checkIndex_8e157 6 = .ok (.if_icmp .lt 10, 3) := by decide +kernel
theorem dJ3_checkIndex_8e157_16 : decode cJ3_checkIndex_8e157 16 = .ok (.iload_n 0, 1) := by decide +kernel
theorem dJ3_checkIndex_8e157_17 : decode cJ3_checkIndex_8e157 17 = .ok (.ireturn, 1) := by decide +kernel
noncomputable def f_J3_checkIndex_8e157 (x0 : Int32) (x1 : Int32) : Option Int32 :=
  if x0 < 0 then
    none
  else
    if x0 < x1 then
      some x0
    else
      none
set_option maxHeartbeats 4000000 in
set_option maxRecDepth 100000 in
theorem c_J3_checkIndex_8e157 {g : GT} {x0 : Int32} {x1 : Int32} {v2 : Value} {μ : Mem} {r0 : Int32} (hv2 : v2 = .null ∨ ∃ t, v2 = .ref t) (hf : f_J3_checkIndex_8e157 x0 x1 = some r0) : CI g yJ3_checkIndex_8e157 cJ3_checkIndex_8e157 3 (some .int) 1 [.int x0, .int x1, v2] μ r0 μ := by
  refine mk_i (by decide) (by rcases hv2 with rfl | ⟨t, rfl⟩ <;> exact Nat.le_of_ble_eq_true rfl) ?_
  intro G hX hR
  have hX : CX g G cJ3_checkIndex_8e157 RJ3 3 1 := hX
  suffices S : ∀ K : Int32 → Prop, (∀ a, K a → a = r0) → Sim G (f_J3_checkIndex_8e157 x0 x1) K 0 [(0, .int x0), (1, .int x1), (2, v2)] [] μ from S (fun a => a = r0) (fun a h => h) _ hf rfl
  intro K hK
  unfold f_J3_checkIndex_8e157
  refine s_iload_n hX dJ3_checkIndex_8e157_0 rfl 0 rfl ?_
  refine s_if_lt hX 9 dJ3_checkIndex_8e157_1 (by decide) ?_ ?_
  · exact s_none
  · refine s_iload_n hX dJ3_checkIndex_8e157_4 rfl 0 rfl ?_
    refine s_iload_n hX dJ3_checkIndex_8e157_5 rfl 1 rfl ?_
    refine s_icmp_lt hX 16 dJ3_checkIndex_8e157_6 (by decide) ?_ ?_
    · refine s_iload_n hX dJ3_checkIndex_8e157_16 rfl 0 rfl ?_
      exact s_iretr hK hR dJ3_checkIndex_8e157_17
    · exact s_none
theorem dJ6_bitCount_0f7a4_0 : decode cJ6_bitCount_0f7a4 0 = .ok (.iload_n 0, 1) := by decide +kernel
theorem dJ6_bitCount_0f7a4_1 : decode cJ6_bitCount_0f7a4 1 = .ok (.iload_n 0, 1) := by decide +kernel
theorem dJ6_bitCount_0f7a4_2 : decode cJ6_bitCount_0f7a4 2 = .ok (.iconst 1, 1) := by decide +kernel
theorem dJ6_bitCount_0f7a4_3 : decode cJ6_bitCount_0f7a4 3 = .ok (.iushr, 1) := by decide +kernel
theorem dJ6_bitCount_0f7a4_4 : decode cJ6_bitCount_0f7a4 4 = .ok (.ldc_w 265, 3) := by decide +kernel
theorem dJ6_bitCount_0f7a4_7 : decode cJ6_bitCount_0f7a4 7 = .ok (.iand, 1) := by decide +kernel
theorem dJ6_bitCount_0f7a4_8 : decode cJ6_bitCount_0f7a4 8 = .ok (.isub, 1) := by decide +kernel
theorem dJ6_bitCount_0f7a4_9 : decode cJ6_bitCount_0f7a4 9 = .ok (.istore_n 0, 1) := by decide +kernel
theorem dJ6_bitCount_0f7a4_10 : decode cJ6_bitCount_0f7a4 10 = .ok (.iload_n 0, 1) := by decide +kernel
theorem dJ6_bitCount_0f7a4_11 : decode cJ6_bitCount_0f7a4 11 = .ok (.ldc_w 266, 3) := by decide +kernel
theorem dJ6_bitCount_0f7a4_14 : decode cJ6_bitCount_0f7a4 14 = .ok (.iand, 1) := by decide +kernel
theorem dJ6_bitCount_0f7a4_15 : decode cJ6_bitCount_0f7a4 15 = .ok (.iload_n 0, 1) := by decide +kernel
theorem dJ6_bitCount_0f7a4_16 : decode cJ6_bitCount_0f7a4 16 = .ok (.iconst 2, 1) := by decide +kernel
theorem dJ6_bitCount_0f7a4_17 : decode cJ6_bitCount_0f7a4 17 = .ok (.iushr, 1) := by decide +kernel
theorem dJ6_bitCount_0f7a4_18 : decode cJ6_bitCount_0f7a4 18 = .ok (.ldc_w 266, 3) := by decide +kernel
theorem dJ6_bitCount_0f7a4_21 : decode cJ6_bitCount_0f7a4 21 = .ok (.iand, 1) := by decide +kernel
theorem dJ6_bitCount_0f7a4_22 : decode cJ6_bitCount_0f7a4 22 = .ok (.iadd, 1) := by decide +kernel
theorem dJ6_bitCount_0f7a4_23 : decode cJ6_bitCount_0f7a4 23 = .ok (.istore_n 0, 1) := by decide +kernel
theorem dJ6_bitCount_0f7a4_24 : decode cJ6_bitCount_0f7a4 24 = .ok (.iload_n 0, 1) := by decide +kernel
theorem dJ6_bitCount_0f7a4_25 : decode cJ6_bitCount_0f7a4 25 = .ok (.iload_n 0, 1) := by decide +kernel
theorem dJ6_bitCount_0f7a4_26 : decode cJ6_bitCount_0f7a4 26 = .ok (.iconst 4, 1) := by decide +kernel
theorem dJ6_bitCount_0f7a4_27 : decode cJ6_bitCount_0f7a4 27 = .ok (.iushr, 1) := by decide +kernel
theorem dJ6_bitCount_0f7a4_28 : decode cJ6_bitCount_0f7a4 28 = .ok (.iadd, 1) := by decide +kernel
theorem dJ6_bitCount_0f7a4_29 : decode cJ6_bitCount_0f7a4 29 = .ok (.ldc_w 267, 3) := by decide +kernel
theorem dJ6_bitCount_0f7a4_32 : decode cJ6_bitCount_0f7a4 32 = .ok (.iand, 1) := by decide +kernel
theorem dJ6_bitCount_0f7a4_33 : decode cJ6_bitCount_0f7a4 33 = .ok (.istore_n 0, 1) := by decide +kernel
theorem dJ6_bitCount_0f7a4_34 : decode cJ6_bitCount_0f7a4 34 = .ok (.iload_n 0, 1) := by decide +kernel
theorem dJ6_bitCount_0f7a4_35 : decode cJ6_bitCount_0f7a4 35 = .ok (.iload_n 0, 1) := by decide +kernel
theorem dJ6_bitCount_0f7a4_36 : decode cJ6_bitCount_0f7a4 36 = .ok (.bipush 8, 2) := by decide +kernel
theorem dJ6_bitCount_0f7a4_38 : decode cJ6_bitCount_0f7a4 38 = .ok (.iushr, 1) := by decide +kernel
theorem dJ6_bitCount_0f7a4_39 : decode cJ6_bitCount_0f7a4 39 = .ok (.iadd, 1) := by decide +kernel
theorem dJ6_bitCount_0f7a4_40 : decode cJ6_bitCount_0f7a4 40 = .ok (.istore_n 0, 1) := by decide +kernel
theorem dJ6_bitCount_0f7a4_41 : decode cJ6_bitCount_0f7a4 41 = .ok (.iload_n 0, 1) := by decide +kernel
theorem dJ6_bitCount_0f7a4_42 : decode cJ6_bitCount_0f7a4 42 = .ok (.iload_n 0, 1) := by decide +kernel
theorem dJ6_bitCount_0f7a4_43 : decode cJ6_bitCount_0f7a4 43 = .ok (.bipush 16, 2) := by decide +kernel
theorem dJ6_bitCount_0f7a4_45 : decode cJ6_bitCount_0f7a4 45 = .ok (.iushr, 1) := by decide +kernel
theorem dJ6_bitCount_0f7a4_46 : decode cJ6_bitCount_0f7a4 46 = .ok (.iadd, 1) := by decide +kernel
theorem dJ6_bitCount_0f7a4_47 : decode cJ6_bitCount_0f7a4 47 = .ok (.istore_n 0, 1) := by decide +kernel
theorem dJ6_bitCount_0f7a4_48 : decode cJ6_bitCount_0f7a4 48 = .ok (.iload_n 0, 1) := by decide +kernel
theorem dJ6_bitCount_0f7a4_49 : decode cJ6_bitCount_0f7a4 49 = .ok (.bipush 63, 2) := by decide +kernel
theorem dJ6_bitCount_0f7a4_51 : decode cJ6_bitCount_0f7a4 51 = .ok (.iand, 1) := by decide +kernel
theorem dJ6_bitCount_0f7a4_52 : decode cJ6_bitCount_0f7a4 52 = .ok (.ireturn, 1) := by decide +kernel
noncomputable def f_J6_bitCount_0f7a4 (x0 : Int32) : Option Int32 :=
  lt (x0 - (((x0).toUInt32 >>> ((1 : Int32).toUInt32 &&& Int32.toUInt32 31)).toInt32 &&& 1431655765)) fun x0_1 =>
  lt ((x0_1 &&& 858993459) + (((x0_1).toUInt32 >>> ((2 : Int32).toUInt32 &&& Int32.toUInt32 31)).toInt32 &&& 858993459)) fun x0_2 =>
  lt ((x0_2 + ((x0_2).toUInt32 >>> ((4 : Int32).toUInt32 &&& Int32.toUInt32 31)).toInt32) &&& 252645135) fun x0_3 =>
  lt (x0_3 + ((x0_3).toUInt32 >>> ((8 : Int32).toUInt32 &&& Int32.toUInt32 31)).toInt32) fun x0_4 =>
  lt (x0_4 + ((x0_4).toUInt32 >>> ((16 : Int32).toUInt32 &&& Int32.toUInt32 31)).toInt32) fun x0_5 =>
  some (x0_5 &&& 63)
set_option maxHeartbeats 4000000 in
set_option maxRecDepth 100000 in
theorem c_J6_bitCount_0f7a4 {g : GT} {x0 : Int32} {μ : Mem} {r0 : Int32} (hf : f_J6_bitCount_0f7a4 x0 = some r0) : CI g yJ6_bitCount_0f7a4 cJ6_bitCount_0f7a4 1 (some .int) 1 [.int x0] μ r0 μ := by
  refine mk_i (by decide) (Nat.le_of_ble_eq_true rfl) ?_
  intro G hX hR
  have hX : CX g G cJ6_bitCount_0f7a4 RJ6 1 1 := hX
  suffices S : ∀ K : Int32 → Prop, (∀ a, K a → a = r0) → Sim G (f_J6_bitCount_0f7a4 x0) K 0 [(0, .int x0)] [] μ from S (fun a => a = r0) (fun a h => h) _ hf rfl
  intro K hK
  unfold f_J6_bitCount_0f7a4
  refine s_iload_n hX dJ6_bitCount_0f7a4_0 rfl 0 rfl ?_
  refine s_iload_n hX dJ6_bitCount_0f7a4_1 rfl 0 rfl ?_
  refine s_iconst (v := 1) hX dJ6_bitCount_0f7a4_2 (by decide) ?_
  refine s_iushr hX dJ6_bitCount_0f7a4_3 ?_
  refine s_ldcw hX dJ6_bitCount_0f7a4_4 kcJ6_265 ?_
  refine s_iand hX dJ6_bitCount_0f7a4_7 ?_
  refine s_isub hX dJ6_bitCount_0f7a4_8 ?_
  refine s_lti (fun x0_1 => ?_)
  refine s_istore_n (lv' := [(0, .int x0_1)]) hX dJ6_bitCount_0f7a4_9 rfl (by decide) rfl ?_
  refine s_iload_n hX dJ6_bitCount_0f7a4_10 rfl 0 rfl ?_
  refine s_ldcw hX dJ6_bitCount_0f7a4_11 kcJ6_266 ?_
  refine s_iand hX dJ6_bitCount_0f7a4_14 ?_
  refine s_iload_n hX dJ6_bitCount_0f7a4_15 rfl 0 rfl ?_
  refine s_iconst (v := 2) hX dJ6_bitCount_0f7a4_16 (by decide) ?_
  refine s_iushr hX dJ6_bitCount_0f7a4_17 ?_
  refine s_ldcw hX dJ6_bitCount_0f7a4_18 kcJ6_266 ?_
  refine s_iand hX dJ6_bitCount_0f7a4_21 ?_
  refine s_iadd hX dJ6_bitCount_0f7a4_22 ?_
  refine s_lti (fun x0_2 => ?_)
  refine s_istore_n (lv' := [(0, .int x0_2)]) hX dJ6_bitCount_0f7a4_23 rfl (by decide) rfl ?_
  refine s_iload_n hX dJ6_bitCount_0f7a4_24 rfl 0 rfl ?_
  refine s_iload_n hX dJ6_bitCount_0f7a4_25 rfl 0 rfl ?_
  refine s_iconst (v := 4) hX dJ6_bitCount_0f7a4_26 (by decide) ?_
  refine s_iushr hX dJ6_bitCount_0f7a4_27 ?_
  refine s_iadd hX dJ6_bitCount_0f7a4_28 ?_
  refine s_ldcw hX dJ6_bitCount_0f7a4_29 kcJ6_267 ?_
  refine s_iand hX dJ6_bitCount_0f7a4_32 ?_
  refine s_lti (fun x0_3 => ?_)
  refine s_istore_n (lv' := [(0, .int x0_3)]) hX dJ6_bitCount_0f7a4_33 rfl (by decide) rfl ?_
  refine s_iload_n hX dJ6_bitCount_0f7a4_34 rfl 0 rfl ?_
  refine s_iload_n hX dJ6_bitCount_0f7a4_35 rfl 0 rfl ?_
  refine s_bipush (v := 8) hX dJ6_bitCount_0f7a4_36 (by decide) ?_
  refine s_iushr hX dJ6_bitCount_0f7a4_38 ?_
  refine s_iadd hX dJ6_bitCount_0f7a4_39 ?_
  refine s_lti (fun x0_4 => ?_)
  refine s_istore_n (lv' := [(0, .int x0_4)]) hX dJ6_bitCount_0f7a4_40 rfl (by decide) rfl ?_
  refine s_iload_n hX dJ6_bitCount_0f7a4_41 rfl 0 rfl ?_
  refine s_iload_n hX dJ6_bitCount_0f7a4_42 rfl 0 rfl ?_
  refine s_bipush (v := 16) hX dJ6_bitCount_0f7a4_43 (by decide) ?_
  refine s_iushr hX dJ6_bitCount_0f7a4_45 ?_
  refine s_iadd hX dJ6_bitCount_0f7a4_46 ?_
  refine s_lti (fun x0_5 => ?_)
  refine s_istore_n (lv' := [(0, .int x0_5)]) hX dJ6_bitCount_0f7a4_47 rfl (by decide) rfl ?_
  refine s_iload_n hX dJ6_bitCount_0f7a4_48 rfl 0 rfl ?_
  refine s_bipush (v := 63) hX dJ6_bitCount_0f7a4_49 (by decide) ?_
  refine s_iand hX dJ6_bitCount_0f7a4_51 ?_
  exact s_iretr hK hR dJ6_bitCount_0f7a4_52
theorem dX0_dropLot_0 : decode cX0_dropLot 0 = .ok (.aload_n 0, 1) := by decide +kernel
theorem dX0_dropLot_1 : decode cX0_dropLot 1 = .ok (.getfield 12, 3) := by decide +kernel
theorem dX0_dropLot_4 : decode cX0_dropLot 4 = .ok (.getfield 72, 3) := by decide +kernel
theorem dX0_dropLot_7 : decode cX0_dropLot 7 = .ok (.ifCond .gt 6, 3) := by decide +kernel
theorem dX0_dropLot_10 : decode cX0_dropLot 10 = .ok (.bipush (-3), 2) := by decide +kernel
theorem dX0_dropLot_12 : decode cX0_dropLot 12 = .ok (.ireturn, 1) := by decide +kernel
theorem dX0_dropLot_13 : decode cX0_dropLot 13 = .ok (.aload_n 0, 1) := by decide +kernel
theorem dX0_dropLot_14 : decode cX0_dropLot 14 = .ok (.getfield 12, 3) := by decide +kernel
theorem dX0_dropLot_17 : decode cX0_dropLot 17 = .ok (.dup, 1) := by decide +kernel
theorem dX0_dropLot_18 : decode cX0_dropLot 18 = .ok (.getfield 72, 3) := by decide +kernel
theorem dX0_dropLot_21 : decode cX0_dropLot 21 = .ok (.iconst 1, 1) := by decide +kernel
theorem dX0_dropLot_22 : decode cX0_dropLot 22 = .ok (.isub, 1) := by decide +kernel
theorem dX0_dropLot_23 : decode cX0_dropLot 23 = .ok (.putfield 72, 3) := by decide +kernel
theorem dX0_dropLot_26 : decode cX0_dropLot 26 = .ok (.aload_n 0, 1) := by decide +kernel
theorem dX0_dropLot_27 : decode cX0_dropLot 27 = .ok (.getfield 28, 3) := by decide +kernel
theorem dX0_dropLot_30 : decode cX0_dropLot 30 = .ok (.iconst 0, 1) := by decide +kernel
theorem dX0_dropLot_31 : decode cX0_dropLot 31 = .ok (.putfield 65, 3) := by decide +kernel
theorem dX0_dropLot_34 : decode cX0_dropLot 34 = .ok (.aload_n 0, 1) := by decide +kernel
theorem dX0_dropLot_35 : decode cX0_dropLot 35 = .ok (.getfield 12, 3) := by decide +kernel
theorem dX0_dropLot_38 : decode cX0_dropLot 38 = .ok (.getfield 72, 3) := by decide +kernel
theorem dX0_dropLot_41 : decode cX0_dropLot 41 = .ok (.ireturn, 1) := by decide +kernel
noncomputable def f_X0_dropLot (k0 : Nat) (μ : Mem) : Option (Int32 × Mem) :=
  if 0 < (μ.1 (k0 + 1) 1) then
    lt (setI μ (k0 + 1) 1 ((μ.1 (k0 + 1) 1) - 1)) fun ν1 =>
    lt (setI ν1 (k0 + 9) 0 0) fun ν2 =>
    some ((ν2.1 (k0 + 1) 1), ν2)
  else
    some ((-3), μ)
set_option maxHeartbeats 4000000 in
set_option maxRecDepth 100000 in
theorem c_X0_dropLot {g : GT} {k0 : Nat} {μ : Mem} {μ0 : Mem} {r0 : Int32} (hk0 : tyOf k0 = 0) (hf : f_X0_dropLot k0 μ = some (r0, μ0)) : CI g yX0_dropLot cX0_dropLot 1 (some .int) 1 [rf g k0] μ r0 μ0 := by
  refine mk_i (by decide) (Nat.le_of_ble_eq_true rfl) ?_
  intro G hX hR
  have hX : CX g G cX0_dropLot RX0 1 1 := hX
  suffices S : ∀ K : (Int32 × Mem) → Prop, (∀ a, K a → a = (r0, μ0)) → Sim G (f_X0_dropLot k0 μ) K 0 [(0, rf g k0)] [] μ from S (fun a => a = (r0, μ0)) (fun a h => h) _ hf rfl
  intro K hK
  unfold f_X0_dropLot
  refine s_aload_n hX dX0_dropLot_0 rfl 0 rfl ?_
  refine s_getR hX (d := 1) (k0 + 1) flX0_12 hk0 rfl dX0_dropLot_1 ?_
  refine s_getI hX flX0_72 (ty_0_1 hk0).1 dX0_dropLot_4 ?_
  refine s_if_gt hX 13 dX0_dropLot_7 (by decide) ?_ ?_
  · refine s_aload_n hX dX0_dropLot_13 rfl 0 rfl ?_
    refine s_getR hX (d := 1) (k0 + 1) flX0_12 hk0 rfl dX0_dropLot_14 ?_
    refine s_dup hX dX0_dropLot_17 rfl ?_
    refine s_getI hX flX0_72 (ty_0_1 hk0).1 dX0_dropLot_18 ?_
    refine s_iconst (v := 1) hX dX0_dropLot_21 (by decide) ?_
    refine s_isub hX dX0_dropLot_22 ?_
    refine s_putI hX flX0_72 (ty_0_1 hk0).1 ⟨rfl, rfl⟩ dX0_dropLot_23 (fun ν1 => ?_)
    refine s_aload_n hX dX0_dropLot_26 rfl 0 rfl ?_
    refine s_getR hX (d := 9) (k0 + 9) flX0_28 hk0 rfl dX0_dropLot_27 ?_
    refine s_iconst (v := 0) hX dX0_dropLot_30 (by decide) ?_
    refine s_putI hX flX0_65 (ty_0_9 hk0).1 ⟨rfl, rfl⟩ dX0_dropLot_31 (fun ν2 => ?_)
    refine s_aload_n hX dX0_dropLot_34 rfl 0 rfl ?_
    refine s_getR hX (d := 1) (k0 + 1) flX0_12 hk0 rfl dX0_dropLot_35 ?_
    refine s_getI hX flX0_72 (ty_0_1 hk0).1 dX0_dropLot_38 ?_
    exact s_ireti hK hR dX0_dropLot_41
  · refine s_bipush (v := (-3)) hX dX0_dropLot_10 (by decide) ?_
    exact s_ireti hK hR dX0_dropLot_12
theorem dX0_setGrowth_0 : decode cX0_setGrowth 0 = .ok (.iload_n 1, 1) := by decide +kernel
theorem dX0_setGrowth_1 : decode cX0_setGrowth 1 = .ok (.ifCond .lt 9, 3) := by decide +kernel
theorem dX0_setGrowth_4 : decode cX0_setGrowth 4 = .ok (.iload_n 1, 1) := by decide +kernel
theorem dX0_setGrowth_5 : decode cX0_setGrowth 5 = .ok (.bipush 9, 2) := by decide +kernel
theorem dX0_setGrowth_7 : decode cX0_setGrowth 7 = .ok (.if_icmp .le 6, 3) := by decide +kernel
theorem dX0_setGrowth_10 : decode cX0_setGrowth 10 = .ok (.bipush (-2), 2) := by decide +kernel
theorem dX0_setGrowth_12 : decode cX0_setGrowth 12 = .ok (.ireturn, 1) := by decide +kernel
theorem dX0_setGrowth_13 : decode cX0_setGrowth 13 = .ok (.aload_n 0, 1) := by decide +kernel
theorem dX0_setGrowth_14 : decode cX0_setGrowth 14 = .ok (.getfield 12, 3) := by decide +kernel
theorem dX0_setGrowth_17 : decode cX0_setGrowth 17 = .ok (.getfield 90, 3) := by decide +kernel
theorem dX0_setGrowth_20 : decode cX0_setGrowth 20 = .ok (.istore_n 2, 1) := by decide +kernel
theorem dX0_setGrowth_21 : decode cX0_setGrowth 21 = .ok (.aload_n 0, 1) := by decide +kernel
theorem dX0_setGrowth_22 : decode cX0_setGrowth 22 = .ok (.getfield 12, 3) := by decide +kernel
theorem dX0_setGrowth_25 : decode cX0_setGrowth 25 = .ok (.iload_n 1, 1) := by decide +kernel
theorem dX0_setGrowth_26 : decode cX0_setGrowth 26 = .ok (.putfield 90, 3) := by decide +kernel
theorem dX0_setGrowth_29 : decode cX0_setGrowth 29 = .ok (.iload_n 2, 1) := by decide +kernel
theorem dX0_setGrowth_30 : decode cX0_setGrowth 30 = .ok (.ireturn, 1) := by decide +kernel
noncomputable def f_X0_setGrowth (k0 : Nat) (x1 : Int32) (μ : Mem) : Option (Int32 × Mem) :=
  jn (
    some ((-2), μ)
    ) fun j1 =>
  if x1 < 0 then
    j1
  else
    if 9 < x1 then
      j1
    else
      lt (setI μ (k0 + 1) 3 x1) fun ν2 =>
      some ((μ.1 (k0 + 1) 3), ν2)
set_option maxHeartbeats 4000000 in
set_option maxRecDepth 100000 in
theorem c_X0_setGrowth {g : GT} {k0 : Nat} {x1 : Int32} {μ : Mem} {μ0 : Mem} {r0 : Int32} (hk0 : tyOf k0 = 0) (hf : f_X0_setGrowth k0 x1 μ = some (r0, μ0)) : CI g yX0_setGrowth cX0_setGrowth 3 (some .int) 1 [rf g k0, .int x1] μ r0 μ0 := by
  refine mk_i (by decide) (Nat.le_of_ble_eq_true rfl) ?_
  intro G hX hR
  have hX : CX g G cX0_setGrowth RX0 3 1 := hX
  suffices S : ∀ K : (Int32 × Mem) → Prop, (∀ a, K a → a = (r0, μ0)) → Sim G (f_X0_setGrowth k0 x1 μ) K 0 [(0, rf g k0), (1, .int x1)] [] μ from S (fun a => a = (r0, μ0)) (fun a h => h) _ hf rfl
  intro K hK
  unfold f_X0_setGrowth
  refine s_iload_n hX dX0_setGrowth_0 rfl 1 rfl ?_
  refine s_jn (C := fun j => Sim G (j) K 10 [] [] μ) ?_ (fun j1 hj1 => ?_)
  · skip
    show Sim G _ _ 10 [] [] μ
    refine s_bipush (v := (-2)) hX dX0_setGrowth_10 (by decide) ?_
    exact s_ireti hK hR dX0_setGrowth_12
  refine s_if_lt hX 10 dX0_setGrowth_1 (by decide) ?_ ?_
  · exact s_to hX [] rfl (hj1)
  · refine s_iload_n hX dX0_setGrowth_4 rfl 1 rfl ?_
    refine s_bipush (v := 9) hX dX0_setGrowth_5 (by decide) ?_
    refine s_icmp_le hX 13 dX0_setGrowth_7 (by decide) ?_ ?_
    · refine s_aload_n hX dX0_setGrowth_13 rfl 0 rfl ?_
      refine s_getR hX (d := 1) (k0 + 1) flX0_12 hk0 rfl dX0_setGrowth_14 ?_
      refine s_getI hX flX0_90 (ty_0_1 hk0).1 dX0_setGrowth_17 ?_
      refine s_istore_n (lv' := [(2, .int (μ.1 (k0 + 1) 3)), (0, rf g k0), (1, .int x1)]) hX dX0_setGrowth_20 rfl (by decide) rfl ?_
      refine s_aload_n hX dX0_setGrowth_21 rfl 1 rfl ?_
      refine s_getR hX (d := 1) (k0 + 1) flX0_12 hk0 rfl dX0_setGrowth_22 ?_
      refine s_iload_n hX dX0_setGrowth_25 rfl 2 rfl ?_
      refine s_putI hX flX0_90 (ty_0_1 hk0).1 ⟨rfl, rfl⟩ dX0_setGrowth_26 (fun ν2 => ?_)
      refine s_iload_n hX dX0_setGrowth_29 rfl 0 rfl ?_
      exact s_ireti hK hR dX0_setGrowth_30
    · exact s_to hX [] rfl (hj1)
theorem dX0_setTold_0 : decode cX0_setTold 0 = .ok (.iload_n 1, 1) := by decide +kernel
theorem dX0_setTold_1 : decode cX0_setTold 1 = .ok (.ifCond .lt 19, 3) := by decide +kernel
theorem dX0_setTold_4 : decode cX0_setTold 4 = .ok (.iload_n 1, 1) := by decide +kernel
theorem dX0_setTold_5 : decode cX0_setTold 5 = .ok (.iconst 3, 1) := by decide +kernel
theorem dX0_setTold_6 : decode cX0_setTold 6 = .ok (.if_icmp .ge 14, 3) := by decide +kernel
theorem dX0_setTold_9 : decode cX0_setTold 9 = .ok (.iload_n 2, 1) := by decide +kernel
theorem dX0_setTold_10 : decode cX0_setTold 10 = .ok (.ifCond .lt 10, 3) := by decide +kernel
theorem dX0_setTold_13 : decode cX0_setTold 13 = .ok (.iload_n 2, 1) := by decide +kernel
theorem dX0_setTold_14 : decode cX0_setTold 14 = .ok (.sipush 999, 3) := by decide +kernel
theorem dX0_setTold_17 : decode cX0_setTold 17 = .ok (.if_icmp .le 6, 3) := by decide +kernel
theorem dX0_setTold_20 : decode cX0_setTold 20 = .ok (.bipush (-2), 2) := by decide +kernel
theorem dX0_setTold_22 : decode cX0_setTold 22 = .ok (.ireturn, 1) := by decide +kernel
theorem dX0_setTold_23 : decode cX0_setTold 23 = .ok (.aload_n 0, 1) := by decide +kernel
theorem dX0_setTold_24 : decode cX0_setTold 24 = .ok (.getfield 36, 3) := by decide +kernel
theorem dX0_setTold_27 : decode cX0_setTold 27 = .ok (.iload_n 1, 1) := by decide +kernel
theorem dX0_setTold_28 : decode cX0_setTold 28 = .ok (.iaload, 1) := by decide +kernel
theorem dX0_setTold_29 : decode cX0_setTold 29 = .ok (.istore_n 3, 1) := by decide +kernel
theorem dX0_setTold_30 : decode cX0_setTold 30 = .ok (.aload_n 0, 1) := by decide +kernel
theorem dX0_setTold_31 : decode cX0_setTold 31 = .ok (.getfield 36, 3) := by decide +kernel
theorem dX0_setTold_34 : decode cX0_setTold 34 = .ok (.iload_n 1, 1) := by decide +kernel
theorem dX0_setTold_35 : decode cX0_setTold 35 = .ok (.iload_n 2, 1) := by decide +kernel
theorem dX0_setTold_36 : decode cX0_setTold 36 = .ok (.iastore, 1) := by decide +kernel
theorem dX0_setTold_37 : decode cX0_setTold 37 = .ok (.iload_n 3, 1) := by decide +kernel
theorem dX0_setTold_38 : decode cX0_setTold 38 = .ok (.ireturn, 1) := by decide +kernel
noncomputable def f_X0_setTold (k0 : Nat) (x1 : Int32) (x2 : Int32) (μ : Mem) : Option (Int32 × Mem) :=
  jn (
    some ((-2), μ)
    ) fun j1 =>
  if x1 < 0 then
    j1
  else
    if x1 < 3 then
      if x2 < 0 then
        j1
      else
        if 999 < x2 then
          j1
        else
          chk x1 3 (
            chk x1 3 (lt (setI μ (k0 + 13) (ix x1) x2) fun ν2 =>
              some ((μ.1 (k0 + 13) (ix x1)), ν2)
              )
            )
    else
      j1
set_option maxHeartbeats 4000000 in
set_option maxRecDepth 100000 in
theorem c_X0_setTold {g : GT} {k0 : Nat} {x1 : Int32} {x2 : Int32} {μ : Mem} {μ0 : Mem} {r0 : Int32} (hk0 : tyOf k0 = 0) (hf : f_X0_setTold k0 x1 x2 μ = some (r0, μ0)) : CI g yX0_setTold cX0_setTold 4 (some .int) 1 [rf g k0, .int x1, .int x2] μ r0 μ0 := by
  refine mk_i (by decide) (Nat.le_of_ble_eq_true rfl) ?_
  intro G hX hR
  have hX : CX g G cX0_setTold RX0 4 1 := hX
  suffices S : ∀ K : (Int32 × Mem) → Prop, (∀ a, K a → a = (r0, μ0)) → Sim G (f_X0_setTold k0 x1 x2 μ) K 0 [(0, rf g k0), (1, .int x1), (2, .int x2)] [] μ from S (fun a => a = (r0, μ0)) (fun a h => h) _ hf rfl
  intro K hK
  unfold f_X0_setTold
  refine s_iload_n hX dX0_setTold_0 rfl 1 rfl ?_
  refine s_jn (C := fun j => Sim G (j) K 20 [] [] μ) ?_ (fun j1 hj1 => ?_)
  · skip
    show Sim G _ _ 20 [] [] μ
    refine s_bipush (v := (-2)) hX dX0_setTold_20 (by decide) ?_
    exact s_ireti hK hR dX0_setTold_22
  refine s_if_lt hX 20 dX0_setTold_1 (by decide) ?_ ?_
  · exact s_to hX [] rfl (hj1)
  · refine s_iload_n hX dX0_setTold_4 rfl 1 rfl ?_
    refine s_iconst (v := 3) hX dX0_setTold_5 (by decide) ?_
    refine s_icmp_ge hX 20 dX0_setTold_6 (by decide) ?_ ?_
    · exact s_to hX [] rfl (hj1)
    · refine s_iload_n hX dX0_setTold_9 rfl 2 rfl ?_
      refine s_if_lt hX 20 dX0_setTold_10 (by decide) ?_ ?_
      · exact s_to hX [] rfl (hj1)
      · refine s_iload_n hX dX0_setTold_13 rfl 2 rfl ?_
        refine s_sipush (v := 999) hX dX0_setTold_14 (by decide) ?_
        refine s_icmp_le hX 23 dX0_setTold_17 (by decide) ?_ ?_
        · refine s_aload_n hX dX0_setTold_23 rfl 0 rfl ?_
          refine s_getR hX (d := 13) (k0 + 13) flX0_36 hk0 rfl dX0_setTold_24 ?_
          refine s_iload_n hX dX0_setTold_27 rfl 1 rfl ?_
          refine s_iald hX (ty_0_13 hk0).1 (ty_0_13 hk0).2 dX0_setTold_28 ?_
          refine s_istore_n (lv' := [(3, .int (μ.1 (k0 + 13) (ix x1))), (0, rf g k0), (1, .int x1), (2, .int x2)]) hX dX0_setTold_29 rfl (by decide) rfl ?_
          refine s_aload_n hX dX0_setTold_30 rfl 1 rfl ?_
          refine s_getR hX (d := 13) (k0 + 13) flX0_36 hk0 rfl dX0_setTold_31 ?_
          refine s_iload_n hX dX0_setTold_34 rfl 2 rfl ?_
          refine s_iload_n hX dX0_setTold_35 rfl 3 rfl ?_
          refine s_iast hX (ty_0_13 hk0).1 (ty_0_13 hk0).2 dX0_setTold_36 (fun ν2 => ?_)
          refine s_iload_n hX dX0_setTold_37 rfl 0 rfl ?_
          exact s_ireti hK hR dX0_setTold_38
        · exact s_to hX [] rfl (hj1)
theorem dX10_clear_0 : decode cX10_clear 0 = .ok (.aload_n 0, 1) := by decide +kernel
theorem dX10_clear_1 : decode cX10_clear 1 = .ok (.getfield 27, 3) := by decide +kernel
theorem dX10_clear_4 : decode cX10_clear 4 = .ok (.getfield 124, 3) := by decide +kernel
theorem dX10_clear_7 : decode cX10_clear 7 = .ok (.istore_n 1, 1) := by decide +kernel
theorem dX10_clear_8 : decode cX10_clear 8 = .ok (.aload_n 0, 1) := by decide +kernel
theorem dX10_clear_9 : decode cX10_clear 9 = .ok (.getfield 27, 3) := by decide +kernel
theorem dX10_clear_12 : decode cX10_clear 12 = .ok (.iconst 0, 1) := by decide +kernel
theorem dX10_clear_13 : decode cX10_clear 13 = .ok (.putfield 124, 3) := by decide +kernel
theorem dX10_clear_16 : decode cX10_clear 16 = .ok (.iload_n 1, 1) := by decide +kernel
theorem dX10_clear_17 : decode cX10_clear 17 = .ok (.ireturn, 1) := by decide +kernel
noncomputable def f_X10_clear  (μ : Mem) : Option (Int32 × Mem) :=
  lt (setI μ 45 1 0) fun ν1 =>
  some ((μ.1 45 1), ν1)
set_option maxHeartbeats 4000000 in
set_option maxRecDepth 100000 in
theorem c_X10_clear {g : GT}  {μ : Mem} {μ0 : Mem} {r0 : Int32} (hf : f_X10_clear  μ = some (r0, μ0)) : CI g yX10_clear cX10_clear 2 (some .int) 1 [rf g 0] μ r0 μ0 := by
  refine mk_i (by decide) (Nat.le_of_ble_eq_true rfl) ?_
  intro G hX hR
  have hX : CX g G cX10_clear RX10 2 1 := hX
  suffices S : ∀ K : (Int32 × Mem) → Prop, (∀ a, K a → a = (r0, μ0)) → Sim G (f_X10_clear  μ) K 0 [(0, rf g 0)] [] μ from S (fun a => a = (r0, μ0)) (fun a h => h) _ hf rfl
  intro K hK
  unfold f_X10_clear
  refine s_aload_n hX dX10_clear_0 rfl 0 rfl ?_
  refine s_getR hX (d := 45) 45 flX10_27 rfl rfl dX10_clear_1 ?_
  refine s_getI hX flX10_124 rfl dX10_clear_4 ?_
  refine s_istore_n (lv' := [(1, .int (μ.1 45 1)), (0, rf g 0)]) hX dX10_clear_7 rfl (by decide) rfl ?_
  refine s_aload_n hX dX10_clear_8 rfl 1 rfl ?_
  refine s_getR hX (d := 45) 45 flX10_27 rfl rfl dX10_clear_9 ?_
  refine s_iconst (v := 0) hX dX10_clear_12 (by decide) ?_
  refine s_putI hX flX10_124 rfl ⟨rfl, rfl⟩ dX10_clear_13 (fun ν1 => ?_)
  refine s_iload_n hX dX10_clear_16 rfl 0 rfl ?_
  exact s_ireti hK hR dX10_clear_17
theorem dX10_commonDivisor_0 : decode cX10_commonDivisor 0 = .ok (.iconst 0, 1) := by decide +kernel
theorem dX10_commonDivisor_1 : decode cX10_commonDivisor 1 = .ok (.istore 4, 2) := by decide +kernel
theorem dX10_commonDivisor_3 : decode cX10_commonDivisor 3 = .ok (.iload 4, 2) := by decide +kernel
theorem dX10_commonDivisor_5 : decode cX10_commonDivisor 5 = .ok (.sipush 200, 3) := by decide +kernel
theorem dX10_commonDivisor_8 : decode cX10_commonDivisor 8 = .ok (.if_icmp .ge 25, 3) := by decide +kernel
theorem dX10_commonDivisor_11 : decode cX10_commonDivisor 11 = .ok (.lload_n 2, 1) := by decide +kernel
theorem dX10_commonDivisor_12 : decode cX10_commonDivisor 12 = .ok (.lconst 0, 1) := by decide +kernel
theorem dX10_commonDivisor_13 : decode cX10_commonDivisor 13 = .ok (.lcmp, 1) := by decide +kernel
theorem dX10_commonDivisor_14 : decode cX10_commonDivisor 14 = .ok (.ifCond .eq 19, 3) := by decide +kernel
theorem dX10_commonDivisor_17 : decode cX10_commonDivisor 17 = .ok (.lload_n 0, 1) := by decide +kernel
theorem dX10_commonDivisor_18 : decode cX10_commonDivisor 18 = .ok (.lload_n 2, 1) := by decide +kernel
theorem dX10_commonDivisor_19 : decode cX10_commonDivisor 19 = .ok (.lrem, 1) := by decide +kernel
theorem dX10_commonDivisor_20 : decode cX10_commonDivisor 20 = .ok (.lstore 5, 2) := by decide +kernel
theorem dX10_commonDivisor_22 : decode cX10_commonDivisor 22 = .ok (.lload_n 2, 1) := by decide +kernel
theorem dX10_commonDivisor_23 : decode cX10_commonDivisor 23 = .ok (.lstore_n 0, 1) := by decide +kernel
theorem dX10_commonDivisor_24 : decode cX10_commonDivisor 24 = .ok (.lload 5, 2) := by decide +kernel
theorem dX10_commonDivisor_26 : decode cX10_commonDivisor 26 = .ok (.lstore_n 2, 1) := by decide +kernel
theorem dX10_commonDivisor_27 : decode cX10_commonDivisor 27 = .ok (.iinc 4 1, 3) := by decide +kernel
theorem dX10_commonDivisor_30 : decode cX10_commonDivisor 30 = .ok (.goto (-27), 3) := by decide +kernel
theorem dX10_commonDivisor_33 : decode cX10_commonDivisor 33 = .ok (.lload_n 0, 1) := by decide +kernel
theorem dX10_commonDivisor_34 : decode cX10_commonDivisor 34 = .ok (.lreturn, 1) := by decide +kernel
noncomputable def f_X10_commonDivisor (x0 : Int64) (x2 : Int64) : Option Int64 :=
  bd (lp (ε := Int64) (cu3 fun (x0_1 : Int64) (x2_2 : Int64) (x4_3 : Int32) =>
    if x4_3 < 200 then
      if x2_2 = 0 then
        some (.inr x0_1)
      else
        ckZ x2_2 (
          some (.inl (x2_2, (x0_1 - x0_1 / x2_2 * x2_2), (x4_3 + 1)))
          )
    else
      some (.inr x0_1)
    ) (x0, x2, 0)) (fun (x0_4 : Int64) =>
    some x0_4
    )
set_option maxHeartbeats 4000000 in
set_option maxRecDepth 100000 in
theorem c_X10_commonDivisor {g : GT} {x0 : Int64} {x2 : Int64} {μ : Mem} {r0 : Int64} (hf : f_X10_commonDivisor x0 x2 = some r0) : CL g yX10_commonDivisor cX10_commonDivisor 7 (some .long) 1 [.long x0, .long x2] μ r0 μ := by
  refine mk_l (by decide) (Nat.le_of_ble_eq_true rfl) ?_
  intro G hX hR
  have hX : CX g G cX10_commonDivisor RX10 7 1 := hX
  suffices S : ∀ K : Int64 → Prop, (∀ a, K a → a = r0) → Sim G (f_X10_commonDivisor x0 x2) K 0 [(0, .long x0), (2, .long x2)] [] μ from S (fun a => a = r0) (fun a h => h) _ hf rfl
  intro K hK
  unfold f_X10_commonDivisor
  refine s_iconst (v := 0) hX dX10_commonDivisor_0 (by decide) ?_
  refine s_istore (lv' := [(4, .int 0), (0, .long x0), (2, .long x2)]) hX dX10_commonDivisor_1 (by decide) rfl ?_
  refine s_loop hX 3 33 (fun s : Int64 × Int64 × Int32 => [(0, .long s.1), (2, .long s.2.1), (4, .int s.2.2)]) (fun s : Int64 × Int64 × Int32 => μ) (fun s : Int64 => [(0, .long s)]) (fun s : Int64 => μ) [1, 2, 0] rfl rfl rfl ?_ ?_
  · intro Kq5 hIq5 hJq5 sq
    obtain ⟨x0_1, x2_2, x4_3⟩ := sq
    refine s_cu3 ?_
    show Sim G _ _ 3 [(0, .long x0_1), (2, .long x2_2), (4, .int x4_3)] [] μ
    refine s_iload hX dX10_commonDivisor_3 2 rfl ?_
    refine s_sipush (v := 200) hX dX10_commonDivisor_5 (by decide) ?_
    refine s_icmp_ge hX 33 dX10_commonDivisor_8 (by decide) ?_ ?_
    · exact s_end hX (hJq5 x0_1) [0] rfl
    · refine s_lload_n hX dX10_commonDivisor_11 rfl 1 rfl ?_
      refine s_lconst (v := 0) hX dX10_commonDivisor_12 (by decide) ?_
      refine s_lcmp_eq hX 33 dX10_commonDivisor_13 dX10_commonDivisor_14 (by decide) ?_ ?_
      · exact s_end hX (hJq5 x0_1) [0] rfl
      · refine s_lload_n hX dX10_commonDivisor_17 rfl 0 rfl ?_
        refine s_lload_n hX dX10_commonDivisor_18 rfl 1 rfl ?_
        refine s_lremZ hX dX10_commonDivisor_19 ?_
        refine s_lstore (lv' := [(5, .long (x0_1 - x0_1 / x2_2 * x2_2)), (0, .long x0_1), (2, .long x2_2), (4, .int x4_3)]) hX dX10_commonDivisor_20 (by decide) rfl ?_
        refine s_lload_n hX dX10_commonDivisor_22 rfl 2 rfl ?_
        refine s_lstore_n (lv' := [(0, .long x2_2), (5, .long (x0_1 - x0_1 / x2_2 * x2_2)), (2, .long x2_2), (4, .int x4_3)]) hX dX10_commonDivisor_23 rfl (by decide) rfl ?_
        refine s_lload hX dX10_commonDivisor_24 1 rfl ?_
        refine s_lstore_n (lv' := [(2, .long (x0_1 - x0_1 / x2_2 * x2_2)), (0, .long x2_2), (5, .long (x0_1 - x0_1 / x2_2 * x2_2)), (4, .int x4_3)]) hX dX10_commonDivisor_26 rfl (by decide) rfl ?_
        refine s_iinc (v := (x4_3 + 1)) (lv' := [(4, .int (x4_3 + 1)), (2, .long (x0_1 - x0_1 / x2_2 * x2_2)), (0, .long x2_2), (5, .long (x0_1 - x0_1 / x2_2 * x2_2))]) hX dX10_commonDivisor_27 3 rfl rfl (by decide) rfl ?_
        refine s_goto hX 3 dX10_commonDivisor_30 (by decide) ?_
        exact s_end hX (hIq5 (x2_2, (x0_1 - x0_1 / x2_2 * x2_2), (x4_3 + 1))) [2, 1, 0] rfl
  · intro sq
    obtain ⟨x0_4, rfl⟩ : ∃ z, z = sq := ⟨_, rfl⟩
    show Sim G _ _ 33 [(0, .long x0_4)] [] μ
    refine s_lload_n hX dX10_commonDivisor_33 rfl 0 rfl ?_
    exact s_lretr hK hR dX10_commonDivisor_34
theorem dX10_howMany_0 : decode cX10_howMany 0 = .ok (.iload_n 1, 1) := by decide +kernel
theorem dX10_howMany_1 : decode cX10_howMany 1 = .ok (.tableswitch 102 0 5 #[39, 50, 61, 72, 83, 94], 39) := by decide +kernel
theorem dX10_howMany_40 : decode cX10_howMany 40 = .ok (.aload_n 0, 1) := by decide +kernel
theorem dX10_howMany_41 : decode cX10_howMany 41 = .ok (.getfield 10, 3) := by decide +kernel
theorem dX10_howMany_44 : decode cX10_howMany 44 = .ok (.getfield 146, 3) := by decide +kernel
theorem dX10_howMany_47 : decode cX10_howMany 47 = .ok (.getfield 265, 3) := by decide +kernel
theorem dX10_howMany_50 : decode cX10_howMany 50 = .ok (.ireturn, 1) := by decide +kernel
theorem dX10_howMany_51 : decode cX10_howMany 51 = .ok (.aload_n 0, 1) := by decide +kernel
theorem dX10_howMany_52 : decode cX10_howMany 52 = .ok (.getfield 10, 3) := by decide +kernel
theorem dX10_howMany_55 : decode cX10_howMany 55 = .ok (.getfield 146, 3) := by decide +kernel
theorem dX10_howMany_58 : decode cX10_howMany 58 = .ok (.getfield 319, 3) := by decide +kernel
theorem dX10_howMany_61 : decode cX10_howMany 61 = .ok (.ireturn, 1) := by decide +kernel
theorem dX10_howMany_62 : decode cX10_howMany 62 = .ok (.aload_n 0, 1) := by decide +kernel
theorem dX10_howMany_63 : decode cX10_howMany 63 = .ok (.getfield 10, 3) := by decide +kernel
theorem dX10_howMany_66 : decode cX10_howMany 66 = .ok (.getfield 234, 3) := by decide +kernel
theorem dX10_howMany_69 : decode cX10_howMany 69 = .ok (.getfield 322, 3) := by decide +kernel
theorem dX10_howMany_72 : decode cX10_howMany 72 = .ok (.ireturn, 1) := by decide +kernel
theorem dX10_howMany_73 : decode cX10_howMany 73 = .ok (.aload_n 0, 1) := by decide +kernel
theorem dX10_howMany_74 : decode cX10_howMany 74 = .ok (.getfield 10, 3) := by decide +kernel
theorem dX10_howMany_77 : decode cX10_howMany 77 = .ok (.getfield 146, 3) := by decide +kernel
theorem dX10_howMany_80 : decode cX10_howMany 80 = .ok (.getfield 325, 3) := by decide +kernel
theorem dX10_howMany_83 : decode cX10_howMany 83 = .ok (.ireturn, 1) := by decide +kernel
theorem dX10_howMany_84 : decode cX10_howMany 84 = .ok (.aload_n 0, 1) := by decide +kernel
theorem dX10_howMany_85 : decode cX10_howMany 85 = .ok (.getfield 10, 3) := by decide +kernel
theorem dX10_howMany_88 : decode cX10_howMany 88 = .ok (.getfield 328, 3) := by decide +kernel
theorem dX10_howMany_91 : decode cX10_howMany 91 = .ok (.getfield 332, 3) := by decide +kernel
theorem dX10_howMany_94 : decode cX10_howMany 94 = .ok (.ireturn, 1) := by decide +kernel
theorem dX10_howMany_95 : decode cX10_howMany 95 = .ok (.aload_n 0, 1) := by decide +kernel
theorem dX10_howMany_96 : decode cX10_howMany 96 = .ok (.getfield 27, 3) := by decide +kernel
theorem dX10_howMany_99 : decode cX10_howMany 99 = .ok (.getfield 124, 3) := by decide +kernel
theorem dX10_howMany_102 : decode cX10_howMany 102 = .ok (.ireturn, 1) := by decide +kernel
theorem dX10_howMany_103 : decode cX10_howMany 103 = .ok (.aload_n 0, 1) := by decide +kernel
theorem dX10_howMany_104 : decode cX10_howMany 104 = .ok (.getfield 10, 3) := by decide +kernel
theorem dX10_howMany_107 : decode cX10_howMany 107 = .ok (.getfield 146, 3) := by decide +kernel
theorem dX10_howMany_110 : decode cX10_howMany 110 = .ok (.getfield 278, 3) := by decide +kernel
theorem dX10_howMany_113 : decode cX10_howMany 113 = .ok (.ireturn, 1) := by decide +kernel
noncomputable def f_X10_howMany (x1 : Int32) (μ : Mem) : Option Int32 :=
  if x1 = 0 then
    some (μ.1 2 0)
  else
  if x1 = 1 then
    some (μ.1 2 1)
  else
  if x1 = 2 then
    some (μ.1 7 0)
  else
  if x1 = 3 then
    some (μ.1 2 2)
  else
  if x1 = 4 then
    some (μ.1 10 0)
  else
  if x1 = 5 then
    some (μ.1 45 1)
  else
  some (μ.1 2 3)
set_option maxHeartbeats 4000000 in
set_option maxRecDepth 100000 in
theorem c_X10_howMany {g : GT} {x1 : Int32} {μ : Mem} {r0 : Int32} (hf : f_X10_howMany x1 μ = some r0) : CI g yX10_howMany cX10_howMany 2 (some .int) 1 [rf g 0, .int x1] μ r0 μ := by
  refine mk_i (by decide) (Nat.le_of_ble_eq_true rfl) ?_
  intro G hX hR
  have hX : CX g G cX10_howMany RX10 2 1 := hX
  suffices S : ∀ K : Int32 → Prop, (∀ a, K a → a = r0) → Sim G (f_X10_howMany x1 μ) K 0 [(0, rf g 0), (1, .int x1)] [] μ from S (fun a => a = r0) (fun a h => h) _ hf rfl
  intro K hK
  unfold f_X10_howMany
  refine s_iload_n hX dX10_howMany_0 rfl 1 rfl ?_
  refine s_tabC (v := 0) (a := 0) hX 40 dX10_howMany_1 (by decide) (by decide) (by decide) rfl (by decide) ?_ (fun hne1 => ?_)
  · refine s_aload_n hX dX10_howMany_40 rfl 0 rfl ?_
    refine s_getR hX (d := 1) 1 flX10_10 rfl rfl dX10_howMany_41 ?_
    refine s_getR hX (d := 1) 2 flX10_146 rfl rfl dX10_howMany_44 ?_
    refine s_getI hX flX10_265 rfl dX10_howMany_47 ?_
    exact s_iretr hK hR dX10_howMany_50
  refine s_tabC (v := 1) (a := 1) hX 51 dX10_howMany_1 (by decide) (by decide) (by decide) rfl (by decide) ?_ (fun hne2 => ?_)
  · refine s_aload_n hX dX10_howMany_51 rfl 0 rfl ?_
    refine s_getR hX (d := 1) 1 flX10_10 rfl rfl dX10_howMany_52 ?_
    refine s_getR hX (d := 1) 2 flX10_146 rfl rfl dX10_howMany_55 ?_
    refine s_getI hX flX10_319 rfl dX10_howMany_58 ?_
    exact s_iretr hK hR dX10_howMany_61
  refine s_tabC (v := 2) (a := 2) hX 62 dX10_howMany_1 (by decide) (by decide) (by decide) rfl (by decide) ?_ (fun hne3 => ?_)
  · refine s_aload_n hX dX10_howMany_62 rfl 0 rfl ?_
    refine s_getR hX (d := 1) 1 flX10_10 rfl rfl dX10_howMany_63 ?_
    refine s_getR hX (d := 6) 7 flX10_234 rfl rfl dX10_howMany_66 ?_
    refine s_getI hX flX10_322 rfl dX10_howMany_69 ?_
    exact s_iretr hK hR dX10_howMany_72
  refine s_tabC (v := 3) (a := 3) hX 73 dX10_howMany_1 (by decide) (by decide) (by decide) rfl (by decide) ?_ (fun hne4 => ?_)
  · refine s_aload_n hX dX10_howMany_73 rfl 0 rfl ?_
    refine s_getR hX (d := 1) 1 flX10_10 rfl rfl dX10_howMany_74 ?_
    refine s_getR hX (d := 1) 2 flX10_146 rfl rfl dX10_howMany_77 ?_
    refine s_getI hX flX10_325 rfl dX10_howMany_80 ?_
    exact s_iretr hK hR dX10_howMany_83
  refine s_tabC (v := 4) (a := 4) hX 84 dX10_howMany_1 (by decide) (by decide) (by decide) rfl (by decide) ?_ (fun hne5 => ?_)
  · refine s_aload_n hX dX10_howMany_84 rfl 0 rfl ?_
    refine s_getR hX (d := 1) 1 flX10_10 rfl rfl dX10_howMany_85 ?_
    refine s_getR hX (d := 9) 10 flX10_328 rfl rfl dX10_howMany_88 ?_
    refine s_getI hX flX10_332 rfl dX10_howMany_91 ?_
    exact s_iretr hK hR dX10_howMany_94
  refine s_tabC (v := 5) (a := 5) hX 95 dX10_howMany_1 (by decide) (by decide) (by decide) rfl (by decide) ?_ (fun hne6 => ?_)
  · refine s_aload_n hX dX10_howMany_95 rfl 0 rfl ?_
    refine s_getR hX (d := 45) 45 flX10_27 rfl rfl dX10_howMany_96 ?_
    refine s_getI hX flX10_124 rfl dX10_howMany_99 ?_
    exact s_iretr hK hR dX10_howMany_102
  refine s_tabD hX 103 dX10_howMany_1 (by omega) (by decide) ?_
  refine s_aload_n hX dX10_howMany_103 rfl 0 rfl ?_
  refine s_getR hX (d := 1) 1 flX10_10 rfl rfl dX10_howMany_104 ?_
  refine s_getR hX (d := 1) 2 flX10_146 rfl rfl dX10_howMany_107 ?_
  refine s_getI hX flX10_278 rfl dX10_howMany_110 ?_
  exact s_iretr hK hR dX10_howMany_113
theorem dX10_ordersWith_0 : decode cX10_ordersWith 0 = .ok (.iload_n 1, 1) := by decide +kernel
theorem dX10_ordersWith_1 : decode cX10_ordersWith 1 = .ok (.iconst 1, 1) := by decide +kernel
theorem dX10_ordersWith_2 : decode cX10_ordersWith 2 = .ok (.isub, 1) := by decide +kernel
theorem dX10_ordersWith_3 : decode cX10_ordersWith 3 = .ok (.iload_n 0, 1) := by decide +kernel
theorem dX10_ordersWith_4 : decode cX10_ordersWith 4 = .ok (.isub, 1) := by decide +kernel
theorem dX10_ordersWith_5 : decode cX10_ordersWith 5 = .ok (.istore_n 2, 1) := by decide +kernel
theorem dX10_ordersWith_6 : decode cX10_ordersWith 6 = .ok (.iload_n 0, 1) := by decide +kernel
theorem dX10_ordersWith_7 : decode cX10_ordersWith 7 = .ok (.ifCond .lt 23, 3) := by decide +kernel
theorem dX10_ordersWith_10 : decode cX10_ordersWith 10 = .ok (.iload_n 2, 1) := by decide +kernel
theorem dX10_ordersWith_11 : decode cX10_ordersWith 11 = .ok (.ifCond .lt 19, 3) := by decide +kernel
theorem dX10_ordersWith_14 : decode cX10_ordersWith 14 = .ok (.iload_n 0, 1) := by decide +kernel
theorem dX10_ordersWith_15 : decode cX10_ordersWith 15 = .ok (.getstatic 272, 3) := by decide +kernel
theorem dX10_ordersWith_18 : decode cX10_ordersWith 18 = .ok (.arraylength, 1) := by decide +kernel
theorem dX10_ordersWith_19 : decode cX10_ordersWith 19 = .ok (.if_icmp .ge 11, 3) := by decide +kernel
theorem dX10_ordersWith_22 : decode cX10_ordersWith 22 = .ok (.iload_n 2, 1) := by decide +kernel
theorem dX10_ordersWith_23 : decode cX10_ordersWith 23 = .ok (.getstatic 272, 3) := by decide +kernel
theorem dX10_ordersWith_26 : decode cX10_ordersWith 26 = .ok (.arraylength, 1) := by decide +kernel
theorem dX10_ordersWith_27 : decode cX10_ordersWith 27 = .ok (.if_icmp .lt 5, 3) := by decide +kernel
theorem dX10_ordersWith_30 : decode cX10_ordersWith 30 = .ok (.lconst 0, 1) := by decide +kernel
theorem dX10_ordersWith_31 : decode cX10_ordersWith 31 = .ok (.lreturn, 1) := by decide +kernel
theorem dX10_ordersWith_32 : decode cX10_ordersWith 32 = .ok (.getstatic 272, 3) := by decide +kernel
theorem dX10_ordersWith_35 : decode cX10_ordersWith 35 = .ok (.iload_n 0, 1) := by decide +kernel
theorem dX10_ordersWith_36 : decode cX10_ordersWith 36 = .ok (.iaload, 1) := by decide +kernel
theorem dX10_ordersWith_37 : decode cX10_ordersWith 37 = .ok (.i2l, 1) := by decide +kernel
theorem dX10_ordersWith_38 : decode cX10_ordersWith 38 = .ok (.getstatic 272, 3) := by decide +kernel
theorem dX10_ordersWith_41 : decode cX10_ordersWith 41 = .ok (.iload_n 2, 1) := by decide +kernel
theorem dX10_ordersWith_42 : decode cX10_ordersWith 42 = .ok (.iaload, 1) := by decide +kernel
theorem dX10_ordersWith_43 : decode cX10_ordersWith 43 = .ok (.i2l, 1) := by decide +kernel
theorem dX10_ordersWith_44 : decode cX10_ordersWith 44 = .ok (.lmul, 1) := by decide +kernel
theorem dX10_ordersWith_45 : decode cX10_ordersWith 45 = .ok (.lreturn, 1) := by decide +kernel
noncomputable def f_X10_ordersWith (x0 : Int32) (x1 : Int32) (μ : Mem) : Option Int64 :=
  jn (
    some 0
    ) fun j1 =>
  if x0 < 0 then
    j1
  else
    if ((x1 - 1) - x0) < 0 then
      j1
    else
      if x0 < 6 then
        if ((x1 - 1) - x0) < 6 then
          chk x0 6 (
            chk ((x1 - 1) - x0) 6 (
              some (((FACT (ix x0)) : Int32).toInt64 * ((FACT (ix ((x1 - 1) - x0))) : Int32).toInt64)
              )
            )
        else
          j1
      else
        j1
set_option maxHeartbeats 4000000 in
set_option maxRecDepth 100000 in
theorem c_X10_ordersWith {g : GT} {x0 : Int32} {x1 : Int32} {μ : Mem} {r0 : Int64} (hf : f_X10_ordersWith x0 x1 μ = some r0) : CL g yX10_ordersWith cX10_ordersWith 3 (some .long) 1 [.int x0, .int x1] μ r0 μ := by
  refine mk_l (by decide) (Nat.le_of_ble_eq_true rfl) ?_
  intro G hX hR
  have hX : CX g G cX10_ordersWith RX10 3 1 := hX
  suffices S : ∀ K : Int64 → Prop, (∀ a, K a → a = r0) → Sim G (f_X10_ordersWith x0 x1 μ) K 0 [(0, .int x0), (1, .int x1)] [] μ from S (fun a => a = r0) (fun a h => h) _ hf rfl
  intro K hK
  unfold f_X10_ordersWith
  refine s_iload_n hX dX10_ordersWith_0 rfl 1 rfl ?_
  refine s_iconst (v := 1) hX dX10_ordersWith_1 (by decide) ?_
  refine s_isub hX dX10_ordersWith_2 ?_
  refine s_iload_n hX dX10_ordersWith_3 rfl 0 rfl ?_
  refine s_isub hX dX10_ordersWith_4 ?_
  refine s_istore_n (lv' := [(2, .int ((x1 - 1) - x0)), (0, .int x0), (1, .int x1)]) hX dX10_ordersWith_5 rfl (by decide) rfl ?_
  refine s_iload_n hX dX10_ordersWith_6 rfl 1 rfl ?_
  refine s_jn (C := fun j => Sim G (j) K 30 [] [] μ) ?_ (fun j1 hj1 => ?_)
  · skip
    show Sim G _ _ 30 [] [] μ
    refine s_lconst (v := 0) hX dX10_ordersWith_30 (by decide) ?_
    exact s_lretr hK hR dX10_ordersWith_31
  refine s_if_lt hX 30 dX10_ordersWith_7 (by decide) ?_ ?_
  · exact s_to hX [] rfl (hj1)
  · refine s_iload_n hX dX10_ordersWith_10 rfl 0 rfl ?_
    refine s_if_lt hX 30 dX10_ordersWith_11 (by decide) ?_ ?_
    · exact s_to hX [] rfl (hj1)
    · refine s_iload_n hX dX10_ordersWith_14 rfl 1 rfl ?_
      refine s_gets0 hX ksX10_272 dX10_ordersWith_15 ?_
      refine s_tlen0 (v := 6) hX (by decide) dX10_ordersWith_18 ?_
      refine s_icmp_ge hX 30 dX10_ordersWith_19 (by decide) ?_ ?_
      · exact s_to hX [] rfl (hj1)
      · refine s_iload_n hX dX10_ordersWith_22 rfl 0 rfl ?_
        refine s_gets0 hX ksX10_272 dX10_ordersWith_23 ?_
        refine s_tlen0 (v := 6) hX (by decide) dX10_ordersWith_26 ?_
        refine s_icmp_lt hX 32 dX10_ordersWith_27 (by decide) ?_ ?_
        · refine s_gets0 hX ksX10_272 dX10_ordersWith_32 ?_
          refine s_iload_n hX dX10_ordersWith_35 rfl 1 rfl ?_
          refine s_tald0 hX dX10_ordersWith_36 ?_
          refine s_i2l hX dX10_ordersWith_37 ?_
          refine s_gets0 hX ksX10_272 dX10_ordersWith_38 ?_
          refine s_iload_n hX dX10_ordersWith_41 rfl 0 rfl ?_
          refine s_tald0 hX dX10_ordersWith_42 ?_
          refine s_i2l hX dX10_ordersWith_43 ?_
          refine s_lmul hX dX10_ordersWith_44 ?_
          exact s_lretr hK hR dX10_ordersWith_45
        · exact s_to hX [] rfl (hj1)
theorem dX10_refuseAsBad_0 : decode cX10_refuseAsBad 0 = .ok (.aload_n 0, 1) := by decide +kernel
theorem dX10_refuseAsBad_1 : decode cX10_refuseAsBad 1 = .ok (.dup, 1) := by decide +kernel
theorem dX10_refuseAsBad_2 : decode cX10_refuseAsBad 2 = .ok (.getfield 76, 3) := by decide +kernel
theorem dX10_refuseAsBad_5 : decode cX10_refuseAsBad 5 = .ok (.iconst 1, 1) := by decide +kernel
theorem dX10_refuseAsBad_6 : decode cX10_refuseAsBad 6 = .ok (.iadd, 1) := by decide +kernel
theorem dX10_refuseAsBad_7 : decode cX10_refuseAsBad 7 = .ok (.putfield 76, 3) := by decide +kernel
theorem dX10_refuseAsBad_10 : decode cX10_refuseAsBad 10 = .ok (.iload_n 1, 1) := by decide +kernel
theorem dX10_refuseAsBad_11 : decode cX10_refuseAsBad 11 = .ok (.ireturn, 1) := by decide +kernel
noncomputable def f_X10_refuseAsBad (x1 : Int32) (μ : Mem) : Option (Int32 × Mem) :=
  lt (setI μ 0 12 ((μ.1 0 12) + 1)) fun ν1 =>
  some (x1, ν1)
set_option maxHeartbeats 4000000 in
set_option maxRecDepth 100000 in
theorem c_X10_refuseAsBad {g : GT} {x1 : Int32} {μ : Mem} {μ0 : Mem} {r0 : Int32} (hf : f_X10_refuseAsBad x1 μ = some (r0, μ0)) : CI g yX10_refuseAsBad cX10_refuseAsBad 2 (some .int) 1 [rf g 0, .int x1] μ r0 μ0 := by
  refine mk_i (by decide) (Nat.le_of_ble_eq_true rfl) ?_
  intro G hX hR
  have hX : CX g G cX10_refuseAsBad RX10 2 1 := hX
  suffices S : ∀ K : (Int32 × Mem) → Prop, (∀ a, K a → a = (r0, μ0)) → Sim G (f_X10_refuseAsBad x1 μ) K 0 [(0, rf g 0), (1, .int x1)] [] μ from S (fun a => a = (r0, μ0)) (fun a h => h) _ hf rfl
  intro K hK
  unfold f_X10_refuseAsBad
  refine s_aload_n hX dX10_refuseAsBad_0 rfl 0 rfl ?_
  refine s_dup hX dX10_refuseAsBad_1 rfl ?_
  refine s_getI hX flX10_76 rfl dX10_refuseAsBad_2 ?_
  refine s_iconst (v := 1) hX dX10_refuseAsBad_5 (by decide) ?_
  refine s_iadd hX dX10_refuseAsBad_6 ?_
  refine s_putI hX flX10_76 rfl ⟨rfl, rfl⟩ dX10_refuseAsBad_7 (fun ν1 => ?_)
  refine s_iload_n hX dX10_refuseAsBad_10 rfl 1 rfl ?_
  exact s_ireti hK hR dX10_refuseAsBad_11
theorem dX10_tally_0 : decode cX10_tally 0 = .ok (.iload_n 1, 1) := by decide +kernel
theorem dX10_tally_1 : decode cX10_tally 1 = .ok (.bipush (-2), 2) := by decide +kernel
theorem dX10_tally_3 : decode cX10_tally 3 = .ok (.if_icmp .ne 16, 3) := by decide +kernel
theorem dX10_tally_6 : decode cX10_tally 6 = .ok (.aload_n 0, 1) := by decide +kernel
theorem dX10_tally_7 : decode cX10_tally 7 = .ok (.dup, 1) := by decide +kernel
theorem dX10_tally_8 : decode cX10_tally 8 = .ok (.getfield 76, 3) := by decide +kernel
theorem dX10_tally_11 : decode cX10_tally 11 = .ok (.iconst 1, 1) := by decide +kernel
theorem dX10_tally_12 : decode cX10_tally 12 = .ok (.iadd, 1) := by decide +kernel
theorem dX10_tally_13 : decode cX10_tally 13 = .ok (.putfield 76, 3) := by decide +kernel
theorem dX10_tally_16 : decode cX10_tally 16 = .ok (.goto 38, 3) := by decide +kernel
theorem dX10_tally_19 : decode cX10_tally 19 = .ok (.iload_n 1, 1) := by decide +kernel
theorem dX10_tally_20 : decode cX10_tally 20 = .ok (.bipush (-3), 2) := by decide +kernel
theorem dX10_tally_22 : decode cX10_tally 22 = .ok (.if_icmp .ne 16, 3) := by decide +kernel
theorem dX10_tally_25 : decode cX10_tally 25 = .ok (.aload_n 0, 1) := by decide +kernel
theorem dX10_tally_26 : decode cX10_tally 26 = .ok (.dup, 1) := by decide +kernel
theorem dX10_tally_27 : decode cX10_tally 27 = .ok (.getfield 80, 3) := by decide +kernel
theorem dX10_tally_30 : decode cX10_tally 30 = .ok (.iconst 1, 1) := by decide +kernel
theorem dX10_tally_31 : decode cX10_tally 31 = .ok (.iadd, 1) := by decide +kernel
theorem dX10_tally_32 : decode cX10_tally 32 = .ok (.putfield 80, 3) := by decide +kernel
theorem dX10_tally_35 : decode cX10_tally 35 = .ok (.goto 19, 3) := by decide +kernel
theorem dX10_tally_38 : decode cX10_tally 38 = .ok (.iload_n 1, 1) := by decide +kernel
theorem dX10_tally_39 : decode cX10_tally 39 = .ok (.bipush (-4), 2) := by decide +kernel
theorem dX10_tally_41 : decode cX10_tally 41 = .ok (.if_icmp .ne 13, 3) := by decide +kernel
theorem dX10_tally_44 : decode cX10_tally 44 = .ok (.aload_n 0, 1) := by decide +kernel
theorem dX10_tally_45 : decode cX10_tally 45 = .ok (.dup, 1) := by decide +kernel
theorem dX10_tally_46 : decode cX10_tally 46 = .ok (.getfield 83, 3) := by decide +kernel
theorem dX10_tally_49 : decode cX10_tally 49 = .ok (.iconst 1, 1) := by decide +kernel
theorem dX10_tally_50 : decode cX10_tally 50 = .ok (.iadd, 1) := by decide +kernel
theorem dX10_tally_51 : decode cX10_tally 51 = .ok (.putfield 83, 3) := by decide +kernel
theorem dX10_tally_54 : decode cX10_tally 54 = .ok (.iload_n 1, 1) := by decide +kernel
theorem dX10_tally_55 : decode cX10_tally 55 = .ok (.ireturn, 1) := by decide +kernel
noncomputable def f_X10_tally (x1 : Int32) (μ : Mem) : Option (Int32 × Mem) :=
  jn (fun (ν1 : Mem) =>
    some (x1, ν1)
    ) fun j2 =>
  if x1 = (-2) then
    lt (setI μ 0 12 ((μ.1 0 12) + 1)) fun ν5 =>
    j2 ν5
  else
    if x1 = (-3) then
      lt (setI μ 0 13 ((μ.1 0 13) + 1)) fun ν4 =>
      j2 ν4
    else
      if x1 = (-4) then
        lt (setI μ 0 14 ((μ.1 0 14) + 1)) fun ν3 =>
        j2 ν3
      else
        j2 μ
set_option maxHeartbeats 4000000 in
set_option maxRecDepth 100000 in
theorem c_X10_tally {g : GT} {x1 : Int32} {μ : Mem} {μ0 : Mem} {r0 : Int32} (hf : f_X10_tally x1 μ = some (r0, μ0)) : CI g yX10_tally cX10_tally 2 (some .int) 1 [rf g 0, .int x1] μ r0 μ0 := by
  refine mk_i (by decide) (Nat.le_of_ble_eq_true rfl) ?_
  intro G hX hR
  have hX : CX g G cX10_tally RX10 2 1 := hX
  suffices S : ∀ K : (Int32 × Mem) → Prop, (∀ a, K a → a = (r0, μ0)) → Sim G (f_X10_tally x1 μ) K 0 [(0, rf g 0), (1, .int x1)] [] μ from S (fun a => a = (r0, μ0)) (fun a h => h) _ hf rfl
  intro K hK
  unfold f_X10_tally
  refine s_iload_n hX dX10_tally_0 rfl 1 rfl ?_
  refine s_bipush (v := (-2)) hX dX10_tally_1 (by decide) ?_
  refine s_jn (C := fun j => ∀ (ν1 : Mem), Sim G (j ν1) K 54 [(1, .int x1)] [] ν1) ?_ (fun j2 hj2 => ?_)
  · intro ν1
    show Sim G _ _ 54 [(1, .int x1)] [] ν1
    refine s_iload_n hX dX10_tally_54 rfl 0 rfl ?_
    exact s_ireti hK hR dX10_tally_55
  refine s_icmp_ne hX 19 dX10_tally_3 (by decide) ?_ ?_
  · refine s_iload_n hX dX10_tally_19 rfl 1 rfl ?_
    refine s_bipush (v := (-3)) hX dX10_tally_20 (by decide) ?_
    refine s_icmp_ne hX 38 dX10_tally_22 (by decide) ?_ ?_
    · refine s_iload_n hX dX10_tally_38 rfl 1 rfl ?_
      refine s_bipush (v := (-4)) hX dX10_tally_39 (by decide) ?_
      refine s_icmp_ne hX 54 dX10_tally_41 (by decide) ?_ ?_
      · exact s_to hX [1] rfl (hj2 μ)
      · refine s_aload_n hX dX10_tally_44 rfl 0 rfl ?_
        refine s_dup hX dX10_tally_45 rfl ?_
        refine s_getI hX flX10_83 rfl dX10_tally_46 ?_
        refine s_iconst (v := 1) hX dX10_tally_49 (by decide) ?_
        refine s_iadd hX dX10_tally_50 ?_
        refine s_putI hX flX10_83 rfl ⟨rfl, rfl⟩ dX10_tally_51 (fun ν3 => ?_)
        exact s_to hX [1] rfl (hj2 ν3)
    · refine s_aload_n hX dX10_tally_25 rfl 0 rfl ?_
      refine s_dup hX dX10_tally_26 rfl ?_
      refine s_getI hX flX10_80 rfl dX10_tally_27 ?_
      refine s_iconst (v := 1) hX dX10_tally_30 (by decide) ?_
      refine s_iadd hX dX10_tally_31 ?_
      refine s_putI hX flX10_80 rfl ⟨rfl, rfl⟩ dX10_tally_32 (fun ν4 => ?_)
      refine s_goto hX 54 dX10_tally_35 (by decide) ?_
      exact s_to hX [1] rfl (hj2 ν4)
  · refine s_aload_n hX dX10_tally_6 rfl 0 rfl ?_
    refine s_dup hX dX10_tally_7 rfl ?_
    refine s_getI hX flX10_76 rfl dX10_tally_8 ?_
    refine s_iconst (v := 1) hX dX10_tally_11 (by decide) ?_
    refine s_iadd hX dX10_tally_12 ?_
    refine s_putI hX flX10_76 rfl ⟨rfl, rfl⟩ dX10_tally_13 (fun ν5 => ?_)
    refine s_goto hX 54 dX10_tally_16 (by decide) ?_
    exact s_to hX [1] rfl (hj2 ν5)
theorem dX11_all_0 : decode cX11_all 0 = .ok (.iconst 1, 1) := by decide +kernel
theorem dX11_all_1 : decode cX11_all 1 = .ok (.aload_n 0, 1) := by decide +kernel
theorem dX11_all_2 : decode cX11_all 2 = .ok (.getfield 7, 3) := by decide +kernel
theorem dX11_all_5 : decode cX11_all 5 = .ok (.iconst 0, 1) := by decide +kernel
theorem dX11_all_6 : decode cX11_all 6 = .ok (.iaload, 1) := by decide +kernel
theorem dX11_all_7 : decode cX11_all 7 = .ok (.ishl, 1) := by decide +kernel
theorem dX11_all_8 : decode cX11_all 8 = .ok (.iconst 1, 1) := by decide +kernel
theorem dX11_all_9 : decode cX11_all 9 = .ok (.isub, 1) := by decide +kernel
theorem dX11_all_10 : decode cX11_all 10 = .ok (.ireturn, 1) := by decide +kernel
noncomputable def f_X11_all  (μ : Mem) : Option Int32 :=
  some ((1 <<< ((μ.1 113 0) &&& 31)) - 1)
set_option maxHeartbeats 4000000 in
set_option maxRecDepth 100000 in
theorem c_X11_all {g : GT}  {μ : Mem} {r0 : Int32} (hf : f_X11_all  μ = some r0) : CI g yX11_all cX11_all 1 (some .int) 1 [rf g 112] μ r0 μ := by
  refine mk_i (by decide) (Nat.le_of_ble_eq_true rfl) ?_
  intro G hX hR
  have hX : CX g G cX11_all RX11 1 1 := hX
  suffices S : ∀ K : Int32 → Prop, (∀ a, K a → a = r0) → Sim G (f_X11_all  μ) K 0 [(0, rf g 112)] [] μ from S (fun a => a = r0) (fun a h => h) _ hf rfl
  intro K hK
  unfold f_X11_all
  refine s_iconst (v := 1) hX dX11_all_0 (by decide) ?_
  refine s_aload_n hX dX11_all_1 rfl 0 rfl ?_
  refine s_getR hX (d := 1) 113 flX11_7 rfl rfl dX11_all_2 ?_
  refine s_iconst (v := 0) hX dX11_all_5 (by decide) ?_
  refine s_ialdK hX rfl rfl (by decide) rfl dX11_all_6 ?_
  refine s_ishl hX dX11_all_7 ?_
  refine s_iconst (v := 1) hX dX11_all_8 (by decide) ?_
  refine s_isub hX dX11_all_9 ?_
  exact s_iretr hK hR dX11_all_10
theorem dX11_asNow_0 : decode cX11_asNow 0 = .ok (.iconst 0, 1) := by decide +kernel
theorem dX11_asNow_1 : decode cX11_asNow 1 = .ok (.istore_n 1, 1) := by decide +kernel
theorem dX11_asNow_2 : decode cX11_asNow 2 = .ok (.iload_n 1, 1) := by decide +kernel
theorem dX11_asNow_3 : decode cX11_asNow 3 = .ok (.bipush 10, 2) := by decide +kernel
theorem dX11_asNow_5 : decode cX11_asNow 5 = .ok (.if_icmp .ge 24, 3) := by decide +kernel
theorem dX11_asNow_8 : decode cX11_asNow 8 = .ok (.aload_n 0, 1) := by decide +kernel
theorem dX11_asNow_9 : decode cX11_asNow 9 = .ok (.getfield 32, 3) := by decide +kernel
theorem dX11_asNow_12 : decode cX11_asNow 12 = .ok (.iload_n 1, 1) := by decide +kernel
theorem dX11_asNow_13 : decode cX11_asNow 13 = .ok (.aload_n 0, 1) := by decide +kernel
theorem dX11_asNow_14 : decode cX11_asNow 14 = .ok (.getfield 7, 3) := by decide +kernel
theorem dX11_asNow_17 : decode cX11_asNow 17 = .ok (.bipush 26, 2) := by decide +kernel
theorem dX11_asNow_19 : decode cX11_asNow 19 = .ok (.iload_n 1, 1) := by decide +kernel
theorem dX11_asNow_20 : decode cX11_asNow 20 = .ok (.iadd, 1) := by decide +kernel
theorem dX11_asNow_21 : decode cX11_asNow 21 = .ok (.iaload, 1) := by decide +kernel
theorem dX11_asNow_22 : decode cX11_asNow 22 = .ok (.iastore, 1) := by decide +kernel
theorem dX11_asNow_23 : decode cX11_asNow 23 = .ok (.iinc 1 1, 3) := by decide +kernel
theorem dX11_asNow_26 : decode cX11_asNow 26 = .ok (.goto (-24), 3) := by decide +kernel
theorem dX11_asNow_29 : decode cX11_asNow 29 = .ok (.return_, 1) := by decide +kernel
noncomputable def f_X11_asNow  (μ : Mem) : Option Mem :=
  bd (lp (ε := Mem) (cu2 fun (x1_1 : Int32) (ν2 : Mem) =>
    if x1_1 < 10 then
      chk (26 + x1_1) 184 (
        chk x1_1 10 (lt (setI ν2 120 (ix x1_1) (ν2.1 113 (ix (26 + x1_1)))) fun ν5 =>
          some (.inl ((x1_1 + 1), ν5))
          )
        )
    else
      some (.inr ν2)
    ) (0, μ)) (fun (ν3 : Mem) =>
    some ν3
    )
set_option maxHeartbeats 4000000 in
set_option maxRecDepth 100000 in
theorem c_X11_asNow {g : GT}  {μ : Mem} {μ0 : Mem} (hf : f_X11_asNow  μ = some μ0) : CV g yX11_asNow cX11_asNow 2 (none) 1 [rf g 112] μ μ0 := by
  refine mk_v (by decide) (Nat.le_of_ble_eq_true rfl) ?_
  intro G hX hR
  have hX : CX g G cX11_asNow RX11 2 1 := hX
  suffices S : ∀ K : Mem → Prop, (∀ a, K a → a = μ0) → Sim G (f_X11_asNow  μ) K 0 [(0, rf g 112)] [] μ from S (fun a => a = μ0) (fun a h => h) _ hf rfl
  intro K hK
  unfold f_X11_asNow
  refine s_iconst (v := 0) hX dX11_asNow_0 (by decide) ?_
  refine s_istore_n (lv' := [(1, .int 0), (0, rf g 112)]) hX dX11_asNow_1 rfl (by decide) rfl ?_
  refine s_loop hX 2 29 (fun s : Int32 × Mem => [(0, rf g 112), (1, .int s.1)]) (fun s : Int32 × Mem => s.2) (fun s : Mem => []) (fun s : Mem => s) [1, 0] rfl rfl rfl ?_ ?_
  · intro Kq4 hIq4 hJq4 sq
    obtain ⟨x1_1, ν2⟩ := sq
    refine s_cu2 ?_
    show Sim G _ _ 2 [(0, rf g 112), (1, .int x1_1)] [] ν2
    refine s_iload_n hX dX11_asNow_2 rfl 1 rfl ?_
    refine s_bipush (v := 10) hX dX11_asNow_3 (by decide) ?_
    refine s_icmp_ge hX 29 dX11_asNow_5 (by decide) ?_ ?_
    · exact s_end hX (hJq4 ν2) [] rfl
    · refine s_aload_n hX dX11_asNow_8 rfl 0 rfl ?_
      refine s_getR hX (d := 8) 120 flX11_32 rfl rfl dX11_asNow_9 ?_
      refine s_iload_n hX dX11_asNow_12 rfl 1 rfl ?_
      refine s_aload_n hX dX11_asNow_13 rfl 0 rfl ?_
      refine s_getR hX (d := 1) 113 flX11_7 rfl rfl dX11_asNow_14 ?_
      refine s_bipush (v := 26) hX dX11_asNow_17 (by decide) ?_
      refine s_iload_n hX dX11_asNow_19 rfl 1 rfl ?_
      refine s_iadd hX dX11_asNow_20 ?_
      refine s_iald hX rfl rfl dX11_asNow_21 ?_
      refine s_iast hX rfl rfl dX11_asNow_22 (fun ν5 => ?_)
      refine s_iinc (v := (x1_1 + 1)) (lv' := [(1, .int (x1_1 + 1)), (0, rf g 112)]) hX dX11_asNow_23 1 rfl rfl (by decide) rfl ?_
      refine s_goto hX 2 dX11_asNow_26 (by decide) ?_
      exact s_end hX (hIq4 ((x1_1 + 1), ν5)) [1, 0] rfl
  · intro sq
    obtain ⟨ν3, rfl⟩ : ∃ z, z = sq := ⟨_, rfl⟩
    show Sim G _ _ 29 [] [] ν3
    exact s_vreti hK hR dX11_asNow_29
theorem dX11_begins_0 : decode cX11_begins 0 = .ok (.iconst 0, 1) := by decide +kernel
theorem dX11_begins_1 : decode cX11_begins 1 = .ok (.istore_n 2, 1) := by decide +kernel
theorem dX11_begins_2 : decode cX11_begins 2 = .ok (.iload_n 2, 1) := by decide +kernel
theorem dX11_begins_3 : decode cX11_begins 3 = .ok (.sipush 184, 3) := by decide +kernel
theorem dX11_begins_6 : decode cX11_begins 6 = .ok (.if_icmp .ge 16, 3) := by decide +kernel
theorem dX11_begins_9 : decode cX11_begins 9 = .ok (.aload_n 0, 1) := by decide +kernel
theorem dX11_begins_10 : decode cX11_begins 10 = .ok (.getfield 7, 3) := by decide +kernel
theorem dX11_begins_13 : decode cX11_begins 13 = .ok (.iload_n 2, 1) := by decide +kernel
theorem dX11_begins_14 : decode cX11_begins 14 = .ok (.iconst 0, 1) := by decide +kernel
theorem dX11_begins_15 : decode cX11_begins 15 = .ok (.iastore, 1) := by decide +kernel
theorem dX11_begins_16 : decode cX11_begins 16 = .ok (.iinc 2 1, 3) := by decide +kernel
theorem dX11_begins_19 : decode cX11_begins 19 = .ok (.goto (-17), 3) := by decide +kernel
theorem dX11_begins_22 : decode cX11_begins 22 = .ok (.aload_n 0, 1) := by decide +kernel
theorem dX11_begins_23 : decode cX11_begins 23 = .ok (.getfield 7, 3) := by decide +kernel
theorem dX11_begins_26 : decode cX11_begins 26 = .ok (.iconst 0, 1) := by decide +kernel
theorem dX11_begins_27 : decode cX11_begins 27 = .ok (.iload_n 1, 1) := by decide +kernel
theorem dX11_begins_28 : decode cX11_begins 28 = .ok (.iastore, 1) := by decide +kernel
theorem dX11_begins_29 : decode cX11_begins 29 = .ok (.return_, 1) := by decide +kernel
noncomputable def f_X11_begins (x1 : Int32) (μ : Mem) : Option Mem :=
  bd (lp (ε := Mem) (cu2 fun (x2_1 : Int32) (ν2 : Mem) =>
    if x2_1 < 184 then
      chk x2_1 184 (lt (setI ν2 113 (ix x2_1) 0) fun ν5 =>
        some (.inl ((x2_1 + 1), ν5))
        )
    else
      some (.inr ν2)
    ) (0, μ)) (fun (ν3 : Mem) =>
    lt (setI ν3 113 0 x1) fun ν6 =>
    some ν6
    )
set_option maxHeartbeats 4000000 in
set_option maxRecDepth 100000 in
theorem c_X11_begins {g : GT} {x1 : Int32} {μ : Mem} {μ0 : Mem} (hf : f_X11_begins x1 μ = some μ0) : CV g yX11_begins cX11_begins 3 (none) 1 [rf g 112, .int x1] μ μ0 := by
  refine mk_v (by decide) (Nat.le_of_ble_eq_true rfl) ?_
  intro G hX hR
  have hX : CX g G cX11_begins RX11 3 1 := hX
  suffices S : ∀ K : Mem → Prop, (∀ a, K a → a = μ0) → Sim G (f_X11_begins x1 μ) K 0 [(0, rf g 112), (1, .int x1)] [] μ from S (fun a => a = μ0) (fun a h => h) _ hf rfl
  intro K hK
  unfold f_X11_begins
  refine s_iconst (v := 0) hX dX11_begins_0 (by decide) ?_
  refine s_istore_n (lv' := [(2, .int 0), (0, rf g 112), (1, .int x1)]) hX dX11_begins_1 rfl (by decide) rfl ?_
  refine s_loop hX 2 22 (fun s : Int32 × Mem => [(0, rf g 112), (1, .int x1), (2, .int s.1)]) (fun s : Int32 × Mem => s.2) (fun s : Mem => [(0, rf g 112), (1, .int x1)]) (fun s : Mem => s) [1, 2, 0] rfl rfl rfl ?_ ?_
  · intro Kq4 hIq4 hJq4 sq
    obtain ⟨x2_1, ν2⟩ := sq
    refine s_cu2 ?_
    show Sim G _ _ 2 [(0, rf g 112), (1, .int x1), (2, .int x2_1)] [] ν2
    refine s_iload_n hX dX11_begins_2 rfl 2 rfl ?_
    refine s_sipush (v := 184) hX dX11_begins_3 (by decide) ?_
    refine s_icmp_ge hX 22 dX11_begins_6 (by decide) ?_ ?_
    · exact s_end hX (hJq4 ν2) [0, 1] rfl
    · refine s_aload_n hX dX11_begins_9 rfl 0 rfl ?_
      refine s_getR hX (d := 1) 113 flX11_7 rfl rfl dX11_begins_10 ?_
      refine s_iload_n hX dX11_begins_13 rfl 2 rfl ?_
      refine s_iconst (v := 0) hX dX11_begins_14 (by decide) ?_
      refine s_iast hX rfl rfl dX11_begins_15 (fun ν5 => ?_)
      refine s_iinc (v := (x2_1 + 1)) (lv' := [(2, .int (x2_1 + 1)), (0, rf g 112), (1, .int x1)]) hX dX11_begins_16 2 rfl rfl (by decide) rfl ?_
      refine s_goto hX 2 dX11_begins_19 (by decide) ?_
      exact s_end hX (hIq4 ((x2_1 + 1), ν5)) [1, 2, 0] rfl
  · intro sq
    obtain ⟨ν3, rfl⟩ : ∃ z, z = sq := ⟨_, rfl⟩
    show Sim G _ _ 22 [(0, rf g 112), (1, .int x1)] [] ν3
    refine s_aload_n hX dX11_begins_22 rfl 0 rfl ?_
    refine s_getR hX (d := 1) 113 flX11_7 rfl rfl dX11_begins_23 ?_
    refine s_iconst (v := 0) hX dX11_begins_26 (by decide) ?_
    refine s_iload_n hX dX11_begins_27 rfl 1 rfl ?_
    refine s_iastK hX rfl rfl (by decide) rfl dX11_begins_28 (fun ν6 => ?_)
    exact s_vreti hK hR dX11_begins_29
theorem dX11_bits_0 : decode cX11_bits 0 = .ok (.iconst 0, 1) := by decide +kernel
theorem dX11_bits_1 : decode cX11_bits 1 = .ok (.istore_n 1, 1) := by decide +kernel
theorem dX11_bits_2 : decode cX11_bits 2 = .ok (.iconst 0, 1) := by decide +kernel
theorem dX11_bits_3 : decode cX11_bits 3 = .ok (.istore_n 2, 1) := by decide +kernel
theorem dX11_bits_4 : decode cX11_bits 4 = .ok (.iload_n 2, 1) := by decide +kernel
theorem dX11_bits_5 : decode cX11_bits 5 = .ok (.bipush 10, 2) := by decide +kernel
theorem dX11_bits_7 : decode cX11_bits 7 = .ok (.if_icmp .ge 17, 3) := by decide +kernel
theorem dX11_bits_10 : decode cX11_bits 10 = .ok (.iload_n 1, 1) := by decide +kernel
theorem dX11_bits_11 : decode cX11_bits 11 = .ok (.iload_n 0, 1) := by decide +kernel
theorem dX11_bits_12 : decode cX11_bits 12 = .ok (.iload_n 2, 1) := by decide +kernel
theorem dX11_bits_13 : decode cX11_bits 13 = .ok (.ishr, 1) := by decide +kernel
theorem dX11_bits_14 : decode cX11_bits 14 = .ok (.iconst 1, 1) := by decide +kernel
theorem dX11_bits_15 : decode cX11_bits 15 = .ok (.iand, 1) := by decide +kernel
theorem dX11_bits_16 : decode cX11_bits 16 = .ok (.iadd, 1) := by decide +kernel
theorem dX11_bits_17 : decode cX11_bits 17 = .ok (.istore_n 1, 1) := by decide +kernel
theorem dX11_bits_18 : decode cX11_bits 18 = .ok (.iinc 2 1, 3) := by decide +kernel
theorem dX11_bits_21 : decode cX11_bits 21 = .ok (.goto (-17), 3) := by decide +kernel
theorem dX11_bits_24 : decode cX11_bits 24 = .ok (.iload_n 1, 1) := by decide +kernel
theorem dX11_bits_25 : decode cX11_bits 25 = .ok (.ireturn, 1) := by decide +kernel
noncomputable def f_X11_bits (x0 : Int32) : Option Int32 :=
  bd (lp (ε := Int32) (cu2 fun (x1_1 : Int32) (x2_2 : Int32) =>
    if x2_2 < 10 then
      lt (x1_1 + ((x0 >>> (x2_2 &&& 31)) &&& 1)) fun x1_5 =>
      some (.inl (x1_5, (x2_2 + 1)))
    else
      some (.inr x1_1)
    ) (0, 0)) (fun (x1_3 : Int32) =>
    some x1_3
    )
set_option maxHeartbeats 4000000 in
set_option maxRecDepth 100000 in
theorem c_X11_bits {g : GT} {x0 : Int32} {μ : Mem} {r0 : Int32} (hf : f_X11_bits x0 = some r0) : CI g yX11_bits cX11_bits 3 (some .int) 1 [.int x0] μ r0 μ := by
  refine mk_i (by decide) (Nat.le_of_ble_eq_true rfl) ?_
  intro G hX hR
  have hX : CX g G cX11_bits RX11 3 1 := hX
  suffices S : ∀ K : Int32 → Prop, (∀ a, K a → a = r0) → Sim G (f_X11_bits x0) K 0 [(0, .int x0)] [] μ from S (fun a => a = r0) (fun a h => h) _ hf rfl
  intro K hK
  unfold f_X11_bits
  refine s_iconst (v := 0) hX dX11_bits_0 (by decide) ?_
  refine s_istore_n (lv' := [(1, .int 0), (0, .int x0)]) hX dX11_bits_1 rfl (by decide) rfl ?_
  refine s_iconst (v := 0) hX dX11_bits_2 (by decide) ?_
  refine s_istore_n (lv' := [(2, .int 0), (1, .int 0), (0, .int x0)]) hX dX11_bits_3 rfl (by decide) rfl ?_
  refine s_loop hX 4 24 (fun s : Int32 × Int32 => [(0, .int x0), (1, .int s.1), (2, .int s.2)]) (fun s : Int32 × Int32 => μ) (fun s : Int32 => [(1, .int s)]) (fun s : Int32 => μ) [2, 1, 0] rfl rfl rfl ?_ ?_
  · intro Kq4 hIq4 hJq4 sq
    obtain ⟨x1_1, x2_2⟩ := sq
    refine s_cu2 ?_
    show Sim G _ _ 4 [(0, .int x0), (1, .int x1_1), (2, .int x2_2)] [] μ
    refine s_iload_n hX dX11_bits_4 rfl 2 rfl ?_
    refine s_bipush (v := 10) hX dX11_bits_5 (by decide) ?_
    refine s_icmp_ge hX 24 dX11_bits_7 (by decide) ?_ ?_
    · exact s_end hX (hJq4 x1_1) [1] rfl
    · refine s_iload_n hX dX11_bits_10 rfl 1 rfl ?_
      refine s_iload_n hX dX11_bits_11 rfl 0 rfl ?_
      refine s_iload_n hX dX11_bits_12 rfl 2 rfl ?_
      refine s_ishr hX dX11_bits_13 ?_
      refine s_iconst (v := 1) hX dX11_bits_14 (by decide) ?_
      refine s_iand hX dX11_bits_15 ?_
      refine s_iadd hX dX11_bits_16 ?_
      refine s_lti (fun x1_5 => ?_)
      refine s_istore_n (lv' := [(1, .int x1_5), (0, .int x0), (2, .int x2_2)]) hX dX11_bits_17 rfl (by decide) rfl ?_
      refine s_iinc (v := (x2_2 + 1)) (lv' := [(2, .int (x2_2 + 1)), (1, .int x1_5), (0, .int x0)]) hX dX11_bits_18 2 rfl rfl (by decide) rfl ?_
      refine s_goto hX 4 dX11_bits_21 (by decide) ?_
      exact s_end hX (hIq4 (x1_5, (x2_2 + 1))) [2, 1, 0] rfl
  · intro sq
    obtain ⟨x1_3, rfl⟩ : ∃ z, z = sq := ⟨_, rfl⟩
    show Sim G _ _ 24 [(1, .int x1_3)] [] μ
    refine s_iload_n hX dX11_bits_24 rfl 0 rfl ?_
    exact s_iretr hK hR dX11_bits_25
theorem dX11_clear_0 : decode cX11_clear 0 = .ok (.aload_n 0, 1) := by decide +kernel
theorem dX11_clear_1 : decode cX11_clear 1 = .ok (.getfield 92, 3) := by decide +kernel
theorem dX11_clear_4 : decode cX11_clear 4 = .ok (.istore_n 1, 1) := by decide +kernel
theorem dX11_clear_5 : decode cX11_clear 5 = .ok (.aload_n 0, 1) := by decide +kernel
theorem dX11_clear_6 : decode cX11_clear 6 = .ok (.iconst 0, 1) := by decide +kernel
theorem dX11_clear_7 : decode cX11_clear 7 = .ok (.putfield 92, 3) := by decide +kernel
theorem dX11_clear_10 : decode cX11_clear 10 = .ok (.iload_n 1, 1) := by decide +kernel
theorem dX11_clear_11 : decode cX11_clear 11 = .ok (.ireturn, 1) := by decide +kernel
noncomputable def f_X11_clear  (μ : Mem) : Option (Int32 × Mem) :=
  lt (setI μ 112 9 0) fun ν1 =>
  some ((μ.1 112 9), ν1)
set_option maxHeartbeats 4000000 in
set_option maxRecDepth 100000 in
theorem c_X11_clear {g : GT}  {μ : Mem} {μ0 : Mem} {r0 : Int32} (hf : f_X11_clear  μ = some (r0, μ0)) : CI g yX11_clear cX11_clear 2 (some .int) 1 [rf g 112] μ r0 μ0 := by
  refine mk_i (by decide) (Nat.le_of_ble_eq_true rfl) ?_
  intro G hX hR
  have hX : CX g G cX11_clear RX11 2 1 := hX
  suffices S : ∀ K : (Int32 × Mem) → Prop, (∀ a, K a → a = (r0, μ0)) → Sim G (f_X11_clear  μ) K 0 [(0, rf g 112)] [] μ from S (fun a => a = (r0, μ0)) (fun a h => h) _ hf rfl
  intro K hK
  unfold f_X11_clear
  refine s_aload_n hX dX11_clear_0 rfl 0 rfl ?_
  refine s_getI hX flX11_92 rfl dX11_clear_1 ?_
  refine s_istore_n (lv' := [(1, .int (μ.1 112 9)), (0, rf g 112)]) hX dX11_clear_4 rfl (by decide) rfl ?_
  refine s_aload_n hX dX11_clear_5 rfl 1 rfl ?_
  refine s_iconst (v := 0) hX dX11_clear_6 (by decide) ?_
  refine s_putI hX flX11_92 rfl ⟨rfl, rfl⟩ dX11_clear_7 (fun ν1 => ?_)
  refine s_iload_n hX dX11_clear_10 rfl 0 rfl ?_
  exact s_ireti hK hR dX11_clear_11
theorem dX11_countOf_0 : decode cX11_countOf 0 = .ok (.iload_n 1, 1) := by decide +kernel
theorem dX11_countOf_1 : decode cX11_countOf 1 = .ok (.iconst 5, 1) := by decide +kernel
theorem dX11_countOf_2 : decode cX11_countOf 2 = .ok (.if_icmp .ge 12, 3) := by decide +kernel
theorem dX11_countOf_5 : decode cX11_countOf 5 = .ok (.aload_n 0, 1) := by decide +kernel
theorem dX11_countOf_6 : decode cX11_countOf 6 = .ok (.getfield 7, 3) := by decide +kernel
theorem dX11_countOf_9 : decode cX11_countOf 9 = .ok (.iload_n 1, 1) := by decide +kernel
theorem dX11_countOf_10 : decode cX11_countOf 10 = .ok (.iaload, 1) := by decide +kernel
theorem dX11_countOf_11 : decode cX11_countOf 11 = .ok (.goto 21, 3) := by decide +kernel
theorem dX11_countOf_14 : decode cX11_countOf 14 = .ok (.iload_n 1, 1) := by decide +kernel
theorem dX11_countOf_15 : decode cX11_countOf 15 = .ok (.iconst 5, 1) := by decide +kernel
theorem dX11_countOf_16 : decode cX11_countOf 16 = .ok (.if_icmp .ne 10, 3) := by decide +kernel
theorem dX11_countOf_19 : decode cX11_countOf 19 = .ok (.aload_n 0, 1) := by decide +kernel
theorem dX11_countOf_20 : decode cX11_countOf 20 = .ok (.getfield 92, 3) := by decide +kernel
theorem dX11_countOf_23 : decode cX11_countOf 23 = .ok (.goto 9, 3) := by decide +kernel
theorem dX11_countOf_26 : decode cX11_countOf 26 = .ok (.aload_n 0, 1) := by decide +kernel
theorem dX11_countOf_27 : decode cX11_countOf 27 = .ok (.getfield 7, 3) := by decide +kernel
theorem dX11_countOf_30 : decode cX11_countOf 30 = .ok (.iconst 5, 1) := by decide +kernel
theorem dX11_countOf_31 : decode cX11_countOf 31 = .ok (.iaload, 1) := by decide +kernel
theorem dX11_countOf_32 : decode cX11_countOf 32 = .ok (.ireturn, 1) := by decide +kernel
noncomputable def f_X11_countOf (x1 : Int32) (μ : Mem) : Option Int32 :=
  jn (fun (y1 : Int32) =>
    some y1
    ) fun j2 =>
  if x1 < 5 then
    chk x1 184 (
      j2 (μ.1 113 (ix x1))
      )
  else
    if x1 = 5 then
      j2 (μ.1 112 9)
    else
      j2 (μ.1 113 5)
set_option maxHeartbeats 4000000 in
set_option maxRecDepth 100000 in
theorem c_X11_countOf {g : GT} {x1 : Int32} {μ : Mem} {r0 : Int32} (hf : f_X11_countOf x1 μ = some r0) : CI g yX11_countOf cX11_countOf 2 (some .int) 1 [rf g 112, .int x1] μ r0 μ := by
  refine mk_i (by decide) (Nat.le_of_ble_eq_true rfl) ?_
  intro G hX hR
  have hX : CX g G cX11_countOf RX11 2 1 := hX
  suffices S : ∀ K : Int32 → Prop, (∀ a, K a → a = r0) → Sim G (f_X11_countOf x1 μ) K 0 [(0, rf g 112), (1, .int x1)] [] μ from S (fun a => a = r0) (fun a h => h) _ hf rfl
  intro K hK
  unfold f_X11_countOf
  refine s_iload_n hX dX11_countOf_0 rfl 1 rfl ?_
  refine s_iconst (v := 5) hX dX11_countOf_1 (by decide) ?_
  refine s_jn (C := fun j => ∀ (y1 : Int32), Sim G (j y1) K 32 [] [.int y1] μ) ?_ (fun j2 hj2 => ?_)
  · intro y1
    show Sim G _ _ 32 [] [.int y1] μ
    exact s_iretr hK hR dX11_countOf_32
  refine s_icmp_ge hX 14 dX11_countOf_2 (by decide) ?_ ?_
  · refine s_iload_n hX dX11_countOf_14 rfl 1 rfl ?_
    refine s_iconst (v := 5) hX dX11_countOf_15 (by decide) ?_
    refine s_icmp_ne hX 26 dX11_countOf_16 (by decide) ?_ ?_
    · refine s_aload_n hX dX11_countOf_26 rfl 0 rfl ?_
      refine s_getR hX (d := 1) 113 flX11_7 rfl rfl dX11_countOf_27 ?_
      refine s_iconst (v := 5) hX dX11_countOf_30 (by decide) ?_
      refine s_ialdK hX rfl rfl (by decide) rfl dX11_countOf_31 ?_
      exact s_to hX [] rfl (hj2 (μ.1 113 5))
    · refine s_aload_n hX dX11_countOf_19 rfl 0 rfl ?_
      refine s_getI hX flX11_92 rfl dX11_countOf_20 ?_
      refine s_goto hX 32 dX11_countOf_23 (by decide) ?_
      exact s_to hX [] rfl (hj2 (μ.1 112 9))
  · refine s_aload_n hX dX11_countOf_5 rfl 0 rfl ?_
    refine s_getR hX (d := 1) 113 flX11_7 rfl rfl dX11_countOf_6 ?_
    refine s_iload_n hX dX11_countOf_9 rfl 1 rfl ?_
    refine s_iald hX rfl rfl dX11_countOf_10 ?_
    refine s_goto hX 32 dX11_countOf_11 (by decide) ?_
    exact s_to hX [] rfl (hj2 (μ.1 113 (ix x1)))
theorem dX11_divisor_0 : decode cX11_divisor 0 = .ok (.lload_n 0, 1) := by decide +kernel
theorem dX11_divisor_1 : decode cX11_divisor 1 = .ok (.lconst 0, 1) := by decide +kernel
theorem dX11_divisor_2 : decode cX11_divisor 2 = .ok (.lcmp, 1) := by decide +kernel
theorem dX11_divisor_3 : decode cX11_divisor 3 = .ok (.ifCond .ge 8, 3) := by decide +kernel
theorem dX11_divisor_6 : decode cX11_divisor 6 = .ok (.lload_n 0, 1) := by decide +kernel
theorem dX11_divisor_7 : decode cX11_divisor 7 = .ok (.lneg, 1) := by decide +kernel
theorem dX11_divisor_8 : decode cX11_divisor 8 = .ok (.goto 4, 3) := by decide +kernel
theorem dX11_divisor_11 : decode cX11_divisor 11 = .ok (.lload_n 0, 1) := by decide +kernel
theorem dX11_divisor_12 : decode cX11_divisor 12 = .ok (.lstore 4, 2) := by decide +kernel
theorem dX11_divisor_14 : decode cX11_divisor 14 = .ok (.lload_n 2, 1) := by decide +kernel
theorem dX11_divisor_15 : decode cX11_divisor 15 = .ok (.lstore 6, 2) := by decide +kernel
theorem dX11_divisor_17 : decode cX11_divisor 17 = .ok (.lload 6, 2) := by decide +kernel
theorem dX11_divisor_19 : decode cX11_divisor 19 = .ok (.lconst 0, 1) := by decide +kernel
theorem dX11_divisor_20 : decode cX11_divisor 20 = .ok (.lcmp, 1) := by decide +kernel
theorem dX11_divisor_21 : decode cX11_divisor 21 = .ok (.ifCond .eq 21, 3) := by decide +kernel
theorem dX11_divisor_24 : decode cX11_divisor 24 = .ok (.lload 4, 2) := by decide +kernel
theorem dX11_divisor_26 : decode cX11_divisor 26 = .ok (.lload 6, 2) := by decide +kernel
theorem dX11_divisor_28 : decode cX11_divisor 28 = .ok (.lrem, 1) := by decide +kernel
theorem dX11_divisor_29 : decode cX11_divisor 29 = .ok (.lstore 8, 2) := by decide +kernel
theorem dX11_divisor_31 : decode cX11_divisor 31 = .ok (.lload 6, 2) := by decide +kernel
theorem dX11_divisor_33 : decode cX11_divisor 33 = .ok (.lstore 4, 2) := by decide +kernel
theorem dX11_divisor_35 : decode cX11_divisor 35 = .ok (.lload 8, 2) := by decide +kernel
theorem dX11_divisor_37 : decode cX11_divisor 37 = .ok (.lstore 6, 2) := by decide +kernel
theorem dX11_divisor_39 : decode cX11_divisor 39 = .ok (.goto (-22), 3) := by decide +kernel
theorem dX11_divisor_42 : decode cX11_divisor 42 = .ok (.lload 4, 2) := by decide +kernel
theorem dX11_divisor_44 : decode cX11_divisor 44 = .ok (.lreturn, 1) := by decide +kernel
noncomputable def f_X11_divisor (x0 : Int64) (x2 : Int64) : Option Int64 :=
  jn (fun (y1 : Int64) =>
    bd (lp (ε := Int64) (cu2 fun (x4_3 : Int64) (x6_4 : Int64) =>
      if x6_4 = 0 then
        some (.inr x4_3)
      else
        ckZ x6_4 (
          some (.inl (x6_4, (x4_3 - x4_3 / x6_4 * x6_4)))
          )
      ) (y1, x2)) (fun (x4_5 : Int64) =>
      some x4_5
      )
    ) fun j2 =>
  if x0 < 0 then
    j2 (-x0)
  else
    j2 x0
set_option maxHeartbeats 4000000 in
set_option maxRecDepth 100000 in
theorem c_X11_divisor {g : GT} {x0 : Int64} {x2 : Int64} {μ : Mem} {r0 : Int64} (hf : f_X11_divisor x0 x2 = some r0) : CL g yX11_divisor cX11_divisor 10 (some .long) 1 [.long x0, .long x2] μ r0 μ := by
  refine mk_l (by decide) (Nat.le_of_ble_eq_true rfl) ?_
  intro G hX hR
  have hX : CX g G cX11_divisor RX11 10 1 := hX
  suffices S : ∀ K : Int64 → Prop, (∀ a, K a → a = r0) → Sim G (f_X11_divisor x0 x2) K 0 [(0, .long x0), (2, .long x2)] [] μ from S (fun a => a = r0) (fun a h => h) _ hf rfl
  intro K hK
  unfold f_X11_divisor
  refine s_lload_n hX dX11_divisor_0 rfl 0 rfl ?_
  refine s_lconst (v := 0) hX dX11_divisor_1 (by decide) ?_
  refine s_jn (C := fun j => ∀ (y1 : Int64), Sim G (j y1) K 12 [(2, .long x2)] [.long y1] μ) ?_ (fun j2 hj2 => ?_)
  · intro y1
    show Sim G _ _ 12 [(2, .long x2)] [.long y1] μ
    refine s_lstore (lv' := [(4, .long y1), (2, .long x2)]) hX dX11_divisor_12 (by decide) rfl ?_
    refine s_lload_n hX dX11_divisor_14 rfl 1 rfl ?_
    refine s_lstore (lv' := [(6, .long x2), (4, .long y1), (2, .long x2)]) hX dX11_divisor_15 (by decide) rfl ?_
    refine s_loop hX 17 42 (fun s : Int64 × Int64 => [(4, .long s.1), (6, .long s.2)]) (fun s : Int64 × Int64 => μ) (fun s : Int64 => [(4, .long s)]) (fun s : Int64 => μ) [1, 0] rfl rfl rfl ?_ ?_
    · intro Kq6 hIq6 hJq6 sq
      obtain ⟨x4_3, x6_4⟩ := sq
      refine s_cu2 ?_
      show Sim G _ _ 17 [(4, .long x4_3), (6, .long x6_4)] [] μ
      refine s_lload hX dX11_divisor_17 1 rfl ?_
      refine s_lconst (v := 0) hX dX11_divisor_19 (by decide) ?_
      refine s_lcmp_eq hX 42 dX11_divisor_20 dX11_divisor_21 (by decide) ?_ ?_
      · exact s_end hX (hJq6 x4_3) [0] rfl
      · refine s_lload hX dX11_divisor_24 0 rfl ?_
        refine s_lload hX dX11_divisor_26 1 rfl ?_
        refine s_lremZ hX dX11_divisor_28 ?_
        refine s_lstore (lv' := [(8, .long (x4_3 - x4_3 / x6_4 * x6_4)), (4, .long x4_3), (6, .long x6_4)]) hX dX11_divisor_29 (by decide) rfl ?_
        refine s_lload hX dX11_divisor_31 2 rfl ?_
        refine s_lstore (lv' := [(4, .long x6_4), (8, .long (x4_3 - x4_3 / x6_4 * x6_4)), (6, .long x6_4)]) hX dX11_divisor_33 (by decide) rfl ?_
        refine s_lload hX dX11_divisor_35 1 rfl ?_
        refine s_lstore (lv' := [(6, .long (x4_3 - x4_3 / x6_4 * x6_4)), (4, .long x6_4), (8, .long (x4_3 - x4_3 / x6_4 * x6_4))]) hX dX11_divisor_37 (by decide) rfl ?_
        refine s_goto hX 17 dX11_divisor_39 (by decide) ?_
        exact s_end hX (hIq6 (x6_4, (x4_3 - x4_3 / x6_4 * x6_4))) [1, 0] rfl
    · intro sq
      obtain ⟨x4_5, rfl⟩ : ∃ z, z = sq := ⟨_, rfl⟩
      show Sim G _ _ 42 [(4, .long x4_5)] [] μ
      refine s_lload hX dX11_divisor_42 0 rfl ?_
      exact s_lretr hK hR dX11_divisor_44
  refine s_lcmp_ge hX 11 dX11_divisor_2 dX11_divisor_3 (by decide) ?_ ?_
  · refine s_lload_n hX dX11_divisor_11 rfl 0 rfl ?_
    exact s_to hX [1] rfl (hj2 x0)
  · refine s_lload_n hX dX11_divisor_6 rfl 0 rfl ?_
    refine s_lneg hX dX11_divisor_7 ?_
    refine s_goto hX 12 dX11_divisor_8 (by decide) ?_
    exact s_to hX [1] rfl (hj2 (-x0))
theorem dX11_headsOf_0 : decode cX11_headsOf 0 = .ok (.iconst 0, 1) := by decide +kernel
theorem dX11_headsOf_1 : decode cX11_headsOf 1 = .ok (.istore_n 2, 1) := by decide +kernel
theorem dX11_headsOf_2 : decode cX11_headsOf 2 = .ok (.iconst 0, 1) := by decide +kernel
theorem dX11_headsOf_3 : decode cX11_headsOf 3 = .ok (.istore_n 3, 1) := by decide +kernel
theorem dX11_headsOf_4 : decode cX11_headsOf 4 = .ok (.iload_n 3, 1) := by decide +kernel
theorem dX11_headsOf_5 : decode cX11_headsOf 5 = .ok (.aload_n 0, 1) := by decide +kernel
theorem dX11_headsOf_6 : decode cX11_headsOf 6 = .ok (.getfield 7, 3) := by decide +kernel
theorem dX11_headsOf_9 : decode cX11_headsOf 9 = .ok (.iconst 1, 1) := by decide +kernel
theorem dX11_headsOf_10 : decode cX11_headsOf 10 = .ok (.iaload, 1) := by decide +kernel
theorem dX11_headsOf_11 : decode cX11_headsOf 11 = .ok (.if_icmp .ge 35, 3) := by decide +kernel
theorem dX11_headsOf_14 : decode cX11_headsOf 14 = .ok (.iload_n 2, 1) := by decide +kernel
theorem dX11_headsOf_15 : decode cX11_headsOf 15 = .ok (.aload_n 0, 1) := by decide +kernel
theorem dX11_headsOf_16 : decode cX11_headsOf 16 = .ok (.getfield 7, 3) := by decide +kernel
theorem dX11_headsOf_19 : decode cX11_headsOf 19 = .ok (.bipush 16, 2) := by decide +kernel
theorem dX11_headsOf_21 : decode cX11_headsOf 21 = .ok (.iload_n 3, 1) := by decide +kernel
theorem dX11_headsOf_22 : decode cX11_headsOf 22 = .ok (.iadd, 1) := by decide +kernel
theorem dX11_headsOf_23 : decode cX11_headsOf 23 = .ok (.iaload, 1) := by decide +kernel
theorem dX11_headsOf_24 : decode cX11_headsOf 24 = .ok (.iload_n 1, 1) := by decide +kernel
theorem dX11_headsOf_25 : decode cX11_headsOf 25 = .ok (.if_icmp .ne 12, 3) := by decide +kernel
theorem dX11_headsOf_28 : decode cX11_headsOf 28 = .ok (.aload_n 0, 1) := by decide +kernel
theorem dX11_headsOf_29 : decode cX11_headsOf 29 = .ok (.getfield 32, 3) := by decide +kernel
theorem dX11_headsOf_32 : decode cX11_headsOf 32 = .ok (.iload_n 3, 1) := by decide +kernel
theorem dX11_headsOf_33 : decode cX11_headsOf 33 = .ok (.iaload, 1) := by decide +kernel
theorem dX11_headsOf_34 : decode cX11_headsOf 34 = .ok (.goto 4, 3) := by decide +kernel
theorem dX11_headsOf_37 : decode cX11_headsOf 37 = .ok (.iconst 0, 1) := by decide +kernel
theorem dX11_headsOf_38 : decode cX11_headsOf 38 = .ok (.iadd, 1) := by decide +kernel
theorem dX11_headsOf_39 : decode cX11_headsOf 39 = .ok (.istore_n 2, 1) := by decide +kernel
theorem dX11_headsOf_40 : decode cX11_headsOf 40 = .ok (.iinc 3 1, 3) := by decide +kernel
theorem dX11_headsOf_43 : decode cX11_headsOf 43 = .ok (.goto (-39), 3) := by decide +kernel
theorem dX11_headsOf_46 : decode cX11_headsOf 46 = .ok (.iload_n 2, 1) := by decide +kernel
theorem dX11_headsOf_47 : decode cX11_headsOf 47 = .ok (.ireturn, 1) := by decide +kernel
noncomputable def f_X11_headsOf (x1 : Int32) (μ : Mem) : Option Int32 :=
  bd (lp (ε := Int32) (cu2 fun (x2_1 : Int32) (x3_2 : Int32) =>
    if x3_2 < (μ.1 113 1) then
      chk (16 + x3_2) 184 (
        jn (fun (y5 : Int32) =>
          some (.inl ((x2_1 + y5), (x3_2 + 1)))
          ) fun j6 =>
        if (μ.1 113 (ix (16 + x3_2))) = x1 then
          chk x3_2 10 (
            j6 (μ.1 120 (ix x3_2))
            )
        else
          j6 0
        )
    else
      some (.inr x2_1)
    ) (0, 0)) (fun (x2_3 : Int32) =>
    some x2_3
    )
set_option maxHeartbeats 4000000 in
set_option maxRecDepth 100000 in
theorem c_X11_headsOf {g : GT} {x1 : Int32} {μ : Mem} {r0 : Int32} (hf : f_X11_headsOf x1 μ = some r0) : CI g yX11_headsOf cX11_headsOf 4 (some .int) 1 [rf g 112, .int x1] μ r0 μ := by
  refine mk_i (by decide) (Nat.le_of_ble_eq_true rfl) ?_
  intro G hX hR
  have hX : CX g G cX11_headsOf RX11 4 1 := hX
  suffices S : ∀ K : Int32 → Prop, (∀ a, K a → a = r0) → Sim G (f_X11_headsOf x1 μ) K 0 [(0, rf g 112), (1, .int x1)] [] μ from S (fun a => a = r0) (fun a h => h) _ hf rfl
  intro K hK
  unfold f_X11_headsOf
  refine s_iconst (v := 0) hX dX11_headsOf_0 (by decide) ?_
  refine s_istore_n (lv' := [(2, .int 0), (0, rf g 112), (1, .int x1)]) hX dX11_headsOf_1 rfl (by decide) rfl ?_
  refine s_iconst (v := 0) hX dX11_headsOf_2 (by decide) ?_
  refine s_istore_n (lv' := [(3, .int 0), (2, .int 0), (0, rf g 112), (1, .int x1)]) hX dX11_headsOf_3 rfl (by decide) rfl ?_
  refine s_loop hX 4 46 (fun s : Int32 × Int32 => [(0, rf g 112), (1, .int x1), (2, .int s.1), (3, .int s.2)]) (fun s : Int32 × Int32 => μ) (fun s : Int32 => [(2, .int s)]) (fun s : Int32 => μ) [2, 3, 1, 0] rfl rfl rfl ?_ ?_
  · intro Kq4 hIq4 hJq4 sq
    obtain ⟨x2_1, x3_2⟩ := sq
    refine s_cu2 ?_
    show Sim G _ _ 4 [(0, rf g 112), (1, .int x1), (2, .int x2_1), (3, .int x3_2)] [] μ
    refine s_iload_n hX dX11_headsOf_4 rfl 3 rfl ?_
    refine s_aload_n hX dX11_headsOf_5 rfl 0 rfl ?_
    refine s_getR hX (d := 1) 113 flX11_7 rfl rfl dX11_headsOf_6 ?_
    refine s_iconst (v := 1) hX dX11_headsOf_9 (by decide) ?_
    refine s_ialdK hX rfl rfl (by decide) rfl dX11_headsOf_10 ?_
    refine s_icmp_ge hX 46 dX11_headsOf_11 (by decide) ?_ ?_
    · exact s_end hX (hJq4 x2_1) [2] rfl
    · refine s_iload_n hX dX11_headsOf_14 rfl 2 rfl ?_
      refine s_aload_n hX dX11_headsOf_15 rfl 0 rfl ?_
      refine s_getR hX (d := 1) 113 flX11_7 rfl rfl dX11_headsOf_16 ?_
      refine s_bipush (v := 16) hX dX11_headsOf_19 (by decide) ?_
      refine s_iload_n hX dX11_headsOf_21 rfl 3 rfl ?_
      refine s_iadd hX dX11_headsOf_22 ?_
      refine s_iald hX rfl rfl dX11_headsOf_23 ?_
      refine s_iload_n hX dX11_headsOf_24 rfl 1 rfl ?_
      refine s_jn (C := fun j => ∀ (y5 : Int32), Sim G (j y5) Kq4 38 [(0, rf g 112), (1, .int x1), (3, .int x3_2)] [.int y5, .int x2_1] μ) ?_ (fun j6 hj6 => ?_)
      · intro y5
        show Sim G _ _ 38 [(0, rf g 112), (1, .int x1), (3, .int x3_2)] [.int y5, .int x2_1] μ
        refine s_iadd hX dX11_headsOf_38 ?_
        refine s_istore_n (lv' := [(2, .int (x2_1 + y5)), (0, rf g 112), (1, .int x1), (3, .int x3_2)]) hX dX11_headsOf_39 rfl (by decide) rfl ?_
        refine s_iinc (v := (x3_2 + 1)) (lv' := [(3, .int (x3_2 + 1)), (2, .int (x2_1 + y5)), (0, rf g 112), (1, .int x1)]) hX dX11_headsOf_40 3 rfl rfl (by decide) rfl ?_
        refine s_goto hX 4 dX11_headsOf_43 (by decide) ?_
        exact s_end hX (hIq4 ((x2_1 + y5), (x3_2 + 1))) [2, 3, 1, 0] rfl
      refine s_icmp_ne hX 37 dX11_headsOf_25 (by decide) ?_ ?_
      · refine s_iconst (v := 0) hX dX11_headsOf_37 (by decide) ?_
        exact s_to hX [0, 1, 3] rfl (hj6 0)
      · refine s_aload_n hX dX11_headsOf_28 rfl 0 rfl ?_
        refine s_getR hX (d := 8) 120 flX11_32 rfl rfl dX11_headsOf_29 ?_
        refine s_iload_n hX dX11_headsOf_32 rfl 3 rfl ?_
        refine s_iald hX rfl rfl dX11_headsOf_33 ?_
        refine s_goto hX 38 dX11_headsOf_34 (by decide) ?_
        exact s_to hX [0, 1, 3] rfl (hj6 (μ.1 120 (ix x3_2)))
  · intro sq
    obtain ⟨x2_3, rfl⟩ : ∃ z, z = sq := ⟨_, rfl⟩
    show Sim G _ _ 46 [(2, .int x2_3)] [] μ
    refine s_iload_n hX dX11_headsOf_46 rfl 0 rfl ?_
    exact s_iretr hK hR dX11_headsOf_47
theorem dX11_in_0 : decode cX11_in 0 = .ok (.lload_n 0, 1) := by decide +kernel
theorem dX11_in_1 : decode cX11_in 1 = .ok (.lload_n 2, 1) := by decide +kernel
theorem dX11_in_2 : decode cX11_in 2 = .ok (.lcmp, 1) := by decide +kernel
theorem dX11_in_3 : decode cX11_in 3 = .ok (.ifCond .lt 14, 3) := by decide +kernel
theorem dX11_in_6 : decode cX11_in 6 = .ok (.lload_n 0, 1) := by decide +kernel
theorem dX11_in_7 : decode cX11_in 7 = .ok (.lload 4, 2) := by decide +kernel
theorem dX11_in_9 : decode cX11_in 9 = .ok (.lcmp, 1) := by decide +kernel
theorem dX11_in_10 : decode cX11_in 10 = .ok (.ifCond .gt 7, 3) := by decide +kernel
theorem dX11_in_13 : decode cX11_in 13 = .ok (.iconst 1, 1) := by decide +kernel
theorem dX11_in_14 : decode cX11_in 14 = .ok (.goto 4, 3) := by decide +kernel
theorem dX11_in_17 : decode cX11_in 17 = .ok (.iconst 0, 1) := by decide +kernel
theorem dX11_in_18 : decode cX11_in 18 = .ok (.ireturn, 1) := by decide +kernel
noncomputable def f_X11_in (x0 : Int64) (x2 : Int64) (x4 : Int64) : Option Int32 :=
  jn (fun (y1 : Int32) =>
    ckB y1 (
      some y1
      )
    ) fun j2 =>
  jn (
    j2 0
    ) fun j3 =>
  if x0 < x2 then
    j3
  else
    if x4 < x0 then
      j3
    else
      j2 1
set_option maxHeartbeats 4000000 in
set_option maxRecDepth 100000 in
theorem c_X11_in {g : GT} {x0 : Int64} {x2 : Int64} {x4 : Int64} {μ : Mem} {r0 : Int32} (hf : f_X11_in x0 x2 x4 = some r0) : CI g yX11_in cX11_in 6 (some .boolean) 1 [.long x0, .long x2, .long x4] μ r0 μ := by
  refine mk_z (by decide) (Nat.le_of_ble_eq_true rfl) ?_
  intro G hX hR
  have hX : CX g G cX11_in RX11 6 1 := hX
  suffices S : ∀ K : Int32 → Prop, (∀ a, K a → a = r0) → Sim G (f_X11_in x0 x2 x4) K 0 [(0, .long x0), (2, .long x2), (4, .long x4)] [] μ from S (fun a => a = r0) (fun a h => h) _ hf rfl
  intro K hK
  unfold f_X11_in
  refine s_lload_n hX dX11_in_0 rfl 0 rfl ?_
  refine s_lload_n hX dX11_in_1 rfl 1 rfl ?_
  refine s_jn (C := fun j => ∀ (y1 : Int32), Sim G (j y1) K 18 [] [.int y1] μ) ?_ (fun j2 hj2 => ?_)
  · intro y1
    show Sim G _ _ 18 [] [.int y1] μ
    refine s_ckB (fun hzb => ?_)
    exact s_zretr hzb hK hR dX11_in_18
  refine s_jn (C := fun j => Sim G (j) K 17 [] [] μ) ?_ (fun j3 hj3 => ?_)
  · skip
    show Sim G _ _ 17 [] [] μ
    refine s_iconst (v := 0) hX dX11_in_17 (by decide) ?_
    exact s_to hX [] rfl (hj2 0)
  refine s_lcmp_lt hX 17 dX11_in_2 dX11_in_3 (by decide) ?_ ?_
  · exact s_to hX [] rfl (hj3)
  · refine s_lload_n hX dX11_in_6 rfl 0 rfl ?_
    refine s_lload hX dX11_in_7 2 rfl ?_
    refine s_lcmp_gt hX 17 dX11_in_9 dX11_in_10 (by decide) ?_ ?_
    · exact s_to hX [] rfl (hj3)
    · refine s_iconst (v := 1) hX dX11_in_13 (by decide) ?_
      refine s_goto hX 18 dX11_in_14 (by decide) ?_
      exact s_to hX [] rfl (hj2 1)
theorem dX11_loss_0 : decode cX11_loss 0 = .ok (.iload_n 0, 1) := by decide +kernel
theorem dX11_loss_1 : decode cX11_loss 1 = .ok (.bipush 10, 2) := by decide +kernel
theorem dX11_loss_3 : decode cX11_loss 3 = .ok (.iadd, 1) := by decide +kernel
theorem dX11_loss_4 : decode cX11_loss 4 = .ok (.iload_n 2, 1) := by decide +kernel
theorem dX11_loss_5 : decode cX11_loss 5 = .ok (.isub, 1) := by decide +kernel
theorem dX11_loss_6 : decode cX11_loss 6 = .ok (.iload_n 2, 1) := by decide +kernel
theorem dX11_loss_7 : decode cX11_loss 7 = .ok (.iconst 2, 1) := by decide +kernel
theorem dX11_loss_8 : decode cX11_loss 8 = .ok (.idiv, 1) := by decide +kernel
theorem dX11_loss_9 : decode cX11_loss 9 = .ok (.iadd, 1) := by decide +kernel
theorem dX11_loss_10 : decode cX11_loss 10 = .ok (.istore 5, 2) := by decide +kernel
theorem dX11_loss_12 : decode cX11_loss 12 = .ok (.iload_n 1, 1) := by decide +kernel
theorem dX11_loss_13 : decode cX11_loss 13 = .ok (.bipush 10, 2) := by decide +kernel
theorem dX11_loss_15 : decode cX11_loss 15 = .ok (.iadd, 1) := by decide +kernel
theorem dX11_loss_16 : decode cX11_loss 16 = .ok (.iload_n 3, 1) := by decide +kernel
theorem dX11_loss_17 : decode cX11_loss 17 = .ok (.isub, 1) := by decide +kernel
theorem dX11_loss_18 : decode cX11_loss 18 = .ok (.iload_n 3, 1) := by decide +kernel
theorem dX11_loss_19 : decode cX11_loss 19 = .ok (.iconst 2, 1) := by decide +kernel
theorem dX11_loss_20 : decode cX11_loss 20 = .ok (.idiv, 1) := by decide +kernel
theorem dX11_loss_21 : decode cX11_loss 21 = .ok (.iadd, 1) := by decide +kernel
theorem dX11_loss_22 : decode cX11_loss 22 = .ok (.istore 6, 2) := by decide +kernel
theorem dX11_loss_24 : decode cX11_loss 24 = .ok (.iload_n 2, 1) := by decide +kernel
theorem dX11_loss_25 : decode cX11_loss 25 = .ok (.iconst 4, 1) := by decide +kernel
theorem dX11_loss_26 : decode cX11_loss 26 = .ok (.idiv, 1) := by decide +kernel
theorem dX11_loss_27 : decode cX11_loss 27 = .ok (.iload 5, 2) := by decide +kernel
theorem dX11_loss_29 : decode cX11_loss 29 = .ok (.iload 6, 2) := by decide +kernel
theorem dX11_loss_31 : decode cX11_loss 31 = .ok (.if_icmp .gt 15, 3) := by decide +kernel
theorem dX11_loss_34 : decode cX11_loss 34 = .ok (.iload 5, 2) := by decide +kernel
theorem dX11_loss_36 : decode cX11_loss 36 = .ok (.iload 6, 2) := by decide +kernel
theorem dX11_loss_38 : decode cX11_loss 38 = .ok (.if_icmp .ne 12, 3) := by decide +kernel
theorem dX11_loss_41 : decode cX11_loss 41 = .ok (.iload 4, 2) := by decide +kernel
theorem dX11_loss_43 : decode cX11_loss 43 = .ok (.ifCond .eq 7, 3) := by decide +kernel
theorem dX11_loss_46 : decode cX11_loss 46 = .ok (.iconst 5, 1) := by decide +kernel
theorem dX11_loss_47 : decode cX11_loss 47 = .ok (.goto 4, 3) := by decide +kernel
theorem dX11_loss_50 : decode cX11_loss 50 = .ok (.iconst 0, 1) := by decide +kernel
theorem dX11_loss_51 : decode cX11_loss 51 = .ok (.iadd, 1) := by decide +kernel
theorem dX11_loss_52 : decode cX11_loss 52 = .ok (.ireturn, 1) := by decide +kernel
noncomputable def f_X11_loss (x0 : Int32) (x1 : Int32) (x2 : Int32) (x3 : Int32) (x4 : Int32) : Option Int32 :=
  jn (fun (y1 : Int32) =>
    some ((x2 / 4) + y1)
    ) fun j2 =>
  jn (
    j2 5
    ) fun j3 =>
  if (((x1 + 10) - x3) + (x3 / 2)) < (((x0 + 10) - x2) + (x2 / 2)) then
    j3
  else
    jn (
      j2 0
      ) fun j4 =>
    if (((x0 + 10) - x2) + (x2 / 2)) = (((x1 + 10) - x3) + (x3 / 2)) then
      if x4 = 0 then
        j4
      else
        j3
    else
      j4
set_option maxHeartbeats 4000000 in
set_option maxRecDepth 100000 in
theorem c_X11_loss {g : GT} {x0 : Int32} {x1 : Int32} {x2 : Int32} {x3 : Int32} {x4 : Int32} {μ : Mem} {r0 : Int32} (hf : f_X11_loss x0 x1 x2 x3 x4 = some r0) : CI g yX11_loss cX11_loss 7 (some .int) 1 [.int x0, .int x1, .int x2, .int x3, .int x4] μ r0 μ := by
  refine mk_i (by decide) (Nat.le_of_ble_eq_true rfl) ?_
  intro G hX hR
  have hX : CX g G cX11_loss RX11 7 1 := hX
  suffices S : ∀ K : Int32 → Prop, (∀ a, K a → a = r0) → Sim G (f_X11_loss x0 x1 x2 x3 x4) K 0 [(0, .int x0), (1, .int x1), (2, .int x2), (3, .int x3), (4, .int x4)] [] μ from S (fun a => a = r0) (fun a h => h) _ hf rfl
  intro K hK
  unfold f_X11_loss
  refine s_iload_n hX dX11_loss_0 rfl 0 rfl ?_
  refine s_bipush (v := 10) hX dX11_loss_1 (by decide) ?_
  refine s_iadd hX dX11_loss_3 ?_
  refine s_iload_n hX dX11_loss_4 rfl 2 rfl ?_
  refine s_isub hX dX11_loss_5 ?_
  refine s_iload_n hX dX11_loss_6 rfl 2 rfl ?_
  refine s_iconst (v := 2) hX dX11_loss_7 (by decide) ?_
  refine s_idiv hX dX11_loss_8 (by decide) ?_
  refine s_iadd hX dX11_loss_9 ?_
  refine s_istore (lv' := [(5, .int (((x0 + 10) - x2) + (x2 / 2))), (0, .int x0), (1, .int x1), (2, .int x2), (3, .int x3), (4, .int x4)]) hX dX11_loss_10 (by decide) rfl ?_
  refine s_iload_n hX dX11_loss_12 rfl 2 rfl ?_
  refine s_bipush (v := 10) hX dX11_loss_13 (by decide) ?_
  refine s_iadd hX dX11_loss_15 ?_
  refine s_iload_n hX dX11_loss_16 rfl 4 rfl ?_
  refine s_isub hX dX11_loss_17 ?_
  refine s_iload_n hX dX11_loss_18 rfl 4 rfl ?_
  refine s_iconst (v := 2) hX dX11_loss_19 (by decide) ?_
  refine s_idiv hX dX11_loss_20 (by decide) ?_
  refine s_iadd hX dX11_loss_21 ?_
  refine s_istore (lv' := [(6, .int (((x1 + 10) - x3) + (x3 / 2))), (5, .int (((x0 + 10) - x2) + (x2 / 2))), (0, .int x0), (1, .int x1), (2, .int x2), (3, .int x3), (4, .int x4)]) hX dX11_loss_22 (by decide) rfl ?_
  refine s_iload_n hX dX11_loss_24 rfl 4 rfl ?_
  refine s_iconst (v := 4) hX dX11_loss_25 (by decide) ?_
  refine s_idiv hX dX11_loss_26 (by decide) ?_
  refine s_iload hX dX11_loss_27 1 rfl ?_
  refine s_iload hX dX11_loss_29 0 rfl ?_
  refine s_jn (C := fun j => ∀ (y1 : Int32), Sim G (j y1) K 51 [] [.int y1, .int (x2 / 4)] μ) ?_ (fun j2 hj2 => ?_)
  · intro y1
    show Sim G _ _ 51 [] [.int y1, .int (x2 / 4)] μ
    refine s_iadd hX dX11_loss_51 ?_
    exact s_iretr hK hR dX11_loss_52
  refine s_jn (C := fun j => Sim G (j) K 46 [] [.int (x2 / 4)] μ) ?_ (fun j3 hj3 => ?_)
  · skip
    show Sim G _ _ 46 [] [.int (x2 / 4)] μ
    refine s_iconst (v := 5) hX dX11_loss_46 (by decide) ?_
    refine s_goto hX 51 dX11_loss_47 (by decide) ?_
    exact s_to hX [] rfl (hj2 5)
  refine s_icmp_gt hX 46 dX11_loss_31 (by decide) ?_ ?_
  · exact s_to hX [] rfl (hj3)
  · refine s_iload hX dX11_loss_34 1 rfl ?_
    refine s_iload hX dX11_loss_36 0 rfl ?_
    refine s_jn (C := fun j => Sim G (j) K 50 [] [.int (x2 / 4)] μ) ?_ (fun j4 hj4 => ?_)
    · skip
      show Sim G _ _ 50 [] [.int (x2 / 4)] μ
      refine s_iconst (v := 0) hX dX11_loss_50 (by decide) ?_
      exact s_to hX [] rfl (hj2 0)
    refine s_icmp_ne hX 50 dX11_loss_38 (by decide) ?_ ?_
    · exact s_to hX [] rfl (hj4)
    · refine s_iload hX dX11_loss_41 6 rfl ?_
      refine s_if_eq hX 50 dX11_loss_43 (by decide) ?_ ?_
      · exact s_to hX [] rfl (hj4)
      · exact s_to hX [] rfl (hj3)
theorem dX11_mixed_0 : decode cX11_mixed 0 = .ok (.lload_n 1, 1) := by decide +kernel
theorem dX11_mixed_1 : decode cX11_mixed 1 = .ok (.lstore 5, 2) := by decide +kernel
theorem dX11_mixed_3 : decode cX11_mixed 3 = .ok (.iconst 0, 1) := by decide +kernel
theorem dX11_mixed_4 : decode cX11_mixed 4 = .ok (.istore 7, 2) := by decide +kernel
theorem dX11_mixed_6 : decode cX11_mixed 6 = .ok (.iload 7, 2) := by decide +kernel
theorem dX11_mixed_8 : decode cX11_mixed 8 = .ok (.iload 4, 2) := by decide +kernel
theorem dX11_mixed_10 : decode cX11_mixed 10 = .ok (.if_icmp .ge 28, 3) := by decide +kernel
theorem dX11_mixed_13 : decode cX11_mixed 13 = .ok (.ldc2_w 287, 3) := by decide +kernel
theorem dX11_mixed_16 : decode cX11_mixed 16 = .ok (.lload 5, 2) := by decide +kernel
theorem dX11_mixed_18 : decode cX11_mixed 18 = .ok (.lmul, 1) := by decide +kernel
theorem dX11_mixed_19 : decode cX11_mixed 19 = .ok (.aload_n 0, 1) := by decide +kernel
theorem dX11_mixed_20 : decode cX11_mixed 20 = .ok (.getfield 7, 3) := by decide +kernel
theorem dX11_mixed_23 : decode cX11_mixed 23 = .ok (.iload_n 3, 1) := by decide +kernel
theorem dX11_mixed_24 : decode cX11_mixed 24 = .ok (.iload 7, 2) := by decide +kernel
theorem dX11_mixed_26 : decode cX11_mixed 26 = .ok (.iadd, 1) := by decide +kernel
theorem dX11_mixed_27 : decode cX11_mixed 27 = .ok (.iaload, 1) := by decide +kernel
theorem dX11_mixed_28 : decode cX11_mixed 28 = .ok (.i2l, 1) := by decide +kernel
theorem dX11_mixed_29 : decode cX11_mixed 29 = .ok (.ladd, 1) := by decide +kernel
theorem dX11_mixed_30 : decode cX11_mixed 30 = .ok (.lstore 5, 2) := by decide +kernel
theorem dX11_mixed_32 : decode cX11_mixed 32 = .ok (.iinc 7 1, 3) := by decide +kernel
theorem dX11_mixed_35 : decode cX11_mixed 35 = .ok (.goto (-29), 3) := by decide +kernel
theorem dX11_mixed_38 : decode cX11_mixed 38 = .ok (.lload 5, 2) := by decide +kernel
theorem dX11_mixed_40 : decode cX11_mixed 40 = .ok (.lreturn, 1) := by decide +kernel
noncomputable def f_X11_mixed (x1 : Int64) (x3 : Int32) (x4 : Int32) (μ : Mem) : Option Int64 :=
  bd (lp (ε := Int64) (cu2 fun (x5_1 : Int64) (x7_2 : Int32) =>
    if x7_2 < x4 then
      chk (x3 + x7_2) 184 (
        lt ((31 * x5_1) + ((μ.1 113 (ix (x3 + x7_2))) : Int32).toInt64) fun x5_5 =>
        some (.inl (x5_5, (x7_2 + 1)))
        )
    else
      some (.inr x5_1)
    ) (x1, 0)) (fun (x5_3 : Int64) =>
    some x5_3
    )
set_option maxHeartbeats 4000000 in
set_option maxRecDepth 100000 in
theorem c_X11_mixed {g : GT} {x1 : Int64} {x3 : Int32} {x4 : Int32} {μ : Mem} {r0 : Int64} (hf : f_X11_mixed x1 x3 x4 μ = some r0) : CL g yX11_mixed cX11_mixed 8 (some .long) 1 [rf g 112, .long x1, .int x3, .int x4] μ r0 μ := by
  refine mk_l (by decide) (Nat.le_of_ble_eq_true rfl) ?_
  intro G hX hR
  have hX : CX g G cX11_mixed RX11 8 1 := hX
  suffices S : ∀ K : Int64 → Prop, (∀ a, K a → a = r0) → Sim G (f_X11_mixed x1 x3 x4 μ) K 0 [(0, rf g 112), (1, .long x1), (3, .int x3), (4, .int x4)] [] μ from S (fun a => a = r0) (fun a h => h) _ hf rfl
  intro K hK
  unfold f_X11_mixed
  refine s_lload_n hX dX11_mixed_0 rfl 1 rfl ?_
  refine s_lstore (lv' := [(5, .long x1), (0, rf g 112), (1, .long x1), (3, .int x3), (4, .int x4)]) hX dX11_mixed_1 (by decide) rfl ?_
  refine s_iconst (v := 0) hX dX11_mixed_3 (by decide) ?_
  refine s_istore (lv' := [(7, .int 0), (5, .long x1), (0, rf g 112), (1, .long x1), (3, .int x3), (4, .int x4)]) hX dX11_mixed_4 (by decide) rfl ?_
  refine s_loop hX 6 38 (fun s : Int64 × Int32 => [(0, rf g 112), (3, .int x3), (4, .int x4), (5, .long s.1), (7, .int s.2)]) (fun s : Int64 × Int32 => μ) (fun s : Int64 => [(5, .long s)]) (fun s : Int64 => μ) [2, 4, 5, 1, 0] rfl rfl rfl ?_ ?_
  · intro Kq4 hIq4 hJq4 sq
    obtain ⟨x5_1, x7_2⟩ := sq
    refine s_cu2 ?_
    show Sim G _ _ 6 [(0, rf g 112), (3, .int x3), (4, .int x4), (5, .long x5_1), (7, .int x7_2)] [] μ
    refine s_iload hX dX11_mixed_6 4 rfl ?_
    refine s_iload hX dX11_mixed_8 2 rfl ?_
    refine s_icmp_ge hX 38 dX11_mixed_10 (by decide) ?_ ?_
    · exact s_end hX (hJq4 x5_1) [3] rfl
    · refine s_ldc2 hX dX11_mixed_13 klX11_287 ?_
      refine s_lload hX dX11_mixed_16 3 rfl ?_
      refine s_lmul hX dX11_mixed_18 ?_
      refine s_aload_n hX dX11_mixed_19 rfl 0 rfl ?_
      refine s_getR hX (d := 1) 113 flX11_7 rfl rfl dX11_mixed_20 ?_
      refine s_iload_n hX dX11_mixed_23 rfl 1 rfl ?_
      refine s_iload hX dX11_mixed_24 4 rfl ?_
      refine s_iadd hX dX11_mixed_26 ?_
      refine s_iald hX rfl rfl dX11_mixed_27 ?_
      refine s_i2l hX dX11_mixed_28 ?_
      refine s_ladd hX dX11_mixed_29 ?_
      refine s_ltl (fun x5_5 => ?_)
      refine s_lstore (lv' := [(5, .long x5_5), (0, rf g 112), (3, .int x3), (4, .int x4), (7, .int x7_2)]) hX dX11_mixed_30 (by decide) rfl ?_
      refine s_iinc (v := (x7_2 + 1)) (lv' := [(7, .int (x7_2 + 1)), (5, .long x5_5), (0, rf g 112), (3, .int x3), (4, .int x4)]) hX dX11_mixed_32 4 rfl rfl (by decide) rfl ?_
      refine s_goto hX 6 dX11_mixed_35 (by decide) ?_
      exact s_end hX (hIq4 (x5_5, (x7_2 + 1))) [2, 3, 4, 1, 0] rfl
  · intro sq
    obtain ⟨x5_3, rfl⟩ : ∃ z, z = sq := ⟨_, rfl⟩
    show Sim G _ _ 38 [(5, .long x5_3)] [] μ
    refine s_lload hX dX11_mixed_38 0 rfl ?_
    exact s_lretr hK hR dX11_mixed_40
theorem dX11_numbers_0 : decode cX11_numbers 0 = .ok (.iload_n 0, 1) := by decide +kernel
theorem dX11_numbers_1 : decode cX11_numbers 1 = .ok (.iconst 1, 1) := by decide +kernel
theorem dX11_numbers_2 : decode cX11_numbers 2 = .ok (.if_icmp .ne 7, 3) := by decide +kernel
theorem dX11_numbers_5 : decode cX11_numbers 5 = .ok (.iconst 3, 1) := by decide +kernel
theorem dX11_numbers_6 : decode cX11_numbers 6 = .ok (.goto 18, 3) := by decide +kernel
theorem dX11_numbers_9 : decode cX11_numbers 9 = .ok (.iload_n 0, 1) := by decide +kernel
theorem dX11_numbers_10 : decode cX11_numbers 10 = .ok (.iconst 3, 1) := by decide +kernel
theorem dX11_numbers_11 : decode cX11_numbers 11 = .ok (.if_icmp .eq 8, 3) := by decide +kernel
theorem dX11_numbers_14 : decode cX11_numbers 14 = .ok (.iload_n 0, 1) := by decide +kernel
theorem dX11_numbers_15 : decode cX11_numbers 15 = .ok (.iconst 4, 1) := by decide +kernel
theorem dX11_numbers_16 : decode cX11_numbers 16 = .ok (.if_icmp .ne 7, 3) := by decide +kernel
theorem dX11_numbers_19 : decode cX11_numbers 19 = .ok (.iconst 2, 1) := by decide +kernel
theorem dX11_numbers_20 : decode cX11_numbers 20 = .ok (.goto 4, 3) := by decide +kernel
theorem dX11_numbers_23 : decode cX11_numbers 23 = .ok (.iconst 1, 1) := by decide +kernel
theorem dX11_numbers_24 : decode cX11_numbers 24 = .ok (.ireturn, 1) := by decide +kernel
noncomputable def f_X11_numbers (x0 : Int32) : Option Int32 :=
  jn (fun (y1 : Int32) =>
    some y1
    ) fun j2 =>
  if x0 = 1 then
    j2 3
  else
    jn (
      j2 2
      ) fun j3 =>
    if x0 = 3 then
      j3
    else
      if x0 = 4 then
        j3
      else
        j2 1
set_option maxHeartbeats 4000000 in
set_option maxRecDepth 100000 in
theorem c_X11_numbers {g : GT} {x0 : Int32} {μ : Mem} {r0 : Int32} (hf : f_X11_numbers x0 = some r0) : CI g yX11_numbers cX11_numbers 1 (some .int) 1 [.int x0] μ r0 μ := by
  refine mk_i (by decide) (Nat.le_of_ble_eq_true rfl) ?_
  intro G hX hR
  have hX : CX g G cX11_numbers RX11 1 1 := hX
  suffices S : ∀ K : Int32 → Prop, (∀ a, K a → a = r0) → Sim G (f_X11_numbers x0) K 0 [(0, .int x0)] [] μ from S (fun a => a = r0) (fun a h => h) _ hf rfl
  intro K hK
  unfold f_X11_numbers
  refine s_iload_n hX dX11_numbers_0 rfl 0 rfl ?_
  refine s_iconst (v := 1) hX dX11_numbers_1 (by decide) ?_
  refine s_jn (C := fun j => ∀ (y1 : Int32), Sim G (j y1) K 24 [] [.int y1] μ) ?_ (fun j2 hj2 => ?_)
  · intro y1
    show Sim G _ _ 24 [] [.int y1] μ
    exact s_iretr hK hR dX11_numbers_24
  refine s_icmp_ne hX 9 dX11_numbers_2 (by decide) ?_ ?_
  · refine s_iload_n hX dX11_numbers_9 rfl 0 rfl ?_
    refine s_iconst (v := 3) hX dX11_numbers_10 (by decide) ?_
    refine s_jn (C := fun j => Sim G (j) K 19 [] [] μ) ?_ (fun j3 hj3 => ?_)
    · skip
      show Sim G _ _ 19 [] [] μ
      refine s_iconst (v := 2) hX dX11_numbers_19 (by decide) ?_
      refine s_goto hX 24 dX11_numbers_20 (by decide) ?_
      exact s_to hX [] rfl (hj2 2)
    refine s_icmp_eq hX 19 dX11_numbers_11 (by decide) ?_ ?_
    · exact s_to hX [] rfl (hj3)
    · refine s_iload_n hX dX11_numbers_14 rfl 0 rfl ?_
      refine s_iconst (v := 4) hX dX11_numbers_15 (by decide) ?_
      refine s_icmp_ne hX 23 dX11_numbers_16 (by decide) ?_ ?_
      · refine s_iconst (v := 1) hX dX11_numbers_23 (by decide) ?_
        exact s_to hX [] rfl (hj2 1)
      · exact s_to hX [] rfl (hj3)
  · refine s_iconst (v := 3) hX dX11_numbers_5 (by decide) ?_
    refine s_goto hX 24 dX11_numbers_6 (by decide) ?_
    exact s_to hX [] rfl (hj2 3)
theorem dX11_openRoads_0 : decode cX11_openRoads 0 = .ok (.iconst 0, 1) := by decide +kernel
theorem dX11_openRoads_1 : decode cX11_openRoads 1 = .ok (.istore_n 1, 1) := by decide +kernel
theorem dX11_openRoads_2 : decode cX11_openRoads 2 = .ok (.iconst 0, 1) := by decide +kernel
theorem dX11_openRoads_3 : decode cX11_openRoads 3 = .ok (.istore_n 2, 1) := by decide +kernel
theorem dX11_openRoads_4 : decode cX11_openRoads 4 = .ok (.iload_n 2, 1) := by decide +kernel
theorem dX11_openRoads_5 : decode cX11_openRoads 5 = .ok (.aload_n 0, 1) := by decide +kernel
theorem dX11_openRoads_6 : decode cX11_openRoads 6 = .ok (.getfield 7, 3) := by decide +kernel
theorem dX11_openRoads_9 : decode cX11_openRoads 9 = .ok (.iconst 2, 1) := by decide +kernel
theorem dX11_openRoads_10 : decode cX11_openRoads 10 = .ok (.iaload, 1) := by decide +kernel
theorem dX11_openRoads_11 : decode cX11_openRoads 11 = .ok (.if_icmp .ge 35, 3) := by decide +kernel
theorem dX11_openRoads_14 : decode cX11_openRoads 14 = .ok (.iload_n 1, 1) := by decide +kernel
theorem dX11_openRoads_15 : decode cX11_openRoads 15 = .ok (.aload_n 0, 1) := by decide +kernel
theorem dX11_openRoads_16 : decode cX11_openRoads 16 = .ok (.getfield 7, 3) := by decide +kernel
theorem dX11_openRoads_19 : decode cX11_openRoads 19 = .ok (.bipush 41, 2) := by decide +kernel
theorem dX11_openRoads_21 : decode cX11_openRoads 21 = .ok (.iconst 3, 1) := by decide +kernel
theorem dX11_openRoads_22 : decode cX11_openRoads 22 = .ok (.iload_n 2, 1) := by decide +kernel
theorem dX11_openRoads_23 : decode cX11_openRoads 23 = .ok (.imul, 1) := by decide +kernel
theorem dX11_openRoads_24 : decode cX11_openRoads 24 = .ok (.iadd, 1) := by decide +kernel
theorem dX11_openRoads_25 : decode cX11_openRoads 25 = .ok (.iconst 2, 1) := by decide +kernel
theorem dX11_openRoads_26 : decode cX11_openRoads 26 = .ok (.iadd, 1) := by decide +kernel
theorem dX11_openRoads_27 : decode cX11_openRoads 27 = .ok (.iaload, 1) := by decide +kernel
theorem dX11_openRoads_28 : decode cX11_openRoads 28 = .ok (.ifCond .ne 9, 3) := by decide +kernel
theorem dX11_openRoads_31 : decode cX11_openRoads 31 = .ok (.iconst 1, 1) := by decide +kernel
theorem dX11_openRoads_32 : decode cX11_openRoads 32 = .ok (.iload_n 2, 1) := by decide +kernel
theorem dX11_openRoads_33 : decode cX11_openRoads 33 = .ok (.ishl, 1) := by decide +kernel
theorem dX11_openRoads_34 : decode cX11_openRoads 34 = .ok (.goto 4, 3) := by decide +kernel
theorem dX11_openRoads_37 : decode cX11_openRoads 37 = .ok (.iconst 0, 1) := by decide +kernel
theorem dX11_openRoads_38 : decode cX11_openRoads 38 = .ok (.ior, 1) := by decide +kernel
theorem dX11_openRoads_39 : decode cX11_openRoads 39 = .ok (.istore_n 1, 1) := by decide +kernel
theorem dX11_openRoads_40 : decode cX11_openRoads 40 = .ok (.iinc 2 1, 3) := by decide +kernel
theorem dX11_openRoads_43 : decode cX11_openRoads 43 = .ok (.goto (-39), 3) := by decide +kernel
theorem dX11_openRoads_46 : decode cX11_openRoads 46 = .ok (.iload_n 1, 1) := by decide +kernel
theorem dX11_openRoads_47 : decode cX11_openRoads 47 = .ok (.ireturn, 1) := by decide +kernel
noncomputable def f_X11_openRoads  (μ : Mem) : Option Int32 :=
  bd (lp (ε := Int32) (cu2 fun (x1_1 : Int32) (x2_2 : Int32) =>
    if x2_2 < (μ.1 113 2) then
      chk ((41 + (3 * x2_2)) + 2) 184 (
        jn (fun (y5 : Int32) =>
          some (.inl ((x1_1 ||| y5), (x2_2 + 1)))
          ) fun j6 =>
        if (μ.1 113 (ix ((41 + (3 * x2_2)) + 2))) = 0 then
          j6 (1 <<< (x2_2 &&& 31))
        else
          j6 0
        )
    else
      some (.inr x1_1)
    ) (0, 0)) (fun (x1_3 : Int32) =>
    some x1_3
    )
set_option maxHeartbeats 4000000 in
set_option maxRecDepth 100000 in
theorem c_X11_openRoads {g : GT}  {μ : Mem} {r0 : Int32} (hf : f_X11_openRoads  μ = some r0) : CI g yX11_openRoads cX11_openRoads 3 (some .int) 1 [rf g 112] μ r0 μ := by
  refine mk_i (by decide) (Nat.le_of_ble_eq_true rfl) ?_
  intro G hX hR
  have hX : CX g G cX11_openRoads RX11 3 1 := hX
  suffices S : ∀ K : Int32 → Prop, (∀ a, K a → a = r0) → Sim G (f_X11_openRoads  μ) K 0 [(0, rf g 112)] [] μ from S (fun a => a = r0) (fun a h => h) _ hf rfl
  intro K hK
  unfold f_X11_openRoads
  refine s_iconst (v := 0) hX dX11_openRoads_0 (by decide) ?_
  refine s_istore_n (lv' := [(1, .int 0), (0, rf g 112)]) hX dX11_openRoads_1 rfl (by decide) rfl ?_
  refine s_iconst (v := 0) hX dX11_openRoads_2 (by decide) ?_
  refine s_istore_n (lv' := [(2, .int 0), (1, .int 0), (0, rf g 112)]) hX dX11_openRoads_3 rfl (by decide) rfl ?_
  refine s_loop hX 4 46 (fun s : Int32 × Int32 => [(0, rf g 112), (1, .int s.1), (2, .int s.2)]) (fun s : Int32 × Int32 => μ) (fun s : Int32 => [(1, .int s)]) (fun s : Int32 => μ) [2, 1, 0] rfl rfl rfl ?_ ?_
  · intro Kq4 hIq4 hJq4 sq
    obtain ⟨x1_1, x2_2⟩ := sq
    refine s_cu2 ?_
    show Sim G _ _ 4 [(0, rf g 112), (1, .int x1_1), (2, .int x2_2)] [] μ
    refine s_iload_n hX dX11_openRoads_4 rfl 2 rfl ?_
    refine s_aload_n hX dX11_openRoads_5 rfl 0 rfl ?_
    refine s_getR hX (d := 1) 113 flX11_7 rfl rfl dX11_openRoads_6 ?_
    refine s_iconst (v := 2) hX dX11_openRoads_9 (by decide) ?_
    refine s_ialdK hX rfl rfl (by decide) rfl dX11_openRoads_10 ?_
    refine s_icmp_ge hX 46 dX11_openRoads_11 (by decide) ?_ ?_
    · exact s_end hX (hJq4 x1_1) [1] rfl
    · refine s_iload_n hX dX11_openRoads_14 rfl 1 rfl ?_
      refine s_aload_n hX dX11_openRoads_15 rfl 0 rfl ?_
      refine s_getR hX (d := 1) 113 flX11_7 rfl rfl dX11_openRoads_16 ?_
      refine s_bipush (v := 41) hX dX11_openRoads_19 (by decide) ?_
      refine s_iconst (v := 3) hX dX11_openRoads_21 (by decide) ?_
      refine s_iload_n hX dX11_openRoads_22 rfl 2 rfl ?_
      refine s_imul hX dX11_openRoads_23 ?_
      refine s_iadd hX dX11_openRoads_24 ?_
      refine s_iconst (v := 2) hX dX11_openRoads_25 (by decide) ?_
      refine s_iadd hX dX11_openRoads_26 ?_
      refine s_iald hX rfl rfl dX11_openRoads_27 ?_
      refine s_jn (C := fun j => ∀ (y5 : Int32), Sim G (j y5) Kq4 38 [(0, rf g 112), (2, .int x2_2)] [.int y5, .int x1_1] μ) ?_ (fun j6 hj6 => ?_)
      · intro y5
        show Sim G _ _ 38 [(0, rf g 112), (2, .int x2_2)] [.int y5, .int x1_1] μ
        refine s_ior hX dX11_openRoads_38 ?_
        refine s_istore_n (lv' := [(1, .int (x1_1 ||| y5)), (0, rf g 112), (2, .int x2_2)]) hX dX11_openRoads_39 rfl (by decide) rfl ?_
        refine s_iinc (v := (x2_2 + 1)) (lv' := [(2, .int (x2_2 + 1)), (1, .int (x1_1 ||| y5)), (0, rf g 112)]) hX dX11_openRoads_40 2 rfl rfl (by decide) rfl ?_
        refine s_goto hX 4 dX11_openRoads_43 (by decide) ?_
        exact s_end hX (hIq4 ((x1_1 ||| y5), (x2_2 + 1))) [2, 1, 0] rfl
      refine s_if_ne hX 37 dX11_openRoads_28 (by decide) ?_ ?_
      · refine s_iconst (v := 0) hX dX11_openRoads_37 (by decide) ?_
        exact s_to hX [0, 2] rfl (hj6 0)
      · refine s_iconst (v := 1) hX dX11_openRoads_31 (by decide) ?_
        refine s_iload_n hX dX11_openRoads_32 rfl 2 rfl ?_
        refine s_ishl hX dX11_openRoads_33 ?_
        refine s_goto hX 38 dX11_openRoads_34 (by decide) ?_
        exact s_to hX [0, 2] rfl (hj6 (1 <<< (x2_2 &&& 31)))
  · intro sq
    obtain ⟨x1_3, rfl⟩ : ∃ z, z = sq := ⟨_, rfl⟩
    show Sim G _ _ 46 [(1, .int x1_3)] [] μ
    refine s_iload_n hX dX11_openRoads_46 rfl 0 rfl ?_
    exact s_iretr hK hR dX11_openRoads_47
theorem dX11_orders_0 : decode cX11_orders 0 = .ok (.iconst 1, 1) := by decide +kernel
theorem dX11_orders_1 : decode cX11_orders 1 = .ok (.istore_n 1, 1) := by decide +kernel
theorem dX11_orders_2 : decode cX11_orders 2 = .ok (.iconst 2, 1) := by decide +kernel
theorem dX11_orders_3 : decode cX11_orders 3 = .ok (.istore_n 2, 1) := by decide +kernel
theorem dX11_orders_4 : decode cX11_orders 4 = .ok (.iload_n 2, 1) := by decide +kernel
theorem dX11_orders_5 : decode cX11_orders 5 = .ok (.iload_n 0, 1) := by decide +kernel
theorem dX11_orders_6 : decode cX11_orders 6 = .ok (.if_icmp .gt 13, 3) := by decide +kernel
theorem dX11_orders_9 : decode cX11_orders 9 = .ok (.iload_n 1, 1) := by decide +kernel
theorem dX11_orders_10 : decode cX11_orders 10 = .ok (.iload_n 2, 1) := by decide +kernel
theorem dX11_orders_11 : decode cX11_orders 11 = .ok (.imul, 1) := by decide +kernel
theorem dX11_orders_12 : decode cX11_orders 12 = .ok (.istore_n 1, 1) := by decide +kernel
theorem dX11_orders_13 : decode cX11_orders 13 = .ok (.iinc 2 1, 3) := by decide +kernel
theorem dX11_orders_16 : decode cX11_orders 16 = .ok (.goto (-12), 3) := by decide +kernel
theorem dX11_orders_19 : decode cX11_orders 19 = .ok (.iload_n 1, 1) := by decide +kernel
theorem dX11_orders_20 : decode cX11_orders 20 = .ok (.ireturn, 1) := by decide +kernel
noncomputable def f_X11_orders (x0 : Int32) : Option Int32 :=
  bd (lp (ε := Int32) (cu2 fun (x1_1 : Int32) (x2_2 : Int32) =>
    if x0 < x2_2 then
      some (.inr x1_1)
    else
      some (.inl ((x1_1 * x2_2), (x2_2 + 1)))
    ) (1, 2)) (fun (x1_3 : Int32) =>
    some x1_3
    )
set_option maxHeartbeats 4000000 in
set_option maxRecDepth 100000 in
theorem c_X11_orders {g : GT} {x0 : Int32} {μ : Mem} {r0 : Int32} (hf : f_X11_orders x0 = some r0) : CI g yX11_orders cX11_orders 3 (some .int) 1 [.int x0] μ r0 μ := by
  refine mk_i (by decide) (Nat.le_of_ble_eq_true rfl) ?_
  intro G hX hR
  have hX : CX g G cX11_orders RX11 3 1 := hX
  suffices S : ∀ K : Int32 → Prop, (∀ a, K a → a = r0) → Sim G (f_X11_orders x0) K 0 [(0, .int x0)] [] μ from S (fun a => a = r0) (fun a h => h) _ hf rfl
  intro K hK
  unfold f_X11_orders
  refine s_iconst (v := 1) hX dX11_orders_0 (by decide) ?_
  refine s_istore_n (lv' := [(1, .int 1), (0, .int x0)]) hX dX11_orders_1 rfl (by decide) rfl ?_
  refine s_iconst (v := 2) hX dX11_orders_2 (by decide) ?_
  refine s_istore_n (lv' := [(2, .int 2), (1, .int 1), (0, .int x0)]) hX dX11_orders_3 rfl (by decide) rfl ?_
  refine s_loop hX 4 19 (fun s : Int32 × Int32 => [(0, .int x0), (1, .int s.1), (2, .int s.2)]) (fun s : Int32 × Int32 => μ) (fun s : Int32 => [(1, .int s)]) (fun s : Int32 => μ) [2, 1, 0] rfl rfl rfl ?_ ?_
  · intro Kq4 hIq4 hJq4 sq
    obtain ⟨x1_1, x2_2⟩ := sq
    refine s_cu2 ?_
    show Sim G _ _ 4 [(0, .int x0), (1, .int x1_1), (2, .int x2_2)] [] μ
    refine s_iload_n hX dX11_orders_4 rfl 2 rfl ?_
    refine s_iload_n hX dX11_orders_5 rfl 0 rfl ?_
    refine s_icmp_gt hX 19 dX11_orders_6 (by decide) ?_ ?_
    · exact s_end hX (hJq4 x1_1) [1] rfl
    · refine s_iload_n hX dX11_orders_9 rfl 1 rfl ?_
      refine s_iload_n hX dX11_orders_10 rfl 2 rfl ?_
      refine s_imul hX dX11_orders_11 ?_
      refine s_istore_n (lv' := [(1, .int (x1_1 * x2_2)), (0, .int x0), (2, .int x2_2)]) hX dX11_orders_12 rfl (by decide) rfl ?_
      refine s_iinc (v := (x2_2 + 1)) (lv' := [(2, .int (x2_2 + 1)), (1, .int (x1_1 * x2_2)), (0, .int x0)]) hX dX11_orders_13 2 rfl rfl (by decide) rfl ?_
      refine s_goto hX 4 dX11_orders_16 (by decide) ?_
      exact s_end hX (hIq4 ((x1_1 * x2_2), (x2_2 + 1))) [2, 1, 0] rfl
  · intro sq
    obtain ⟨x1_3, rfl⟩ : ∃ z, z = sq := ⟨_, rfl⟩
    show Sim G _ _ 19 [(1, .int x1_3)] [] μ
    refine s_iload_n hX dX11_orders_19 rfl 0 rfl ?_
    exact s_iretr hK hR dX11_orders_20
theorem dX11_puts_0 : decode cX11_puts 0 = .ok (.aload_n 0, 1) := by decide +kernel
theorem dX11_puts_1 : decode cX11_puts 1 = .ok (.getfield 7, 3) := by decide +kernel
theorem dX11_puts_4 : decode cX11_puts 4 = .ok (.iload_n 1, 1) := by decide +kernel
theorem dX11_puts_5 : decode cX11_puts 5 = .ok (.iaload, 1) := by decide +kernel
theorem dX11_puts_6 : decode cX11_puts 6 = .ok (.istore_n 3, 1) := by decide +kernel
theorem dX11_puts_7 : decode cX11_puts 7 = .ok (.aload_n 0, 1) := by decide +kernel
theorem dX11_puts_8 : decode cX11_puts 8 = .ok (.getfield 7, 3) := by decide +kernel
theorem dX11_puts_11 : decode cX11_puts 11 = .ok (.iload_n 1, 1) := by decide +kernel
theorem dX11_puts_12 : decode cX11_puts 12 = .ok (.iload_n 2, 1) := by decide +kernel
theorem dX11_puts_13 : decode cX11_puts 13 = .ok (.iastore, 1) := by decide +kernel
theorem dX11_puts_14 : decode cX11_puts 14 = .ok (.iload_n 3, 1) := by decide +kernel
theorem dX11_puts_15 : decode cX11_puts 15 = .ok (.ireturn, 1) := by decide +kernel
noncomputable def f_X11_puts (x1 : Int32) (x2 : Int32) (μ : Mem) : Option (Int32 × Mem) :=
  chk x1 184 (
    chk x1 184 (lt (setI μ 113 (ix x1) x2) fun ν1 =>
      some ((μ.1 113 (ix x1)), ν1)
      )
    )
set_option maxHeartbeats 4000000 in
set_option maxRecDepth 100000 in
theorem c_X11_puts {g : GT} {x1 : Int32} {x2 : Int32} {μ : Mem} {μ0 : Mem} {r0 : Int32} (hf : f_X11_puts x1 x2 μ = some (r0, μ0)) : CI g yX11_puts cX11_puts 4 (some .int) 1 [rf g 112, .int x1, .int x2] μ r0 μ0 := by
  refine mk_i (by decide) (Nat.le_of_ble_eq_true rfl) ?_
  intro G hX hR
  have hX : CX g G cX11_puts RX11 4 1 := hX
  suffices S : ∀ K : (Int32 × Mem) → Prop, (∀ a, K a → a = (r0, μ0)) → Sim G (f_X11_puts x1 x2 μ) K 0 [(0, rf g 112), (1, .int x1), (2, .int x2)] [] μ from S (fun a => a = (r0, μ0)) (fun a h => h) _ hf rfl
  intro K hK
  unfold f_X11_puts
  refine s_aload_n hX dX11_puts_0 rfl 0 rfl ?_
  refine s_getR hX (d := 1) 113 flX11_7 rfl rfl dX11_puts_1 ?_
  refine s_iload_n hX dX11_puts_4 rfl 1 rfl ?_
  refine s_iald hX rfl rfl dX11_puts_5 ?_
  refine s_istore_n (lv' := [(3, .int (μ.1 113 (ix x1))), (0, rf g 112), (1, .int x1), (2, .int x2)]) hX dX11_puts_6 rfl (by decide) rfl ?_
  refine s_aload_n hX dX11_puts_7 rfl 1 rfl ?_
  refine s_getR hX (d := 1) 113 flX11_7 rfl rfl dX11_puts_8 ?_
  refine s_iload_n hX dX11_puts_11 rfl 2 rfl ?_
  refine s_iload_n hX dX11_puts_12 rfl 3 rfl ?_
  refine s_iast hX rfl rfl dX11_puts_13 (fun ν1 => ?_)
  refine s_iload_n hX dX11_puts_14 rfl 0 rfl ?_
  exact s_ireti hK hR dX11_puts_15
theorem dX11_refuses_0 : decode cX11_refuses 0 = .ok (.aload_n 0, 1) := by decide +kernel
theorem dX11_refuses_1 : decode cX11_refuses 1 = .ok (.getfield 23, 3) := by decide +kernel
theorem dX11_refuses_4 : decode cX11_refuses 4 = .ok (.iload_n 1, 1) := by decide +kernel
theorem dX11_refuses_5 : decode cX11_refuses 5 = .ok (.dup2, 1) := by decide +kernel
theorem dX11_refuses_6 : decode cX11_refuses 6 = .ok (.iaload, 1) := by decide +kernel
theorem dX11_refuses_7 : decode cX11_refuses 7 = .ok (.aload_n 0, 1) := by decide +kernel
theorem dX11_refuses_8 : decode cX11_refuses 8 = .ok (.getfield 43, 3) := by decide +kernel
theorem dX11_refuses_11 : decode cX11_refuses 11 = .ok (.ifCond .eq 7, 3) := by decide +kernel
theorem dX11_refuses_14 : decode cX11_refuses 14 = .ok (.iconst 0, 1) := by decide +kernel
theorem dX11_refuses_15 : decode cX11_refuses 15 = .ok (.goto 4, 3) := by decide +kernel
theorem dX11_refuses_18 : decode cX11_refuses 18 = .ok (.iconst 1, 1) := by decide +kernel
theorem dX11_refuses_19 : decode cX11_refuses 19 = .ok (.iadd, 1) := by decide +kernel
theorem dX11_refuses_20 : decode cX11_refuses 20 = .ok (.iastore, 1) := by decide +kernel
theorem dX11_refuses_21 : decode cX11_refuses 21 = .ok (.iload_n 2, 1) := by decide +kernel
theorem dX11_refuses_22 : decode cX11_refuses 22 = .ok (.ireturn, 1) := by decide +kernel
noncomputable def f_X11_refuses (x1 : Int32) (x2 : Int32) (μ : Mem) : Option (Int32 × Mem) :=
  chk x1 3 (
    jn (fun (y1 : Int32) =>
      chk x1 3 (lt (setI μ 117 (ix x1) ((μ.1 117 (ix x1)) + y1)) fun ν3 =>
        some (x2, ν3)
        )
      ) fun j2 =>
    if (μ.1 112 5) = 0 then
      j2 1
    else
      j2 0
    )
set_option maxHeartbeats 4000000 in
set_option maxRecDepth 100000 in
theorem c_X11_refuses {g : GT} {x1 : Int32} {x2 : Int32} {μ : Mem} {μ0 : Mem} {r0 : Int32} (hf : f_X11_refuses x1 x2 μ = some (r0, μ0)) : CI g yX11_refuses cX11_refuses 3 (some .int) 1 [rf g 112, .int x1, .int x2] μ r0 μ0 := by
  refine mk_i (by decide) (Nat.le_of_ble_eq_true rfl) ?_
  intro G hX hR
  have hX : CX g G cX11_refuses RX11 3 1 := hX
  suffices S : ∀ K : (Int32 × Mem) → Prop, (∀ a, K a → a = (r0, μ0)) → Sim G (f_X11_refuses x1 x2 μ) K 0 [(0, rf g 112), (1, .int x1), (2, .int x2)] [] μ from S (fun a => a = (r0, μ0)) (fun a h => h) _ hf rfl
  intro K hK
  unfold f_X11_refuses
  refine s_aload_n hX dX11_refuses_0 rfl 0 rfl ?_
  refine s_getR hX (d := 5) 117 flX11_23 rfl rfl dX11_refuses_1 ?_
  refine s_iload_n hX dX11_refuses_4 rfl 1 rfl ?_
  refine s_dup2 hX dX11_refuses_5 rfl rfl ?_
  refine s_iald hX rfl rfl dX11_refuses_6 ?_
  refine s_aload_n hX dX11_refuses_7 rfl 0 rfl ?_
  refine s_getI hX flX11_43 rfl dX11_refuses_8 ?_
  refine s_jn (C := fun j => ∀ (y1 : Int32), Sim G (j y1) K 19 [(2, .int x2)] [.int y1, .int (μ.1 117 (ix x1)), .int x1, rf g 117] μ) ?_ (fun j2 hj2 => ?_)
  · intro y1
    show Sim G _ _ 19 [(2, .int x2)] [.int y1, .int (μ.1 117 (ix x1)), .int x1, rf g 117] μ
    refine s_iadd hX dX11_refuses_19 ?_
    refine s_iast hX rfl rfl dX11_refuses_20 (fun ν3 => ?_)
    refine s_iload_n hX dX11_refuses_21 rfl 0 rfl ?_
    exact s_ireti hK hR dX11_refuses_22
  refine s_if_eq hX 18 dX11_refuses_11 (by decide) ?_ ?_
  · refine s_iconst (v := 1) hX dX11_refuses_18 (by decide) ?_
    exact s_to hX [2] rfl (hj2 1)
  · refine s_iconst (v := 0) hX dX11_refuses_14 (by decide) ?_
    refine s_goto hX 19 dX11_refuses_15 (by decide) ?_
    exact s_to hX [2] rfl (hj2 0)
theorem dX11_remembers_0 : decode cX11_remembers 0 = .ok (.aload_n 0, 1) := by decide +kernel
theorem dX11_remembers_1 : decode cX11_remembers 1 = .ok (.getfield 7, 3) := by decide +kernel
theorem dX11_remembers_4 : decode cX11_remembers 4 = .ok (.iconst 4, 1) := by decide +kernel
theorem dX11_remembers_5 : decode cX11_remembers 5 = .ok (.iaload, 1) := by decide +kernel
theorem dX11_remembers_6 : decode cX11_remembers 6 = .ok (.bipush 10, 2) := by decide +kernel
theorem dX11_remembers_8 : decode cX11_remembers 8 = .ok (.if_icmp .ne 48, 3) := by decide +kernel
theorem dX11_remembers_11 : decode cX11_remembers 11 = .ok (.iconst 0, 1) := by decide +kernel
theorem dX11_remembers_12 : decode cX11_remembers 12 = .ok (.istore_n 1, 1) := by decide +kernel
theorem dX11_remembers_13 : decode cX11_remembers 13 = .ok (.iload_n 1, 1) := by decide +kernel
theorem dX11_remembers_14 : decode cX11_remembers 14 = .ok (.bipush 99, 2) := by decide +kernel
theorem dX11_remembers_16 : decode cX11_remembers 16 = .ok (.if_icmp .ge 30, 3) := by decide +kernel
theorem dX11_remembers_19 : decode cX11_remembers 19 = .ok (.aload_n 0, 1) := by decide +kernel
theorem dX11_remembers_20 : decode cX11_remembers 20 = .ok (.getfield 7, 3) := by decide +kernel
theorem dX11_remembers_23 : decode cX11_remembers 23 = .ok (.bipush 74, 2) := by decide +kernel
theorem dX11_remembers_25 : decode cX11_remembers 25 = .ok (.iload_n 1, 1) := by decide +kernel
theorem dX11_remembers_26 : decode cX11_remembers 26 = .ok (.iadd, 1) := by decide +kernel
theorem dX11_remembers_27 : decode cX11_remembers 27 = .ok (.aload_n 0, 1) := by decide +kernel
theorem dX11_remembers_28 : decode cX11_remembers 28 = .ok (.getfield 7, 3) := by decide +kernel
theorem dX11_remembers_31 : decode cX11_remembers 31 = .ok (.bipush 74, 2) := by decide +kernel
theorem dX11_remembers_33 : decode cX11_remembers 33 = .ok (.iload_n 1, 1) := by decide +kernel
theorem dX11_remembers_34 : decode cX11_remembers 34 = .ok (.iadd, 1) := by decide +kernel
theorem dX11_remembers_35 : decode cX11_remembers 35 = .ok (.bipush 11, 2) := by decide +kernel
theorem dX11_remembers_37 : decode cX11_remembers 37 = .ok (.iadd, 1) := by decide +kernel
theorem dX11_remembers_38 : decode cX11_remembers 38 = .ok (.iaload, 1) := by decide +kernel
theorem dX11_remembers_39 : decode cX11_remembers 39 = .ok (.iastore, 1) := by decide +kernel
theorem dX11_remembers_40 : decode cX11_remembers 40 = .ok (.iinc 1 1, 3) := by decide +kernel
theorem dX11_remembers_43 : decode cX11_remembers 43 = .ok (.goto (-30), 3) := by decide +kernel
theorem dX11_remembers_46 : decode cX11_remembers 46 = .ok (.aload_n 0, 1) := by decide +kernel
theorem dX11_remembers_47 : decode cX11_remembers 47 = .ok (.getfield 7, 3) := by decide +kernel
theorem dX11_remembers_50 : decode cX11_remembers 50 = .ok (.iconst 4, 1) := by decide +kernel
theorem dX11_remembers_51 : decode cX11_remembers 51 = .ok (.dup2, 1) := by decide +kernel
theorem dX11_remembers_52 : decode cX11_remembers 52 = .ok (.iaload, 1) := by decide +kernel
theorem dX11_remembers_53 : decode cX11_remembers 53 = .ok (.iconst 1, 1) := by decide +kernel
theorem dX11_remembers_54 : decode cX11_remembers 54 = .ok (.isub, 1) := by decide +kernel
theorem dX11_remembers_55 : decode cX11_remembers 55 = .ok (.iastore, 1) := by decide +kernel
theorem dX11_remembers_56 : decode cX11_remembers 56 = .ok (.bipush 74, 2) := by decide +kernel
theorem dX11_remembers_58 : decode cX11_remembers 58 = .ok (.bipush 11, 2) := by decide +kernel
theorem dX11_remembers_60 : decode cX11_remembers 60 = .ok (.aload_n 0, 1) := by decide +kernel
theorem dX11_remembers_61 : decode cX11_remembers 61 = .ok (.getfield 7, 3) := by decide +kernel
theorem dX11_remembers_64 : decode cX11_remembers 64 = .ok (.iconst 4, 1) := by decide +kernel
theorem dX11_remembers_65 : decode cX11_remembers 65 = .ok (.iaload, 1) := by decide +kernel
theorem dX11_remembers_66 : decode cX11_remembers 66 = .ok (.imul, 1) := by decide +kernel
theorem dX11_remembers_67 : decode cX11_remembers 67 = .ok (.iadd, 1) := by decide +kernel
theorem dX11_remembers_68 : decode cX11_remembers 68 = .ok (.istore_n 1, 1) := by decide +kernel
theorem dX11_remembers_69 : decode cX11_remembers 69 = .ok (.aload_n 0, 1) := by decide +kernel
theorem dX11_remembers_70 : decode cX11_remembers 70 = .ok (.getfield 7, 3) := by decide +kernel
theorem dX11_remembers_73 : decode cX11_remembers 73 = .ok (.iload_n 1, 1) := by decide +kernel
theorem dX11_remembers_74 : decode cX11_remembers 74 = .ok (.aload_n 0, 1) := by decide +kernel
theorem dX11_remembers_75 : decode cX11_remembers 75 = .ok (.getfield 7, 3) := by decide +kernel
theorem dX11_remembers_78 : decode cX11_remembers 78 = .ok (.iconst 3, 1) := by decide +kernel
theorem dX11_remembers_79 : decode cX11_remembers 79 = .ok (.iaload, 1) := by decide +kernel
theorem dX11_remembers_80 : decode cX11_remembers 80 = .ok (.iastore, 1) := by decide +kernel
theorem dX11_remembers_81 : decode cX11_remembers 81 = .ok (.iconst 0, 1) := by decide +kernel
theorem dX11_remembers_82 : decode cX11_remembers 82 = .ok (.istore_n 2, 1) := by decide +kernel
theorem dX11_remembers_83 : decode cX11_remembers 83 = .ok (.iload_n 2, 1) := by decide +kernel
theorem dX11_remembers_84 : decode cX11_remembers 84 = .ok (.bipush 10, 2) := by decide +kernel
theorem dX11_remembers_86 : decode cX11_remembers 86 = .ok (.if_icmp .ge 28, 3) := by decide +kernel
theorem dX11_remembers_89 : decode cX11_remembers 89 = .ok (.aload_n 0, 1) := by decide +kernel
theorem dX11_remembers_90 : decode cX11_remembers 90 = .ok (.getfield 7, 3) := by decide +kernel
theorem dX11_remembers_93 : decode cX11_remembers 93 = .ok (.iload_n 1, 1) := by decide +kernel
theorem dX11_remembers_94 : decode cX11_remembers 94 = .ok (.iconst 1, 1) := by decide +kernel
theorem dX11_remembers_95 : decode cX11_remembers 95 = .ok (.iadd, 1) := by decide +kernel
theorem dX11_remembers_96 : decode cX11_remembers 96 = .ok (.iload_n 2, 1) := by decide +kernel
theorem dX11_remembers_97 : decode cX11_remembers 97 = .ok (.iadd, 1) := by decide +kernel
theorem dX11_remembers_98 : decode cX11_remembers 98 = .ok (.aload_n 0, 1) := by decide +kernel
theorem dX11_remembers_99 : decode cX11_remembers 99 = .ok (.getfield 7, 3) := by decide +kernel
theorem dX11_remembers_102 : decode cX11_remembers 102 = .ok (.bipush 26, 2) := by decide +kernel
theorem dX11_remembers_104 : decode cX11_remembers 104 = .ok (.iload_n 2, 1) := by decide +kernel
theorem dX11_remembers_105 : decode cX11_remembers 105 = .ok (.iadd, 1) := by decide +kernel
theorem dX11_remembers_106 : decode cX11_remembers 106 = .ok (.iaload, 1) := by decide +kernel
theorem dX11_remembers_107 : decode cX11_remembers 107 = .ok (.iastore, 1) := by decide +kernel
theorem dX11_remembers_108 : decode cX11_remembers 108 = .ok (.iinc 2 1, 3) := by decide +kernel
theorem dX11_remembers_111 : decode cX11_remembers 111 = .ok (.goto (-28), 3) := by decide +kernel
theorem dX11_remembers_114 : decode cX11_remembers 114 = .ok (.aload_n 0, 1) := by decide +kernel
theorem dX11_remembers_115 : decode cX11_remembers 115 = .ok (.getfield 7, 3) := by decide +kernel
theorem dX11_remembers_118 : decode cX11_remembers 118 = .ok (.iconst 4, 1) := by decide +kernel
theorem dX11_remembers_119 : decode cX11_remembers 119 = .ok (.dup2, 1) := by decide +kernel
theorem dX11_remembers_120 : decode cX11_remembers 120 = .ok (.iaload, 1) := by decide +kernel
theorem dX11_remembers_121 : decode cX11_remembers 121 = .ok (.iconst 1, 1) := by decide +kernel
theorem dX11_remembers_122 : decode cX11_remembers 122 = .ok (.iadd, 1) := by decide +kernel
theorem dX11_remembers_123 : decode cX11_remembers 123 = .ok (.iastore, 1) := by decide +kernel
theorem dX11_remembers_124 : decode cX11_remembers 124 = .ok (.return_, 1) := by decide +kernel
noncomputable def f_X11_remembers  (μ : Mem) : Option Mem :=
  jn (fun (ν1 : Mem) =>
    chk (74 + (11 * (ν1.1 113 4))) 184 (lt (setI ν1 113 (ix (74 + (11 * (ν1.1 113 4)))) (ν1.1 113 3)) fun ν3 =>
      bd (lp (ε := Mem) (cu2 fun (x2_4 : Int32) (ν5 : Mem) =>
        if x2_4 < 10 then
          chk (26 + x2_4) 184 (
            chk (((74 + (11 * (ν1.1 113 4))) + 1) + x2_4) 184 (lt (setI ν5 113 (ix (((74 + (11 * (ν1.1 113 4))) + 1) + x2_4)) (ν5.1 113 (ix (26 + x2_4)))) fun ν8 =>
              some (.inl ((x2_4 + 1), ν8))
              )
            )
        else
          some (.inr ν5)
        ) (0, ν3)) (fun (ν6 : Mem) =>
        lt (setI ν6 113 4 ((ν6.1 113 4) + 1)) fun ν9 =>
        some ν9
        )
      )
    ) fun j2 =>
  if (μ.1 113 4) = 10 then
    bd (lp (ε := Mem) (cu2 fun (x1_10 : Int32) (ν11 : Mem) =>
      if x1_10 < 99 then
        chk ((74 + x1_10) + 11) 184 (
          chk (74 + x1_10) 184 (lt (setI ν11 113 (ix (74 + x1_10)) (ν11.1 113 (ix ((74 + x1_10) + 11)))) fun ν14 =>
            some (.inl ((x1_10 + 1), ν14))
            )
          )
      else
        some (.inr ν11)
      ) (0, μ)) (fun (ν12 : Mem) =>
      lt (setI ν12 113 4 ((ν12.1 113 4) - 1)) fun ν15 =>
      j2 ν15
      )
  else
    j2 μ
set_option maxHeartbeats 4000000 in
set_option maxRecDepth 100000 in
theorem c_X11_remembers {g : GT}  {μ : Mem} {μ0 : Mem} (hf : f_X11_remembers  μ = some μ0) : CV g yX11_remembers cX11_remembers 3 (none) 1 [rf g 112] μ μ0 := by
  refine mk_v (by decide) (Nat.le_of_ble_eq_true rfl) ?_
  intro G hX hR
  have hX : CX g G cX11_remembers RX11 3 1 := hX
  suffices S : ∀ K : Mem → Prop, (∀ a, K a → a = μ0) → Sim G (f_X11_remembers  μ) K 0 [(0, rf g 112)] [] μ from S (fun a => a = μ0) (fun a h => h) _ hf rfl
  intro K hK
  unfold f_X11_remembers
  refine s_aload_n hX dX11_remembers_0 rfl 0 rfl ?_
  refine s_getR hX (d := 1) 113 flX11_7 rfl rfl dX11_remembers_1 ?_
  refine s_iconst (v := 4) hX dX11_remembers_4 (by decide) ?_
  refine s_ialdK hX rfl rfl (by decide) rfl dX11_remembers_5 ?_
  refine s_bipush (v := 10) hX dX11_remembers_6 (by decide) ?_
  refine s_jn (C := fun j => ∀ (ν1 : Mem), Sim G (j ν1) K 56 [(0, rf g 112)] [] ν1) ?_ (fun j2 hj2 => ?_)
  · intro ν1
    show Sim G _ _ 56 [(0, rf g 112)] [] ν1
    refine s_bipush (v := 74) hX dX11_remembers_56 (by decide) ?_
    refine s_bipush (v := 11) hX dX11_remembers_58 (by decide) ?_
    refine s_aload_n hX dX11_remembers_60 rfl 0 rfl ?_
    refine s_getR hX (d := 1) 113 flX11_7 rfl rfl dX11_remembers_61 ?_
    refine s_iconst (v := 4) hX dX11_remembers_64 (by decide) ?_
    refine s_ialdK hX rfl rfl (by decide) rfl dX11_remembers_65 ?_
    refine s_imul hX dX11_remembers_66 ?_
    refine s_iadd hX dX11_remembers_67 ?_
    refine s_istore_n (lv' := [(1, .int (74 + (11 * (ν1.1 113 4)))), (0, rf g 112)]) hX dX11_remembers_68 rfl (by decide) rfl ?_
    refine s_aload_n hX dX11_remembers_69 rfl 1 rfl ?_
    refine s_getR hX (d := 1) 113 flX11_7 rfl rfl dX11_remembers_70 ?_
    refine s_iload_n hX dX11_remembers_73 rfl 0 rfl ?_
    refine s_aload_n hX dX11_remembers_74 rfl 1 rfl ?_
    refine s_getR hX (d := 1) 113 flX11_7 rfl rfl dX11_remembers_75 ?_
    refine s_iconst (v := 3) hX dX11_remembers_78 (by decide) ?_
    refine s_ialdK hX rfl rfl (by decide) rfl dX11_remembers_79 ?_
    refine s_iast hX rfl rfl dX11_remembers_80 (fun ν3 => ?_)
    refine s_iconst (v := 0) hX dX11_remembers_81 (by decide) ?_
    refine s_istore_n (lv' := [(2, .int 0), (1, .int (74 + (11 * (ν1.1 113 4)))), (0, rf g 112)]) hX dX11_remembers_82 rfl (by decide) rfl ?_
    refine s_loop hX 83 114 (fun s : Int32 × Mem => [(0, rf g 112), (1, .int (74 + (11 * (ν1.1 113 4)))), (2, .int s.1)]) (fun s : Int32 × Mem => s.2) (fun s : Mem => [(0, rf g 112)]) (fun s : Mem => s) [2, 1, 0] rfl rfl rfl ?_ ?_
    · intro Kq7 hIq7 hJq7 sq
      obtain ⟨x2_4, ν5⟩ := sq
      refine s_cu2 ?_
      show Sim G _ _ 83 [(0, rf g 112), (1, .int (74 + (11 * (ν1.1 113 4)))), (2, .int x2_4)] [] ν5
      refine s_iload_n hX dX11_remembers_83 rfl 2 rfl ?_
      refine s_bipush (v := 10) hX dX11_remembers_84 (by decide) ?_
      refine s_icmp_ge hX 114 dX11_remembers_86 (by decide) ?_ ?_
      · exact s_end hX (hJq7 ν5) [0] rfl
      · refine s_aload_n hX dX11_remembers_89 rfl 0 rfl ?_
        refine s_getR hX (d := 1) 113 flX11_7 rfl rfl dX11_remembers_90 ?_
        refine s_iload_n hX dX11_remembers_93 rfl 1 rfl ?_
        refine s_iconst (v := 1) hX dX11_remembers_94 (by decide) ?_
        refine s_iadd hX dX11_remembers_95 ?_
        refine s_iload_n hX dX11_remembers_96 rfl 2 rfl ?_
        refine s_iadd hX dX11_remembers_97 ?_
        refine s_aload_n hX dX11_remembers_98 rfl 0 rfl ?_
        refine s_getR hX (d := 1) 113 flX11_7 rfl rfl dX11_remembers_99 ?_
        refine s_bipush (v := 26) hX dX11_remembers_102 (by decide) ?_
        refine s_iload_n hX dX11_remembers_104 rfl 2 rfl ?_
        refine s_iadd hX dX11_remembers_105 ?_
        refine s_iald hX rfl rfl dX11_remembers_106 ?_
        refine s_iast hX rfl rfl dX11_remembers_107 (fun ν8 => ?_)
        refine s_iinc (v := (x2_4 + 1)) (lv' := [(2, .int (x2_4 + 1)), (0, rf g 112), (1, .int (74 + (11 * (ν1.1 113 4))))]) hX dX11_remembers_108 2 rfl rfl (by decide) rfl ?_
        refine s_goto hX 83 dX11_remembers_111 (by decide) ?_
        exact s_end hX (hIq7 ((x2_4 + 1), ν8)) [1, 2, 0] rfl
    · intro sq
      obtain ⟨ν6, rfl⟩ : ∃ z, z = sq := ⟨_, rfl⟩
      show Sim G _ _ 114 [(0, rf g 112)] [] ν6
      refine s_aload_n hX dX11_remembers_114 rfl 0 rfl ?_
      refine s_getR hX (d := 1) 113 flX11_7 rfl rfl dX11_remembers_115 ?_
      refine s_iconst (v := 4) hX dX11_remembers_118 (by decide) ?_
      refine s_dup2 hX dX11_remembers_119 rfl rfl ?_
      refine s_ialdK hX rfl rfl (by decide) rfl dX11_remembers_120 ?_
      refine s_iconst (v := 1) hX dX11_remembers_121 (by decide) ?_
      refine s_iadd hX dX11_remembers_122 ?_
      refine s_iastK hX rfl rfl (by decide) rfl dX11_remembers_123 (fun ν9 => ?_)
      exact s_vreti hK hR dX11_remembers_124
  refine s_icmp_ne hX 56 dX11_remembers_8 (by decide) ?_ ?_
  · exact s_to hX [0] rfl (hj2 μ)
  · refine s_iconst (v := 0) hX dX11_remembers_11 (by decide) ?_
    refine s_istore_n (lv' := [(1, .int 0), (0, rf g 112)]) hX dX11_remembers_12 rfl (by decide) rfl ?_
    refine s_loop hX 13 46 (fun s : Int32 × Mem => [(0, rf g 112), (1, .int s.1)]) (fun s : Int32 × Mem => s.2) (fun s : Mem => [(0, rf g 112)]) (fun s : Mem => s) [1, 0] rfl rfl rfl ?_ ?_
    · intro Kq13 hIq13 hJq13 sq
      obtain ⟨x1_10, ν11⟩ := sq
      refine s_cu2 ?_
      show Sim G _ _ 13 [(0, rf g 112), (1, .int x1_10)] [] ν11
      refine s_iload_n hX dX11_remembers_13 rfl 1 rfl ?_
      refine s_bipush (v := 99) hX dX11_remembers_14 (by decide) ?_
      refine s_icmp_ge hX 46 dX11_remembers_16 (by decide) ?_ ?_
      · exact s_end hX (hJq13 ν11) [0] rfl
      · refine s_aload_n hX dX11_remembers_19 rfl 0 rfl ?_
        refine s_getR hX (d := 1) 113 flX11_7 rfl rfl dX11_remembers_20 ?_
        refine s_bipush (v := 74) hX dX11_remembers_23 (by decide) ?_
        refine s_iload_n hX dX11_remembers_25 rfl 1 rfl ?_
        refine s_iadd hX dX11_remembers_26 ?_
        refine s_aload_n hX dX11_remembers_27 rfl 0 rfl ?_
        refine s_getR hX (d := 1) 113 flX11_7 rfl rfl dX11_remembers_28 ?_
        refine s_bipush (v := 74) hX dX11_remembers_31 (by decide) ?_
        refine s_iload_n hX dX11_remembers_33 rfl 1 rfl ?_
        refine s_iadd hX dX11_remembers_34 ?_
        refine s_bipush (v := 11) hX dX11_remembers_35 (by decide) ?_
        refine s_iadd hX dX11_remembers_37 ?_
        refine s_iald hX rfl rfl dX11_remembers_38 ?_
        refine s_iast hX rfl rfl dX11_remembers_39 (fun ν14 => ?_)
        refine s_iinc (v := (x1_10 + 1)) (lv' := [(1, .int (x1_10 + 1)), (0, rf g 112)]) hX dX11_remembers_40 1 rfl rfl (by decide) rfl ?_
        refine s_goto hX 13 dX11_remembers_43 (by decide) ?_
        exact s_end hX (hIq13 ((x1_10 + 1), ν14)) [1, 0] rfl
    · intro sq
      obtain ⟨ν12, rfl⟩ : ∃ z, z = sq := ⟨_, rfl⟩
      show Sim G _ _ 46 [(0, rf g 112)] [] ν12
      refine s_aload_n hX dX11_remembers_46 rfl 0 rfl ?_
      refine s_getR hX (d := 1) 113 flX11_7 rfl rfl dX11_remembers_47 ?_
      refine s_iconst (v := 4) hX dX11_remembers_50 (by decide) ?_
      refine s_dup2 hX dX11_remembers_51 rfl rfl ?_
      refine s_ialdK hX rfl rfl (by decide) rfl dX11_remembers_52 ?_
      refine s_iconst (v := 1) hX dX11_remembers_53 (by decide) ?_
      refine s_isub hX dX11_remembers_54 ?_
      refine s_iastK hX rfl rfl (by decide) rfl dX11_remembers_55 (fun ν15 => ?_)
      exact s_to hX [0] rfl (hj2 ν15)
theorem dX11_seenOf_0 : decode cX11_seenOf 0 = .ok (.iload_n 0, 1) := by decide +kernel
theorem dX11_seenOf_1 : decode cX11_seenOf 1 = .ok (.iconst 1, 1) := by decide +kernel
theorem dX11_seenOf_2 : decode cX11_seenOf 2 = .ok (.if_icmp .ne 9, 3) := by decide +kernel
theorem dX11_seenOf_5 : decode cX11_seenOf 5 = .ok (.iload_n 1, 1) := by decide +kernel
theorem dX11_seenOf_6 : decode cX11_seenOf 6 = .ok (.iconst 2, 1) := by decide +kernel
theorem dX11_seenOf_7 : decode cX11_seenOf 7 = .ok (.idiv, 1) := by decide +kernel
theorem dX11_seenOf_8 : decode cX11_seenOf 8 = .ok (.goto 16, 3) := by decide +kernel
theorem dX11_seenOf_11 : decode cX11_seenOf 11 = .ok (.iload_n 0, 1) := by decide +kernel
theorem dX11_seenOf_12 : decode cX11_seenOf 12 = .ok (.iconst 2, 1) := by decide +kernel
theorem dX11_seenOf_13 : decode cX11_seenOf 13 = .ok (.if_icmp .ne 10, 3) := by decide +kernel
theorem dX11_seenOf_16 : decode cX11_seenOf 16 = .ok (.iload_n 1, 1) := by decide +kernel
theorem dX11_seenOf_17 : decode cX11_seenOf 17 = .ok (.bipush 10, 2) := by decide +kernel
theorem dX11_seenOf_19 : decode cX11_seenOf 19 = .ok (.iadd, 1) := by decide +kernel
theorem dX11_seenOf_20 : decode cX11_seenOf 20 = .ok (.goto 4, 3) := by decide +kernel
theorem dX11_seenOf_23 : decode cX11_seenOf 23 = .ok (.iload_n 1, 1) := by decide +kernel
theorem dX11_seenOf_24 : decode cX11_seenOf 24 = .ok (.istore_n 3, 1) := by decide +kernel
theorem dX11_seenOf_25 : decode cX11_seenOf 25 = .ok (.iload_n 0, 1) := by decide +kernel
theorem dX11_seenOf_26 : decode cX11_seenOf 26 = .ok (.iconst 3, 1) := by decide +kernel
theorem dX11_seenOf_27 : decode cX11_seenOf 27 = .ok (.if_icmp .ne 17, 3) := by decide +kernel
theorem dX11_seenOf_30 : decode cX11_seenOf 30 = .ok (.iload_n 2, 1) := by decide +kernel
theorem dX11_seenOf_31 : decode cX11_seenOf 31 = .ok (.iconst 2, 1) := by decide +kernel
theorem dX11_seenOf_32 : decode cX11_seenOf 32 = .ok (.irem, 1) := by decide +kernel
theorem dX11_seenOf_33 : decode cX11_seenOf 33 = .ok (.ifCond .ne 7, 3) := by decide +kernel
theorem dX11_seenOf_36 : decode cX11_seenOf 36 = .ok (.iload_n 1, 1) := by decide +kernel
theorem dX11_seenOf_37 : decode cX11_seenOf 37 = .ok (.goto 26, 3) := by decide +kernel
theorem dX11_seenOf_40 : decode cX11_seenOf 40 = .ok (.iconst 0, 1) := by decide +kernel
theorem dX11_seenOf_41 : decode cX11_seenOf 41 = .ok (.goto 22, 3) := by decide +kernel
theorem dX11_seenOf_44 : decode cX11_seenOf 44 = .ok (.iload_n 0, 1) := by decide +kernel
theorem dX11_seenOf_45 : decode cX11_seenOf 45 = .ok (.iconst 4, 1) := by decide +kernel
theorem dX11_seenOf_46 : decode cX11_seenOf 46 = .ok (.if_icmp .ne 11, 3) := by decide +kernel
theorem dX11_seenOf_49 : decode cX11_seenOf 49 = .ok (.iload_n 1, 1) := by decide +kernel
theorem dX11_seenOf_50 : decode cX11_seenOf 50 = .ok (.iconst 2, 1) := by decide +kernel
theorem dX11_seenOf_51 : decode cX11_seenOf 51 = .ok (.idiv, 1) := by decide +kernel
theorem dX11_seenOf_52 : decode cX11_seenOf 52 = .ok (.iconst 2, 1) := by decide +kernel
theorem dX11_seenOf_53 : decode cX11_seenOf 53 = .ok (.idiv, 1) := by decide +kernel
theorem dX11_seenOf_54 : decode cX11_seenOf 54 = .ok (.goto 9, 3) := by decide +kernel
theorem dX11_seenOf_57 : decode cX11_seenOf 57 = .ok (.iconst 2, 1) := by decide +kernel
theorem dX11_seenOf_58 : decode cX11_seenOf 58 = .ok (.iload_n 1, 1) := by decide +kernel
theorem dX11_seenOf_59 : decode cX11_seenOf 59 = .ok (.bipush 10, 2) := by decide +kernel
theorem dX11_seenOf_61 : decode cX11_seenOf 61 = .ok (.iadd, 1) := by decide +kernel
theorem dX11_seenOf_62 : decode cX11_seenOf 62 = .ok (.imul, 1) := by decide +kernel
theorem dX11_seenOf_63 : decode cX11_seenOf 63 = .ok (.istore 4, 2) := by decide +kernel
theorem dX11_seenOf_65 : decode cX11_seenOf 65 = .ok (.iload_n 0, 1) := by decide +kernel
theorem dX11_seenOf_66 : decode cX11_seenOf 66 = .ok (.iconst 3, 1) := by decide +kernel
theorem dX11_seenOf_67 : decode cX11_seenOf 67 = .ok (.if_icmp .ge 7, 3) := by decide +kernel
theorem dX11_seenOf_70 : decode cX11_seenOf 70 = .ok (.iload_n 3, 1) := by decide +kernel
theorem dX11_seenOf_71 : decode cX11_seenOf 71 = .ok (.goto 5, 3) := by decide +kernel
theorem dX11_seenOf_74 : decode cX11_seenOf 74 = .ok (.iload 4, 2) := by decide +kernel
theorem dX11_seenOf_76 : decode cX11_seenOf 76 = .ok (.ireturn, 1) := by decide +kernel
noncomputable def f_X11_seenOf (x0 : Int32) (x1 : Int32) (x2 : Int32) : Option Int32 :=
  jn (fun (y1 : Int32) =>
    jn (fun (y3 : Int32) =>
      jn (fun (y5 : Int32) =>
        some y5
        ) fun j6 =>
      if x0 < 3 then
        j6 y1
      else
        j6 y3
      ) fun j4 =>
    if x0 = 3 then
      if (x2 - x2 / 2 * 2) = 0 then
        j4 x1
      else
        j4 0
    else
      if x0 = 4 then
        j4 ((x1 / 2) / 2)
      else
        j4 (2 * (x1 + 10))
    ) fun j2 =>
  if x0 = 1 then
    j2 (x1 / 2)
  else
    if x0 = 2 then
      j2 (x1 + 10)
    else
      j2 x1
set_option maxHeartbeats 4000000 in
set_option maxRecDepth 100000 in
theorem c_X11_seenOf {g : GT} {x0 : Int32} {x1 : Int32} {x2 : Int32} {μ : Mem} {r0 : Int32} (hf : f_X11_seenOf x0 x1 x2 = some r0) : CI g yX11_seenOf cX11_seenOf 5 (some .int) 1 [.int x0, .int x1, .int x2] μ r0 μ := by
  refine mk_i (by decide) (Nat.le_of_ble_eq_true rfl) ?_
  intro G hX hR
  have hX : CX g G cX11_seenOf RX11 5 1 := hX
  suffices S : ∀ K : Int32 → Prop, (∀ a, K a → a = r0) → Sim G (f_X11_seenOf x0 x1 x2) K 0 [(0, .int x0), (1, .int x1), (2, .int x2)] [] μ from S (fun a => a = r0) (fun a h => h) _ hf rfl
  intro K hK
  unfold f_X11_seenOf
  refine s_iload_n hX dX11_seenOf_0 rfl 0 rfl ?_
  refine s_iconst (v := 1) hX dX11_seenOf_1 (by decide) ?_
  refine s_jn (C := fun j => ∀ (y1 : Int32), Sim G (j y1) K 24 [(0, .int x0), (1, .int x1), (2, .int x2)] [.int y1] μ) ?_ (fun j2 hj2 => ?_)
  · intro y1
    show Sim G _ _ 24 [(0, .int x0), (1, .int x1), (2, .int x2)] [.int y1] μ
    refine s_istore_n (lv' := [(3, .int y1), (0, .int x0), (1, .int x1), (2, .int x2)]) hX dX11_seenOf_24 rfl (by decide) rfl ?_
    refine s_iload_n hX dX11_seenOf_25 rfl 1 rfl ?_
    refine s_iconst (v := 3) hX dX11_seenOf_26 (by decide) ?_
    refine s_jn (C := fun j => ∀ (y3 : Int32), Sim G (j y3) K 63 [(0, .int x0), (3, .int y1)] [.int y3] μ) ?_ (fun j4 hj4 => ?_)
    · intro y3
      show Sim G _ _ 63 [(0, .int x0), (3, .int y1)] [.int y3] μ
      refine s_istore (lv' := [(4, .int y3), (0, .int x0), (3, .int y1)]) hX dX11_seenOf_63 (by decide) rfl ?_
      refine s_iload_n hX dX11_seenOf_65 rfl 1 rfl ?_
      refine s_iconst (v := 3) hX dX11_seenOf_66 (by decide) ?_
      refine s_jn (C := fun j => ∀ (y5 : Int32), Sim G (j y5) K 76 [] [.int y5] μ) ?_ (fun j6 hj6 => ?_)
      · intro y5
        show Sim G _ _ 76 [] [.int y5] μ
        exact s_iretr hK hR dX11_seenOf_76
      refine s_icmp_ge hX 74 dX11_seenOf_67 (by decide) ?_ ?_
      · refine s_iload hX dX11_seenOf_74 0 rfl ?_
        exact s_to hX [] rfl (hj6 y3)
      · refine s_iload_n hX dX11_seenOf_70 rfl 2 rfl ?_
        refine s_goto hX 76 dX11_seenOf_71 (by decide) ?_
        exact s_to hX [] rfl (hj6 y1)
    refine s_icmp_ne hX 44 dX11_seenOf_27 (by decide) ?_ ?_
    · refine s_iload_n hX dX11_seenOf_44 rfl 1 rfl ?_
      refine s_iconst (v := 4) hX dX11_seenOf_45 (by decide) ?_
      refine s_icmp_ne hX 57 dX11_seenOf_46 (by decide) ?_ ?_
      · refine s_iconst (v := 2) hX dX11_seenOf_57 (by decide) ?_
        refine s_iload_n hX dX11_seenOf_58 rfl 2 rfl ?_
        refine s_bipush (v := 10) hX dX11_seenOf_59 (by decide) ?_
        refine s_iadd hX dX11_seenOf_61 ?_
        refine s_imul hX dX11_seenOf_62 ?_
        exact s_to hX [1, 0] rfl (hj4 (2 * (x1 + 10)))
      · refine s_iload_n hX dX11_seenOf_49 rfl 2 rfl ?_
        refine s_iconst (v := 2) hX dX11_seenOf_50 (by decide) ?_
        refine s_idiv hX dX11_seenOf_51 (by decide) ?_
        refine s_iconst (v := 2) hX dX11_seenOf_52 (by decide) ?_
        refine s_idiv hX dX11_seenOf_53 (by decide) ?_
        refine s_goto hX 63 dX11_seenOf_54 (by decide) ?_
        exact s_to hX [1, 0] rfl (hj4 ((x1 / 2) / 2))
    · refine s_iload_n hX dX11_seenOf_30 rfl 3 rfl ?_
      refine s_iconst (v := 2) hX dX11_seenOf_31 (by decide) ?_
      refine s_irem hX dX11_seenOf_32 (by decide) ?_
      refine s_if_ne hX 40 dX11_seenOf_33 (by decide) ?_ ?_
      · refine s_iconst (v := 0) hX dX11_seenOf_40 (by decide) ?_
        refine s_goto hX 63 dX11_seenOf_41 (by decide) ?_
        exact s_to hX [1, 0] rfl (hj4 0)
      · refine s_iload_n hX dX11_seenOf_36 rfl 2 rfl ?_
        refine s_goto hX 63 dX11_seenOf_37 (by decide) ?_
        exact s_to hX [1, 0] rfl (hj4 x1)
  refine s_icmp_ne hX 11 dX11_seenOf_2 (by decide) ?_ ?_
  · refine s_iload_n hX dX11_seenOf_11 rfl 0 rfl ?_
    refine s_iconst (v := 2) hX dX11_seenOf_12 (by decide) ?_
    refine s_icmp_ne hX 23 dX11_seenOf_13 (by decide) ?_ ?_
    · refine s_iload_n hX dX11_seenOf_23 rfl 1 rfl ?_
      exact s_to hX [0, 1, 2] rfl (hj2 x1)
    · refine s_iload_n hX dX11_seenOf_16 rfl 1 rfl ?_
      refine s_bipush (v := 10) hX dX11_seenOf_17 (by decide) ?_
      refine s_iadd hX dX11_seenOf_19 ?_
      refine s_goto hX 24 dX11_seenOf_20 (by decide) ?_
      exact s_to hX [0, 1, 2] rfl (hj2 (x1 + 10))
  · refine s_iload_n hX dX11_seenOf_5 rfl 1 rfl ?_
    refine s_iconst (v := 2) hX dX11_seenOf_6 (by decide) ?_
    refine s_idiv hX dX11_seenOf_7 (by decide) ?_
    refine s_goto hX 24 dX11_seenOf_8 (by decide) ?_
    exact s_to hX [0, 1, 2] rfl (hj2 (x1 / 2))
theorem dX11_steps_0 : decode cX11_steps 0 = .ok (.iload_n 1, 1) := by decide +kernel
theorem dX11_steps_1 : decode cX11_steps 1 = .ok (.istore_n 3, 1) := by decide +kernel
theorem dX11_steps_2 : decode cX11_steps 2 = .ok (.iconst 0, 1) := by decide +kernel
theorem dX11_steps_3 : decode cX11_steps 3 = .ok (.istore 4, 2) := by decide +kernel
theorem dX11_steps_5 : decode cX11_steps 5 = .ok (.iload 4, 2) := by decide +kernel
theorem dX11_steps_7 : decode cX11_steps 7 = .ok (.aload_n 0, 1) := by decide +kernel
theorem dX11_steps_8 : decode cX11_steps 8 = .ok (.getfield 7, 3) := by decide +kernel
theorem dX11_steps_11 : decode cX11_steps 11 = .ok (.iconst 2, 1) := by decide +kernel
theorem dX11_steps_12 : decode cX11_steps 12 = .ok (.iaload, 1) := by decide +kernel
theorem dX11_steps_13 : decode cX11_steps 13 = .ok (.if_icmp .ge 108, 3) := by decide +kernel
theorem dX11_steps_16 : decode cX11_steps 16 = .ok (.aload_n 0, 1) := by decide +kernel
theorem dX11_steps_17 : decode cX11_steps 17 = .ok (.getfield 7, 3) := by decide +kernel
theorem dX11_steps_20 : decode cX11_steps 20 = .ok (.bipush 41, 2) := by decide +kernel
theorem dX11_steps_22 : decode cX11_steps 22 = .ok (.iconst 3, 1) := by decide +kernel
theorem dX11_steps_23 : decode cX11_steps 23 = .ok (.iload 4, 2) := by decide +kernel
theorem dX11_steps_25 : decode cX11_steps 25 = .ok (.imul, 1) := by decide +kernel
theorem dX11_steps_26 : decode cX11_steps 26 = .ok (.iadd, 1) := by decide +kernel
theorem dX11_steps_27 : decode cX11_steps 27 = .ok (.iaload, 1) := by decide +kernel
theorem dX11_steps_28 : decode cX11_steps 28 = .ok (.istore 5, 2) := by decide +kernel
theorem dX11_steps_30 : decode cX11_steps 30 = .ok (.aload_n 0, 1) := by decide +kernel
theorem dX11_steps_31 : decode cX11_steps 31 = .ok (.getfield 7, 3) := by decide +kernel
theorem dX11_steps_34 : decode cX11_steps 34 = .ok (.bipush 41, 2) := by decide +kernel
theorem dX11_steps_36 : decode cX11_steps 36 = .ok (.iconst 3, 1) := by decide +kernel
theorem dX11_steps_37 : decode cX11_steps 37 = .ok (.iload 4, 2) := by decide +kernel
theorem dX11_steps_39 : decode cX11_steps 39 = .ok (.imul, 1) := by decide +kernel
theorem dX11_steps_40 : decode cX11_steps 40 = .ok (.iadd, 1) := by decide +kernel
theorem dX11_steps_41 : decode cX11_steps 41 = .ok (.iconst 1, 1) := by decide +kernel
theorem dX11_steps_42 : decode cX11_steps 42 = .ok (.iadd, 1) := by decide +kernel
theorem dX11_steps_43 : decode cX11_steps 43 = .ok (.iaload, 1) := by decide +kernel
theorem dX11_steps_44 : decode cX11_steps 44 = .ok (.istore 6, 2) := by decide +kernel
theorem dX11_steps_46 : decode cX11_steps 46 = .ok (.iload_n 2, 1) := by decide +kernel
theorem dX11_steps_47 : decode cX11_steps 47 = .ok (.iload 4, 2) := by decide +kernel
theorem dX11_steps_49 : decode cX11_steps 49 = .ok (.ishr, 1) := by decide +kernel
theorem dX11_steps_50 : decode cX11_steps 50 = .ok (.iconst 1, 1) := by decide +kernel
theorem dX11_steps_51 : decode cX11_steps 51 = .ok (.iand, 1) := by decide +kernel
theorem dX11_steps_52 : decode cX11_steps 52 = .ok (.iconst 1, 1) := by decide +kernel
theorem dX11_steps_53 : decode cX11_steps 53 = .ok (.if_icmp .ne 7, 3) := by decide +kernel
theorem dX11_steps_56 : decode cX11_steps 56 = .ok (.iconst 1, 1) := by decide +kernel
theorem dX11_steps_57 : decode cX11_steps 57 = .ok (.goto 4, 3) := by decide +kernel
theorem dX11_steps_60 : decode cX11_steps 60 = .ok (.iconst 0, 1) := by decide +kernel
theorem dX11_steps_61 : decode cX11_steps 61 = .ok (.istore 7, 2) := by decide +kernel
theorem dX11_steps_63 : decode cX11_steps 63 = .ok (.iload_n 3, 1) := by decide +kernel
theorem dX11_steps_64 : decode cX11_steps 64 = .ok (.iload 7, 2) := by decide +kernel
theorem dX11_steps_66 : decode cX11_steps 66 = .ok (.ifCond .eq 20, 3) := by decide +kernel
theorem dX11_steps_69 : decode cX11_steps 69 = .ok (.iload_n 1, 1) := by decide +kernel
theorem dX11_steps_70 : decode cX11_steps 70 = .ok (.iload 5, 2) := by decide +kernel
theorem dX11_steps_72 : decode cX11_steps 72 = .ok (.ishr, 1) := by decide +kernel
theorem dX11_steps_73 : decode cX11_steps 73 = .ok (.iconst 1, 1) := by decide +kernel
theorem dX11_steps_74 : decode cX11_steps 74 = .ok (.iand, 1) := by decide +kernel
theorem dX11_steps_75 : decode cX11_steps 75 = .ok (.iconst 1, 1) := by decide +kernel
theorem dX11_steps_76 : decode cX11_steps 76 = .ok (.if_icmp .ne 10, 3) := by decide +kernel
theorem dX11_steps_79 : decode cX11_steps 79 = .ok (.iconst 1, 1) := by decide +kernel
theorem dX11_steps_80 : decode cX11_steps 80 = .ok (.iload 6, 2) := by decide +kernel
theorem dX11_steps_82 : decode cX11_steps 82 = .ok (.ishl, 1) := by decide +kernel
theorem dX11_steps_83 : decode cX11_steps 83 = .ok (.goto 4, 3) := by decide +kernel
theorem dX11_steps_86 : decode cX11_steps 86 = .ok (.iconst 0, 1) := by decide +kernel
theorem dX11_steps_87 : decode cX11_steps 87 = .ok (.ior, 1) := by decide +kernel
theorem dX11_steps_88 : decode cX11_steps 88 = .ok (.istore_n 3, 1) := by decide +kernel
theorem dX11_steps_89 : decode cX11_steps 89 = .ok (.iload_n 3, 1) := by decide +kernel
theorem dX11_steps_90 : decode cX11_steps 90 = .ok (.iload 7, 2) := by decide +kernel
theorem dX11_steps_92 : decode cX11_steps 92 = .ok (.ifCond .eq 20, 3) := by decide +kernel
theorem dX11_steps_95 : decode cX11_steps 95 = .ok (.iload_n 1, 1) := by decide +kernel
theorem dX11_steps_96 : decode cX11_steps 96 = .ok (.iload 6, 2) := by decide +kernel
theorem dX11_steps_98 : decode cX11_steps 98 = .ok (.ishr, 1) := by decide +kernel
theorem dX11_steps_99 : decode cX11_steps 99 = .ok (.iconst 1, 1) := by decide +kernel
theorem dX11_steps_100 : decode cX11_steps 100 = .ok (.iand, 1) := by decide +kernel
theorem dX11_steps_101 : decode cX11_steps 101 = .ok (.iconst 1, 1) := by decide +kernel
theorem dX11_steps_102 : decode cX11_steps 102 = .ok (.if_icmp .ne 10, 3) := by decide +kernel
theorem dX11_steps_105 : decode cX11_steps 105 = .ok (.iconst 1, 1) := by decide +kernel
theorem dX11_steps_106 : decode cX11_steps 106 = .ok (.iload 5, 2) := by decide +kernel
theorem dX11_steps_108 : decode cX11_steps 108 = .ok (.ishl, 1) := by decide +kernel
theorem dX11_steps_109 : decode cX11_steps 109 = .ok (.goto 4, 3) := by decide +kernel
theorem dX11_steps_112 : decode cX11_steps 112 = .ok (.iconst 0, 1) := by decide +kernel
theorem dX11_steps_113 : decode cX11_steps 113 = .ok (.ior, 1) := by decide +kernel
theorem dX11_steps_114 : decode cX11_steps 114 = .ok (.istore_n 3, 1) := by decide +kernel
theorem dX11_steps_115 : decode cX11_steps 115 = .ok (.iinc 4 1, 3) := by decide +kernel
theorem dX11_steps_118 : decode cX11_steps 118 = .ok (.goto (-113), 3) := by decide +kernel
theorem dX11_steps_121 : decode cX11_steps 121 = .ok (.iload_n 3, 1) := by decide +kernel
theorem dX11_steps_122 : decode cX11_steps 122 = .ok (.ireturn, 1) := by decide +kernel
noncomputable def f_X11_steps (x1 : Int32) (x2 : Int32) (μ : Mem) : Option Int32 :=
  bd (lp (ε := Int32) (cu2 fun (x3_1 : Int32) (x4_2 : Int32) =>
    if x4_2 < (μ.1 113 2) then
      chk (41 + (3 * x4_2)) 184 (
        lt (μ.1 113 (ix (41 + (3 * x4_2)))) fun x5_5 =>
        chk ((41 + (3 * x4_2)) + 1) 184 (
          lt (μ.1 113 (ix ((41 + (3 * x4_2)) + 1))) fun x6_6 =>
          jn (fun (y7 : Int32) =>
            jn (fun (y9 : Int32) =>
              jn (fun (y11 : Int32) =>
                some (.inl (((x3_1 ||| y9) ||| y11), (x4_2 + 1)))
                ) fun j12 =>
              jn (
                j12 0
                ) fun j13 =>
              if y7 = 0 then
                j13
              else
                if ((x1 >>> (x6_6 &&& 31)) &&& 1) = 1 then
                  j12 (1 <<< (x5_5 &&& 31))
                else
                  j13
              ) fun j10 =>
            jn (
              j10 0
              ) fun j14 =>
            if y7 = 0 then
              j14
            else
              if ((x1 >>> (x5_5 &&& 31)) &&& 1) = 1 then
                j10 (1 <<< (x6_6 &&& 31))
              else
                j14
            ) fun j8 =>
          if ((x2 >>> (x4_2 &&& 31)) &&& 1) = 1 then
            j8 1
          else
            j8 0
          )
        )
    else
      some (.inr x3_1)
    ) (x1, 0)) (fun (x3_3 : Int32) =>
    some x3_3
    )
set_option maxHeartbeats 4000000 in
set_option maxRecDepth 100000 in
theorem c_X11_steps {g : GT} {x1 : Int32} {x2 : Int32} {μ : Mem} {r0 : Int32} (hf : f_X11_steps x1 x2 μ = some r0) : CI g yX11_steps cX11_steps 8 (some .int) 1 [rf g 112, .int x1, .int x2] μ r0 μ := by
  refine mk_i (by decide) (Nat.le_of_ble_eq_true rfl) ?_
  intro G hX hR
  have hX : CX g G cX11_steps RX11 8 1 := hX
  suffices S : ∀ K : Int32 → Prop, (∀ a, K a → a = r0) → Sim G (f_X11_steps x1 x2 μ) K 0 [(0, rf g 112), (1, .int x1), (2, .int x2)] [] μ from S (fun a => a = r0) (fun a h => h) _ hf rfl
  intro K hK
  unfold f_X11_steps
  refine s_iload_n hX dX11_steps_0 rfl 1 rfl ?_
  refine s_istore_n (lv' := [(3, .int x1), (0, rf g 112), (1, .int x1), (2, .int x2)]) hX dX11_steps_1 rfl (by decide) rfl ?_
  refine s_iconst (v := 0) hX dX11_steps_2 (by decide) ?_
  refine s_istore (lv' := [(4, .int 0), (3, .int x1), (0, rf g 112), (1, .int x1), (2, .int x2)]) hX dX11_steps_3 (by decide) rfl ?_
  refine s_loop hX 5 121 (fun s : Int32 × Int32 => [(0, rf g 112), (1, .int x1), (2, .int x2), (3, .int s.1), (4, .int s.2)]) (fun s : Int32 × Int32 => μ) (fun s : Int32 => [(3, .int s)]) (fun s : Int32 => μ) [2, 3, 4, 1, 0] rfl rfl rfl ?_ ?_
  · intro Kq4 hIq4 hJq4 sq
    obtain ⟨x3_1, x4_2⟩ := sq
    refine s_cu2 ?_
    show Sim G _ _ 5 [(0, rf g 112), (1, .int x1), (2, .int x2), (3, .int x3_1), (4, .int x4_2)] [] μ
    refine s_iload hX dX11_steps_5 4 rfl ?_
    refine s_aload_n hX dX11_steps_7 rfl 0 rfl ?_
    refine s_getR hX (d := 1) 113 flX11_7 rfl rfl dX11_steps_8 ?_
    refine s_iconst (v := 2) hX dX11_steps_11 (by decide) ?_
    refine s_ialdK hX rfl rfl (by decide) rfl dX11_steps_12 ?_
    refine s_icmp_ge hX 121 dX11_steps_13 (by decide) ?_ ?_
    · exact s_end hX (hJq4 x3_1) [3] rfl
    · refine s_aload_n hX dX11_steps_16 rfl 0 rfl ?_
      refine s_getR hX (d := 1) 113 flX11_7 rfl rfl dX11_steps_17 ?_
      refine s_bipush (v := 41) hX dX11_steps_20 (by decide) ?_
      refine s_iconst (v := 3) hX dX11_steps_22 (by decide) ?_
      refine s_iload hX dX11_steps_23 4 rfl ?_
      refine s_imul hX dX11_steps_25 ?_
      refine s_iadd hX dX11_steps_26 ?_
      refine s_iald hX rfl rfl dX11_steps_27 ?_
      refine s_lti (fun x5_5 => ?_)
      refine s_istore (lv' := [(5, .int x5_5), (0, rf g 112), (1, .int x1), (2, .int x2), (3, .int x3_1), (4, .int x4_2)]) hX dX11_steps_28 (by decide) rfl ?_
      refine s_aload_n hX dX11_steps_30 rfl 1 rfl ?_
      refine s_getR hX (d := 1) 113 flX11_7 rfl rfl dX11_steps_31 ?_
      refine s_bipush (v := 41) hX dX11_steps_34 (by decide) ?_
      refine s_iconst (v := 3) hX dX11_steps_36 (by decide) ?_
      refine s_iload hX dX11_steps_37 5 rfl ?_
      refine s_imul hX dX11_steps_39 ?_
      refine s_iadd hX dX11_steps_40 ?_
      refine s_iconst (v := 1) hX dX11_steps_41 (by decide) ?_
      refine s_iadd hX dX11_steps_42 ?_
      refine s_iald hX rfl rfl dX11_steps_43 ?_
      refine s_lti (fun x6_6 => ?_)
      refine s_istore (lv' := [(6, .int x6_6), (5, .int x5_5), (0, rf g 112), (1, .int x1), (2, .int x2), (3, .int x3_1), (4, .int x4_2)]) hX dX11_steps_44 (by decide) rfl ?_
      refine s_iload_n hX dX11_steps_46 rfl 4 rfl ?_
      refine s_iload hX dX11_steps_47 6 rfl ?_
      refine s_ishr hX dX11_steps_49 ?_
      refine s_iconst (v := 1) hX dX11_steps_50 (by decide) ?_
      refine s_iand hX dX11_steps_51 ?_
      refine s_iconst (v := 1) hX dX11_steps_52 (by decide) ?_
      refine s_jn (C := fun j => ∀ (y7 : Int32), Sim G (j y7) Kq4 61 [(0, rf g 112), (1, .int x1), (2, .int x2), (3, .int x3_1), (4, .int x4_2), (5, .int x5_5), (6, .int x6_6)] [.int y7] μ) ?_ (fun j8 hj8 => ?_)
      · intro y7
        show Sim G _ _ 61 [(0, rf g 112), (1, .int x1), (2, .int x2), (3, .int x3_1), (4, .int x4_2), (5, .int x5_5), (6, .int x6_6)] [.int y7] μ
        refine s_istore (lv' := [(7, .int y7), (0, rf g 112), (1, .int x1), (2, .int x2), (3, .int x3_1), (4, .int x4_2), (5, .int x5_5), (6, .int x6_6)]) hX dX11_steps_61 (by decide) rfl ?_
        refine s_iload_n hX dX11_steps_63 rfl 4 rfl ?_
        refine s_iload hX dX11_steps_64 0 rfl ?_
        refine s_jn (C := fun j => ∀ (y9 : Int32), Sim G (j y9) Kq4 87 [(0, rf g 112), (1, .int x1), (2, .int x2), (4, .int x4_2), (5, .int x5_5), (6, .int x6_6), (7, .int y7)] [.int y9, .int x3_1] μ) ?_ (fun j10 hj10 => ?_)
        · intro y9
          show Sim G _ _ 87 [(0, rf g 112), (1, .int x1), (2, .int x2), (4, .int x4_2), (5, .int x5_5), (6, .int x6_6), (7, .int y7)] [.int y9, .int x3_1] μ
          refine s_ior hX dX11_steps_87 ?_
          refine s_istore_n (lv' := [(3, .int (x3_1 ||| y9)), (0, rf g 112), (1, .int x1), (2, .int x2), (4, .int x4_2), (5, .int x5_5), (6, .int x6_6), (7, .int y7)]) hX dX11_steps_88 rfl (by decide) rfl ?_
          refine s_iload_n hX dX11_steps_89 rfl 0 rfl ?_
          refine s_iload hX dX11_steps_90 7 rfl ?_
          refine s_jn (C := fun j => ∀ (y11 : Int32), Sim G (j y11) Kq4 113 [(0, rf g 112), (1, .int x1), (2, .int x2), (4, .int x4_2)] [.int y11, .int (x3_1 ||| y9)] μ) ?_ (fun j12 hj12 => ?_)
          · intro y11
            show Sim G _ _ 113 [(0, rf g 112), (1, .int x1), (2, .int x2), (4, .int x4_2)] [.int y11, .int (x3_1 ||| y9)] μ
            refine s_ior hX dX11_steps_113 ?_
            refine s_istore_n (lv' := [(3, .int ((x3_1 ||| y9) ||| y11)), (0, rf g 112), (1, .int x1), (2, .int x2), (4, .int x4_2)]) hX dX11_steps_114 rfl (by decide) rfl ?_
            refine s_iinc (v := (x4_2 + 1)) (lv' := [(4, .int (x4_2 + 1)), (3, .int ((x3_1 ||| y9) ||| y11)), (0, rf g 112), (1, .int x1), (2, .int x2)]) hX dX11_steps_115 4 rfl rfl (by decide) rfl ?_
            refine s_goto hX 5 dX11_steps_118 (by decide) ?_
            exact s_end hX (hIq4 (((x3_1 ||| y9) ||| y11), (x4_2 + 1))) [2, 3, 4, 1, 0] rfl
          refine s_jn (C := fun j => Sim G (j) Kq4 112 [(0, rf g 112), (1, .int x1), (2, .int x2), (4, .int x4_2)] [.int (x3_1 ||| y9)] μ) ?_ (fun j13 hj13 => ?_)
          · skip
            show Sim G _ _ 112 [(0, rf g 112), (1, .int x1), (2, .int x2), (4, .int x4_2)] [.int (x3_1 ||| y9)] μ
            refine s_iconst (v := 0) hX dX11_steps_112 (by decide) ?_
            exact s_to hX [0, 1, 2, 3] rfl (hj12 0)
          refine s_if_eq hX 112 dX11_steps_92 (by decide) ?_ ?_
          · exact s_to hX [1, 2, 3, 4] rfl (hj13)
          · refine s_iload_n hX dX11_steps_95 rfl 2 rfl ?_
            refine s_iload hX dX11_steps_96 6 rfl ?_
            refine s_ishr hX dX11_steps_98 ?_
            refine s_iconst (v := 1) hX dX11_steps_99 (by decide) ?_
            refine s_iand hX dX11_steps_100 ?_
            refine s_iconst (v := 1) hX dX11_steps_101 (by decide) ?_
            refine s_icmp_ne hX 112 dX11_steps_102 (by decide) ?_ ?_
            · exact s_to hX [1, 2, 3, 4] rfl (hj13)
            · refine s_iconst (v := 1) hX dX11_steps_105 (by decide) ?_
              refine s_iload hX dX11_steps_106 5 rfl ?_
              refine s_ishl hX dX11_steps_108 ?_
              refine s_goto hX 113 dX11_steps_109 (by decide) ?_
              exact s_to hX [1, 2, 3, 4] rfl (hj12 (1 <<< (x5_5 &&& 31)))
        refine s_jn (C := fun j => Sim G (j) Kq4 86 [(0, rf g 112), (1, .int x1), (2, .int x2), (4, .int x4_2), (5, .int x5_5), (6, .int x6_6), (7, .int y7)] [.int x3_1] μ) ?_ (fun j14 hj14 => ?_)
        · skip
          show Sim G _ _ 86 [(0, rf g 112), (1, .int x1), (2, .int x2), (4, .int x4_2), (5, .int x5_5), (6, .int x6_6), (7, .int y7)] [.int x3_1] μ
          refine s_iconst (v := 0) hX dX11_steps_86 (by decide) ?_
          exact s_to hX [0, 1, 2, 3, 4, 5, 6] rfl (hj10 0)
        refine s_if_eq hX 86 dX11_steps_66 (by decide) ?_ ?_
        · exact s_to hX [1, 2, 3, 5, 6, 7, 0] rfl (hj14)
        · refine s_iload_n hX dX11_steps_69 rfl 2 rfl ?_
          refine s_iload hX dX11_steps_70 6 rfl ?_
          refine s_ishr hX dX11_steps_72 ?_
          refine s_iconst (v := 1) hX dX11_steps_73 (by decide) ?_
          refine s_iand hX dX11_steps_74 ?_
          refine s_iconst (v := 1) hX dX11_steps_75 (by decide) ?_
          refine s_icmp_ne hX 86 dX11_steps_76 (by decide) ?_ ?_
          · exact s_to hX [1, 2, 3, 5, 6, 7, 0] rfl (hj14)
          · refine s_iconst (v := 1) hX dX11_steps_79 (by decide) ?_
            refine s_iload hX dX11_steps_80 7 rfl ?_
            refine s_ishl hX dX11_steps_82 ?_
            refine s_goto hX 87 dX11_steps_83 (by decide) ?_
            exact s_to hX [1, 2, 3, 5, 6, 7, 0] rfl (hj10 (1 <<< (x6_6 &&& 31)))
      refine s_icmp_ne hX 60 dX11_steps_53 (by decide) ?_ ?_
      · refine s_iconst (v := 0) hX dX11_steps_60 (by decide) ?_
        exact s_to hX [2, 3, 4, 5, 6, 1, 0] rfl (hj8 0)
      · refine s_iconst (v := 1) hX dX11_steps_56 (by decide) ?_
        refine s_goto hX 61 dX11_steps_57 (by decide) ?_
        exact s_to hX [2, 3, 4, 5, 6, 1, 0] rfl (hj8 1)
  · intro sq
    obtain ⟨x3_3, rfl⟩ : ∃ z, z = sq := ⟨_, rfl⟩
    show Sim G _ _ 121 [(3, .int x3_3)] [] μ
    refine s_iload_n hX dX11_steps_121 rfl 0 rfl ?_
    exact s_iretr hK hR dX11_steps_122
theorem dX11_takenOf_0 : decode cX11_takenOf 0 = .ok (.iload_n 1, 1) := by decide +kernel
theorem dX11_takenOf_1 : decode cX11_takenOf 1 = .ok (.bipush 9, 2) := by decide +kernel
theorem dX11_takenOf_3 : decode cX11_takenOf 3 = .ok (.iadd, 1) := by decide +kernel
theorem dX11_takenOf_4 : decode cX11_takenOf 4 = .ok (.bipush 10, 2) := by decide +kernel
theorem dX11_takenOf_6 : decode cX11_takenOf 6 = .ok (.idiv, 1) := by decide +kernel
theorem dX11_takenOf_7 : decode cX11_takenOf 7 = .ok (.istore_n 2, 1) := by decide +kernel
theorem dX11_takenOf_8 : decode cX11_takenOf 8 = .ok (.iload_n 0, 1) := by decide +kernel
theorem dX11_takenOf_9 : decode cX11_takenOf 9 = .ok (.iconst 2, 1) := by decide +kernel
theorem dX11_takenOf_10 : decode cX11_takenOf 10 = .ok (.if_icmp .ne 7, 3) := by decide +kernel
theorem dX11_takenOf_13 : decode cX11_takenOf 13 = .ok (.iconst 0, 1) := by decide +kernel
theorem dX11_takenOf_14 : decode cX11_takenOf 14 = .ok (.goto 32, 3) := by decide +kernel
theorem dX11_takenOf_17 : decode cX11_takenOf 17 = .ok (.iload_n 0, 1) := by decide +kernel
theorem dX11_takenOf_18 : decode cX11_takenOf 18 = .ok (.iconst 4, 1) := by decide +kernel
theorem dX11_takenOf_19 : decode cX11_takenOf 19 = .ok (.if_icmp .ne 9, 3) := by decide +kernel
theorem dX11_takenOf_22 : decode cX11_takenOf 22 = .ok (.iload_n 2, 1) := by decide +kernel
theorem dX11_takenOf_23 : decode cX11_takenOf 23 = .ok (.iconst 2, 1) := by decide +kernel
theorem dX11_takenOf_24 : decode cX11_takenOf 24 = .ok (.idiv, 1) := by decide +kernel
theorem dX11_takenOf_25 : decode cX11_takenOf 25 = .ok (.goto 21, 3) := by decide +kernel
theorem dX11_takenOf_28 : decode cX11_takenOf 28 = .ok (.iload_n 0, 1) := by decide +kernel
theorem dX11_takenOf_29 : decode cX11_takenOf 29 = .ok (.iconst 5, 1) := by decide +kernel
theorem dX11_takenOf_30 : decode cX11_takenOf 30 = .ok (.if_icmp .ne 15, 3) := by decide +kernel
theorem dX11_takenOf_33 : decode cX11_takenOf 33 = .ok (.iload_n 1, 1) := by decide +kernel
theorem dX11_takenOf_34 : decode cX11_takenOf 34 = .ok (.ifCond .le 7, 3) := by decide +kernel
theorem dX11_takenOf_37 : decode cX11_takenOf 37 = .ok (.iconst 1, 1) := by decide +kernel
theorem dX11_takenOf_38 : decode cX11_takenOf 38 = .ok (.goto 8, 3) := by decide +kernel
theorem dX11_takenOf_41 : decode cX11_takenOf 41 = .ok (.iconst 0, 1) := by decide +kernel
theorem dX11_takenOf_42 : decode cX11_takenOf 42 = .ok (.goto 4, 3) := by decide +kernel
theorem dX11_takenOf_45 : decode cX11_takenOf 45 = .ok (.iload_n 2, 1) := by decide +kernel
theorem dX11_takenOf_46 : decode cX11_takenOf 46 = .ok (.ireturn, 1) := by decide +kernel
noncomputable def f_X11_takenOf (x0 : Int32) (x1 : Int32) : Option Int32 :=
  jn (fun (y1 : Int32) =>
    some y1
    ) fun j2 =>
  if x0 = 2 then
    j2 0
  else
    if x0 = 4 then
      j2 (((x1 + 9) / 10) / 2)
    else
      if x0 = 5 then
        if 0 < x1 then
          j2 1
        else
          j2 0
      else
        j2 ((x1 + 9) / 10)
set_option maxHeartbeats 4000000 in
set_option maxRecDepth 100000 in
theorem c_X11_takenOf {g : GT} {x0 : Int32} {x1 : Int32} {μ : Mem} {r0 : Int32} (hf : f_X11_takenOf x0 x1 = some r0) : CI g yX11_takenOf cX11_takenOf 3 (some .int) 1 [.int x0, .int x1] μ r0 μ := by
  refine mk_i (by decide) (Nat.le_of_ble_eq_true rfl) ?_
  intro G hX hR
  have hX : CX g G cX11_takenOf RX11 3 1 := hX
  suffices S : ∀ K : Int32 → Prop, (∀ a, K a → a = r0) → Sim G (f_X11_takenOf x0 x1) K 0 [(0, .int x0), (1, .int x1)] [] μ from S (fun a => a = r0) (fun a h => h) _ hf rfl
  intro K hK
  unfold f_X11_takenOf
  refine s_iload_n hX dX11_takenOf_0 rfl 1 rfl ?_
  refine s_bipush (v := 9) hX dX11_takenOf_1 (by decide) ?_
  refine s_iadd hX dX11_takenOf_3 ?_
  refine s_bipush (v := 10) hX dX11_takenOf_4 (by decide) ?_
  refine s_idiv hX dX11_takenOf_6 (by decide) ?_
  refine s_istore_n (lv' := [(2, .int ((x1 + 9) / 10)), (0, .int x0), (1, .int x1)]) hX dX11_takenOf_7 rfl (by decide) rfl ?_
  refine s_iload_n hX dX11_takenOf_8 rfl 1 rfl ?_
  refine s_iconst (v := 2) hX dX11_takenOf_9 (by decide) ?_
  refine s_jn (C := fun j => ∀ (y1 : Int32), Sim G (j y1) K 46 [] [.int y1] μ) ?_ (fun j2 hj2 => ?_)
  · intro y1
    show Sim G _ _ 46 [] [.int y1] μ
    exact s_iretr hK hR dX11_takenOf_46
  refine s_icmp_ne hX 17 dX11_takenOf_10 (by decide) ?_ ?_
  · refine s_iload_n hX dX11_takenOf_17 rfl 1 rfl ?_
    refine s_iconst (v := 4) hX dX11_takenOf_18 (by decide) ?_
    refine s_icmp_ne hX 28 dX11_takenOf_19 (by decide) ?_ ?_
    · refine s_iload_n hX dX11_takenOf_28 rfl 1 rfl ?_
      refine s_iconst (v := 5) hX dX11_takenOf_29 (by decide) ?_
      refine s_icmp_ne hX 45 dX11_takenOf_30 (by decide) ?_ ?_
      · refine s_iload_n hX dX11_takenOf_45 rfl 0 rfl ?_
        exact s_to hX [] rfl (hj2 ((x1 + 9) / 10))
      · refine s_iload_n hX dX11_takenOf_33 rfl 2 rfl ?_
        refine s_if_le hX 41 dX11_takenOf_34 (by decide) ?_ ?_
        · refine s_iconst (v := 0) hX dX11_takenOf_41 (by decide) ?_
          refine s_goto hX 46 dX11_takenOf_42 (by decide) ?_
          exact s_to hX [] rfl (hj2 0)
        · refine s_iconst (v := 1) hX dX11_takenOf_37 (by decide) ?_
          refine s_goto hX 46 dX11_takenOf_38 (by decide) ?_
          exact s_to hX [] rfl (hj2 1)
    · refine s_iload_n hX dX11_takenOf_22 rfl 0 rfl ?_
      refine s_iconst (v := 2) hX dX11_takenOf_23 (by decide) ?_
      refine s_idiv hX dX11_takenOf_24 (by decide) ?_
      refine s_goto hX 46 dX11_takenOf_25 (by decide) ?_
      exact s_to hX [] rfl (hj2 (((x1 + 9) / 10) / 2))
  · refine s_iconst (v := 0) hX dX11_takenOf_13 (by decide) ?_
    refine s_goto hX 46 dX11_takenOf_14 (by decide) ?_
    exact s_to hX [] rfl (hj2 0)
theorem dX11_verbOf_0 : decode cX11_verbOf 0 = .ok (.lload_n 0, 1) := by decide +kernel
theorem dX11_verbOf_1 : decode cX11_verbOf 1 = .ok (.ldc2_w 99, 3) := by decide +kernel
theorem dX11_verbOf_4 : decode cX11_verbOf 4 = .ok (.lcmp, 1) := by decide +kernel
theorem dX11_verbOf_5 : decode cX11_verbOf 5 = .ok (.ifCond .ne 7, 3) := by decide +kernel
theorem dX11_verbOf_8 : decode cX11_verbOf 8 = .ok (.iconst 0, 1) := by decide +kernel
theorem dX11_verbOf_9 : decode cX11_verbOf 9 = .ok (.goto 28, 3) := by decide +kernel
theorem dX11_verbOf_12 : decode cX11_verbOf 12 = .ok (.lload_n 0, 1) := by decide +kernel
theorem dX11_verbOf_13 : decode cX11_verbOf 13 = .ok (.ldc2_w 101, 3) := by decide +kernel
theorem dX11_verbOf_16 : decode cX11_verbOf 16 = .ok (.lcmp, 1) := by decide +kernel
theorem dX11_verbOf_17 : decode cX11_verbOf 17 = .ok (.ifCond .ne 7, 3) := by decide +kernel
theorem dX11_verbOf_20 : decode cX11_verbOf 20 = .ok (.iconst 1, 1) := by decide +kernel
theorem dX11_verbOf_21 : decode cX11_verbOf 21 = .ok (.goto 16, 3) := by decide +kernel
theorem dX11_verbOf_24 : decode cX11_verbOf 24 = .ok (.lload_n 0, 1) := by decide +kernel
theorem dX11_verbOf_25 : decode cX11_verbOf 25 = .ok (.ldc2_w 103, 3) := by decide +kernel
theorem dX11_verbOf_28 : decode cX11_verbOf 28 = .ok (.lcmp, 1) := by decide +kernel
theorem dX11_verbOf_29 : decode cX11_verbOf 29 = .ok (.ifCond .ne 7, 3) := by decide +kernel
theorem dX11_verbOf_32 : decode cX11_verbOf 32 = .ok (.iconst 2, 1) := by decide +kernel
theorem dX11_verbOf_33 : decode cX11_verbOf 33 = .ok (.goto 4, 3) := by decide +kernel
theorem dX11_verbOf_36 : decode cX11_verbOf 36 = .ok (.iconst (-1), 1) := by decide +kernel
theorem dX11_verbOf_37 : decode cX11_verbOf 37 = .ok (.istore_n 2, 1) := by decide +kernel
theorem dX11_verbOf_38 : decode cX11_verbOf 38 = .ok (.lload_n 0, 1) := by decide +kernel
theorem dX11_verbOf_39 : decode cX11_verbOf 39 = .ok (.ldc2_w 105, 3) := by decide +kernel
theorem dX11_verbOf_42 : decode cX11_verbOf 42 = .ok (.lcmp, 1) := by decide +kernel
theorem dX11_verbOf_43 : decode cX11_verbOf 43 = .ok (.ifCond .ne 7, 3) := by decide +kernel
theorem dX11_verbOf_46 : decode cX11_verbOf 46 = .ok (.iconst 3, 1) := by decide +kernel
theorem dX11_verbOf_47 : decode cX11_verbOf 47 = .ok (.goto 28, 3) := by decide +kernel
theorem dX11_verbOf_50 : decode cX11_verbOf 50 = .ok (.lload_n 0, 1) := by decide +kernel
theorem dX11_verbOf_51 : decode cX11_verbOf 51 = .ok (.ldc2_w 107, 3) := by decide +kernel
theorem dX11_verbOf_54 : decode cX11_verbOf 54 = .ok (.lcmp, 1) := by decide +kernel
theorem dX11_verbOf_55 : decode cX11_verbOf 55 = .ok (.ifCond .ne 7, 3) := by decide +kernel
theorem dX11_verbOf_58 : decode cX11_verbOf 58 = .ok (.iconst 4, 1) := by decide +kernel
theorem dX11_verbOf_59 : decode cX11_verbOf 59 = .ok (.goto 16, 3) := by decide +kernel
theorem dX11_verbOf_62 : decode cX11_verbOf 62 = .ok (.lload_n 0, 1) := by decide +kernel
theorem dX11_verbOf_63 : decode cX11_verbOf 63 = .ok (.ldc2_w 109, 3) := by decide +kernel
theorem dX11_verbOf_66 : decode cX11_verbOf 66 = .ok (.lcmp, 1) := by decide +kernel
theorem dX11_verbOf_67 : decode cX11_verbOf 67 = .ok (.ifCond .ne 7, 3) := by decide +kernel
theorem dX11_verbOf_70 : decode cX11_verbOf 70 = .ok (.iconst 5, 1) := by decide +kernel
theorem dX11_verbOf_71 : decode cX11_verbOf 71 = .ok (.goto 4, 3) := by decide +kernel
theorem dX11_verbOf_74 : decode cX11_verbOf 74 = .ok (.iconst (-1), 1) := by decide +kernel
theorem dX11_verbOf_75 : decode cX11_verbOf 75 = .ok (.istore_n 3, 1) := by decide +kernel
theorem dX11_verbOf_76 : decode cX11_verbOf 76 = .ok (.iload_n 2, 1) := by decide +kernel
theorem dX11_verbOf_77 : decode cX11_verbOf 77 = .ok (.iconst (-1), 1) := by decide +kernel
theorem dX11_verbOf_78 : decode cX11_verbOf 78 = .ok (.if_icmp .eq 7, 3) := by decide +kernel
theorem dX11_verbOf_81 : decode cX11_verbOf 81 = .ok (.iload_n 2, 1) := by decide +kernel
theorem dX11_verbOf_82 : decode cX11_verbOf 82 = .ok (.goto 4, 3) := by decide +kernel
theorem dX11_verbOf_85 : decode cX11_verbOf 85 = .ok (.iload_n 3, 1) := by decide +kernel
theorem dX11_verbOf_86 : decode cX11_verbOf 86 = .ok (.ireturn, 1) := by decide +kernel
noncomputable def f_X11_verbOf (x0 : Int64) : Option Int32 :=
  jn (fun (y1 : Int32) =>
    jn (fun (y3 : Int32) =>
      jn (fun (y5 : Int32) =>
        some y5
        ) fun j6 =>
      if y1 = (-1) then
        j6 y3
      else
        j6 y1
      ) fun j4 =>
    if x0 = 3554980 then
      j4 3
    else
      if x0 = 605220 then
        j4 4
      else
        if x0 = 8029764 then
          j4 5
        else
          j4 (-1)
    ) fun j2 =>
  if x0 = 117095065 then
    j2 0
  else
    if x0 = 12788 then
      j2 1
    else
      if x0 = 254271112 then
        j2 2
      else
        j2 (-1)
set_option maxHeartbeats 4000000 in
set_option maxRecDepth 100000 in
theorem c_X11_verbOf {g : GT} {x0 : Int64} {μ : Mem} {r0 : Int32} (hf : f_X11_verbOf x0 = some r0) : CI g yX11_verbOf cX11_verbOf 4 (some .int) 1 [.long x0] μ r0 μ := by
  refine mk_i (by decide) (Nat.le_of_ble_eq_true rfl) ?_
  intro G hX hR
  have hX : CX g G cX11_verbOf RX11 4 1 := hX
  suffices S : ∀ K : Int32 → Prop, (∀ a, K a → a = r0) → Sim G (f_X11_verbOf x0) K 0 [(0, .long x0)] [] μ from S (fun a => a = r0) (fun a h => h) _ hf rfl
  intro K hK
  unfold f_X11_verbOf
  refine s_lload_n hX dX11_verbOf_0 rfl 0 rfl ?_
  refine s_ldc2 hX dX11_verbOf_1 klX11_99 ?_
  refine s_jn (C := fun j => ∀ (y1 : Int32), Sim G (j y1) K 37 [(0, .long x0)] [.int y1] μ) ?_ (fun j2 hj2 => ?_)
  · intro y1
    show Sim G _ _ 37 [(0, .long x0)] [.int y1] μ
    refine s_istore_n (lv' := [(2, .int y1), (0, .long x0)]) hX dX11_verbOf_37 rfl (by decide) rfl ?_
    refine s_lload_n hX dX11_verbOf_38 rfl 1 rfl ?_
    refine s_ldc2 hX dX11_verbOf_39 klX11_105 ?_
    refine s_jn (C := fun j => ∀ (y3 : Int32), Sim G (j y3) K 75 [(2, .int y1)] [.int y3] μ) ?_ (fun j4 hj4 => ?_)
    · intro y3
      show Sim G _ _ 75 [(2, .int y1)] [.int y3] μ
      refine s_istore_n (lv' := [(3, .int y3), (2, .int y1)]) hX dX11_verbOf_75 rfl (by decide) rfl ?_
      refine s_iload_n hX dX11_verbOf_76 rfl 1 rfl ?_
      refine s_iconst (v := (-1)) hX dX11_verbOf_77 (by decide) ?_
      refine s_jn (C := fun j => ∀ (y5 : Int32), Sim G (j y5) K 86 [] [.int y5] μ) ?_ (fun j6 hj6 => ?_)
      · intro y5
        show Sim G _ _ 86 [] [.int y5] μ
        exact s_iretr hK hR dX11_verbOf_86
      refine s_icmp_eq hX 85 dX11_verbOf_78 (by decide) ?_ ?_
      · refine s_iload_n hX dX11_verbOf_85 rfl 0 rfl ?_
        exact s_to hX [] rfl (hj6 y3)
      · refine s_iload_n hX dX11_verbOf_81 rfl 1 rfl ?_
        refine s_goto hX 86 dX11_verbOf_82 (by decide) ?_
        exact s_to hX [] rfl (hj6 y1)
    refine s_lcmp_ne hX 50 dX11_verbOf_42 dX11_verbOf_43 (by decide) ?_ ?_
    · refine s_lload_n hX dX11_verbOf_50 rfl 1 rfl ?_
      refine s_ldc2 hX dX11_verbOf_51 klX11_107 ?_
      refine s_lcmp_ne hX 62 dX11_verbOf_54 dX11_verbOf_55 (by decide) ?_ ?_
      · refine s_lload_n hX dX11_verbOf_62 rfl 1 rfl ?_
        refine s_ldc2 hX dX11_verbOf_63 klX11_109 ?_
        refine s_lcmp_ne hX 74 dX11_verbOf_66 dX11_verbOf_67 (by decide) ?_ ?_
        · refine s_iconst (v := (-1)) hX dX11_verbOf_74 (by decide) ?_
          exact s_to hX [0] rfl (hj4 (-1))
        · refine s_iconst (v := 5) hX dX11_verbOf_70 (by decide) ?_
          refine s_goto hX 75 dX11_verbOf_71 (by decide) ?_
          exact s_to hX [0] rfl (hj4 5)
      · refine s_iconst (v := 4) hX dX11_verbOf_58 (by decide) ?_
        refine s_goto hX 75 dX11_verbOf_59 (by decide) ?_
        exact s_to hX [0] rfl (hj4 4)
    · refine s_iconst (v := 3) hX dX11_verbOf_46 (by decide) ?_
      refine s_goto hX 75 dX11_verbOf_47 (by decide) ?_
      exact s_to hX [0] rfl (hj4 3)
  refine s_lcmp_ne hX 12 dX11_verbOf_4 dX11_verbOf_5 (by decide) ?_ ?_
  · refine s_lload_n hX dX11_verbOf_12 rfl 0 rfl ?_
    refine s_ldc2 hX dX11_verbOf_13 klX11_101 ?_
    refine s_lcmp_ne hX 24 dX11_verbOf_16 dX11_verbOf_17 (by decide) ?_ ?_
    · refine s_lload_n hX dX11_verbOf_24 rfl 0 rfl ?_
      refine s_ldc2 hX dX11_verbOf_25 klX11_103 ?_
      refine s_lcmp_ne hX 36 dX11_verbOf_28 dX11_verbOf_29 (by decide) ?_ ?_
      · refine s_iconst (v := (-1)) hX dX11_verbOf_36 (by decide) ?_
        exact s_to hX [0] rfl (hj2 (-1))
      · refine s_iconst (v := 2) hX dX11_verbOf_32 (by decide) ?_
        refine s_goto hX 37 dX11_verbOf_33 (by decide) ?_
        exact s_to hX [0] rfl (hj2 2)
    · refine s_iconst (v := 1) hX dX11_verbOf_20 (by decide) ?_
      refine s_goto hX 37 dX11_verbOf_21 (by decide) ?_
      exact s_to hX [0] rfl (hj2 1)
  · refine s_iconst (v := 0) hX dX11_verbOf_8 (by decide) ?_
    refine s_goto hX 37 dX11_verbOf_9 (by decide) ?_
    exact s_to hX [0] rfl (hj2 0)
theorem dX11_waysOf_0 : decode cX11_waysOf 0 = .ok (.lconst 1, 1) := by decide +kernel
theorem dX11_waysOf_1 : decode cX11_waysOf 1 = .ok (.lstore_n 2, 1) := by decide +kernel
theorem dX11_waysOf_2 : decode cX11_waysOf 2 = .ok (.iconst 0, 1) := by decide +kernel
theorem dX11_waysOf_3 : decode cX11_waysOf 3 = .ok (.istore 4, 2) := by decide +kernel
theorem dX11_waysOf_5 : decode cX11_waysOf 5 = .ok (.iload 4, 2) := by decide +kernel
theorem dX11_waysOf_7 : decode cX11_waysOf 7 = .ok (.aload_n 0, 1) := by decide +kernel
theorem dX11_waysOf_8 : decode cX11_waysOf 8 = .ok (.getfield 7, 3) := by decide +kernel
theorem dX11_waysOf_11 : decode cX11_waysOf 11 = .ok (.iconst 0, 1) := by decide +kernel
theorem dX11_waysOf_12 : decode cX11_waysOf 12 = .ok (.iaload, 1) := by decide +kernel
theorem dX11_waysOf_13 : decode cX11_waysOf 13 = .ok (.if_icmp .ge 50, 3) := by decide +kernel
theorem dX11_waysOf_16 : decode cX11_waysOf 16 = .ok (.lload_n 2, 1) := by decide +kernel
theorem dX11_waysOf_17 : decode cX11_waysOf 17 = .ok (.iload_n 1, 1) := by decide +kernel
theorem dX11_waysOf_18 : decode cX11_waysOf 18 = .ok (.iload 4, 2) := by decide +kernel
theorem dX11_waysOf_20 : decode cX11_waysOf 20 = .ok (.ishr, 1) := by decide +kernel
theorem dX11_waysOf_21 : decode cX11_waysOf 21 = .ok (.iconst 1, 1) := by decide +kernel
theorem dX11_waysOf_22 : decode cX11_waysOf 22 = .ok (.iand, 1) := by decide +kernel
theorem dX11_waysOf_23 : decode cX11_waysOf 23 = .ok (.iconst 1, 1) := by decide +kernel
theorem dX11_waysOf_24 : decode cX11_waysOf 24 = .ok (.if_icmp .ne 17, 3) := by decide +kernel
theorem dX11_waysOf_27 : decode cX11_waysOf 27 = .ok (.aload_n 0, 1) := by decide +kernel
theorem dX11_waysOf_28 : decode cX11_waysOf 28 = .ok (.getfield 7, 3) := by decide +kernel
theorem dX11_waysOf_31 : decode cX11_waysOf 31 = .ok (.bipush 36, 2) := by decide +kernel
theorem dX11_waysOf_33 : decode cX11_waysOf 33 = .ok (.iload 4, 2) := by decide +kernel
theorem dX11_waysOf_35 : decode cX11_waysOf 35 = .ok (.iadd, 1) := by decide +kernel
theorem dX11_waysOf_36 : decode cX11_waysOf 36 = .ok (.iaload, 1) := by decide +kernel
theorem dX11_waysOf_37 : decode cX11_waysOf 37 = .ok (.i2l, 1) := by decide +kernel
theorem dX11_waysOf_38 : decode cX11_waysOf 38 = .ok (.goto 17, 3) := by decide +kernel
theorem dX11_waysOf_41 : decode cX11_waysOf 41 = .ok (.bipush 10, 2) := by decide +kernel
theorem dX11_waysOf_43 : decode cX11_waysOf 43 = .ok (.aload_n 0, 1) := by decide +kernel
theorem dX11_waysOf_44 : decode cX11_waysOf 44 = .ok (.getfield 7, 3) := by decide +kernel
theorem dX11_waysOf_47 : decode cX11_waysOf 47 = .ok (.bipush 36, 2) := by decide +kernel
theorem dX11_waysOf_49 : decode cX11_waysOf 49 = .ok (.iload 4, 2) := by decide +kernel
theorem dX11_waysOf_51 : decode cX11_waysOf 51 = .ok (.iadd, 1) := by decide +kernel
theorem dX11_waysOf_52 : decode cX11_waysOf 52 = .ok (.iaload, 1) := by decide +kernel
theorem dX11_waysOf_53 : decode cX11_waysOf 53 = .ok (.isub, 1) := by decide +kernel
theorem dX11_waysOf_54 : decode cX11_waysOf 54 = .ok (.i2l, 1) := by decide +kernel
theorem dX11_waysOf_55 : decode cX11_waysOf 55 = .ok (.lmul, 1) := by decide +kernel
theorem dX11_waysOf_56 : decode cX11_waysOf 56 = .ok (.lstore_n 2, 1) := by decide +kernel
theorem dX11_waysOf_57 : decode cX11_waysOf 57 = .ok (.iinc 4 1, 3) := by decide +kernel
theorem dX11_waysOf_60 : decode cX11_waysOf 60 = .ok (.goto (-55), 3) := by decide +kernel
theorem dX11_waysOf_63 : decode cX11_waysOf 63 = .ok (.lload_n 2, 1) := by decide +kernel
theorem dX11_waysOf_64 : decode cX11_waysOf 64 = .ok (.lreturn, 1) := by decide +kernel
noncomputable def f_X11_waysOf (x1 : Int32) (μ : Mem) : Option Int64 :=
  bd (lp (ε := Int64) (cu2 fun (x2_1 : Int64) (x4_2 : Int32) =>
    if x4_2 < (μ.1 113 0) then
      jn (fun (y5 : Int64) =>
        some (.inl ((x2_1 * y5), (x4_2 + 1)))
        ) fun j6 =>
      if ((x1 >>> (x4_2 &&& 31)) &&& 1) = 1 then
        chk (36 + x4_2) 184 (
          j6 (((μ.1 113 (ix (36 + x4_2))) : Int32).toInt64)
          )
      else
        chk (36 + x4_2) 184 (
          j6 (((10 - (μ.1 113 (ix (36 + x4_2)))) : Int32).toInt64)
          )
    else
      some (.inr x2_1)
    ) (1, 0)) (fun (x2_3 : Int64) =>
    some x2_3
    )
set_option maxHeartbeats 4000000 in
set_option maxRecDepth 100000 in
theorem c_X11_waysOf {g : GT} {x1 : Int32} {μ : Mem} {r0 : Int64} (hf : f_X11_waysOf x1 μ = some r0) : CL g yX11_waysOf cX11_waysOf 5 (some .long) 1 [rf g 112, .int x1] μ r0 μ := by
  refine mk_l (by decide) (Nat.le_of_ble_eq_true rfl) ?_
  intro G hX hR
  have hX : CX g G cX11_waysOf RX11 5 1 := hX
  suffices S : ∀ K : Int64 → Prop, (∀ a, K a → a = r0) → Sim G (f_X11_waysOf x1 μ) K 0 [(0, rf g 112), (1, .int x1)] [] μ from S (fun a => a = r0) (fun a h => h) _ hf rfl
  intro K hK
  unfold f_X11_waysOf
  refine s_lconst (v := 1) hX dX11_waysOf_0 (by decide) ?_
  refine s_lstore_n (lv' := [(2, .long 1), (0, rf g 112), (1, .int x1)]) hX dX11_waysOf_1 rfl (by decide) rfl ?_
  refine s_iconst (v := 0) hX dX11_waysOf_2 (by decide) ?_
  refine s_istore (lv' := [(4, .int 0), (2, .long 1), (0, rf g 112), (1, .int x1)]) hX dX11_waysOf_3 (by decide) rfl ?_
  refine s_loop hX 5 63 (fun s : Int64 × Int32 => [(0, rf g 112), (1, .int x1), (2, .long s.1), (4, .int s.2)]) (fun s : Int64 × Int32 => μ) (fun s : Int64 => [(2, .long s)]) (fun s : Int64 => μ) [2, 3, 1, 0] rfl rfl rfl ?_ ?_
  · intro Kq4 hIq4 hJq4 sq
    obtain ⟨x2_1, x4_2⟩ := sq
    refine s_cu2 ?_
    show Sim G _ _ 5 [(0, rf g 112), (1, .int x1), (2, .long x2_1), (4, .int x4_2)] [] μ
    refine s_iload hX dX11_waysOf_5 3 rfl ?_
    refine s_aload_n hX dX11_waysOf_7 rfl 0 rfl ?_
    refine s_getR hX (d := 1) 113 flX11_7 rfl rfl dX11_waysOf_8 ?_
    refine s_iconst (v := 0) hX dX11_waysOf_11 (by decide) ?_
    refine s_ialdK hX rfl rfl (by decide) rfl dX11_waysOf_12 ?_
    refine s_icmp_ge hX 63 dX11_waysOf_13 (by decide) ?_ ?_
    · exact s_end hX (hJq4 x2_1) [2] rfl
    · refine s_lload_n hX dX11_waysOf_16 rfl 2 rfl ?_
      refine s_iload_n hX dX11_waysOf_17 rfl 1 rfl ?_
      refine s_iload hX dX11_waysOf_18 3 rfl ?_
      refine s_ishr hX dX11_waysOf_20 ?_
      refine s_iconst (v := 1) hX dX11_waysOf_21 (by decide) ?_
      refine s_iand hX dX11_waysOf_22 ?_
      refine s_iconst (v := 1) hX dX11_waysOf_23 (by decide) ?_
      refine s_jn (C := fun j => ∀ (y5 : Int64), Sim G (j y5) Kq4 55 [(0, rf g 112), (1, .int x1), (4, .int x4_2)] [.long y5, .long x2_1] μ) ?_ (fun j6 hj6 => ?_)
      · intro y5
        show Sim G _ _ 55 [(0, rf g 112), (1, .int x1), (4, .int x4_2)] [.long y5, .long x2_1] μ
        refine s_lmul hX dX11_waysOf_55 ?_
        refine s_lstore_n (lv' := [(2, .long (x2_1 * y5)), (0, rf g 112), (1, .int x1), (4, .int x4_2)]) hX dX11_waysOf_56 rfl (by decide) rfl ?_
        refine s_iinc (v := (x4_2 + 1)) (lv' := [(4, .int (x4_2 + 1)), (2, .long (x2_1 * y5)), (0, rf g 112), (1, .int x1)]) hX dX11_waysOf_57 3 rfl rfl (by decide) rfl ?_
        refine s_goto hX 5 dX11_waysOf_60 (by decide) ?_
        exact s_end hX (hIq4 ((x2_1 * y5), (x4_2 + 1))) [2, 3, 1, 0] rfl
      refine s_icmp_ne hX 41 dX11_waysOf_24 (by decide) ?_ ?_
      · refine s_bipush (v := 10) hX dX11_waysOf_41 (by decide) ?_
        refine s_aload_n hX dX11_waysOf_43 rfl 0 rfl ?_
        refine s_getR hX (d := 1) 113 flX11_7 rfl rfl dX11_waysOf_44 ?_
        refine s_bipush (v := 36) hX dX11_waysOf_47 (by decide) ?_
        refine s_iload hX dX11_waysOf_49 3 rfl ?_
        refine s_iadd hX dX11_waysOf_51 ?_
        refine s_iald hX rfl rfl dX11_waysOf_52 ?_
        refine s_isub hX dX11_waysOf_53 ?_
        refine s_i2l hX dX11_waysOf_54 ?_
        exact s_to hX [0, 1, 3] rfl (hj6 (((10 - (μ.1 113 (ix (36 + x4_2)))) : Int32).toInt64))
      · refine s_aload_n hX dX11_waysOf_27 rfl 0 rfl ?_
        refine s_getR hX (d := 1) 113 flX11_7 rfl rfl dX11_waysOf_28 ?_
        refine s_bipush (v := 36) hX dX11_waysOf_31 (by decide) ?_
        refine s_iload hX dX11_waysOf_33 3 rfl ?_
        refine s_iadd hX dX11_waysOf_35 ?_
        refine s_iald hX rfl rfl dX11_waysOf_36 ?_
        refine s_i2l hX dX11_waysOf_37 ?_
        refine s_goto hX 55 dX11_waysOf_38 (by decide) ?_
        exact s_to hX [0, 1, 3] rfl (hj6 (((μ.1 113 (ix (36 + x4_2))) : Int32).toInt64))
  · intro sq
    obtain ⟨x2_3, rfl⟩ : ∃ z, z = sq := ⟨_, rfl⟩
    show Sim G _ _ 63 [(2, .long x2_3)] [] μ
    refine s_lload_n hX dX11_waysOf_63 rfl 0 rfl ?_
    exact s_lretr hK hR dX11_waysOf_64
end
