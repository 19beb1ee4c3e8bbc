-- ===== PART A: goes FIRST, ahead of the names: the tables' words, and 'selects' of the private methods out of them =====
/-- a private method of a class that the tables say can be made, by its rows of tables_1 -/
def lw_okq (q : MethodName × Nat) : Prop := (q.1.cls ≠ "java/lang/invoke/MethodHandle" ∧ q.1.cls ≠ "java/lang/invoke/VarHandle") ∧ Cond.instantiable q.1.cls q.2 ∈ tables_1 ∧ Cond.privateMethod q.1 ∈ tables_1 ∧ Cond.instanceMethod q.1 ∈ tables_1
theorem lw_p0 : lw_okq (⟨"DayTongues", "found", "(I)I"⟩, 11) := ⟨⟨by decide +kernel, by decide +kernel⟩, List.mem_of_getElem? (i := 22) (by decide +kernel), List.mem_of_getElem? (i := 191) (by decide +kernel), List.mem_of_getElem? (i := 192) (by decide +kernel)⟩
theorem lw_p1 : lw_okq (⟨"DayTongues", "well", "(I)I"⟩, 11) := ⟨⟨by decide +kernel, by decide +kernel⟩, List.mem_of_getElem? (i := 22) (by decide +kernel), List.mem_of_getElem? (i := 201) (by decide +kernel), List.mem_of_getElem? (i := 202) (by decide +kernel)⟩
theorem lw_p2 : lw_okq (⟨"DayTongues$Tape", "next", "()V"⟩, 5) := ⟨⟨by decide +kernel, by decide +kernel⟩, List.mem_of_getElem? (i := 47) (by decide +kernel), List.mem_of_getElem? (i := 278) (by decide +kernel), List.mem_of_getElem? (i := 279) (by decide +kernel)⟩
theorem lw_p3 : lw_okq (⟨"DayTongues$Tape", "at", "(I)I"⟩, 5) := ⟨⟨by decide +kernel, by decide +kernel⟩, List.mem_of_getElem? (i := 47) (by decide +kernel), List.mem_of_getElem? (i := 282) (by decide +kernel), List.mem_of_getElem? (i := 283) (by decide +kernel)⟩
theorem lw_p4 : lw_okq (⟨"DayTongues$Tape", "isName", "(Ljava/lang/String;)Z"⟩, 5) := ⟨⟨by decide +kernel, by decide +kernel⟩, List.mem_of_getElem? (i := 47) (by decide +kernel), List.mem_of_getElem? (i := 296) (by decide +kernel), List.mem_of_getElem? (i := 297) (by decide +kernel)⟩
theorem lw_p5 : lw_okq (⟨"DayTongues$Tape", "readTongue", "(LDayTongues$Port;)I"⟩, 5) := ⟨⟨by decide +kernel, by decide +kernel⟩, List.mem_of_getElem? (i := 47) (by decide +kernel), List.mem_of_getElem? (i := 348) (by decide +kernel), List.mem_of_getElem? (i := 349) (by decide +kernel)⟩
theorem lw_p6 : lw_okq (⟨"DayTongues$Tape", "readSemicolon", "()I"⟩, 5) := ⟨⟨by decide +kernel, by decide +kernel⟩, List.mem_of_getElem? (i := 47) (by decide +kernel), List.mem_of_getElem? (i := 360) (by decide +kernel), List.mem_of_getElem? (i := 361) (by decide +kernel)⟩
theorem lw_p7 : lw_okq (⟨"DayTongues$Tape", "readWord", "(LDayTongues$Port;)I"⟩, 5) := ⟨⟨by decide +kernel, by decide +kernel⟩, List.mem_of_getElem? (i := 47) (by decide +kernel), List.mem_of_getElem? (i := 365) (by decide +kernel), List.mem_of_getElem? (i := 366) (by decide +kernel)⟩
theorem lw_p8 : lw_okq (⟨"DayTongues$Tape", "kindTold", "()I"⟩, 5) := ⟨⟨by decide +kernel, by decide +kernel⟩, List.mem_of_getElem? (i := 47) (by decide +kernel), List.mem_of_getElem? (i := 377) (by decide +kernel), List.mem_of_getElem? (i := 378) (by decide +kernel)⟩
theorem lw_p9 : lw_okq (⟨"DayTongues$Tape", "readReadings", "(LDayTongues$Port;II)I"⟩, 5) := ⟨⟨by decide +kernel, by decide +kernel⟩, List.mem_of_getElem? (i := 47) (by decide +kernel), List.mem_of_getElem? (i := 399) (by decide +kernel), List.mem_of_getElem? (i := 400) (by decide +kernel)⟩
theorem lw_p10 : lw_okq (⟨"DayTongues$Tape", "number", "()I"⟩, 5) := ⟨⟨by decide +kernel, by decide +kernel⟩, List.mem_of_getElem? (i := 47) (by decide +kernel), List.mem_of_getElem? (i := 403) (by decide +kernel), List.mem_of_getElem? (i := 404) (by decide +kernel)⟩
theorem lw_p11 : lw_okq (⟨"DayTongues$Tape", "readPerson", "(LDayTongues$Port;)I"⟩, 5) := ⟨⟨by decide +kernel, by decide +kernel⟩, List.mem_of_getElem? (i := 47) (by decide +kernel), List.mem_of_getElem? (i := 417) (by decide +kernel), List.mem_of_getElem? (i := 418) (by decide +kernel)⟩
theorem lw_p12 : lw_okq (⟨"DayTongues", "hasNoPort", "()Z"⟩, 11) := ⟨⟨by decide +kernel, by decide +kernel⟩, List.mem_of_getElem? (i := 22) (by decide +kernel), List.mem_of_getElem? (i := 450) (by decide +kernel), List.mem_of_getElem? (i := 451) (by decide +kernel)⟩
theorem lw_p13 : lw_okq (⟨"DayTongues$Port", "passYear", "(I)I"⟩, 8) := ⟨⟨by decide +kernel, by decide +kernel⟩, List.mem_of_getElem? (i := 73) (by decide +kernel), List.mem_of_getElem? (i := 464) (by decide +kernel), List.mem_of_getElem? (i := 465) (by decide +kernel)⟩
theorem lw_p14 : lw_okq (⟨"DayTongues$Port", "turn", "(IIII)V"⟩, 8) := ⟨⟨by decide +kernel, by decide +kernel⟩, List.mem_of_getElem? (i := 73) (by decide +kernel), List.mem_of_getElem? (i := 480) (by decide +kernel), List.mem_of_getElem? (i := 481) (by decide +kernel)⟩
theorem lw_p15 : lw_okq (⟨"DayTongues$Port", "hasReading", "(III)Z"⟩, 8) := ⟨⟨by decide +kernel, by decide +kernel⟩, List.mem_of_getElem? (i := 73) (by decide +kernel), List.mem_of_getElem? (i := 488) (by decide +kernel), List.mem_of_getElem? (i := 489) (by decide +kernel)⟩
def lw_privs_1 : List (MethodName × Nat) := [(⟨"DayTongues", "found", "(I)I"⟩, 11), (⟨"DayTongues", "well", "(I)I"⟩, 11), (⟨"DayTongues$Tape", "next", "()V"⟩, 5), (⟨"DayTongues$Tape", "at", "(I)I"⟩, 5), (⟨"DayTongues$Tape", "isName", "(Ljava/lang/String;)Z"⟩, 5), (⟨"DayTongues$Tape", "readTongue", "(LDayTongues$Port;)I"⟩, 5), (⟨"DayTongues$Tape", "readSemicolon", "()I"⟩, 5), (⟨"DayTongues$Tape", "readWord", "(LDayTongues$Port;)I"⟩, 5), (⟨"DayTongues$Tape", "kindTold", "()I"⟩, 5), (⟨"DayTongues$Tape", "readReadings", "(LDayTongues$Port;II)I"⟩, 5), (⟨"DayTongues$Tape", "number", "()I"⟩, 5), (⟨"DayTongues$Tape", "readPerson", "(LDayTongues$Port;)I"⟩, 5), (⟨"DayTongues", "hasNoPort", "()Z"⟩, 11), (⟨"DayTongues$Port", "passYear", "(I)I"⟩, 8), (⟨"DayTongues$Port", "turn", "(IIII)V"⟩, 8), (⟨"DayTongues$Port", "hasReading", "(III)Z"⟩, 8)]
theorem lw_r1 : ∀ q ∈ lw_privs_1, lw_okq q := List.forall_mem_cons.mpr ⟨lw_p0, List.forall_mem_cons.mpr ⟨lw_p1, List.forall_mem_cons.mpr ⟨lw_p2, List.forall_mem_cons.mpr ⟨lw_p3, List.forall_mem_cons.mpr ⟨lw_p4, List.forall_mem_cons.mpr ⟨lw_p5, List.forall_mem_cons.mpr ⟨lw_p6, List.forall_mem_cons.mpr ⟨lw_p7, List.forall_mem_cons.mpr ⟨lw_p8, List.forall_mem_cons.mpr ⟨lw_p9, List.forall_mem_cons.mpr ⟨lw_p10, List.forall_mem_cons.mpr ⟨lw_p11, List.forall_mem_cons.mpr ⟨lw_p12, List.forall_mem_cons.mpr ⟨lw_p13, List.forall_mem_cons.mpr ⟨lw_p14, List.forall_mem_cons.mpr ⟨lw_p15, fun _ h => absurd h List.not_mem_nil⟩⟩⟩⟩⟩⟩⟩⟩⟩⟩⟩⟩⟩⟩⟩⟩
theorem lw_p16 : lw_okq (⟨"DayTongues", "isSaid", "(IIII)Z"⟩, 11) := ⟨⟨by decide +kernel, by decide +kernel⟩, List.mem_of_getElem? (i := 22) (by decide +kernel), List.mem_of_getElem? (i := 535) (by decide +kernel), List.mem_of_getElem? (i := 536) (by decide +kernel)⟩
theorem lw_p17 : lw_okq (⟨"DayTongues$Sayings", "reach", "(IIZ)V"⟩, 8) := ⟨⟨by decide +kernel, by decide +kernel⟩, List.mem_of_getElem? (i := 104) (by decide +kernel), List.mem_of_getElem? (i := 576) (by decide +kernel), List.mem_of_getElem? (i := 577) (by decide +kernel)⟩
theorem lw_p18 : lw_okq (⟨"DayTongues$Sayings", "goOnSurely", "(IIII)V"⟩, 8) := ⟨⟨by decide +kernel, by decide +kernel⟩, List.mem_of_getElem? (i := 104) (by decide +kernel), List.mem_of_getElem? (i := 581) (by decide +kernel), List.mem_of_getElem? (i := 582) (by decide +kernel)⟩
theorem lw_p19 : lw_okq (⟨"DayTongues$Sayings", "goOn", "(III)V"⟩, 8) := ⟨⟨by decide +kernel, by decide +kernel⟩, List.mem_of_getElem? (i := 104) (by decide +kernel), List.mem_of_getElem? (i := 593) (by decide +kernel), List.mem_of_getElem? (i := 594) (by decide +kernel)⟩
theorem lw_p20 : lw_okq (⟨"DayTongues$Sayings", "offer", "(III)V"⟩, 8) := ⟨⟨by decide +kernel, by decide +kernel⟩, List.mem_of_getElem? (i := 104) (by decide +kernel), List.mem_of_getElem? (i := 597) (by decide +kernel), List.mem_of_getElem? (i := 598) (by decide +kernel)⟩
theorem lw_p21 : lw_okq (⟨"DayTongues$Sayings", "goOnPerhaps", "(III)V"⟩, 8) := ⟨⟨by decide +kernel, by decide +kernel⟩, List.mem_of_getElem? (i := 104) (by decide +kernel), List.mem_of_getElem? (i := 601) (by decide +kernel), List.mem_of_getElem? (i := 602) (by decide +kernel)⟩
theorem lw_p22 : lw_okq (⟨"DayTongues$Sayings", "addToAll", "(I)V"⟩, 8) := ⟨⟨by decide +kernel, by decide +kernel⟩, List.mem_of_getElem? (i := 104) (by decide +kernel), List.mem_of_getElem? (i := 614) (by decide +kernel), List.mem_of_getElem? (i := 615) (by decide +kernel)⟩
theorem lw_p23 : lw_okq (⟨"DayTongues", "refusalOfSaying", "(II)I"⟩, 11) := ⟨⟨by decide +kernel, by decide +kernel⟩, List.mem_of_getElem? (i := 22) (by decide +kernel), List.mem_of_getElem? (i := 633) (by decide +kernel), List.mem_of_getElem? (i := 634) (by decide +kernel)⟩
theorem lw_p24 : lw_okq (⟨"DayTongues$People", "passedOn", "(III)I"⟩, 1) := ⟨⟨by decide +kernel, by decide +kernel⟩, List.mem_of_getElem? (i := 136) (by decide +kernel), List.mem_of_getElem? (i := 656) (by decide +kernel), List.mem_of_getElem? (i := 657) (by decide +kernel)⟩
theorem lw_p25 : lw_okq (⟨"DayTongues$People", "isWeekDealt", "(I)Z"⟩, 1) := ⟨⟨by decide +kernel, by decide +kernel⟩, List.mem_of_getElem? (i := 136) (by decide +kernel), List.mem_of_getElem? (i := 676) (by decide +kernel), List.mem_of_getElem? (i := 677) (by decide +kernel)⟩
theorem lw_p26 : lw_okq (⟨"DayTongues$People", "heardInTheEnd", "(II)I"⟩, 1) := ⟨⟨by decide +kernel, by decide +kernel⟩, List.mem_of_getElem? (i := 136) (by decide +kernel), List.mem_of_getElem? (i := 681) (by decide +kernel), List.mem_of_getElem? (i := 682) (by decide +kernel)⟩
theorem lw_p27 : lw_okq (⟨"DayTongues", "tonguesOf", "(IIII)I"⟩, 11) := ⟨⟨by decide +kernel, by decide +kernel⟩, List.mem_of_getElem? (i := 22) (by decide +kernel), List.mem_of_getElem? (i := 700) (by decide +kernel), List.mem_of_getElem? (i := 701) (by decide +kernel)⟩
theorem lw_p28 : lw_okq (⟨"DayTongues", "imageOf", "(I)LDayTongues$Port;"⟩, 11) := ⟨⟨by decide +kernel, by decide +kernel⟩, List.mem_of_getElem? (i := 22) (by decide +kernel), List.mem_of_getElem? (i := 712) (by decide +kernel), List.mem_of_getElem? (i := 713) (by decide +kernel)⟩
theorem lw_p29 : lw_okq (⟨"DayTongues", "wordToAsk", "(II)LDayTongues$Word;"⟩, 11) := ⟨⟨by decide +kernel, by decide +kernel⟩, List.mem_of_getElem? (i := 22) (by decide +kernel), List.mem_of_getElem? (i := 732) (by decide +kernel), List.mem_of_getElem? (i := 733) (by decide +kernel)⟩
theorem lw_p30 : lw_okq (⟨"DayTonguesModel", "finding", "(I)I"⟩, 30) := ⟨⟨by decide +kernel, by decide +kernel⟩, List.mem_of_getElem? (i := 935) (by decide +kernel), List.mem_of_getElem? (i := 1045) (by decide +kernel), List.mem_of_getElem? (i := 1046) (by decide +kernel)⟩
theorem lw_p31 : lw_okq (⟨"DayTonguesModel", "begin", "()V"⟩, 30) := ⟨⟨by decide +kernel, by decide +kernel⟩, List.mem_of_getElem? (i := 935) (by decide +kernel), List.mem_of_getElem? (i := 1073) (by decide +kernel), List.mem_of_getElem? (i := 1074) (by decide +kernel)⟩
def lw_privs_2 : List (MethodName × Nat) := [(⟨"DayTongues", "isSaid", "(IIII)Z"⟩, 11), (⟨"DayTongues$Sayings", "reach", "(IIZ)V"⟩, 8), (⟨"DayTongues$Sayings", "goOnSurely", "(IIII)V"⟩, 8), (⟨"DayTongues$Sayings", "goOn", "(III)V"⟩, 8), (⟨"DayTongues$Sayings", "offer", "(III)V"⟩, 8), (⟨"DayTongues$Sayings", "goOnPerhaps", "(III)V"⟩, 8), (⟨"DayTongues$Sayings", "addToAll", "(I)V"⟩, 8), (⟨"DayTongues", "refusalOfSaying", "(II)I"⟩, 11), (⟨"DayTongues$People", "passedOn", "(III)I"⟩, 1), (⟨"DayTongues$People", "isWeekDealt", "(I)Z"⟩, 1), (⟨"DayTongues$People", "heardInTheEnd", "(II)I"⟩, 1), (⟨"DayTongues", "tonguesOf", "(IIII)I"⟩, 11), (⟨"DayTongues", "imageOf", "(I)LDayTongues$Port;"⟩, 11), (⟨"DayTongues", "wordToAsk", "(II)LDayTongues$Word;"⟩, 11), (⟨"DayTonguesModel", "finding", "(I)I"⟩, 30), (⟨"DayTonguesModel", "begin", "()V"⟩, 30)]
theorem lw_r2 : ∀ q ∈ lw_privs_2, lw_okq q := List.forall_mem_cons.mpr ⟨lw_p16, List.forall_mem_cons.mpr ⟨lw_p17, List.forall_mem_cons.mpr ⟨lw_p18, List.forall_mem_cons.mpr ⟨lw_p19, List.forall_mem_cons.mpr ⟨lw_p20, List.forall_mem_cons.mpr ⟨lw_p21, List.forall_mem_cons.mpr ⟨lw_p22, List.forall_mem_cons.mpr ⟨lw_p23, List.forall_mem_cons.mpr ⟨lw_p24, List.forall_mem_cons.mpr ⟨lw_p25, List.forall_mem_cons.mpr ⟨lw_p26, List.forall_mem_cons.mpr ⟨lw_p27, List.forall_mem_cons.mpr ⟨lw_p28, List.forall_mem_cons.mpr ⟨lw_p29, List.forall_mem_cons.mpr ⟨lw_p30, List.forall_mem_cons.mpr ⟨lw_p31, fun _ h => absurd h List.not_mem_nil⟩⟩⟩⟩⟩⟩⟩⟩⟩⟩⟩⟩⟩⟩⟩⟩
theorem lw_p32 : lw_okq (⟨"DayTonguesModel", "next", "()V"⟩, 30) := ⟨⟨by decide +kernel, by decide +kernel⟩, List.mem_of_getElem? (i := 935) (by decide +kernel), List.mem_of_getElem? (i := 1077) (by decide +kernel), List.mem_of_getElem? (i := 1078) (by decide +kernel)⟩
theorem lw_p33 : lw_okq (⟨"DayTonguesModel", "byteAt", "(I)I"⟩, 30) := ⟨⟨by decide +kernel, by decide +kernel⟩, List.mem_of_getElem? (i := 935) (by decide +kernel), List.mem_of_getElem? (i := 1081) (by decide +kernel), List.mem_of_getElem? (i := 1082) (by decide +kernel)⟩
theorem lw_p34 : lw_okq (⟨"DayTonguesModel", "name", "()J"⟩, 30) := ⟨⟨by decide +kernel, by decide +kernel⟩, List.mem_of_getElem? (i := 935) (by decide +kernel), List.mem_of_getElem? (i := 1092) (by decide +kernel), List.mem_of_getElem? (i := 1093) (by decide +kernel)⟩
theorem lw_p35 : lw_okq (⟨"DayTonguesModel", "bad", "(I)V"⟩, 30) := ⟨⟨by decide +kernel, by decide +kernel⟩, List.mem_of_getElem? (i := 935) (by decide +kernel), List.mem_of_getElem? (i := 1097) (by decide +kernel), List.mem_of_getElem? (i := 1098) (by decide +kernel)⟩
theorem lw_p36 : lw_okq (⟨"DayTonguesModel", "readTongue", "()V"⟩, 30) := ⟨⟨by decide +kernel, by decide +kernel⟩, List.mem_of_getElem? (i := 935) (by decide +kernel), List.mem_of_getElem? (i := 1101) (by decide +kernel), List.mem_of_getElem? (i := 1102) (by decide +kernel)⟩
theorem lw_p37 : lw_okq (⟨"DayTonguesModel", "must", "(Z)V"⟩, 30) := ⟨⟨by decide +kernel, by decide +kernel⟩, List.mem_of_getElem? (i := 935) (by decide +kernel), List.mem_of_getElem? (i := 1105) (by decide +kernel), List.mem_of_getElem? (i := 1106) (by decide +kernel)⟩
theorem lw_p38 : lw_okq (⟨"DayTonguesModel", "mustEnd", "()V"⟩, 30) := ⟨⟨by decide +kernel, by decide +kernel⟩, List.mem_of_getElem? (i := 935) (by decide +kernel), List.mem_of_getElem? (i := 1109) (by decide +kernel), List.mem_of_getElem? (i := 1110) (by decide +kernel)⟩
theorem lw_p39 : lw_okq (⟨"DayTonguesModel", "readWord", "()V"⟩, 30) := ⟨⟨by decide +kernel, by decide +kernel⟩, List.mem_of_getElem? (i := 935) (by decide +kernel), List.mem_of_getElem? (i := 1114) (by decide +kernel), List.mem_of_getElem? (i := 1115) (by decide +kernel)⟩
theorem lw_p40 : lw_okq (⟨"DayTonguesModel", "number", "(II)I"⟩, 30) := ⟨⟨by decide +kernel, by decide +kernel⟩, List.mem_of_getElem? (i := 935) (by decide +kernel), List.mem_of_getElem? (i := 1126) (by decide +kernel), List.mem_of_getElem? (i := 1127) (by decide +kernel)⟩
theorem lw_p41 : lw_okq (⟨"DayTonguesModel", "figures", "()I"⟩, 30) := ⟨⟨by decide +kernel, by decide +kernel⟩, List.mem_of_getElem? (i := 935) (by decide +kernel), List.mem_of_getElem? (i := 1130) (by decide +kernel), List.mem_of_getElem? (i := 1131) (by decide +kernel)⟩
theorem lw_p42 : lw_okq (⟨"DayTonguesModel", "readPerson", "()V"⟩, 30) := ⟨⟨by decide +kernel, by decide +kernel⟩, List.mem_of_getElem? (i := 935) (by decide +kernel), List.mem_of_getElem? (i := 1135) (by decide +kernel), List.mem_of_getElem? (i := 1136) (by decide +kernel)⟩
theorem lw_p43 : lw_okq (⟨"DayTonguesModel", "year", "()V"⟩, 30) := ⟨⟨by decide +kernel, by decide +kernel⟩, List.mem_of_getElem? (i := 935) (by decide +kernel), List.mem_of_getElem? (i := 1151) (by decide +kernel), List.mem_of_getElem? (i := 1152) (by decide +kernel)⟩
theorem lw_p44 : lw_okq (⟨"DayTonguesModel", "draw", "(I)I"⟩, 30) := ⟨⟨by decide +kernel, by decide +kernel⟩, List.mem_of_getElem? (i := 935) (by decide +kernel), List.mem_of_getElem? (i := 1155) (by decide +kernel), List.mem_of_getElem? (i := 1156) (by decide +kernel)⟩
theorem lw_p45 : lw_okq (⟨"DayTonguesModel", "readings", "(II)I"⟩, 30) := ⟨⟨by decide +kernel, by decide +kernel⟩, List.mem_of_getElem? (i := 935) (by decide +kernel), List.mem_of_getElem? (i := 1161) (by decide +kernel), List.mem_of_getElem? (i := 1162) (by decide +kernel)⟩
theorem lw_p46 : lw_okq (⟨"DayTonguesModel", "reading", "(III)I"⟩, 30) := ⟨⟨by decide +kernel, by decide +kernel⟩, List.mem_of_getElem? (i := 935) (by decide +kernel), List.mem_of_getElem? (i := 1165) (by decide +kernel), List.mem_of_getElem? (i := 1166) (by decide +kernel)⟩
theorem lw_p47 : lw_okq (⟨"DayTonguesModel", "isWord", "(II)Z"⟩, 30) := ⟨⟨by decide +kernel, by decide +kernel⟩, List.mem_of_getElem? (i := 935) (by decide +kernel), List.mem_of_getElem? (i := 1173) (by decide +kernel), List.mem_of_getElem? (i := 1174) (by decide +kernel)⟩
def lw_privs_3 : List (MethodName × Nat) := [(⟨"DayTonguesModel", "next", "()V"⟩, 30), (⟨"DayTonguesModel", "byteAt", "(I)I"⟩, 30), (⟨"DayTonguesModel", "name", "()J"⟩, 30), (⟨"DayTonguesModel", "bad", "(I)V"⟩, 30), (⟨"DayTonguesModel", "readTongue", "()V"⟩, 30), (⟨"DayTonguesModel", "must", "(Z)V"⟩, 30), (⟨"DayTonguesModel", "mustEnd", "()V"⟩, 30), (⟨"DayTonguesModel", "readWord", "()V"⟩, 30), (⟨"DayTonguesModel", "number", "(II)I"⟩, 30), (⟨"DayTonguesModel", "figures", "()I"⟩, 30), (⟨"DayTonguesModel", "readPerson", "()V"⟩, 30), (⟨"DayTonguesModel", "year", "()V"⟩, 30), (⟨"DayTonguesModel", "draw", "(I)I"⟩, 30), (⟨"DayTonguesModel", "readings", "(II)I"⟩, 30), (⟨"DayTonguesModel", "reading", "(III)I"⟩, 30), (⟨"DayTonguesModel", "isWord", "(II)Z"⟩, 30)]
theorem lw_r3 : ∀ q ∈ lw_privs_3, lw_okq q := List.forall_mem_cons.mpr ⟨lw_p32, List.forall_mem_cons.mpr ⟨lw_p33, List.forall_mem_cons.mpr ⟨lw_p34, List.forall_mem_cons.mpr ⟨lw_p35, List.forall_mem_cons.mpr ⟨lw_p36, List.forall_mem_cons.mpr ⟨lw_p37, List.forall_mem_cons.mpr ⟨lw_p38, List.forall_mem_cons.mpr ⟨lw_p39, List.forall_mem_cons.mpr ⟨lw_p40, List.forall_mem_cons.mpr ⟨lw_p41, List.forall_mem_cons.mpr ⟨lw_p42, List.forall_mem_cons.mpr ⟨lw_p43, List.forall_mem_cons.mpr ⟨lw_p44, List.forall_mem_cons.mpr ⟨lw_p45, List.forall_mem_cons.mpr ⟨lw_p46, List.forall_mem_cons.mpr ⟨lw_p47, fun _ h => absurd h List.not_mem_nil⟩⟩⟩⟩⟩⟩⟩⟩⟩⟩⟩⟩⟩⟩⟩⟩
theorem lw_p48 : lw_okq (⟨"DayTonguesModel", "isTongue", "(I)Z"⟩, 30) := ⟨⟨by decide +kernel, by decide +kernel⟩, List.mem_of_getElem? (i := 935) (by decide +kernel), List.mem_of_getElem? (i := 1177) (by decide +kernel), List.mem_of_getElem? (i := 1178) (by decide +kernel)⟩
theorem lw_p49 : lw_okq (⟨"DayTonguesModel", "isOne", "(I)Z"⟩, 30) := ⟨⟨by decide +kernel, by decide +kernel⟩, List.mem_of_getElem? (i := 935) (by decide +kernel), List.mem_of_getElem? (i := 1190) (by decide +kernel), List.mem_of_getElem? (i := 1191) (by decide +kernel)⟩
theorem lw_p50 : lw_okq (⟨"DayTonguesModel", "lack", "(III)I"⟩, 30) := ⟨⟨by decide +kernel, by decide +kernel⟩, List.mem_of_getElem? (i := 935) (by decide +kernel), List.mem_of_getElem? (i := 1203) (by decide +kernel), List.mem_of_getElem? (i := 1204) (by decide +kernel)⟩
theorem lw_p51 : lw_okq (⟨"DayTonguesModel", "tongueOf", "(I)I"⟩, 30) := ⟨⟨by decide +kernel, by decide +kernel⟩, List.mem_of_getElem? (i := 935) (by decide +kernel), List.mem_of_getElem? (i := 1207) (by decide +kernel), List.mem_of_getElem? (i := 1208) (by decide +kernel)⟩
theorem lw_p52 : lw_okq (⟨"DayTonguesModel", "startMeaning", "()V"⟩, 30) := ⟨⟨by decide +kernel, by decide +kernel⟩, List.mem_of_getElem? (i := 935) (by decide +kernel), List.mem_of_getElem? (i := 1211) (by decide +kernel), List.mem_of_getElem? (i := 1212) (by decide +kernel)⟩
theorem lw_p53 : lw_okq (⟨"DayTonguesModel", "mean", "(II)V"⟩, 30) := ⟨⟨by decide +kernel, by decide +kernel⟩, List.mem_of_getElem? (i := 935) (by decide +kernel), List.mem_of_getElem? (i := 1215) (by decide +kernel), List.mem_of_getElem? (i := 1216) (by decide +kernel)⟩
theorem lw_p54 : lw_okq (⟨"DayTonguesModel", "marked", "([ZI)I"⟩, 30) := ⟨⟨by decide +kernel, by decide +kernel⟩, List.mem_of_getElem? (i := 935) (by decide +kernel), List.mem_of_getElem? (i := 1219) (by decide +kernel), List.mem_of_getElem? (i := 1220) (by decide +kernel)⟩
theorem lw_p55 : lw_okq (⟨"DayTonguesModel", "layFar", "(IIZ)V"⟩, 30) := ⟨⟨by decide +kernel, by decide +kernel⟩, List.mem_of_getElem? (i := 935) (by decide +kernel), List.mem_of_getElem? (i := 1227) (by decide +kernel), List.mem_of_getElem? (i := 1228) (by decide +kernel)⟩
theorem lw_p56 : lw_okq (⟨"DayTonguesModel", "waysOf", "(IIIZ)I"⟩, 30) := ⟨⟨by decide +kernel, by decide +kernel⟩, List.mem_of_getElem? (i := 935) (by decide +kernel), List.mem_of_getElem? (i := 1231) (by decide +kernel), List.mem_of_getElem? (i := 1232) (by decide +kernel)⟩
theorem lw_p57 : lw_okq (⟨"DayTonguesModel", "isWithin", "(III)Z"⟩, 30) := ⟨⟨by decide +kernel, by decide +kernel⟩, List.mem_of_getElem? (i := 935) (by decide +kernel), List.mem_of_getElem? (i := 1235) (by decide +kernel), List.mem_of_getElem? (i := 1236) (by decide +kernel)⟩
theorem lw_p58 : lw_okq (⟨"DayTonguesModel", "onBy", "(IIIZ)I"⟩, 30) := ⟨⟨by decide +kernel, by decide +kernel⟩, List.mem_of_getElem? (i := 935) (by decide +kernel), List.mem_of_getElem? (i := 1239) (by decide +kernel), List.mem_of_getElem? (i := 1240) (by decide +kernel)⟩
theorem lw_p59 : lw_okq (⟨"DayTonguesModel", "common", "(II)I"⟩, 30) := ⟨⟨by decide +kernel, by decide +kernel⟩, List.mem_of_getElem? (i := 935) (by decide +kernel), List.mem_of_getElem? (i := 1243) (by decide +kernel), List.mem_of_getElem? (i := 1244) (by decide +kernel)⟩
theorem lw_p60 : lw_okq (⟨"DayTonguesModel", "laySaying", "(IIZ)V"⟩, 30) := ⟨⟨by decide +kernel, by decide +kernel⟩, List.mem_of_getElem? (i := 935) (by decide +kernel), List.mem_of_getElem? (i := 1247) (by decide +kernel), List.mem_of_getElem? (i := 1248) (by decide +kernel)⟩
theorem lw_p61 : lw_okq (⟨"DayTonguesModel", "takesOn", "(IIIZI)Z"⟩, 30) := ⟨⟨by decide +kernel, by decide +kernel⟩, List.mem_of_getElem? (i := 935) (by decide +kernel), List.mem_of_getElem? (i := 1251) (by decide +kernel), List.mem_of_getElem? (i := 1252) (by decide +kernel)⟩
theorem lw_p62 : lw_okq (⟨"DayTonguesModel", "said", "(IZ)I"⟩, 30) := ⟨⟨by decide +kernel, by decide +kernel⟩, List.mem_of_getElem? (i := 935) (by decide +kernel), List.mem_of_getElem? (i := 1259) (by decide +kernel), List.mem_of_getElem? (i := 1260) (by decide +kernel)⟩
theorem lw_p63 : lw_okq (⟨"DayTonguesModel", "oneSaying", "(I)V"⟩, 30) := ⟨⟨by decide +kernel, by decide +kernel⟩, List.mem_of_getElem? (i := 935) (by decide +kernel), List.mem_of_getElem? (i := 1268) (by decide +kernel), List.mem_of_getElem? (i := 1269) (by decide +kernel)⟩
def lw_privs_4 : List (MethodName × Nat) := [(⟨"DayTonguesModel", "isTongue", "(I)Z"⟩, 30), (⟨"DayTonguesModel", "isOne", "(I)Z"⟩, 30), (⟨"DayTonguesModel", "lack", "(III)I"⟩, 30), (⟨"DayTonguesModel", "tongueOf", "(I)I"⟩, 30), (⟨"DayTonguesModel", "startMeaning", "()V"⟩, 30), (⟨"DayTonguesModel", "mean", "(II)V"⟩, 30), (⟨"DayTonguesModel", "marked", "([ZI)I"⟩, 30), (⟨"DayTonguesModel", "layFar", "(IIZ)V"⟩, 30), (⟨"DayTonguesModel", "waysOf", "(IIIZ)I"⟩, 30), (⟨"DayTonguesModel", "isWithin", "(III)Z"⟩, 30), (⟨"DayTonguesModel", "onBy", "(IIIZ)I"⟩, 30), (⟨"DayTonguesModel", "common", "(II)I"⟩, 30), (⟨"DayTonguesModel", "laySaying", "(IIZ)V"⟩, 30), (⟨"DayTonguesModel", "takesOn", "(IIIZI)Z"⟩, 30), (⟨"DayTonguesModel", "said", "(IZ)I"⟩, 30), (⟨"DayTonguesModel", "oneSaying", "(I)V"⟩, 30)]
theorem lw_r4 : ∀ q ∈ lw_privs_4, lw_okq q := List.forall_mem_cons.mpr ⟨lw_p48, List.forall_mem_cons.mpr ⟨lw_p49, List.forall_mem_cons.mpr ⟨lw_p50, List.forall_mem_cons.mpr ⟨lw_p51, List.forall_mem_cons.mpr ⟨lw_p52, List.forall_mem_cons.mpr ⟨lw_p53, List.forall_mem_cons.mpr ⟨lw_p54, List.forall_mem_cons.mpr ⟨lw_p55, List.forall_mem_cons.mpr ⟨lw_p56, List.forall_mem_cons.mpr ⟨lw_p57, List.forall_mem_cons.mpr ⟨lw_p58, List.forall_mem_cons.mpr ⟨lw_p59, List.forall_mem_cons.mpr ⟨lw_p60, List.forall_mem_cons.mpr ⟨lw_p61, List.forall_mem_cons.mpr ⟨lw_p62, List.forall_mem_cons.mpr ⟨lw_p63, fun _ h => absurd h List.not_mem_nil⟩⟩⟩⟩⟩⟩⟩⟩⟩⟩⟩⟩⟩⟩⟩⟩
theorem lw_p64 : lw_okq (⟨"DayTonguesModel", "nextItem", "(I)I"⟩, 30) := ⟨⟨by decide +kernel, by decide +kernel⟩, List.mem_of_getElem? (i := 935) (by decide +kernel), List.mem_of_getElem? (i := 1272) (by decide +kernel), List.mem_of_getElem? (i := 1273) (by decide +kernel)⟩
theorem lw_p65 : lw_okq (⟨"DayTonguesModel", "bars", "(Z)V"⟩, 30) := ⟨⟨by decide +kernel, by decide +kernel⟩, List.mem_of_getElem? (i := 935) (by decide +kernel), List.mem_of_getElem? (i := 1276) (by decide +kernel), List.mem_of_getElem? (i := 1277) (by decide +kernel)⟩
theorem lw_p66 : lw_okq (⟨"DayTonguesModel", "between", "(III)I"⟩, 30) := ⟨⟨by decide +kernel, by decide +kernel⟩, List.mem_of_getElem? (i := 935) (by decide +kernel), List.mem_of_getElem? (i := 1284) (by decide +kernel), List.mem_of_getElem? (i := 1285) (by decide +kernel)⟩
theorem lw_p67 : lw_okq (⟨"DayTonguesModel", "isEnough", "(I)Z"⟩, 30) := ⟨⟨by decide +kernel, by decide +kernel⟩, List.mem_of_getElem? (i := 935) (by decide +kernel), List.mem_of_getElem? (i := 1295) (by decide +kernel), List.mem_of_getElem? (i := 1296) (by decide +kernel)⟩
theorem lw_p68 : lw_okq (⟨"DayTonguesModel", "kindOf", "(II)I"⟩, 30) := ⟨⟨by decide +kernel, by decide +kernel⟩, List.mem_of_getElem? (i := 935) (by decide +kernel), List.mem_of_getElem? (i := 1319) (by decide +kernel), List.mem_of_getElem? (i := 1320) (by decide +kernel)⟩
theorem lw_p69 : lw_okq (⟨"DayTonguesModel", "sizeOf", "(II)I"⟩, 30) := ⟨⟨by decide +kernel, by decide +kernel⟩, List.mem_of_getElem? (i := 935) (by decide +kernel), List.mem_of_getElem? (i := 1334) (by decide +kernel), List.mem_of_getElem? (i := 1335) (by decide +kernel)⟩
theorem lw_p70 : lw_okq (⟨"DayTonguesModel", "began", "(I)V"⟩, 30) := ⟨⟨by decide +kernel, by decide +kernel⟩, List.mem_of_getElem? (i := 935) (by decide +kernel), List.mem_of_getElem? (i := 1338) (by decide +kernel), List.mem_of_getElem? (i := 1339) (by decide +kernel)⟩
theorem lw_p71 : lw_okq (⟨"DayTonguesModel", "plainSize", "(II)I"⟩, 30) := ⟨⟨by decide +kernel, by decide +kernel⟩, List.mem_of_getElem? (i := 935) (by decide +kernel), List.mem_of_getElem? (i := 1342) (by decide +kernel), List.mem_of_getElem? (i := 1343) (by decide +kernel)⟩
theorem lw_p72 : lw_okq (⟨"DayTonguesModel", "markOf", "(II)I"⟩, 30) := ⟨⟨by decide +kernel, by decide +kernel⟩, List.mem_of_getElem? (i := 935) (by decide +kernel), List.mem_of_getElem? (i := 1346) (by decide +kernel), List.mem_of_getElem? (i := 1347) (by decide +kernel)⟩
def lw_privs_5 : List (MethodName × Nat) := [(⟨"DayTonguesModel", "nextItem", "(I)I"⟩, 30), (⟨"DayTonguesModel", "bars", "(Z)V"⟩, 30), (⟨"DayTonguesModel", "between", "(III)I"⟩, 30), (⟨"DayTonguesModel", "isEnough", "(I)Z"⟩, 30), (⟨"DayTonguesModel", "kindOf", "(II)I"⟩, 30), (⟨"DayTonguesModel", "sizeOf", "(II)I"⟩, 30), (⟨"DayTonguesModel", "began", "(I)V"⟩, 30), (⟨"DayTonguesModel", "plainSize", "(II)I"⟩, 30), (⟨"DayTonguesModel", "markOf", "(II)I"⟩, 30)]
theorem lw_r5 : ∀ q ∈ lw_privs_5, lw_okq q := List.forall_mem_cons.mpr ⟨lw_p64, List.forall_mem_cons.mpr ⟨lw_p65, List.forall_mem_cons.mpr ⟨lw_p66, List.forall_mem_cons.mpr ⟨lw_p67, List.forall_mem_cons.mpr ⟨lw_p68, List.forall_mem_cons.mpr ⟨lw_p69, List.forall_mem_cons.mpr ⟨lw_p70, List.forall_mem_cons.mpr ⟨lw_p71, List.forall_mem_cons.mpr ⟨lw_p72, fun _ h => absurd h List.not_mem_nil⟩⟩⟩⟩⟩⟩⟩⟩⟩
def lw_privs : List (MethodName × Nat) := lw_privs_1 ++ (lw_privs_2 ++ (lw_privs_3 ++ (lw_privs_4 ++ (lw_privs_5))))
def lw_tbl : List Cond := k2_sels lw_privs ++ tables_1
theorem lw_privs_ok : ∀ q ∈ lw_privs, lw_okq q := by
  show ∀ q ∈ lw_privs_1 ++ (lw_privs_2 ++ (lw_privs_3 ++ (lw_privs_4 ++ (lw_privs_5)))), lw_okq q
  exact List.forall_mem_append.mpr ⟨lw_r1, List.forall_mem_append.mpr ⟨lw_r2, List.forall_mem_append.mpr ⟨lw_r3, List.forall_mem_append.mpr ⟨lw_r4, lw_r5⟩⟩⟩⟩
/-- the words of the tables that stay true whatever runs -/
def dt_tbl : List Cond := lw_tbl.filter goodWord
theorem dt_in {w : Cond} (h : w ∈ lw_tbl) (g : goodWord w = true) : w ∈ dt_tbl := List.mem_filter.mpr ⟨h, g⟩
/-- a word of tables_1 by its place -/
theorem dt_at {w : Cond} (i : Nat) (h : tables_1[i]? = some w) (g : goodWord w = true) : w ∈ dt_tbl := dt_in (List.mem_append_right _ (List.mem_of_getElem? h)) g
/-- a private method's 'selects' by its place -/
theorem dt_as {w : Cond} (i : Nat) (h : (k2_sels lw_privs)[i]? = some w) (g : goodWord w = true) : w ∈ dt_tbl := dt_in (List.mem_append_left _ (List.mem_of_getElem? h)) g
theorem dt_good : GoodIn dt_tbl dt_tbl := fun w hw => ⟨hw, good_of_word (List.mem_filter.mp hw).2⟩
/-! the classes, their fields in one order (a word of whichever kind: number, readings, steps, taken, its own) -/
def RX0 : String := "DayTongues$CountingWord"
def TX0 : u_T := fun k => match k with
  | 0 => ("DayTongues$Word", "number", "I", true)
  | 1 => ("DayTongues$Word", "readings", "I", true)
  | 2 => ("DayTongues$Word", "steps", "[I", true)
  | 3 => ("DayTongues$Word", "taken", "I", false)
  | _ => ("DayTongues$PlainWord", "reading", "I", true)
def tyX0 : Nat → FieldType := fun k => match k with
  | 0 => .int
  | 1 => .int
  | 2 => .array .int
  | 3 => .int
  | _ => .int
theorem nmX0 : ∀ a, a < 5 → ∀ b, b < 5 → a ≠ b → (TX0 a).2.1 ≠ (TX0 b).2.1 := by decide +kernel
theorem tyX0_ok : ∀ k, k < 5 → parseFieldDescriptor (TX0 k).2.2.1 = some (tyX0 k) := by decide +kernel
theorem inX0 : ∀ w ∈ u_ws RX0 TX0 5, w ∈ dt_tbl := fun w h => dt_in ((show ∀ w ∈ u_ws RX0 TX0 5, w ∈ lw_tbl by decide +kernel) w h) ((show ∀ w ∈ u_ws RX0 TX0 5, goodWord w = true by decide +kernel) w h)
def RX1 : String := "DayTongues$DoubleWord"
def TX1 : u_T := fun k => match k with
  | 0 => ("DayTongues$Word", "number", "I", true)
  | 1 => ("DayTongues$Word", "readings", "I", true)
  | 2 => ("DayTongues$Word", "steps", "[I", true)
  | 3 => ("DayTongues$Word", "taken", "I", false)
  | _ => ("DayTongues$DoubleWord", "common", "I", true)
def tyX1 : Nat → FieldType := fun k => match k with
  | 0 => .int
  | 1 => .int
  | 2 => .array .int
  | 3 => .int
  | _ => .int
theorem nmX1 : ∀ a, a < 5 → ∀ b, b < 5 → a ≠ b → (TX1 a).2.1 ≠ (TX1 b).2.1 := by decide +kernel
theorem tyX1_ok : ∀ k, k < 5 → parseFieldDescriptor (TX1 k).2.2.1 = some (tyX1 k) := by decide +kernel
theorem inX1 : ∀ w ∈ u_ws RX1 TX1 5, w ∈ dt_tbl := fun w h => dt_in ((show ∀ w ∈ u_ws RX1 TX1 5, w ∈ lw_tbl by decide +kernel) w h) ((show ∀ w ∈ u_ws RX1 TX1 5, goodWord w = true by decide +kernel) w h)
def RX2 : String := "DayTongues$LentWord"
def TX2 : u_T := fun k => match k with
  | 0 => ("DayTongues$Word", "number", "I", true)
  | 1 => ("DayTongues$Word", "readings", "I", true)
  | 2 => ("DayTongues$Word", "steps", "[I", true)
  | 3 => ("DayTongues$Word", "taken", "I", false)
  | _ => ("DayTongues$PlainWord", "reading", "I", true)
def tyX2 : Nat → FieldType := fun k => match k with
  | 0 => .int
  | 1 => .int
  | 2 => .array .int
  | 3 => .int
  | _ => .int
theorem nmX2 : ∀ a, a < 5 → ∀ b, b < 5 → a ≠ b → (TX2 a).2.1 ≠ (TX2 b).2.1 := by decide +kernel
theorem tyX2_ok : ∀ k, k < 5 → parseFieldDescriptor (TX2 k).2.2.1 = some (tyX2 k) := by decide +kernel
theorem inX2 : ∀ w ∈ u_ws RX2 TX2 5, w ∈ dt_tbl := fun w h => dt_in ((show ∀ w ∈ u_ws RX2 TX2 5, w ∈ lw_tbl by decide +kernel) w h) ((show ∀ w ∈ u_ws RX2 TX2 5, goodWord w = true by decide +kernel) w h)
def RX3 : String := "DayTongues$OathWord"
def TX3 : u_T := fun k => match k with
  | 0 => ("DayTongues$Word", "number", "I", true)
  | 1 => ("DayTongues$Word", "readings", "I", true)
  | 2 => ("DayTongues$Word", "steps", "[I", true)
  | 3 => ("DayTongues$Word", "taken", "I", false)
  | _ => ("DayTongues$DoubleWord", "common", "I", true)
def tyX3 : Nat → FieldType := fun k => match k with
  | 0 => .int
  | 1 => .int
  | 2 => .array .int
  | 3 => .int
  | _ => .int
theorem nmX3 : ∀ a, a < 5 → ∀ b, b < 5 → a ≠ b → (TX3 a).2.1 ≠ (TX3 b).2.1 := by decide +kernel
theorem tyX3_ok : ∀ k, k < 5 → parseFieldDescriptor (TX3 k).2.2.1 = some (tyX3 k) := by decide +kernel
theorem inX3 : ∀ w ∈ u_ws RX3 TX3 5, w ∈ dt_tbl := fun w h => dt_in ((show ∀ w ∈ u_ws RX3 TX3 5, w ∈ lw_tbl by decide +kernel) w h) ((show ∀ w ∈ u_ws RX3 TX3 5, goodWord w = true by decide +kernel) w h)
def RX4 : String := "DayTongues$People"
def TX4 : u_T := fun k => match k with
  | _ => ("DayTongues$People", "port", "LDayTongues$Port;", true)
def tyX4 : Nat → FieldType := fun k => match k with
  | _ => .object "DayTongues$Port"
theorem nmX4 : ∀ a, a < 1 → ∀ b, b < 1 → a ≠ b → (TX4 a).2.1 ≠ (TX4 b).2.1 := by decide +kernel
theorem tyX4_ok : ∀ k, k < 1 → parseFieldDescriptor (TX4 k).2.2.1 = some (tyX4 k) := by decide +kernel
theorem inX4 : ∀ w ∈ u_ws RX4 TX4 1, w ∈ dt_tbl := fun w h => dt_in ((show ∀ w ∈ u_ws RX4 TX4 1, w ∈ lw_tbl by decide +kernel) w h) ((show ∀ w ∈ u_ws RX4 TX4 1, goodWord w = true by decide +kernel) w h)
def RX5 : String := "DayTongues$PlainWord"
def TX5 : u_T := fun k => match k with
  | 0 => ("DayTongues$Word", "number", "I", true)
  | 1 => ("DayTongues$Word", "readings", "I", true)
  | 2 => ("DayTongues$Word", "steps", "[I", true)
  | 3 => ("DayTongues$Word", "taken", "I", false)
  | _ => ("DayTongues$PlainWord", "reading", "I", true)
def tyX5 : Nat → FieldType := fun k => match k with
  | 0 => .int
  | 1 => .int
  | 2 => .array .int
  | 3 => .int
  | _ => .int
theorem nmX5 : ∀ a, a < 5 → ∀ b, b < 5 → a ≠ b → (TX5 a).2.1 ≠ (TX5 b).2.1 := by decide +kernel
theorem tyX5_ok : ∀ k, k < 5 → parseFieldDescriptor (TX5 k).2.2.1 = some (tyX5 k) := by decide +kernel
theorem inX5 : ∀ w ∈ u_ws RX5 TX5 5, w ∈ dt_tbl := fun w h => dt_in ((show ∀ w ∈ u_ws RX5 TX5 5, w ∈ lw_tbl by decide +kernel) w h) ((show ∀ w ∈ u_ws RX5 TX5 5, goodWord w = true by decide +kernel) w h)
def RX6 : String := "DayTongues$Port"
def TX6 : u_T := fun k => match k with
  | 0 => ("DayTongues$Port", "wordCounts", "[I", true)
  | 1 => ("DayTongues$Port", "kinds", "[I", true)
  | 2 => ("DayTongues$Port", "readingCounts", "[I", true)
  | 3 => ("DayTongues$Port", "readings", "[I", true)
  | 4 => ("DayTongues$Port", "known", "[I", true)
  | 5 => ("DayTongues$Port", "tongueCount", "I", false)
  | 6 => ("DayTongues$Port", "peopleCount", "I", false)
  | _ => ("DayTongues$Port", "yearCount", "I", false)
def tyX6 : Nat → FieldType := fun k => match k with
  | 0 => .array .int
  | 1 => .array .int
  | 2 => .array .int
  | 3 => .array .int
  | 4 => .array .int
  | 5 => .int
  | 6 => .int
  | _ => .int
theorem nmX6 : ∀ a, a < 8 → ∀ b, b < 8 → a ≠ b → (TX6 a).2.1 ≠ (TX6 b).2.1 := by decide +kernel
theorem tyX6_ok : ∀ k, k < 8 → parseFieldDescriptor (TX6 k).2.2.1 = some (tyX6 k) := by decide +kernel
theorem inX6 : ∀ w ∈ u_ws RX6 TX6 8, w ∈ dt_tbl := fun w h => dt_in ((show ∀ w ∈ u_ws RX6 TX6 8, w ∈ lw_tbl by decide +kernel) w h) ((show ∀ w ∈ u_ws RX6 TX6 8, goodWord w = true by decide +kernel) w h)
def RX7 : String := "DayTongues$Rows"
def TX7 : u_T := fun k => match k with
  | 0 => ("DayTongues$Rows", "lanes", "[I", true)
  | 1 => ("DayTongues$Rows", "sizes", "[I", true)
  | _ => ("DayTongues$Rows", "items", "[I", true)
def tyX7 : Nat → FieldType := fun k => match k with
  | 0 => .array .int
  | 1 => .array .int
  | _ => .array .int
theorem nmX7 : ∀ a, a < 3 → ∀ b, b < 3 → a ≠ b → (TX7 a).2.1 ≠ (TX7 b).2.1 := by decide +kernel
theorem tyX7_ok : ∀ k, k < 3 → parseFieldDescriptor (TX7 k).2.2.1 = some (tyX7 k) := by decide +kernel
theorem inX7 : ∀ w ∈ u_ws RX7 TX7 3, w ∈ dt_tbl := fun w h => dt_in ((show ∀ w ∈ u_ws RX7 TX7 3, w ∈ lw_tbl by decide +kernel) w h) ((show ∀ w ∈ u_ws RX7 TX7 3, goodWord w = true by decide +kernel) w h)
def RX8 : String := "DayTongues$Sayings"
def TX8 : u_T := fun k => match k with
  | 0 => ("DayTongues$Sayings", "port", "LDayTongues$Port;", true)
  | 1 => ("DayTongues$Sayings", "meant", "[Z", true)
  | 2 => ("DayTongues$Sayings", "before", "[Z", true)
  | 3 => ("DayTongues$Sayings", "alike", "[Z", true)
  | 4 => ("DayTongues$Sayings", "lengths", "[I", true)
  | 5 => ("DayTongues$Sayings", "codes", "[I", true)
  | 6 => ("DayTongues$Sayings", "wholes", "[I", true)
  | _ => ("DayTongues$Sayings", "commons", "[I", true)
def tyX8 : Nat → FieldType := fun k => match k with
  | 0 => .object "DayTongues$Port"
  | 1 => .array .boolean
  | 2 => .array .boolean
  | 3 => .array .boolean
  | 4 => .array .int
  | 5 => .array .int
  | 6 => .array .int
  | _ => .array .int
theorem nmX8 : ∀ a, a < 8 → ∀ b, b < 8 → a ≠ b → (TX8 a).2.1 ≠ (TX8 b).2.1 := by decide +kernel
theorem tyX8_ok : ∀ k, k < 8 → parseFieldDescriptor (TX8 k).2.2.1 = some (tyX8 k) := by decide +kernel
theorem inX8 : ∀ w ∈ u_ws RX8 TX8 8, w ∈ dt_tbl := fun w h => dt_in ((show ∀ w ∈ u_ws RX8 TX8 8, w ∈ lw_tbl by decide +kernel) w h) ((show ∀ w ∈ u_ws RX8 TX8 8, goodWord w = true by decide +kernel) w h)
def RX9 : String := "DayTongues$Tape"
def TX9 : u_T := fun k => match k with
  | 0 => ("DayTongues$Tape", "bytes", "[I", true)
  | 1 => ("DayTongues$Tape", "size", "I", false)
  | 2 => ("DayTongues$Tape", "sort", "I", false)
  | 3 => ("DayTongues$Tape", "begin", "I", false)
  | _ => ("DayTongues$Tape", "end", "I", false)
def tyX9 : Nat → FieldType := fun k => match k with
  | 0 => .array .int
  | 1 => .int
  | 2 => .int
  | 3 => .int
  | _ => .int
theorem nmX9 : ∀ a, a < 5 → ∀ b, b < 5 → a ≠ b → (TX9 a).2.1 ≠ (TX9 b).2.1 := by decide +kernel
theorem tyX9_ok : ∀ k, k < 5 → parseFieldDescriptor (TX9 k).2.2.1 = some (tyX9 k) := by decide +kernel
theorem inX9 : ∀ w ∈ u_ws RX9 TX9 5, w ∈ dt_tbl := fun w h => dt_in ((show ∀ w ∈ u_ws RX9 TX9 5, w ∈ lw_tbl by decide +kernel) w h) ((show ∀ w ∈ u_ws RX9 TX9 5, goodWord w = true by decide +kernel) w h)
def RX10 : String := "DayTongues$Word"
def TX10 : u_T := fun k => match k with
  | 0 => ("DayTongues$Word", "number", "I", true)
  | 1 => ("DayTongues$Word", "readings", "I", true)
  | 2 => ("DayTongues$Word", "steps", "[I", true)
  | _ => ("DayTongues$Word", "taken", "I", false)
def tyX10 : Nat → FieldType := fun k => match k with
  | 0 => .int
  | 1 => .int
  | 2 => .array .int
  | _ => .int
theorem nmX10 : ∀ a, a < 4 → ∀ b, b < 4 → a ≠ b → (TX10 a).2.1 ≠ (TX10 b).2.1 := by decide +kernel
theorem tyX10_ok : ∀ k, k < 4 → parseFieldDescriptor (TX10 k).2.2.1 = some (tyX10 k) := by decide +kernel
theorem inX10 : ∀ w ∈ u_ws RX10 TX10 4, w ∈ dt_tbl := fun w h => dt_in ((show ∀ w ∈ u_ws RX10 TX10 4, w ∈ lw_tbl by decide +kernel) w h) ((show ∀ w ∈ u_ws RX10 TX10 4, goodWord w = true by decide +kernel) w h)
def RX11 : String := "DayTongues"
def TX11 : u_T := fun k => match k with
  | 0 => ("DayTongues", "rows", "LDayTongues$Rows;", true)
  | 1 => ("DayTongues", "tape", "LDayTongues$Tape;", true)
  | 2 => ("DayTongues", "now", "LDayTongues$Port;", true)
  | 3 => ("DayTongues", "read", "LDayTongues$Port;", true)
  | 4 => ("DayTongues", "firstImage", "LDayTongues$Port;", true)
  | 5 => ("DayTongues", "secondImage", "LDayTongues$Port;", true)
  | 6 => ("DayTongues", "sayings", "LDayTongues$Sayings;", true)
  | 7 => ("DayTongues", "people", "LDayTongues$People;", true)
  | 8 => ("DayTongues", "asked", "LDayTongues$Word;", false)
  | 9 => ("DayTongues", "latestFault", "I", false)
  | _ => ("DayTongues", "latestFinding", "I", false)
def tyX11 : Nat → FieldType := fun k => match k with
  | 0 => .object "DayTongues$Rows"
  | 1 => .object "DayTongues$Tape"
  | 2 => .object "DayTongues$Port"
  | 3 => .object "DayTongues$Port"
  | 4 => .object "DayTongues$Port"
  | 5 => .object "DayTongues$Port"
  | 6 => .object "DayTongues$Sayings"
  | 7 => .object "DayTongues$People"
  | 8 => .object "DayTongues$Word"
  | 9 => .int
  | _ => .int
theorem nmX11 : ∀ a, a < 11 → ∀ b, b < 11 → a ≠ b → (TX11 a).2.1 ≠ (TX11 b).2.1 := by decide +kernel
theorem tyX11_ok : ∀ k, k < 11 → parseFieldDescriptor (TX11 k).2.2.1 = some (tyX11 k) := by decide +kernel
theorem inX11 : ∀ w ∈ u_ws RX11 TX11 11, w ∈ dt_tbl := fun w h => dt_in ((show ∀ w ∈ u_ws RX11 TX11 11, w ∈ lw_tbl by decide +kernel) w h) ((show ∀ w ∈ u_ws RX11 TX11 11, goodWord w = true by decide +kernel) w h)
def RX12 : String := "DayTonguesModel"
def TX12 : u_T := fun k => match k with
  | 0 => ("DayTonguesModel", "thrown", "I", false)
  | 1 => ("DayTonguesModel", "status", "I", false)
  | 2 => ("DayTonguesModel", "lane", "[I", true)
  | 3 => ("DayTonguesModel", "many", "[I", true)
  | 4 => ("DayTonguesModel", "item", "[I", true)
  | 5 => ("DayTonguesModel", "port", "[I", true)
  | 6 => ("DayTonguesModel", "fresh", "[I", true)
  | 7 => ("DayTonguesModel", "isThere", "Z", false)
  | 8 => ("DayTonguesModel", "tape", "[I", true)
  | 9 => ("DayTonguesModel", "taped", "I", false)
  | 10 => ("DayTonguesModel", "latest", "I", false)
  | 11 => ("DayTonguesModel", "length", "I", false)
  | 12 => ("DayTonguesModel", "cursor", "I", false)
  | 13 => ("DayTonguesModel", "token", "I", false)
  | 14 => ("DayTonguesModel", "start", "I", false)
  | 15 => ("DayTonguesModel", "till", "I", false)
  | 16 => ("DayTonguesModel", "fault", "I", false)
  | 17 => ("DayTonguesModel", "faultAt", "I", false)
  | 18 => ("DayTonguesModel", "drawn", "J", false)
  | 19 => ("DayTonguesModel", "may", "[Z", true)
  | 20 => ("DayTonguesModel", "mayThen", "[Z", true)
  | 21 => ("DayTonguesModel", "far", "[I", true)
  | 22 => ("DayTonguesModel", "saying", "[I", true)
  | 23 => ("DayTonguesModel", "alike", "[Z", true)
  | 24 => ("DayTonguesModel", "cursorAt", "I", false)
  | 25 => ("DayTonguesModel", "bar", "I", false)
  | 26 => ("DayTonguesModel", "isKept", "[Z", true)
  | 27 => ("DayTonguesModel", "kept", "[I", true)
  | 28 => ("DayTonguesModel", "trace", "[I", true)
  | _ => ("DayTonguesModel", "traced", "I", false)
def tyX12 : Nat → FieldType := fun k => match k with
  | 0 => .int
  | 1 => .int
  | 2 => .array .int
  | 3 => .array .int
  | 4 => .array .int
  | 5 => .array .int
  | 6 => .array .int
  | 7 => .boolean
  | 8 => .array .int
  | 9 => .int
  | 10 => .int
  | 11 => .int
  | 12 => .int
  | 13 => .int
  | 14 => .int
  | 15 => .int
  | 16 => .int
  | 17 => .int
  | 18 => .long
  | 19 => .array .boolean
  | 20 => .array .boolean
  | 21 => .array .int
  | 22 => .array .int
  | 23 => .array .boolean
  | 24 => .int
  | 25 => .int
  | 26 => .array .boolean
  | 27 => .array .int
  | 28 => .array .int
  | _ => .int
theorem nmX12 : ∀ a, a < 30 → ∀ b, b < 30 → a ≠ b → (TX12 a).2.1 ≠ (TX12 b).2.1 := by decide +kernel
theorem tyX12_ok : ∀ k, k < 30 → parseFieldDescriptor (TX12 k).2.2.1 = some (tyX12 k) := by decide +kernel
theorem inX12 : ∀ w ∈ u_ws RX12 TX12 30, w ∈ dt_tbl := fun w h => dt_in ((show ∀ w ∈ u_ws RX12 TX12 30, w ∈ lw_tbl by decide +kernel) w h) ((show ∀ w ∈ u_ws RX12 TX12 30, goodWord w = true by decide +kernel) w h)
def dt_cls : List vw_C := [(RX0, TX0, 5), (RX1, TX1, 5), (RX2, TX2, 5), (RX3, TX3, 5), (RX4, TX4, 1), (RX5, TX5, 5), (RX6, TX6, 8), (RX7, TX7, 3), (RX8, TX8, 8), (RX9, TX9, 5), (RX10, TX10, 4), (RX11, TX11, 11), (RX12, TX12, 30)]
def dt_ty : Nat → Nat → FieldType := fun c => match c with
  | 0 => tyX0
  | 1 => tyX1
  | 2 => tyX2
  | 3 => tyX3
  | 4 => tyX4
  | 5 => tyX5
  | 6 => tyX6
  | 7 => tyX7
  | 8 => tyX8
  | 9 => tyX9
  | 10 => tyX10
  | 11 => tyX11
  | _ => tyX12
/-- what the tables say of class ci with N fields -/
def dt_clok (ci : Nat) (q : vw_C) : Prop := (∀ a, a < q.2.2 → ∀ b, b < q.2.2 → a ≠ b → (q.2.1 a).2.1 ≠ (q.2.1 b).2.1) ∧ (∀ k, k < q.2.2 → parseFieldDescriptor (q.2.1 k).2.2.1 = some (dt_ty ci k)) ∧ (∀ w ∈ u_ws q.1 q.2.1 q.2.2, w ∈ dt_tbl)
theorem dt_clok_of : ∀ (ci : Nat) (q : vw_C), dt_cls[ci]? = some q → dt_clok ci q := by
  intro ci q h
  match ci, h with
  | 0, h => cases h; exact ⟨nmX0, tyX0_ok, inX0⟩
  | 1, h => cases h; exact ⟨nmX1, tyX1_ok, inX1⟩
  | 2, h => cases h; exact ⟨nmX2, tyX2_ok, inX2⟩
  | 3, h => cases h; exact ⟨nmX3, tyX3_ok, inX3⟩
  | 4, h => cases h; exact ⟨nmX4, tyX4_ok, inX4⟩
  | 5, h => cases h; exact ⟨nmX5, tyX5_ok, inX5⟩
  | 6, h => cases h; exact ⟨nmX6, tyX6_ok, inX6⟩
  | 7, h => cases h; exact ⟨nmX7, tyX7_ok, inX7⟩
  | 8, h => cases h; exact ⟨nmX8, tyX8_ok, inX8⟩
  | 9, h => cases h; exact ⟨nmX9, tyX9_ok, inX9⟩
  | 10, h => cases h; exact ⟨nmX10, tyX10_ok, inX10⟩
  | 11, h => cases h; exact ⟨nmX11, tyX11_ok, inX11⟩
  | 12, h => cases h; exact ⟨nmX12, tyX12_ok, inX12⟩
  | n + 13, h => exact absurd h (by simp [dt_cls])
