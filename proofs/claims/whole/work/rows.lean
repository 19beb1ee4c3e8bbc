section
-- ===== PART A: goes FIRST, ahead of the names: the tables' words, and 'selects' of the private methods out of them =====
/-- a private method of a class that the tables say can be made, by its rows of tables_1 -/
def lw_okq (q : MethodName × Nat) : Prop := (q.1.cls ≠ "java/lang/invoke/MethodHandle" ∧ q.1.cls ≠ "java/lang/invoke/VarHandle") ∧ Cond.instantiable q.1.cls q.2 ∈ tables_1 ∧ Cond.privateMethod q.1 ∈ tables_1 ∧ Cond.instanceMethod q.1 ∈ tables_1
theorem lw_p0 : lw_okq (⟨"DayTongues", "found", "(I)I"⟩, 11) := ⟨⟨by decide +kernel, by decide +kernel⟩, List.mem_of_getElem? (i := 22) (by decide +kernel), List.mem_of_getElem? (i := 191) (by decide +kernel), List.mem_of_getElem? (i := 192) (by decide +kernel)⟩
theorem lw_p1 : lw_okq (⟨"DayTongues", "well", "(I)I"⟩, 11) := ⟨⟨by decide +kernel, by decide +kernel⟩, List.mem_of_getElem? (i := 22) (by decide +kernel), List.mem_of_getElem? (i := 201) (by decide +kernel), List.mem_of_getElem? (i := 202) (by decide +kernel)⟩
theorem lw_p2 : lw_okq (⟨"DayTongues$Tape", "next", "()V"⟩, 5) := ⟨⟨by decide +kernel, by decide +kernel⟩, List.mem_of_getElem? (i := 47) (by decide +kernel), List.mem_of_getElem? (i := 278) (by decide +kernel), List.mem_of_getElem? (i := 279) (by decide +kernel)⟩
theorem lw_p3 : lw_okq (⟨"DayTongues$Tape", "at", "(I)I"⟩, 5) := ⟨⟨by decide +kernel, by decide +kernel⟩, List.mem_of_getElem? (i := 47) (by decide +kernel), List.mem_of_getElem? (i := 282) (by decide +kernel), List.mem_of_getElem? (i := 283) (by decide +kernel)⟩
theorem lw_p4 : lw_okq (⟨"DayTongues$Tape", "isName", "(Ljava/lang/String;)Z"⟩, 5) := ⟨⟨by decide +kernel, by decide +kernel⟩, List.mem_of_getElem? (i := 47) (by decide +kernel), List.mem_of_getElem? (i := 296) (by decide +kernel), List.mem_of_getElem? (i := 297) (by decide +kernel)⟩
theorem lw_p5 : lw_okq (⟨"DayTongues$Tape", "readTongue", "(LDayTongues$Port;)I"⟩, 5) := ⟨⟨by decide +kernel, by decide +kernel⟩, List.mem_of_getElem? (i := 47) (by decide +kernel), List.mem_of_getElem? (i := 348) (by decide +kernel), List.mem_of_getElem? (i := 349) (by decide +kernel)⟩
theorem lw_p6 : lw_okq (⟨"DayTongues$Tape", "readSemicolon", "()I"⟩, 5) := ⟨⟨by decide +kernel, by decide +kernel⟩, List.mem_of_getElem? (i := 47) (by decide +kernel), List.mem_of_getElem? (i := 360) (by decide +kernel), List.mem_of_getElem? (i := 361) (by decide +kernel)⟩
theorem lw_p7 : lw_okq (⟨"DayTongues$Tape", "readWord", "(LDayTongues$Port;)I"⟩, 5) := ⟨⟨by decide +kernel, by decide +kernel⟩, List.mem_of_getElem? (i := 47) (by decide +kernel), List.mem_of_getElem? (i := 365) (by decide +kernel), List.mem_of_getElem? (i := 366) (by decide +kernel)⟩
theorem lw_p8 : lw_okq (⟨"DayTongues$Tape", "kindTold", "()I"⟩, 5) := ⟨⟨by decide +kernel, by decide +kernel⟩, List.mem_of_getElem? (i := 47) (by decide +kernel), List.mem_of_getElem? (i := 377) (by decide +kernel), List.mem_of_getElem? (i := 378) (by decide +kernel)⟩
theorem lw_p9 : lw_okq (⟨"DayTongues$Tape", "readReadings", "(LDayTongues$Port;II)I"⟩, 5) := ⟨⟨by decide +kernel, by decide +kernel⟩, List.mem_of_getElem? (i := 47) (by decide +kernel), List.mem_of_getElem? (i := 399) (by decide +kernel), List.mem_of_getElem? (i := 400) (by decide +kernel)⟩
theorem lw_p10 : lw_okq (⟨"DayTongues$Tape", "number", "()I"⟩, 5) := ⟨⟨by decide +kernel, by decide +kernel⟩, List.mem_of_getElem? (i := 47) (by decide +kernel), List.mem_of_getElem? (i := 403) (by decide +kernel), List.mem_of_getElem? (i := 404) (by decide +kernel)⟩
theorem lw_p11 : lw_okq (⟨"DayTongues$Tape", "readPerson", "(LDayTongues$Port;)I"⟩, 5) := ⟨⟨by decide +kernel, by decide +kernel⟩, List.mem_of_getElem? (i := 47) (by decide +kernel), List.mem_of_getElem? (i := 417) (by decide +kernel), List.mem_of_getElem? (i := 418) (by decide +kernel)⟩
theorem lw_p12 : lw_okq (⟨"DayTongues", "hasNoPort", "()Z"⟩, 11) := ⟨⟨by decide +kernel, by decide +kernel⟩, List.mem_of_getElem? (i := 22) (by decide +kernel), List.mem_of_getElem? (i := 450) (by decide +kernel), List.mem_of_getElem? (i := 451) (by decide +kernel)⟩
theorem lw_p13 : lw_okq (⟨"DayTongues$Port", "passYear", "(I)I"⟩, 8) := ⟨⟨by decide +kernel, by decide +kernel⟩, List.mem_of_getElem? (i := 73) (by decide +kernel), List.mem_of_getElem? (i := 464) (by decide +kernel), List.mem_of_getElem? (i := 465) (by decide +kernel)⟩
theorem lw_p14 : lw_okq (⟨"DayTongues$Port", "turn", "(IIII)V"⟩, 8) := ⟨⟨by decide +kernel, by decide +kernel⟩, List.mem_of_getElem? (i := 73) (by decide +kernel), List.mem_of_getElem? (i := 480) (by decide +kernel), List.mem_of_getElem? (i := 481) (by decide +kernel)⟩
theorem lw_p15 : lw_okq (⟨"DayTongues$Port", "hasReading", "(III)Z"⟩, 8) := ⟨⟨by decide +kernel, by decide +kernel⟩, List.mem_of_getElem? (i := 73) (by decide +kernel), List.mem_of_getElem? (i := 488) (by decide +kernel), List.mem_of_getElem? (i := 489) (by decide +kernel)⟩
def lw_privs_1 : List (MethodName × Nat) := [(⟨"DayTongues", "found", "(I)I"⟩, 11), (⟨"DayTongues", "well", "(I)I"⟩, 11), (⟨"DayTongues$Tape", "next", "()V"⟩, 5), (⟨"DayTongues$Tape", "at", "(I)I"⟩, 5), (⟨"DayTongues$Tape", "isName", "(Ljava/lang/String;)Z"⟩, 5), (⟨"DayTongues$Tape", "readTongue", "(LDayTongues$Port;)I"⟩, 5), (⟨"DayTongues$Tape", "readSemicolon", "()I"⟩, 5), (⟨"DayTongues$Tape", "readWord", "(LDayTongues$Port;)I"⟩, 5), (⟨"DayTongues$Tape", "kindTold", "()I"⟩, 5), (⟨"DayTongues$Tape", "readReadings", "(LDayTongues$Port;II)I"⟩, 5), (⟨"DayTongues$Tape", "number", "()I"⟩, 5), (⟨"DayTongues$Tape", "readPerson", "(LDayTongues$Port;)I"⟩, 5), (⟨"DayTongues", "hasNoPort", "()Z"⟩, 11), (⟨"DayTongues$Port", "passYear", "(I)I"⟩, 8), (⟨"DayTongues$Port", "turn", "(IIII)V"⟩, 8), (⟨"DayTongues$Port", "hasReading", "(III)Z"⟩, 8)]
theorem lw_r1 : ∀ q ∈ lw_privs_1, lw_okq q := List.forall_mem_cons.mpr ⟨lw_p0, List.forall_mem_cons.mpr ⟨lw_p1, List.forall_mem_cons.mpr ⟨lw_p2, List.forall_mem_cons.mpr ⟨lw_p3, List.forall_mem_cons.mpr ⟨lw_p4, List.forall_mem_cons.mpr ⟨lw_p5, List.forall_mem_cons.mpr ⟨lw_p6, List.forall_mem_cons.mpr ⟨lw_p7, List.forall_mem_cons.mpr ⟨lw_p8, List.forall_mem_cons.mpr ⟨lw_p9, List.forall_mem_cons.mpr ⟨lw_p10, List.forall_mem_cons.mpr ⟨lw_p11, List.forall_mem_cons.mpr ⟨lw_p12, List.forall_mem_cons.mpr ⟨lw_p13, List.forall_mem_cons.mpr ⟨lw_p14, List.forall_mem_cons.mpr ⟨lw_p15, fun _ h => absurd h List.not_mem_nil⟩⟩⟩⟩⟩⟩⟩⟩⟩⟩⟩⟩⟩⟩⟩⟩
theorem lw_p16 : lw_okq (⟨"DayTongues", "isSaid", "(IIII)Z"⟩, 11) := ⟨⟨by decide +kernel, by decide +kernel⟩, List.mem_of_getElem? (i := 22) (by decide +kernel), List.mem_of_getElem? (i := 535) (by decide +kernel), List.mem_of_getElem? (i := 536) (by decide +kernel)⟩
theorem lw_p17 : lw_okq (⟨"DayTongues$Sayings", "reach", "(IIZ)V"⟩, 8) := ⟨⟨by decide +kernel, by decide +kernel⟩, List.mem_of_getElem? (i := 104) (by decide +kernel), List.mem_of_getElem? (i := 576) (by decide +kernel), List.mem_of_getElem? (i := 577) (by decide +kernel)⟩
theorem lw_p18 : lw_okq (⟨"DayTongues$Sayings", "goOnSurely", "(IIII)V"⟩, 8) := ⟨⟨by decide +kernel, by decide +kernel⟩, List.mem_of_getElem? (i := 104) (by decide +kernel), List.mem_of_getElem? (i := 581) (by decide +kernel), List.mem_of_getElem? (i := 582) (by decide +kernel)⟩
theorem lw_p19 : lw_okq (⟨"DayTongues$Sayings", "goOn", "(III)V"⟩, 8) := ⟨⟨by decide +kernel, by decide +kernel⟩, List.mem_of_getElem? (i := 104) (by decide +kernel), List.mem_of_getElem? (i := 593) (by decide +kernel), List.mem_of_getElem? (i := 594) (by decide +kernel)⟩
theorem lw_p20 : lw_okq (⟨"DayTongues$Sayings", "offer", "(III)V"⟩, 8) := ⟨⟨by decide +kernel, by decide +kernel⟩, List.mem_of_getElem? (i := 104) (by decide +kernel), List.mem_of_getElem? (i := 597) (by decide +kernel), List.mem_of_getElem? (i := 598) (by decide +kernel)⟩
theorem lw_p21 : lw_okq (⟨"DayTongues$Sayings", "goOnPerhaps", "(III)V"⟩, 8) := ⟨⟨by decide +kernel, by decide +kernel⟩, List.mem_of_getElem? (i := 104) (by decide +kernel), List.mem_of_getElem? (i := 601) (by decide +kernel), List.mem_of_getElem? (i := 602) (by decide +kernel)⟩
theorem lw_p22 : lw_okq (⟨"DayTongues$Sayings", "addToAll", "(I)V"⟩, 8) := ⟨⟨by decide +kernel, by decide +kernel⟩, List.mem_of_getElem? (i := 104) (by decide +kernel), List.mem_of_getElem? (i := 614) (by decide +kernel), List.mem_of_getElem? (i := 615) (by decide +kernel)⟩
theorem lw_p23 : lw_okq (⟨"DayTongues", "refusalOfSaying", "(II)I"⟩, 11) := ⟨⟨by decide +kernel, by decide +kernel⟩, List.mem_of_getElem? (i := 22) (by decide +kernel), List.mem_of_getElem? (i := 633) (by decide +kernel), List.mem_of_getElem? (i := 634) (by decide +kernel)⟩
theorem lw_p24 : lw_okq (⟨"DayTongues$People", "passedOn", "(III)I"⟩, 1) := ⟨⟨by decide +kernel, by decide +kernel⟩, List.mem_of_getElem? (i := 136) (by decide +kernel), List.mem_of_getElem? (i := 656) (by decide +kernel), List.mem_of_getElem? (i := 657) (by decide +kernel)⟩
theorem lw_p25 : lw_okq (⟨"DayTongues$People", "isWeekDealt", "(I)Z"⟩, 1) := ⟨⟨by decide +kernel, by decide +kernel⟩, List.mem_of_getElem? (i := 136) (by decide +kernel), List.mem_of_getElem? (i := 676) (by decide +kernel), List.mem_of_getElem? (i := 677) (by decide +kernel)⟩
theorem lw_p26 : lw_okq (⟨"DayTongues$People", "heardInTheEnd", "(II)I"⟩, 1) := ⟨⟨by decide +kernel, by decide +kernel⟩, List.mem_of_getElem? (i := 136) (by decide +kernel), List.mem_of_getElem? (i := 681) (by decide +kernel), List.mem_of_getElem? (i := 682) (by decide +kernel)⟩
theorem lw_p27 : lw_okq (⟨"DayTongues", "tonguesOf", "(IIII)I"⟩, 11) := ⟨⟨by decide +kernel, by decide +kernel⟩, List.mem_of_getElem? (i := 22) (by decide +kernel), List.mem_of_getElem? (i := 700) (by decide +kernel), List.mem_of_getElem? (i := 701) (by decide +kernel)⟩
theorem lw_p28 : lw_okq (⟨"DayTongues", "imageOf", "(I)LDayTongues$Port;"⟩, 11) := ⟨⟨by decide +kernel, by decide +kernel⟩, List.mem_of_getElem? (i := 22) (by decide +kernel), List.mem_of_getElem? (i := 712) (by decide +kernel), List.mem_of_getElem? (i := 713) (by decide +kernel)⟩
theorem lw_p29 : lw_okq (⟨"DayTongues", "wordToAsk", "(II)LDayTongues$Word;"⟩, 11) := ⟨⟨by decide +kernel, by decide +kernel⟩, List.mem_of_getElem? (i := 22) (by decide +kernel), List.mem_of_getElem? (i := 732) (by decide +kernel), List.mem_of_getElem? (i := 733) (by decide +kernel)⟩
theorem lw_p30 : lw_okq (⟨"DayTonguesModel", "finding", "(I)I"⟩, 30) := ⟨⟨by decide +kernel, by decide +kernel⟩, List.mem_of_getElem? (i := 935) (by decide +kernel), List.mem_of_getElem? (i := 1045) (by decide +kernel), List.mem_of_getElem? (i := 1046) (by decide +kernel)⟩
theorem lw_p31 : lw_okq (⟨"DayTonguesModel", "begin", "()V"⟩, 30) := ⟨⟨by decide +kernel, by decide +kernel⟩, List.mem_of_getElem? (i := 935) (by decide +kernel), List.mem_of_getElem? (i := 1073) (by decide +kernel), List.mem_of_getElem? (i := 1074) (by decide +kernel)⟩
def lw_privs_2 : List (MethodName × Nat) := [(⟨"DayTongues", "isSaid", "(IIII)Z"⟩, 11), (⟨"DayTongues$Sayings", "reach", "(IIZ)V"⟩, 8), (⟨"DayTongues$Sayings", "goOnSurely", "(IIII)V"⟩, 8), (⟨"DayTongues$Sayings", "goOn", "(III)V"⟩, 8), (⟨"DayTongues$Sayings", "offer", "(III)V"⟩, 8), (⟨"DayTongues$Sayings", "goOnPerhaps", "(III)V"⟩, 8), (⟨"DayTongues$Sayings", "addToAll", "(I)V"⟩, 8), (⟨"DayTongues", "refusalOfSaying", "(II)I"⟩, 11), (⟨"DayTongues$People", "passedOn", "(III)I"⟩, 1), (⟨"DayTongues$People", "isWeekDealt", "(I)Z"⟩, 1), (⟨"DayTongues$People", "heardInTheEnd", "(II)I"⟩, 1), (⟨"DayTongues", "tonguesOf", "(IIII)I"⟩, 11), (⟨"DayTongues", "imageOf", "(I)LDayTongues$Port;"⟩, 11), (⟨"DayTongues", "wordToAsk", "(II)LDayTongues$Word;"⟩, 11), (⟨"DayTonguesModel", "finding", "(I)I"⟩, 30), (⟨"DayTonguesModel", "begin", "()V"⟩, 30)]
theorem lw_r2 : ∀ q ∈ lw_privs_2, lw_okq q := List.forall_mem_cons.mpr ⟨lw_p16, List.forall_mem_cons.mpr ⟨lw_p17, List.forall_mem_cons.mpr ⟨lw_p18, List.forall_mem_cons.mpr ⟨lw_p19, List.forall_mem_cons.mpr ⟨lw_p20, List.forall_mem_cons.mpr ⟨lw_p21, List.forall_mem_cons.mpr ⟨lw_p22, List.forall_mem_cons.mpr ⟨lw_p23, List.forall_mem_cons.mpr ⟨lw_p24, List.forall_mem_cons.mpr ⟨lw_p25, List.forall_mem_cons.mpr ⟨lw_p26, List.forall_mem_cons.mpr ⟨lw_p27, List.forall_mem_cons.mpr ⟨lw_p28, List.forall_mem_cons.mpr ⟨lw_p29, List.forall_mem_cons.mpr ⟨lw_p30, List.forall_mem_cons.mpr ⟨lw_p31, fun _ h => absurd h List.not_mem_nil⟩⟩⟩⟩⟩⟩⟩⟩⟩⟩⟩⟩⟩⟩⟩⟩
theorem lw_p32 : lw_okq (⟨"DayTonguesModel", "next", "()V"⟩, 30) := ⟨⟨by decide +kernel, by decide +kernel⟩, List.mem_of_getElem? (i := 935) (by decide +kernel), List.mem_of_getElem? (i := 1077) (by decide +kernel), List.mem_of_getElem? (i := 1078) (by decide +kernel)⟩
theorem lw_p33 : lw_okq (⟨"DayTonguesModel", "byteAt", "(I)I"⟩, 30) := ⟨⟨by decide +kernel, by decide +kernel⟩, List.mem_of_getElem? (i := 935) (by decide +kernel), List.mem_of_getElem? (i := 1081) (by decide +kernel), List.mem_of_getElem? (i := 1082) (by decide +kernel)⟩
theorem lw_p34 : lw_okq (⟨"DayTonguesModel", "name", "()J"⟩, 30) := ⟨⟨by decide +kernel, by decide +kernel⟩, List.mem_of_getElem? (i := 935) (by decide +kernel), List.mem_of_getElem? (i := 1092) (by decide +kernel), List.mem_of_getElem? (i := 1093) (by decide +kernel)⟩
theorem lw_p35 : lw_okq (⟨"DayTonguesModel", "bad", "(I)V"⟩, 30) := ⟨⟨by decide +kernel, by decide +kernel⟩, List.mem_of_getElem? (i := 935) (by decide +kernel), List.mem_of_getElem? (i := 1097) (by decide +kernel), List.mem_of_getElem? (i := 1098) (by decide +kernel)⟩
theorem lw_p36 : lw_okq (⟨"DayTonguesModel", "readTongue", "()V"⟩, 30) := ⟨⟨by decide +kernel, by decide +kernel⟩, List.mem_of_getElem? (i := 935) (by decide +kernel), List.mem_of_getElem? (i := 1101) (by decide +kernel), List.mem_of_getElem? (i := 1102) (by decide +kernel)⟩
theorem lw_p37 : lw_okq (⟨"DayTonguesModel", "must", "(Z)V"⟩, 30) := ⟨⟨by decide +kernel, by decide +kernel⟩, List.mem_of_getElem? (i := 935) (by decide +kernel), List.mem_of_getElem? (i := 1105) (by decide +kernel), List.mem_of_getElem? (i := 1106) (by decide +kernel)⟩
theorem lw_p38 : lw_okq (⟨"DayTonguesModel", "mustEnd", "()V"⟩, 30) := ⟨⟨by decide +kernel, by decide +kernel⟩, List.mem_of_getElem? (i := 935) (by decide +kernel), List.mem_of_getElem? (i := 1109) (by decide +kernel), List.mem_of_getElem? (i := 1110) (by decide +kernel)⟩
theorem lw_p39 : lw_okq (⟨"DayTonguesModel", "readWord", "()V"⟩, 30) := ⟨⟨by decide +kernel, by decide +kernel⟩, List.mem_of_getElem? (i := 935) (by decide +kernel), List.mem_of_getElem? (i := 1114) (by decide +kernel), List.mem_of_getElem? (i := 1115) (by decide +kernel)⟩
theorem lw_p40 : lw_okq (⟨"DayTonguesModel", "number", "(II)I"⟩, 30) := ⟨⟨by decide +kernel, by decide +kernel⟩, List.mem_of_getElem? (i := 935) (by decide +kernel), List.mem_of_getElem? (i := 1126) (by decide +kernel), List.mem_of_getElem? (i := 1127) (by decide +kernel)⟩
theorem lw_p41 : lw_okq (⟨"DayTonguesModel", "figures", "()I"⟩, 30) := ⟨⟨by decide +kernel, by decide +kernel⟩, List.mem_of_getElem? (i := 935) (by decide +kernel), List.mem_of_getElem? (i := 1130) (by decide +kernel), List.mem_of_getElem? (i := 1131) (by decide +kernel)⟩
theorem lw_p42 : lw_okq (⟨"DayTonguesModel", "readPerson", "()V"⟩, 30) := ⟨⟨by decide +kernel, by decide +kernel⟩, List.mem_of_getElem? (i := 935) (by decide +kernel), List.mem_of_getElem? (i := 1135) (by decide +kernel), List.mem_of_getElem? (i := 1136) (by decide +kernel)⟩
theorem lw_p43 : lw_okq (⟨"DayTonguesModel", "year", "()V"⟩, 30) := ⟨⟨by decide +kernel, by decide +kernel⟩, List.mem_of_getElem? (i := 935) (by decide +kernel), List.mem_of_getElem? (i := 1151) (by decide +kernel), List.mem_of_getElem? (i := 1152) (by decide +kernel)⟩
theorem lw_p44 : lw_okq (⟨"DayTonguesModel", "draw", "(I)I"⟩, 30) := ⟨⟨by decide +kernel, by decide +kernel⟩, List.mem_of_getElem? (i := 935) (by decide +kernel), List.mem_of_getElem? (i := 1155) (by decide +kernel), List.mem_of_getElem? (i := 1156) (by decide +kernel)⟩
theorem lw_p45 : lw_okq (⟨"DayTonguesModel", "readings", "(II)I"⟩, 30) := ⟨⟨by decide +kernel, by decide +kernel⟩, List.mem_of_getElem? (i := 935) (by decide +kernel), List.mem_of_getElem? (i := 1161) (by decide +kernel), List.mem_of_getElem? (i := 1162) (by decide +kernel)⟩
theorem lw_p46 : lw_okq (⟨"DayTonguesModel", "reading", "(III)I"⟩, 30) := ⟨⟨by decide +kernel, by decide +kernel⟩, List.mem_of_getElem? (i := 935) (by decide +kernel), List.mem_of_getElem? (i := 1165) (by decide +kernel), List.mem_of_getElem? (i := 1166) (by decide +kernel)⟩
theorem lw_p47 : lw_okq (⟨"DayTonguesModel", "isWord", "(II)Z"⟩, 30) := ⟨⟨by decide +kernel, by decide +kernel⟩, List.mem_of_getElem? (i := 935) (by decide +kernel), List.mem_of_getElem? (i := 1173) (by decide +kernel), List.mem_of_getElem? (i := 1174) (by decide +kernel)⟩
def lw_privs_3 : List (MethodName × Nat) := [(⟨"DayTonguesModel", "next", "()V"⟩, 30), (⟨"DayTonguesModel", "byteAt", "(I)I"⟩, 30), (⟨"DayTonguesModel", "name", "()J"⟩, 30), (⟨"DayTonguesModel", "bad", "(I)V"⟩, 30), (⟨"DayTonguesModel", "readTongue", "()V"⟩, 30), (⟨"DayTonguesModel", "must", "(Z)V"⟩, 30), (⟨"DayTonguesModel", "mustEnd", "()V"⟩, 30), (⟨"DayTonguesModel", "readWord", "()V"⟩, 30), (⟨"DayTonguesModel", "number", "(II)I"⟩, 30), (⟨"DayTonguesModel", "figures", "()I"⟩, 30), (⟨"DayTonguesModel", "readPerson", "()V"⟩, 30), (⟨"DayTonguesModel", "year", "()V"⟩, 30), (⟨"DayTonguesModel", "draw", "(I)I"⟩, 30), (⟨"DayTonguesModel", "readings", "(II)I"⟩, 30), (⟨"DayTonguesModel", "reading", "(III)I"⟩, 30), (⟨"DayTonguesModel", "isWord", "(II)Z"⟩, 30)]
theorem lw_r3 : ∀ q ∈ lw_privs_3, lw_okq q := List.forall_mem_cons.mpr ⟨lw_p32, List.forall_mem_cons.mpr ⟨lw_p33, List.forall_mem_cons.mpr ⟨lw_p34, List.forall_mem_cons.mpr ⟨lw_p35, List.forall_mem_cons.mpr ⟨lw_p36, List.forall_mem_cons.mpr ⟨lw_p37, List.forall_mem_cons.mpr ⟨lw_p38, List.forall_mem_cons.mpr ⟨lw_p39, List.forall_mem_cons.mpr ⟨lw_p40, List.forall_mem_cons.mpr ⟨lw_p41, List.forall_mem_cons.mpr ⟨lw_p42, List.forall_mem_cons.mpr ⟨lw_p43, List.forall_mem_cons.mpr ⟨lw_p44, List.forall_mem_cons.mpr ⟨lw_p45, List.forall_mem_cons.mpr ⟨lw_p46, List.forall_mem_cons.mpr ⟨lw_p47, fun _ h => absurd h List.not_mem_nil⟩⟩⟩⟩⟩⟩⟩⟩⟩⟩⟩⟩⟩⟩⟩⟩
theorem lw_p48 : lw_okq (⟨"DayTonguesModel", "isTongue", "(I)Z"⟩, 30) := ⟨⟨by decide +kernel, by decide +kernel⟩, List.mem_of_getElem? (i := 935) (by decide +kernel), List.mem_of_getElem? (i := 1177) (by decide +kernel), List.mem_of_getElem? (i := 1178) (by decide +kernel)⟩
theorem lw_p49 : lw_okq (⟨"DayTonguesModel", "isOne", "(I)Z"⟩, 30) := ⟨⟨by decide +kernel, by decide +kernel⟩, List.mem_of_getElem? (i := 935) (by decide +kernel), List.mem_of_getElem? (i := 1190) (by decide +kernel), List.mem_of_getElem? (i := 1191) (by decide +kernel)⟩
theorem lw_p50 : lw_okq (⟨"DayTonguesModel", "lack", "(III)I"⟩, 30) := ⟨⟨by decide +kernel, by decide +kernel⟩, List.mem_of_getElem? (i := 935) (by decide +kernel), List.mem_of_getElem? (i := 1203) (by decide +kernel), List.mem_of_getElem? (i := 1204) (by decide +kernel)⟩
theorem lw_p51 : lw_okq (⟨"DayTonguesModel", "tongueOf", "(I)I"⟩, 30) := ⟨⟨by decide +kernel, by decide +kernel⟩, List.mem_of_getElem? (i := 935) (by decide +kernel), List.mem_of_getElem? (i := 1207) (by decide +kernel), List.mem_of_getElem? (i := 1208) (by decide +kernel)⟩
theorem lw_p52 : lw_okq (⟨"DayTonguesModel", "startMeaning", "()V"⟩, 30) := ⟨⟨by decide +kernel, by decide +kernel⟩, List.mem_of_getElem? (i := 935) (by decide +kernel), List.mem_of_getElem? (i := 1211) (by decide +kernel), List.mem_of_getElem? (i := 1212) (by decide +kernel)⟩
theorem lw_p53 : lw_okq (⟨"DayTonguesModel", "mean", "(II)V"⟩, 30) := ⟨⟨by decide +kernel, by decide +kernel⟩, List.mem_of_getElem? (i := 935) (by decide +kernel), List.mem_of_getElem? (i := 1215) (by decide +kernel), List.mem_of_getElem? (i := 1216) (by decide +kernel)⟩
theorem lw_p54 : lw_okq (⟨"DayTonguesModel", "marked", "([ZI)I"⟩, 30) := ⟨⟨by decide +kernel, by decide +kernel⟩, List.mem_of_getElem? (i := 935) (by decide +kernel), List.mem_of_getElem? (i := 1219) (by decide +kernel), List.mem_of_getElem? (i := 1220) (by decide +kernel)⟩
theorem lw_p55 : lw_okq (⟨"DayTonguesModel", "layFar", "(IIZ)V"⟩, 30) := ⟨⟨by decide +kernel, by decide +kernel⟩, List.mem_of_getElem? (i := 935) (by decide +kernel), List.mem_of_getElem? (i := 1227) (by decide +kernel), List.mem_of_getElem? (i := 1228) (by decide +kernel)⟩
theorem lw_p56 : lw_okq (⟨"DayTonguesModel", "waysOf", "(IIIZ)I"⟩, 30) := ⟨⟨by decide +kernel, by decide +kernel⟩, List.mem_of_getElem? (i := 935) (by decide +kernel), List.mem_of_getElem? (i := 1231) (by decide +kernel), List.mem_of_getElem? (i := 1232) (by decide +kernel)⟩
theorem lw_p57 : lw_okq (⟨"DayTonguesModel", "isWithin", "(III)Z"⟩, 30) := ⟨⟨by decide +kernel, by decide +kernel⟩, List.mem_of_getElem? (i := 935) (by decide +kernel), List.mem_of_getElem? (i := 1235) (by decide +kernel), List.mem_of_getElem? (i := 1236) (by decide +kernel)⟩
theorem lw_p58 : lw_okq (⟨"DayTonguesModel", "onBy", "(IIIZ)I"⟩, 30) := ⟨⟨by decide +kernel, by decide +kernel⟩, List.mem_of_getElem? (i := 935) (by decide +kernel), List.mem_of_getElem? (i := 1239) (by decide +kernel), List.mem_of_getElem? (i := 1240) (by decide +kernel)⟩
theorem lw_p59 : lw_okq (⟨"DayTonguesModel", "common", "(II)I"⟩, 30) := ⟨⟨by decide +kernel, by decide +kernel⟩, List.mem_of_getElem? (i := 935) (by decide +kernel), List.mem_of_getElem? (i := 1243) (by decide +kernel), List.mem_of_getElem? (i := 1244) (by decide +kernel)⟩
theorem lw_p60 : lw_okq (⟨"DayTonguesModel", "laySaying", "(IIZ)V"⟩, 30) := ⟨⟨by decide +kernel, by decide +kernel⟩, List.mem_of_getElem? (i := 935) (by decide +kernel), List.mem_of_getElem? (i := 1247) (by decide +kernel), List.mem_of_getElem? (i := 1248) (by decide +kernel)⟩
theorem lw_p61 : lw_okq (⟨"DayTonguesModel", "takesOn", "(IIIZI)Z"⟩, 30) := ⟨⟨by decide +kernel, by decide +kernel⟩, List.mem_of_getElem? (i := 935) (by decide +kernel), List.mem_of_getElem? (i := 1251) (by decide +kernel), List.mem_of_getElem? (i := 1252) (by decide +kernel)⟩
theorem lw_p62 : lw_okq (⟨"DayTonguesModel", "said", "(IZ)I"⟩, 30) := ⟨⟨by decide +kernel, by decide +kernel⟩, List.mem_of_getElem? (i := 935) (by decide +kernel), List.mem_of_getElem? (i := 1259) (by decide +kernel), List.mem_of_getElem? (i := 1260) (by decide +kernel)⟩
theorem lw_p63 : lw_okq (⟨"DayTonguesModel", "oneSaying", "(I)V"⟩, 30) := ⟨⟨by decide +kernel, by decide +kernel⟩, List.mem_of_getElem? (i := 935) (by decide +kernel), List.mem_of_getElem? (i := 1268) (by decide +kernel), List.mem_of_getElem? (i := 1269) (by decide +kernel)⟩
def lw_privs_4 : List (MethodName × Nat) := [(⟨"DayTonguesModel", "isTongue", "(I)Z"⟩, 30), (⟨"DayTonguesModel", "isOne", "(I)Z"⟩, 30), (⟨"DayTonguesModel", "lack", "(III)I"⟩, 30), (⟨"DayTonguesModel", "tongueOf", "(I)I"⟩, 30), (⟨"DayTonguesModel", "startMeaning", "()V"⟩, 30), (⟨"DayTonguesModel", "mean", "(II)V"⟩, 30), (⟨"DayTonguesModel", "marked", "([ZI)I"⟩, 30), (⟨"DayTonguesModel", "layFar", "(IIZ)V"⟩, 30), (⟨"DayTonguesModel", "waysOf", "(IIIZ)I"⟩, 30), (⟨"DayTonguesModel", "isWithin", "(III)Z"⟩, 30), (⟨"DayTonguesModel", "onBy", "(IIIZ)I"⟩, 30), (⟨"DayTonguesModel", "common", "(II)I"⟩, 30), (⟨"DayTonguesModel", "laySaying", "(IIZ)V"⟩, 30), (⟨"DayTonguesModel", "takesOn", "(IIIZI)Z"⟩, 30), (⟨"DayTonguesModel", "said", "(IZ)I"⟩, 30), (⟨"DayTonguesModel", "oneSaying", "(I)V"⟩, 30)]
theorem lw_r4 : ∀ q ∈ lw_privs_4, lw_okq q := List.forall_mem_cons.mpr ⟨lw_p48, List.forall_mem_cons.mpr ⟨lw_p49, List.forall_mem_cons.mpr ⟨lw_p50, List.forall_mem_cons.mpr ⟨lw_p51, List.forall_mem_cons.mpr ⟨lw_p52, List.forall_mem_cons.mpr ⟨lw_p53, List.forall_mem_cons.mpr ⟨lw_p54, List.forall_mem_cons.mpr ⟨lw_p55, List.forall_mem_cons.mpr ⟨lw_p56, List.forall_mem_cons.mpr ⟨lw_p57, List.forall_mem_cons.mpr ⟨lw_p58, List.forall_mem_cons.mpr ⟨lw_p59, List.forall_mem_cons.mpr ⟨lw_p60, List.forall_mem_cons.mpr ⟨lw_p61, List.forall_mem_cons.mpr ⟨lw_p62, List.forall_mem_cons.mpr ⟨lw_p63, fun _ h => absurd h List.not_mem_nil⟩⟩⟩⟩⟩⟩⟩⟩⟩⟩⟩⟩⟩⟩⟩⟩
theorem lw_p64 : lw_okq (⟨"DayTonguesModel", "nextItem", "(I)I"⟩, 30) := ⟨⟨by decide +kernel, by decide +kernel⟩, List.mem_of_getElem? (i := 935) (by decide +kernel), List.mem_of_getElem? (i := 1272) (by decide +kernel), List.mem_of_getElem? (i := 1273) (by decide +kernel)⟩
theorem lw_p65 : lw_okq (⟨"DayTonguesModel", "bars", "(Z)V"⟩, 30) := ⟨⟨by decide +kernel, by decide +kernel⟩, List.mem_of_getElem? (i := 935) (by decide +kernel), List.mem_of_getElem? (i := 1276) (by decide +kernel), List.mem_of_getElem? (i := 1277) (by decide +kernel)⟩
theorem lw_p66 : lw_okq (⟨"DayTonguesModel", "between", "(III)I"⟩, 30) := ⟨⟨by decide +kernel, by decide +kernel⟩, List.mem_of_getElem? (i := 935) (by decide +kernel), List.mem_of_getElem? (i := 1284) (by decide +kernel), List.mem_of_getElem? (i := 1285) (by decide +kernel)⟩
theorem lw_p67 : lw_okq (⟨"DayTonguesModel", "isEnough", "(I)Z"⟩, 30) := ⟨⟨by decide +kernel, by decide +kernel⟩, List.mem_of_getElem? (i := 935) (by decide +kernel), List.mem_of_getElem? (i := 1295) (by decide +kernel), List.mem_of_getElem? (i := 1296) (by decide +kernel)⟩
theorem lw_p68 : lw_okq (⟨"DayTonguesModel", "kindOf", "(II)I"⟩, 30) := ⟨⟨by decide +kernel, by decide +kernel⟩, List.mem_of_getElem? (i := 935) (by decide +kernel), List.mem_of_getElem? (i := 1319) (by decide +kernel), List.mem_of_getElem? (i := 1320) (by decide +kernel)⟩
theorem lw_p69 : lw_okq (⟨"DayTonguesModel", "sizeOf", "(II)I"⟩, 30) := ⟨⟨by decide +kernel, by decide +kernel⟩, List.mem_of_getElem? (i := 935) (by decide +kernel), List.mem_of_getElem? (i := 1334) (by decide +kernel), List.mem_of_getElem? (i := 1335) (by decide +kernel)⟩
theorem lw_p70 : lw_okq (⟨"DayTonguesModel", "began", "(I)V"⟩, 30) := ⟨⟨by decide +kernel, by decide +kernel⟩, List.mem_of_getElem? (i := 935) (by decide +kernel), List.mem_of_getElem? (i := 1338) (by decide +kernel), List.mem_of_getElem? (i := 1339) (by decide +kernel)⟩
theorem lw_p71 : lw_okq (⟨"DayTonguesModel", "plainSize", "(II)I"⟩, 30) := ⟨⟨by decide +kernel, by decide +kernel⟩, List.mem_of_getElem? (i := 935) (by decide +kernel), List.mem_of_getElem? (i := 1342) (by decide +kernel), List.mem_of_getElem? (i := 1343) (by decide +kernel)⟩
theorem lw_p72 : lw_okq (⟨"DayTonguesModel", "markOf", "(II)I"⟩, 30) := ⟨⟨by decide +kernel, by decide +kernel⟩, List.mem_of_getElem? (i := 935) (by decide +kernel), List.mem_of_getElem? (i := 1346) (by decide +kernel), List.mem_of_getElem? (i := 1347) (by decide +kernel)⟩
def lw_privs_5 : List (MethodName × Nat) := [(⟨"DayTonguesModel", "nextItem", "(I)I"⟩, 30), (⟨"DayTonguesModel", "bars", "(Z)V"⟩, 30), (⟨"DayTonguesModel", "between", "(III)I"⟩, 30), (⟨"DayTonguesModel", "isEnough", "(I)Z"⟩, 30), (⟨"DayTonguesModel", "kindOf", "(II)I"⟩, 30), (⟨"DayTonguesModel", "sizeOf", "(II)I"⟩, 30), (⟨"DayTonguesModel", "began", "(I)V"⟩, 30), (⟨"DayTonguesModel", "plainSize", "(II)I"⟩, 30), (⟨"DayTonguesModel", "markOf", "(II)I"⟩, 30)]
theorem lw_r5 : ∀ q ∈ lw_privs_5, lw_okq q := List.forall_mem_cons.mpr ⟨lw_p64, List.forall_mem_cons.mpr ⟨lw_p65, List.forall_mem_cons.mpr ⟨lw_p66, List.forall_mem_cons.mpr ⟨lw_p67, List.forall_mem_cons.mpr ⟨lw_p68, List.forall_mem_cons.mpr ⟨lw_p69, List.forall_mem_cons.mpr ⟨lw_p70, List.forall_mem_cons.mpr ⟨lw_p71, List.forall_mem_cons.mpr ⟨lw_p72, fun _ h => absurd h List.not_mem_nil⟩⟩⟩⟩⟩⟩⟩⟩⟩
def lw_privs : List (MethodName × Nat) := lw_privs_1 ++ (lw_privs_2 ++ (lw_privs_3 ++ (lw_privs_4 ++ (lw_privs_5))))
def lw_tbl : List Cond := k2_sels lw_privs ++ tables_1
theorem lw_privs_ok : ∀ q ∈ lw_privs, lw_okq q := by
  show ∀ q ∈ lw_privs_1 ++ (lw_privs_2 ++ (lw_privs_3 ++ (lw_privs_4 ++ (lw_privs_5)))), lw_okq q
  exact List.forall_mem_append.mpr ⟨lw_r1, List.forall_mem_append.mpr ⟨lw_r2, List.forall_mem_append.mpr ⟨lw_r3, List.forall_mem_append.mpr ⟨lw_r4, lw_r5⟩⟩⟩⟩
/-- the words of the tables that stay true whatever runs -/
def dt_tbl : List Cond := lw_tbl.filter goodWord
theorem dt_in {w : Cond} (h : w ∈ lw_tbl) (g : goodWord w = true) : w ∈ dt_tbl := List.mem_filter.mpr ⟨h, g⟩
/-- a word of tables_1 by its place -/
theorem dt_at {w : Cond} (i : Nat) (h : tables_1[i]? = some w) (g : goodWord w = true) : w ∈ dt_tbl := dt_in (List.mem_append_right _ (List.mem_of_getElem? h)) g
/-- a private method's 'selects' by its place -/
theorem dt_as {w : Cond} (i : Nat) (h : (k2_sels lw_privs)[i]? = some w) (g : goodWord w = true) : w ∈ dt_tbl := dt_in (List.mem_append_left _ (List.mem_of_getElem? h)) g
theorem dt_good : GoodIn dt_tbl dt_tbl := fun w hw => ⟨hw, good_of_word (List.mem_filter.mp hw).2⟩
/-! the classes, their fields in one order (a word of whichever kind: number, readings, steps, taken, its own) -/
def RX0 : String := "DayTongues$CountingWord"
def TX0 : u_T := fun k => match k with
  | 0 => ("DayTongues$Word", "number", "I", true)
  | 1 => ("DayTongues$Word", "readings", "I", true)
  | 2 => ("DayTongues$Word", "steps", "[I", true)
  | 3 => ("DayTongues$Word", "taken", "I", false)
  | _ => ("DayTongues$PlainWord", "reading", "I", true)
def tyX0 : Nat → FieldType := fun k => match k with
  | 0 => .int
  | 1 => .int
  | 2 => .array .int
  | 3 => .int
  | _ => .int
theorem nmX0 : ∀ a, a < 5 → ∀ b, b < 5 → a ≠ b → (TX0 a).2.1 ≠ (TX0 b).2.1 := by decide +kernel
theorem tyX0_ok : ∀ k, k < 5 → parseFieldDescriptor (TX0 k).2.2.1 = some (tyX0 k) := by decide +kernel
theorem inX0 : ∀ w ∈ u_ws RX0 TX0 5, w ∈ dt_tbl := fun w h => dt_in ((show ∀ w ∈ u_ws RX0 TX0 5, w ∈ lw_tbl by decide +kernel) w h) ((show ∀ w ∈ u_ws RX0 TX0 5, goodWord w = true by decide +kernel) w h)
def RX1 : String := "DayTongues$DoubleWord"
def TX1 : u_T := fun k => match k with
  | 0 => ("DayTongues$Word", "number", "I", true)
  | 1 => ("DayTongues$Word", "readings", "I", true)
  | 2 => ("DayTongues$Word", "steps", "[I", true)
  | 3 => ("DayTongues$Word", "taken", "I", false)
  | _ => ("DayTongues$DoubleWord", "common", "I", true)
def tyX1 : Nat → FieldType := fun k => match k with
  | 0 => .int
  | 1 => .int
  | 2 => .array .int
  | 3 => .int
  | _ => .int
theorem nmX1 : ∀ a, a < 5 → ∀ b, b < 5 → a ≠ b → (TX1 a).2.1 ≠ (TX1 b).2.1 := by decide +kernel
theorem tyX1_ok : ∀ k, k < 5 → parseFieldDescriptor (TX1 k).2.2.1 = some (tyX1 k) := by decide +kernel
theorem inX1 : ∀ w ∈ u_ws RX1 TX1 5, w ∈ dt_tbl := fun w h => dt_in ((show ∀ w ∈ u_ws RX1 TX1 5, w ∈ lw_tbl by decide +kernel) w h) ((show ∀ w ∈ u_ws RX1 TX1 5, goodWord w = true by decide +kernel) w h)
def RX2 : String := "DayTongues$LentWord"
def TX2 : u_T := fun k => match k with
  | 0 => ("DayTongues$Word", "number", "I", true)
  | 1 => ("DayTongues$Word", "readings", "I", true)
  | 2 => ("DayTongues$Word", "steps", "[I", true)
  | 3 => ("DayTongues$Word", "taken", "I", false)
  | _ => ("DayTongues$PlainWord", "reading", "I", true)
def tyX2 : Nat → FieldType := fun k => match k with
  | 0 => .int
  | 1 => .int
  | 2 => .array .int
  | 3 => .int
  | _ => .int
theorem nmX2 : ∀ a, a < 5 → ∀ b, b < 5 → a ≠ b → (TX2 a).2.1 ≠ (TX2 b).2.1 := by decide +kernel
theorem tyX2_ok : ∀ k, k < 5 → parseFieldDescriptor (TX2 k).2.2.1 = some (tyX2 k) := by decide +kernel
theorem inX2 : ∀ w ∈ u_ws RX2 TX2 5, w ∈ dt_tbl := fun w h => dt_in ((show ∀ w ∈ u_ws RX2 TX2 5, w ∈ lw_tbl by decide +kernel) w h) ((show ∀ w ∈ u_ws RX2 TX2 5, goodWord w = true by decide +kernel) w h)
def RX3 : String := "DayTongues$OathWord"
def TX3 : u_T := fun k => match k with
  | 0 => ("DayTongues$Word", "number", "I", true)
  | 1 => ("DayTongues$Word", "readings", "I", true)
  | 2 => ("DayTongues$Word", "steps", "[I", true)
  | 3 => ("DayTongues$Word", "taken", "I", false)
  | _ => ("DayTongues$DoubleWord", "common", "I", true)
def tyX3 : Nat → FieldType := fun k => match k with
  | 0 => .int
  | 1 => .int
  | 2 => .array .int
  | 3 => .int
  | _ => .int
theorem nmX3 : ∀ a, a < 5 → ∀ b, b < 5 → a ≠ b → (TX3 a).2.1 ≠ (TX3 b).2.1 := by decide +kernel
theorem tyX3_ok : ∀ k, k < 5 → parseFieldDescriptor (TX3 k).2.2.1 = some (tyX3 k) := by decide +kernel
theorem inX3 : ∀ w ∈ u_ws RX3 TX3 5, w ∈ dt_tbl := fun w h => dt_in ((show ∀ w ∈ u_ws RX3 TX3 5, w ∈ lw_tbl by decide +kernel) w h) ((show ∀ w ∈ u_ws RX3 TX3 5, goodWord w = true by decide +kernel) w h)
def RX4 : String := "DayTongues$People"
def TX4 : u_T := fun k => match k with
  | _ => ("DayTongues$People", "port", "LDayTongues$Port;", true)
def tyX4 : Nat → FieldType := fun k => match k with
  | _ => .object "DayTongues$Port"
theorem nmX4 : ∀ a, a < 1 → ∀ b, b < 1 → a ≠ b → (TX4 a).2.1 ≠ (TX4 b).2.1 := by decide +kernel
theorem tyX4_ok : ∀ k, k < 1 → parseFieldDescriptor (TX4 k).2.2.1 = some (tyX4 k) := by decide +kernel
theorem inX4 : ∀ w ∈ u_ws RX4 TX4 1, w ∈ dt_tbl := fun w h => dt_in ((show ∀ w ∈ u_ws RX4 TX4 1, w ∈ lw_tbl by decide +kernel) w h) ((show ∀ w ∈ u_ws RX4 TX4 1, goodWord w = true by decide +kernel) w h)
def RX5 : String := "DayTongues$PlainWord"
def TX5 : u_T := fun k => match k with
  | 0 => ("DayTongues$Word", "number", "I", true)
  | 1 => ("DayTongues$Word", "readings", "I", true)
  | 2 => ("DayTongues$Word", "steps", "[I", true)
  | 3 => ("DayTongues$Word", "taken", "I", false)
  | _ => ("DayTongues$PlainWord", "reading", "I", true)
def tyX5 : Nat → FieldType := fun k => match k with
  | 0 => .int
  | 1 => .int
  | 2 => .array .int
  | 3 => .int
  | _ => .int
theorem nmX5 : ∀ a, a < 5 → ∀ b, b < 5 → a ≠ b → (TX5 a).2.1 ≠ (TX5 b).2.1 := by decide +kernel
theorem tyX5_ok : ∀ k, k < 5 → parseFieldDescriptor (TX5 k).2.2.1 = some (tyX5 k) := by decide +kernel
theorem inX5 : ∀ w ∈ u_ws RX5 TX5 5, w ∈ dt_tbl := fun w h => dt_in ((show ∀ w ∈ u_ws RX5 TX5 5, w ∈ lw_tbl by decide +kernel) w h) ((show ∀ w ∈ u_ws RX5 TX5 5, goodWord w = true by decide +kernel) w h)
def RX6 : String := "DayTongues$Port"
def TX6 : u_T := fun k => match k with
  | 0 => ("DayTongues$Port", "wordCounts", "[I", true)
  | 1 => ("DayTongues$Port", "kinds", "[I", true)
  | 2 => ("DayTongues$Port", "readingCounts", "[I", true)
  | 3 => ("DayTongues$Port", "readings", "[I", true)
  | 4 => ("DayTongues$Port", "known", "[I", true)
  | 5 => ("DayTongues$Port", "tongueCount", "I", false)
  | 6 => ("DayTongues$Port", "peopleCount", "I", false)
  | _ => ("DayTongues$Port", "yearCount", "I", false)
def tyX6 : Nat → FieldType := fun k => match k with
  | 0 => .array .int
  | 1 => .array .int
  | 2 => .array .int
  | 3 => .array .int
  | 4 => .array .int
  | 5 => .int
  | 6 => .int
  | _ => .int
theorem nmX6 : ∀ a, a < 8 → ∀ b, b < 8 → a ≠ b → (TX6 a).2.1 ≠ (TX6 b).2.1 := by decide +kernel
theorem tyX6_ok : ∀ k, k < 8 → parseFieldDescriptor (TX6 k).2.2.1 = some (tyX6 k) := by decide +kernel
theorem inX6 : ∀ w ∈ u_ws RX6 TX6 8, w ∈ dt_tbl := fun w h => dt_in ((show ∀ w ∈ u_ws RX6 TX6 8, w ∈ lw_tbl by decide +kernel) w h) ((show ∀ w ∈ u_ws RX6 TX6 8, goodWord w = true by decide +kernel) w h)
def RX7 : String := "DayTongues$Rows"
def TX7 : u_T := fun k => match k with
  | 0 => ("DayTongues$Rows", "lanes", "[I", true)
  | 1 => ("DayTongues$Rows", "sizes", "[I", true)
  | _ => ("DayTongues$Rows", "items", "[I", true)
def tyX7 : Nat → FieldType := fun k => match k with
  | 0 => .array .int
  | 1 => .array .int
  | _ => .array .int
theorem nmX7 : ∀ a, a < 3 → ∀ b, b < 3 → a ≠ b → (TX7 a).2.1 ≠ (TX7 b).2.1 := by decide +kernel
theorem tyX7_ok : ∀ k, k < 3 → parseFieldDescriptor (TX7 k).2.2.1 = some (tyX7 k) := by decide +kernel
theorem inX7 : ∀ w ∈ u_ws RX7 TX7 3, w ∈ dt_tbl := fun w h => dt_in ((show ∀ w ∈ u_ws RX7 TX7 3, w ∈ lw_tbl by decide +kernel) w h) ((show ∀ w ∈ u_ws RX7 TX7 3, goodWord w = true by decide +kernel) w h)
def RX8 : String := "DayTongues$Sayings"
def TX8 : u_T := fun k => match k with
  | 0 => ("DayTongues$Sayings", "port", "LDayTongues$Port;", true)
  | 1 => ("DayTongues$Sayings", "meant", "[Z", true)
  | 2 => ("DayTongues$Sayings", "before", "[Z", true)
  | 3 => ("DayTongues$Sayings", "alike", "[Z", true)
  | 4 => ("DayTongues$Sayings", "lengths", "[I", true)
  | 5 => ("DayTongues$Sayings", "codes", "[I", true)
  | 6 => ("DayTongues$Sayings", "wholes", "[I", true)
  | _ => ("DayTongues$Sayings", "commons", "[I", true)
def tyX8 : Nat → FieldType := fun k => match k with
  | 0 => .object "DayTongues$Port"
  | 1 => .array .boolean
  | 2 => .array .boolean
  | 3 => .array .boolean
  | 4 => .array .int
  | 5 => .array .int
  | 6 => .array .int
  | _ => .array .int
theorem nmX8 : ∀ a, a < 8 → ∀ b, b < 8 → a ≠ b → (TX8 a).2.1 ≠ (TX8 b).2.1 := by decide +kernel
theorem tyX8_ok : ∀ k, k < 8 → parseFieldDescriptor (TX8 k).2.2.1 = some (tyX8 k) := by decide +kernel
theorem inX8 : ∀ w ∈ u_ws RX8 TX8 8, w ∈ dt_tbl := fun w h => dt_in ((show ∀ w ∈ u_ws RX8 TX8 8, w ∈ lw_tbl by decide +kernel) w h) ((show ∀ w ∈ u_ws RX8 TX8 8, goodWord w = true by decide +kernel) w h)
def RX9 : String := "DayTongues$Tape"
def TX9 : u_T := fun k => match k with
  | 0 => ("DayTongues$Tape", "bytes", "[I", true)
  | 1 => ("DayTongues$Tape", "size", "I", false)
  | 2 => ("DayTongues$Tape", "sort", "I", false)
  | 3 => ("DayTongues$Tape", "begin", "I", false)
  | _ => ("DayTongues$Tape", "end", "I", false)
def tyX9 : Nat → FieldType := fun k => match k with
  | 0 => .array .int
  | 1 => .int
  | 2 => .int
  | 3 => .int
  | _ => .int
theorem nmX9 : ∀ a, a < 5 → ∀ b, b < 5 → a ≠ b → (TX9 a).2.1 ≠ (TX9 b).2.1 := by decide +kernel
theorem tyX9_ok : ∀ k, k < 5 → parseFieldDescriptor (TX9 k).2.2.1 = some (tyX9 k) := by decide +kernel
theorem inX9 : ∀ w ∈ u_ws RX9 TX9 5, w ∈ dt_tbl := fun w h => dt_in ((show ∀ w ∈ u_ws RX9 TX9 5, w ∈ lw_tbl by decide +kernel) w h) ((show ∀ w ∈ u_ws RX9 TX9 5, goodWord w = true by decide +kernel) w h)
def RX10 : String := "DayTongues$Word"
def TX10 : u_T := fun k => match k with
  | 0 => ("DayTongues$Word", "number", "I", true)
  | 1 => ("DayTongues$Word", "readings", "I", true)
  | 2 => ("DayTongues$Word", "steps", "[I", true)
  | _ => ("DayTongues$Word", "taken", "I", false)
def tyX10 : Nat → FieldType := fun k => match k with
  | 0 => .int
  | 1 => .int
  | 2 => .array .int
  | _ => .int
theorem nmX10 : ∀ a, a < 4 → ∀ b, b < 4 → a ≠ b → (TX10 a).2.1 ≠ (TX10 b).2.1 := by decide +kernel
theorem tyX10_ok : ∀ k, k < 4 → parseFieldDescriptor (TX10 k).2.2.1 = some (tyX10 k) := by decide +kernel
theorem inX10 : ∀ w ∈ u_ws RX10 TX10 4, w ∈ dt_tbl := fun w h => dt_in ((show ∀ w ∈ u_ws RX10 TX10 4, w ∈ lw_tbl by decide +kernel) w h) ((show ∀ w ∈ u_ws RX10 TX10 4, goodWord w = true by decide +kernel) w h)
def RX11 : String := "DayTongues"
def TX11 : u_T := fun k => match k with
  | 0 => ("DayTongues", "rows", "LDayTongues$Rows;", true)
  | 1 => ("DayTongues", "tape", "LDayTongues$Tape;", true)
  | 2 => ("DayTongues", "now", "LDayTongues$Port;", true)
  | 3 => ("DayTongues", "read", "LDayTongues$Port;", true)
  | 4 => ("DayTongues", "firstImage", "LDayTongues$Port;", true)
  | 5 => ("DayTongues", "secondImage", "LDayTongues$Port;", true)
  | 6 => ("DayTongues", "sayings", "LDayTongues$Sayings;", true)
  | 7 => ("DayTongues", "people", "LDayTongues$People;", true)
  | 8 => ("DayTongues", "asked", "LDayTongues$Word;", false)
  | 9 => ("DayTongues", "latestFault", "I", false)
  | _ => ("DayTongues", "latestFinding", "I", false)
def tyX11 : Nat → FieldType := fun k => match k with
  | 0 => .object "DayTongues$Rows"
  | 1 => .object "DayTongues$Tape"
  | 2 => .object "DayTongues$Port"
  | 3 => .object "DayTongues$Port"
  | 4 => .object "DayTongues$Port"
  | 5 => .object "DayTongues$Port"
  | 6 => .object "DayTongues$Sayings"
  | 7 => .object "DayTongues$People"
  | 8 => .object "DayTongues$Word"
  | 9 => .int
  | _ => .int
theorem nmX11 : ∀ a, a < 11 → ∀ b, b < 11 → a ≠ b → (TX11 a).2.1 ≠ (TX11 b).2.1 := by decide +kernel
theorem tyX11_ok : ∀ k, k < 11 → parseFieldDescriptor (TX11 k).2.2.1 = some (tyX11 k) := by decide +kernel
theorem inX11 : ∀ w ∈ u_ws RX11 TX11 11, w ∈ dt_tbl := fun w h => dt_in ((show ∀ w ∈ u_ws RX11 TX11 11, w ∈ lw_tbl by decide +kernel) w h) ((show ∀ w ∈ u_ws RX11 TX11 11, goodWord w = true by decide +kernel) w h)
def RX12 : String := "DayTonguesModel"
def TX12 : u_T := fun k => match k with
  | 0 => ("DayTonguesModel", "thrown", "I", false)
  | 1 => ("DayTonguesModel", "status", "I", false)
  | 2 => ("DayTonguesModel", "lane", "[I", true)
  | 3 => ("DayTonguesModel", "many", "[I", true)
  | 4 => ("DayTonguesModel", "item", "[I", true)
  | 5 => ("DayTonguesModel", "port", "[I", true)
  | 6 => ("DayTonguesModel", "fresh", "[I", true)
  | 7 => ("DayTonguesModel", "isThere", "Z", false)
  | 8 => ("DayTonguesModel", "tape", "[I", true)
  | 9 => ("DayTonguesModel", "taped", "I", false)
  | 10 => ("DayTonguesModel", "latest", "I", false)
  | 11 => ("DayTonguesModel", "length", "I", false)
  | 12 => ("DayTonguesModel", "cursor", "I", false)
  | 13 => ("DayTonguesModel", "token", "I", false)
  | 14 => ("DayTonguesModel", "start", "I", false)
  | 15 => ("DayTonguesModel", "till", "I", false)
  | 16 => ("DayTonguesModel", "fault", "I", false)
  | 17 => ("DayTonguesModel", "faultAt", "I", false)
  | 18 => ("DayTonguesModel", "drawn", "J", false)
  | 19 => ("DayTonguesModel", "may", "[Z", true)
  | 20 => ("DayTonguesModel", "mayThen", "[Z", true)
  | 21 => ("DayTonguesModel", "far", "[I", true)
  | 22 => ("DayTonguesModel", "saying", "[I", true)
  | 23 => ("DayTonguesModel", "alike", "[Z", true)
  | 24 => ("DayTonguesModel", "cursorAt", "I", false)
  | 25 => ("DayTonguesModel", "bar", "I", false)
  | 26 => ("DayTonguesModel", "isKept", "[Z", true)
  | 27 => ("DayTonguesModel", "kept", "[I", true)
  | 28 => ("DayTonguesModel", "trace", "[I", true)
  | _ => ("DayTonguesModel", "traced", "I", false)
def tyX12 : Nat → FieldType := fun k => match k with
  | 0 => .int
  | 1 => .int
  | 2 => .array .int
  | 3 => .array .int
  | 4 => .array .int
  | 5 => .array .int
  | 6 => .array .int
  | 7 => .boolean
  | 8 => .array .int
  | 9 => .int
  | 10 => .int
  | 11 => .int
  | 12 => .int
  | 13 => .int
  | 14 => .int
  | 15 => .int
  | 16 => .int
  | 17 => .int
  | 18 => .long
  | 19 => .array .boolean
  | 20 => .array .boolean
  | 21 => .array .int
  | 22 => .array .int
  | 23 => .array .boolean
  | 24 => .int
  | 25 => .int
  | 26 => .array .boolean
  | 27 => .array .int
  | 28 => .array .int
  | _ => .int
theorem nmX12 : ∀ a, a < 30 → ∀ b, b < 30 → a ≠ b → (TX12 a).2.1 ≠ (TX12 b).2.1 := by decide +kernel
theorem tyX12_ok : ∀ k, k < 30 → parseFieldDescriptor (TX12 k).2.2.1 = some (tyX12 k) := by decide +kernel
theorem inX12 : ∀ w ∈ u_ws RX12 TX12 30, w ∈ dt_tbl := fun w h => dt_in ((show ∀ w ∈ u_ws RX12 TX12 30, w ∈ lw_tbl by decide +kernel) w h) ((show ∀ w ∈ u_ws RX12 TX12 30, goodWord w = true by decide +kernel) w h)
def dt_cls : List vw_C := [(RX0, TX0, 5), (RX1, TX1, 5), (RX2, TX2, 5), (RX3, TX3, 5), (RX4, TX4, 1), (RX5, TX5, 5), (RX6, TX6, 8), (RX7, TX7, 3), (RX8, TX8, 8), (RX9, TX9, 5), (RX10, TX10, 4), (RX11, TX11, 11), (RX12, TX12, 30)]
def dt_ty : Nat → Nat → FieldType := fun c => match c with
  | 0 => tyX0
  | 1 => tyX1
  | 2 => tyX2
  | 3 => tyX3
  | 4 => tyX4
  | 5 => tyX5
  | 6 => tyX6
  | 7 => tyX7
  | 8 => tyX8
  | 9 => tyX9
  | 10 => tyX10
  | 11 => tyX11
  | _ => tyX12
/-- what the tables say of class ci with N fields -/
def dt_clok (ci : Nat) (q : vw_C) : Prop := (∀ a, a < q.2.2 → ∀ b, b < q.2.2 → a ≠ b → (q.2.1 a).2.1 ≠ (q.2.1 b).2.1) ∧ (∀ k, k < q.2.2 → parseFieldDescriptor (q.2.1 k).2.2.1 = some (dt_ty ci k)) ∧ (∀ w ∈ u_ws q.1 q.2.1 q.2.2, w ∈ dt_tbl)
theorem dt_clok_of : ∀ (ci : Nat) (q : vw_C), dt_cls[ci]? = some q → dt_clok ci q := by
  intro ci q h
  match ci, h with
  | 0, h => cases h; exact ⟨nmX0, tyX0_ok, inX0⟩
  | 1, h => cases h; exact ⟨nmX1, tyX1_ok, inX1⟩
  | 2, h => cases h; exact ⟨nmX2, tyX2_ok, inX2⟩
  | 3, h => cases h; exact ⟨nmX3, tyX3_ok, inX3⟩
  | 4, h => cases h; exact ⟨nmX4, tyX4_ok, inX4⟩
  | 5, h => cases h; exact ⟨nmX5, tyX5_ok, inX5⟩
  | 6, h => cases h; exact ⟨nmX6, tyX6_ok, inX6⟩
  | 7, h => cases h; exact ⟨nmX7, tyX7_ok, inX7⟩
  | 8, h => cases h; exact ⟨nmX8, tyX8_ok, inX8⟩
  | 9, h => cases h; exact ⟨nmX9, tyX9_ok, inX9⟩
  | 10, h => cases h; exact ⟨nmX10, tyX10_ok, inX10⟩
  | 11, h => cases h; exact ⟨nmX11, tyX11_ok, inX11⟩
  | 12, h => cases h; exact ⟨nmX12, tyX12_ok, inX12⟩
  | n + 13, h => exact absurd h (by simp [dt_cls])
end
section
/-! ===== the little machine: a value is an int, a long, null, a cell of the world (by its number) or one outside (by its name); the world is a list of shapes and what each place holds ===== -/
abbrev dt_MV : Type := Int ⊕ (Int ⊕ Option (Nat ⊕ Nat))
abbrev dt_I (x : Int) : dt_MV := .inl x
abbrev dt_L (x : Int) : dt_MV := .inr (.inl x)
abbrev dt_R (n : Nat) : dt_MV := .inr (.inr (some (.inl n)))
abbrev dt_S (n : Nat) : dt_MV := .inr (.inr (some (.inr n)))
abbrev dt_N : dt_MV := .inr (.inr none)
/-- an object: its class, its fields' tags (0 int, 1 long, 2 a cell that may change (below 0: null), 3 null, n + 4 the cell n); an array: 0 of ints, 1 of booleans, its length -/
abbrev dt_Shp : Type := (Nat × List Nat) ⊕ (Nat × Nat)
abbrev dt_Mem : Type := Nat → Nat → Int
abbrev dt_MD : Type := MethodName × ByteArray × Nat × Option FieldType
def dt_tr (B : Nat) (S : Nat → Nat) : dt_MV → Value
  | .inl x => .int (Int32.ofInt x)
  | .inr (.inl x) => .long (Int64.ofInt x)
  | .inr (.inr none) => .null
  | .inr (.inr (some (.inl n))) => .ref (B + n)
  | .inr (.inr (some (.inr n))) => .ref (S n)
def dt_rd (t : Nat) (x : Int) : dt_MV := match t with
  | 0 => dt_I x
  | 1 => dt_L x
  | 2 => if x < 0 then dt_N else dt_R x.toNat
  | 3 => dt_N
  | n + 4 => dt_R n
def dt_fl (B : Nat) (S : Nat → Nat) (f : Nat → Int) (tags : List Nat) : List Value := tags.mapIdx (fun k t => dt_tr B S (dt_rd t (f k)))
def dt_cell (B : Nat) (S : Nat → Nat) (dA : Nat → ClassId) (x : dt_Shp) (f : Nat → Int) : va_E := match x with
  | .inl o => .inr (o.1, dt_fl B S f o.2)
  | .inr a => .inl (dA a.1, a.2, .inl (fun j => Int32.ofInt (f j)))
def dt_ws (B : Nat) (S : Nat → Nat) (dA : Nat → ClassId) (sh : List dt_Shp) (σ : dt_Mem) : va_W := sh.mapIdx (fun a x => (B + a, dt_cell B S dA x (σ a)))
/-- a write -/
def dt_up (σ : dt_Mem) (a k : Nat) (v : Int) : dt_Mem := fun b j => if b = a then (if j = k then v else σ a j) else σ b j
abbrev dt_in32 (x : Int) : Prop := -2147483648 ≤ x ∧ x < 2147483648
abbrev dt_in64 (x : Int) : Prop := -9223372036854775808 ≤ x ∧ x < 9223372036854775808
def dt_wf (σ : dt_Mem) : Prop := ∀ a k, dt_in32 (σ a k)
theorem dt_wf.up {σ : dt_Mem} (h : dt_wf σ) {a k : Nat} {v : Int} (hv : dt_in32 v) : dt_wf (dt_up σ a k v) := by
  intro b j
  unfold dt_up
  split
  · split
    · exact hv
    · exact h a j
  · exact h b j
def dt_si : Nat → Nat := fun i => [39, 64, 102, 104, 106, 108, 110, 49].getD i 0
def dt_tx : Nat → String := fun i => ["tongue", "word", "plain", "count", "lent", "double", "oath", "person"].getD i ""
def dt_bt : List (List Int32) := [[116, 111, 110, 103, 117, 101], [119, 111, 114, 100], [112, 108, 97, 105, 110], [99, 111, 117, 110, 116], [108, 101, 110, 116], [100, 111, 117, 98, 108, 101], [111, 97, 116, 104], [112, 101, 114, 115, 111, 110]]
def dt_ln : List Nat := [6, 4, 5, 5, 4, 6, 4, 6]
def dt_cst : List (String × String) := [("DayTongues$CountingWord", "DayTongues$PlainWord"), ("DayTongues$LentWord", "DayTongues$PlainWord"), ("DayTongues$LentWord", "DayTongues$CountingWord"), ("DayTongues$OathWord", "DayTongues$DoubleWord")]
def dt_wds : List String := ["DayTongues$Word", "DayTongues$PlainWord", "DayTongues$CountingWord", "DayTongues$LentWord", "DayTongues$DoubleWord", "DayTongues$OathWord"]
/-- pairs of kinds of words, the first no such one -/
def dt_nct : List (String × String) := (dt_wds.flatMap fun a => dt_wds.map fun b => (a, b)).filter fun q => !(q.2 == "DayTongues$Word") && !(q.1 == q.2) && !(dt_cst.contains q)
/-- what is known of all that lies outside the world: String constants, statics, which classes are which -/
def dt_GK (S : Nat → Nat) (B : Nat) (U : State) (H : Heap) : Prop :=
  vk_S 8 dt_ln dt_bt (fun i => S (2 * i)) (fun i => S (2 * i + 1)) (fun q => B ≤ q) U H ∧
  (∀ i : Nat, i < 8 → vk_R "DayTongues$Tape" (dt_si i) (dt_tx i) (S (2 * i)) U) ∧
  va_Z "java/lang/String" "COMPACT_STRINGS" "Z" (.int 1) (fun q => B ≤ q) U H ∧
  (∃ r : Option Nat, va_Z "jdk/internal/util/Preconditions" "SIOOBE_FORMATTER" "Ljava/util/function/BiFunction;" (va_rf r) (fun q => B ≤ q) U H) ∧
  (∀ q ∈ dt_cst, va_Nw (.castable q.1 q.2) U) ∧ (∀ q ∈ dt_nct, va_Nc q.1 q.2 U)
theorem dt_GK.moved {S : Nat → Nat} {B : Nat} {s U : State} {H H1 : Heap} (hW : s.WarmedH U.vm) (h : dt_GK S B s H) (hq : ∀ a : Nat, a < H.size → ¬ B ≤ a → H1[a]? = H[a]?) : dt_GK S B U H1 := by
  obtain ⟨h1, h2, h3, ⟨r, h4⟩, h5, h6⟩ := h
  exact ⟨(vk_S.moved hW.alike h1).kept hq, fun i hi => (h2 i hi).warm hW, (va_Z.moved hW.alike h3).kept hq, ⟨r, (va_Z.moved hW.alike h4).kept hq⟩, fun q hq => va_Nw.warmC hW (h5 q hq), fun q hq => va_Nc.moved hW.alike (h6 q hq)⟩
theorem dt_GK.same {S : Nat → Nat} {B : Nat} {s U : State} {H : Heap} (hv : U.vm = s.vm) (h : dt_GK S B s H) : dt_GK S B U H := by
  obtain ⟨h1, h2, h3, ⟨r, h4⟩, h5, h6⟩ := h
  have hA : s.vm.Alike U.vm := by rw [hv]; exact Vm.Alike.refl _
  exact ⟨vk_S.moved hA h1, fun i hi => vk_R.same hv (h2 i hi), va_Z.moved hA h3, ⟨r, va_Z.moved hA h4⟩, fun q hq => va_tabs rfl hv.symm (h5 q hq), fun q hq => va_Nc.moved hA (h6 q hq)⟩
/-- what stands fixed while a method runs -/
def dt_Fix (M : dt_MD) (p : Program) (s : State) (m : MethodId) (args : Array Value) (meth : Method) (c : Code) (D : va_G) (dA : Nat → ClassId) (S : Nat → Nat) (B : Nat) : Prop :=
  p.tables.exec = Jvm.exec ∧ c.code = M.2.1 ∧ c.maxLocals = M.2.2.1 ∧ meth.sig.returnType = M.2.2.2 ∧ s.vm.findClass M.1.cls = some m.cls ∧ meth.name = M.1.name ∧ (∀ w ∈ dt_tbl, w.before args s = true) ∧ meth.locks = false ∧ va_K D dt_cls [(dA 0, .int), (dA 1, .boolean)] s ∧ dt_GK S B s s.heap ∧ B ≤ s.heap.size
def dt_lv (B : Nat) (S : Nat → Nat) (lsA : Array Slot) (nL : Nat) (ls : List (Option dt_MV)) : Prop := lsA.size = nL ∧ lv_wf lsA ∧ ∀ (i : Nat) (v : dt_MV), ls[i]? = some (some v) → lsA[i]? = some (.val (dt_tr B S v))
/-- the context of a walk: which launch, state, arguments, and to what end -/
abbrev dt_Cx : Type := Launch → State → MethodId → Array Value → List Frame → va_G → (Nat → ClassId) → (Nat → Nat) → Nat → (State → Prop) → Prop
def dt_Rep (B : Nat) (S : Nat → Nat) (D : va_G) (dA : Nat → ClassId) (sh : List dt_Shp) (σ : dt_Mem) (H : Heap) : Prop := dt_wf σ ∧ H.size = B + sh.length ∧ va_P D dt_cls (dt_ws B S dA sh σ) H
/-- the walk from here: pc, locals, stack, world -/
def dt_V (M : dt_MD) (R : Room) (C : dt_Cx) (kc ks : Nat) (pc : Nat) (ls : List (Option dt_MV)) (st : List dt_MV) (sh : List dt_Shp) (σ : dt_Mem) : Prop :=
  ∀ (p : Program) (l : Launch) (e : Env) (s : State) (m : MethodId) (args : Array Value) (below : List Frame) (meth : Method) (c : Code) (D : va_G) (dA : Nat → ClassId) (S : Nat → Nat) (B : Nat) (H : Heap) (locs : List Loc) (lsA : Array Slot) (Z : State → Prop),
    dt_Fix M p s m args meth c D dA S B → C l s m args below D dA S B Z → dt_Rep B S D dA sh σ H → va_S (fun q => B ≤ q) s.heap H locs → dt_lv B S lsA M.2.2.1 ls →
    W p l e R s m args below meth c H locs kc ks Z (F0 m pc lsA (st.map (dt_tr B S)))
/-- what a method's end says -/
def dt_Qc (Q : Option dt_MV → List dt_Shp → dt_Mem → Prop) (D : va_G) (dA : Nat → ClassId) (S : Nat → Nat) (B : Nat) : Array Value → State → Outcome → State → Prop := fun _ st o t =>
  (∃ (v : Option dt_MV) (sh : List dt_Shp) (σ : dt_Mem), o = .returned (v.map (dt_tr B S)) ∧ Q v sh σ ∧ dt_Rep B S D dA sh σ t.heap) ∧ va_F (fun q => B ≤ q) st t
def dt_MC (Q : Option dt_MV → List dt_Shp → dt_Mem → Prop) (mc ms : Nat) : dt_Cx := fun _ s _ args below D dA S B Z => Z = MQ below (dt_Qc Q D dA S B) args s mc ms (fun q => B ≤ q)
def dt_rm (d mc ms : Nat) : Room := { frames := d, cells := mc, slots := ms, locals := 40 * d }
/-- a method's contract: from arguments and a world, to what -/
def dt_Sp (M : dt_MD) (d mc ms : Nat) (av : List dt_MV) (sh : List dt_Shp) (σ : dt_Mem) (Q : Option dt_MV → List dt_Shp → dt_Mem → Prop) : Prop :=
  ∀ (l : Launch) (D : va_G) (dA : Nat → ClassId) (S : Nat → Nat) (B : Nat),
    Met l M.1 (.code M.1 M.2.1 M.2.2.1 M.2.2.2 :: dt_tbl) (dt_rm d mc ms) (va_Pc (av.map (dt_tr B S)) (fun U => dt_Rep B S D dA sh σ U.heap ∧ va_K D dt_cls [(dA 0, .int), (dA 1, .boolean)] U ∧ dt_GK S B U U.heap)) (dt_Qc Q D dA S B) mc ms (fun q => B ≤ q)
/-! worlds -/
theorem dt_ws_at {B : Nat} {S : Nat → Nat} {dA : Nat → ClassId} {sh : List dt_Shp} {σ : dt_Mem} {a : Nat} {x : dt_Shp} (h : sh[a]? = some x) : (dt_ws B S dA sh σ)[a]? = some (B + a, dt_cell B S dA x (σ a)) := by
  simp [dt_ws, h]
theorem dt_ws_len {B : Nat} {S : Nat → Nat} {dA : Nat → ClassId} {sh : List dt_Shp} {σ : dt_Mem} : (dt_ws B S dA sh σ).length = sh.length := by
  simp [dt_ws]
theorem dt_ws_D {B : Nat} {S : Nat → Nat} {dA : Nat → ClassId} {sh : List dt_Shp} {σ : dt_Mem} : va_D (fun q => B ≤ q) (dt_ws B S dA sh σ) := by
  have key : ∀ (k : Nat) (q : Nat × va_E), (dt_ws B S dA sh σ)[k]? = some q → q.1 = B + k := by
    intro k q hk
    simp only [dt_ws, List.getElem?_mapIdx, Option.map_eq_some_iff] at hk
    obtain ⟨x, -, rfl⟩ := hk
    rfl
  refine ⟨fun i j p q hi hj hpq => ?_, fun k q hk => ?_⟩
  · rw [key i p hi, key j q hj] at hpq
    omega
  · show B ≤ q.1
    rw [key k q hk]
    omega
theorem dt_fl_at {B : Nat} {S : Nat → Nat} {f : Nat → Int} {tags : List Nat} {k t : Nat} (h : tags[k]? = some t) : (dt_fl B S f tags)[k]? = some (dt_tr B S (dt_rd t (f k))) := by
  simp [dt_fl, h]
theorem dt_fl_len {B : Nat} {S : Nat → Nat} {f : Nat → Int} {tags : List Nat} : (dt_fl B S f tags).length = tags.length := by
  simp [dt_fl]
theorem dt_ext {l l' : List (Nat × va_E)} (h : ∀ i : Nat, l[i]? = l'[i]?) : l = l' := List.ext_getElem? h
/-- a cell's new content, in the list of cells -/
theorem dt_ws_set {B : Nat} {S : Nat → Nat} {dA : Nat → ClassId} {sh sh' : List dt_Shp} {σ σ' : dt_Mem} {a : Nat} {x : dt_Shp} (hx : a < sh.length) (hs : sh' = sh.set a x) (ho : ∀ b, b ≠ a → σ' b = σ b) :
    (dt_ws B S dA sh σ).set a (B + a, dt_cell B S dA x (σ' a)) = dt_ws B S dA sh' σ' := by
  subst hs
  refine dt_ext fun i => ?_
  by_cases hi : i = a
  · subst hi
    simp [dt_ws, hx]
  · rw [List.getElem?_set_ne (Ne.symm hi)]
    simp only [dt_ws, List.getElem?_mapIdx, List.getElem?_set_ne (Ne.symm hi)]
    rw [ho i hi]
theorem dt_fl_set {B : Nat} {S : Nat → Nat} {f f' : Nat → Int} {tags : List Nat} {k t : Nat} {v : Value} (hk : k < tags.length) (hv : v = dt_tr B S (dt_rd t (f' k))) (ho : ∀ j, j ≠ k → f' j = f j) :
    (dt_fl B S f tags).set k v = dt_fl B S f' (tags.set k t) := by
  subst hv
  refine List.ext_getElem? fun i => ?_
  by_cases hi : i = k
  · subst hi
    simp [dt_fl, hk]
  · rw [List.getElem?_set_ne (Ne.symm hi)]
    simp only [dt_fl, List.getElem?_mapIdx, List.getElem?_set_ne (Ne.symm hi)]
    rw [ho i hi]
theorem dt_set_self {α : Type} {l : List α} {a : Nat} {x : α} (h : l[a]? = some x) : l.set a x = l := by
  refine List.ext_getElem? fun i => ?_
  by_cases hi : i = a
  · subst hi
    have hl := (List.getElem?_eq_some_iff.mp h).1
    rw [List.getElem?_set_self hl, h]
  · rw [List.getElem?_set_ne (Ne.symm hi)]
/-! numbers -/
theorem dt_lt {x y : Int} (hx : dt_in32 x) (hy : dt_in32 y) : Int32.ofInt x < Int32.ofInt y ↔ x < y := by
  rw [Int32.lt_iff_toInt_lt, Int32.toInt_ofInt_of_le hx.1 hx.2, Int32.toInt_ofInt_of_le hy.1 hy.2]
theorem dt_le {x y : Int} (hx : dt_in32 x) (hy : dt_in32 y) : Int32.ofInt x ≤ Int32.ofInt y ↔ x ≤ y := by
  rw [Int32.le_iff_toInt_le, Int32.toInt_ofInt_of_le hx.1 hx.2, Int32.toInt_ofInt_of_le hy.1 hy.2]
theorem dt_eq {x y : Int} (hx : dt_in32 x) (hy : dt_in32 y) : Int32.ofInt x = Int32.ofInt y ↔ x = y := by
  rw [← Int32.toInt_inj, Int32.toInt_ofInt_of_le hx.1 hx.2, Int32.toInt_ofInt_of_le hy.1 hy.2]
theorem dt_toInt {x : Int} (hx : dt_in32 x) : (Int32.ofInt x).toInt = x := Int32.toInt_ofInt_of_le hx.1 hx.2
theorem dt_vpin {i : Int} {n : Nat} (hi : dt_in32 i) (h0 : 0 ≤ i) (h1 : i < n) : vp_in (Int32.ofInt i) n := by
  rw [vp_in_iff, dt_toInt hi]
  exact ⟨h0, h1⟩
theorem dt_cl {i : Int} (hi : dt_in32 i) : (Int32.ofInt i).toNatClampNeg = i.toNat := by
  show (Int32.ofInt i).toInt.toNat = _
  rw [dt_toInt hi]
theorem dt_0 : (0 : Int32) = Int32.ofInt 0 := by decide
theorem dt_z : dt_in32 0 := by decide
end
section
section DTR
variable {M : dt_MD} {R : Room} {C : dt_Cx} {kc ks pc : Nat} {ls : List (Option dt_MV)} {st : List dt_MV} {sh : List dt_Shp} {σ : dt_Mem}
/-! integer operations that have no plain words -/
def dj_and (x y : Int) : Int := (Int32.ofInt x &&& Int32.ofInt y).toInt
def dj_or (x y : Int) : Int := (Int32.ofInt x ||| Int32.ofInt y).toInt
def dj_xor (x y : Int) : Int := (Int32.ofInt x ^^^ Int32.ofInt y).toInt
def dj_shl (x y : Int) : Int := (Int32.ofInt x <<< (Int32.ofInt y &&& 31)).toInt
def dj_shr (x y : Int) : Int := (Int32.ofInt x >>> (Int32.ofInt y &&& 31)).toInt
def dj_ushr (x y : Int) : Int := ((Int32.ofInt x).toUInt32 >>> ((Int32.ofInt y).toUInt32 &&& Int32.toUInt32 31)).toInt32.toInt
def dj_rem (x y : Int) : Int := (Int32.ofInt x - Int32.ofInt x / Int32.ofInt y * Int32.ofInt y).toInt
def dj_i2b (x : Int) : Int := (Int32.ofInt x).toInt8.toInt32.toInt
def dj_i2s (x : Int) : Int := (Int32.ofInt x).toInt16.toInt32.toInt
def dj_i2c (x : Int) : Int := ((Int32.ofInt x).toUInt32 % 65536).toInt32.toInt
def dj_land (x y : Int) : Int := (Int64.ofInt x &&& Int64.ofInt y).toInt
def dj_lor (x y : Int) : Int := (Int64.ofInt x ||| Int64.ofInt y).toInt
def dj_lshl (x y : Int) : Int := (Int64.ofInt x <<< ((Int32.ofInt y).toInt64 &&& 63)).toInt
def dj_lshr (x y : Int) : Int := (Int64.ofInt x >>> ((Int32.ofInt y).toInt64 &&& 63)).toInt
def dj_lrem (x y : Int) : Int := (Int64.ofInt x - Int64.ofInt x / Int64.ofInt y * Int64.ofInt y).toInt
def dj_cmp (x y : Int) : Int := if y < x then 1 else if x = y then 0 else -1
theorem dt_cmp_eq {x y : Int} (hx : dt_in64 x) (hy : dt_in64 y) : lg_cmp (Int64.ofInt x) (Int64.ofInt y) = Int32.ofInt (dj_cmp x y) := by
  have ex : (Int64.ofInt x).toInt = x := Int64.toInt_ofInt_of_le hx.1 hx.2
  have ey : (Int64.ofInt y).toInt = y := Int64.toInt_ofInt_of_le hy.1 hy.2
  unfold lg_cmp dj_cmp
  simp only [gt_iff_lt, Int64.lt_iff_toInt_lt, ← Int64.toInt_inj, ex, ey]
  split
  · rfl
  · split <;> rfl
theorem dt_i2l_eq {x : Int} (hx : dt_in32 x) : (Int32.ofInt x).toInt64 = Int64.ofInt x := by
  apply Int64.toInt_inj.mp
  rw [Int32.toInt_toInt64, dt_toInt hx, Int64.toInt_ofInt_of_le (by have := hx.1; omega) (by have := hx.2; omega)]
/-! locals -/
def dt_nol (ls : List (Option dt_MV)) (i : Nat) : Bool := match i with
  | 0 => true
  | j + 1 => match ls[j]? with
    | some (some (.inr (.inl _))) => false
    | _ => true
def dt_prs (B : Nat) (S : Nat → Nat) (ls : List (Option dt_MV)) : List (Nat × Value) := (List.range ls.length).filterMap fun i => match ls[i]? with
  | some (some v) => some (i, dt_tr B S v)
  | _ => none
theorem dt_prs_in {B : Nat} {S : Nat → Nat} {ls : List (Option dt_MV)} {i : Nat} {v : dt_MV} (h : ls[i]? = some (some v)) : (i, dt_tr B S v) ∈ dt_prs B S ls := by
  have hl := (List.getElem?_eq_some_iff.mp h).1
  exact List.mem_filterMap.mpr ⟨i, List.mem_range.mpr hl, by simp only [h]⟩
theorem dt_lv.has {B : Nat} {S : Nat → Nat} {lsA : Array Slot} {nL : Nat} {ls : List (Option dt_MV)} (L : dt_lv B S lsA nL ls) : lv_has lsA nL (dt_prs B S ls) := by
  refine ⟨L.1, L.2.1, fun q hq => ?_⟩
  obtain ⟨i, -, hi⟩ := List.mem_filterMap.mp hq
  cases hv : ls[i]? with
  | none => rw [hv] at hi; cases hi
  | some o =>
    rw [hv] at hi
    cases o with
    | none => cases hi
    | some v =>
      cases hi
      exact L.2.2 i v hv
theorem dt_cat2 {B : Nat} {S : Nat → Nat} {v : dt_MV} (h : (dt_tr B S v).category = 2) : ∃ x, v = dt_L x := by
  rcases v with x | x | x
  · cases h
  · exact ⟨x, rfl⟩
  · rcases x with _ | x | x <;> cases h
theorem dt_lv.set1 {B : Nat} {S : Nat → Nat} {lsA : Array Slot} {nL i : Nat} {ls : List (Option dt_MV)} {v : dt_MV} (hw : dt_nol ls i = true)
    (h : lv_has lsA nL ((i, dt_tr B S v) :: (dt_prs B S ls).filter (fun q => !(q.1 == i) && !(q.1 + 1 == i && q.2.category == 2)))) : dt_lv B S lsA nL (ls.set i (some v)) := by
  refine ⟨h.1, h.2.1, fun j w hj => ?_⟩
  by_cases hji : j = i
  · subst hji
    have hl : j < ls.length := by
      have := (List.getElem?_eq_some_iff.mp hj).1
      simpa using this
    rw [List.getElem?_set_self hl] at hj
    have e : v = w := Option.some.inj (Option.some.inj hj)
    rw [← e]
    exact h.2.2 (j, dt_tr B S v) List.mem_cons_self
  · rw [List.getElem?_set_ne (Ne.symm hji)] at hj
    refine h.2.2 (j, dt_tr B S w) (List.mem_cons_of_mem _ (List.mem_filter.mpr ⟨dt_prs_in hj, ?_⟩))
    simp only [Bool.and_eq_true, Bool.not_eq_true', beq_eq_false_iff_ne, ne_eq, Bool.and_eq_false_iff]
    refine ⟨hji, ?_⟩
    by_cases hc : (dt_tr B S w).category = 2
    · left
      intro e
      subst e
      obtain ⟨x, rfl⟩ := dt_cat2 hc
      simp [dt_nol, hj] at hw
    · exact Or.inr hc
theorem dt_lv.set2 {B : Nat} {S : Nat → Nat} {lsA : Array Slot} {nL i : Nat} {ls : List (Option dt_MV)} {v : dt_MV} (hw : dt_nol ls i = true)
    (h : lv_has lsA nL ((i, dt_tr B S v) :: (dt_prs B S ls).filter (fun q => !(q.1 == i) && (!(q.1 == i + 1) && !(q.1 + 1 == i && q.2.category == 2))))) : dt_lv B S lsA nL ((ls.set i (some v)).set (i + 1) none) := by
  refine ⟨h.1, h.2.1, fun j w hj => ?_⟩
  by_cases hj1 : j = i + 1
  · subst hj1
    rw [List.getElem?_set] at hj
    simp at hj
  · rw [List.getElem?_set_ne (Ne.symm hj1)] at hj
    by_cases hji : j = i
    · subst hji
      have hl : j < ls.length := by
        have := (List.getElem?_eq_some_iff.mp hj).1
        simpa using this
      rw [List.getElem?_set_self hl] at hj
      have e : v = w := Option.some.inj (Option.some.inj hj)
      rw [← e]
      exact h.2.2 (j, dt_tr B S v) List.mem_cons_self
    · rw [List.getElem?_set_ne (Ne.symm hji)] at hj
      refine h.2.2 (j, dt_tr B S w) (List.mem_cons_of_mem _ (List.mem_filter.mpr ⟨dt_prs_in hj, ?_⟩))
      simp only [Bool.and_eq_true, Bool.not_eq_true', beq_eq_false_iff_ne, ne_eq, Bool.and_eq_false_iff]
      refine ⟨hji, hj1, ?_⟩
      by_cases hc : (dt_tr B S w).category = 2
      · left
        intro e
        subst e
        obtain ⟨x, rfl⟩ := dt_cat2 hc
        simp [dt_nol, hj] at hw
      · exact Or.inr hc
/-! facts that a walk may use -/
theorem dt_wfV {st : List dt_MV} (k : dt_wf σ → dt_V M R C kc ks pc ls st sh σ) : dt_V M R C kc ks pc ls st sh σ := fun p l e s m args below meth c D dA S B H locs lsA Z F X P hS L => k P.1 p l e s m args below meth c D dA S B H locs lsA Z F X P hS L
theorem dt_wk {st : List dt_MV} {kc' ks' : Nat} (h1 : kc ≤ kc') (h2 : ks ≤ ks') (k : dt_V M R C kc' ks' pc ls st sh σ) : dt_V M R C kc ks pc ls st sh σ := fun p l e s m args below meth c D dA S B H locs lsA Z F X P hS L => W.widen h1 h2 (k p l e s m args below meth c D dA S B H locs lsA Z F X P hS L)
/-- fewer locals known -/
theorem dt_ls {st : List dt_MV} {ls' : List (Option dt_MV)} (h : ∀ (i : Nat) (v : dt_MV), ls'[i]? = some (some v) → ls[i]? = some (some v)) (k : dt_V M R C kc ks pc ls' st sh σ) : dt_V M R C kc ks pc ls st sh σ := fun p l e s m args below meth c D dA S B H locs lsA Z F X P hS L => k p l e s m args below meth c D dA S B H locs lsA Z F X P hS ⟨L.1, L.2.1, fun i v h' => L.2.2 i v (h i v h')⟩

theorem dt_iconst {n : Int} (hd : decode M.2.1 pc = .ok (.iconst n, 1)) (k : dt_V M R C kc ks (pc + 1) (ls) (dt_I n :: st) sh σ) : dt_V M R C kc ks pc ls (st) sh σ :=
  fun p l e s m args below meth c D dA S B H locs lsA Z F X P hS L => lv_iconst F.1 F.2.1 hd rfl (k p l e s m args below meth c D dA S B H locs lsA Z F X P hS L)
theorem dt_bipush {n : Int} (hd : decode M.2.1 pc = .ok (.bipush n, 2)) (hv : (Int8.ofInt n).toInt32 = Int32.ofInt n) (k : dt_V M R C kc ks (pc + 2) (ls) (dt_I n :: st) sh σ) : dt_V M R C kc ks pc ls (st) sh σ :=
  fun p l e s m args below meth c D dA S B H locs lsA Z F X P hS L => lv_bipush F.1 F.2.1 hd hv (k p l e s m args below meth c D dA S B H locs lsA Z F X P hS L)
theorem dt_sipush {n : Int} (hd : decode M.2.1 pc = .ok (.sipush n, 3)) (hv : (Int16.ofInt n).toInt32 = Int32.ofInt n) (k : dt_V M R C kc ks (pc + 3) (ls) (dt_I n :: st) sh σ) : dt_V M R C kc ks pc ls (st) sh σ :=
  fun p l e s m args below meth c D dA S B H locs lsA Z F X P hS L => lv_sipush F.1 F.2.1 hd hv (k p l e s m args below meth c D dA S B H locs lsA Z F X P hS L)
theorem dt_lconst {n : Fin 2} {x : Int} (hd : decode M.2.1 pc = .ok (.lconst n, 1)) (hv : Int64.ofNat (n : Nat) = Int64.ofInt x) (k : dt_V M R C kc ks (pc + 1) (ls) (dt_L x :: st) sh σ) : dt_V M R C kc ks pc ls (st) sh σ :=
  fun p l e s m args below meth c D dA S B H locs lsA Z F X P hS L => lv_lconst F.1 F.2.1 hd hv (k p l e s m args below meth c D dA S B H locs lsA Z F X P hS L)
theorem dt_ldc {idx : Nat} {x : Int} (hd : decode M.2.1 pc = .ok (.ldc idx, 2)) (hm : Cond.constant M.1.cls idx (Int32.ofInt x) ∈ dt_tbl) (k : dt_V M R C kc ks (pc + 2) (ls) (dt_I x :: st) sh σ) : dt_V M R C kc ks pc ls (st) sh σ :=
  fun p l e s m args below meth c D dA S B H locs lsA Z F X P hS L => lv_ldc F.1 F.2.1 F.2.2.2.2.1 (F.2.2.2.2.2.2.1 _ hm) hd (k p l e s m args below meth c D dA S B H locs lsA Z F X P hS L)
theorem dt_ldcw {idx : Nat} {x : Int} (hd : decode M.2.1 pc = .ok (.ldc_w idx, 3)) (hm : Cond.constant M.1.cls idx (Int32.ofInt x) ∈ dt_tbl) (k : dt_V M R C kc ks (pc + 3) (ls) (dt_I x :: st) sh σ) : dt_V M R C kc ks pc ls (st) sh σ :=
  fun p l e s m args below meth c D dA S B H locs lsA Z F X P hS L => lv_ldcw F.1 F.2.1 F.2.2.2.2.1 (F.2.2.2.2.2.2.1 _ hm) hd (k p l e s m args below meth c D dA S B H locs lsA Z F X P hS L)
theorem dt_ldc2 {idx : Nat} {x : Int} (hd : decode M.2.1 pc = .ok (.ldc2_w idx, 3)) (hm : Cond.constantLong M.1.cls idx (Int64.ofInt x) ∈ dt_tbl) (k : dt_V M R C kc ks (pc + 3) (ls) (dt_L x :: st) sh σ) : dt_V M R C kc ks pc ls (st) sh σ :=
  fun p l e s m args below meth c D dA S B H locs lsA Z F X P hS L => lv_ldc2 F.1 F.2.1 F.2.2.2.2.1 (F.2.2.2.2.2.2.1 _ hm) hd (k p l e s m args below meth c D dA S B H locs lsA Z F X P hS L)
theorem dt_ldcS {idx : Nat} (i : Nat) (hd : decode M.2.1 pc = .ok (.ldc idx, 2)) (hi : i < 8) (hc : M.1.cls = "DayTongues$Tape") (hx : idx = dt_si i) (k : dt_V M R C kc ks (pc + 2) (ls) (dt_S (2 * i) :: st) sh σ) : dt_V M R C kc ks pc ls (st) sh σ :=
  fun p l e s m args below meth c D dA S B H locs lsA Z F X P hS L => va_ldcS F.1 F.2.1 F.2.2.2.2.1 (by rw [hc, hx]; exact F.2.2.2.2.2.2.2.2.2.1.2.1 i hi) hd (k p l e s m args below meth c D dA S B H locs lsA Z F X P hS L)
theorem dt_iloadn {q : Fin 4} {i : Nat} {x : Int} (hd : decode M.2.1 pc = .ok (.iload_n q, 1)) (hi : (q : Nat) = i) (hl : ls[i]? = some (some (dt_I x))) (k : dt_V M R C kc ks (pc + 1) (ls) (dt_I x :: st) sh σ) : dt_V M R C kc ks pc ls (st) sh σ :=
  fun p l e s m args below meth c D dA S B H locs lsA Z F X P hS L => lv_iload_n F.1 F.2.1 hd hi (L.2.2 i _ hl) (k p l e s m args below meth c D dA S B H locs lsA Z F X P hS L)
theorem dt_iload {i : Nat} {x : Int} (hd : decode M.2.1 pc = .ok (.iload i, 2)) (hl : ls[i]? = some (some (dt_I x))) (k : dt_V M R C kc ks (pc + 2) (ls) (dt_I x :: st) sh σ) : dt_V M R C kc ks pc ls (st) sh σ :=
  fun p l e s m args below meth c D dA S B H locs lsA Z F X P hS L => lv_iload F.1 F.2.1 hd (L.2.2 i _ hl) (k p l e s m args below meth c D dA S B H locs lsA Z F X P hS L)
theorem dt_lloadn {q : Fin 4} {i : Nat} {x : Int} (hd : decode M.2.1 pc = .ok (.lload_n q, 1)) (hi : (q : Nat) = i) (hl : ls[i]? = some (some (dt_L x))) (k : dt_V M R C kc ks (pc + 1) (ls) (dt_L x :: st) sh σ) : dt_V M R C kc ks pc ls (st) sh σ :=
  fun p l e s m args below meth c D dA S B H locs lsA Z F X P hS L => lv_lload_n F.1 F.2.1 hd hi (L.2.2 i _ hl) (k p l e s m args below meth c D dA S B H locs lsA Z F X P hS L)
theorem dt_lload {i : Nat} {x : Int} (hd : decode M.2.1 pc = .ok (.lload i, 2)) (hl : ls[i]? = some (some (dt_L x))) (k : dt_V M R C kc ks (pc + 2) (ls) (dt_L x :: st) sh σ) : dt_V M R C kc ks pc ls (st) sh σ :=
  fun p l e s m args below meth c D dA S B H locs lsA Z F X P hS L => lv_lload F.1 F.2.1 hd (L.2.2 i _ hl) (k p l e s m args below meth c D dA S B H locs lsA Z F X P hS L)
theorem dt_aloadn {q : Fin 4} {i x : Nat} (hd : decode M.2.1 pc = .ok (.aload_n q, 1)) (hi : (q : Nat) = i) (hl : ls[i]? = some (some (dt_R x))) (k : dt_V M R C kc ks (pc + 1) (ls) (dt_R x :: st) sh σ) : dt_V M R C kc ks pc ls (st) sh σ :=
  fun p l e s m args below meth c D dA S B H locs lsA Z F X P hS L => lv_aload_n F.1 F.2.1 hd hi (L.2.2 i _ hl) (k p l e s m args below meth c D dA S B H locs lsA Z F X P hS L)
theorem dt_aload {i x : Nat} (hd : decode M.2.1 pc = .ok (.aload i, 2)) (hl : ls[i]? = some (some (dt_R x))) (k : dt_V M R C kc ks (pc + 2) (ls) (dt_R x :: st) sh σ) : dt_V M R C kc ks pc ls (st) sh σ :=
  fun p l e s m args below meth c D dA S B H locs lsA Z F X P hS L => lv_aload F.1 F.2.1 hd (L.2.2 i _ hl) (k p l e s m args below meth c D dA S B H locs lsA Z F X P hS L)
theorem dt_astoren {q : Fin 4} {i x : Nat} (hd : decode M.2.1 pc = .ok (.astore_n q, 1)) (hi : (q : Nat) = i) (hn : i < M.2.2.1) (hw : dt_nol ls i = true) (k : dt_V M R C kc ks (pc + 1) (ls.set i (some (dt_R x))) (st) sh σ) : dt_V M R C kc ks pc ls (dt_R x :: st) sh σ :=
  fun p l e s m args below meth c D dA S B H locs lsA Z F X P hS L => lv_astore_n F.1 F.2.1 hd hi L.has hn rfl (fun lsB hB => k p l e s m args below meth c D dA S B H locs lsB Z F X P hS (dt_lv.set1 hw hB))
theorem dt_astore {i x : Nat} (hd : decode M.2.1 pc = .ok (.astore i, 2)) (hn : i < M.2.2.1) (hw : dt_nol ls i = true) (k : dt_V M R C kc ks (pc + 2) (ls.set i (some (dt_R x))) (st) sh σ) : dt_V M R C kc ks pc ls (dt_R x :: st) sh σ :=
  fun p l e s m args below meth c D dA S B H locs lsA Z F X P hS L => lv_astore F.1 F.2.1 hd L.has hn rfl (fun lsB hB => k p l e s m args below meth c D dA S B H locs lsB Z F X P hS (dt_lv.set1 hw hB))
theorem dt_aloadSn {q : Fin 4} {i x : Nat} (hd : decode M.2.1 pc = .ok (.aload_n q, 1)) (hi : (q : Nat) = i) (hl : ls[i]? = some (some (dt_S x))) (k : dt_V M R C kc ks (pc + 1) (ls) (dt_S x :: st) sh σ) : dt_V M R C kc ks pc ls (st) sh σ :=
  fun p l e s m args below meth c D dA S B H locs lsA Z F X P hS L => lv_aload_n F.1 F.2.1 hd hi (L.2.2 i _ hl) (k p l e s m args below meth c D dA S B H locs lsA Z F X P hS L)
theorem dt_aloadS {i x : Nat} (hd : decode M.2.1 pc = .ok (.aload i, 2)) (hl : ls[i]? = some (some (dt_S x))) (k : dt_V M R C kc ks (pc + 2) (ls) (dt_S x :: st) sh σ) : dt_V M R C kc ks pc ls (st) sh σ :=
  fun p l e s m args below meth c D dA S B H locs lsA Z F X P hS L => lv_aload F.1 F.2.1 hd (L.2.2 i _ hl) (k p l e s m args below meth c D dA S B H locs lsA Z F X P hS L)
theorem dt_astoreSn {q : Fin 4} {i x : Nat} (hd : decode M.2.1 pc = .ok (.astore_n q, 1)) (hi : (q : Nat) = i) (hn : i < M.2.2.1) (hw : dt_nol ls i = true) (k : dt_V M R C kc ks (pc + 1) (ls.set i (some (dt_S x))) (st) sh σ) : dt_V M R C kc ks pc ls (dt_S x :: st) sh σ :=
  fun p l e s m args below meth c D dA S B H locs lsA Z F X P hS L => lv_astore_n F.1 F.2.1 hd hi L.has hn rfl (fun lsB hB => k p l e s m args below meth c D dA S B H locs lsB Z F X P hS (dt_lv.set1 hw hB))
theorem dt_astoreS {i x : Nat} (hd : decode M.2.1 pc = .ok (.astore i, 2)) (hn : i < M.2.2.1) (hw : dt_nol ls i = true) (k : dt_V M R C kc ks (pc + 2) (ls.set i (some (dt_S x))) (st) sh σ) : dt_V M R C kc ks pc ls (dt_S x :: st) sh σ :=
  fun p l e s m args below meth c D dA S B H locs lsA Z F X P hS L => lv_astore F.1 F.2.1 hd L.has hn rfl (fun lsB hB => k p l e s m args below meth c D dA S B H locs lsB Z F X P hS (dt_lv.set1 hw hB))
theorem dt_istoren {q : Fin 4} {i : Nat} {x : Int} (hd : decode M.2.1 pc = .ok (.istore_n q, 1)) (hi : (q : Nat) = i) (hn : i < M.2.2.1) (hw : dt_nol ls i = true) (k : dt_V M R C kc ks (pc + 1) (ls.set i (some (dt_I x))) (st) sh σ) : dt_V M R C kc ks pc ls (dt_I x :: st) sh σ :=
  fun p l e s m args below meth c D dA S B H locs lsA Z F X P hS L => lv_istore_n F.1 F.2.1 hd hi L.has hn rfl (fun lsB hB => k p l e s m args below meth c D dA S B H locs lsB Z F X P hS (dt_lv.set1 hw hB))
theorem dt_istore {i : Nat} {x : Int} (hd : decode M.2.1 pc = .ok (.istore i, 2)) (hn : i < M.2.2.1) (hw : dt_nol ls i = true) (k : dt_V M R C kc ks (pc + 2) (ls.set i (some (dt_I x))) (st) sh σ) : dt_V M R C kc ks pc ls (dt_I x :: st) sh σ :=
  fun p l e s m args below meth c D dA S B H locs lsA Z F X P hS L => lv_istore F.1 F.2.1 hd L.has hn rfl (fun lsB hB => k p l e s m args below meth c D dA S B H locs lsB Z F X P hS (dt_lv.set1 hw hB))
theorem dt_lstoren {q : Fin 4} {i : Nat} {x : Int} (hd : decode M.2.1 pc = .ok (.lstore_n q, 1)) (hi : (q : Nat) = i) (hn : i + 1 < M.2.2.1) (hw : dt_nol ls i = true) (k : dt_V M R C kc ks (pc + 1) ((ls.set i (some (dt_L x))).set (i + 1) none) (st) sh σ) : dt_V M R C kc ks pc ls (dt_L x :: st) sh σ :=
  fun p l e s m args below meth c D dA S B H locs lsA Z F X P hS L => lv_lstore_n F.1 F.2.1 hd hi L.has hn rfl (fun lsB hB => k p l e s m args below meth c D dA S B H locs lsB Z F X P hS (dt_lv.set2 hw hB))
theorem dt_iinc {i : Nat} {n x : Int} (hd : decode M.2.1 pc = .ok (.iinc i n, 3)) (hl : ls[i]? = some (some (dt_I x))) (hn : i < M.2.2.1) (hw : dt_nol ls i = true) (k : dt_V M R C kc ks (pc + 3) (ls.set i (some (dt_I (x + n)))) st sh σ) : dt_V M R C kc ks pc ls st sh σ := by
  intro p l e s m args below meth c D dA S B H locs lsA Z F X P hS L
  obtain ⟨j, hj⟩ := List.getElem?_of_mem (dt_prs_in (B := B) (S := S) hl)
  exact lv_iinc F.1 F.2.1 hd L.has (k := j) hj (Int32.ofInt_add x n).symm hn rfl (fun lsB hB => k p l e s m args below meth c D dA S B H locs lsB Z F X P hS (dt_lv.set1 hw hB))
theorem dt_iadd {x y : Int} (hd : decode M.2.1 pc = .ok (.iadd, 1)) (k : dt_V M R C kc ks (pc + 1) ls (dt_I (x + y) :: st) sh σ) : dt_V M R C kc ks pc ls (dt_I y :: dt_I x :: st) sh σ := by
  intro p l e s m args below meth c D dA S B H locs lsA Z F X P hS L
  have h := k p l e s m args below meth c D dA S B H locs lsA Z F X P hS L
  refine lv_iadd F.1 F.2.1 hd ?_
  rw [← Int32.ofInt_add]; exact h
theorem dt_isub {x y : Int} (hd : decode M.2.1 pc = .ok (.isub, 1)) (k : dt_V M R C kc ks (pc + 1) ls (dt_I (x - y) :: st) sh σ) : dt_V M R C kc ks pc ls (dt_I y :: dt_I x :: st) sh σ := by
  intro p l e s m args below meth c D dA S B H locs lsA Z F X P hS L
  have h := k p l e s m args below meth c D dA S B H locs lsA Z F X P hS L
  refine lv_isub F.1 F.2.1 hd ?_
  rw [← Int32.ofInt_sub]; exact h
theorem dt_imul {x y : Int} (hd : decode M.2.1 pc = .ok (.imul, 1)) (k : dt_V M R C kc ks (pc + 1) ls (dt_I (x * y) :: st) sh σ) : dt_V M R C kc ks pc ls (dt_I y :: dt_I x :: st) sh σ := by
  intro p l e s m args below meth c D dA S B H locs lsA Z F X P hS L
  have h := k p l e s m args below meth c D dA S B H locs lsA Z F X P hS L
  refine lv_imul F.1 F.2.1 hd ?_
  rw [← Int32.ofInt_mul]; exact h
theorem dt_ineg {x y : Int} (hd : decode M.2.1 pc = .ok (.ineg, 1)) (k : dt_V M R C kc ks (pc + 1) ls (dt_I (-x) :: st) sh σ) : dt_V M R C kc ks pc ls (dt_I x :: st) sh σ := by
  intro p l e s m args below meth c D dA S B H locs lsA Z F X P hS L
  have h := k p l e s m args below meth c D dA S B H locs lsA Z F X P hS L
  refine lv_ineg F.1 F.2.1 hd ?_
  rw [← Int32.ofInt_neg]; exact h
theorem dt_iand {x y : Int} (hd : decode M.2.1 pc = .ok (.iand, 1)) (k : dt_V M R C kc ks (pc + 1) ls (dt_I (dj_and x y) :: st) sh σ) : dt_V M R C kc ks pc ls (dt_I y :: dt_I x :: st) sh σ := by
  intro p l e s m args below meth c D dA S B H locs lsA Z F X P hS L
  have h := k p l e s m args below meth c D dA S B H locs lsA Z F X P hS L
  refine lv_iand F.1 F.2.1 hd ?_
  have e : dt_tr B S (dt_I (dj_and x y)) = _ := congrArg Value.int (Int32.ofInt_toInt _)
  rw [List.map_cons, e] at h
  exact h
theorem dt_ior {x y : Int} (hd : decode M.2.1 pc = .ok (.ior, 1)) (k : dt_V M R C kc ks (pc + 1) ls (dt_I (dj_or x y) :: st) sh σ) : dt_V M R C kc ks pc ls (dt_I y :: dt_I x :: st) sh σ := by
  intro p l e s m args below meth c D dA S B H locs lsA Z F X P hS L
  have h := k p l e s m args below meth c D dA S B H locs lsA Z F X P hS L
  refine lv_ior F.1 F.2.1 hd ?_
  have e : dt_tr B S (dt_I (dj_or x y)) = _ := congrArg Value.int (Int32.ofInt_toInt _)
  rw [List.map_cons, e] at h
  exact h
theorem dt_ixor {x y : Int} (hd : decode M.2.1 pc = .ok (.ixor, 1)) (k : dt_V M R C kc ks (pc + 1) ls (dt_I (dj_xor x y) :: st) sh σ) : dt_V M R C kc ks pc ls (dt_I y :: dt_I x :: st) sh σ := by
  intro p l e s m args below meth c D dA S B H locs lsA Z F X P hS L
  have h := k p l e s m args below meth c D dA S B H locs lsA Z F X P hS L
  refine lv_ixor F.1 F.2.1 hd ?_
  have e : dt_tr B S (dt_I (dj_xor x y)) = _ := congrArg Value.int (Int32.ofInt_toInt _)
  rw [List.map_cons, e] at h
  exact h
theorem dt_ishl {x y : Int} (hd : decode M.2.1 pc = .ok (.ishl, 1)) (k : dt_V M R C kc ks (pc + 1) ls (dt_I (dj_shl x y) :: st) sh σ) : dt_V M R C kc ks pc ls (dt_I y :: dt_I x :: st) sh σ := by
  intro p l e s m args below meth c D dA S B H locs lsA Z F X P hS L
  have h := k p l e s m args below meth c D dA S B H locs lsA Z F X P hS L
  refine lv_ishl F.1 F.2.1 hd ?_
  have e : dt_tr B S (dt_I (dj_shl x y)) = _ := congrArg Value.int (Int32.ofInt_toInt _)
  rw [List.map_cons, e] at h
  exact h
theorem dt_ishr {x y : Int} (hd : decode M.2.1 pc = .ok (.ishr, 1)) (k : dt_V M R C kc ks (pc + 1) ls (dt_I (dj_shr x y) :: st) sh σ) : dt_V M R C kc ks pc ls (dt_I y :: dt_I x :: st) sh σ := by
  intro p l e s m args below meth c D dA S B H locs lsA Z F X P hS L
  have h := k p l e s m args below meth c D dA S B H locs lsA Z F X P hS L
  refine lv_ishr F.1 F.2.1 hd ?_
  have e : dt_tr B S (dt_I (dj_shr x y)) = _ := congrArg Value.int (Int32.ofInt_toInt _)
  rw [List.map_cons, e] at h
  exact h
theorem dt_iushr {x y : Int} (hd : decode M.2.1 pc = .ok (.iushr, 1)) (k : dt_V M R C kc ks (pc + 1) ls (dt_I (dj_ushr x y) :: st) sh σ) : dt_V M R C kc ks pc ls (dt_I y :: dt_I x :: st) sh σ := by
  intro p l e s m args below meth c D dA S B H locs lsA Z F X P hS L
  have h := k p l e s m args below meth c D dA S B H locs lsA Z F X P hS L
  refine lv_iushr F.1 F.2.1 hd rfl ?_
  have e : dt_tr B S (dt_I (dj_ushr x y)) = _ := congrArg Value.int (Int32.ofInt_toInt _)
  rw [List.map_cons, e] at h
  exact h
theorem dt_irem {x y : Int} (hd : decode M.2.1 pc = .ok (.irem, 1)) (hy : dt_in32 y) (h0 : y ≠ 0) (k : dt_V M R C kc ks (pc + 1) ls (dt_I (dj_rem x y) :: st) sh σ) : dt_V M R C kc ks pc ls (dt_I y :: dt_I x :: st) sh σ := by
  intro p l e s m args below meth c D dA S B H locs lsA Z F X P hS L
  have h := k p l e s m args below meth c D dA S B H locs lsA Z F X P hS L
  refine lv_irem F.1 F.2.1 hd (fun q => h0 ((dt_eq hy dt_z).mp (by rw [q, dt_0]))) ?_
  have e : dt_tr B S (dt_I (dj_rem x y)) = _ := congrArg Value.int (Int32.ofInt_toInt _)
  rw [List.map_cons, e] at h
  exact h
theorem dt_i2b {x y : Int} (hd : decode M.2.1 pc = .ok (.i2b, 1)) (k : dt_V M R C kc ks (pc + 1) ls (dt_I (dj_i2b x) :: st) sh σ) : dt_V M R C kc ks pc ls (dt_I x :: st) sh σ := by
  intro p l e s m args below meth c D dA S B H locs lsA Z F X P hS L
  have h := k p l e s m args below meth c D dA S B H locs lsA Z F X P hS L
  refine lv_i2b F.1 F.2.1 hd rfl ?_
  have e : dt_tr B S (dt_I (dj_i2b x)) = _ := congrArg Value.int (Int32.ofInt_toInt _)
  rw [List.map_cons, e] at h
  exact h
theorem dt_i2s {x y : Int} (hd : decode M.2.1 pc = .ok (.i2s, 1)) (k : dt_V M R C kc ks (pc + 1) ls (dt_I (dj_i2s x) :: st) sh σ) : dt_V M R C kc ks pc ls (dt_I x :: st) sh σ := by
  intro p l e s m args below meth c D dA S B H locs lsA Z F X P hS L
  have h := k p l e s m args below meth c D dA S B H locs lsA Z F X P hS L
  refine lv_i2s F.1 F.2.1 hd rfl ?_
  have e : dt_tr B S (dt_I (dj_i2s x)) = _ := congrArg Value.int (Int32.ofInt_toInt _)
  rw [List.map_cons, e] at h
  exact h
theorem dt_i2c {x y : Int} (hd : decode M.2.1 pc = .ok (.i2c, 1)) (k : dt_V M R C kc ks (pc + 1) ls (dt_I (dj_i2c x) :: st) sh σ) : dt_V M R C kc ks pc ls (dt_I x :: st) sh σ := by
  intro p l e s m args below meth c D dA S B H locs lsA Z F X P hS L
  have h := k p l e s m args below meth c D dA S B H locs lsA Z F X P hS L
  refine lv_i2c F.1 F.2.1 hd rfl ?_
  have e : dt_tr B S (dt_I (dj_i2c x)) = _ := congrArg Value.int (Int32.ofInt_toInt _)
  rw [List.map_cons, e] at h
  exact h
theorem dt_i2l {x y : Int} (hd : decode M.2.1 pc = .ok (.i2l, 1)) (hx : dt_in32 x) (k : dt_V M R C kc ks (pc + 1) ls (dt_L x :: st) sh σ) : dt_V M R C kc ks pc ls (dt_I x :: st) sh σ := by
  intro p l e s m args below meth c D dA S B H locs lsA Z F X P hS L
  have h := k p l e s m args below meth c D dA S B H locs lsA Z F X P hS L
  refine lv_i2l F.1 F.2.1 hd (dt_i2l_eq hx) ?_
  exact h
theorem dt_l2i {x y : Int} (hd : decode M.2.1 pc = .ok (.l2i, 1)) (k : dt_V M R C kc ks (pc + 1) ls (dt_I x :: st) sh σ) : dt_V M R C kc ks pc ls (dt_L x :: st) sh σ := by
  intro p l e s m args below meth c D dA S B H locs lsA Z F X P hS L
  have h := k p l e s m args below meth c D dA S B H locs lsA Z F X P hS L
  refine lv_l2i F.1 F.2.1 hd Int64.toInt32_ofInt ?_
  exact h
theorem dt_ladd {x y : Int} (hd : decode M.2.1 pc = .ok (.ladd, 1)) (k : dt_V M R C kc ks (pc + 1) ls (dt_L (x + y) :: st) sh σ) : dt_V M R C kc ks pc ls (dt_L y :: dt_L x :: st) sh σ := by
  intro p l e s m args below meth c D dA S B H locs lsA Z F X P hS L
  have h := k p l e s m args below meth c D dA S B H locs lsA Z F X P hS L
  refine lv_ladd F.1 F.2.1 hd ?_
  rw [← Int64.ofInt_add]; exact h
theorem dt_lmul {x y : Int} (hd : decode M.2.1 pc = .ok (.lmul, 1)) (k : dt_V M R C kc ks (pc + 1) ls (dt_L (x * y) :: st) sh σ) : dt_V M R C kc ks pc ls (dt_L y :: dt_L x :: st) sh σ := by
  intro p l e s m args below meth c D dA S B H locs lsA Z F X P hS L
  have h := k p l e s m args below meth c D dA S B H locs lsA Z F X P hS L
  refine lv_lmul F.1 F.2.1 hd ?_
  rw [← Int64.ofInt_mul]; exact h
theorem dt_land {x y : Int} (hd : decode M.2.1 pc = .ok (.land, 1)) (k : dt_V M R C kc ks (pc + 1) ls (dt_L (dj_land x y) :: st) sh σ) : dt_V M R C kc ks pc ls (dt_L y :: dt_L x :: st) sh σ := by
  intro p l e s m args below meth c D dA S B H locs lsA Z F X P hS L
  have h := k p l e s m args below meth c D dA S B H locs lsA Z F X P hS L
  refine lv_land F.1 F.2.1 hd ?_
  have e : dt_tr B S (dt_L (dj_land x y)) = _ := congrArg Value.long (Int64.ofInt_toInt _)
  rw [List.map_cons, e] at h
  exact h
theorem dt_lor {x y : Int} (hd : decode M.2.1 pc = .ok (.lor, 1)) (k : dt_V M R C kc ks (pc + 1) ls (dt_L (dj_lor x y) :: st) sh σ) : dt_V M R C kc ks pc ls (dt_L y :: dt_L x :: st) sh σ := by
  intro p l e s m args below meth c D dA S B H locs lsA Z F X P hS L
  have h := k p l e s m args below meth c D dA S B H locs lsA Z F X P hS L
  refine lv_lor F.1 F.2.1 hd ?_
  have e : dt_tr B S (dt_L (dj_lor x y)) = _ := congrArg Value.long (Int64.ofInt_toInt _)
  rw [List.map_cons, e] at h
  exact h
theorem dt_lshl {x y : Int} (hd : decode M.2.1 pc = .ok (.lshl, 1)) (k : dt_V M R C kc ks (pc + 1) ls (dt_L (dj_lshl x y) :: st) sh σ) : dt_V M R C kc ks pc ls (dt_I y :: dt_L x :: st) sh σ := by
  intro p l e s m args below meth c D dA S B H locs lsA Z F X P hS L
  have h := k p l e s m args below meth c D dA S B H locs lsA Z F X P hS L
  refine lv_lshl F.1 F.2.1 hd rfl ?_
  have e : dt_tr B S (dt_L (dj_lshl x y)) = _ := congrArg Value.long (Int64.ofInt_toInt _)
  rw [List.map_cons, e] at h
  exact h
theorem dt_lshr {x y : Int} (hd : decode M.2.1 pc = .ok (.lshr, 1)) (k : dt_V M R C kc ks (pc + 1) ls (dt_L (dj_lshr x y) :: st) sh σ) : dt_V M R C kc ks pc ls (dt_I y :: dt_L x :: st) sh σ := by
  intro p l e s m args below meth c D dA S B H locs lsA Z F X P hS L
  have h := k p l e s m args below meth c D dA S B H locs lsA Z F X P hS L
  refine lv_lshr F.1 F.2.1 hd rfl ?_
  have e : dt_tr B S (dt_L (dj_lshr x y)) = _ := congrArg Value.long (Int64.ofInt_toInt _)
  rw [List.map_cons, e] at h
  exact h
theorem dt_lrem {x y : Int} (hd : decode M.2.1 pc = .ok (.lrem, 1)) (hy : dt_in64 y) (h0 : y ≠ 0) (k : dt_V M R C kc ks (pc + 1) ls (dt_L (dj_lrem x y) :: st) sh σ) : dt_V M R C kc ks pc ls (dt_L y :: dt_L x :: st) sh σ := by
  intro p l e s m args below meth c D dA S B H locs lsA Z F X P hS L
  have h := k p l e s m args below meth c D dA S B H locs lsA Z F X P hS L
  refine lv_lrem F.1 F.2.1 hd (fun q => h0 (by have e := congrArg Int64.toInt q; rw [Int64.toInt_ofInt_of_le hy.1 hy.2] at e; exact e)) ?_
  have e : dt_tr B S (dt_L (dj_lrem x y)) = _ := congrArg Value.long (Int64.ofInt_toInt _)
  rw [List.map_cons, e] at h
  exact h
theorem dt_lcmp {x y : Int} (hd : decode M.2.1 pc = .ok (.lcmp, 1)) (hx : dt_in64 x) (hy : dt_in64 y) (k : dt_V M R C kc ks (pc + 1) ls (dt_I (dj_cmp x y) :: st) sh σ) : dt_V M R C kc ks pc ls (dt_L y :: dt_L x :: st) sh σ := by
  intro p l e s m args below meth c D dA S B H locs lsA Z F X P hS L
  have h := k p l e s m args below meth c D dA S B H locs lsA Z F X P hS L
  refine W.lcmp F.1 F.2.1 hd ?_
  rw [dt_cmp_eq hx hy]; exact h
theorem dt_dupI {x : Int} (hd : decode M.2.1 pc = .ok (.dup, 1)) (k : dt_V M R C kc ks (pc + 1) (ls) (dt_I x :: dt_I x :: st) sh σ) : dt_V M R C kc ks pc ls (dt_I x :: st) sh σ :=
  fun p l e s m args below meth c D dA S B H locs lsA Z F X P hS L => lv_dup F.1 F.2.1 hd rfl (k p l e s m args below meth c D dA S B H locs lsA Z F X P hS L)
theorem dt_dupR {x : Nat} (hd : decode M.2.1 pc = .ok (.dup, 1)) (k : dt_V M R C kc ks (pc + 1) (ls) (dt_R x :: dt_R x :: st) sh σ) : dt_V M R C kc ks pc ls (dt_R x :: st) sh σ :=
  fun p l e s m args below meth c D dA S B H locs lsA Z F X P hS L => lv_dup F.1 F.2.1 hd rfl (k p l e s m args below meth c D dA S B H locs lsA Z F X P hS L)
theorem dt_dupxI {x : Int} {y : Nat} (hd : decode M.2.1 pc = .ok (.dup_x1, 1)) (k : dt_V M R C kc ks (pc + 1) (ls) (dt_I x :: dt_R y :: dt_I x :: st) sh σ) : dt_V M R C kc ks pc ls (dt_I x :: dt_R y :: st) sh σ :=
  fun p l e s m args below meth c D dA S B H locs lsA Z F X P hS L => lv_dup_x1 F.1 F.2.1 hd rfl rfl (k p l e s m args below meth c D dA S B H locs lsA Z F X P hS L)
theorem dt_dup2 {x : Int} {y : Nat} (hd : decode M.2.1 pc = .ok (.dup2, 1)) (k : dt_V M R C kc ks (pc + 1) (ls) (dt_I x :: dt_R y :: dt_I x :: dt_R y :: st) sh σ) : dt_V M R C kc ks pc ls (dt_I x :: dt_R y :: st) sh σ :=
  fun p l e s m args below meth c D dA S B H locs lsA Z F X P hS L => lv_dup2_11 F.1 F.2.1 hd rfl rfl (k p l e s m args below meth c D dA S B H locs lsA Z F X P hS L)
theorem dt_popI {x : Int} (hd : decode M.2.1 pc = .ok (.pop, 1)) (k : dt_V M R C kc ks (pc + 1) (ls) (st) sh σ) : dt_V M R C kc ks pc ls (dt_I x :: st) sh σ :=
  fun p l e s m args below meth c D dA S B H locs lsA Z F X P hS L => lv_pop F.1 F.2.1 hd rfl (k p l e s m args below meth c D dA S B H locs lsA Z F X P hS L)
theorem dt_null  (hd : decode M.2.1 pc = .ok (.aconst_null, 1)) (k : dt_V M R C kc ks (pc + 1) (ls) (dt_N :: st) sh σ) : dt_V M R C kc ks pc ls (st) sh σ :=
  fun p l e s m args below meth c D dA S B H locs lsA Z F X P hS L => lv_null F.1 F.2.1 hd  (k p l e s m args below meth c D dA S B H locs lsA Z F X P hS L)
theorem dt_if_eq {x : Int} {off : Int} {tgt : Nat} (hd : decode M.2.1 pc = .ok (.ifCond .eq off, 3)) (ht : (pc : Int) + off = (tgt : Int)) (hx : dt_in32 x) (kt : x = 0 → dt_V M R C kc ks tgt ls st sh σ) (kf : ¬ x = 0 → dt_V M R C kc ks (pc + 3) ls st sh σ) : dt_V M R C kc ks pc ls (dt_I x :: st) sh σ :=
  fun p l e s m args below meth c D dA S B H locs lsA Z F X P hS L => lv_if_eq F.1 F.2.1 hd ht (fun q => kt ((dt_eq hx dt_z).mp q) p l e s m args below meth c D dA S B H locs lsA Z F X P hS L) (fun q => kf ((fun z => q ((dt_eq hx dt_z).mpr z))) p l e s m args below meth c D dA S B H locs lsA Z F X P hS L)
theorem dt_cm_eq {x y : Int} {off : Int} {tgt : Nat} (hd : decode M.2.1 pc = .ok (.if_icmp .eq off, 3)) (ht : (pc : Int) + off = (tgt : Int)) (hx : dt_in32 x) (hy : dt_in32 y) (kt : x = y → dt_V M R C kc ks tgt ls st sh σ) (kf : ¬ x = y → dt_V M R C kc ks (pc + 3) ls st sh σ) : dt_V M R C kc ks pc ls (dt_I y :: dt_I x :: st) sh σ :=
  fun p l e s m args below meth c D dA S B H locs lsA Z F X P hS L => lv_icmp_eq F.1 F.2.1 hd ht (fun q => kt ((dt_eq hx hy).mp q) p l e s m args below meth c D dA S B H locs lsA Z F X P hS L) (fun q => kf ((fun z => q ((dt_eq hx hy).mpr z))) p l e s m args below meth c D dA S B H locs lsA Z F X P hS L)
theorem dt_if_ne {x : Int} {off : Int} {tgt : Nat} (hd : decode M.2.1 pc = .ok (.ifCond .ne off, 3)) (ht : (pc : Int) + off = (tgt : Int)) (hx : dt_in32 x) (kt : ¬ x = 0 → dt_V M R C kc ks tgt ls st sh σ) (kf : x = 0 → dt_V M R C kc ks (pc + 3) ls st sh σ) : dt_V M R C kc ks pc ls (dt_I x :: st) sh σ :=
  fun p l e s m args below meth c D dA S B H locs lsA Z F X P hS L => lv_if_ne F.1 F.2.1 hd ht (fun q => kt ((not_congr (dt_eq hx dt_z)).mp q) p l e s m args below meth c D dA S B H locs lsA Z F X P hS L) (fun q => kf ((dt_eq hx dt_z).mp q) p l e s m args below meth c D dA S B H locs lsA Z F X P hS L)
theorem dt_cm_ne {x y : Int} {off : Int} {tgt : Nat} (hd : decode M.2.1 pc = .ok (.if_icmp .ne off, 3)) (ht : (pc : Int) + off = (tgt : Int)) (hx : dt_in32 x) (hy : dt_in32 y) (kt : ¬ x = y → dt_V M R C kc ks tgt ls st sh σ) (kf : x = y → dt_V M R C kc ks (pc + 3) ls st sh σ) : dt_V M R C kc ks pc ls (dt_I y :: dt_I x :: st) sh σ :=
  fun p l e s m args below meth c D dA S B H locs lsA Z F X P hS L => lv_icmp_ne F.1 F.2.1 hd ht (fun q => kt ((not_congr (dt_eq hx hy)).mp q) p l e s m args below meth c D dA S B H locs lsA Z F X P hS L) (fun q => kf ((dt_eq hx hy).mp q) p l e s m args below meth c D dA S B H locs lsA Z F X P hS L)
theorem dt_if_lt {x : Int} {off : Int} {tgt : Nat} (hd : decode M.2.1 pc = .ok (.ifCond .lt off, 3)) (ht : (pc : Int) + off = (tgt : Int)) (hx : dt_in32 x) (kt : x < 0 → dt_V M R C kc ks tgt ls st sh σ) (kf : ¬ x < 0 → dt_V M R C kc ks (pc + 3) ls st sh σ) : dt_V M R C kc ks pc ls (dt_I x :: st) sh σ :=
  fun p l e s m args below meth c D dA S B H locs lsA Z F X P hS L => lv_if_lt F.1 F.2.1 hd ht (fun q => kt ((dt_lt hx dt_z).mp q) p l e s m args below meth c D dA S B H locs lsA Z F X P hS L) (fun q => kf ((fun z => q ((dt_lt hx dt_z).mpr z))) p l e s m args below meth c D dA S B H locs lsA Z F X P hS L)
theorem dt_cm_lt {x y : Int} {off : Int} {tgt : Nat} (hd : decode M.2.1 pc = .ok (.if_icmp .lt off, 3)) (ht : (pc : Int) + off = (tgt : Int)) (hx : dt_in32 x) (hy : dt_in32 y) (kt : x < y → dt_V M R C kc ks tgt ls st sh σ) (kf : ¬ x < y → dt_V M R C kc ks (pc + 3) ls st sh σ) : dt_V M R C kc ks pc ls (dt_I y :: dt_I x :: st) sh σ :=
  fun p l e s m args below meth c D dA S B H locs lsA Z F X P hS L => lv_icmp_lt F.1 F.2.1 hd ht (fun q => kt ((dt_lt hx hy).mp q) p l e s m args below meth c D dA S B H locs lsA Z F X P hS L) (fun q => kf ((fun z => q ((dt_lt hx hy).mpr z))) p l e s m args below meth c D dA S B H locs lsA Z F X P hS L)
theorem dt_if_ge {x : Int} {off : Int} {tgt : Nat} (hd : decode M.2.1 pc = .ok (.ifCond .ge off, 3)) (ht : (pc : Int) + off = (tgt : Int)) (hx : dt_in32 x) (kt : 0 ≤ x → dt_V M R C kc ks tgt ls st sh σ) (kf : ¬ 0 ≤ x → dt_V M R C kc ks (pc + 3) ls st sh σ) : dt_V M R C kc ks pc ls (dt_I x :: st) sh σ :=
  fun p l e s m args below meth c D dA S B H locs lsA Z F X P hS L => lv_if_ge F.1 F.2.1 hd ht (fun q => kt ((dt_le dt_z hx).mp q) p l e s m args below meth c D dA S B H locs lsA Z F X P hS L) (fun q => kf ((fun z => q ((dt_le dt_z hx).mpr z))) p l e s m args below meth c D dA S B H locs lsA Z F X P hS L)
theorem dt_cm_ge {x y : Int} {off : Int} {tgt : Nat} (hd : decode M.2.1 pc = .ok (.if_icmp .ge off, 3)) (ht : (pc : Int) + off = (tgt : Int)) (hx : dt_in32 x) (hy : dt_in32 y) (kt : y ≤ x → dt_V M R C kc ks tgt ls st sh σ) (kf : ¬ y ≤ x → dt_V M R C kc ks (pc + 3) ls st sh σ) : dt_V M R C kc ks pc ls (dt_I y :: dt_I x :: st) sh σ :=
  fun p l e s m args below meth c D dA S B H locs lsA Z F X P hS L => lv_icmp_ge F.1 F.2.1 hd ht (fun q => kt ((dt_le hy hx).mp q) p l e s m args below meth c D dA S B H locs lsA Z F X P hS L) (fun q => kf ((fun z => q ((dt_le hy hx).mpr z))) p l e s m args below meth c D dA S B H locs lsA Z F X P hS L)
theorem dt_if_gt {x : Int} {off : Int} {tgt : Nat} (hd : decode M.2.1 pc = .ok (.ifCond .gt off, 3)) (ht : (pc : Int) + off = (tgt : Int)) (hx : dt_in32 x) (kt : 0 < x → dt_V M R C kc ks tgt ls st sh σ) (kf : ¬ 0 < x → dt_V M R C kc ks (pc + 3) ls st sh σ) : dt_V M R C kc ks pc ls (dt_I x :: st) sh σ :=
  fun p l e s m args below meth c D dA S B H locs lsA Z F X P hS L => lv_if_gt F.1 F.2.1 hd ht (fun q => kt ((dt_lt dt_z hx).mp q) p l e s m args below meth c D dA S B H locs lsA Z F X P hS L) (fun q => kf ((fun z => q ((dt_lt dt_z hx).mpr z))) p l e s m args below meth c D dA S B H locs lsA Z F X P hS L)
theorem dt_cm_gt {x y : Int} {off : Int} {tgt : Nat} (hd : decode M.2.1 pc = .ok (.if_icmp .gt off, 3)) (ht : (pc : Int) + off = (tgt : Int)) (hx : dt_in32 x) (hy : dt_in32 y) (kt : y < x → dt_V M R C kc ks tgt ls st sh σ) (kf : ¬ y < x → dt_V M R C kc ks (pc + 3) ls st sh σ) : dt_V M R C kc ks pc ls (dt_I y :: dt_I x :: st) sh σ :=
  fun p l e s m args below meth c D dA S B H locs lsA Z F X P hS L => lv_icmp_gt F.1 F.2.1 hd ht (fun q => kt ((dt_lt hy hx).mp q) p l e s m args below meth c D dA S B H locs lsA Z F X P hS L) (fun q => kf ((fun z => q ((dt_lt hy hx).mpr z))) p l e s m args below meth c D dA S B H locs lsA Z F X P hS L)
theorem dt_if_le {x : Int} {off : Int} {tgt : Nat} (hd : decode M.2.1 pc = .ok (.ifCond .le off, 3)) (ht : (pc : Int) + off = (tgt : Int)) (hx : dt_in32 x) (kt : x ≤ 0 → dt_V M R C kc ks tgt ls st sh σ) (kf : ¬ x ≤ 0 → dt_V M R C kc ks (pc + 3) ls st sh σ) : dt_V M R C kc ks pc ls (dt_I x :: st) sh σ :=
  fun p l e s m args below meth c D dA S B H locs lsA Z F X P hS L => lv_if_le F.1 F.2.1 hd ht (fun q => kt ((dt_le hx dt_z).mp q) p l e s m args below meth c D dA S B H locs lsA Z F X P hS L) (fun q => kf ((fun z => q ((dt_le hx dt_z).mpr z))) p l e s m args below meth c D dA S B H locs lsA Z F X P hS L)
theorem dt_cm_le {x y : Int} {off : Int} {tgt : Nat} (hd : decode M.2.1 pc = .ok (.if_icmp .le off, 3)) (ht : (pc : Int) + off = (tgt : Int)) (hx : dt_in32 x) (hy : dt_in32 y) (kt : x ≤ y → dt_V M R C kc ks tgt ls st sh σ) (kf : ¬ x ≤ y → dt_V M R C kc ks (pc + 3) ls st sh σ) : dt_V M R C kc ks pc ls (dt_I y :: dt_I x :: st) sh σ :=
  fun p l e s m args below meth c D dA S B H locs lsA Z F X P hS L => lv_icmp_le F.1 F.2.1 hd ht (fun q => kt ((dt_le hx hy).mp q) p l e s m args below meth c D dA S B H locs lsA Z F X P hS L) (fun q => kf ((fun z => q ((dt_le hx hy).mpr z))) p l e s m args below meth c D dA S B H locs lsA Z F X P hS L)
theorem dt_goto {off : Int} {tgt : Nat} (hd : decode M.2.1 pc = .ok (.goto off, 3)) (ht : (pc : Int) + off = (tgt : Int)) (k : dt_V M R C kc ks tgt ls st sh σ) : dt_V M R C kc ks pc ls st sh σ :=
  fun p l e s m args below meth c D dA S B H locs lsA Z F X P hS L => lv_goto F.1 F.2.1 hd ht (k p l e s m args below meth c D dA S B H locs lsA Z F X P hS L)
theorem dt_nnullR {x : Nat} {off : Int} {tgt : Nat} (hd : decode M.2.1 pc = .ok (.ifnonnull off, 3)) (ht : (pc : Int) + off = (tgt : Int)) (k : dt_V M R C kc ks tgt ls st sh σ) : dt_V M R C kc ks pc ls (dt_R x :: st) sh σ :=
  fun p l e s m args below meth c D dA S B H locs lsA Z F X P hS L => lv_ifnonnull F.1 F.2.1 hd ht (k p l e s m args below meth c D dA S B H locs lsA Z F X P hS L)
theorem dt_nnullN {off : Int} (hd : decode M.2.1 pc = .ok (.ifnonnull off, 3)) (k : dt_V M R C kc ks (pc + 3) ls st sh σ) : dt_V M R C kc ks pc ls (dt_N :: st) sh σ :=
  fun p l e s m args below meth c D dA S B H locs lsA Z F X P hS L => lv_ifnonnullN F.1 F.2.1 hd (k p l e s m args below meth c D dA S B H locs lsA Z F X P hS L)
theorem dt_tblO {dflt lo hi : Int} {offs : Array Int} {len : Nat} {x : Int} {tgt : Nat} (hd : decode M.2.1 pc = .ok (.tableswitch dflt lo hi offs, len)) (hx : dt_in32 x) (h : x < lo ∨ hi < x) (ht : (pc : Int) + dflt = (tgt : Int)) (k : dt_V M R C kc ks tgt ls st sh σ) : dt_V M R C kc ks pc ls (dt_I x :: st) sh σ :=
  fun p l e s m args below meth c D dA S B H locs lsA Z F X P hS L => lv_tableOut F.1 F.2.1 hd (by rw [dt_toInt hx]; exact h) ht (k p l e s m args below meth c D dA S B H locs lsA Z F X P hS L)
theorem dt_tblI {dflt lo hi : Int} {offs : Array Int} {len : Nat} {x : Int} {off : Int} {tgt : Nat} (hd : decode M.2.1 pc = .ok (.tableswitch dflt lo hi offs, len)) (hx : dt_in32 x) (h1 : ¬ x < lo) (h2 : ¬ hi < x) (ho : offs[(x - lo).toNat]? = some off) (ht : (pc : Int) + off = (tgt : Int)) (k : dt_V M R C kc ks tgt ls st sh σ) : dt_V M R C kc ks pc ls (dt_I x :: st) sh σ :=
  fun p l e s m args below meth c D dA S B H locs lsA Z F X P hS L => lv_tableIn F.1 F.2.1 hd (by rw [dt_toInt hx]; exact h1) (by rw [dt_toInt hx]; exact h2) (by rw [dt_toInt hx]; exact ho) ht (k p l e s m args below meth c D dA S B H locs lsA Z F X P hS L)
theorem dt_vput {p : Program} {l : Launch} {e : Env} {s : State} {m : MethodId} {args : Array Value} {below : List Frame} {meth : Method} {c : Code} {H H0 : Heap} {locs : List Loc} {cells slots : Nat} {Z : State → Prop} {cc : ByteArray} {lsA : Array Slot} {rest : List Value} {D : va_G} {cl : List vw_C} {Ad : Nat → Prop} {a : Nat} {tys : List (ClassId × FieldType)} {ws : va_W} {fin : Bool}
    (hexec : p.tables.exec = Jvm.exec) (hb : c.code = cc) {own ref Cn : String} {T : u_T} {N ci index : Nat} {Ts : List Cond} (hts : ∀ w ∈ Ts, w.before args s = true) (hin : ∀ w ∈ u_ws Cn T N, w ∈ Ts) (ty0 : Nat → FieldType) (hty : ∀ k, k < N → parseFieldDescriptor (T k).2.2.1 = some (ty0 k)) (hnm : ∀ a, a < N → ∀ b, b < N → a ≠ b → (T a).2.1 ≠ (T b).2.1) (hown : s.vm.findClass own = some m.cls) (hK : va_K D cl tys s) (hP : va_P D cl ws H) (hD : va_D Ad ws) (hS0 : va_S Ad H0 H locs) (q0 : Nat) {fs : List Value} (he : ws[q0]? = some (a, .inr (ci, fs))) (hc : cl[ci]? = some (Cn, T, N)) (k : Nat) (hk : k < N) (hlink : (Cond.fieldLink own index ref (T k).2.1 (T k).2.2.1).before args s = true) (hsame : ∀ x, s.fieldFound? (T k).1 (T k).2.1 (T k).2.2.1 = some x → s.fieldFound? ref (T k).2.1 (T k).2.2.1 = some x) (hfin : (T k).2.2.2 = fin) (hfc : fin = false ∨ (meth.name = "<init>" ∧ (T k).1 = own)) {ty : FieldType} {v : Value} (hd : parseFieldDescriptor (T k).2.2.1 = some ty) (hn : narrow ty v = v) (hfit : fits ty v = true) (hl : k < fs.length)
    (hdg : decode cc pc = .ok (.putfield index, 3)) (kk : ∀ (H1 : Heap) (locs1 : List Loc), va_P D cl (ws.set q0 (a, .inr (ci, fs.set k v))) H1 → va_S Ad H0 H1 locs1 → H1.size = H.size → W p l e R s m args below meth c H1 locs1 cells slots Z (F0 m (pc + 3) lsA rest)) : W p l e R s m args below meth c H locs cells slots Z (F0 m pc lsA (v :: .ref a :: rest)) := by
  have hap := va_apart (own := own) hts hin ty0 hty hnm hK hc
  obtain ⟨r, h1, cell, q1, q2, q3, q4⟩ := hP q0 _ he
  have hr : r = (Cn, T, N) := Option.some.inj (h1.symm.trans hc)
  subst hr
  obtain ⟨hS, hfc2, kC, hkC, hkind⟩ := hK.1 ci _ hc
  obtain ⟨cf, kf, fi, f, hi, hsl⟩ := hS k hk
  have hlay := hts _ (hin _ (u_in_lay hk))
  have hst := (u_facts hfc2 hkC (u_lays hts hin hk) hi).1
  have fin2 : ∀ (H1 : Heap) (L : List Loc), H1[a]? = some (cell.setSlot f.slot v) → H1.size = H.size → (∀ q, q ≠ a → H1[q]? = H[q]?) → va_S Ad H0 H1 L → W p l e R s m args below meth c H1 L cells slots Z (F0 m (pc + 3) lsA rest) := fun H1 L e1 e2 e3 hS1 => by
    rw [hsl] at e1
    exact kk H1 L (hP.set hD he ⟨_, hc, t_OB.to (V := updV (vp_V fs) k v) ⟨_, e1, q2, q3, t_set q4 hap hk v⟩ (fun j _ => vp_updV_set hl v j)⟩ e3) hS1 e2
  rcases hfc with hfc | ⟨hin2, hdecl⟩
  · unfold u_lay at hlay
    rw [if_neg (by rw [hfin, hfc]; decide)] at hlay
    have h6 := u_store hfc2 hkC hkind hlay hi hd hn hfit
    exact W.putK hexec hb (f := f) ⟨hown, hlink, ⟨_, _, _, hsame _ hi⟩, hst⟩ (by rw [q2]; exact h6) q1 q3 (by rw [hsl]; exact k2_hasslot (q4 k hk)) rfl rfl hdg fun H1 e1 e2 e3 => fin2 H1 _ e1 e2 e3 (hS0.put e2 e3 (hD.2 q0 _ he))
  · cases fin with
    | false =>
      unfold u_lay at hlay
      rw [if_neg (by rw [hfin]; decide)] at hlay
      have h6 := u_store hfc2 hkC hkind hlay hi hd hn hfit
      exact W.putK hexec hb (f := f) ⟨hown, hlink, ⟨_, _, _, hsame _ hi⟩, hst⟩ (by rw [q2]; exact h6) q1 q3 (by rw [hsl]; exact k2_hasslot (q4 k hk)) rfl rfl hdg fun H1 e1 e2 e3 => fin2 H1 _ e1 e2 e3 (hS0.put e2 e3 (hD.2 q0 _ he))
    | true =>
      unfold u_lay at hlay
      rw [if_pos hfin] at hlay
      have hcf : m.cls = cf := by
        obtain ⟨_, _, c', _, _, _, -, -, hf', -, -, -, hown2, -⟩ := Cond.laysFinal_spec hlay
        have e1 : c' = cf := by have := hi.symm.trans hf'; simp at this; exact this.1.symm
        rw [hdecl] at hown2
        rw [← e1]; exact Option.some.inj (hown.symm.trans hown2)
      have h6 := u_fits hfc2 hkC hkind (Or.inr hlay) hi hd hn hfit
      exact W.putFinK hexec hb hown hlink (hsame _ hi) hst hcf hin2 (by rw [q2]; exact h6) q1 q3 (by rw [hsl]; exact k2_hasslot (q4 k hk)) rfl rfl hdg fun H1 e1 e2 e3 => fin2 H1 _ e1 e2 e3 (hS0.put e2 e3 (hD.2 q0 _ he))
/-! fields -/
def dt_fd (own : String) (idx ci k : Nat) : Prop := ∃ (Cn : String) (T : u_T) (N : Nat), dt_cls[ci]? = some (Cn, T, N) ∧ k < N ∧ Cond.fieldLink own idx (T k).1 (T k).2.1 (T k).2.2.1 ∈ dt_tbl
def dt_fw (own : String) (idx ci k : Nat) (ty : FieldType) : Prop := ∃ (Cn : String) (T : u_T) (N : Nat), dt_cls[ci]? = some (Cn, T, N) ∧ k < N ∧ Cond.fieldLink own idx (T k).1 (T k).2.1 (T k).2.2.1 ∈ dt_tbl ∧ (T k).2.2.2 = false ∧ parseFieldDescriptor (T k).2.2.1 = some ty
def dt_ff (own : String) (idx ci k : Nat) (ty : FieldType) : Prop := ∃ (Cn : String) (T : u_T) (N : Nat), dt_cls[ci]? = some (Cn, T, N) ∧ k < N ∧ Cond.fieldLink own idx (T k).1 (T k).2.1 (T k).2.2.1 ∈ dt_tbl ∧ (T k).2.2.2 = true ∧ (T k).1 = own ∧ parseFieldDescriptor (T k).2.2.1 = some ty
theorem dt_get {a idx ci n t : Nat} {tags : List Nat} (hd : decode M.2.1 pc = .ok (.getfield idx, 3)) (hf : dt_fd M.1.cls idx ci n) (hs : sh[a]? = some (.inl (ci, tags))) (ht : tags[n]? = some t) (k : dt_V M R C kc ks (pc + 3) ls (dt_rd t (σ a n) :: st) sh σ) : dt_V M R C kc ks pc ls (dt_R a :: st) sh σ := by
  intro p l e s m args below meth c D dA S B H locs lsA Z F X P hS L
  obtain ⟨Cn, T, N, h1, h2, h3⟩ := hf
  exact va_get F.1 F.2.1 F.2.2.2.2.2.2.1 (dt_clok_of ci _ h1).2.2 F.2.2.2.2.1 F.2.2.2.2.2.2.2.2.1 P.2.2 a (dt_ws_at hs) h1 n h2 (F.2.2.2.2.2.2.1 _ h3) (fun _ h => h) (dt_fl_at ht) hd (k p l e s m args below meth c D dA S B H locs lsA Z F X P hS L)
theorem dt_getI {a idx ci n : Nat} {tags : List Nat} (hd : decode M.2.1 pc = .ok (.getfield idx, 3)) (hf : dt_fd M.1.cls idx ci n) (hs : sh[a]? = some (.inl (ci, tags))) (ht : tags[n]? = some 0) (k : dt_V M R C kc ks (pc + 3) ls (dt_I (σ a n) :: st) sh σ) : dt_V M R C kc ks pc ls (dt_R a :: st) sh σ := dt_get hd hf hs ht k
theorem dt_getL {a idx ci n : Nat} {tags : List Nat} (hd : decode M.2.1 pc = .ok (.getfield idx, 3)) (hf : dt_fd M.1.cls idx ci n) (hs : sh[a]? = some (.inl (ci, tags))) (ht : tags[n]? = some 1) (k : dt_V M R C kc ks (pc + 3) ls (dt_L (σ a n) :: st) sh σ) : dt_V M R C kc ks pc ls (dt_R a :: st) sh σ := dt_get hd hf hs ht k
theorem dt_getR {a idx ci n b : Nat} {tags : List Nat} (hd : decode M.2.1 pc = .ok (.getfield idx, 3)) (hf : dt_fd M.1.cls idx ci n) (hs : sh[a]? = some (.inl (ci, tags))) (ht : tags[n]? = some (b + 4)) (k : dt_V M R C kc ks (pc + 3) ls (dt_R b :: st) sh σ) : dt_V M R C kc ks pc ls (dt_R a :: st) sh σ := dt_get hd hf hs ht k
theorem dt_put0 {a idx ci n t t' : Nat} {ty : FieldType} {tags : List Nat} {v : dt_MV} {x : Int} (hd : decode M.2.1 pc = .ok (.putfield idx, 3)) (hf : dt_fw M.1.cls idx ci n ty ∨ (dt_ff M.1.cls idx ci n ty ∧ M.1.name = "<init>")) (hs : sh[a]? = some (.inl (ci, tags))) (ht : tags[n]? = some t) (hx : dt_in32 x) (hv : v = dt_rd t' x) (hfit : ∀ B S, narrow ty (dt_tr B S v) = dt_tr B S v ∧ fits ty (dt_tr B S v) = true) (k : dt_V M R C kc ks (pc + 3) ls st (sh.set a (.inl (ci, tags.set n t'))) (dt_up σ a n x)) : dt_V M R C kc ks pc ls (v :: dt_R a :: st) sh σ := by
  intro p l e s m args below meth c D dA S B H locs lsA Z F X P hS L
  have hl : n < tags.length := (List.getElem?_eq_some_iff.mp ht).1
  have ha : a < sh.length := (List.getElem?_eq_some_iff.mp hs).1
  have key : (dt_ws B S dA sh σ).set a (B + a, .inr (ci, (dt_fl B S (σ a) tags).set n (dt_tr B S v))) = dt_ws B S dA (sh.set a (.inl (ci, tags.set n t'))) (dt_up σ a n x) := by
    rw [← dt_ws_set (σ := σ) ha rfl (fun b hb => by unfold dt_up; funext j; rw [if_neg hb])]
    congr 2
    show Sum.inr (ci, _) = Sum.inr (ci, _)
    rw [dt_fl_set (f' := dt_up σ a n x a) (t := t') hl (by rw [hv]; simp [dt_up]) (fun j hj => by simp [dt_up, hj])]
  have fin : ∀ (H1 : Heap) (locs1 : List Loc), va_P D dt_cls ((dt_ws B S dA sh σ).set a (B + a, .inr (ci, (dt_fl B S (σ a) tags).set n (dt_tr B S v)))) H1 → va_S (fun q => B ≤ q) s.heap H1 locs1 → H1.size = H.size → W p l e R s m args below meth c H1 locs1 kc ks Z (F0 m (pc + 3) lsA (st.map (dt_tr B S))) := fun H1 locs1 hP1 hS1 hz =>
    k p l e s m args below meth c D dA S B H1 locs1 lsA Z F X ⟨P.1.up hx, by rw [hz, P.2.1, List.length_set], by rw [← key]; exact hP1⟩ hS1 L
  rcases hf with hf | ⟨hf, hi⟩
  · obtain ⟨Cn, T, N, h1, h2, h3, h4, h5⟩ := hf
    obtain ⟨c1, c2, c3⟩ := dt_clok_of ci _ h1
    exact dt_vput F.1 F.2.1 F.2.2.2.2.2.2.1 c3 _ c2 c1 F.2.2.2.2.1 F.2.2.2.2.2.2.2.2.1 P.2.2 dt_ws_D hS a (dt_ws_at hs) h1 n h2 (F.2.2.2.2.2.2.1 _ h3) (fun _ h => h) h4 (Or.inl rfl) h5 (hfit B S).1 (hfit B S).2 (by rw [dt_fl_len]; exact hl) hd fin
  · obtain ⟨Cn, T, N, h1, h2, h3, h4, h5, h6⟩ := hf
    obtain ⟨c1, c2, c3⟩ := dt_clok_of ci _ h1
    exact dt_vput F.1 F.2.1 F.2.2.2.2.2.2.1 c3 _ c2 c1 F.2.2.2.2.1 F.2.2.2.2.2.2.2.2.1 P.2.2 dt_ws_D hS a (dt_ws_at hs) h1 n h2 (F.2.2.2.2.2.2.1 _ h3) (fun _ h => h) h4 (Or.inr ⟨F.2.2.2.2.2.1.trans hi, h5⟩) h6 (hfit B S).1 (hfit B S).2 (by rw [dt_fl_len]; exact hl) hd fin
theorem dt_putI {a idx ci n : Nat} {tags : List Nat} {x : Int} (hd : decode M.2.1 pc = .ok (.putfield idx, 3)) (hf : dt_fw M.1.cls idx ci n .int) (hs : sh[a]? = some (.inl (ci, tags))) (ht : tags[n]? = some 0) (hx : dt_in32 x) (k : dt_V M R C kc ks (pc + 3) ls st sh (dt_up σ a n x)) : dt_V M R C kc ks pc ls (dt_I x :: dt_R a :: st) sh σ := by
  refine dt_put0 (t' := 0) (x := x) hd (Or.inl hf) hs ht hx rfl (fun B S => ⟨rfl, rfl⟩) ?_
  rw [dt_set_self ht, dt_set_self hs]
  exact k
theorem dt_putZ {a idx ci n : Nat} {tags : List Nat} {x : Int} (hd : decode M.2.1 pc = .ok (.putfield idx, 3)) (hf : dt_fw M.1.cls idx ci n .boolean) (hs : sh[a]? = some (.inl (ci, tags))) (ht : tags[n]? = some 0) (hx : x = 0 ∨ x = 1) (k : dt_V M R C kc ks (pc + 3) ls st sh (dt_up σ a n x)) : dt_V M R C kc ks pc ls (dt_I x :: dt_R a :: st) sh σ := by
  refine dt_put0 (t' := 0) (x := x) hd (Or.inl hf) hs ht (by rcases hx with rfl | rfl <;> decide) rfl (fun B S => by rcases hx with rfl | rfl <;> exact ⟨rfl, rfl⟩) ?_
  rw [dt_set_self ht, dt_set_self hs]
  exact k
theorem dt_putL {a idx ci n : Nat} {tags : List Nat} {x : Int} (hd : decode M.2.1 pc = .ok (.putfield idx, 3)) (hf : dt_fw M.1.cls idx ci n .long) (hs : sh[a]? = some (.inl (ci, tags))) (ht : tags[n]? = some 1) (hx : dt_in32 x) (k : dt_V M R C kc ks (pc + 3) ls st sh (dt_up σ a n x)) : dt_V M R C kc ks pc ls (dt_L x :: dt_R a :: st) sh σ := by
  refine dt_put0 (t' := 1) (x := x) hd (Or.inl hf) hs ht hx rfl (fun B S => ⟨rfl, rfl⟩) ?_
  rw [dt_set_self ht, dt_set_self hs]
  exact k
/-- a field that may change: a cell -/
theorem dt_putD {a idx ci n : Nat} {tags : List Nat} {x : Nat} {Cn : String} (hd : decode M.2.1 pc = .ok (.putfield idx, 3)) (hf : dt_fw M.1.cls idx ci n (.object Cn)) (hs : sh[a]? = some (.inl (ci, tags))) (ht : tags[n]? = some 2) (hx : dt_in32 x) (k : dt_V M R C kc ks (pc + 3) ls st sh (dt_up σ a n x)) : dt_V M R C kc ks pc ls (dt_R x :: dt_R a :: st) sh σ := by
  refine dt_put0 (t' := 2) (x := x) hd (Or.inl hf) hs ht hx (by simp [dt_rd]) (fun B S => ⟨rfl, rfl⟩) ?_
  rw [dt_set_self ht, dt_set_self hs]
  exact k
/-- null into such a field: it is one that may change from now on -/
theorem dt_putN {a idx ci n t : Nat} {tags : List Nat} {Cn : String} (hd : decode M.2.1 pc = .ok (.putfield idx, 3)) (hf : dt_fw M.1.cls idx ci n (.object Cn)) (hs : sh[a]? = some (.inl (ci, tags))) (ht : tags[n]? = some t) (k : dt_V M R C kc ks (pc + 3) ls st (sh.set a (.inl (ci, tags.set n 2))) (dt_up σ a n (-1))) : dt_V M R C kc ks pc ls (dt_N :: dt_R a :: st) sh σ :=
  dt_put0 (t' := 2) (x := -1) hd (Or.inl hf) hs ht (by decide) rfl (fun B S => ⟨rfl, rfl⟩) k
/-- a final field, in a constructor -/
theorem dt_fputI {a idx ci n : Nat} {tags : List Nat} {x : Int} (hd : decode M.2.1 pc = .ok (.putfield idx, 3)) (hf : dt_ff M.1.cls idx ci n .int) (hi : M.1.name = "<init>") (hs : sh[a]? = some (.inl (ci, tags))) (ht : tags[n]? = some 0) (hx : dt_in32 x) (k : dt_V M R C kc ks (pc + 3) ls st sh (dt_up σ a n x)) : dt_V M R C kc ks pc ls (dt_I x :: dt_R a :: st) sh σ := by
  refine dt_put0 (t' := 0) (x := x) hd (Or.inr ⟨hf, hi⟩) hs ht hx rfl (fun B S => ⟨rfl, rfl⟩) ?_
  rw [dt_set_self ht, dt_set_self hs]
  exact k
theorem dt_fputR {a idx ci n t b : Nat} {tags : List Nat} {ty : FieldType} (hd : decode M.2.1 pc = .ok (.putfield idx, 3)) (hf : dt_ff M.1.cls idx ci n ty) (hi : M.1.name = "<init>") (hty : narrow ty (.ref 0) = .ref 0 ∧ ∀ z, fits ty (.ref z) = true) (hs : sh[a]? = some (.inl (ci, tags))) (ht : tags[n]? = some t) (k : dt_V M R C kc ks (pc + 3) ls st (sh.set a (.inl (ci, tags.set n (b + 4)))) (dt_up σ a n 0)) : dt_V M R C kc ks pc ls (dt_R b :: dt_R a :: st) sh σ :=
  dt_put0 (t' := b + 4) (x := 0) hd (Or.inr ⟨hf, hi⟩) hs ht (by decide) rfl (fun B S => ⟨by cases ty <;> rfl, hty.2 _⟩) k

end DTR
end
section
section DTS
variable {M : dt_MD} {R : Room} {C : dt_Cx} {kc ks pc : Nat} {ls : List (Option dt_MV)} {st : List dt_MV} {sh : List dt_Shp} {σ : dt_Mem}
/-! arrays -/
theorem dt_iald {a n : Nat} {i : Int} (hd : decode M.2.1 pc = .ok (.iaload, 1)) (hs : sh[a]? = some (.inr (0, n))) (h0 : 0 ≤ i) (h1 : i < n) (h2 : (n : Int) ≤ 2147483647) (k : dt_V M R C kc ks (pc + 1) ls (dt_I (σ a i.toNat) :: st) sh σ) : dt_V M R C kc ks pc ls (dt_I i :: dt_R a :: st) sh σ := by
  intro p l e s m args below meth c D dA S B H locs lsA Z F X P hS L
  have hi : dt_in32 i := ⟨by omega, by omega⟩
  refine va_iald F.1 F.2.1 F.2.2.2.2.2.2.2.2.1 P.2.2 a 0 (dt_ws_at hs) rfl (dt_vpin hi h0 h1) hd ?_
  rw [dt_cl hi]
  exact (k p l e s m args below meth c D dA S B H locs lsA Z F X P hS L)
theorem dt_zald {a n : Nat} {i : Int} (hd : decode M.2.1 pc = .ok (.baload, 1)) (hs : sh[a]? = some (.inr (1, n))) (h0 : 0 ≤ i) (h1 : i < n) (h2 : (n : Int) ≤ 2147483647) (k : dt_V M R C kc ks (pc + 1) ls (dt_I (σ a i.toNat) :: st) sh σ) : dt_V M R C kc ks pc ls (dt_I i :: dt_R a :: st) sh σ := by
  intro p l e s m args below meth c D dA S B H locs lsA Z F X P hS L
  have hi : dt_in32 i := ⟨by omega, by omega⟩
  refine va_zald F.1 F.2.1 F.2.2.2.2.2.2.2.2.1 P.2.2 a 1 (dt_ws_at hs) rfl (dt_vpin hi h0 h1) hd ?_
  rw [dt_cl hi]
  exact (k p l e s m args below meth c D dA S B H locs lsA Z F X P hS L)
theorem dt_arr_up {B : Nat} {S : Nat → Nat} {dA : Nat → ClassId} {D : va_G} {H H1 : Heap} {a ty n i : Nat} {x : Int} {v : Value} (hs : sh[a]? = some (.inr (ty, n))) (P : dt_Rep B S D dA sh σ H) (hx : dt_in32 x) (hv : v = .int (Int32.ofInt x)) (e : H1[B + a]? = some ((vp_cell (dA ty) (n, .inl (fun j => Int32.ofInt (σ a j)))).setSlot i v)) (z : H1.size = H.size) (oq : ∀ q : Nat, q ≠ B + a → H1[q]? = H[q]?) : dt_Rep B S D dA sh (dt_up σ a i x) H1 := by
  have ha : a < sh.length := (List.getElem?_eq_some_iff.mp hs).1
  refine ⟨P.1.up hx, by rw [z, P.2.1], ?_⟩
  rw [← dt_ws_set (σ := σ) (x := .inr (ty, n)) ha (dt_set_self hs).symm (fun b hb => by unfold dt_up; funext j; rw [if_neg hb])]
  refine P.2.2.set dt_ws_D (dt_ws_at hs) ?_ oq
  show H1[B + a]? = some (vp_cell _ _)
  rw [e, hv, vp_cell_i, arrV_store]
  show some (arrV (dA ty) n (updV (fun j => Value.int (Int32.ofInt (σ a j))) i (Value.int (Int32.ofInt x)))) = some (arrV (dA ty) n (fun j => Value.int (Int32.ofInt (dt_up σ a i x a j))))
  congr 2
  funext q
  by_cases hq : q = i
  · subst hq
    simp [updV, dt_up]
  · simp [updV, dt_up, hq]
theorem dt_iast {a n : Nat} {i x : Int} (hd : decode M.2.1 pc = .ok (.iastore, 1)) (hs : sh[a]? = some (.inr (0, n))) (h0 : 0 ≤ i) (h1 : i < n) (h2 : (n : Int) ≤ 2147483647) (hx : dt_in32 x) (k : dt_V M R C kc ks (pc + 1) ls st sh (dt_up σ a i.toNat x)) : dt_V M R C kc ks pc ls (dt_I x :: dt_I i :: dt_R a :: st) sh σ := by
  intro p l e s m args below meth c D dA S B H locs lsA Z F X P hS L
  have hi : dt_in32 i := ⟨by omega, by omega⟩
  refine W.iast F.1 F.2.1 (P.2.2 a _ (dt_ws_at hs)) ((F.2.2.2.2.2.2.2.2.1.2 0 _ rfl).1 n _) (fun q => by cases q) (by show ¬ (_ < 0 ∨ (arrV _ _ _).slots.size ≤ _); rw [arrV_size]; exact dt_vpin hi h0 h1) rfl rfl hd fun H1 e1 z oq => ?_
  rw [dt_cl hi] at e1
  exact k p l e s m args below meth c D dA S B H1 _ lsA Z F X (dt_arr_up hs P hx rfl e1 z oq) (hS.put z oq (by show B ≤ B + a; omega)) L
theorem dt_zast {a n : Nat} {i x : Int} (hd : decode M.2.1 pc = .ok (.bastore, 1)) (hs : sh[a]? = some (.inr (1, n))) (h0 : 0 ≤ i) (h1 : i < n) (h2 : (n : Int) ≤ 2147483647) (hx : x = 0 ∨ x = 1) (k : dt_V M R C kc ks (pc + 1) ls st sh (dt_up σ a i.toNat x)) : dt_V M R C kc ks pc ls (dt_I x :: dt_I i :: dt_R a :: st) sh σ := by
  intro p l e s m args below meth c D dA S B H locs lsA Z F X P hS L
  have hi : dt_in32 i := ⟨by omega, by omega⟩
  refine W.zast F.1 F.2.1 (P.2.2 a _ (dt_ws_at hs)) ((F.2.2.2.2.2.2.2.2.1.2 1 _ rfl).1 n _) (fun q => by cases q) (by show ¬ (_ < 0 ∨ (arrV _ _ _).slots.size ≤ _); rw [arrV_size]; exact dt_vpin hi h0 h1) rfl rfl hd fun H1 e1 z oq => ?_
  rw [dt_cl hi] at e1
  exact k p l e s m args below meth c D dA S B H1 _ lsA Z F X (dt_arr_up hs P (by rcases hx with rfl | rfl <;> decide) (by rcases hx with rfl | rfl <;> rfl) e1 z oq) (hS.put z oq (by show B ≤ B + a; omega)) L
theorem dt_alen {a ty n : Nat} (hd : decode M.2.1 pc = .ok (.arraylength, 1)) (hs : sh[a]? = some (.inr (ty, n))) (hty : ty = 0 ∨ ty = 1) (k : dt_V M R C kc ks (pc + 1) ls (dt_I n :: st) sh σ) : dt_V M R C kc ks pc ls (dt_R a :: st) sh σ := by
  intro p l e s m args below meth c D dA S B H locs lsA Z F X P hS L
  have h := (k p l e s m args below meth c D dA S B H locs lsA Z F X P hS L)
  rcases hty with rfl | rfl
  · exact va_alen F.1 F.2.1 F.2.2.2.2.2.2.2.2.1 P.2.2 a 0 (dt_ws_at hs) rfl Int32.ofInt_eq_ofNat.symm hd h
  · exact va_alen F.1 F.2.1 F.2.2.2.2.2.2.2.2.1 P.2.2 a 1 (dt_ws_at hs) rfl Int32.ofInt_eq_ofNat.symm hd h
/-- nothing in a cell that is made -/
def dt_zr (σ : dt_Mem) (a : Nat) : dt_Mem := fun b j => if b = a then 0 else σ b j
theorem dt_wf.zr {σ : dt_Mem} (h : dt_wf σ) {a : Nat} : dt_wf (dt_zr σ a) := by
  intro b j
  unfold dt_zr
  split
  · decide
  · exact h b j
theorem dt_push {B : Nat} {S : Nat → Nat} {dA : Nat → ClassId} {D : va_G} {H H1 : Heap} {x : dt_Shp} (P : dt_Rep B S D dA sh σ H) (z : H1.size = H.size + 1) (oq : ∀ q : Nat, q < H.size → H1[q]? = H[q]?) (hc : va_at D dt_cls (B + sh.length, dt_cell B S dA x (fun _ => 0)) H1) : dt_Rep B S D dA (sh ++ [x]) (dt_zr σ sh.length) H1 := by
  refine ⟨P.1.zr, by rw [z, P.2.1, List.length_append]; rfl, ?_⟩
  intro k q hk
  simp only [dt_ws, List.getElem?_mapIdx, Option.map_eq_some_iff] at hk
  obtain ⟨y, hy, rfl⟩ := hk
  by_cases hl : k < sh.length
  · rw [List.getElem?_append_left hl] at hy
    have h1 := P.2.2 k _ (dt_ws_at hy)
    have e : dt_zr σ sh.length k = σ k := by
      funext j
      simp [dt_zr, Nat.ne_of_lt hl]
    rw [e]
    exact h1.kept (oq (B + k) (by rw [P.2.1]; omega))
  · rw [List.getElem?_append_right (by omega)] at hy
    have hz : k - sh.length < 1 := (List.getElem?_eq_some_iff.mp hy).1
    have hk0 : k = sh.length := by omega
    subst hk0
    rw [Nat.sub_self] at hy
    cases hy
    have e : dt_zr σ sh.length sh.length = fun _ => 0 := by
      funext j
      simp [dt_zr]
    rw [e]
    exact hc
theorem dt_newa0 {ty : Nat} {at' : ArrayType} {n : Int} (hd : decode M.2.1 pc = .ok (.newarray at', 2)) (hat : (ty = 0 ∧ at' = .int) ∨ (ty = 1 ∧ at' = .boolean)) (h0 : 0 ≤ n) (h1 : n ≤ 1000000) (hc : kc + 1 ≤ R.cells) (hs : ks + n.toNat ≤ R.slots) (hw : Cond.arrayClass (newarray.typeOf at') ∈ dt_tbl) (k : dt_V M R C (kc + 1) (ks + n.toNat) (pc + 2) ls (dt_R sh.length :: st) (sh ++ [.inr (ty, n.toNat)]) (dt_zr σ sh.length)) : dt_V M R C kc ks pc ls (dt_I n :: st) sh σ := by
  intro p l e s m args below meth c D dA S B H locs lsA Z F X P hS L
  have hi : dt_in32 n := ⟨by omega, by omega⟩
  have hK := F.2.2.2.2.2.2.2.2.1
  have hcb : componentBytes (newarray.typeOf at') ≤ 4 := by rcases hat with ⟨-, rfl⟩ | ⟨-, rfl⟩ <;> decide
  refine va_newaK F.1 F.2.1 (F.2.2.2.2.2.2.1 _ hw) rfl hd rfl (by rw [dt_0, dt_lt hi dt_z]; omega) (dt_cl hi) (by
    have : n.toNat ≤ 1000000 := by omega
    calc n.toNat * componentBytes (newarray.typeOf at') ≤ 1000000 * 4 := Nat.mul_le_mul this hcb
      _ ≤ 536870912 := by decide) hc hs rfl fun H1 cA e1 z1 o1 _ hNm => ?_
  have hA : cA = dA ty := by
    rcases hat with ⟨rfl, rfl⟩ | ⟨rfl, rfl⟩
    · exact Option.some.inj (hNm.symm.trans (hK.2 0 _ rfl).2)
    · exact Option.some.inj (hNm.symm.trans (hK.2 1 _ rfl).2)
  subst hA
  have Pz := dt_push (x := .inr (ty, n.toNat)) P z1 o1 (by
    show H1[B + sh.length]? = some (vp_cell _ _)
    rw [← P.2.1, e1, vp_cell_i]
    rcases hat with ⟨rfl, rfl⟩ | ⟨rfl, rfl⟩ <;> rfl)
  have h := k p l e s m args below meth c D dA S B H1 locs lsA Z F X Pz ⟨Nat.le_trans hS.1 (by omega), fun x g1 g2 => (o1 x (Nat.lt_of_lt_of_le g1 hS.1)).trans (hS.2.1 x g1 g2), hS.2.2⟩ L
  rw [P.2.1]
  exact h
theorem dt_new {idx ci N : Nat} {Cn : String} {T : u_T} {tags : List Nat} (hd : decode M.2.1 pc = .ok (.new idx, 3)) (hc : dt_cls[ci]? = some (Cn, T, N)) (hw1 : Cond.classLink M.1.cls idx Cn ∈ dt_tbl) (hw2 : Cond.instantiable Cn N ∈ dt_tbl) (hw3 : Cond.initialized Cn ∈ dt_tbl) (ht : tags.length = N) (htg : ∀ j, j < N → ∀ B S, defaultValue (dt_ty ci j) = dt_tr B S (dt_rd (tags.getD j 3) 0)) (h1 : kc + 1 ≤ R.cells) (h2 : ks + N ≤ R.slots) (k : dt_V M R C (kc + 1) (ks + N) (pc + 3) ls (dt_R sh.length :: st) (sh ++ [.inl (ci, tags)]) (dt_zr σ sh.length)) : dt_V M R C kc ks pc ls st sh σ := by
  intro p l e s m args below meth c D dA S B H locs lsA Z F X P hS L
  have hK := F.2.2.2.2.2.2.2.2.1
  have hts := F.2.2.2.2.2.2.1
  obtain ⟨c1, c2, c3⟩ := dt_clok_of ci _ hc
  have hKn := hK.1 ci _ hc
  refine W.newcK F.1 F.2.1 F.2.2.2.2.1 (hts _ hw1) (hts _ hw2) (hts _ hw3) rfl hd h1 h2 hKn.2.1 rfl fun H1 kC hkC e1 z1 o1 => ?_
  have Pz := dt_push (x := .inl (ci, tags)) P z1 o1 (by
    refine ⟨_, hc, ?_⟩
    rw [← P.2.1]
    refine (u_born (dt_ty ci) hts c3 hKn hkC e1 c2).to fun j hj => ?_
    rw [htg j hj B S]
    have hj1 : j < N := hj
    have hj2 : tags[j]? = some (tags.getD j 3) := by
      show _ = some (tags[j]?.getD 3)
      rw [List.getElem?_eq_getElem (by omega)]
      rfl
    show _ = ((dt_fl B S (fun _ => 0) tags)[j]?).getD .null
    rw [dt_fl_at hj2]
    rfl)
  have h := k p l e s m args below meth c D dA S B H1 locs lsA Z F X Pz ⟨Nat.le_trans hS.1 (by omega), fun x g1 g2 => (o1 x (Nat.lt_of_lt_of_le g1 hS.1)).trans (hS.2.1 x g1 g2), hS.2.2⟩ L
  rw [P.2.1]
  exact h
/-! ends -/
theorem dt_iret {d mc ms : Nat} {Q : Option dt_MV → List dt_Shp → dt_Mem → Prop} {x : Int} (hd : decode M.2.1 pc = .ok (.ireturn, 1)) (hr : M.2.2.2 = some .int) (h1 : kc ≤ mc) (h2 : ks ≤ ms) (q : Q (some (dt_I x)) sh σ) : dt_V M (dt_rm d mc ms) (dt_MC Q mc ms) kc ks pc ls [dt_I x] sh σ := by
  intro p l e s m args below meth c D dA S B H locs lsA Z F X P hS L
  subst X
  exact W.widen h1 h2 (W.iret F.1 F.2.1 (F.2.2.2.1.trans hr) (fun t ht _ => ⟨⟨_, sh, σ, rfl, q, by rw [ht]; exact P⟩, hS.F ht⟩) hS.2.2 hd F.2.2.2.2.2.2.2.1)
theorem dt_zret {d mc ms : Nat} {Q : Option dt_MV → List dt_Shp → dt_Mem → Prop} {x : Int} (hd : decode M.2.1 pc = .ok (.ireturn, 1)) (hr : M.2.2.2 = some .boolean) (h1 : kc ≤ mc) (h2 : ks ≤ ms) (hx : x = 0 ∨ x = 1) (q : Q (some (dt_I x)) sh σ) : dt_V M (dt_rm d mc ms) (dt_MC Q mc ms) kc ks pc ls [dt_I x] sh σ := by
  intro p l e s m args below meth c D dA S B H locs lsA Z F X P hS L
  subst X
  exact W.widen h1 h2 (W.zret F.1 F.2.1 (F.2.2.2.1.trans hr) (by rcases hx with rfl | rfl <;> rfl) (fun t ht _ => ⟨⟨some (dt_I x), sh, σ, rfl, q, by rw [ht]; exact P⟩, hS.F ht⟩) hS.2.2 hd F.2.2.2.2.2.2.2.1)
theorem dt_yret {d mc ms : Nat} {Q : Option dt_MV → List dt_Shp → dt_Mem → Prop} {x : Int} {ty : FieldType} (hd : decode M.2.1 pc = .ok (.ireturn, 1)) (hr : M.2.2.2 = some ty) (h1 : kc ≤ mc) (h2 : ks ≤ ms) (hx : narrow ty (.int (Int32.ofInt x)) = .int (Int32.ofInt x)) (q : Q (some (dt_I x)) sh σ) : dt_V M (dt_rm d mc ms) (dt_MC Q mc ms) kc ks pc ls [dt_I x] sh σ := by
  intro p l e s m args below meth c D dA S B H locs lsA Z F X P hS L
  subst X
  exact W.widen h1 h2 (W.zret F.1 F.2.1 (F.2.2.2.1.trans hr) hx (fun t ht _ => ⟨⟨some (dt_I x), sh, σ, rfl, q, by rw [ht]; exact P⟩, hS.F ht⟩) hS.2.2 hd F.2.2.2.2.2.2.2.1)
theorem dt_lret {d mc ms : Nat} {Q : Option dt_MV → List dt_Shp → dt_Mem → Prop} {x : Int} (hd : decode M.2.1 pc = .ok (.lreturn, 1)) (hr : M.2.2.2 = some .long) (h1 : kc ≤ mc) (h2 : ks ≤ ms) (q : Q (some (dt_L x)) sh σ) : dt_V M (dt_rm d mc ms) (dt_MC Q mc ms) kc ks pc ls [dt_L x] sh σ := by
  intro p l e s m args below meth c D dA S B H locs lsA Z F X P hS L
  subst X
  exact W.widen h1 h2 (W.lret F.1 F.2.1 (F.2.2.2.1.trans hr) (fun t ht _ => ⟨⟨some (dt_L x), sh, σ, rfl, q, by rw [ht]; exact P⟩, hS.F ht⟩) hS.2.2 hd F.2.2.2.2.2.2.2.1)
theorem dt_aret {d mc ms : Nat} {Q : Option dt_MV → List dt_Shp → dt_Mem → Prop} {x : Nat} {Cn : String} (hd : decode M.2.1 pc = .ok (.areturn, 1)) (hr : M.2.2.2 = some (.object Cn)) (h1 : kc ≤ mc) (h2 : ks ≤ ms) (q : Q (some (dt_R x)) sh σ) : dt_V M (dt_rm d mc ms) (dt_MC Q mc ms) kc ks pc ls [dt_R x] sh σ := by
  intro p l e s m args below meth c D dA S B H locs lsA Z F X P hS L
  subst X
  exact W.widen h1 h2 (W.aret F.1 F.2.1 (F.2.2.2.1.trans hr) (Or.inl ⟨_, rfl⟩) (Or.inr ⟨_, rfl⟩) (fun t ht _ => ⟨⟨some (dt_R x), sh, σ, rfl, q, by rw [ht]; exact P⟩, hS.F ht⟩) hS.2.2 hd F.2.2.2.2.2.2.2.1)
theorem dt_vret {d mc ms : Nat} {Q : Option dt_MV → List dt_Shp → dt_Mem → Prop} (hd : decode M.2.1 pc = .ok (.return_, 1)) (hr : M.2.2.2 = none) (h1 : kc ≤ mc) (h2 : ks ≤ ms) (q : Q none sh σ) : dt_V M (dt_rm d mc ms) (dt_MC Q mc ms) kc ks pc ls [] sh σ := by
  intro p l e s m args below meth c D dA S B H locs lsA Z F X P hS L
  subst X
  exact W.widen h1 h2 (W.vret F.1 F.2.1 (F.2.2.2.1.trans hr) (fun t ht _ => ⟨⟨none, sh, σ, rfl, q, by rw [ht]; exact P⟩, hS.F ht⟩) hS.2.2 hd F.2.2.2.2.2.2.2.1)
/-! a contract out of a walk -/
def dt_ent : Nat → List dt_MV → List (Option dt_MV)
  | n, [] => List.replicate n none
  | n, v :: vs => match v with
    | .inr (.inl x) => some (dt_L x) :: none :: dt_ent (n - 2) vs
    | w => some w :: dt_ent (n - 1) vs
def dt_ct (v : dt_MV) : Nat := match v with
  | .inr (.inl _) => 2
  | _ => 1
theorem dt_ct_eq {B : Nat} {S : Nat → Nat} (v : dt_MV) : (dt_tr B S v).category = dt_ct v := by
  rcases v with x | x | x
  · rfl
  · rfl
  · rcases x with _ | x | x <;> rfl
theorem dt_ct_sum {B : Nat} {S : Nat → Nat} (vs : List dt_MV) : ((vs.map (dt_tr B S)).map fun v => v.category).sum = (vs.map dt_ct).sum := by
  induction vs with
  | nil => rfl
  | cons v vs ih => simp only [List.map_cons, List.sum_cons, dt_ct_eq, ih]
theorem dt_sl_len {B : Nat} {S : Nat → Nat} (vs : List dt_MV) : (lg_sl (vs.map (dt_tr B S))).length = (vs.map dt_ct).sum := by
  induction vs with
  | nil => rfl
  | cons v vs ih =>
    have e : lg_sl ((v :: vs).map (dt_tr B S)) = (if (dt_tr B S v).category = 2 then [.val (dt_tr B S v), .second] else [.val (dt_tr B S v)]) ++ lg_sl (vs.map (dt_tr B S)) := rfl
    rw [e, List.length_append, ih, List.map_cons, List.sum_cons, ← dt_ct_eq (B := B) (S := S) v]
    rcases lv_cat (dt_tr B S v) with h | h <;> simp [h]
theorem dt_ent_in {B : Nat} {S : Nat → Nat} : ∀ (vs : List dt_MV) (n o i : Nat) (w : dt_MV), (dt_ent n vs)[i]? = some (some w) → (o + i, dt_tr B S w) ∈ lv_args o (vs.map (dt_tr B S))
  | [], n, o, i, w, h => by
    simp only [dt_ent] at h
    have := List.eq_of_mem_replicate (List.mem_of_getElem? h)
    cases this
  | v :: vs, n, o, i, w, h => by
    rw [List.map_cons, lv_args]
    by_cases hc : (dt_tr B S v).category = 2
    · obtain ⟨x, rfl⟩ := dt_cat2 hc
      simp only [hc, if_true]
      simp only [dt_ent] at h
      match i, h with
      | 0, h =>
        have e : dt_L x = w := Option.some.inj (Option.some.inj h)
        rw [← e]
        exact List.mem_cons_self
      | 1, h => exact absurd h (by simp)
      | j + 2, h =>
        have h2 := dt_ent_in (B := B) (S := S) vs (n - 2) (o + 2) j w h
        rw [show o + (j + 2) = o + 2 + j by omega]
        exact List.mem_cons_of_mem _ h2
    · simp only [hc, if_false]
      have hd : dt_ent n (v :: vs) = some v :: dt_ent (n - 1) vs := by
        rcases v with x | x | x
        · rfl
        · exact absurd rfl hc
        · rfl
      rw [hd] at h
      match i, h with
      | 0, h =>
        have e : v = w := Option.some.inj (Option.some.inj h)
        rw [← e]
        exact List.mem_cons_self
      | j + 1, h =>
        have h2 := dt_ent_in (B := B) (S := S) vs (n - 1) (o + 1) j w h
        rw [show o + (j + 1) = o + 1 + j by omega]
        exact List.mem_cons_of_mem _ h2
theorem dt_Sp_of {d mc ms : Nat} {av : List dt_MV} {Q : Option dt_MV → List dt_Shp → dt_Mem → Prop} (hy : plainName M.1.cls = true) (hl : (av.map dt_ct).sum ≤ M.2.2.1) (hV : dt_V M (dt_rm d mc ms) (dt_MC Q mc ms) 0 0 0 (dt_ent M.2.2.1 av) [] sh σ) : dt_Sp M d mc ms av sh σ Q := by
  intro l D dA S B
  refine Met.ofW (cc := M.2.1) (maxL := M.2.2.1) (ret := M.2.2.2) hy rfl ?_
  intro p e s m args below meth c s₁ Bd hml hv
  obtain ⟨rfl, P, hK, hG⟩ := hv
  have hts := atoms_spec (ws := .code M.1 M.2.1 M.2.2.1 M.2.2.2 :: dt_tbl) Bd.pre
  rw [lg_entry_eq]
  have he := lv_entry (av.map (dt_tr B S)) (n := M.2.2.1) (by rw [dt_sl_len]; exact hl)
  refine hV p l e s m _ below meth c D dA S B s.heap [] _ _ ⟨Bd.exec, Bd.bytes, hml, Bd.returns, findClass_of_methodNamed Bd.named, (name_of_methodNamed Bd.named Bd.method).1, fun w hw => hts w (List.mem_cons_of_mem _ hw), Bd.notSynchronized, hK, hG, by rw [P.2.1]; omega⟩ rfl P va_S.rf ⟨he.1, he.2.1, fun i v hi => ?_⟩
  have h2 := dt_ent_in (B := B) (S := S) av M.2.2.1 0 i v hi
  rw [Nat.zero_add] at h2
  exact he.2.2 _ h2
/-! calls -/
/-- behind a call -/
theorem dt_run {p : Program} {l : Launch} {e : Env} {s : State} {m : MethodId} {args : Array Value} {below : List Frame} {meth : Method} {c : Code} {D : va_G} {dA : Nat → ClassId} {S : Nat → Nat} {B : Nat} {H : Heap} {locs : List Loc} {lsA : Array Slot} {Z : State → Prop} {a : Array Value} {st0 : List Value} {mc ms : Nat} {Q : Option dt_MV → List dt_Shp → dt_Mem → Prop}
    (F : dt_Fix M p s m args meth c D dA S B) (X : C l s m args below D dA S B Z) (hS : va_S (fun q => B ≤ q) s.heap H locs) (L : dt_lv B S lsA M.2.2.1 ls)
    (hr : va_Run p l e R s m args below meth c H locs kc ks mc ms (F0 m pc lsA st0) (st.map (dt_tr B S)) (dt_Qc Q D dA S B a) (fun q => B ≤ q))
    (kk : ∀ v sh' σ', Q v sh' σ' → dt_V M R C (kc + mc) (ks + ms) (pc + 3) ls (v.toList ++ st) sh' σ') : W p l e R s m args below meth c H locs kc ks Z (F0 m pc lsA st0) := by
  intro T hT Y
  obtain ⟨v, st₀, t, T', L', h0, Y', hL, e1, e2, ⟨⟨v', sh', σ', hv, hq, P'⟩, hz, hk⟩, stp⟩ := hr T hT Y
  have hv2 : v = v'.map (dt_tr B S) := by cases hv; rfl
  subst hv2
  rw [h0] at hz hk
  obtain ⟨t2, a1, b1⟩ := kk v' sh' σ' hq p l e s m args below meth c D dA S B T'.heap (locs ++ L') lsA Z F X (by rw [e1]; exact P')
    ⟨Nat.le_trans hS.1 (by rw [e1]; exact hz), fun q h1 h2 => by rw [e1, hk q (Nat.lt_of_lt_of_le h1 hS.1) h2]; exact hS.2.1 q h1 h2, fun q hq => by
      rcases List.mem_append.mp hq with h | h
      · exact hS.2.2 q h
      · exact hL q h⟩ L T' rfl Y'
  refine ⟨t2, stp t2 ?_, b1⟩
  have e3 : (v'.map (dt_tr B S)).toList ++ st.map (dt_tr B S) = (v'.toList ++ st).map (dt_tr B S) := by cases v' <;> simp
  rw [e3]
  exact a1
theorem dt_pre {Mc : dt_MD} {s : State} {D : va_G} {dA : Nat → ClassId} {S : Nat → Nat} {B : Nat} {H : Heap} {locs : List Loc} {av : List dt_MV} {p : Program} {m : MethodId} {args : Array Value} {meth : Method} {c : Code} (F : dt_Fix Mc p s m args meth c D dA S B) (P : dt_Rep B S D dA sh σ H) (hS : va_S (fun q => B ≤ q) s.heap H locs) :
    PreS s H (va_Pc (av.map (dt_tr B S)) (fun U => dt_Rep B S D dA sh σ U.heap ∧ va_K D dt_cls [(dA 0, .int), (dA 1, .boolean)] U ∧ dt_GK S B U U.heap)) (av.map (dt_tr B S)) :=
  ⟨fun a U g mk q => ⟨q.1, q.2.1, va_K.moved (u := U) (U := U.calling g mk a) (Vm.Alike.refl U.vm) q.2.2.1, dt_GK.same (s := U) (U := U.calling g mk a) rfl q.2.2.2⟩,
    fun U hU hW => ⟨rfl, by rw [hU]; exact P, va_K.moved hW.alike F.2.2.2.2.2.2.2.2.1, by rw [hU]; exact dt_GK.moved hW F.2.2.2.2.2.2.2.2.2.1 hS.2.1⟩⟩
theorem dt_rcv {s : State} {D : va_G} {dA : Nat → ClassId} {S : Nat → Nat} {B : Nat} {H : Heap} {a ci : Nat} {tags : List Nat} {q : vw_C} {tys : List (ClassId × FieldType)} (hK : va_K D dt_cls tys s) (P : dt_Rep B S D dA sh σ H) (hs : sh[a]? = some (.inl (ci, tags))) (hc : dt_cls[ci]? = some q) : ∃ cell : Cell, H[B + a]? = some cell ∧ cell.vm.isStatics = false ∧ s.vm.findClass q.1 = some cell.cls :=
  va_recv hK P.2.2 hc (dt_ws_at hs)
/-- what the tables say of a call -/
def dt_wb (own : String) (idx : Nat) (Mc : dt_MD) (n : Nat) : Prop := Cond.methodLink own idx Mc.1 ∈ dt_tbl ∧ Cond.code Mc.1 Mc.2.1 Mc.2.2.1 Mc.2.2.2 ∈ dt_tbl ∧ Cond.initialized Mc.1.cls ∈ dt_tbl ∧ (Mc.1.cls ≠ "java/lang/invoke/MethodHandle" ∧ Mc.1.cls ≠ "java/lang/invoke/VarHandle") ∧ (parseMethodDescriptor Mc.1.desc).map (fun d => d.parameters.length) = some n
def dt_wv (own : String) (idx : Nat) (Mc : dt_MD) (n : Nat) : Prop := dt_wb own idx Mc n ∧ Cond.instanceMethod Mc.1 ∈ dt_tbl ∧ Cond.selects Mc.1.cls Mc.1 Mc.1 ∈ dt_tbl
def dt_wst (own : String) (idx : Nat) (Mc : dt_MD) (n : Nat) : Prop := dt_wb own idx Mc n ∧ Cond.static Mc.1 ∈ dt_tbl
def dt_wi (own : String) (idx : Nat) (Mc : dt_MD) (n : Nat) : Prop := dt_wb own idx Mc n ∧ Cond.instanceMethod Mc.1 ∈ dt_tbl ∧ Mc.1.name = "<init>" ∧ Mc.2.2.2 = none
/-- super.m() -/
def dt_wsu (own : String) (idx : Nat) (Mc : dt_MD) (n : Nat) : Prop := dt_wb own idx Mc n ∧ Cond.instanceMethod Mc.1 ∈ dt_tbl ∧ Cond.sameMethod Mc.1.cls Mc.1.cls Mc.1.name Mc.1.desc ∈ dt_tbl ∧ Cond.superclass own Mc.1.cls ∈ dt_tbl ∧ Mc.1.name ≠ "<init>"
/-- a method named x (declared by owner), chosen Mc by the receiver's class C -/
def dt_wo (own : String) (idx : Nat) (Cn owner : String) (x : MethodName) (Mc : dt_MD) (n : Nat) : Prop := Cond.methodLink own idx x ∈ dt_tbl ∧ Cond.sameMethod x.cls owner x.name x.desc ∈ dt_tbl ∧ Cond.selects Cn x Mc.1 ∈ dt_tbl ∧ Cond.instanceMethod Mc.1 ∈ dt_tbl ∧ Cond.initialized Mc.1.cls ∈ dt_tbl ∧ Cond.code Mc.1 Mc.2.1 Mc.2.2.1 Mc.2.2.2 ∈ dt_tbl ∧ Cond.instanceMethod ⟨owner, x.name, x.desc⟩ ∈ dt_tbl ∧ (∃ b0 m0 r0, Cond.code ⟨owner, x.name, x.desc⟩ b0 m0 r0 ∈ dt_tbl) ∧ (owner ≠ "java/lang/invoke/MethodHandle" ∧ owner ≠ "java/lang/invoke/VarHandle") ∧ (parseMethodDescriptor x.desc).map (fun d => d.parameters.length) = some n
theorem dt_cb {own : String} {idx n d mc ms : Nat} {Mc : dt_MD} {s : State} {args : Array Value} (h : dt_wb own idx Mc n) (ht : ∀ w ∈ dt_tbl, w.before args s = true) (hR : d + 1 ≤ R.frames ∧ 8 + (Mc.2.2.1 + 11) + 40 * d ≤ R.locals) : CallB R s args own idx Mc.1 Mc.2.1 Mc.2.2.1 Mc.2.2.2 (.code Mc.1 Mc.2.1 Mc.2.2.1 Mc.2.2.2 :: dt_tbl) (dt_rm d mc ms) mc ms n := by
  refine callB_of n ht (fun w hw => ?_) rfl rfl rfl (ht _ h.2.2.1) (ht _ h.1) ⟨h.2.2.2.1.1, h.2.2.2.1.2, h.2.2.2.2⟩ hR
  rcases List.mem_cons.mp hw with rfl | hw
  · exact dt_good _ h.2.1
  · exact dt_good _ hw
theorem dt_callV {Mc : dt_MD} {idx n d mc ms a ci : Nat} {av : List dt_MV} {tags : List Nat} {q : vw_C} {stk : List dt_MV} {Q : Option dt_MV → List dt_Shp → dt_Mem → Prop} (hd : decode M.2.1 pc = .ok (.invokevirtual idx, 3)) (hw : dt_wv M.1.cls idx Mc n) (hs : sh[a]? = some (.inl (ci, tags))) (hc : dt_cls[ci]? = some q) (hq : q.1 = Mc.1.cls) (sp : dt_Sp Mc d mc ms (dt_R a :: av) sh σ Q) (hst : stk = av.reverse ++ dt_R a :: st) (hn : av.length = n) (hR : d + 1 ≤ R.frames ∧ 8 + (Mc.2.2.1 + 11) + 40 * d ≤ R.locals) (hr : (st.map dt_ct).sum ≤ 8) (hf : kc + mc ≤ R.cells ∧ ks + ms ≤ R.slots)
    (kk : ∀ v sh' σ', Q v sh' σ' → dt_V M R C (kc + mc) (ks + ms) (pc + 3) ls (v.toList ++ st) sh' σ') : dt_V M R C kc ks pc ls stk sh σ := by
  intro p l e s m args below meth c D dA S B H locs lsA Z F X P hS L
  subst hst
  have hp := dt_pre (av := dt_R a :: av) F P hS
  refine dt_run (ls := ls) F X hS L (va_runV (As := av.map (dt_tr B S)) (n := n) ⟨F.1, F.2.1, F.2.2.1, F.2.2.2.2.1, F.2.2.2.2.2.2.1⟩ (sp l D dA S B) ⟨dt_cb hw.1 F.2.2.2.2.2.2.1 hR, F.2.2.2.2.2.2.1 _ hw.2.1, F.2.2.2.2.2.2.1 _ hw.2.2⟩ ⟨hp.1, ?_, hp.2⟩ rfl (by rw [List.length_map]; exact hn) L.1 ?_ (lv_room (by rw [dt_ct_sum]; exact hr)) hd hf) kk
  · rw [← hq]
    exact dt_rcv F.2.2.2.2.2.2.2.2.1 P hs hc
  · simp [F0, dt_tr]
theorem dt_callO {Mc : dt_MD} {idx n d mc ms a ci : Nat} {x : MethodName} {owner : String} {av : List dt_MV} {tags : List Nat} {q : vw_C} {stk : List dt_MV} {Q : Option dt_MV → List dt_Shp → dt_Mem → Prop} (hd : decode M.2.1 pc = .ok (.invokevirtual idx, 3)) (hs : sh[a]? = some (.inl (ci, tags))) (hc : dt_cls[ci]? = some q) (hw : dt_wo M.1.cls idx q.1 owner x Mc n) (sp : dt_Sp Mc d mc ms (dt_R a :: av) sh σ Q) (hst : stk = av.reverse ++ dt_R a :: st) (hn : av.length = n) (hR : d + 1 ≤ R.frames ∧ 8 + (Mc.2.2.1 + 11) + 40 * d ≤ R.locals) (hr : (st.map dt_ct).sum ≤ 8) (hf : kc + mc ≤ R.cells ∧ ks + ms ≤ R.slots)
    (kk : ∀ v sh' σ', Q v sh' σ' → dt_V M R C (kc + mc) (ks + ms) (pc + 3) ls (v.toList ++ st) sh' σ') : dt_V M R C kc ks pc ls stk sh σ := by
  intro p l e s m args below meth c D dA S B H locs lsA Z F X P hS L
  subst hst
  have hp := dt_pre (av := dt_R a :: av) F P hS
  obtain ⟨w1, w2, w3, w4, w5, w6, w7, ⟨b0, m0, r0, w8⟩, w9, w10⟩ := hw
  have hG : GoodIn dt_tbl (.code Mc.1 Mc.2.1 Mc.2.2.1 Mc.2.2.2 :: dt_tbl) := fun w hw => by
    rcases List.mem_cons.mp hw with rfl | hw
    · exact dt_good _ w6
    · exact dt_good _ hw
  have hT : GoodIn dt_tbl (va_wsO M.1.cls idx q.1 owner x Mc.1 (.code Mc.1 Mc.2.1 Mc.2.2.1 Mc.2.2.2 :: dt_tbl)) := fun w hw => by
    unfold va_wsO at hw
    rcases List.mem_append.mp hw with hw | hw
    · simp only [List.mem_cons, List.not_mem_nil, or_false] at hw
      rcases hw with rfl | rfl | rfl | rfl | rfl | rfl
      · exact dt_good _ w1
      · exact dt_good _ w2
      · exact dt_good _ w7
      · exact dt_good _ w3
      · exact dt_good _ w4
      · exact dt_good _ w5
    · exact hG _ hw
  refine dt_run (ls := ls) F X hS L (va_runU (As := av.map (dt_tr B S)) (n := n) ⟨F.1, F.2.1, F.2.2.1, F.2.2.2.2.1, F.2.2.2.2.2.2.1⟩ (sp l D dA S B) (va_cwO n F.2.2.2.2.2.2.1 hT rfl rfl rfl w8 ⟨w9.1, w9.2, w10⟩ hR) ⟨hp.1, dt_rcv F.2.2.2.2.2.2.2.2.1 P hs hc, hp.2⟩ rfl (by rw [List.length_map]; exact hn) L.1 ?_ (lv_room (by rw [dt_ct_sum]; exact hr)) hd hf) kk
  simp [F0, dt_tr]
theorem dt_callSU {Mc : dt_MD} {idx n d mc ms a ci : Nat} {av : List dt_MV} {tags : List Nat} {q : vw_C} {stk : List dt_MV} {Q : Option dt_MV → List dt_Shp → dt_Mem → Prop} (hd : decode M.2.1 pc = .ok (.invokespecial idx, 3)) (hs : sh[a]? = some (.inl (ci, tags))) (hc : dt_cls[ci]? = some q) (hw : dt_wsu M.1.cls idx Mc n) (sp : dt_Sp Mc d mc ms (dt_R a :: av) sh σ Q) (hst : stk = av.reverse ++ dt_R a :: st) (hn : av.length = n) (hR : d + 1 ≤ R.frames ∧ 8 + (Mc.2.2.1 + 11) + 40 * d ≤ R.locals) (hr : (st.map dt_ct).sum ≤ 8) (hf : kc + mc ≤ R.cells ∧ ks + ms ≤ R.slots)
    (kk : ∀ v sh' σ', Q v sh' σ' → dt_V M R C (kc + mc) (ks + ms) (pc + 3) ls (v.toList ++ st) sh' σ') : dt_V M R C kc ks pc ls stk sh σ := by
  intro p l e s m args below meth c D dA S B H locs lsA Z F X P hS L
  subst hst
  have hp := dt_pre (av := dt_R a :: av) F P hS
  obtain ⟨wb, w1, w2, w3, w4⟩ := hw
  have hT : GoodIn dt_tbl (va_wsSU M.1.cls idx Mc.1 (.code Mc.1 Mc.2.1 Mc.2.2.1 Mc.2.2.2 :: dt_tbl)) := fun w hw => by
    unfold va_wsSU at hw
    rcases List.mem_append.mp hw with hw | hw
    · simp only [List.mem_cons, List.not_mem_nil, or_false] at hw
      rcases hw with rfl | rfl | rfl | rfl | rfl
      · exact dt_good _ wb.1
      · exact dt_good _ w2
      · exact dt_good _ w3
      · exact dt_good _ w1
      · exact dt_good _ wb.2.2.1
    · rcases List.mem_cons.mp hw with rfl | hw
      · exact dt_good _ wb.2.1
      · exact dt_good _ hw
  refine dt_run (ls := ls) F X hS L (va_runSU (As := av.map (dt_tr B S)) (n := n) (F.2.2.2.2.2.2.2.2.1.1 ci q hc).2 ⟨F.1, F.2.1, F.2.2.1, F.2.2.2.2.1, F.2.2.2.2.2.2.1⟩ (sp l D dA S B) (va_cwSU n F.2.2.2.2.2.2.1 hT rfl rfl rfl ⟨w4, wb.2.2.2.2⟩ hR) ⟨hp.1, dt_rcv F.2.2.2.2.2.2.2.2.1 P hs hc, hp.2⟩ rfl (by rw [List.length_map]; exact hn) L.1 ?_ (lv_room (by rw [dt_ct_sum]; exact hr)) hd hf) kk
  simp [F0, dt_tr]
theorem dt_callS {Mc : dt_MD} {idx n d mc ms : Nat} {av : List dt_MV} {stk : List dt_MV} {Q : Option dt_MV → List dt_Shp → dt_Mem → Prop} (hd : decode M.2.1 pc = .ok (.invokestatic idx, 3)) (hw : dt_wst M.1.cls idx Mc n) (sp : dt_Sp Mc d mc ms av sh σ Q) (hst : stk = av.reverse ++ st) (hn : av.length = n) (hR : d + 1 ≤ R.frames ∧ 8 + (Mc.2.2.1 + 11) + 40 * d ≤ R.locals) (hr : (st.map dt_ct).sum ≤ 8) (hf : kc + mc ≤ R.cells ∧ ks + ms ≤ R.slots)
    (kk : ∀ v sh' σ', Q v sh' σ' → dt_V M R C (kc + mc) (ks + ms) (pc + 3) ls (v.toList ++ st) sh' σ') : dt_V M R C kc ks pc ls stk sh σ := by
  intro p l e s m args below meth c D dA S B H locs lsA Z F X P hS L
  subst hst
  refine dt_run (ls := ls) F X hS L (va_runS (As := av.map (dt_tr B S)) (n := n) ⟨F.1, F.2.1, F.2.2.1, F.2.2.2.2.1, F.2.2.2.2.2.2.1⟩ (sp l D dA S B) ⟨dt_cb hw.1 F.2.2.2.2.2.2.1 hR, F.2.2.2.2.2.2.1 _ hw.2⟩ (dt_pre (av := av) F P hS) rfl (by rw [List.length_map]; exact hn) L.1 ?_ (lv_room (by rw [dt_ct_sum]; exact hr)) hd hf) kk
  simp [F0]
theorem dt_callI {Mc : dt_MD} {idx n d mc ms a : Nat} {av : List dt_MV} {stk : List dt_MV} {Q : Option dt_MV → List dt_Shp → dt_Mem → Prop} (hd : decode M.2.1 pc = .ok (.invokespecial idx, 3)) (hw : dt_wi M.1.cls idx Mc n) (sp : dt_Sp Mc d mc ms (dt_R a :: av) sh σ Q) (hst : stk = av.reverse ++ dt_R a :: st) (hn : av.length = n) (hR : d + 1 ≤ R.frames ∧ 8 + (Mc.2.2.1 + 11) + 40 * d ≤ R.locals) (hr : (st.map dt_ct).sum ≤ 8) (hf : kc + mc ≤ R.cells ∧ ks + ms ≤ R.slots)
    (kk : ∀ v sh' σ', Q v sh' σ' → dt_V M R C (kc + mc) (ks + ms) (pc + 3) ls (v.toList ++ st) sh' σ') : dt_V M R C kc ks pc ls stk sh σ := by
  intro p l e s m args below meth c D dA S B H locs lsA Z F X P hS L
  subst hst
  obtain ⟨wb, w1, w2, w3⟩ := hw
  have hb := dt_cb (R := R) (d := d) (mc := mc) (ms := ms) wb F.2.2.2.2.2.2.1 hR
  have hm := sp l D dA S B
  rw [w3] at hb hm
  refine dt_run (ls := ls) F X hS L (va_runI (As := av.map (dt_tr B S)) (n := n) ⟨F.1, F.2.1, F.2.2.1, F.2.2.2.2.1, F.2.2.2.2.2.2.1⟩ hm ⟨hb, w2, F.2.2.2.2.2.2.1 _ w1⟩ (dt_pre (av := dt_R a :: av) F P hS) rfl (by rw [List.length_map]; exact hn) L.1 ?_ (lv_room (by rw [dt_ct_sum]; exact hr)) hd hf) kk
  simp [F0, dt_tr]
theorem dt_obj {idx : Nat} {a : Nat} (hd : decode M.2.1 pc = .ok (.invokespecial idx, 3)) (hw : Cond.methodLink M.1.cls idx Lib.objectInit ∈ dt_tbl) (hw2 : Cond.instanceMethod Lib.objectInit ∈ dt_tbl) (hw3 : Cond.code Lib.objectInit ⟨#[0xb1]⟩ 1 none ∈ dt_tbl) (h1 : 1 ≤ R.frames) (h2 : (st.map dt_ct).sum + 12 ≤ R.locals) (k : dt_V M R C kc ks (pc + 3) ls st sh σ) : dt_V M R C kc ks pc ls (dt_R a :: st) sh σ := by
  intro p l e s m args below meth c D dA S B H locs lsA Z F X P hS L
  exact W.objInit F.1 F.2.1 F.2.2.2.2.1 (F.2.2.2.2.2.2.1 _ hw) (F.2.2.2.2.2.2.1 _ hw2) (F.2.2.2.2.2.2.1 _ hw3) rfl (L.1.trans F.2.2.1.symm) rfl hd h1 (by rw [dt_ct_sum]; show 2 * 0 + _ + 12 ≤ _; omega) (k p l e s m args below meth c D dA S B H locs lsA Z F X P hS L)
/-! which class -/
theorem dt_instY {idx a ci : Nat} {nm : String} {q : vw_C} {tags : List Nat} (hd : decode M.2.1 pc = .ok (.instanceof idx, 3)) (hw : Cond.classLink M.1.cls idx nm ∈ dt_tbl) (hs : sh[a]? = some (.inl (ci, tags))) (hc : dt_cls[ci]? = some q) (h : q.1 = nm ∨ (q.1, nm) ∈ dt_cst) (k : dt_V M R C kc ks (pc + 3) ls (dt_I 1 :: st) sh σ) : dt_V M R C kc ks pc ls (dt_R a :: st) sh σ := by
  intro p l e s m args below meth c D dA S B H locs lsA Z F X P hS L
  rcases h with h | h
  · exact va_instE F.1 F.2.1 F.2.2.2.2.1 (F.2.2.2.2.2.2.1 _ hw) (by rw [← h]; exact dt_rcv F.2.2.2.2.2.2.2.2.1 P hs hc) hd (k p l e s m args below meth c D dA S B H locs lsA Z F X P hS L)
  · exact va_instY F.1 F.2.1 F.2.2.2.2.1 (F.2.2.2.2.2.2.1 _ hw) (F.2.2.2.2.2.2.2.2.2.1.2.2.2.2.1 _ h) (dt_rcv F.2.2.2.2.2.2.2.2.1 P hs hc) hd (k p l e s m args below meth c D dA S B H locs lsA Z F X P hS L)
theorem dt_instN {idx a ci : Nat} {nm : String} {q : vw_C} {tags : List Nat} (hd : decode M.2.1 pc = .ok (.instanceof idx, 3)) (hw : Cond.classLink M.1.cls idx nm ∈ dt_tbl) (hs : sh[a]? = some (.inl (ci, tags))) (hc : dt_cls[ci]? = some q) (h : (q.1, nm) ∈ dt_nct) (k : dt_V M R C kc ks (pc + 3) ls (dt_I 0 :: st) sh σ) : dt_V M R C kc ks pc ls (dt_R a :: st) sh σ := by
  intro p l e s m args below meth c D dA S B H locs lsA Z F X P hS L
  exact va_instNo F.1 F.2.1 F.2.2.2.2.1 (F.2.2.2.2.2.2.1 _ hw) (F.2.2.2.2.2.2.2.2.2.1.2.2.2.2.2 _ h) (dt_rcv F.2.2.2.2.2.2.2.2.1 P hs hc) hd (k p l e s m args below meth c D dA S B H locs lsA Z F X P hS L)
/-! Math.min, System.arraycopy -/
theorem dt_min {idx : Nat} {x y : Int} (hd : decode M.2.1 pc = .ok (.invokestatic idx, 3)) (hw1 : Cond.methodLink M.1.cls idx Lib.Math.min.name ∈ dt_tbl) (hw2 : Cond.static Lib.Math.min.name ∈ dt_tbl) (hw3 : Cond.initialized "java/lang/Math" ∈ dt_tbl) (hw4 : Cond.code Lib.Math.min.name Lib.Math.min.code 2 (some .int) ∈ dt_tbl) (h1 : 1 ≤ R.frames) (h2 : (st.map dt_ct).sum + 13 ≤ R.locals) (h3 : kc ≤ R.cells) (h4 : ks ≤ R.slots) (hx : dt_in32 x) (hy : dt_in32 y) (k : dt_V M R C kc ks (pc + 3) ls (dt_I (if y < x then y else x) :: st) sh σ) : dt_V M R C kc ks pc ls (dt_I y :: dt_I x :: st) sh σ := by
  intro p l e s m args below meth c D dA S B H locs lsA Z F X P hS L
  have hts := F.2.2.2.2.2.2.1
  refine va_mmin F.1 F.2.1 (F.2.2.1.trans L.1.symm) F.2.2.2.2.1 (hts _ hw1) (hts _ hw2) (hts _ hw3) (hts _ hw4) h1 (by rw [dt_ct_sum]; exact h2) h3 h4 hd ?_
  have h := (k p l e s m args below meth c D dA S B H locs lsA Z F X P hS L)
  have e : (if Int32.ofInt y < Int32.ofInt x then Int32.ofInt y else Int32.ofInt x) = Int32.ofInt (if y < x then y else x) := by
    by_cases hc : y < x
    · rw [if_pos hc, if_pos ((dt_lt hy hx).mpr hc)]
    · rw [if_neg hc, if_neg (fun z => hc ((dt_lt hy hx).mp z))]
  rw [e]
  exact h
/-- a copied stretch -/
def dt_cp (σ : dt_Mem) (a b sp dp n : Nat) : dt_Mem := fun c j => if c = b then (if dp ≤ j ∧ j < dp + n then σ a (sp + (j - dp)) else σ b j) else σ c j
theorem dt_wf.cp {σ : dt_Mem} (h : dt_wf σ) {a b sp dp n : Nat} : dt_wf (dt_cp σ a b sp dp n) := by
  intro c j
  unfold dt_cp
  split
  · split
    · exact h a _
    · exact h b j
  · exact h c j
theorem dt_copy {idx a b ty n0 n1 : Nat} {sp dp n : Int} (hd : decode M.2.1 pc = .ok (.invokestatic idx, 3)) (hw1 : Cond.methodLink M.1.cls idx arraycopyName ∈ dt_tbl) (hw2 : Cond.native arraycopyName ∈ dt_tbl) (hw3 : Cond.static arraycopyName ∈ dt_tbl) (hw4 : Cond.initialized "java/lang/System" ∈ dt_tbl) (h1 : 1 ≤ R.frames) (h2 : (st.map dt_ct).sum + 40 ≤ R.locals) (ha : sh[a]? = some (.inr (ty, n0))) (hb : sh[b]? = some (.inr (ty, n1))) (hty : ty = 0 ∨ (ty = 1 ∧ ∀ i, i < n0 → σ a i = 0 ∨ σ a i = 1)) (g0 : n0 ≤ 1000000) (g1 : n1 ≤ 1000000) (hs0 : 0 ≤ sp) (hd0 : 0 ≤ dp) (hn0 : 0 ≤ n) (hs1 : sp + n ≤ n0) (hd1 : dp + n ≤ n1) (k : dt_V M R C kc ks (pc + 3) ls st sh (dt_cp σ a b sp.toNat dp.toNat n.toNat)) : dt_V M R C kc ks pc ls (dt_I n :: dt_I dp :: dt_R b :: dt_I sp :: dt_R a :: st) sh σ := by
  intro p l e s m args below meth c D dA S B H locs lsA Z F X P hS L
  have hts := F.2.2.2.2.2.2.1
  have hK := F.2.2.2.2.2.2.2.2.1
  have is : dt_in32 sp := ⟨by omega, by omega⟩
  have id' : dt_in32 dp := ⟨by omega, by omega⟩
  have i_n : dt_in32 n := ⟨by omega, by omega⟩
  have hnw : nativeFrameWords "java/lang/System" "arraycopy" 5 + 11 ≤ 40 := by decide +kernel
  intro T hT Y
  have hc0 : H[B + a]? = some (vp_cell (dA ty) (n0, .inl (fun j => Int32.ofInt (σ a j)))) := P.2.2 a _ (dt_ws_at ha)
  have hc1 : H[B + b]? = some (vp_cell (dA ty) (n1, .inl (fun j => Int32.ofInt (σ b j)))) := P.2.2 b _ (dt_ws_at hb)
  obtain ⟨fty, hfty, hprim, hfits⟩ : ∃ fty : FieldType, (∃ t0 : Nat, ([(dA 0, FieldType.int), (dA 1, .boolean)] : List (ClassId × FieldType))[t0]? = some (dA ty, fty)) ∧ refKind fty = false ∧ ∀ i, i < n0 → fits fty (.int (Int32.ofInt (σ a i))) = true := by
    rcases hty with rfl | ⟨rfl, hz⟩
    · exact ⟨.int, ⟨0, rfl⟩, rfl, fun _ _ => rfl⟩
    · exact ⟨.boolean, ⟨1, rfl⟩, rfl, fun i hi => by rcases hz i hi with h | h <;> rw [h] <;> decide⟩
  obtain ⟨t0, ht0⟩ := hfty
  obtain ⟨-, k0, hk0, cm0, hkk0⟩ := (hK.2 t0 _ ht0).1 n0 (fun j => .int (Int32.ofInt (σ a j)))
  obtain ⟨-, k1, hk1, cm1, hkk1⟩ := (hK.2 t0 _ ht0).1 n1 (fun j => .int (Int32.ofInt (σ b j)))
  have f0 : ∀ z : Int, dt_in32 z → 0 ≤ z → ¬ Int32.ofInt z < 0 := fun z hz h => by rw [dt_0, dt_lt hz dt_z]; omega
  obtain ⟨vm', Y', step⟩ := Y.arraycopy F.1 F.2.2.2.2.1 (hts _ hw1) (hts _ hw2) (hts _ hw3) (hts _ hw4) (src := B + a) (dst := B + b) (cs := vp_cell (dA ty) (n0, .inl (fun j => Int32.ofInt (σ a j)))) (cd := vp_cell (dA ty) (n1, .inl (fun j => Int32.ofInt (σ b j)))) (srcPos := Int32.ofInt sp) (destPos := Int32.ofInt dp) (n := Int32.ofInt n) (by rw [hT]; exact hc0) (by rw [hT]; exact hc1)
    (fun _ h => by cases h) (fun _ h => by cases h) (fun h => by cases h) (fun h => by cases h) hk0 hk1 hkk0 hkk1 (by simp [hprim]) (f0 sp is hs0) (f0 dp id' hd0) (f0 n i_n hn0)
    (by rw [dt_toInt is, dt_toInt i_n]; show ¬ _ > ((arrV (dA ty) n0 _).slots.size : Int); rw [arrV_size]; omega)
    (by rw [dt_toInt id', dt_toInt i_n]; show ¬ _ > ((arrV (dA ty) n1 _).slots.size : Int); rw [arrV_size]; omega)
    (fun vm₁ _ i hi => by
      rw [dt_cl i_n] at hi
      have e : (vp_cell (dA ty) (n0, .inl (fun j => Int32.ofInt (σ a j)))).slots.getD ((Int32.ofInt sp).toNatClampNeg + i) .null = .int (Int32.ofInt (σ a (sp.toNat + i))) := by
        show (arrV (dA ty) n0 _).slots.getD _ _ = _
        rw [Array.getD_eq_getD_getElem?, dt_cl is, arrV_read _ _ (by omega)]
        rfl
      refine ⟨?_, ?_⟩
      · rw [e]
        exact hfits _ (by omega)
      · rw [e]
        exact trivial)
    (g := F0 m pc lsA (.int (Int32.ofInt n) :: .int (Int32.ofInt dp) :: .ref (B + b) :: .int (Int32.ofInt sp) :: .ref (B + a) :: st.map (dt_tr B S))) rfl (by rw [F.2.2.1]; exact L.1) (rest := st.map (dt_tr B S)) rfl (by rw [F.2.1]; exact hd) h1 (by rw [dt_ct_sum]; show 2 * 0 + _ + (nativeFrameWords "java/lang/System" "arraycopy" 5 + 11) ≤ _; omega)
  have e1 : copied (vp_cell (dA ty) (n0, .inl (fun j => Int32.ofInt (σ a j)))) (vp_cell (dA ty) (n1, .inl (fun j => Int32.ofInt (σ b j)))) (Int32.ofInt sp) (Int32.ofInt dp) (Int32.ofInt n) = vp_cell (dA ty) (n1, .inl (va_cpy (fun j => Int32.ofInt (σ a j)) (fun j => Int32.ofInt (σ b j)) (Int32.ofInt sp).toNatClampNeg (Int32.ofInt dp).toNatClampNeg (Int32.ofInt n).toNatClampNeg)) := va_copied (fun z => Value.int z) (dA ty) (dA ty) (fun j => Int32.ofInt (σ a j)) (fun j => Int32.ofInt (σ b j)) (show (Int32.ofInt sp).toNatClampNeg + (Int32.ofInt n).toNatClampNeg ≤ n0 by rw [dt_cl is, dt_cl i_n]; omega)
  rw [e1, dt_cl is, dt_cl id', dt_cl i_n] at Y' step
  have hl : B + b < H.size := (Array.getElem?_eq_some_iff.mp hc1).1
  have hlb : b < sh.length := (List.getElem?_eq_some_iff.mp hb).1
  obtain ⟨cell', hcell'⟩ : ∃ z, z = vp_cell (dA ty) (n1, .inl (va_cpy (fun j => Int32.ofInt (σ a j)) (fun j => Int32.ofInt (σ b j)) sp.toNat dp.toNat n.toNat)) := ⟨_, rfl⟩
  rw [← hcell'] at Y' step
  have hheap : ((T.setVm vm').setCell (B + b) cell').heap = H.setIfInBounds (B + b) cell' := by rw [← hT]; rfl
  have oq : ∀ q : Nat, q ≠ B + b → (H.setIfInBounds (B + b) cell')[q]? = H[q]? := fun q hq => by simp [Array.getElem?_setIfInBounds, Ne.symm hq]
  have P2 : dt_Rep B S D dA sh (dt_cp σ a b sp.toNat dp.toNat n.toNat) (H.setIfInBounds (B + b) cell') := by
    refine ⟨P.1.cp, by rw [Array.size_setIfInBounds]; exact P.2.1, ?_⟩
    rw [← dt_ws_set (σ := σ) (x := .inr (ty, n1)) hlb (dt_set_self hb).symm (fun c hc => by unfold dt_cp; funext j; rw [if_neg hc])]
    refine P.2.2.set dt_ws_D (dt_ws_at hb) ?_ oq
    show (H.setIfInBounds (B + b) cell')[B + b]? = some (vp_cell _ _)
    rw [hcell']
    simp only [Array.getElem?_setIfInBounds, hl, if_true]
    congr 3
    refine congrArg Sum.inl (funext fun j => ?_)
    simp only [va_cpy, dt_cp, if_true]
    split <;> rfl
  obtain ⟨t, a1, b1⟩ := k p l e s m args below meth c D dA S B _ _ lsA Z F X P2 ⟨by rw [Array.size_setIfInBounds]; exact hS.1, fun q g1 g2 => by
      rw [oq q (fun e => g2 (by rw [e]; omega))]
      exact hS.2.1 q g1 g2, fun q hq => by
      rcases List.mem_append.mp hq with h | h
      · exact hS.2.2 q h
      · obtain ⟨z, -, hz⟩ := List.mem_map.mp h
        rw [← hz]
        show B ≤ B + b
        omega⟩ L _ hheap Y'
  exact ⟨t, step t a1, b1⟩
/-! String constants: text i is dt_S (2 i), its bytes dt_S (2 i + 1) -/
theorem dt_sval {idx i : Nat} (hi : i < 8) (hd : decode M.2.1 pc = .ok (.getfield idx, 3)) (hw : Cond.fieldLink M.1.cls idx "java/lang/String" "value" "[B" ∈ dt_tbl) (k : dt_V M R C kc ks (pc + 3) ls (dt_S (2 * i + 1) :: st) sh σ) : dt_V M R C kc ks pc ls (dt_S (2 * i) :: st) sh σ := by
  intro p l e s m args below meth c D dA S B H locs lsA Z F X P hS L
  exact vk_getf F.1 F.2.1 (F.2.2.2.2.2.2.2.2.2.1.1.1 i hi).2.2.1 hS F.2.2.2.2.1 (F.2.2.2.2.2.2.1 _ hw) (fun _ h => h) hd (k p l e s m args below meth c D dA S B H locs lsA Z F X P hS L)
theorem dt_scod {idx i : Nat} (hi : i < 8) (hd : decode M.2.1 pc = .ok (.getfield idx, 3)) (hw : Cond.fieldLink M.1.cls idx "java/lang/String" "coder" "B" ∈ dt_tbl) (k : dt_V M R C kc ks (pc + 3) ls (dt_I 0 :: st) sh σ) : dt_V M R C kc ks pc ls (dt_S (2 * i) :: st) sh σ := by
  intro p l e s m args below meth c D dA S B H locs lsA Z F X P hS L
  exact vk_getf F.1 F.2.1 (F.2.2.2.2.2.2.2.2.2.1.1.1 i hi).2.1 hS F.2.2.2.2.1 (F.2.2.2.2.2.2.1 _ hw) (fun _ h => h) hd (k p l e s m args below meth c D dA S B H locs lsA Z F X P hS L)
theorem dt_slen {i : Nat} (hi : i < 8) (hd : decode M.2.1 pc = .ok (.arraylength, 1)) (k : dt_V M R C kc ks (pc + 1) ls (dt_I (dt_ln.getD i 0) :: st) sh σ) : dt_V M R C kc ks pc ls (dt_S (2 * i + 1) :: st) sh σ := by
  intro p l e s m args below meth c D dA S B H locs lsA Z F X P hS L
  exact va_tlen F.1 F.2.1 (F.2.2.2.2.2.2.2.2.2.1.1.1 i hi).2.2.2 hS Int32.ofInt_eq_ofNat.symm hd (k p l e s m args below meth c D dA S B H locs lsA Z F X P hS L)
theorem dt_sbld {i : Nat} {j : Int} (hi : i < 8) (hd : decode M.2.1 pc = .ok (.baload, 1)) (h0 : 0 ≤ j) (h1 : j < (dt_ln.getD i 0 : Nat)) (h2 : ((dt_ln.getD i 0 : Nat) : Int) ≤ 2147483647) (k : dt_V M R C kc ks (pc + 1) ls (dt_I (((dt_bt.getD i []).getD j.toNat 0).toInt) :: st) sh σ) : dt_V M R C kc ks pc ls (dt_I j :: dt_S (2 * i + 1) :: st) sh σ := by
  intro p l e s m args below meth c D dA S B H locs lsA Z F X P hS L
  have hj : dt_in32 j := ⟨by omega, by omega⟩
  exact va_tb F.1 F.2.1 (F.2.2.2.2.2.2.2.2.2.1.1.1 i hi).2.2.2 hS (dt_vpin hj h0 h1) (v := .int (Int32.ofInt ((dt_bt.getD i []).getD j.toNat 0).toInt)) (by rw [dt_cl hj, Int32.ofInt_toInt]) hd (k p l e s m args below meth c D dA S B H locs lsA Z F X P hS L)
theorem dt_scpt {idx : Nat} (hd : decode M.2.1 pc = .ok (.getstatic idx, 3)) (hw : Cond.fieldLink M.1.cls idx "java/lang/String" "COMPACT_STRINGS" "Z" ∈ dt_tbl) (k : dt_V M R C kc ks (pc + 3) ls (dt_I 1 :: st) sh σ) : dt_V M R C kc ks pc ls st sh σ := by
  intro p l e s m args below meth c D dA S B H locs lsA Z F X P hS L
  exact va_gets F.1 F.2.1 F.2.2.2.2.2.2.2.2.2.1.2.2.1 hS F.2.2.2.2.1 (F.2.2.2.2.2.2.1 _ hw) (fun _ h => h) hd (k p l e s m args below meth c D dA S B H locs lsA Z F X P hS L)
theorem dt_callStr {Mc : dt_MD} {idx n d mc ms i : Nat} {av : List dt_MV} {stk : List dt_MV} {Q : Option dt_MV → List dt_Shp → dt_Mem → Prop} (hi : i < 8) (hd : decode M.2.1 pc = .ok (.invokevirtual idx, 3)) (hw : dt_wv M.1.cls idx Mc n) (hq : Mc.1.cls = "java/lang/String") (sp : dt_Sp Mc d mc ms (dt_S (2 * i) :: av) sh σ Q) (hst : stk = av.reverse ++ dt_S (2 * i) :: st) (hn : av.length = n) (hR : d + 1 ≤ R.frames ∧ 8 + (Mc.2.2.1 + 11) + 40 * d ≤ R.locals) (hr : (st.map dt_ct).sum ≤ 8) (hf : kc + mc ≤ R.cells ∧ ks + ms ≤ R.slots)
    (kk : ∀ v sh' σ', Q v sh' σ' → dt_V M R C (kc + mc) (ks + ms) (pc + 3) ls (v.toList ++ st) sh' σ') : dt_V M R C kc ks pc ls stk sh σ := by
  intro p l e s m args below meth c D dA S B H locs lsA Z F X P hS L
  subst hst
  have hp := dt_pre (av := dt_S (2 * i) :: av) F P hS
  refine dt_run (ls := ls) F X hS L (va_runV (As := av.map (dt_tr B S)) (n := n) ⟨F.1, F.2.1, F.2.2.1, F.2.2.2.2.1, F.2.2.2.2.2.2.1⟩ (sp l D dA S B) ⟨dt_cb hw.1 F.2.2.2.2.2.2.1 hR, F.2.2.2.2.2.2.1 _ hw.2.1, F.2.2.2.2.2.2.1 _ hw.2.2⟩ ⟨hp.1, ?_, hp.2⟩ rfl (by rw [List.length_map]; exact hn) L.1 ?_ (lv_room (by rw [dt_ct_sum]; exact hr)) hd hf) kk
  · rw [hq]
    exact vk_recv (adK := fun i => S (2 * i)) (i := i) F.2.2.2.2.2.2.2.2.2.1.1 hi hS
  · simp [F0, dt_tr]
end DTS
end
