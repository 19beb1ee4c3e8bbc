abbrev cX8_init : ByteArray := prog_10_method_1_code
def yX8_init : MethodName := ⟨"DayTongues$Sayings", "<init>", "(LDayTongues$Port;)V"⟩
def mX8_init : dt_MD := (yX8_init, cX8_init, 2, none)
theorem dX8_init_0 : decode cX8_init 0 = .ok (.aload_n 0, 1) := by decide +kernel
theorem dX8_init_1 : decode cX8_init 1 = .ok (.invokespecial 3, 3) := by decide +kernel
theorem dX8_init_4 : decode cX8_init 4 = .ok (.aload_n 0, 1) := by decide +kernel
theorem dX8_init_5 : decode cX8_init 5 = .ok (.aload_n 1, 1) := by decide +kernel
theorem dX8_init_6 : decode cX8_init 6 = .ok (.putfield 9, 3) := by decide +kernel
theorem dX8_init_9 : decode cX8_init 9 = .ok (.aload_n 0, 1) := by decide +kernel
theorem dX8_init_10 : decode cX8_init 10 = .ok (.sipush 256, 3) := by decide +kernel
theorem dX8_init_13 : decode cX8_init 13 = .ok (.newarray .boolean, 2) := by decide +kernel
theorem dX8_init_15 : decode cX8_init 15 = .ok (.putfield 15, 3) := by decide +kernel
theorem dX8_init_18 : decode cX8_init 18 = .ok (.aload_n 0, 1) := by decide +kernel
theorem dX8_init_19 : decode cX8_init 19 = .ok (.sipush 256, 3) := by decide +kernel
theorem dX8_init_22 : decode cX8_init 22 = .ok (.newarray .boolean, 2) := by decide +kernel
theorem dX8_init_24 : decode cX8_init 24 = .ok (.putfield 19, 3) := by decide +kernel
theorem dX8_init_27 : decode cX8_init 27 = .ok (.aload_n 0, 1) := by decide +kernel
theorem dX8_init_28 : decode cX8_init 28 = .ok (.sipush 256, 3) := by decide +kernel
theorem dX8_init_31 : decode cX8_init 31 = .ok (.newarray .boolean, 2) := by decide +kernel
theorem dX8_init_33 : decode cX8_init 33 = .ok (.putfield 22, 3) := by decide +kernel
theorem dX8_init_36 : decode cX8_init 36 = .ok (.aload_n 0, 1) := by decide +kernel
theorem dX8_init_37 : decode cX8_init 37 = .ok (.sipush 256, 3) := by decide +kernel
theorem dX8_init_40 : decode cX8_init 40 = .ok (.newarray .int, 2) := by decide +kernel
theorem dX8_init_42 : decode cX8_init 42 = .ok (.putfield 25, 3) := by decide +kernel
theorem dX8_init_45 : decode cX8_init 45 = .ok (.aload_n 0, 1) := by decide +kernel
theorem dX8_init_46 : decode cX8_init 46 = .ok (.sipush 256, 3) := by decide +kernel
theorem dX8_init_49 : decode cX8_init 49 = .ok (.newarray .int, 2) := by decide +kernel
theorem dX8_init_51 : decode cX8_init 51 = .ok (.putfield 29, 3) := by decide +kernel
theorem dX8_init_54 : decode cX8_init 54 = .ok (.aload_n 0, 1) := by decide +kernel
theorem dX8_init_55 : decode cX8_init 55 = .ok (.bipush 8, 2) := by decide +kernel
theorem dX8_init_57 : decode cX8_init 57 = .ok (.newarray .int, 2) := by decide +kernel
theorem dX8_init_59 : decode cX8_init 59 = .ok (.putfield 32, 3) := by decide +kernel
theorem dX8_init_62 : decode cX8_init 62 = .ok (.aload_n 0, 1) := by decide +kernel
theorem dX8_init_63 : decode cX8_init 63 = .ok (.bipush 8, 2) := by decide +kernel
theorem dX8_init_65 : decode cX8_init 65 = .ok (.newarray .int, 2) := by decide +kernel
theorem dX8_init_67 : decode cX8_init 67 = .ok (.putfield 35, 3) := by decide +kernel
theorem dX8_init_70 : decode cX8_init 70 = .ok (.return_, 1) := by decide +kernel
abbrev cX8_begin : ByteArray := prog_10_method_2_code
def yX8_begin : MethodName := ⟨"DayTongues$Sayings", "begin", "()V"⟩
def mX8_begin : dt_MD := (yX8_begin, cX8_begin, 2, none)
theorem dX8_begin_0 : decode cX8_begin 0 = .ok (.iconst 0, 1) := by decide +kernel
theorem dX8_begin_1 : decode cX8_begin 1 = .ok (.istore_n 1, 1) := by decide +kernel
theorem dX8_begin_2 : decode cX8_begin 2 = .ok (.iload_n 1, 1) := by decide +kernel
theorem dX8_begin_3 : decode cX8_begin 3 = .ok (.sipush 256, 3) := by decide +kernel
theorem dX8_begin_6 : decode cX8_begin 6 = .ok (.if_icmp .ge 24, 3) := by decide +kernel
theorem dX8_begin_9 : decode cX8_begin 9 = .ok (.aload_n 0, 1) := by decide +kernel
theorem dX8_begin_10 : decode cX8_begin 10 = .ok (.getfield 15, 3) := by decide +kernel
theorem dX8_begin_13 : decode cX8_begin 13 = .ok (.iload_n 1, 1) := by decide +kernel
theorem dX8_begin_14 : decode cX8_begin 14 = .ok (.iload_n 1, 1) := by decide +kernel
theorem dX8_begin_15 : decode cX8_begin 15 = .ok (.ifCond .ne 7, 3) := by decide +kernel
theorem dX8_begin_18 : decode cX8_begin 18 = .ok (.iconst 1, 1) := by decide +kernel
theorem dX8_begin_19 : decode cX8_begin 19 = .ok (.goto 4, 3) := by decide +kernel
theorem dX8_begin_22 : decode cX8_begin 22 = .ok (.iconst 0, 1) := by decide +kernel
theorem dX8_begin_23 : decode cX8_begin 23 = .ok (.bastore, 1) := by decide +kernel
theorem dX8_begin_24 : decode cX8_begin 24 = .ok (.iinc 1 1, 3) := by decide +kernel
theorem dX8_begin_27 : decode cX8_begin 27 = .ok (.goto (-25), 3) := by decide +kernel
theorem dX8_begin_30 : decode cX8_begin 30 = .ok (.return_, 1) := by decide +kernel
abbrev cX8_say : ByteArray := prog_10_method_3_code
def yX8_say : MethodName := ⟨"DayTongues$Sayings", "say", "(II)V"⟩
def mX8_say : dt_MD := (yX8_say, cX8_say, 6, none)
theorem dX8_say_0 : decode cX8_say 0 = .ok (.aload_n 0, 1) := by decide +kernel
theorem dX8_say_1 : decode cX8_say 1 = .ok (.getfield 15, 3) := by decide +kernel
theorem dX8_say_4 : decode cX8_say 4 = .ok (.iconst 0, 1) := by decide +kernel
theorem dX8_say_5 : decode cX8_say 5 = .ok (.aload_n 0, 1) := by decide +kernel
theorem dX8_say_6 : decode cX8_say 6 = .ok (.getfield 19, 3) := by decide +kernel
theorem dX8_say_9 : decode cX8_say 9 = .ok (.iconst 0, 1) := by decide +kernel
theorem dX8_say_10 : decode cX8_say 10 = .ok (.sipush 256, 3) := by decide +kernel
theorem dX8_say_13 : decode cX8_say 13 = .ok (.invokestatic 38, 3) := by decide +kernel
theorem dX8_say_16 : decode cX8_say 16 = .ok (.iconst 0, 1) := by decide +kernel
theorem dX8_say_17 : decode cX8_say 17 = .ok (.istore_n 3, 1) := by decide +kernel
theorem dX8_say_18 : decode cX8_say 18 = .ok (.iload_n 3, 1) := by decide +kernel
theorem dX8_say_19 : decode cX8_say 19 = .ok (.sipush 256, 3) := by decide +kernel
theorem dX8_say_22 : decode cX8_say 22 = .ok (.if_icmp .ge 16, 3) := by decide +kernel
theorem dX8_say_25 : decode cX8_say 25 = .ok (.aload_n 0, 1) := by decide +kernel
theorem dX8_say_26 : decode cX8_say 26 = .ok (.getfield 15, 3) := by decide +kernel
theorem dX8_say_29 : decode cX8_say 29 = .ok (.iload_n 3, 1) := by decide +kernel
theorem dX8_say_30 : decode cX8_say 30 = .ok (.iconst 0, 1) := by decide +kernel
theorem dX8_say_31 : decode cX8_say 31 = .ok (.bastore, 1) := by decide +kernel
theorem dX8_say_32 : decode cX8_say 32 = .ok (.iinc 3 1, 3) := by decide +kernel
theorem dX8_say_35 : decode cX8_say 35 = .ok (.goto (-17), 3) := by decide +kernel
theorem dX8_say_38 : decode cX8_say 38 = .ok (.iconst 0, 1) := by decide +kernel
theorem dX8_say_39 : decode cX8_say 39 = .ok (.istore_n 3, 1) := by decide +kernel
theorem dX8_say_40 : decode cX8_say 40 = .ok (.iload_n 3, 1) := by decide +kernel
theorem dX8_say_41 : decode cX8_say 41 = .ok (.aload_n 0, 1) := by decide +kernel
theorem dX8_say_42 : decode cX8_say 42 = .ok (.getfield 9, 3) := by decide +kernel
theorem dX8_say_45 : decode cX8_say 45 = .ok (.iload_n 1, 1) := by decide +kernel
theorem dX8_say_46 : decode cX8_say 46 = .ok (.iload_n 2, 1) := by decide +kernel
theorem dX8_say_47 : decode cX8_say 47 = .ok (.invokevirtual 44, 3) := by decide +kernel
theorem dX8_say_50 : decode cX8_say 50 = .ok (.if_icmp .ge 63, 3) := by decide +kernel
theorem dX8_say_53 : decode cX8_say 53 = .ok (.aload_n 0, 1) := by decide +kernel
theorem dX8_say_54 : decode cX8_say 54 = .ok (.getfield 9, 3) := by decide +kernel
theorem dX8_say_57 : decode cX8_say 57 = .ok (.iload_n 1, 1) := by decide +kernel
theorem dX8_say_58 : decode cX8_say 58 = .ok (.iload_n 2, 1) := by decide +kernel
theorem dX8_say_59 : decode cX8_say 59 = .ok (.iload_n 3, 1) := by decide +kernel
theorem dX8_say_60 : decode cX8_say 60 = .ok (.invokevirtual 50, 3) := by decide +kernel
theorem dX8_say_63 : decode cX8_say 63 = .ok (.sipush 255, 3) := by decide +kernel
theorem dX8_say_66 : decode cX8_say 66 = .ok (.iand, 1) := by decide +kernel
theorem dX8_say_67 : decode cX8_say 67 = .ok (.istore 4, 2) := by decide +kernel
theorem dX8_say_69 : decode cX8_say 69 = .ok (.iconst 0, 1) := by decide +kernel
theorem dX8_say_70 : decode cX8_say 70 = .ok (.istore 5, 2) := by decide +kernel
theorem dX8_say_72 : decode cX8_say 72 = .ok (.iload 5, 2) := by decide +kernel
theorem dX8_say_74 : decode cX8_say 74 = .ok (.sipush 256, 3) := by decide +kernel
theorem dX8_say_77 : decode cX8_say 77 = .ok (.if_icmp .ge 30, 3) := by decide +kernel
theorem dX8_say_80 : decode cX8_say 80 = .ok (.aload_n 0, 1) := by decide +kernel
theorem dX8_say_81 : decode cX8_say 81 = .ok (.getfield 19, 3) := by decide +kernel
theorem dX8_say_84 : decode cX8_say 84 = .ok (.iload 5, 2) := by decide +kernel
theorem dX8_say_86 : decode cX8_say 86 = .ok (.baload, 1) := by decide +kernel
theorem dX8_say_87 : decode cX8_say 87 = .ok (.ifCond .eq 14, 3) := by decide +kernel
theorem dX8_say_90 : decode cX8_say 90 = .ok (.aload_n 0, 1) := by decide +kernel
theorem dX8_say_91 : decode cX8_say 91 = .ok (.getfield 15, 3) := by decide +kernel
theorem dX8_say_94 : decode cX8_say 94 = .ok (.iload 5, 2) := by decide +kernel
theorem dX8_say_96 : decode cX8_say 96 = .ok (.iload 4, 2) := by decide +kernel
theorem dX8_say_98 : decode cX8_say 98 = .ok (.ior, 1) := by decide +kernel
theorem dX8_say_99 : decode cX8_say 99 = .ok (.iconst 1, 1) := by decide +kernel
theorem dX8_say_100 : decode cX8_say 100 = .ok (.bastore, 1) := by decide +kernel
theorem dX8_say_101 : decode cX8_say 101 = .ok (.iinc 5 1, 3) := by decide +kernel
theorem dX8_say_104 : decode cX8_say 104 = .ok (.goto (-32), 3) := by decide +kernel
theorem dX8_say_107 : decode cX8_say 107 = .ok (.iinc 3 1, 3) := by decide +kernel
theorem dX8_say_110 : decode cX8_say 110 = .ok (.goto (-70), 3) := by decide +kernel
theorem dX8_say_113 : decode cX8_say 113 = .ok (.return_, 1) := by decide +kernel
abbrev cX8_mayMean : ByteArray := prog_10_method_4_code
def yX8_mayMean : MethodName := ⟨"DayTongues$Sayings", "mayMean", "(I)Z"⟩
def mX8_mayMean : dt_MD := (yX8_mayMean, cX8_mayMean, 2, some .boolean)
theorem dX8_mayMean_0 : decode cX8_mayMean 0 = .ok (.iconst 0, 1) := by decide +kernel
theorem dX8_mayMean_1 : decode cX8_mayMean 1 = .ok (.iload_n 1, 1) := by decide +kernel
theorem dX8_mayMean_2 : decode cX8_mayMean 2 = .ok (.if_icmp .gt 23, 3) := by decide +kernel
theorem dX8_mayMean_5 : decode cX8_mayMean 5 = .ok (.iload_n 1, 1) := by decide +kernel
theorem dX8_mayMean_6 : decode cX8_mayMean 6 = .ok (.sipush 256, 3) := by decide +kernel
theorem dX8_mayMean_9 : decode cX8_mayMean 9 = .ok (.if_icmp .ge 16, 3) := by decide +kernel
theorem dX8_mayMean_12 : decode cX8_mayMean 12 = .ok (.aload_n 0, 1) := by decide +kernel
theorem dX8_mayMean_13 : decode cX8_mayMean 13 = .ok (.getfield 15, 3) := by decide +kernel
theorem dX8_mayMean_16 : decode cX8_mayMean 16 = .ok (.iload_n 1, 1) := by decide +kernel
theorem dX8_mayMean_17 : decode cX8_mayMean 17 = .ok (.baload, 1) := by decide +kernel
theorem dX8_mayMean_18 : decode cX8_mayMean 18 = .ok (.ifCond .eq 7, 3) := by decide +kernel
theorem dX8_mayMean_21 : decode cX8_mayMean 21 = .ok (.iconst 1, 1) := by decide +kernel
theorem dX8_mayMean_22 : decode cX8_mayMean 22 = .ok (.goto 4, 3) := by decide +kernel
theorem dX8_mayMean_25 : decode cX8_mayMean 25 = .ok (.iconst 0, 1) := by decide +kernel
theorem dX8_mayMean_26 : decode cX8_mayMean 26 = .ok (.ireturn, 1) := by decide +kernel
abbrev cX8_meaning : ByteArray := prog_10_method_5_code
def yX8_meaning : MethodName := ⟨"DayTongues$Sayings", "meaning", "(I)I"⟩
def mX8_meaning : dt_MD := (yX8_meaning, cX8_meaning, 2, some .int)
theorem dX8_meaning_0 : decode cX8_meaning 0 = .ok (.iload_n 1, 1) := by decide +kernel
theorem dX8_meaning_1 : decode cX8_meaning 1 = .ok (.ifCond .ge 13, 3) := by decide +kernel
theorem dX8_meaning_4 : decode cX8_meaning 4 = .ok (.aload_n 0, 1) := by decide +kernel
theorem dX8_meaning_5 : decode cX8_meaning 5 = .ok (.getfield 15, 3) := by decide +kernel
theorem dX8_meaning_8 : decode cX8_meaning 8 = .ok (.invokestatic 54, 3) := by decide +kernel
theorem dX8_meaning_11 : decode cX8_meaning 11 = .ok (.goto 11, 3) := by decide +kernel
theorem dX8_meaning_14 : decode cX8_meaning 14 = .ok (.aload_n 0, 1) := by decide +kernel
theorem dX8_meaning_15 : decode cX8_meaning 15 = .ok (.getfield 15, 3) := by decide +kernel
theorem dX8_meaning_18 : decode cX8_meaning 18 = .ok (.iload_n 1, 1) := by decide +kernel
theorem dX8_meaning_19 : decode cX8_meaning 19 = .ok (.invokestatic 58, 3) := by decide +kernel
theorem dX8_meaning_22 : decode cX8_meaning 22 = .ok (.ireturn, 1) := by decide +kernel
abbrev cX8_beginBargain : ByteArray := prog_10_method_6_code
def yX8_beginBargain : MethodName := ⟨"DayTongues$Sayings", "beginBargain", "()V"⟩
def mX8_beginBargain : dt_MD := (yX8_beginBargain, cX8_beginBargain, 2, none)
theorem dX8_beginBargain_0 : decode cX8_beginBargain 0 = .ok (.iconst 0, 1) := by decide +kernel
theorem dX8_beginBargain_1 : decode cX8_beginBargain 1 = .ok (.istore_n 1, 1) := by decide +kernel
theorem dX8_beginBargain_2 : decode cX8_beginBargain 2 = .ok (.iload_n 1, 1) := by decide +kernel
theorem dX8_beginBargain_3 : decode cX8_beginBargain 3 = .ok (.sipush 256, 3) := by decide +kernel
theorem dX8_beginBargain_6 : decode cX8_beginBargain 6 = .ok (.if_icmp .ge 16, 3) := by decide +kernel
theorem dX8_beginBargain_9 : decode cX8_beginBargain 9 = .ok (.aload_n 0, 1) := by decide +kernel
theorem dX8_beginBargain_10 : decode cX8_beginBargain 10 = .ok (.getfield 22, 3) := by decide +kernel
theorem dX8_beginBargain_13 : decode cX8_beginBargain 13 = .ok (.iload_n 1, 1) := by decide +kernel
theorem dX8_beginBargain_14 : decode cX8_beginBargain 14 = .ok (.iconst 1, 1) := by decide +kernel
theorem dX8_beginBargain_15 : decode cX8_beginBargain 15 = .ok (.bastore, 1) := by decide +kernel
theorem dX8_beginBargain_16 : decode cX8_beginBargain 16 = .ok (.iinc 1 1, 3) := by decide +kernel
theorem dX8_beginBargain_19 : decode cX8_beginBargain 19 = .ok (.goto (-17), 3) := by decide +kernel
theorem dX8_beginBargain_22 : decode cX8_beginBargain 22 = .ok (.return_, 1) := by decide +kernel
abbrev cX8_joinBargain : ByteArray := prog_10_method_7_code
def yX8_joinBargain : MethodName := ⟨"DayTongues$Sayings", "joinBargain", "()V"⟩
def mX8_joinBargain : dt_MD := (yX8_joinBargain, cX8_joinBargain, 2, none)
theorem dX8_joinBargain_0 : decode cX8_joinBargain 0 = .ok (.iconst 0, 1) := by decide +kernel
theorem dX8_joinBargain_1 : decode cX8_joinBargain 1 = .ok (.istore_n 1, 1) := by decide +kernel
theorem dX8_joinBargain_2 : decode cX8_joinBargain 2 = .ok (.iload_n 1, 1) := by decide +kernel
theorem dX8_joinBargain_3 : decode cX8_joinBargain 3 = .ok (.sipush 256, 3) := by decide +kernel
theorem dX8_joinBargain_6 : decode cX8_joinBargain 6 = .ok (.if_icmp .ge 38, 3) := by decide +kernel
theorem dX8_joinBargain_9 : decode cX8_joinBargain 9 = .ok (.aload_n 0, 1) := by decide +kernel
theorem dX8_joinBargain_10 : decode cX8_joinBargain 10 = .ok (.getfield 22, 3) := by decide +kernel
theorem dX8_joinBargain_13 : decode cX8_joinBargain 13 = .ok (.iload_n 1, 1) := by decide +kernel
theorem dX8_joinBargain_14 : decode cX8_joinBargain 14 = .ok (.aload_n 0, 1) := by decide +kernel
theorem dX8_joinBargain_15 : decode cX8_joinBargain 15 = .ok (.getfield 22, 3) := by decide +kernel
theorem dX8_joinBargain_18 : decode cX8_joinBargain 18 = .ok (.iload_n 1, 1) := by decide +kernel
theorem dX8_joinBargain_19 : decode cX8_joinBargain 19 = .ok (.baload, 1) := by decide +kernel
theorem dX8_joinBargain_20 : decode cX8_joinBargain 20 = .ok (.ifCond .eq 16, 3) := by decide +kernel
theorem dX8_joinBargain_23 : decode cX8_joinBargain 23 = .ok (.aload_n 0, 1) := by decide +kernel
theorem dX8_joinBargain_24 : decode cX8_joinBargain 24 = .ok (.getfield 15, 3) := by decide +kernel
theorem dX8_joinBargain_27 : decode cX8_joinBargain 27 = .ok (.iload_n 1, 1) := by decide +kernel
theorem dX8_joinBargain_28 : decode cX8_joinBargain 28 = .ok (.baload, 1) := by decide +kernel
theorem dX8_joinBargain_29 : decode cX8_joinBargain 29 = .ok (.ifCond .eq 7, 3) := by decide +kernel
theorem dX8_joinBargain_32 : decode cX8_joinBargain 32 = .ok (.iconst 1, 1) := by decide +kernel
theorem dX8_joinBargain_33 : decode cX8_joinBargain 33 = .ok (.goto 4, 3) := by decide +kernel
theorem dX8_joinBargain_36 : decode cX8_joinBargain 36 = .ok (.iconst 0, 1) := by decide +kernel
theorem dX8_joinBargain_37 : decode cX8_joinBargain 37 = .ok (.bastore, 1) := by decide +kernel
theorem dX8_joinBargain_38 : decode cX8_joinBargain 38 = .ok (.iinc 1 1, 3) := by decide +kernel
theorem dX8_joinBargain_41 : decode cX8_joinBargain 41 = .ok (.goto (-39), 3) := by decide +kernel
theorem dX8_joinBargain_44 : decode cX8_joinBargain 44 = .ok (.return_, 1) := by decide +kernel
abbrev cX8_meaningAlike : ByteArray := prog_10_method_8_code
def yX8_meaningAlike : MethodName := ⟨"DayTongues$Sayings", "meaningAlike", "(I)I"⟩
def mX8_meaningAlike : dt_MD := (yX8_meaningAlike, cX8_meaningAlike, 2, some .int)
theorem dX8_meaningAlike_0 : decode cX8_meaningAlike 0 = .ok (.iload_n 1, 1) := by decide +kernel
theorem dX8_meaningAlike_1 : decode cX8_meaningAlike 1 = .ok (.ifCond .ge 13, 3) := by decide +kernel
theorem dX8_meaningAlike_4 : decode cX8_meaningAlike 4 = .ok (.aload_n 0, 1) := by decide +kernel
theorem dX8_meaningAlike_5 : decode cX8_meaningAlike 5 = .ok (.getfield 22, 3) := by decide +kernel
theorem dX8_meaningAlike_8 : decode cX8_meaningAlike 8 = .ok (.invokestatic 54, 3) := by decide +kernel
theorem dX8_meaningAlike_11 : decode cX8_meaningAlike 11 = .ok (.goto 11, 3) := by decide +kernel
theorem dX8_meaningAlike_14 : decode cX8_meaningAlike 14 = .ok (.aload_n 0, 1) := by decide +kernel
theorem dX8_meaningAlike_15 : decode cX8_meaningAlike 15 = .ok (.getfield 22, 3) := by decide +kernel
theorem dX8_meaningAlike_18 : decode cX8_meaningAlike 18 = .ok (.iload_n 1, 1) := by decide +kernel
theorem dX8_meaningAlike_19 : decode cX8_meaningAlike 19 = .ok (.invokestatic 58, 3) := by decide +kernel
theorem dX8_meaningAlike_22 : decode cX8_meaningAlike 22 = .ok (.ireturn, 1) := by decide +kernel
abbrev cX8_perhapsSaid : ByteArray := prog_10_method_9_code
def yX8_perhapsSaid : MethodName := ⟨"DayTongues$Sayings", "perhapsSaid", "(I)I"⟩
def mX8_perhapsSaid : dt_MD := (yX8_perhapsSaid, cX8_perhapsSaid, 4, some .int)
theorem dX8_perhapsSaid_0 : decode cX8_perhapsSaid 0 = .ok (.aload_n 0, 1) := by decide +kernel
theorem dX8_perhapsSaid_1 : decode cX8_perhapsSaid 1 = .ok (.invokevirtual 62, 3) := by decide +kernel
theorem dX8_perhapsSaid_4 : decode cX8_perhapsSaid 4 = .ok (.iconst 0, 1) := by decide +kernel
theorem dX8_perhapsSaid_5 : decode cX8_perhapsSaid 5 = .ok (.istore_n 2, 1) := by decide +kernel
theorem dX8_perhapsSaid_6 : decode cX8_perhapsSaid 6 = .ok (.iload_n 2, 1) := by decide +kernel
theorem dX8_perhapsSaid_7 : decode cX8_perhapsSaid 7 = .ok (.aload_n 0, 1) := by decide +kernel
theorem dX8_perhapsSaid_8 : decode cX8_perhapsSaid 8 = .ok (.getfield 9, 3) := by decide +kernel
theorem dX8_perhapsSaid_11 : decode cX8_perhapsSaid 11 = .ok (.iload_n 1, 1) := by decide +kernel
theorem dX8_perhapsSaid_12 : decode cX8_perhapsSaid 12 = .ok (.invokevirtual 65, 3) := by decide +kernel
theorem dX8_perhapsSaid_15 : decode cX8_perhapsSaid 15 = .ok (.if_icmp .ge 48, 3) := by decide +kernel
theorem dX8_perhapsSaid_18 : decode cX8_perhapsSaid 18 = .ok (.iconst 0, 1) := by decide +kernel
theorem dX8_perhapsSaid_19 : decode cX8_perhapsSaid 19 = .ok (.istore_n 3, 1) := by decide +kernel
theorem dX8_perhapsSaid_20 : decode cX8_perhapsSaid 20 = .ok (.iload_n 3, 1) := by decide +kernel
theorem dX8_perhapsSaid_21 : decode cX8_perhapsSaid 21 = .ok (.aload_n 0, 1) := by decide +kernel
theorem dX8_perhapsSaid_22 : decode cX8_perhapsSaid 22 = .ok (.getfield 9, 3) := by decide +kernel
theorem dX8_perhapsSaid_25 : decode cX8_perhapsSaid 25 = .ok (.iload_n 1, 1) := by decide +kernel
theorem dX8_perhapsSaid_26 : decode cX8_perhapsSaid 26 = .ok (.iload_n 2, 1) := by decide +kernel
theorem dX8_perhapsSaid_27 : decode cX8_perhapsSaid 27 = .ok (.invokevirtual 44, 3) := by decide +kernel
theorem dX8_perhapsSaid_30 : decode cX8_perhapsSaid 30 = .ok (.if_icmp .ge 27, 3) := by decide +kernel
theorem dX8_perhapsSaid_33 : decode cX8_perhapsSaid 33 = .ok (.aload_n 0, 1) := by decide +kernel
theorem dX8_perhapsSaid_34 : decode cX8_perhapsSaid 34 = .ok (.aload_n 0, 1) := by decide +kernel
theorem dX8_perhapsSaid_35 : decode cX8_perhapsSaid 35 = .ok (.getfield 9, 3) := by decide +kernel
theorem dX8_perhapsSaid_38 : decode cX8_perhapsSaid 38 = .ok (.iload_n 1, 1) := by decide +kernel
theorem dX8_perhapsSaid_39 : decode cX8_perhapsSaid 39 = .ok (.iload_n 2, 1) := by decide +kernel
theorem dX8_perhapsSaid_40 : decode cX8_perhapsSaid 40 = .ok (.iload_n 3, 1) := by decide +kernel
theorem dX8_perhapsSaid_41 : decode cX8_perhapsSaid 41 = .ok (.invokevirtual 50, 3) := by decide +kernel
theorem dX8_perhapsSaid_44 : decode cX8_perhapsSaid 44 = .ok (.sipush 255, 3) := by decide +kernel
theorem dX8_perhapsSaid_47 : decode cX8_perhapsSaid 47 = .ok (.iand, 1) := by decide +kernel
theorem dX8_perhapsSaid_48 : decode cX8_perhapsSaid 48 = .ok (.invokevirtual 69, 3) := by decide +kernel
theorem dX8_perhapsSaid_51 : decode cX8_perhapsSaid 51 = .ok (.iinc 3 1, 3) := by decide +kernel
theorem dX8_perhapsSaid_54 : decode cX8_perhapsSaid 54 = .ok (.goto (-34), 3) := by decide +kernel
theorem dX8_perhapsSaid_57 : decode cX8_perhapsSaid 57 = .ok (.iinc 2 1, 3) := by decide +kernel
theorem dX8_perhapsSaid_60 : decode cX8_perhapsSaid 60 = .ok (.goto (-54), 3) := by decide +kernel
theorem dX8_perhapsSaid_63 : decode cX8_perhapsSaid 63 = .ok (.aload_n 0, 1) := by decide +kernel
theorem dX8_perhapsSaid_64 : decode cX8_perhapsSaid 64 = .ok (.getfield 15, 3) := by decide +kernel
theorem dX8_perhapsSaid_67 : decode cX8_perhapsSaid 67 = .ok (.invokestatic 54, 3) := by decide +kernel
theorem dX8_perhapsSaid_70 : decode cX8_perhapsSaid 70 = .ok (.ireturn, 1) := by decide +kernel
abbrev cX8_surelySaid : ByteArray := prog_10_method_10_code
def yX8_surelySaid : MethodName := ⟨"DayTongues$Sayings", "surelySaid", "(II)I"⟩
def mX8_surelySaid : dt_MD := (yX8_surelySaid, cX8_surelySaid, 8, some .int)
theorem dX8_surelySaid_0 : decode cX8_surelySaid 0 = .ok (.aload_n 0, 1) := by decide +kernel
theorem dX8_surelySaid_1 : decode cX8_surelySaid 1 = .ok (.getfield 9, 3) := by decide +kernel
theorem dX8_surelySaid_4 : decode cX8_surelySaid 4 = .ok (.iload_n 1, 1) := by decide +kernel
theorem dX8_surelySaid_5 : decode cX8_surelySaid 5 = .ok (.invokevirtual 65, 3) := by decide +kernel
theorem dX8_surelySaid_8 : decode cX8_surelySaid 8 = .ok (.bipush 8, 2) := by decide +kernel
theorem dX8_surelySaid_10 : decode cX8_surelySaid 10 = .ok (.invokestatic 73, 3) := by decide +kernel
theorem dX8_surelySaid_13 : decode cX8_surelySaid 13 = .ok (.istore_n 3, 1) := by decide +kernel
theorem dX8_surelySaid_14 : decode cX8_surelySaid 14 = .ok (.iconst 0, 1) := by decide +kernel
theorem dX8_surelySaid_15 : decode cX8_surelySaid 15 = .ok (.istore 4, 2) := by decide +kernel
theorem dX8_surelySaid_17 : decode cX8_surelySaid 17 = .ok (.iload 4, 2) := by decide +kernel
theorem dX8_surelySaid_19 : decode cX8_surelySaid 19 = .ok (.iload_n 3, 1) := by decide +kernel
theorem dX8_surelySaid_20 : decode cX8_surelySaid 20 = .ok (.if_icmp .ge 43, 3) := by decide +kernel
theorem dX8_surelySaid_23 : decode cX8_surelySaid 23 = .ok (.aload_n 0, 1) := by decide +kernel
theorem dX8_surelySaid_24 : decode cX8_surelySaid 24 = .ok (.getfield 32, 3) := by decide +kernel
theorem dX8_surelySaid_27 : decode cX8_surelySaid 27 = .ok (.iload 4, 2) := by decide +kernel
theorem dX8_surelySaid_29 : decode cX8_surelySaid 29 = .ok (.aload_n 0, 1) := by decide +kernel
theorem dX8_surelySaid_30 : decode cX8_surelySaid 30 = .ok (.getfield 9, 3) := by decide +kernel
theorem dX8_surelySaid_33 : decode cX8_surelySaid 33 = .ok (.iload_n 1, 1) := by decide +kernel
theorem dX8_surelySaid_34 : decode cX8_surelySaid 34 = .ok (.iload 4, 2) := by decide +kernel
theorem dX8_surelySaid_36 : decode cX8_surelySaid 36 = .ok (.invokevirtual 78, 3) := by decide +kernel
theorem dX8_surelySaid_39 : decode cX8_surelySaid 39 = .ok (.iastore, 1) := by decide +kernel
theorem dX8_surelySaid_40 : decode cX8_surelySaid 40 = .ok (.aload_n 0, 1) := by decide +kernel
theorem dX8_surelySaid_41 : decode cX8_surelySaid 41 = .ok (.getfield 35, 3) := by decide +kernel
theorem dX8_surelySaid_44 : decode cX8_surelySaid 44 = .ok (.iload 4, 2) := by decide +kernel
theorem dX8_surelySaid_46 : decode cX8_surelySaid 46 = .ok (.aload_n 0, 1) := by decide +kernel
theorem dX8_surelySaid_47 : decode cX8_surelySaid 47 = .ok (.getfield 9, 3) := by decide +kernel
theorem dX8_surelySaid_50 : decode cX8_surelySaid 50 = .ok (.iload_n 1, 1) := by decide +kernel
theorem dX8_surelySaid_51 : decode cX8_surelySaid 51 = .ok (.iload 4, 2) := by decide +kernel
theorem dX8_surelySaid_53 : decode cX8_surelySaid 53 = .ok (.invokevirtual 81, 3) := by decide +kernel
theorem dX8_surelySaid_56 : decode cX8_surelySaid 56 = .ok (.iastore, 1) := by decide +kernel
theorem dX8_surelySaid_57 : decode cX8_surelySaid 57 = .ok (.iinc 4 1, 3) := by decide +kernel
theorem dX8_surelySaid_60 : decode cX8_surelySaid 60 = .ok (.goto (-43), 3) := by decide +kernel
theorem dX8_surelySaid_63 : decode cX8_surelySaid 63 = .ok (.iconst 0, 1) := by decide +kernel
theorem dX8_surelySaid_64 : decode cX8_surelySaid 64 = .ok (.istore 4, 2) := by decide +kernel
theorem dX8_surelySaid_66 : decode cX8_surelySaid 66 = .ok (.iconst 0, 1) := by decide +kernel
theorem dX8_surelySaid_67 : decode cX8_surelySaid 67 = .ok (.istore 5, 2) := by decide +kernel
theorem dX8_surelySaid_69 : decode cX8_surelySaid 69 = .ok (.iload 5, 2) := by decide +kernel
theorem dX8_surelySaid_71 : decode cX8_surelySaid 71 = .ok (.sipush 256, 3) := by decide +kernel
theorem dX8_surelySaid_74 : decode cX8_surelySaid 74 = .ok (.if_icmp .ge 77, 3) := by decide +kernel
theorem dX8_surelySaid_77 : decode cX8_surelySaid 77 = .ok (.iload_n 2, 1) := by decide +kernel
theorem dX8_surelySaid_78 : decode cX8_surelySaid 78 = .ok (.iload 5, 2) := by decide +kernel
theorem dX8_surelySaid_80 : decode cX8_surelySaid 80 = .ok (.ior, 1) := by decide +kernel
theorem dX8_surelySaid_81 : decode cX8_surelySaid 81 = .ok (.iload 5, 2) := by decide +kernel
theorem dX8_surelySaid_83 : decode cX8_surelySaid 83 = .ok (.if_icmp .ne 7, 3) := by decide +kernel
theorem dX8_surelySaid_86 : decode cX8_surelySaid 86 = .ok (.iload_n 2, 1) := by decide +kernel
theorem dX8_surelySaid_87 : decode cX8_surelySaid 87 = .ok (.goto 4, 3) := by decide +kernel
theorem dX8_surelySaid_90 : decode cX8_surelySaid 90 = .ok (.iconst 0, 1) := by decide +kernel
theorem dX8_surelySaid_91 : decode cX8_surelySaid 91 = .ok (.istore 6, 2) := by decide +kernel
theorem dX8_surelySaid_93 : decode cX8_surelySaid 93 = .ok (.iconst 0, 1) := by decide +kernel
theorem dX8_surelySaid_94 : decode cX8_surelySaid 94 = .ok (.istore 7, 2) := by decide +kernel
theorem dX8_surelySaid_96 : decode cX8_surelySaid 96 = .ok (.iload 7, 2) := by decide +kernel
theorem dX8_surelySaid_98 : decode cX8_surelySaid 98 = .ok (.iload_n 3, 1) := by decide +kernel
theorem dX8_surelySaid_99 : decode cX8_surelySaid 99 = .ok (.if_icmp .ge 36, 3) := by decide +kernel
theorem dX8_surelySaid_102 : decode cX8_surelySaid 102 = .ok (.aload_n 0, 1) := by decide +kernel
theorem dX8_surelySaid_103 : decode cX8_surelySaid 103 = .ok (.getfield 32, 3) := by decide +kernel
theorem dX8_surelySaid_106 : decode cX8_surelySaid 106 = .ok (.iload 7, 2) := by decide +kernel
theorem dX8_surelySaid_108 : decode cX8_surelySaid 108 = .ok (.iaload, 1) := by decide +kernel
theorem dX8_surelySaid_109 : decode cX8_surelySaid 109 = .ok (.iload 5, 2) := by decide +kernel
theorem dX8_surelySaid_111 : decode cX8_surelySaid 111 = .ok (.ior, 1) := by decide +kernel
theorem dX8_surelySaid_112 : decode cX8_surelySaid 112 = .ok (.iload 5, 2) := by decide +kernel
theorem dX8_surelySaid_114 : decode cX8_surelySaid 114 = .ok (.if_icmp .ne 15, 3) := by decide +kernel
theorem dX8_surelySaid_117 : decode cX8_surelySaid 117 = .ok (.iload 6, 2) := by decide +kernel
theorem dX8_surelySaid_119 : decode cX8_surelySaid 119 = .ok (.aload_n 0, 1) := by decide +kernel
theorem dX8_surelySaid_120 : decode cX8_surelySaid 120 = .ok (.getfield 35, 3) := by decide +kernel
theorem dX8_surelySaid_123 : decode cX8_surelySaid 123 = .ok (.iload 7, 2) := by decide +kernel
theorem dX8_surelySaid_125 : decode cX8_surelySaid 125 = .ok (.iaload, 1) := by decide +kernel
theorem dX8_surelySaid_126 : decode cX8_surelySaid 126 = .ok (.ior, 1) := by decide +kernel
theorem dX8_surelySaid_127 : decode cX8_surelySaid 127 = .ok (.istore 6, 2) := by decide +kernel
theorem dX8_surelySaid_129 : decode cX8_surelySaid 129 = .ok (.iinc 7 1, 3) := by decide +kernel
theorem dX8_surelySaid_132 : decode cX8_surelySaid 132 = .ok (.goto (-36), 3) := by decide +kernel
theorem dX8_surelySaid_135 : decode cX8_surelySaid 135 = .ok (.iload 6, 2) := by decide +kernel
theorem dX8_surelySaid_137 : decode cX8_surelySaid 137 = .ok (.iload 5, 2) := by decide +kernel
theorem dX8_surelySaid_139 : decode cX8_surelySaid 139 = .ok (.if_icmp .ne 6, 3) := by decide +kernel
theorem dX8_surelySaid_142 : decode cX8_surelySaid 142 = .ok (.iinc 4 1, 3) := by decide +kernel
theorem dX8_surelySaid_145 : decode cX8_surelySaid 145 = .ok (.iinc 5 1, 3) := by decide +kernel
theorem dX8_surelySaid_148 : decode cX8_surelySaid 148 = .ok (.goto (-79), 3) := by decide +kernel
theorem dX8_surelySaid_151 : decode cX8_surelySaid 151 = .ok (.iload 4, 2) := by decide +kernel
theorem dX8_surelySaid_153 : decode cX8_surelySaid 153 = .ok (.ireturn, 1) := by decide +kernel
abbrev cX8_tongueToLetIn : ByteArray := prog_10_method_11_code
def yX8_tongueToLetIn : MethodName := ⟨"DayTongues$Sayings", "tongueToLetIn", "(I)I"⟩
def mX8_tongueToLetIn : dt_MD := (yX8_tongueToLetIn, cX8_tongueToLetIn, 6, some .int)
theorem dX8_tongueToLetIn_0 : decode cX8_tongueToLetIn 0 = .ok (.ldc 84, 2) := by decide +kernel
theorem dX8_tongueToLetIn_2 : decode cX8_tongueToLetIn 2 = .ok (.istore_n 2, 1) := by decide +kernel
theorem dX8_tongueToLetIn_3 : decode cX8_tongueToLetIn 3 = .ok (.ldc 84, 2) := by decide +kernel
theorem dX8_tongueToLetIn_5 : decode cX8_tongueToLetIn 5 = .ok (.istore_n 3, 1) := by decide +kernel
theorem dX8_tongueToLetIn_6 : decode cX8_tongueToLetIn 6 = .ok (.iconst 0, 1) := by decide +kernel
theorem dX8_tongueToLetIn_7 : decode cX8_tongueToLetIn 7 = .ok (.istore 4, 2) := by decide +kernel
theorem dX8_tongueToLetIn_9 : decode cX8_tongueToLetIn 9 = .ok (.iload 4, 2) := by decide +kernel
theorem dX8_tongueToLetIn_11 : decode cX8_tongueToLetIn 11 = .ok (.aload_n 0, 1) := by decide +kernel
theorem dX8_tongueToLetIn_12 : decode cX8_tongueToLetIn 12 = .ok (.getfield 9, 3) := by decide +kernel
theorem dX8_tongueToLetIn_15 : decode cX8_tongueToLetIn 15 = .ok (.invokevirtual 85, 3) := by decide +kernel
theorem dX8_tongueToLetIn_18 : decode cX8_tongueToLetIn 18 = .ok (.if_icmp .ge 52, 3) := by decide +kernel
theorem dX8_tongueToLetIn_21 : decode cX8_tongueToLetIn 21 = .ok (.aload_n 0, 1) := by decide +kernel
theorem dX8_tongueToLetIn_22 : decode cX8_tongueToLetIn 22 = .ok (.getfield 9, 3) := by decide +kernel
theorem dX8_tongueToLetIn_25 : decode cX8_tongueToLetIn 25 = .ok (.iload 4, 2) := by decide +kernel
theorem dX8_tongueToLetIn_27 : decode cX8_tongueToLetIn 27 = .ok (.invokevirtual 65, 3) := by decide +kernel
theorem dX8_tongueToLetIn_30 : decode cX8_tongueToLetIn 30 = .ok (.bipush 8, 2) := by decide +kernel
theorem dX8_tongueToLetIn_32 : decode cX8_tongueToLetIn 32 = .ok (.if_icmp .ge 32, 3) := by decide +kernel
theorem dX8_tongueToLetIn_35 : decode cX8_tongueToLetIn 35 = .ok (.aload_n 0, 1) := by decide +kernel
theorem dX8_tongueToLetIn_36 : decode cX8_tongueToLetIn 36 = .ok (.iload 4, 2) := by decide +kernel
theorem dX8_tongueToLetIn_38 : decode cX8_tongueToLetIn 38 = .ok (.iload_n 1, 1) := by decide +kernel
theorem dX8_tongueToLetIn_39 : decode cX8_tongueToLetIn 39 = .ok (.invokevirtual 89, 3) := by decide +kernel
theorem dX8_tongueToLetIn_42 : decode cX8_tongueToLetIn 42 = .ok (.aload_n 0, 1) := by decide +kernel
theorem dX8_tongueToLetIn_43 : decode cX8_tongueToLetIn 43 = .ok (.iload 4, 2) := by decide +kernel
theorem dX8_tongueToLetIn_45 : decode cX8_tongueToLetIn 45 = .ok (.iconst 0, 1) := by decide +kernel
theorem dX8_tongueToLetIn_46 : decode cX8_tongueToLetIn 46 = .ok (.invokevirtual 89, 3) := by decide +kernel
theorem dX8_tongueToLetIn_49 : decode cX8_tongueToLetIn 49 = .ok (.isub, 1) := by decide +kernel
theorem dX8_tongueToLetIn_50 : decode cX8_tongueToLetIn 50 = .ok (.istore 5, 2) := by decide +kernel
theorem dX8_tongueToLetIn_52 : decode cX8_tongueToLetIn 52 = .ok (.iload 5, 2) := by decide +kernel
theorem dX8_tongueToLetIn_54 : decode cX8_tongueToLetIn 54 = .ok (.iload_n 3, 1) := by decide +kernel
theorem dX8_tongueToLetIn_55 : decode cX8_tongueToLetIn 55 = .ok (.if_icmp .le 9, 3) := by decide +kernel
theorem dX8_tongueToLetIn_58 : decode cX8_tongueToLetIn 58 = .ok (.iload 5, 2) := by decide +kernel
theorem dX8_tongueToLetIn_60 : decode cX8_tongueToLetIn 60 = .ok (.istore_n 3, 1) := by decide +kernel
theorem dX8_tongueToLetIn_61 : decode cX8_tongueToLetIn 61 = .ok (.iload 4, 2) := by decide +kernel
theorem dX8_tongueToLetIn_63 : decode cX8_tongueToLetIn 63 = .ok (.istore_n 2, 1) := by decide +kernel
theorem dX8_tongueToLetIn_64 : decode cX8_tongueToLetIn 64 = .ok (.iinc 4 1, 3) := by decide +kernel
theorem dX8_tongueToLetIn_67 : decode cX8_tongueToLetIn 67 = .ok (.goto (-58), 3) := by decide +kernel
theorem dX8_tongueToLetIn_70 : decode cX8_tongueToLetIn 70 = .ok (.iload_n 2, 1) := by decide +kernel
theorem dX8_tongueToLetIn_71 : decode cX8_tongueToLetIn 71 = .ok (.ireturn, 1) := by decide +kernel
abbrev cX8_shortestOf : ByteArray := prog_10_method_12_code
def yX8_shortestOf : MethodName := ⟨"DayTongues$Sayings", "shortestOf", "(IIZI)I"⟩
def mX8_shortestOf : dt_MD := (yX8_shortestOf, cX8_shortestOf, 6, some .int)
theorem dX8_shortestOf_0 : decode cX8_shortestOf 0 = .ok (.iload_n 2, 1) := by decide +kernel
theorem dX8_shortestOf_1 : decode cX8_shortestOf 1 = .ok (.ifCond .lt 10, 3) := by decide +kernel
theorem dX8_shortestOf_4 : decode cX8_shortestOf 4 = .ok (.iload_n 2, 1) := by decide +kernel
theorem dX8_shortestOf_5 : decode cX8_shortestOf 5 = .ok (.sipush 256, 3) := by decide +kernel
theorem dX8_shortestOf_8 : decode cX8_shortestOf 8 = .ok (.if_icmp .lt 6, 3) := by decide +kernel
theorem dX8_shortestOf_11 : decode cX8_shortestOf 11 = .ok (.ldc 84, 2) := by decide +kernel
theorem dX8_shortestOf_13 : decode cX8_shortestOf 13 = .ok (.ireturn, 1) := by decide +kernel
theorem dX8_shortestOf_14 : decode cX8_shortestOf 14 = .ok (.aload_n 0, 1) := by decide +kernel
theorem dX8_shortestOf_15 : decode cX8_shortestOf 15 = .ok (.iload_n 1, 1) := by decide +kernel
theorem dX8_shortestOf_16 : decode cX8_shortestOf 16 = .ok (.iload_n 2, 1) := by decide +kernel
theorem dX8_shortestOf_17 : decode cX8_shortestOf 17 = .ok (.iload_n 3, 1) := by decide +kernel
theorem dX8_shortestOf_18 : decode cX8_shortestOf 18 = .ok (.invokevirtual 92, 3) := by decide +kernel
theorem dX8_shortestOf_21 : decode cX8_shortestOf 21 = .ok (.aload_n 0, 1) := by decide +kernel
theorem dX8_shortestOf_22 : decode cX8_shortestOf 22 = .ok (.getfield 25, 3) := by decide +kernel
theorem dX8_shortestOf_25 : decode cX8_shortestOf 25 = .ok (.iload_n 2, 1) := by decide +kernel
theorem dX8_shortestOf_26 : decode cX8_shortestOf 26 = .ok (.iaload, 1) := by decide +kernel
theorem dX8_shortestOf_27 : decode cX8_shortestOf 27 = .ok (.istore 5, 2) := by decide +kernel
theorem dX8_shortestOf_29 : decode cX8_shortestOf 29 = .ok (.iload 5, 2) := by decide +kernel
theorem dX8_shortestOf_31 : decode cX8_shortestOf 31 = .ok (.iconst (-1), 1) := by decide +kernel
theorem dX8_shortestOf_32 : decode cX8_shortestOf 32 = .ok (.if_icmp .eq 10, 3) := by decide +kernel
theorem dX8_shortestOf_35 : decode cX8_shortestOf 35 = .ok (.iload 4, 2) := by decide +kernel
theorem dX8_shortestOf_37 : decode cX8_shortestOf 37 = .ok (.iload 5, 2) := by decide +kernel
theorem dX8_shortestOf_39 : decode cX8_shortestOf 39 = .ok (.if_icmp .lt 6, 3) := by decide +kernel
theorem dX8_shortestOf_42 : decode cX8_shortestOf 42 = .ok (.ldc 84, 2) := by decide +kernel
theorem dX8_shortestOf_44 : decode cX8_shortestOf 44 = .ok (.ireturn, 1) := by decide +kernel
theorem dX8_shortestOf_45 : decode cX8_shortestOf 45 = .ok (.iload 4, 2) := by decide +kernel
theorem dX8_shortestOf_47 : decode cX8_shortestOf 47 = .ok (.ifCond .ge 8, 3) := by decide +kernel
theorem dX8_shortestOf_50 : decode cX8_shortestOf 50 = .ok (.iload 5, 2) := by decide +kernel
theorem dX8_shortestOf_52 : decode cX8_shortestOf 52 = .ok (.goto 22, 3) := by decide +kernel
theorem dX8_shortestOf_55 : decode cX8_shortestOf 55 = .ok (.aload_n 0, 1) := by decide +kernel
theorem dX8_shortestOf_56 : decode cX8_shortestOf 56 = .ok (.getfield 29, 3) := by decide +kernel
theorem dX8_shortestOf_59 : decode cX8_shortestOf 59 = .ok (.iload_n 2, 1) := by decide +kernel
theorem dX8_shortestOf_60 : decode cX8_shortestOf 60 = .ok (.iaload, 1) := by decide +kernel
theorem dX8_shortestOf_61 : decode cX8_shortestOf 61 = .ok (.iconst 3, 1) := by decide +kernel
theorem dX8_shortestOf_62 : decode cX8_shortestOf 62 = .ok (.iload 5, 2) := by decide +kernel
theorem dX8_shortestOf_64 : decode cX8_shortestOf 64 = .ok (.iconst 1, 1) := by decide +kernel
theorem dX8_shortestOf_65 : decode cX8_shortestOf 65 = .ok (.isub, 1) := by decide +kernel
theorem dX8_shortestOf_66 : decode cX8_shortestOf 66 = .ok (.iload 4, 2) := by decide +kernel
theorem dX8_shortestOf_68 : decode cX8_shortestOf 68 = .ok (.isub, 1) := by decide +kernel
theorem dX8_shortestOf_69 : decode cX8_shortestOf 69 = .ok (.imul, 1) := by decide +kernel
theorem dX8_shortestOf_70 : decode cX8_shortestOf 70 = .ok (.ishr, 1) := by decide +kernel
theorem dX8_shortestOf_71 : decode cX8_shortestOf 71 = .ok (.bipush 7, 2) := by decide +kernel
theorem dX8_shortestOf_73 : decode cX8_shortestOf 73 = .ok (.iand, 1) := by decide +kernel
theorem dX8_shortestOf_74 : decode cX8_shortestOf 74 = .ok (.ireturn, 1) := by decide +kernel
abbrev cX8_reach : ByteArray := prog_10_method_13_code
def yX8_reach : MethodName := ⟨"DayTongues$Sayings", "reach", "(IIZ)V"⟩
def mX8_reach : dt_MD := (yX8_reach, cX8_reach, 6, none)
theorem dX8_reach_0 : decode cX8_reach 0 = .ok (.iconst 0, 1) := by decide +kernel
theorem dX8_reach_1 : decode cX8_reach 1 = .ok (.istore 4, 2) := by decide +kernel
theorem dX8_reach_3 : decode cX8_reach 3 = .ok (.iload 4, 2) := by decide +kernel
theorem dX8_reach_5 : decode cX8_reach 5 = .ok (.sipush 256, 3) := by decide +kernel
theorem dX8_reach_8 : decode cX8_reach 8 = .ok (.if_icmp .ge 25, 3) := by decide +kernel
theorem dX8_reach_11 : decode cX8_reach 11 = .ok (.aload_n 0, 1) := by decide +kernel
theorem dX8_reach_12 : decode cX8_reach 12 = .ok (.getfield 25, 3) := by decide +kernel
theorem dX8_reach_15 : decode cX8_reach 15 = .ok (.iload 4, 2) := by decide +kernel
theorem dX8_reach_17 : decode cX8_reach 17 = .ok (.iconst (-1), 1) := by decide +kernel
theorem dX8_reach_18 : decode cX8_reach 18 = .ok (.iastore, 1) := by decide +kernel
theorem dX8_reach_19 : decode cX8_reach 19 = .ok (.aload_n 0, 1) := by decide +kernel
theorem dX8_reach_20 : decode cX8_reach 20 = .ok (.getfield 29, 3) := by decide +kernel
theorem dX8_reach_23 : decode cX8_reach 23 = .ok (.iload 4, 2) := by decide +kernel
theorem dX8_reach_25 : decode cX8_reach 25 = .ok (.iconst 0, 1) := by decide +kernel
theorem dX8_reach_26 : decode cX8_reach 26 = .ok (.iastore, 1) := by decide +kernel
theorem dX8_reach_27 : decode cX8_reach 27 = .ok (.iinc 4 1, 3) := by decide +kernel
theorem dX8_reach_30 : decode cX8_reach 30 = .ok (.goto (-27), 3) := by decide +kernel
theorem dX8_reach_33 : decode cX8_reach 33 = .ok (.aload_n 0, 1) := by decide +kernel
theorem dX8_reach_34 : decode cX8_reach 34 = .ok (.getfield 25, 3) := by decide +kernel
theorem dX8_reach_37 : decode cX8_reach 37 = .ok (.iconst 0, 1) := by decide +kernel
theorem dX8_reach_38 : decode cX8_reach 38 = .ok (.iconst 0, 1) := by decide +kernel
theorem dX8_reach_39 : decode cX8_reach 39 = .ok (.iastore, 1) := by decide +kernel
theorem dX8_reach_40 : decode cX8_reach 40 = .ok (.iconst 1, 1) := by decide +kernel
theorem dX8_reach_41 : decode cX8_reach 41 = .ok (.istore 4, 2) := by decide +kernel
theorem dX8_reach_43 : decode cX8_reach 43 = .ok (.iload 4, 2) := by decide +kernel
theorem dX8_reach_45 : decode cX8_reach 45 = .ok (.bipush 8, 2) := by decide +kernel
theorem dX8_reach_47 : decode cX8_reach 47 = .ok (.if_icmp .gt 67, 3) := by decide +kernel
theorem dX8_reach_50 : decode cX8_reach 50 = .ok (.aload_n 0, 1) := by decide +kernel
theorem dX8_reach_51 : decode cX8_reach 51 = .ok (.getfield 25, 3) := by decide +kernel
theorem dX8_reach_54 : decode cX8_reach 54 = .ok (.iload_n 2, 1) := by decide +kernel
theorem dX8_reach_55 : decode cX8_reach 55 = .ok (.iaload, 1) := by decide +kernel
theorem dX8_reach_56 : decode cX8_reach 56 = .ok (.iconst (-1), 1) := by decide +kernel
theorem dX8_reach_57 : decode cX8_reach 57 = .ok (.if_icmp .ne 57, 3) := by decide +kernel
theorem dX8_reach_60 : decode cX8_reach 60 = .ok (.iconst 0, 1) := by decide +kernel
theorem dX8_reach_61 : decode cX8_reach 61 = .ok (.istore 5, 2) := by decide +kernel
theorem dX8_reach_63 : decode cX8_reach 63 = .ok (.iload 5, 2) := by decide +kernel
theorem dX8_reach_65 : decode cX8_reach 65 = .ok (.aload_n 0, 1) := by decide +kernel
theorem dX8_reach_66 : decode cX8_reach 66 = .ok (.getfield 9, 3) := by decide +kernel
theorem dX8_reach_69 : decode cX8_reach 69 = .ok (.iload_n 1, 1) := by decide +kernel
theorem dX8_reach_70 : decode cX8_reach 70 = .ok (.invokevirtual 65, 3) := by decide +kernel
theorem dX8_reach_73 : decode cX8_reach 73 = .ok (.if_icmp .ge 35, 3) := by decide +kernel
theorem dX8_reach_76 : decode cX8_reach 76 = .ok (.iload_n 3, 1) := by decide +kernel
theorem dX8_reach_77 : decode cX8_reach 77 = .ok (.ifCond .eq 16, 3) := by decide +kernel
theorem dX8_reach_80 : decode cX8_reach 80 = .ok (.aload_n 0, 1) := by decide +kernel
theorem dX8_reach_81 : decode cX8_reach 81 = .ok (.iload_n 1, 1) := by decide +kernel
theorem dX8_reach_82 : decode cX8_reach 82 = .ok (.iload 5, 2) := by decide +kernel
theorem dX8_reach_84 : decode cX8_reach 84 = .ok (.iload_n 2, 1) := by decide +kernel
theorem dX8_reach_85 : decode cX8_reach 85 = .ok (.iload 4, 2) := by decide +kernel
theorem dX8_reach_87 : decode cX8_reach 87 = .ok (.invokevirtual 96, 3) := by decide +kernel
theorem dX8_reach_90 : decode cX8_reach 90 = .ok (.goto 12, 3) := by decide +kernel
theorem dX8_reach_93 : decode cX8_reach 93 = .ok (.aload_n 0, 1) := by decide +kernel
theorem dX8_reach_94 : decode cX8_reach 94 = .ok (.iload_n 1, 1) := by decide +kernel
theorem dX8_reach_95 : decode cX8_reach 95 = .ok (.iload 5, 2) := by decide +kernel
theorem dX8_reach_97 : decode cX8_reach 97 = .ok (.iload 4, 2) := by decide +kernel
theorem dX8_reach_99 : decode cX8_reach 99 = .ok (.invokevirtual 100, 3) := by decide +kernel
theorem dX8_reach_102 : decode cX8_reach 102 = .ok (.iinc 5 1, 3) := by decide +kernel
theorem dX8_reach_105 : decode cX8_reach 105 = .ok (.goto (-42), 3) := by decide +kernel
theorem dX8_reach_108 : decode cX8_reach 108 = .ok (.iinc 4 1, 3) := by decide +kernel
theorem dX8_reach_111 : decode cX8_reach 111 = .ok (.goto (-68), 3) := by decide +kernel
theorem dX8_reach_114 : decode cX8_reach 114 = .ok (.return_, 1) := by decide +kernel
abbrev cX8_goOnPerhaps : ByteArray := prog_10_method_14_code
def yX8_goOnPerhaps : MethodName := ⟨"DayTongues$Sayings", "goOnPerhaps", "(III)V"⟩
def mX8_goOnPerhaps : dt_MD := (yX8_goOnPerhaps, cX8_goOnPerhaps, 5, none)
theorem dX8_goOnPerhaps_0 : decode cX8_goOnPerhaps 0 = .ok (.iconst 0, 1) := by decide +kernel
theorem dX8_goOnPerhaps_1 : decode cX8_goOnPerhaps 1 = .ok (.istore 4, 2) := by decide +kernel
theorem dX8_goOnPerhaps_3 : decode cX8_goOnPerhaps 3 = .ok (.iload 4, 2) := by decide +kernel
theorem dX8_goOnPerhaps_5 : decode cX8_goOnPerhaps 5 = .ok (.aload_n 0, 1) := by decide +kernel
theorem dX8_goOnPerhaps_6 : decode cX8_goOnPerhaps 6 = .ok (.getfield 9, 3) := by decide +kernel
theorem dX8_goOnPerhaps_9 : decode cX8_goOnPerhaps 9 = .ok (.iload_n 1, 1) := by decide +kernel
theorem dX8_goOnPerhaps_10 : decode cX8_goOnPerhaps 10 = .ok (.iload_n 2, 1) := by decide +kernel
theorem dX8_goOnPerhaps_11 : decode cX8_goOnPerhaps 11 = .ok (.invokevirtual 44, 3) := by decide +kernel
theorem dX8_goOnPerhaps_14 : decode cX8_goOnPerhaps 14 = .ok (.if_icmp .ge 30, 3) := by decide +kernel
theorem dX8_goOnPerhaps_17 : decode cX8_goOnPerhaps 17 = .ok (.aload_n 0, 1) := by decide +kernel
theorem dX8_goOnPerhaps_18 : decode cX8_goOnPerhaps 18 = .ok (.iload_n 2, 1) := by decide +kernel
theorem dX8_goOnPerhaps_19 : decode cX8_goOnPerhaps 19 = .ok (.aload_n 0, 1) := by decide +kernel
theorem dX8_goOnPerhaps_20 : decode cX8_goOnPerhaps 20 = .ok (.getfield 9, 3) := by decide +kernel
theorem dX8_goOnPerhaps_23 : decode cX8_goOnPerhaps 23 = .ok (.iload_n 1, 1) := by decide +kernel
theorem dX8_goOnPerhaps_24 : decode cX8_goOnPerhaps 24 = .ok (.iload_n 2, 1) := by decide +kernel
theorem dX8_goOnPerhaps_25 : decode cX8_goOnPerhaps 25 = .ok (.iload 4, 2) := by decide +kernel
theorem dX8_goOnPerhaps_27 : decode cX8_goOnPerhaps 27 = .ok (.invokevirtual 50, 3) := by decide +kernel
theorem dX8_goOnPerhaps_30 : decode cX8_goOnPerhaps 30 = .ok (.sipush 255, 3) := by decide +kernel
theorem dX8_goOnPerhaps_33 : decode cX8_goOnPerhaps 33 = .ok (.iand, 1) := by decide +kernel
theorem dX8_goOnPerhaps_34 : decode cX8_goOnPerhaps 34 = .ok (.iload_n 3, 1) := by decide +kernel
theorem dX8_goOnPerhaps_35 : decode cX8_goOnPerhaps 35 = .ok (.invokevirtual 104, 3) := by decide +kernel
theorem dX8_goOnPerhaps_38 : decode cX8_goOnPerhaps 38 = .ok (.iinc 4 1, 3) := by decide +kernel
theorem dX8_goOnPerhaps_41 : decode cX8_goOnPerhaps 41 = .ok (.goto (-38), 3) := by decide +kernel
theorem dX8_goOnPerhaps_44 : decode cX8_goOnPerhaps 44 = .ok (.return_, 1) := by decide +kernel
abbrev cX8_goOnSurely : ByteArray := prog_10_method_15_code
def yX8_goOnSurely : MethodName := ⟨"DayTongues$Sayings", "goOnSurely", "(IIII)V"⟩
def mX8_goOnSurely : dt_MD := (yX8_goOnSurely, cX8_goOnSurely, 5, none)
theorem dX8_goOnSurely_0 : decode cX8_goOnSurely 0 = .ok (.aload_n 0, 1) := by decide +kernel
theorem dX8_goOnSurely_1 : decode cX8_goOnSurely 1 = .ok (.getfield 9, 3) := by decide +kernel
theorem dX8_goOnSurely_4 : decode cX8_goOnSurely 4 = .ok (.iload_n 1, 1) := by decide +kernel
theorem dX8_goOnSurely_5 : decode cX8_goOnSurely 5 = .ok (.iload_n 2, 1) := by decide +kernel
theorem dX8_goOnSurely_6 : decode cX8_goOnSurely 6 = .ok (.invokevirtual 78, 3) := by decide +kernel
theorem dX8_goOnSurely_9 : decode cX8_goOnSurely 9 = .ok (.iload_n 3, 1) := by decide +kernel
theorem dX8_goOnSurely_10 : decode cX8_goOnSurely 10 = .ok (.ior, 1) := by decide +kernel
theorem dX8_goOnSurely_11 : decode cX8_goOnSurely 11 = .ok (.iload_n 3, 1) := by decide +kernel
theorem dX8_goOnSurely_12 : decode cX8_goOnSurely 12 = .ok (.if_icmp .ne 23, 3) := by decide +kernel
theorem dX8_goOnSurely_15 : decode cX8_goOnSurely 15 = .ok (.aload_n 0, 1) := by decide +kernel
theorem dX8_goOnSurely_16 : decode cX8_goOnSurely 16 = .ok (.iload_n 2, 1) := by decide +kernel
theorem dX8_goOnSurely_17 : decode cX8_goOnSurely 17 = .ok (.aload_n 0, 1) := by decide +kernel
theorem dX8_goOnSurely_18 : decode cX8_goOnSurely 18 = .ok (.getfield 9, 3) := by decide +kernel
theorem dX8_goOnSurely_21 : decode cX8_goOnSurely 21 = .ok (.iload_n 1, 1) := by decide +kernel
theorem dX8_goOnSurely_22 : decode cX8_goOnSurely 22 = .ok (.iload_n 2, 1) := by decide +kernel
theorem dX8_goOnSurely_23 : decode cX8_goOnSurely 23 = .ok (.invokevirtual 81, 3) := by decide +kernel
theorem dX8_goOnSurely_26 : decode cX8_goOnSurely 26 = .ok (.sipush 255, 3) := by decide +kernel
theorem dX8_goOnSurely_29 : decode cX8_goOnSurely 29 = .ok (.iand, 1) := by decide +kernel
theorem dX8_goOnSurely_30 : decode cX8_goOnSurely 30 = .ok (.iload 4, 2) := by decide +kernel
theorem dX8_goOnSurely_32 : decode cX8_goOnSurely 32 = .ok (.invokevirtual 104, 3) := by decide +kernel
theorem dX8_goOnSurely_35 : decode cX8_goOnSurely 35 = .ok (.return_, 1) := by decide +kernel
abbrev cX8_goOn : ByteArray := prog_10_method_16_code
def yX8_goOn : MethodName := ⟨"DayTongues$Sayings", "goOn", "(III)V"⟩
def mX8_goOn : dt_MD := (yX8_goOn, cX8_goOn, 5, none)
theorem dX8_goOn_0 : decode cX8_goOn 0 = .ok (.iconst 0, 1) := by decide +kernel
theorem dX8_goOn_1 : decode cX8_goOn 1 = .ok (.istore 4, 2) := by decide +kernel
theorem dX8_goOn_3 : decode cX8_goOn 3 = .ok (.iload 4, 2) := by decide +kernel
theorem dX8_goOn_5 : decode cX8_goOn 5 = .ok (.sipush 256, 3) := by decide +kernel
theorem dX8_goOn_8 : decode cX8_goOn 8 = .ok (.if_icmp .ge 42, 3) := by decide +kernel
theorem dX8_goOn_11 : decode cX8_goOn 11 = .ok (.aload_n 0, 1) := by decide +kernel
theorem dX8_goOn_12 : decode cX8_goOn 12 = .ok (.getfield 25, 3) := by decide +kernel
theorem dX8_goOn_15 : decode cX8_goOn 15 = .ok (.iload 4, 2) := by decide +kernel
theorem dX8_goOn_17 : decode cX8_goOn 17 = .ok (.iaload, 1) := by decide +kernel
theorem dX8_goOn_18 : decode cX8_goOn 18 = .ok (.iload_n 3, 1) := by decide +kernel
theorem dX8_goOn_19 : decode cX8_goOn 19 = .ok (.iconst 1, 1) := by decide +kernel
theorem dX8_goOn_20 : decode cX8_goOn 20 = .ok (.isub, 1) := by decide +kernel
theorem dX8_goOn_21 : decode cX8_goOn 21 = .ok (.if_icmp .ne 23, 3) := by decide +kernel
theorem dX8_goOn_24 : decode cX8_goOn 24 = .ok (.aload_n 0, 1) := by decide +kernel
theorem dX8_goOn_25 : decode cX8_goOn 25 = .ok (.iload 4, 2) := by decide +kernel
theorem dX8_goOn_27 : decode cX8_goOn 27 = .ok (.iload_n 2, 1) := by decide +kernel
theorem dX8_goOn_28 : decode cX8_goOn 28 = .ok (.ior, 1) := by decide +kernel
theorem dX8_goOn_29 : decode cX8_goOn 29 = .ok (.iload_n 3, 1) := by decide +kernel
theorem dX8_goOn_30 : decode cX8_goOn 30 = .ok (.aload_n 0, 1) := by decide +kernel
theorem dX8_goOn_31 : decode cX8_goOn 31 = .ok (.getfield 29, 3) := by decide +kernel
theorem dX8_goOn_34 : decode cX8_goOn 34 = .ok (.iload 4, 2) := by decide +kernel
theorem dX8_goOn_36 : decode cX8_goOn 36 = .ok (.iaload, 1) := by decide +kernel
theorem dX8_goOn_37 : decode cX8_goOn 37 = .ok (.iconst 3, 1) := by decide +kernel
theorem dX8_goOn_38 : decode cX8_goOn 38 = .ok (.ishl, 1) := by decide +kernel
theorem dX8_goOn_39 : decode cX8_goOn 39 = .ok (.iload_n 1, 1) := by decide +kernel
theorem dX8_goOn_40 : decode cX8_goOn 40 = .ok (.ior, 1) := by decide +kernel
theorem dX8_goOn_41 : decode cX8_goOn 41 = .ok (.invokevirtual 107, 3) := by decide +kernel
theorem dX8_goOn_44 : decode cX8_goOn 44 = .ok (.iinc 4 1, 3) := by decide +kernel
theorem dX8_goOn_47 : decode cX8_goOn 47 = .ok (.goto (-44), 3) := by decide +kernel
theorem dX8_goOn_50 : decode cX8_goOn 50 = .ok (.return_, 1) := by decide +kernel
abbrev cX8_offer : ByteArray := prog_10_method_17_code
def yX8_offer : MethodName := ⟨"DayTongues$Sayings", "offer", "(III)V"⟩
def mX8_offer : dt_MD := (yX8_offer, cX8_offer, 4, none)
theorem dX8_offer_0 : decode cX8_offer 0 = .ok (.iload_n 1, 1) := by decide +kernel
theorem dX8_offer_1 : decode cX8_offer 1 = .ok (.ifCond .lt 10, 3) := by decide +kernel
theorem dX8_offer_4 : decode cX8_offer 4 = .ok (.iload_n 1, 1) := by decide +kernel
theorem dX8_offer_5 : decode cX8_offer 5 = .ok (.sipush 256, 3) := by decide +kernel
theorem dX8_offer_8 : decode cX8_offer 8 = .ok (.if_icmp .lt 4, 3) := by decide +kernel
theorem dX8_offer_11 : decode cX8_offer 11 = .ok (.return_, 1) := by decide +kernel
theorem dX8_offer_12 : decode cX8_offer 12 = .ok (.aload_n 0, 1) := by decide +kernel
theorem dX8_offer_13 : decode cX8_offer 13 = .ok (.getfield 25, 3) := by decide +kernel
theorem dX8_offer_16 : decode cX8_offer 16 = .ok (.iload_n 1, 1) := by decide +kernel
theorem dX8_offer_17 : decode cX8_offer 17 = .ok (.iaload, 1) := by decide +kernel
theorem dX8_offer_18 : decode cX8_offer 18 = .ok (.iconst (-1), 1) := by decide +kernel
theorem dX8_offer_19 : decode cX8_offer 19 = .ok (.if_icmp .eq 23, 3) := by decide +kernel
theorem dX8_offer_22 : decode cX8_offer 22 = .ok (.aload_n 0, 1) := by decide +kernel
theorem dX8_offer_23 : decode cX8_offer 23 = .ok (.getfield 25, 3) := by decide +kernel
theorem dX8_offer_26 : decode cX8_offer 26 = .ok (.iload_n 1, 1) := by decide +kernel
theorem dX8_offer_27 : decode cX8_offer 27 = .ok (.iaload, 1) := by decide +kernel
theorem dX8_offer_28 : decode cX8_offer 28 = .ok (.iload_n 2, 1) := by decide +kernel
theorem dX8_offer_29 : decode cX8_offer 29 = .ok (.if_icmp .ne 27, 3) := by decide +kernel
theorem dX8_offer_32 : decode cX8_offer 32 = .ok (.iload_n 3, 1) := by decide +kernel
theorem dX8_offer_33 : decode cX8_offer 33 = .ok (.aload_n 0, 1) := by decide +kernel
theorem dX8_offer_34 : decode cX8_offer 34 = .ok (.getfield 29, 3) := by decide +kernel
theorem dX8_offer_37 : decode cX8_offer 37 = .ok (.iload_n 1, 1) := by decide +kernel
theorem dX8_offer_38 : decode cX8_offer 38 = .ok (.iaload, 1) := by decide +kernel
theorem dX8_offer_39 : decode cX8_offer 39 = .ok (.if_icmp .ge 17, 3) := by decide +kernel
theorem dX8_offer_42 : decode cX8_offer 42 = .ok (.aload_n 0, 1) := by decide +kernel
theorem dX8_offer_43 : decode cX8_offer 43 = .ok (.getfield 25, 3) := by decide +kernel
theorem dX8_offer_46 : decode cX8_offer 46 = .ok (.iload_n 1, 1) := by decide +kernel
theorem dX8_offer_47 : decode cX8_offer 47 = .ok (.iload_n 2, 1) := by decide +kernel
theorem dX8_offer_48 : decode cX8_offer 48 = .ok (.iastore, 1) := by decide +kernel
theorem dX8_offer_49 : decode cX8_offer 49 = .ok (.aload_n 0, 1) := by decide +kernel
theorem dX8_offer_50 : decode cX8_offer 50 = .ok (.getfield 29, 3) := by decide +kernel
theorem dX8_offer_53 : decode cX8_offer 53 = .ok (.iload_n 1, 1) := by decide +kernel
theorem dX8_offer_54 : decode cX8_offer 54 = .ok (.iload_n 3, 1) := by decide +kernel
theorem dX8_offer_55 : decode cX8_offer 55 = .ok (.iastore, 1) := by decide +kernel
theorem dX8_offer_56 : decode cX8_offer 56 = .ok (.return_, 1) := by decide +kernel
abbrev cX8_addToAll : ByteArray := prog_10_method_18_code
def yX8_addToAll : MethodName := ⟨"DayTongues$Sayings", "addToAll", "(I)V"⟩
def mX8_addToAll : dt_MD := (yX8_addToAll, cX8_addToAll, 3, none)
theorem dX8_addToAll_0 : decode cX8_addToAll 0 = .ok (.iconst 0, 1) := by decide +kernel
theorem dX8_addToAll_1 : decode cX8_addToAll 1 = .ok (.istore_n 2, 1) := by decide +kernel
theorem dX8_addToAll_2 : decode cX8_addToAll 2 = .ok (.iload_n 2, 1) := by decide +kernel
theorem dX8_addToAll_3 : decode cX8_addToAll 3 = .ok (.sipush 256, 3) := by decide +kernel
theorem dX8_addToAll_6 : decode cX8_addToAll 6 = .ok (.if_icmp .ge 36, 3) := by decide +kernel
theorem dX8_addToAll_9 : decode cX8_addToAll 9 = .ok (.aload_n 0, 1) := by decide +kernel
theorem dX8_addToAll_10 : decode cX8_addToAll 10 = .ok (.getfield 15, 3) := by decide +kernel
theorem dX8_addToAll_13 : decode cX8_addToAll 13 = .ok (.iload_n 2, 1) := by decide +kernel
theorem dX8_addToAll_14 : decode cX8_addToAll 14 = .ok (.baload, 1) := by decide +kernel
theorem dX8_addToAll_15 : decode cX8_addToAll 15 = .ok (.ifCond .eq 21, 3) := by decide +kernel
theorem dX8_addToAll_18 : decode cX8_addToAll 18 = .ok (.iload_n 2, 1) := by decide +kernel
theorem dX8_addToAll_19 : decode cX8_addToAll 19 = .ok (.iload_n 1, 1) := by decide +kernel
theorem dX8_addToAll_20 : decode cX8_addToAll 20 = .ok (.ior, 1) := by decide +kernel
theorem dX8_addToAll_21 : decode cX8_addToAll 21 = .ok (.sipush 256, 3) := by decide +kernel
theorem dX8_addToAll_24 : decode cX8_addToAll 24 = .ok (.if_icmp .ge 12, 3) := by decide +kernel
theorem dX8_addToAll_27 : decode cX8_addToAll 27 = .ok (.aload_n 0, 1) := by decide +kernel
theorem dX8_addToAll_28 : decode cX8_addToAll 28 = .ok (.getfield 15, 3) := by decide +kernel
theorem dX8_addToAll_31 : decode cX8_addToAll 31 = .ok (.iload_n 2, 1) := by decide +kernel
theorem dX8_addToAll_32 : decode cX8_addToAll 32 = .ok (.iload_n 1, 1) := by decide +kernel
theorem dX8_addToAll_33 : decode cX8_addToAll 33 = .ok (.ior, 1) := by decide +kernel
theorem dX8_addToAll_34 : decode cX8_addToAll 34 = .ok (.iconst 1, 1) := by decide +kernel
theorem dX8_addToAll_35 : decode cX8_addToAll 35 = .ok (.bastore, 1) := by decide +kernel
theorem dX8_addToAll_36 : decode cX8_addToAll 36 = .ok (.iinc 2 1, 3) := by decide +kernel
theorem dX8_addToAll_39 : decode cX8_addToAll 39 = .ok (.goto (-37), 3) := by decide +kernel
theorem dX8_addToAll_42 : decode cX8_addToAll 42 = .ok (.return_, 1) := by decide +kernel
abbrev cX8_manyOf : ByteArray := prog_10_method_19_code
def yX8_manyOf : MethodName := ⟨"DayTongues$Sayings", "manyOf", "([Z)I"⟩
def mX8_manyOf : dt_MD := (yX8_manyOf, cX8_manyOf, 3, some .int)
theorem dX8_manyOf_0 : decode cX8_manyOf 0 = .ok (.iconst 0, 1) := by decide +kernel
theorem dX8_manyOf_1 : decode cX8_manyOf 1 = .ok (.istore_n 1, 1) := by decide +kernel
theorem dX8_manyOf_2 : decode cX8_manyOf 2 = .ok (.iconst 0, 1) := by decide +kernel
theorem dX8_manyOf_3 : decode cX8_manyOf 3 = .ok (.istore_n 2, 1) := by decide +kernel
theorem dX8_manyOf_4 : decode cX8_manyOf 4 = .ok (.iload_n 2, 1) := by decide +kernel
theorem dX8_manyOf_5 : decode cX8_manyOf 5 = .ok (.aload_n 0, 1) := by decide +kernel
theorem dX8_manyOf_6 : decode cX8_manyOf 6 = .ok (.arraylength, 1) := by decide +kernel
theorem dX8_manyOf_7 : decode cX8_manyOf 7 = .ok (.if_icmp .ge 18, 3) := by decide +kernel
theorem dX8_manyOf_10 : decode cX8_manyOf 10 = .ok (.aload_n 0, 1) := by decide +kernel
theorem dX8_manyOf_11 : decode cX8_manyOf 11 = .ok (.iload_n 2, 1) := by decide +kernel
theorem dX8_manyOf_12 : decode cX8_manyOf 12 = .ok (.baload, 1) := by decide +kernel
theorem dX8_manyOf_13 : decode cX8_manyOf 13 = .ok (.ifCond .eq 6, 3) := by decide +kernel
theorem dX8_manyOf_16 : decode cX8_manyOf 16 = .ok (.iinc 1 1, 3) := by decide +kernel
theorem dX8_manyOf_19 : decode cX8_manyOf 19 = .ok (.iinc 2 1, 3) := by decide +kernel
theorem dX8_manyOf_22 : decode cX8_manyOf 22 = .ok (.goto (-18), 3) := by decide +kernel
theorem dX8_manyOf_25 : decode cX8_manyOf 25 = .ok (.iload_n 1, 1) := by decide +kernel
theorem dX8_manyOf_26 : decode cX8_manyOf 26 = .ok (.ireturn, 1) := by decide +kernel
abbrev cX8_numberOf : ByteArray := prog_10_method_20_code
def yX8_numberOf : MethodName := ⟨"DayTongues$Sayings", "numberOf", "([ZI)I"⟩
def mX8_numberOf : dt_MD := (yX8_numberOf, cX8_numberOf, 4, some .int)
theorem dX8_numberOf_0 : decode cX8_numberOf 0 = .ok (.iload_n 1, 1) := by decide +kernel
theorem dX8_numberOf_1 : decode cX8_numberOf 1 = .ok (.istore_n 2, 1) := by decide +kernel
theorem dX8_numberOf_2 : decode cX8_numberOf 2 = .ok (.iconst 0, 1) := by decide +kernel
theorem dX8_numberOf_3 : decode cX8_numberOf 3 = .ok (.istore_n 3, 1) := by decide +kernel
theorem dX8_numberOf_4 : decode cX8_numberOf 4 = .ok (.iload_n 3, 1) := by decide +kernel
theorem dX8_numberOf_5 : decode cX8_numberOf 5 = .ok (.aload_n 0, 1) := by decide +kernel
theorem dX8_numberOf_6 : decode cX8_numberOf 6 = .ok (.arraylength, 1) := by decide +kernel
theorem dX8_numberOf_7 : decode cX8_numberOf 7 = .ok (.if_icmp .ge 24, 3) := by decide +kernel
theorem dX8_numberOf_10 : decode cX8_numberOf 10 = .ok (.aload_n 0, 1) := by decide +kernel
theorem dX8_numberOf_11 : decode cX8_numberOf 11 = .ok (.iload_n 3, 1) := by decide +kernel
theorem dX8_numberOf_12 : decode cX8_numberOf 12 = .ok (.baload, 1) := by decide +kernel
theorem dX8_numberOf_13 : decode cX8_numberOf 13 = .ok (.ifCond .eq 12, 3) := by decide +kernel
theorem dX8_numberOf_16 : decode cX8_numberOf 16 = .ok (.iload_n 2, 1) := by decide +kernel
theorem dX8_numberOf_17 : decode cX8_numberOf 17 = .ok (.ifCond .ne 5, 3) := by decide +kernel
theorem dX8_numberOf_20 : decode cX8_numberOf 20 = .ok (.iload_n 3, 1) := by decide +kernel
theorem dX8_numberOf_21 : decode cX8_numberOf 21 = .ok (.ireturn, 1) := by decide +kernel
theorem dX8_numberOf_22 : decode cX8_numberOf 22 = .ok (.iinc 2 (-1), 3) := by decide +kernel
theorem dX8_numberOf_25 : decode cX8_numberOf 25 = .ok (.iinc 3 1, 3) := by decide +kernel
theorem dX8_numberOf_28 : decode cX8_numberOf 28 = .ok (.goto (-24), 3) := by decide +kernel
theorem dX8_numberOf_31 : decode cX8_numberOf 31 = .ok (.ldc 84, 2) := by decide +kernel
theorem dX8_numberOf_33 : decode cX8_numberOf 33 = .ok (.ireturn, 1) := by decide +kernel
abbrev cX9_init : ByteArray := prog_11_method_1_code
def yX9_init : MethodName := ⟨"DayTongues$Tape", "<init>", "()V"⟩
def mX9_init : dt_MD := (yX9_init, cX9_init, 1, none)
theorem dX9_init_0 : decode cX9_init 0 = .ok (.aload_n 0, 1) := by decide +kernel
theorem dX9_init_1 : decode cX9_init 1 = .ok (.invokespecial 3, 3) := by decide +kernel
theorem dX9_init_4 : decode cX9_init 4 = .ok (.aload_n 0, 1) := by decide +kernel
theorem dX9_init_5 : decode cX9_init 5 = .ok (.sipush 500, 3) := by decide +kernel
theorem dX9_init_8 : decode cX9_init 8 = .ok (.newarray .int, 2) := by decide +kernel
theorem dX9_init_10 : decode cX9_init 10 = .ok (.putfield 11, 3) := by decide +kernel
theorem dX9_init_13 : decode cX9_init 13 = .ok (.aload_n 0, 1) := by decide +kernel
theorem dX9_init_14 : decode cX9_init 14 = .ok (.invokevirtual 15, 3) := by decide +kernel
theorem dX9_init_17 : decode cX9_init 17 = .ok (.return_, 1) := by decide +kernel
abbrev cX9_bytes : ByteArray := prog_11_method_2_code
def yX9_bytes : MethodName := ⟨"DayTongues$Tape", "bytes", "()I"⟩
def mX9_bytes : dt_MD := (yX9_bytes, cX9_bytes, 1, some .int)
theorem dX9_bytes_0 : decode cX9_bytes 0 = .ok (.aload_n 0, 1) := by decide +kernel
theorem dX9_bytes_1 : decode cX9_bytes 1 = .ok (.getfield 18, 3) := by decide +kernel
theorem dX9_bytes_4 : decode cX9_bytes 4 = .ok (.ireturn, 1) := by decide +kernel
abbrev cX9_hasRoom : ByteArray := prog_11_method_3_code
def yX9_hasRoom : MethodName := ⟨"DayTongues$Tape", "hasRoom", "(I)Z"⟩
def mX9_hasRoom : dt_MD := (yX9_hasRoom, cX9_hasRoom, 2, some .boolean)
theorem dX9_hasRoom_0 : decode cX9_hasRoom 0 = .ok (.iload_n 1, 1) := by decide +kernel
theorem dX9_hasRoom_1 : decode cX9_hasRoom 1 = .ok (.sipush 500, 3) := by decide +kernel
theorem dX9_hasRoom_4 : decode cX9_hasRoom 4 = .ok (.aload_n 0, 1) := by decide +kernel
theorem dX9_hasRoom_5 : decode cX9_hasRoom 5 = .ok (.getfield 18, 3) := by decide +kernel
theorem dX9_hasRoom_8 : decode cX9_hasRoom 8 = .ok (.isub, 1) := by decide +kernel
theorem dX9_hasRoom_9 : decode cX9_hasRoom 9 = .ok (.if_icmp .gt 7, 3) := by decide +kernel
theorem dX9_hasRoom_12 : decode cX9_hasRoom 12 = .ok (.iconst 1, 1) := by decide +kernel
theorem dX9_hasRoom_13 : decode cX9_hasRoom 13 = .ok (.goto 4, 3) := by decide +kernel
theorem dX9_hasRoom_16 : decode cX9_hasRoom 16 = .ok (.iconst 0, 1) := by decide +kernel
theorem dX9_hasRoom_17 : decode cX9_hasRoom 17 = .ok (.ireturn, 1) := by decide +kernel
abbrev cX9_append : ByteArray := prog_11_method_4_code
def yX9_append : MethodName := ⟨"DayTongues$Tape", "append", "(JI)I"⟩
def mX9_append : dt_MD := (yX9_append, cX9_append, 5, some .int)
theorem dX9_append_0 : decode cX9_append 0 = .ok (.iload_n 3, 1) := by decide +kernel
theorem dX9_append_1 : decode cX9_append 1 = .ok (.iconst 1, 1) := by decide +kernel
theorem dX9_append_2 : decode cX9_append 2 = .ok (.isub, 1) := by decide +kernel
theorem dX9_append_3 : decode cX9_append 3 = .ok (.istore 4, 2) := by decide +kernel
theorem dX9_append_5 : decode cX9_append 5 = .ok (.iload 4, 2) := by decide +kernel
theorem dX9_append_7 : decode cX9_append 7 = .ok (.ifCond .lt 50, 3) := by decide +kernel
theorem dX9_append_10 : decode cX9_append 10 = .ok (.aload_n 0, 1) := by decide +kernel
theorem dX9_append_11 : decode cX9_append 11 = .ok (.getfield 18, 3) := by decide +kernel
theorem dX9_append_14 : decode cX9_append 14 = .ok (.sipush 500, 3) := by decide +kernel
theorem dX9_append_17 : decode cX9_append 17 = .ok (.if_icmp .ge 40, 3) := by decide +kernel
theorem dX9_append_20 : decode cX9_append 20 = .ok (.aload_n 0, 1) := by decide +kernel
theorem dX9_append_21 : decode cX9_append 21 = .ok (.getfield 11, 3) := by decide +kernel
theorem dX9_append_24 : decode cX9_append 24 = .ok (.aload_n 0, 1) := by decide +kernel
theorem dX9_append_25 : decode cX9_append 25 = .ok (.getfield 18, 3) := by decide +kernel
theorem dX9_append_28 : decode cX9_append 28 = .ok (.lload_n 1, 1) := by decide +kernel
theorem dX9_append_29 : decode cX9_append 29 = .ok (.bipush 8, 2) := by decide +kernel
theorem dX9_append_31 : decode cX9_append 31 = .ok (.iload 4, 2) := by decide +kernel
theorem dX9_append_33 : decode cX9_append 33 = .ok (.imul, 1) := by decide +kernel
theorem dX9_append_34 : decode cX9_append 34 = .ok (.lshr, 1) := by decide +kernel
theorem dX9_append_35 : decode cX9_append 35 = .ok (.l2i, 1) := by decide +kernel
theorem dX9_append_36 : decode cX9_append 36 = .ok (.sipush 255, 3) := by decide +kernel
theorem dX9_append_39 : decode cX9_append 39 = .ok (.iand, 1) := by decide +kernel
theorem dX9_append_40 : decode cX9_append 40 = .ok (.iastore, 1) := by decide +kernel
theorem dX9_append_41 : decode cX9_append 41 = .ok (.aload_n 0, 1) := by decide +kernel
theorem dX9_append_42 : decode cX9_append 42 = .ok (.dup, 1) := by decide +kernel
theorem dX9_append_43 : decode cX9_append 43 = .ok (.getfield 18, 3) := by decide +kernel
theorem dX9_append_46 : decode cX9_append 46 = .ok (.iconst 1, 1) := by decide +kernel
theorem dX9_append_47 : decode cX9_append 47 = .ok (.iadd, 1) := by decide +kernel
theorem dX9_append_48 : decode cX9_append 48 = .ok (.putfield 18, 3) := by decide +kernel
theorem dX9_append_51 : decode cX9_append 51 = .ok (.iinc 4 (-1), 3) := by decide +kernel
theorem dX9_append_54 : decode cX9_append 54 = .ok (.goto (-49), 3) := by decide +kernel
theorem dX9_append_57 : decode cX9_append 57 = .ok (.aload_n 0, 1) := by decide +kernel
theorem dX9_append_58 : decode cX9_append 58 = .ok (.getfield 18, 3) := by decide +kernel
theorem dX9_append_61 : decode cX9_append 61 = .ok (.ireturn, 1) := by decide +kernel
abbrev cX9_empty : ByteArray := prog_11_method_5_code
def yX9_empty : MethodName := ⟨"DayTongues$Tape", "empty", "()V"⟩
def mX9_empty : dt_MD := (yX9_empty, cX9_empty, 1, none)
theorem dX9_empty_0 : decode cX9_empty 0 = .ok (.aload_n 0, 1) := by decide +kernel
theorem dX9_empty_1 : decode cX9_empty 1 = .ok (.iconst 0, 1) := by decide +kernel
theorem dX9_empty_2 : decode cX9_empty 2 = .ok (.putfield 18, 3) := by decide +kernel
theorem dX9_empty_5 : decode cX9_empty 5 = .ok (.aload_n 0, 1) := by decide +kernel
theorem dX9_empty_6 : decode cX9_empty 6 = .ok (.iconst 0, 1) := by decide +kernel
theorem dX9_empty_7 : decode cX9_empty 7 = .ok (.putfield 22, 3) := by decide +kernel
theorem dX9_empty_10 : decode cX9_empty 10 = .ok (.aload_n 0, 1) := by decide +kernel
theorem dX9_empty_11 : decode cX9_empty 11 = .ok (.iconst 0, 1) := by decide +kernel
theorem dX9_empty_12 : decode cX9_empty 12 = .ok (.putfield 25, 3) := by decide +kernel
theorem dX9_empty_15 : decode cX9_empty 15 = .ok (.aload_n 0, 1) := by decide +kernel
theorem dX9_empty_16 : decode cX9_empty 16 = .ok (.iconst 0, 1) := by decide +kernel
theorem dX9_empty_17 : decode cX9_empty 17 = .ok (.putfield 28, 3) := by decide +kernel
theorem dX9_empty_20 : decode cX9_empty 20 = .ok (.return_, 1) := by decide +kernel
abbrev cX9_placeOfToken : ByteArray := prog_11_method_6_code
def yX9_placeOfToken : MethodName := ⟨"DayTongues$Tape", "placeOfToken", "()I"⟩
def mX9_placeOfToken : dt_MD := (yX9_placeOfToken, cX9_placeOfToken, 1, some .int)
theorem dX9_placeOfToken_0 : decode cX9_placeOfToken 0 = .ok (.aload_n 0, 1) := by decide +kernel
theorem dX9_placeOfToken_1 : decode cX9_placeOfToken 1 = .ok (.getfield 22, 3) := by decide +kernel
theorem dX9_placeOfToken_4 : decode cX9_placeOfToken 4 = .ok (.ireturn, 1) := by decide +kernel
abbrev cX9_readInto : ByteArray := prog_11_method_7_code
def yX9_readInto : MethodName := ⟨"DayTongues$Tape", "readInto", "(LDayTongues$Port;)I"⟩
def mX9_readInto : dt_MD := (yX9_readInto, cX9_readInto, 4, some .int)
theorem dX9_readInto_0 : decode cX9_readInto 0 = .ok (.aload_n 1, 1) := by decide +kernel
theorem dX9_readInto_1 : decode cX9_readInto 1 = .ok (.invokevirtual 31, 3) := by decide +kernel
theorem dX9_readInto_4 : decode cX9_readInto 4 = .ok (.aload_n 0, 1) := by decide +kernel
theorem dX9_readInto_5 : decode cX9_readInto 5 = .ok (.iconst 0, 1) := by decide +kernel
theorem dX9_readInto_6 : decode cX9_readInto 6 = .ok (.putfield 25, 3) := by decide +kernel
theorem dX9_readInto_9 : decode cX9_readInto 9 = .ok (.aload_n 0, 1) := by decide +kernel
theorem dX9_readInto_10 : decode cX9_readInto 10 = .ok (.invokevirtual 36, 3) := by decide +kernel
theorem dX9_readInto_13 : decode cX9_readInto 13 = .ok (.aload_n 0, 1) := by decide +kernel
theorem dX9_readInto_14 : decode cX9_readInto 14 = .ok (.ldc 39, 2) := by decide +kernel
theorem dX9_readInto_16 : decode cX9_readInto 16 = .ok (.invokevirtual 41, 3) := by decide +kernel
theorem dX9_readInto_19 : decode cX9_readInto 19 = .ok (.ifCond .ne 5, 3) := by decide +kernel
theorem dX9_readInto_22 : decode cX9_readInto 22 = .ok (.iconst 1, 1) := by decide +kernel
theorem dX9_readInto_23 : decode cX9_readInto 23 = .ok (.ireturn, 1) := by decide +kernel
theorem dX9_readInto_24 : decode cX9_readInto 24 = .ok (.iconst 0, 1) := by decide +kernel
theorem dX9_readInto_25 : decode cX9_readInto 25 = .ok (.istore_n 2, 1) := by decide +kernel
theorem dX9_readInto_26 : decode cX9_readInto 26 = .ok (.iload_n 2, 1) := by decide +kernel
theorem dX9_readInto_27 : decode cX9_readInto 27 = .ok (.bipush 7, 2) := by decide +kernel
theorem dX9_readInto_29 : decode cX9_readInto 29 = .ok (.if_icmp .gt 30, 3) := by decide +kernel
theorem dX9_readInto_32 : decode cX9_readInto 32 = .ok (.aload_n 0, 1) := by decide +kernel
theorem dX9_readInto_33 : decode cX9_readInto 33 = .ok (.ldc 39, 2) := by decide +kernel
theorem dX9_readInto_35 : decode cX9_readInto 35 = .ok (.invokevirtual 41, 3) := by decide +kernel
theorem dX9_readInto_38 : decode cX9_readInto 38 = .ok (.ifCond .eq 21, 3) := by decide +kernel
theorem dX9_readInto_41 : decode cX9_readInto 41 = .ok (.aload_n 0, 1) := by decide +kernel
theorem dX9_readInto_42 : decode cX9_readInto 42 = .ok (.aload_n 1, 1) := by decide +kernel
theorem dX9_readInto_43 : decode cX9_readInto 43 = .ok (.invokevirtual 45, 3) := by decide +kernel
theorem dX9_readInto_46 : decode cX9_readInto 46 = .ok (.istore_n 3, 1) := by decide +kernel
theorem dX9_readInto_47 : decode cX9_readInto 47 = .ok (.iload_n 3, 1) := by decide +kernel
theorem dX9_readInto_48 : decode cX9_readInto 48 = .ok (.ifCond .eq 5, 3) := by decide +kernel
theorem dX9_readInto_51 : decode cX9_readInto 51 = .ok (.iload_n 3, 1) := by decide +kernel
theorem dX9_readInto_52 : decode cX9_readInto 52 = .ok (.ireturn, 1) := by decide +kernel
theorem dX9_readInto_53 : decode cX9_readInto 53 = .ok (.iinc 2 1, 3) := by decide +kernel
theorem dX9_readInto_56 : decode cX9_readInto 56 = .ok (.goto (-30), 3) := by decide +kernel
theorem dX9_readInto_59 : decode cX9_readInto 59 = .ok (.iconst 0, 1) := by decide +kernel
theorem dX9_readInto_60 : decode cX9_readInto 60 = .ok (.istore_n 2, 1) := by decide +kernel
theorem dX9_readInto_61 : decode cX9_readInto 61 = .ok (.iload_n 2, 1) := by decide +kernel
theorem dX9_readInto_62 : decode cX9_readInto 62 = .ok (.bipush 8, 2) := by decide +kernel
theorem dX9_readInto_64 : decode cX9_readInto 64 = .ok (.if_icmp .gt 30, 3) := by decide +kernel
theorem dX9_readInto_67 : decode cX9_readInto 67 = .ok (.aload_n 0, 1) := by decide +kernel
theorem dX9_readInto_68 : decode cX9_readInto 68 = .ok (.ldc 49, 2) := by decide +kernel
theorem dX9_readInto_70 : decode cX9_readInto 70 = .ok (.invokevirtual 41, 3) := by decide +kernel
theorem dX9_readInto_73 : decode cX9_readInto 73 = .ok (.ifCond .eq 21, 3) := by decide +kernel
theorem dX9_readInto_76 : decode cX9_readInto 76 = .ok (.aload_n 0, 1) := by decide +kernel
theorem dX9_readInto_77 : decode cX9_readInto 77 = .ok (.aload_n 1, 1) := by decide +kernel
theorem dX9_readInto_78 : decode cX9_readInto 78 = .ok (.invokevirtual 51, 3) := by decide +kernel
theorem dX9_readInto_81 : decode cX9_readInto 81 = .ok (.istore_n 3, 1) := by decide +kernel
theorem dX9_readInto_82 : decode cX9_readInto 82 = .ok (.iload_n 3, 1) := by decide +kernel
theorem dX9_readInto_83 : decode cX9_readInto 83 = .ok (.ifCond .eq 5, 3) := by decide +kernel
theorem dX9_readInto_86 : decode cX9_readInto 86 = .ok (.iload_n 3, 1) := by decide +kernel
theorem dX9_readInto_87 : decode cX9_readInto 87 = .ok (.ireturn, 1) := by decide +kernel
theorem dX9_readInto_88 : decode cX9_readInto 88 = .ok (.iinc 2 1, 3) := by decide +kernel
theorem dX9_readInto_91 : decode cX9_readInto 91 = .ok (.goto (-30), 3) := by decide +kernel
theorem dX9_readInto_94 : decode cX9_readInto 94 = .ok (.aload_n 0, 1) := by decide +kernel
theorem dX9_readInto_95 : decode cX9_readInto 95 = .ok (.getfield 28, 3) := by decide +kernel
theorem dX9_readInto_98 : decode cX9_readInto 98 = .ok (.ifCond .ne 7, 3) := by decide +kernel
theorem dX9_readInto_101 : decode cX9_readInto 101 = .ok (.iconst 0, 1) := by decide +kernel
theorem dX9_readInto_102 : decode cX9_readInto 102 = .ok (.goto 4, 3) := by decide +kernel
theorem dX9_readInto_105 : decode cX9_readInto 105 = .ok (.iconst 1, 1) := by decide +kernel
theorem dX9_readInto_106 : decode cX9_readInto 106 = .ok (.ireturn, 1) := by decide +kernel
abbrev cX9_readTongue : ByteArray := prog_11_method_8_code
def yX9_readTongue : MethodName := ⟨"DayTongues$Tape", "readTongue", "(LDayTongues$Port;)I"⟩
def mX9_readTongue : dt_MD := (yX9_readTongue, cX9_readTongue, 4, some .int)
theorem dX9_readTongue_0 : decode cX9_readTongue 0 = .ok (.aload_n 1, 1) := by decide +kernel
theorem dX9_readTongue_1 : decode cX9_readTongue 1 = .ok (.invokevirtual 54, 3) := by decide +kernel
theorem dX9_readTongue_4 : decode cX9_readTongue 4 = .ok (.bipush 7, 2) := by decide +kernel
theorem dX9_readTongue_6 : decode cX9_readTongue 6 = .ok (.if_icmp .lt 5, 3) := by decide +kernel
theorem dX9_readTongue_9 : decode cX9_readTongue 9 = .ok (.iconst 3, 1) := by decide +kernel
theorem dX9_readTongue_10 : decode cX9_readTongue 10 = .ok (.ireturn, 1) := by decide +kernel
theorem dX9_readTongue_11 : decode cX9_readTongue 11 = .ok (.aload_n 1, 1) := by decide +kernel
theorem dX9_readTongue_12 : decode cX9_readTongue 12 = .ok (.invokevirtual 58, 3) := by decide +kernel
theorem dX9_readTongue_15 : decode cX9_readTongue 15 = .ok (.aload_n 0, 1) := by decide +kernel
theorem dX9_readTongue_16 : decode cX9_readTongue 16 = .ok (.invokevirtual 36, 3) := by decide +kernel
theorem dX9_readTongue_19 : decode cX9_readTongue 19 = .ok (.aload_n 0, 1) := by decide +kernel
theorem dX9_readTongue_20 : decode cX9_readTongue 20 = .ok (.invokevirtual 61, 3) := by decide +kernel
theorem dX9_readTongue_23 : decode cX9_readTongue 23 = .ok (.istore_n 2, 1) := by decide +kernel
theorem dX9_readTongue_24 : decode cX9_readTongue 24 = .ok (.iconst 0, 1) := by decide +kernel
theorem dX9_readTongue_25 : decode cX9_readTongue 25 = .ok (.istore_n 3, 1) := by decide +kernel
theorem dX9_readTongue_26 : decode cX9_readTongue 26 = .ok (.iload_n 3, 1) := by decide +kernel
theorem dX9_readTongue_27 : decode cX9_readTongue 27 = .ok (.bipush 8, 2) := by decide +kernel
theorem dX9_readTongue_29 : decode cX9_readTongue 29 = .ok (.if_icmp .gt 28, 3) := by decide +kernel
theorem dX9_readTongue_32 : decode cX9_readTongue 32 = .ok (.iload_n 2, 1) := by decide +kernel
theorem dX9_readTongue_33 : decode cX9_readTongue 33 = .ok (.ifCond .ne 24, 3) := by decide +kernel
theorem dX9_readTongue_36 : decode cX9_readTongue 36 = .ok (.aload_n 0, 1) := by decide +kernel
theorem dX9_readTongue_37 : decode cX9_readTongue 37 = .ok (.ldc 64, 2) := by decide +kernel
theorem dX9_readTongue_39 : decode cX9_readTongue 39 = .ok (.invokevirtual 41, 3) := by decide +kernel
theorem dX9_readTongue_42 : decode cX9_readTongue 42 = .ok (.ifCond .eq 15, 3) := by decide +kernel
theorem dX9_readTongue_45 : decode cX9_readTongue 45 = .ok (.aload_n 0, 1) := by decide +kernel
theorem dX9_readTongue_46 : decode cX9_readTongue 46 = .ok (.aload_n 1, 1) := by decide +kernel
theorem dX9_readTongue_47 : decode cX9_readTongue 47 = .ok (.invokevirtual 66, 3) := by decide +kernel
theorem dX9_readTongue_50 : decode cX9_readTongue 50 = .ok (.istore_n 2, 1) := by decide +kernel
theorem dX9_readTongue_51 : decode cX9_readTongue 51 = .ok (.iinc 3 1, 3) := by decide +kernel
theorem dX9_readTongue_54 : decode cX9_readTongue 54 = .ok (.goto (-28), 3) := by decide +kernel
theorem dX9_readTongue_57 : decode cX9_readTongue 57 = .ok (.iload_n 2, 1) := by decide +kernel
theorem dX9_readTongue_58 : decode cX9_readTongue 58 = .ok (.ireturn, 1) := by decide +kernel
abbrev cX9_readWord : ByteArray := prog_11_method_9_code
def yX9_readWord : MethodName := ⟨"DayTongues$Tape", "readWord", "(LDayTongues$Port;)I"⟩
def mX9_readWord : dt_MD := (yX9_readWord, cX9_readWord, 4, some .int)
theorem dX9_readWord_0 : decode cX9_readWord 0 = .ok (.aload_n 1, 1) := by decide +kernel
theorem dX9_readWord_1 : decode cX9_readWord 1 = .ok (.aload_n 1, 1) := by decide +kernel
theorem dX9_readWord_2 : decode cX9_readWord 2 = .ok (.invokevirtual 54, 3) := by decide +kernel
theorem dX9_readWord_5 : decode cX9_readWord 5 = .ok (.iconst 1, 1) := by decide +kernel
theorem dX9_readWord_6 : decode cX9_readWord 6 = .ok (.isub, 1) := by decide +kernel
theorem dX9_readWord_7 : decode cX9_readWord 7 = .ok (.invokevirtual 69, 3) := by decide +kernel
theorem dX9_readWord_10 : decode cX9_readWord 10 = .ok (.bipush 8, 2) := by decide +kernel
theorem dX9_readWord_12 : decode cX9_readWord 12 = .ok (.if_icmp .lt 5, 3) := by decide +kernel
theorem dX9_readWord_15 : decode cX9_readWord 15 = .ok (.iconst 3, 1) := by decide +kernel
theorem dX9_readWord_16 : decode cX9_readWord 16 = .ok (.ireturn, 1) := by decide +kernel
theorem dX9_readWord_17 : decode cX9_readWord 17 = .ok (.aload_n 0, 1) := by decide +kernel
theorem dX9_readWord_18 : decode cX9_readWord 18 = .ok (.invokevirtual 36, 3) := by decide +kernel
theorem dX9_readWord_21 : decode cX9_readWord 21 = .ok (.aload_n 0, 1) := by decide +kernel
theorem dX9_readWord_22 : decode cX9_readWord 22 = .ok (.invokevirtual 73, 3) := by decide +kernel
theorem dX9_readWord_25 : decode cX9_readWord 25 = .ok (.istore_n 2, 1) := by decide +kernel
theorem dX9_readWord_26 : decode cX9_readWord 26 = .ok (.iload_n 2, 1) := by decide +kernel
theorem dX9_readWord_27 : decode cX9_readWord 27 = .ok (.ifCond .ne 5, 3) := by decide +kernel
theorem dX9_readWord_30 : decode cX9_readWord 30 = .ok (.iconst 1, 1) := by decide +kernel
theorem dX9_readWord_31 : decode cX9_readWord 31 = .ok (.ireturn, 1) := by decide +kernel
theorem dX9_readWord_32 : decode cX9_readWord 32 = .ok (.aload_n 1, 1) := by decide +kernel
theorem dX9_readWord_33 : decode cX9_readWord 33 = .ok (.iload_n 2, 1) := by decide +kernel
theorem dX9_readWord_34 : decode cX9_readWord 34 = .ok (.invokevirtual 76, 3) := by decide +kernel
theorem dX9_readWord_37 : decode cX9_readWord 37 = .ok (.aload_n 0, 1) := by decide +kernel
theorem dX9_readWord_38 : decode cX9_readWord 38 = .ok (.invokevirtual 36, 3) := by decide +kernel
theorem dX9_readWord_41 : decode cX9_readWord 41 = .ok (.aload_n 0, 1) := by decide +kernel
theorem dX9_readWord_42 : decode cX9_readWord 42 = .ok (.aload_n 1, 1) := by decide +kernel
theorem dX9_readWord_43 : decode cX9_readWord 43 = .ok (.iload_n 2, 1) := by decide +kernel
theorem dX9_readWord_44 : decode cX9_readWord 44 = .ok (.invokestatic 80, 3) := by decide +kernel
theorem dX9_readWord_47 : decode cX9_readWord 47 = .ok (.iload_n 2, 1) := by decide +kernel
theorem dX9_readWord_48 : decode cX9_readWord 48 = .ok (.invokestatic 83, 3) := by decide +kernel
theorem dX9_readWord_51 : decode cX9_readWord 51 = .ok (.invokevirtual 86, 3) := by decide +kernel
theorem dX9_readWord_54 : decode cX9_readWord 54 = .ok (.istore_n 3, 1) := by decide +kernel
theorem dX9_readWord_55 : decode cX9_readWord 55 = .ok (.iload_n 3, 1) := by decide +kernel
theorem dX9_readWord_56 : decode cX9_readWord 56 = .ok (.ifCond .ne 10, 3) := by decide +kernel
theorem dX9_readWord_59 : decode cX9_readWord 59 = .ok (.aload_n 0, 1) := by decide +kernel
theorem dX9_readWord_60 : decode cX9_readWord 60 = .ok (.invokevirtual 61, 3) := by decide +kernel
theorem dX9_readWord_63 : decode cX9_readWord 63 = .ok (.goto 4, 3) := by decide +kernel
theorem dX9_readWord_66 : decode cX9_readWord 66 = .ok (.iload_n 3, 1) := by decide +kernel
theorem dX9_readWord_67 : decode cX9_readWord 67 = .ok (.ireturn, 1) := by decide +kernel
abbrev cX9_readReadings : ByteArray := prog_11_method_10_code
def yX9_readReadings : MethodName := ⟨"DayTongues$Tape", "readReadings", "(LDayTongues$Port;II)I"⟩
def mX9_readReadings : dt_MD := (yX9_readReadings, cX9_readReadings, 6, some .int)
theorem dX9_readReadings_0 : decode cX9_readReadings 0 = .ok (.iconst 0, 1) := by decide +kernel
theorem dX9_readReadings_1 : decode cX9_readReadings 1 = .ok (.istore 4, 2) := by decide +kernel
theorem dX9_readReadings_3 : decode cX9_readReadings 3 = .ok (.iload 4, 2) := by decide +kernel
theorem dX9_readReadings_5 : decode cX9_readReadings 5 = .ok (.iload_n 3, 1) := by decide +kernel
theorem dX9_readReadings_6 : decode cX9_readReadings 6 = .ok (.if_icmp .ge 61, 3) := by decide +kernel
theorem dX9_readReadings_9 : decode cX9_readReadings 9 = .ok (.aload_n 0, 1) := by decide +kernel
theorem dX9_readReadings_10 : decode cX9_readReadings 10 = .ok (.getfield 28, 3) := by decide +kernel
theorem dX9_readReadings_13 : decode cX9_readReadings 13 = .ok (.iconst 2, 1) := by decide +kernel
theorem dX9_readReadings_14 : decode cX9_readReadings 14 = .ok (.if_icmp .eq 15, 3) := by decide +kernel
theorem dX9_readReadings_17 : decode cX9_readReadings 17 = .ok (.iload 4, 2) := by decide +kernel
theorem dX9_readReadings_19 : decode cX9_readReadings 19 = .ok (.iload_n 2, 1) := by decide +kernel
theorem dX9_readReadings_20 : decode cX9_readReadings 20 = .ok (.if_icmp .ge 7, 3) := by decide +kernel
theorem dX9_readReadings_23 : decode cX9_readReadings 23 = .ok (.iconst 1, 1) := by decide +kernel
theorem dX9_readReadings_24 : decode cX9_readReadings 24 = .ok (.goto 4, 3) := by decide +kernel
theorem dX9_readReadings_27 : decode cX9_readReadings 27 = .ok (.iconst 0, 1) := by decide +kernel
theorem dX9_readReadings_28 : decode cX9_readReadings 28 = .ok (.ireturn, 1) := by decide +kernel
theorem dX9_readReadings_29 : decode cX9_readReadings 29 = .ok (.aload_n 0, 1) := by decide +kernel
theorem dX9_readReadings_30 : decode cX9_readReadings 30 = .ok (.invokevirtual 90, 3) := by decide +kernel
theorem dX9_readReadings_33 : decode cX9_readReadings 33 = .ok (.istore 5, 2) := by decide +kernel
theorem dX9_readReadings_35 : decode cX9_readReadings 35 = .ok (.iload 5, 2) := by decide +kernel
theorem dX9_readReadings_37 : decode cX9_readReadings 37 = .ok (.iconst 1, 1) := by decide +kernel
theorem dX9_readReadings_38 : decode cX9_readReadings 38 = .ok (.if_icmp .lt 11, 3) := by decide +kernel
theorem dX9_readReadings_41 : decode cX9_readReadings 41 = .ok (.iload 5, 2) := by decide +kernel
theorem dX9_readReadings_43 : decode cX9_readReadings 43 = .ok (.sipush 256, 3) := by decide +kernel
theorem dX9_readReadings_46 : decode cX9_readReadings 46 = .ok (.if_icmp .lt 5, 3) := by decide +kernel
theorem dX9_readReadings_49 : decode cX9_readReadings 49 = .ok (.iconst 2, 1) := by decide +kernel
theorem dX9_readReadings_50 : decode cX9_readReadings 50 = .ok (.ireturn, 1) := by decide +kernel
theorem dX9_readReadings_51 : decode cX9_readReadings 51 = .ok (.aload_n 1, 1) := by decide +kernel
theorem dX9_readReadings_52 : decode cX9_readReadings 52 = .ok (.iload 5, 2) := by decide +kernel
theorem dX9_readReadings_54 : decode cX9_readReadings 54 = .ok (.invokevirtual 93, 3) := by decide +kernel
theorem dX9_readReadings_57 : decode cX9_readReadings 57 = .ok (.aload_n 0, 1) := by decide +kernel
theorem dX9_readReadings_58 : decode cX9_readReadings 58 = .ok (.invokevirtual 36, 3) := by decide +kernel
theorem dX9_readReadings_61 : decode cX9_readReadings 61 = .ok (.iinc 4 1, 3) := by decide +kernel
theorem dX9_readReadings_64 : decode cX9_readReadings 64 = .ok (.goto (-61), 3) := by decide +kernel
theorem dX9_readReadings_67 : decode cX9_readReadings 67 = .ok (.iconst 0, 1) := by decide +kernel
theorem dX9_readReadings_68 : decode cX9_readReadings 68 = .ok (.ireturn, 1) := by decide +kernel
abbrev cX9_readPerson : ByteArray := prog_11_method_11_code
def yX9_readPerson : MethodName := ⟨"DayTongues$Tape", "readPerson", "(LDayTongues$Port;)I"⟩
def mX9_readPerson : dt_MD := (yX9_readPerson, cX9_readPerson, 3, some .int)
theorem dX9_readPerson_0 : decode cX9_readPerson 0 = .ok (.aload_n 1, 1) := by decide +kernel
theorem dX9_readPerson_1 : decode cX9_readPerson 1 = .ok (.invokevirtual 96, 3) := by decide +kernel
theorem dX9_readPerson_4 : decode cX9_readPerson 4 = .ok (.bipush 8, 2) := by decide +kernel
theorem dX9_readPerson_6 : decode cX9_readPerson 6 = .ok (.if_icmp .lt 5, 3) := by decide +kernel
theorem dX9_readPerson_9 : decode cX9_readPerson 9 = .ok (.iconst 3, 1) := by decide +kernel
theorem dX9_readPerson_10 : decode cX9_readPerson 10 = .ok (.ireturn, 1) := by decide +kernel
theorem dX9_readPerson_11 : decode cX9_readPerson 11 = .ok (.aload_n 0, 1) := by decide +kernel
theorem dX9_readPerson_12 : decode cX9_readPerson 12 = .ok (.invokevirtual 36, 3) := by decide +kernel
theorem dX9_readPerson_15 : decode cX9_readPerson 15 = .ok (.aload_n 0, 1) := by decide +kernel
theorem dX9_readPerson_16 : decode cX9_readPerson 16 = .ok (.getfield 28, 3) := by decide +kernel
theorem dX9_readPerson_19 : decode cX9_readPerson 19 = .ok (.iconst 2, 1) := by decide +kernel
theorem dX9_readPerson_20 : decode cX9_readPerson 20 = .ok (.if_icmp .eq 5, 3) := by decide +kernel
theorem dX9_readPerson_23 : decode cX9_readPerson 23 = .ok (.iconst 1, 1) := by decide +kernel
theorem dX9_readPerson_24 : decode cX9_readPerson 24 = .ok (.ireturn, 1) := by decide +kernel
theorem dX9_readPerson_25 : decode cX9_readPerson 25 = .ok (.aload_n 0, 1) := by decide +kernel
theorem dX9_readPerson_26 : decode cX9_readPerson 26 = .ok (.invokevirtual 90, 3) := by decide +kernel
theorem dX9_readPerson_29 : decode cX9_readPerson 29 = .ok (.istore_n 2, 1) := by decide +kernel
theorem dX9_readPerson_30 : decode cX9_readPerson 30 = .ok (.iload_n 2, 1) := by decide +kernel
theorem dX9_readPerson_31 : decode cX9_readPerson 31 = .ok (.iconst 1, 1) := by decide +kernel
theorem dX9_readPerson_32 : decode cX9_readPerson 32 = .ok (.aload_n 1, 1) := by decide +kernel
theorem dX9_readPerson_33 : decode cX9_readPerson 33 = .ok (.invokevirtual 54, 3) := by decide +kernel
theorem dX9_readPerson_36 : decode cX9_readPerson 36 = .ok (.ishl, 1) := by decide +kernel
theorem dX9_readPerson_37 : decode cX9_readPerson 37 = .ok (.if_icmp .lt 5, 3) := by decide +kernel
theorem dX9_readPerson_40 : decode cX9_readPerson 40 = .ok (.iconst 2, 1) := by decide +kernel
theorem dX9_readPerson_41 : decode cX9_readPerson 41 = .ok (.ireturn, 1) := by decide +kernel
theorem dX9_readPerson_42 : decode cX9_readPerson 42 = .ok (.aload_n 1, 1) := by decide +kernel
theorem dX9_readPerson_43 : decode cX9_readPerson 43 = .ok (.iload_n 2, 1) := by decide +kernel
theorem dX9_readPerson_44 : decode cX9_readPerson 44 = .ok (.invokevirtual 99, 3) := by decide +kernel
theorem dX9_readPerson_47 : decode cX9_readPerson 47 = .ok (.aload_n 0, 1) := by decide +kernel
theorem dX9_readPerson_48 : decode cX9_readPerson 48 = .ok (.invokevirtual 36, 3) := by decide +kernel
theorem dX9_readPerson_51 : decode cX9_readPerson 51 = .ok (.aload_n 0, 1) := by decide +kernel
theorem dX9_readPerson_52 : decode cX9_readPerson 52 = .ok (.invokevirtual 61, 3) := by decide +kernel
theorem dX9_readPerson_55 : decode cX9_readPerson 55 = .ok (.ireturn, 1) := by decide +kernel
abbrev cX9_readSemicolon : ByteArray := prog_11_method_12_code
def yX9_readSemicolon : MethodName := ⟨"DayTongues$Tape", "readSemicolon", "()I"⟩
def mX9_readSemicolon : dt_MD := (yX9_readSemicolon, cX9_readSemicolon, 1, some .int)
theorem dX9_readSemicolon_0 : decode cX9_readSemicolon 0 = .ok (.aload_n 0, 1) := by decide +kernel
theorem dX9_readSemicolon_1 : decode cX9_readSemicolon 1 = .ok (.getfield 28, 3) := by decide +kernel
theorem dX9_readSemicolon_4 : decode cX9_readSemicolon 4 = .ok (.iconst 3, 1) := by decide +kernel
theorem dX9_readSemicolon_5 : decode cX9_readSemicolon 5 = .ok (.if_icmp .eq 5, 3) := by decide +kernel
theorem dX9_readSemicolon_8 : decode cX9_readSemicolon 8 = .ok (.iconst 1, 1) := by decide +kernel
theorem dX9_readSemicolon_9 : decode cX9_readSemicolon 9 = .ok (.ireturn, 1) := by decide +kernel
theorem dX9_readSemicolon_10 : decode cX9_readSemicolon 10 = .ok (.aload_n 0, 1) := by decide +kernel
theorem dX9_readSemicolon_11 : decode cX9_readSemicolon 11 = .ok (.invokevirtual 36, 3) := by decide +kernel
theorem dX9_readSemicolon_14 : decode cX9_readSemicolon 14 = .ok (.iconst 0, 1) := by decide +kernel
theorem dX9_readSemicolon_15 : decode cX9_readSemicolon 15 = .ok (.ireturn, 1) := by decide +kernel
abbrev cX9_kindTold : ByteArray := prog_11_method_13_code
def yX9_kindTold : MethodName := ⟨"DayTongues$Tape", "kindTold", "()I"⟩
def mX9_kindTold : dt_MD := (yX9_kindTold, cX9_kindTold, 1, some .int)
theorem dX9_kindTold_0 : decode cX9_kindTold 0 = .ok (.aload_n 0, 1) := by decide +kernel
theorem dX9_kindTold_1 : decode cX9_kindTold 1 = .ok (.ldc 102, 2) := by decide +kernel
theorem dX9_kindTold_3 : decode cX9_kindTold 3 = .ok (.invokevirtual 41, 3) := by decide +kernel
theorem dX9_kindTold_6 : decode cX9_kindTold 6 = .ok (.ifCond .eq 5, 3) := by decide +kernel
theorem dX9_kindTold_9 : decode cX9_kindTold 9 = .ok (.iconst 1, 1) := by decide +kernel
theorem dX9_kindTold_10 : decode cX9_kindTold 10 = .ok (.ireturn, 1) := by decide +kernel
theorem dX9_kindTold_11 : decode cX9_kindTold 11 = .ok (.aload_n 0, 1) := by decide +kernel
theorem dX9_kindTold_12 : decode cX9_kindTold 12 = .ok (.ldc 104, 2) := by decide +kernel
theorem dX9_kindTold_14 : decode cX9_kindTold 14 = .ok (.invokevirtual 41, 3) := by decide +kernel
theorem dX9_kindTold_17 : decode cX9_kindTold 17 = .ok (.ifCond .eq 5, 3) := by decide +kernel
theorem dX9_kindTold_20 : decode cX9_kindTold 20 = .ok (.iconst 2, 1) := by decide +kernel
theorem dX9_kindTold_21 : decode cX9_kindTold 21 = .ok (.ireturn, 1) := by decide +kernel
theorem dX9_kindTold_22 : decode cX9_kindTold 22 = .ok (.aload_n 0, 1) := by decide +kernel
theorem dX9_kindTold_23 : decode cX9_kindTold 23 = .ok (.ldc 106, 2) := by decide +kernel
theorem dX9_kindTold_25 : decode cX9_kindTold 25 = .ok (.invokevirtual 41, 3) := by decide +kernel
theorem dX9_kindTold_28 : decode cX9_kindTold 28 = .ok (.ifCond .eq 5, 3) := by decide +kernel
theorem dX9_kindTold_31 : decode cX9_kindTold 31 = .ok (.iconst 3, 1) := by decide +kernel
theorem dX9_kindTold_32 : decode cX9_kindTold 32 = .ok (.ireturn, 1) := by decide +kernel
theorem dX9_kindTold_33 : decode cX9_kindTold 33 = .ok (.aload_n 0, 1) := by decide +kernel
theorem dX9_kindTold_34 : decode cX9_kindTold 34 = .ok (.ldc 108, 2) := by decide +kernel
theorem dX9_kindTold_36 : decode cX9_kindTold 36 = .ok (.invokevirtual 41, 3) := by decide +kernel
theorem dX9_kindTold_39 : decode cX9_kindTold 39 = .ok (.ifCond .eq 5, 3) := by decide +kernel
theorem dX9_kindTold_42 : decode cX9_kindTold 42 = .ok (.iconst 4, 1) := by decide +kernel
theorem dX9_kindTold_43 : decode cX9_kindTold 43 = .ok (.ireturn, 1) := by decide +kernel
theorem dX9_kindTold_44 : decode cX9_kindTold 44 = .ok (.aload_n 0, 1) := by decide +kernel
theorem dX9_kindTold_45 : decode cX9_kindTold 45 = .ok (.ldc 110, 2) := by decide +kernel
theorem dX9_kindTold_47 : decode cX9_kindTold 47 = .ok (.invokevirtual 41, 3) := by decide +kernel
theorem dX9_kindTold_50 : decode cX9_kindTold 50 = .ok (.ifCond .eq 7, 3) := by decide +kernel
theorem dX9_kindTold_53 : decode cX9_kindTold 53 = .ok (.iconst 5, 1) := by decide +kernel
theorem dX9_kindTold_54 : decode cX9_kindTold 54 = .ok (.goto 4, 3) := by decide +kernel
theorem dX9_kindTold_57 : decode cX9_kindTold 57 = .ok (.iconst 0, 1) := by decide +kernel
theorem dX9_kindTold_58 : decode cX9_kindTold 58 = .ok (.ireturn, 1) := by decide +kernel
abbrev cX9_leastReadings : ByteArray := prog_11_method_14_code
def yX9_leastReadings : MethodName := ⟨"DayTongues$Tape", "leastReadings", "(I)I"⟩
def mX9_leastReadings : dt_MD := (yX9_leastReadings, cX9_leastReadings, 1, some .int)
theorem dX9_leastReadings_0 : decode cX9_leastReadings 0 = .ok (.iload_n 0, 1) := by decide +kernel
theorem dX9_leastReadings_1 : decode cX9_leastReadings 1 = .ok (.iconst 4, 1) := by decide +kernel
theorem dX9_leastReadings_2 : decode cX9_leastReadings 2 = .ok (.if_icmp .ne 7, 3) := by decide +kernel
theorem dX9_leastReadings_5 : decode cX9_leastReadings 5 = .ok (.iconst 2, 1) := by decide +kernel
theorem dX9_leastReadings_6 : decode cX9_leastReadings 6 = .ok (.goto 4, 3) := by decide +kernel
theorem dX9_leastReadings_9 : decode cX9_leastReadings 9 = .ok (.iconst 1, 1) := by decide +kernel
theorem dX9_leastReadings_10 : decode cX9_leastReadings 10 = .ok (.ireturn, 1) := by decide +kernel
abbrev cX9_mostReadings : ByteArray := prog_11_method_15_code
def yX9_mostReadings : MethodName := ⟨"DayTongues$Tape", "mostReadings", "(I)I"⟩
def mX9_mostReadings : dt_MD := (yX9_mostReadings, cX9_mostReadings, 1, some .int)
theorem dX9_mostReadings_0 : decode cX9_mostReadings 0 = .ok (.iload_n 0, 1) := by decide +kernel
theorem dX9_mostReadings_1 : decode cX9_mostReadings 1 = .ok (.iconst 4, 1) := by decide +kernel
theorem dX9_mostReadings_2 : decode cX9_mostReadings 2 = .ok (.if_icmp .eq 8, 3) := by decide +kernel
theorem dX9_mostReadings_5 : decode cX9_mostReadings 5 = .ok (.iload_n 0, 1) := by decide +kernel
theorem dX9_mostReadings_6 : decode cX9_mostReadings 6 = .ok (.iconst 5, 1) := by decide +kernel
theorem dX9_mostReadings_7 : decode cX9_mostReadings 7 = .ok (.if_icmp .ne 7, 3) := by decide +kernel
theorem dX9_mostReadings_10 : decode cX9_mostReadings 10 = .ok (.iconst 3, 1) := by decide +kernel
theorem dX9_mostReadings_11 : decode cX9_mostReadings 11 = .ok (.goto 4, 3) := by decide +kernel
theorem dX9_mostReadings_14 : decode cX9_mostReadings 14 = .ok (.iconst 1, 1) := by decide +kernel
theorem dX9_mostReadings_15 : decode cX9_mostReadings 15 = .ok (.ireturn, 1) := by decide +kernel
abbrev cX9_next : ByteArray := prog_11_method_16_code
def yX9_next : MethodName := ⟨"DayTongues$Tape", "next", "()V"⟩
def mX9_next : dt_MD := (yX9_next, cX9_next, 1, none)
theorem dX9_next_0 : decode cX9_next 0 = .ok (.aload_n 0, 1) := by decide +kernel
theorem dX9_next_1 : decode cX9_next 1 = .ok (.aload_n 0, 1) := by decide +kernel
theorem dX9_next_2 : decode cX9_next 2 = .ok (.getfield 25, 3) := by decide +kernel
theorem dX9_next_5 : decode cX9_next 5 = .ok (.putfield 22, 3) := by decide +kernel
theorem dX9_next_8 : decode cX9_next 8 = .ok (.aload_n 0, 1) := by decide +kernel
theorem dX9_next_9 : decode cX9_next 9 = .ok (.getfield 22, 3) := by decide +kernel
theorem dX9_next_12 : decode cX9_next 12 = .ok (.aload_n 0, 1) := by decide +kernel
theorem dX9_next_13 : decode cX9_next 13 = .ok (.getfield 18, 3) := by decide +kernel
theorem dX9_next_16 : decode cX9_next 16 = .ok (.if_icmp .ge 30, 3) := by decide +kernel
theorem dX9_next_19 : decode cX9_next 19 = .ok (.aload_n 0, 1) := by decide +kernel
theorem dX9_next_20 : decode cX9_next 20 = .ok (.aload_n 0, 1) := by decide +kernel
theorem dX9_next_21 : decode cX9_next 21 = .ok (.getfield 22, 3) := by decide +kernel
theorem dX9_next_24 : decode cX9_next 24 = .ok (.invokevirtual 112, 3) := by decide +kernel
theorem dX9_next_27 : decode cX9_next 27 = .ok (.invokestatic 115, 3) := by decide +kernel
theorem dX9_next_30 : decode cX9_next 30 = .ok (.ifCond .eq 16, 3) := by decide +kernel
theorem dX9_next_33 : decode cX9_next 33 = .ok (.aload_n 0, 1) := by decide +kernel
theorem dX9_next_34 : decode cX9_next 34 = .ok (.dup, 1) := by decide +kernel
theorem dX9_next_35 : decode cX9_next 35 = .ok (.getfield 22, 3) := by decide +kernel
theorem dX9_next_38 : decode cX9_next 38 = .ok (.iconst 1, 1) := by decide +kernel
theorem dX9_next_39 : decode cX9_next 39 = .ok (.iadd, 1) := by decide +kernel
theorem dX9_next_40 : decode cX9_next 40 = .ok (.putfield 22, 3) := by decide +kernel
theorem dX9_next_43 : decode cX9_next 43 = .ok (.goto (-35), 3) := by decide +kernel
theorem dX9_next_46 : decode cX9_next 46 = .ok (.aload_n 0, 1) := by decide +kernel
theorem dX9_next_47 : decode cX9_next 47 = .ok (.aload_n 0, 1) := by decide +kernel
theorem dX9_next_48 : decode cX9_next 48 = .ok (.getfield 22, 3) := by decide +kernel
theorem dX9_next_51 : decode cX9_next 51 = .ok (.iconst 1, 1) := by decide +kernel
theorem dX9_next_52 : decode cX9_next 52 = .ok (.iadd, 1) := by decide +kernel
theorem dX9_next_53 : decode cX9_next 53 = .ok (.putfield 25, 3) := by decide +kernel
theorem dX9_next_56 : decode cX9_next 56 = .ok (.aload_n 0, 1) := by decide +kernel
theorem dX9_next_57 : decode cX9_next 57 = .ok (.getfield 22, 3) := by decide +kernel
theorem dX9_next_60 : decode cX9_next 60 = .ok (.aload_n 0, 1) := by decide +kernel
theorem dX9_next_61 : decode cX9_next 61 = .ok (.getfield 18, 3) := by decide +kernel
theorem dX9_next_64 : decode cX9_next 64 = .ok (.if_icmp .lt 19, 3) := by decide +kernel
theorem dX9_next_67 : decode cX9_next 67 = .ok (.aload_n 0, 1) := by decide +kernel
theorem dX9_next_68 : decode cX9_next 68 = .ok (.aload_n 0, 1) := by decide +kernel
theorem dX9_next_69 : decode cX9_next 69 = .ok (.getfield 22, 3) := by decide +kernel
theorem dX9_next_72 : decode cX9_next 72 = .ok (.putfield 25, 3) := by decide +kernel
theorem dX9_next_75 : decode cX9_next 75 = .ok (.aload_n 0, 1) := by decide +kernel
theorem dX9_next_76 : decode cX9_next 76 = .ok (.iconst 0, 1) := by decide +kernel
theorem dX9_next_77 : decode cX9_next 77 = .ok (.putfield 28, 3) := by decide +kernel
theorem dX9_next_80 : decode cX9_next 80 = .ok (.goto 159, 3) := by decide +kernel
theorem dX9_next_83 : decode cX9_next 83 = .ok (.aload_n 0, 1) := by decide +kernel
theorem dX9_next_84 : decode cX9_next 84 = .ok (.aload_n 0, 1) := by decide +kernel
theorem dX9_next_85 : decode cX9_next 85 = .ok (.getfield 22, 3) := by decide +kernel
theorem dX9_next_88 : decode cX9_next 88 = .ok (.invokevirtual 112, 3) := by decide +kernel
theorem dX9_next_91 : decode cX9_next 91 = .ok (.invokestatic 119, 3) := by decide +kernel
theorem dX9_next_94 : decode cX9_next 94 = .ok (.ifCond .eq 46, 3) := by decide +kernel
theorem dX9_next_97 : decode cX9_next 97 = .ok (.aload_n 0, 1) := by decide +kernel
theorem dX9_next_98 : decode cX9_next 98 = .ok (.iconst 1, 1) := by decide +kernel
theorem dX9_next_99 : decode cX9_next 99 = .ok (.putfield 28, 3) := by decide +kernel
theorem dX9_next_102 : decode cX9_next 102 = .ok (.aload_n 0, 1) := by decide +kernel
theorem dX9_next_103 : decode cX9_next 103 = .ok (.getfield 25, 3) := by decide +kernel
theorem dX9_next_106 : decode cX9_next 106 = .ok (.aload_n 0, 1) := by decide +kernel
theorem dX9_next_107 : decode cX9_next 107 = .ok (.getfield 18, 3) := by decide +kernel
theorem dX9_next_110 : decode cX9_next 110 = .ok (.if_icmp .ge 129, 3) := by decide +kernel
theorem dX9_next_113 : decode cX9_next 113 = .ok (.aload_n 0, 1) := by decide +kernel
theorem dX9_next_114 : decode cX9_next 114 = .ok (.aload_n 0, 1) := by decide +kernel
theorem dX9_next_115 : decode cX9_next 115 = .ok (.getfield 25, 3) := by decide +kernel
theorem dX9_next_118 : decode cX9_next 118 = .ok (.invokevirtual 112, 3) := by decide +kernel
theorem dX9_next_121 : decode cX9_next 121 = .ok (.invokestatic 119, 3) := by decide +kernel
theorem dX9_next_124 : decode cX9_next 124 = .ok (.ifCond .eq 115, 3) := by decide +kernel
theorem dX9_next_127 : decode cX9_next 127 = .ok (.aload_n 0, 1) := by decide +kernel
theorem dX9_next_128 : decode cX9_next 128 = .ok (.dup, 1) := by decide +kernel
theorem dX9_next_129 : decode cX9_next 129 = .ok (.getfield 25, 3) := by decide +kernel
theorem dX9_next_132 : decode cX9_next 132 = .ok (.iconst 1, 1) := by decide +kernel
theorem dX9_next_133 : decode cX9_next 133 = .ok (.iadd, 1) := by decide +kernel
theorem dX9_next_134 : decode cX9_next 134 = .ok (.putfield 25, 3) := by decide +kernel
theorem dX9_next_137 : decode cX9_next 137 = .ok (.goto (-35), 3) := by decide +kernel
theorem dX9_next_140 : decode cX9_next 140 = .ok (.aload_n 0, 1) := by decide +kernel
theorem dX9_next_141 : decode cX9_next 141 = .ok (.aload_n 0, 1) := by decide +kernel
theorem dX9_next_142 : decode cX9_next 142 = .ok (.getfield 22, 3) := by decide +kernel
theorem dX9_next_145 : decode cX9_next 145 = .ok (.invokevirtual 112, 3) := by decide +kernel
theorem dX9_next_148 : decode cX9_next 148 = .ok (.invokestatic 122, 3) := by decide +kernel
theorem dX9_next_151 : decode cX9_next 151 = .ok (.ifCond .eq 66, 3) := by decide +kernel
theorem dX9_next_154 : decode cX9_next 154 = .ok (.aload_n 0, 1) := by decide +kernel
theorem dX9_next_155 : decode cX9_next 155 = .ok (.getfield 25, 3) := by decide +kernel
theorem dX9_next_158 : decode cX9_next 158 = .ok (.aload_n 0, 1) := by decide +kernel
theorem dX9_next_159 : decode cX9_next 159 = .ok (.getfield 18, 3) := by decide +kernel
theorem dX9_next_162 : decode cX9_next 162 = .ok (.if_icmp .ge 30, 3) := by decide +kernel
theorem dX9_next_165 : decode cX9_next 165 = .ok (.aload_n 0, 1) := by decide +kernel
theorem dX9_next_166 : decode cX9_next 166 = .ok (.aload_n 0, 1) := by decide +kernel
theorem dX9_next_167 : decode cX9_next 167 = .ok (.getfield 25, 3) := by decide +kernel
theorem dX9_next_170 : decode cX9_next 170 = .ok (.invokevirtual 112, 3) := by decide +kernel
theorem dX9_next_173 : decode cX9_next 173 = .ok (.invokestatic 122, 3) := by decide +kernel
theorem dX9_next_176 : decode cX9_next 176 = .ok (.ifCond .eq 16, 3) := by decide +kernel
theorem dX9_next_179 : decode cX9_next 179 = .ok (.aload_n 0, 1) := by decide +kernel
theorem dX9_next_180 : decode cX9_next 180 = .ok (.dup, 1) := by decide +kernel
theorem dX9_next_181 : decode cX9_next 181 = .ok (.getfield 25, 3) := by decide +kernel
theorem dX9_next_184 : decode cX9_next 184 = .ok (.iconst 1, 1) := by decide +kernel
theorem dX9_next_185 : decode cX9_next 185 = .ok (.iadd, 1) := by decide +kernel
theorem dX9_next_186 : decode cX9_next 186 = .ok (.putfield 25, 3) := by decide +kernel
theorem dX9_next_189 : decode cX9_next 189 = .ok (.goto (-35), 3) := by decide +kernel
theorem dX9_next_192 : decode cX9_next 192 = .ok (.aload_n 0, 1) := by decide +kernel
theorem dX9_next_193 : decode cX9_next 193 = .ok (.aload_n 0, 1) := by decide +kernel
theorem dX9_next_194 : decode cX9_next 194 = .ok (.getfield 25, 3) := by decide +kernel
theorem dX9_next_197 : decode cX9_next 197 = .ok (.aload_n 0, 1) := by decide +kernel
theorem dX9_next_198 : decode cX9_next 198 = .ok (.getfield 22, 3) := by decide +kernel
theorem dX9_next_201 : decode cX9_next 201 = .ok (.isub, 1) := by decide +kernel
theorem dX9_next_202 : decode cX9_next 202 = .ok (.iconst 3, 1) := by decide +kernel
theorem dX9_next_203 : decode cX9_next 203 = .ok (.if_icmp .gt 7, 3) := by decide +kernel
theorem dX9_next_206 : decode cX9_next 206 = .ok (.iconst 2, 1) := by decide +kernel
theorem dX9_next_207 : decode cX9_next 207 = .ok (.goto 4, 3) := by decide +kernel
theorem dX9_next_210 : decode cX9_next 210 = .ok (.iconst 4, 1) := by decide +kernel
theorem dX9_next_211 : decode cX9_next 211 = .ok (.putfield 28, 3) := by decide +kernel
theorem dX9_next_214 : decode cX9_next 214 = .ok (.goto 25, 3) := by decide +kernel
theorem dX9_next_217 : decode cX9_next 217 = .ok (.aload_n 0, 1) := by decide +kernel
theorem dX9_next_218 : decode cX9_next 218 = .ok (.aload_n 0, 1) := by decide +kernel
theorem dX9_next_219 : decode cX9_next 219 = .ok (.aload_n 0, 1) := by decide +kernel
theorem dX9_next_220 : decode cX9_next 220 = .ok (.getfield 22, 3) := by decide +kernel
theorem dX9_next_223 : decode cX9_next 223 = .ok (.invokevirtual 112, 3) := by decide +kernel
theorem dX9_next_226 : decode cX9_next 226 = .ok (.bipush 59, 2) := by decide +kernel
theorem dX9_next_228 : decode cX9_next 228 = .ok (.if_icmp .ne 7, 3) := by decide +kernel
theorem dX9_next_231 : decode cX9_next 231 = .ok (.iconst 3, 1) := by decide +kernel
theorem dX9_next_232 : decode cX9_next 232 = .ok (.goto 4, 3) := by decide +kernel
theorem dX9_next_235 : decode cX9_next 235 = .ok (.iconst 4, 1) := by decide +kernel
theorem dX9_next_236 : decode cX9_next 236 = .ok (.putfield 28, 3) := by decide +kernel
theorem dX9_next_239 : decode cX9_next 239 = .ok (.return_, 1) := by decide +kernel
abbrev cX9_at : ByteArray := prog_11_method_17_code
def yX9_at : MethodName := ⟨"DayTongues$Tape", "at", "(I)I"⟩
def mX9_at : dt_MD := (yX9_at, cX9_at, 2, some .int)
theorem dX9_at_0 : decode cX9_at 0 = .ok (.iconst 0, 1) := by decide +kernel
theorem dX9_at_1 : decode cX9_at 1 = .ok (.iload_n 1, 1) := by decide +kernel
theorem dX9_at_2 : decode cX9_at 2 = .ok (.if_icmp .gt 27, 3) := by decide +kernel
theorem dX9_at_5 : decode cX9_at 5 = .ok (.iload_n 1, 1) := by decide +kernel
theorem dX9_at_6 : decode cX9_at 6 = .ok (.aload_n 0, 1) := by decide +kernel
theorem dX9_at_7 : decode cX9_at 7 = .ok (.getfield 18, 3) := by decide +kernel
theorem dX9_at_10 : decode cX9_at 10 = .ok (.if_icmp .ge 19, 3) := by decide +kernel
theorem dX9_at_13 : decode cX9_at 13 = .ok (.iload_n 1, 1) := by decide +kernel
theorem dX9_at_14 : decode cX9_at 14 = .ok (.sipush 500, 3) := by decide +kernel
theorem dX9_at_17 : decode cX9_at 17 = .ok (.if_icmp .ge 12, 3) := by decide +kernel
theorem dX9_at_20 : decode cX9_at 20 = .ok (.aload_n 0, 1) := by decide +kernel
theorem dX9_at_21 : decode cX9_at 21 = .ok (.getfield 11, 3) := by decide +kernel
theorem dX9_at_24 : decode cX9_at 24 = .ok (.iload_n 1, 1) := by decide +kernel
theorem dX9_at_25 : decode cX9_at 25 = .ok (.iaload, 1) := by decide +kernel
theorem dX9_at_26 : decode cX9_at 26 = .ok (.goto 4, 3) := by decide +kernel
theorem dX9_at_29 : decode cX9_at 29 = .ok (.iconst 0, 1) := by decide +kernel
theorem dX9_at_30 : decode cX9_at 30 = .ok (.ireturn, 1) := by decide +kernel
abbrev cX9_isName : ByteArray := prog_11_method_18_code
def yX9_isName : MethodName := ⟨"DayTongues$Tape", "isName", "(Ljava/lang/String;)Z"⟩
def mX9_isName : dt_MD := (yX9_isName, cX9_isName, 3, some .boolean)
theorem dX9_isName_0 : decode cX9_isName 0 = .ok (.aload_n 0, 1) := by decide +kernel
theorem dX9_isName_1 : decode cX9_isName 1 = .ok (.getfield 28, 3) := by decide +kernel
theorem dX9_isName_4 : decode cX9_isName 4 = .ok (.iconst 1, 1) := by decide +kernel
theorem dX9_isName_5 : decode cX9_isName 5 = .ok (.if_icmp .ne 19, 3) := by decide +kernel
theorem dX9_isName_8 : decode cX9_isName 8 = .ok (.aload_n 0, 1) := by decide +kernel
theorem dX9_isName_9 : decode cX9_isName 9 = .ok (.getfield 25, 3) := by decide +kernel
theorem dX9_isName_12 : decode cX9_isName 12 = .ok (.aload_n 0, 1) := by decide +kernel
theorem dX9_isName_13 : decode cX9_isName 13 = .ok (.getfield 22, 3) := by decide +kernel
theorem dX9_isName_16 : decode cX9_isName 16 = .ok (.isub, 1) := by decide +kernel
theorem dX9_isName_17 : decode cX9_isName 17 = .ok (.aload_n 1, 1) := by decide +kernel
theorem dX9_isName_18 : decode cX9_isName 18 = .ok (.invokevirtual 125, 3) := by decide +kernel
theorem dX9_isName_21 : decode cX9_isName 21 = .ok (.if_icmp .eq 5, 3) := by decide +kernel
theorem dX9_isName_24 : decode cX9_isName 24 = .ok (.iconst 0, 1) := by decide +kernel
theorem dX9_isName_25 : decode cX9_isName 25 = .ok (.ireturn, 1) := by decide +kernel
theorem dX9_isName_26 : decode cX9_isName 26 = .ok (.iconst 0, 1) := by decide +kernel
theorem dX9_isName_27 : decode cX9_isName 27 = .ok (.istore_n 2, 1) := by decide +kernel
theorem dX9_isName_28 : decode cX9_isName 28 = .ok (.iload_n 2, 1) := by decide +kernel
theorem dX9_isName_29 : decode cX9_isName 29 = .ok (.aload_n 1, 1) := by decide +kernel
theorem dX9_isName_30 : decode cX9_isName 30 = .ok (.invokevirtual 125, 3) := by decide +kernel
theorem dX9_isName_33 : decode cX9_isName 33 = .ok (.if_icmp .ge 29, 3) := by decide +kernel
theorem dX9_isName_36 : decode cX9_isName 36 = .ok (.aload_n 0, 1) := by decide +kernel
theorem dX9_isName_37 : decode cX9_isName 37 = .ok (.aload_n 0, 1) := by decide +kernel
theorem dX9_isName_38 : decode cX9_isName 38 = .ok (.getfield 22, 3) := by decide +kernel
theorem dX9_isName_41 : decode cX9_isName 41 = .ok (.iload_n 2, 1) := by decide +kernel
theorem dX9_isName_42 : decode cX9_isName 42 = .ok (.iadd, 1) := by decide +kernel
theorem dX9_isName_43 : decode cX9_isName 43 = .ok (.invokevirtual 112, 3) := by decide +kernel
theorem dX9_isName_46 : decode cX9_isName 46 = .ok (.aload_n 1, 1) := by decide +kernel
theorem dX9_isName_47 : decode cX9_isName 47 = .ok (.iload_n 2, 1) := by decide +kernel
theorem dX9_isName_48 : decode cX9_isName 48 = .ok (.invokevirtual 130, 3) := by decide +kernel
theorem dX9_isName_51 : decode cX9_isName 51 = .ok (.if_icmp .eq 5, 3) := by decide +kernel
theorem dX9_isName_54 : decode cX9_isName 54 = .ok (.iconst 0, 1) := by decide +kernel
theorem dX9_isName_55 : decode cX9_isName 55 = .ok (.ireturn, 1) := by decide +kernel
theorem dX9_isName_56 : decode cX9_isName 56 = .ok (.iinc 2 1, 3) := by decide +kernel
theorem dX9_isName_59 : decode cX9_isName 59 = .ok (.goto (-31), 3) := by decide +kernel
theorem dX9_isName_62 : decode cX9_isName 62 = .ok (.iconst 1, 1) := by decide +kernel
theorem dX9_isName_63 : decode cX9_isName 63 = .ok (.ireturn, 1) := by decide +kernel
abbrev cX9_number : ByteArray := prog_11_method_19_code
def yX9_number : MethodName := ⟨"DayTongues$Tape", "number", "()I"⟩
def mX9_number : dt_MD := (yX9_number, cX9_number, 3, some .int)
theorem dX9_number_0 : decode cX9_number 0 = .ok (.iconst 0, 1) := by decide +kernel
theorem dX9_number_1 : decode cX9_number 1 = .ok (.istore_n 1, 1) := by decide +kernel
theorem dX9_number_2 : decode cX9_number 2 = .ok (.aload_n 0, 1) := by decide +kernel
theorem dX9_number_3 : decode cX9_number 3 = .ok (.getfield 22, 3) := by decide +kernel
theorem dX9_number_6 : decode cX9_number 6 = .ok (.istore_n 2, 1) := by decide +kernel
theorem dX9_number_7 : decode cX9_number 7 = .ok (.iload_n 2, 1) := by decide +kernel
theorem dX9_number_8 : decode cX9_number 8 = .ok (.aload_n 0, 1) := by decide +kernel
theorem dX9_number_9 : decode cX9_number 9 = .ok (.getfield 25, 3) := by decide +kernel
theorem dX9_number_12 : decode cX9_number 12 = .ok (.if_icmp .ge 23, 3) := by decide +kernel
theorem dX9_number_15 : decode cX9_number 15 = .ok (.iload_n 1, 1) := by decide +kernel
theorem dX9_number_16 : decode cX9_number 16 = .ok (.bipush 10, 2) := by decide +kernel
theorem dX9_number_18 : decode cX9_number 18 = .ok (.imul, 1) := by decide +kernel
theorem dX9_number_19 : decode cX9_number 19 = .ok (.aload_n 0, 1) := by decide +kernel
theorem dX9_number_20 : decode cX9_number 20 = .ok (.iload_n 2, 1) := by decide +kernel
theorem dX9_number_21 : decode cX9_number 21 = .ok (.invokevirtual 112, 3) := by decide +kernel
theorem dX9_number_24 : decode cX9_number 24 = .ok (.iadd, 1) := by decide +kernel
theorem dX9_number_25 : decode cX9_number 25 = .ok (.bipush 48, 2) := by decide +kernel
theorem dX9_number_27 : decode cX9_number 27 = .ok (.isub, 1) := by decide +kernel
theorem dX9_number_28 : decode cX9_number 28 = .ok (.istore_n 1, 1) := by decide +kernel
theorem dX9_number_29 : decode cX9_number 29 = .ok (.iinc 2 1, 3) := by decide +kernel
theorem dX9_number_32 : decode cX9_number 32 = .ok (.goto (-25), 3) := by decide +kernel
theorem dX9_number_35 : decode cX9_number 35 = .ok (.iload_n 1, 1) := by decide +kernel
theorem dX9_number_36 : decode cX9_number 36 = .ok (.ireturn, 1) := by decide +kernel
abbrev cX9_isBlank : ByteArray := prog_11_method_20_code
def yX9_isBlank : MethodName := ⟨"DayTongues$Tape", "isBlank", "(I)Z"⟩
def mX9_isBlank : dt_MD := (yX9_isBlank, cX9_isBlank, 1, some .boolean)
theorem dX9_isBlank_0 : decode cX9_isBlank 0 = .ok (.iload_n 0, 1) := by decide +kernel
theorem dX9_isBlank_1 : decode cX9_isBlank 1 = .ok (.bipush 32, 2) := by decide +kernel
theorem dX9_isBlank_3 : decode cX9_isBlank 3 = .ok (.if_icmp .eq 9, 3) := by decide +kernel
theorem dX9_isBlank_6 : decode cX9_isBlank 6 = .ok (.iload_n 0, 1) := by decide +kernel
theorem dX9_isBlank_7 : decode cX9_isBlank 7 = .ok (.bipush 10, 2) := by decide +kernel
theorem dX9_isBlank_9 : decode cX9_isBlank 9 = .ok (.if_icmp .ne 7, 3) := by decide +kernel
theorem dX9_isBlank_12 : decode cX9_isBlank 12 = .ok (.iconst 1, 1) := by decide +kernel
theorem dX9_isBlank_13 : decode cX9_isBlank 13 = .ok (.goto 4, 3) := by decide +kernel
theorem dX9_isBlank_16 : decode cX9_isBlank 16 = .ok (.iconst 0, 1) := by decide +kernel
theorem dX9_isBlank_17 : decode cX9_isBlank 17 = .ok (.ireturn, 1) := by decide +kernel
abbrev cX9_isLetter : ByteArray := prog_11_method_21_code
def yX9_isLetter : MethodName := ⟨"DayTongues$Tape", "isLetter", "(I)Z"⟩
def mX9_isLetter : dt_MD := (yX9_isLetter, cX9_isLetter, 1, some .boolean)
theorem dX9_isLetter_0 : decode cX9_isLetter 0 = .ok (.bipush 97, 2) := by decide +kernel
theorem dX9_isLetter_2 : decode cX9_isLetter 2 = .ok (.iload_n 0, 1) := by decide +kernel
theorem dX9_isLetter_3 : decode cX9_isLetter 3 = .ok (.if_icmp .gt 13, 3) := by decide +kernel
theorem dX9_isLetter_6 : decode cX9_isLetter 6 = .ok (.iload_n 0, 1) := by decide +kernel
theorem dX9_isLetter_7 : decode cX9_isLetter 7 = .ok (.bipush 122, 2) := by decide +kernel
theorem dX9_isLetter_9 : decode cX9_isLetter 9 = .ok (.if_icmp .gt 7, 3) := by decide +kernel
theorem dX9_isLetter_12 : decode cX9_isLetter 12 = .ok (.iconst 1, 1) := by decide +kernel
theorem dX9_isLetter_13 : decode cX9_isLetter 13 = .ok (.goto 4, 3) := by decide +kernel
theorem dX9_isLetter_16 : decode cX9_isLetter 16 = .ok (.iconst 0, 1) := by decide +kernel
theorem dX9_isLetter_17 : decode cX9_isLetter 17 = .ok (.ireturn, 1) := by decide +kernel
abbrev cX9_isFigure : ByteArray := prog_11_method_22_code
def yX9_isFigure : MethodName := ⟨"DayTongues$Tape", "isFigure", "(I)Z"⟩
def mX9_isFigure : dt_MD := (yX9_isFigure, cX9_isFigure, 1, some .boolean)
theorem dX9_isFigure_0 : decode cX9_isFigure 0 = .ok (.bipush 48, 2) := by decide +kernel
theorem dX9_isFigure_2 : decode cX9_isFigure 2 = .ok (.iload_n 0, 1) := by decide +kernel
theorem dX9_isFigure_3 : decode cX9_isFigure 3 = .ok (.if_icmp .gt 13, 3) := by decide +kernel
theorem dX9_isFigure_6 : decode cX9_isFigure 6 = .ok (.iload_n 0, 1) := by decide +kernel
theorem dX9_isFigure_7 : decode cX9_isFigure 7 = .ok (.bipush 57, 2) := by decide +kernel
theorem dX9_isFigure_9 : decode cX9_isFigure 9 = .ok (.if_icmp .gt 7, 3) := by decide +kernel
theorem dX9_isFigure_12 : decode cX9_isFigure 12 = .ok (.iconst 1, 1) := by decide +kernel
theorem dX9_isFigure_13 : decode cX9_isFigure 13 = .ok (.goto 4, 3) := by decide +kernel
theorem dX9_isFigure_16 : decode cX9_isFigure 16 = .ok (.iconst 0, 1) := by decide +kernel
theorem dX9_isFigure_17 : decode cX9_isFigure 17 = .ok (.ireturn, 1) := by decide +kernel
abbrev cJ6_bitCount_0f7a4 : ByteArray := prog_15_method_49_code
def yJ6_bitCount_0f7a4 : MethodName := ⟨"java/lang/Integer", "bitCount", "(I)I"⟩
def mJ6_bitCount_0f7a4 : dt_MD := (yJ6_bitCount_0f7a4, cJ6_bitCount_0f7a4, 1, some .int)
theorem dJ6_bitCount_0f7a4_0 : decode cJ6_bitCount_0f7a4 0 = .ok (.iload_n 0, 1) := by decide +kernel
theorem dJ6_bitCount_0f7a4_1 : decode cJ6_bitCount_0f7a4 1 = .ok (.iload_n 0, 1) := by decide +kernel
theorem dJ6_bitCount_0f7a4_2 : decode cJ6_bitCount_0f7a4 2 = .ok (.iconst 1, 1) := by decide +kernel
theorem dJ6_bitCount_0f7a4_3 : decode cJ6_bitCount_0f7a4 3 = .ok (.iushr, 1) := by decide +kernel
theorem dJ6_bitCount_0f7a4_4 : decode cJ6_bitCount_0f7a4 4 = .ok (.ldc_w 265, 3) := by decide +kernel
theorem dJ6_bitCount_0f7a4_7 : decode cJ6_bitCount_0f7a4 7 = .ok (.iand, 1) := by decide +kernel
theorem dJ6_bitCount_0f7a4_8 : decode cJ6_bitCount_0f7a4 8 = .ok (.isub, 1) := by decide +kernel
theorem dJ6_bitCount_0f7a4_9 : decode cJ6_bitCount_0f7a4 9 = .ok (.istore_n 0, 1) := by decide +kernel
theorem dJ6_bitCount_0f7a4_10 : decode cJ6_bitCount_0f7a4 10 = .ok (.iload_n 0, 1) := by decide +kernel
theorem dJ6_bitCount_0f7a4_11 : decode cJ6_bitCount_0f7a4 11 = .ok (.ldc_w 266, 3) := by decide +kernel
theorem dJ6_bitCount_0f7a4_14 : decode cJ6_bitCount_0f7a4 14 = .ok (.iand, 1) := by decide +kernel
theorem dJ6_bitCount_0f7a4_15 : decode cJ6_bitCount_0f7a4 15 = .ok (.iload_n 0, 1) := by decide +kernel
theorem dJ6_bitCount_0f7a4_16 : decode cJ6_bitCount_0f7a4 16 = .ok (.iconst 2, 1) := by decide +kernel
theorem dJ6_bitCount_0f7a4_17 : decode cJ6_bitCount_0f7a4 17 = .ok (.iushr, 1) := by decide +kernel
theorem dJ6_bitCount_0f7a4_18 : decode cJ6_bitCount_0f7a4 18 = .ok (.ldc_w 266, 3) := by decide +kernel
theorem dJ6_bitCount_0f7a4_21 : decode cJ6_bitCount_0f7a4 21 = .ok (.iand, 1) := by decide +kernel
theorem dJ6_bitCount_0f7a4_22 : decode cJ6_bitCount_0f7a4 22 = .ok (.iadd, 1) := by decide +kernel
theorem dJ6_bitCount_0f7a4_23 : decode cJ6_bitCount_0f7a4 23 = .ok (.istore_n 0, 1) := by decide +kernel
theorem dJ6_bitCount_0f7a4_24 : decode cJ6_bitCount_0f7a4 24 = .ok (.iload_n 0, 1) := by decide +kernel
theorem dJ6_bitCount_0f7a4_25 : decode cJ6_bitCount_0f7a4 25 = .ok (.iload_n 0, 1) := by decide +kernel
theorem dJ6_bitCount_0f7a4_26 : decode cJ6_bitCount_0f7a4 26 = .ok (.iconst 4, 1) := by decide +kernel
theorem dJ6_bitCount_0f7a4_27 : decode cJ6_bitCount_0f7a4 27 = .ok (.iushr, 1) := by decide +kernel
theorem dJ6_bitCount_0f7a4_28 : decode cJ6_bitCount_0f7a4 28 = .ok (.iadd, 1) := by decide +kernel
theorem dJ6_bitCount_0f7a4_29 : decode cJ6_bitCount_0f7a4 29 = .ok (.ldc_w 267, 3) := by decide +kernel
theorem dJ6_bitCount_0f7a4_32 : decode cJ6_bitCount_0f7a4 32 = .ok (.iand, 1) := by decide +kernel
theorem dJ6_bitCount_0f7a4_33 : decode cJ6_bitCount_0f7a4 33 = .ok (.istore_n 0, 1) := by decide +kernel
theorem dJ6_bitCount_0f7a4_34 : decode cJ6_bitCount_0f7a4 34 = .ok (.iload_n 0, 1) := by decide +kernel
theorem dJ6_bitCount_0f7a4_35 : decode cJ6_bitCount_0f7a4 35 = .ok (.iload_n 0, 1) := by decide +kernel
theorem dJ6_bitCount_0f7a4_36 : decode cJ6_bitCount_0f7a4 36 = .ok (.bipush 8, 2) := by decide +kernel
theorem dJ6_bitCount_0f7a4_38 : decode cJ6_bitCount_0f7a4 38 = .ok (.iushr, 1) := by decide +kernel
theorem dJ6_bitCount_0f7a4_39 : decode cJ6_bitCount_0f7a4 39 = .ok (.iadd, 1) := by decide +kernel
theorem dJ6_bitCount_0f7a4_40 : decode cJ6_bitCount_0f7a4 40 = .ok (.istore_n 0, 1) := by decide +kernel
theorem dJ6_bitCount_0f7a4_41 : decode cJ6_bitCount_0f7a4 41 = .ok (.iload_n 0, 1) := by decide +kernel
theorem dJ6_bitCount_0f7a4_42 : decode cJ6_bitCount_0f7a4 42 = .ok (.iload_n 0, 1) := by decide +kernel
theorem dJ6_bitCount_0f7a4_43 : decode cJ6_bitCount_0f7a4 43 = .ok (.bipush 16, 2) := by decide +kernel
theorem dJ6_bitCount_0f7a4_45 : decode cJ6_bitCount_0f7a4 45 = .ok (.iushr, 1) := by decide +kernel
theorem dJ6_bitCount_0f7a4_46 : decode cJ6_bitCount_0f7a4 46 = .ok (.iadd, 1) := by decide +kernel
theorem dJ6_bitCount_0f7a4_47 : decode cJ6_bitCount_0f7a4 47 = .ok (.istore_n 0, 1) := by decide +kernel
theorem dJ6_bitCount_0f7a4_48 : decode cJ6_bitCount_0f7a4 48 = .ok (.iload_n 0, 1) := by decide +kernel
theorem dJ6_bitCount_0f7a4_49 : decode cJ6_bitCount_0f7a4 49 = .ok (.bipush 63, 2) := by decide +kernel
theorem dJ6_bitCount_0f7a4_51 : decode cJ6_bitCount_0f7a4 51 = .ok (.iand, 1) := by decide +kernel
theorem dJ6_bitCount_0f7a4_52 : decode cJ6_bitCount_0f7a4 52 = .ok (.ireturn, 1) := by decide +kernel
abbrev cJ9_min_7cf53 : ByteArray := prog_16_method_69_code
def yJ9_min_7cf53 : MethodName := ⟨"java/lang/Math", "min", "(II)I"⟩
def mJ9_min_7cf53 : dt_MD := (yJ9_min_7cf53, cJ9_min_7cf53, 2, some .int)
theorem dJ9_min_7cf53_0 : decode cJ9_min_7cf53 0 = .ok (.iload_n 0, 1) := by decide +kernel
theorem dJ9_min_7cf53_1 : decode cJ9_min_7cf53 1 = .ok (.iload_n 1, 1) := by decide +kernel
theorem dJ9_min_7cf53_2 : decode cJ9_min_7cf53 2 = .ok (.if_icmp .gt 7, 3) := by decide +kernel
theorem dJ9_min_7cf53_5 : decode cJ9_min_7cf53 5 = .ok (.iload_n 0, 1) := by decide +kernel
theorem dJ9_min_7cf53_6 : decode cJ9_min_7cf53 6 = .ok (.goto 4, 3) := by decide +kernel
theorem dJ9_min_7cf53_9 : decode cJ9_min_7cf53 9 = .ok (.iload_n 1, 1) := by decide +kernel
theorem dJ9_min_7cf53_10 : decode cJ9_min_7cf53 10 = .ok (.ireturn, 1) := by decide +kernel
abbrev cJ0_length_8abf5 : ByteArray := prog_17_method_54_code
def yJ0_length_8abf5 : MethodName := ⟨"java/lang/String", "length", "()I"⟩
def mJ0_length_8abf5 : dt_MD := (yJ0_length_8abf5, cJ0_length_8abf5, 1, some .int)
theorem dJ0_length_8abf5_0 : decode cJ0_length_8abf5 0 = .ok (.aload_n 0, 1) := by decide +kernel
theorem dJ0_length_8abf5_1 : decode cJ0_length_8abf5 1 = .ok (.getfield 9, 3) := by decide +kernel
theorem dJ0_length_8abf5_4 : decode cJ0_length_8abf5 4 = .ok (.arraylength, 1) := by decide +kernel
theorem dJ0_length_8abf5_5 : decode cJ0_length_8abf5 5 = .ok (.aload_n 0, 1) := by decide +kernel
theorem dJ0_length_8abf5_6 : decode cJ0_length_8abf5 6 = .ok (.invokevirtual 335, 3) := by decide +kernel
theorem dJ0_length_8abf5_9 : decode cJ0_length_8abf5 9 = .ok (.ishr, 1) := by decide +kernel
theorem dJ0_length_8abf5_10 : decode cJ0_length_8abf5 10 = .ok (.ireturn, 1) := by decide +kernel
abbrev cJ0_charAt_5068e : ByteArray := prog_17_method_56_code
def yJ0_charAt_5068e : MethodName := ⟨"java/lang/String", "charAt", "(I)C"⟩
def mJ0_charAt_5068e : dt_MD := (yJ0_charAt_5068e, cJ0_charAt_5068e, 2, some .char)
theorem dJ0_charAt_5068e_0 : decode cJ0_charAt_5068e 0 = .ok (.aload_n 0, 1) := by decide +kernel
theorem dJ0_charAt_5068e_1 : decode cJ0_charAt_5068e 1 = .ok (.invokevirtual 492, 3) := by decide +kernel
theorem dJ0_charAt_5068e_4 : decode cJ0_charAt_5068e 4 = .ok (.ifCond .eq 12, 3) := by decide +kernel
theorem dJ0_charAt_5068e_7 : decode cJ0_charAt_5068e 7 = .ok (.aload_n 0, 1) := by decide +kernel
theorem dJ0_charAt_5068e_8 : decode cJ0_charAt_5068e 8 = .ok (.getfield 9, 3) := by decide +kernel
theorem dJ0_charAt_5068e_11 : decode cJ0_charAt_5068e 11 = .ok (.iload_n 1, 1) := by decide +kernel
theorem dJ0_charAt_5068e_12 : decode cJ0_charAt_5068e 12 = .ok (.invokestatic 495, 3) := by decide +kernel
theorem dJ0_charAt_5068e_15 : decode cJ0_charAt_5068e 15 = .ok (.ireturn, 1) := by decide +kernel
theorem dJ0_charAt_5068e_16 : decode cJ0_charAt_5068e 16 = .ok (.aload_n 0, 1) := by decide +kernel
theorem dJ0_charAt_5068e_17 : decode cJ0_charAt_5068e 17 = .ok (.getfield 9, 3) := by decide +kernel
theorem dJ0_charAt_5068e_20 : decode cJ0_charAt_5068e 20 = .ok (.iload_n 1, 1) := by decide +kernel
theorem dJ0_charAt_5068e_21 : decode cJ0_charAt_5068e 21 = .ok (.invokestatic 498, 3) := by decide +kernel
theorem dJ0_charAt_5068e_24 : decode cJ0_charAt_5068e 24 = .ok (.ireturn, 1) := by decide +kernel
abbrev cJ0_coder_7d493 : ByteArray := prog_17_method_152_code
def yJ0_coder_7d493 : MethodName := ⟨"java/lang/String", "coder", "()B"⟩
def mJ0_coder_7d493 : dt_MD := (yJ0_coder_7d493, cJ0_coder_7d493, 1, some .byte)
theorem dJ0_coder_7d493_0 : decode cJ0_coder_7d493 0 = .ok (.getstatic 38, 3) := by decide +kernel
theorem dJ0_coder_7d493_3 : decode cJ0_coder_7d493 3 = .ok (.ifCond .eq 10, 3) := by decide +kernel
theorem dJ0_coder_7d493_6 : decode cJ0_coder_7d493 6 = .ok (.aload_n 0, 1) := by decide +kernel
theorem dJ0_coder_7d493_7 : decode cJ0_coder_7d493 7 = .ok (.getfield 15, 3) := by decide +kernel
theorem dJ0_coder_7d493_10 : decode cJ0_coder_7d493 10 = .ok (.goto 4, 3) := by decide +kernel
theorem dJ0_coder_7d493_13 : decode cJ0_coder_7d493 13 = .ok (.iconst 1, 1) := by decide +kernel
theorem dJ0_coder_7d493_14 : decode cJ0_coder_7d493 14 = .ok (.ireturn, 1) := by decide +kernel
abbrev cJ0_isLatin1_aae02 : ByteArray := prog_17_method_154_code
def yJ0_isLatin1_aae02 : MethodName := ⟨"java/lang/String", "isLatin1", "()Z"⟩
def mJ0_isLatin1_aae02 : dt_MD := (yJ0_isLatin1_aae02, cJ0_isLatin1_aae02, 1, some .boolean)
theorem dJ0_isLatin1_aae02_0 : decode cJ0_isLatin1_aae02 0 = .ok (.getstatic 38, 3) := by decide +kernel
theorem dJ0_isLatin1_aae02_3 : decode cJ0_isLatin1_aae02 3 = .ok (.ifCond .eq 14, 3) := by decide +kernel
theorem dJ0_isLatin1_aae02_6 : decode cJ0_isLatin1_aae02 6 = .ok (.aload_n 0, 1) := by decide +kernel
theorem dJ0_isLatin1_aae02_7 : decode cJ0_isLatin1_aae02 7 = .ok (.getfield 15, 3) := by decide +kernel
theorem dJ0_isLatin1_aae02_10 : decode cJ0_isLatin1_aae02 10 = .ok (.ifCond .ne 7, 3) := by decide +kernel
theorem dJ0_isLatin1_aae02_13 : decode cJ0_isLatin1_aae02 13 = .ok (.iconst 1, 1) := by decide +kernel
theorem dJ0_isLatin1_aae02_14 : decode cJ0_isLatin1_aae02 14 = .ok (.goto 4, 3) := by decide +kernel
theorem dJ0_isLatin1_aae02_17 : decode cJ0_isLatin1_aae02 17 = .ok (.iconst 0, 1) := by decide +kernel
theorem dJ0_isLatin1_aae02_18 : decode cJ0_isLatin1_aae02 18 = .ok (.ireturn, 1) := by decide +kernel
abbrev cJ0_checkIndex_df160 : ByteArray := prog_17_method_155_code
def yJ0_checkIndex_df160 : MethodName := ⟨"java/lang/String", "checkIndex", "(II)V"⟩
def mJ0_checkIndex_df160 : dt_MD := (yJ0_checkIndex_df160, cJ0_checkIndex_df160, 2, none)
theorem dJ0_checkIndex_df160_0 : decode cJ0_checkIndex_df160 0 = .ok (.iload_n 0, 1) := by decide +kernel
theorem dJ0_checkIndex_df160_1 : decode cJ0_checkIndex_df160 1 = .ok (.iload_n 1, 1) := by decide +kernel
theorem dJ0_checkIndex_df160_2 : decode cJ0_checkIndex_df160 2 = .ok (.getstatic 1053, 3) := by decide +kernel
theorem dJ0_checkIndex_df160_5 : decode cJ0_checkIndex_df160 5 = .ok (.invokestatic 1059, 3) := by decide +kernel
theorem dJ0_checkIndex_df160_8 : decode cJ0_checkIndex_df160 8 = .ok (.pop, 1) := by decide +kernel
theorem dJ0_checkIndex_df160_9 : decode cJ0_checkIndex_df160 9 = .ok (.return_, 1) := by decide +kernel
abbrev cJ1_charAt_3b067 : ByteArray := prog_18_method_2_code
def yJ1_charAt_3b067 : MethodName := ⟨"java/lang/StringLatin1", "charAt", "([BI)C"⟩
def mJ1_charAt_3b067 : dt_MD := (yJ1_charAt_3b067, cJ1_charAt_3b067, 2, some .char)
theorem dJ1_charAt_3b067_0 : decode cJ1_charAt_3b067 0 = .ok (.iload_n 1, 1) := by decide +kernel
theorem dJ1_charAt_3b067_1 : decode cJ1_charAt_3b067 1 = .ok (.aload_n 0, 1) := by decide +kernel
theorem dJ1_charAt_3b067_2 : decode cJ1_charAt_3b067 2 = .ok (.arraylength, 1) := by decide +kernel
theorem dJ1_charAt_3b067_3 : decode cJ1_charAt_3b067 3 = .ok (.invokestatic 9, 3) := by decide +kernel
theorem dJ1_charAt_3b067_6 : decode cJ1_charAt_3b067 6 = .ok (.aload_n 0, 1) := by decide +kernel
theorem dJ1_charAt_3b067_7 : decode cJ1_charAt_3b067 7 = .ok (.iload_n 1, 1) := by decide +kernel
theorem dJ1_charAt_3b067_8 : decode cJ1_charAt_3b067 8 = .ok (.baload, 1) := by decide +kernel
theorem dJ1_charAt_3b067_9 : decode cJ1_charAt_3b067 9 = .ok (.sipush 255, 3) := by decide +kernel
theorem dJ1_charAt_3b067_12 : decode cJ1_charAt_3b067 12 = .ok (.iand, 1) := by decide +kernel
theorem dJ1_charAt_3b067_13 : decode cJ1_charAt_3b067 13 = .ok (.i2c, 1) := by decide +kernel
theorem dJ1_charAt_3b067_14 : decode cJ1_charAt_3b067 14 = .ok (.ireturn, 1) := by decide +kernel
abbrev cJ2_getChar_3b067 : ByteArray := prog_19_method_5_code
def yJ2_getChar_3b067 : MethodName := ⟨"java/lang/StringUTF16", "getChar", "([BI)C"⟩
def mJ2_getChar_3b067 : dt_MD := (yJ2_getChar_3b067, cJ2_getChar_3b067, 2, some .char)
theorem dJ2_getChar_3b067_0 : decode cJ2_getChar_3b067 0 = .ok (.getstatic 44, 3) := by decide +kernel
theorem dJ2_getChar_3b067_3 : decode cJ2_getChar_3b067 3 = .ok (.ifCond .ne 25, 3) := by decide +kernel
theorem dJ2_getChar_3b067_6 : decode cJ2_getChar_3b067 6 = .ok (.iload_n 1, 1) := by decide +kernel
theorem dJ2_getChar_3b067_7 : decode cJ2_getChar_3b067 7 = .ok (.ifCond .lt 11, 3) := by decide +kernel
theorem dJ2_getChar_3b067_10 : decode cJ2_getChar_3b067 10 = .ok (.iload_n 1, 1) := by decide +kernel
theorem dJ2_getChar_3b067_11 : decode cJ2_getChar_3b067 11 = .ok (.aload_n 0, 1) := by decide +kernel
theorem dJ2_getChar_3b067_12 : decode cJ2_getChar_3b067 12 = .ok (.invokestatic 48, 3) := by decide +kernel
theorem dJ2_getChar_3b067_15 : decode cJ2_getChar_3b067 15 = .ok (.if_icmp .lt 13, 3) := by decide +kernel
theorem dJ2_getChar_3b067_18 : decode cJ2_getChar_3b067 18 = .ok (.new 52, 3) := by decide +kernel
theorem dJ2_getChar_3b067_21 : decode cJ2_getChar_3b067 21 = .ok (.dup, 1) := by decide +kernel
theorem dJ2_getChar_3b067_22 : decode cJ2_getChar_3b067 22 = .ok (.ldc 54, 2) := by decide +kernel
theorem dJ2_getChar_3b067_24 : decode cJ2_getChar_3b067 24 = .ok (.invokespecial 56, 3) := by decide +kernel
theorem dJ2_getChar_3b067_27 : decode cJ2_getChar_3b067 27 = .ok (.athrow, 1) := by decide +kernel
theorem dJ2_getChar_3b067_28 : decode cJ2_getChar_3b067 28 = .ok (.iload_n 1, 1) := by decide +kernel
theorem dJ2_getChar_3b067_29 : decode cJ2_getChar_3b067 29 = .ok (.iconst 1, 1) := by decide +kernel
theorem dJ2_getChar_3b067_30 : decode cJ2_getChar_3b067 30 = .ok (.ishl, 1) := by decide +kernel
theorem dJ2_getChar_3b067_31 : decode cJ2_getChar_3b067 31 = .ok (.istore_n 1, 1) := by decide +kernel
theorem dJ2_getChar_3b067_32 : decode cJ2_getChar_3b067 32 = .ok (.aload_n 0, 1) := by decide +kernel
theorem dJ2_getChar_3b067_33 : decode cJ2_getChar_3b067 33 = .ok (.iload_n 1, 1) := by decide +kernel
theorem dJ2_getChar_3b067_34 : decode cJ2_getChar_3b067 34 = .ok (.iinc 1 1, 3) := by decide +kernel
theorem dJ2_getChar_3b067_37 : decode cJ2_getChar_3b067 37 = .ok (.baload, 1) := by decide +kernel
theorem dJ2_getChar_3b067_38 : decode cJ2_getChar_3b067 38 = .ok (.sipush 255, 3) := by decide +kernel
theorem dJ2_getChar_3b067_41 : decode cJ2_getChar_3b067 41 = .ok (.iand, 1) := by decide +kernel
theorem dJ2_getChar_3b067_42 : decode cJ2_getChar_3b067 42 = .ok (.getstatic 59, 3) := by decide +kernel
theorem dJ2_getChar_3b067_45 : decode cJ2_getChar_3b067 45 = .ok (.ishl, 1) := by decide +kernel
theorem dJ2_getChar_3b067_46 : decode cJ2_getChar_3b067 46 = .ok (.aload_n 0, 1) := by decide +kernel
theorem dJ2_getChar_3b067_47 : decode cJ2_getChar_3b067 47 = .ok (.iload_n 1, 1) := by decide +kernel
theorem dJ2_getChar_3b067_48 : decode cJ2_getChar_3b067 48 = .ok (.baload, 1) := by decide +kernel
theorem dJ2_getChar_3b067_49 : decode cJ2_getChar_3b067 49 = .ok (.sipush 255, 3) := by decide +kernel
theorem dJ2_getChar_3b067_52 : decode cJ2_getChar_3b067 52 = .ok (.iand, 1) := by decide +kernel
theorem dJ2_getChar_3b067_53 : decode cJ2_getChar_3b067 53 = .ok (.getstatic 63, 3) := by decide +kernel
theorem dJ2_getChar_3b067_56 : decode cJ2_getChar_3b067 56 = .ok (.ishl, 1) := by decide +kernel
theorem dJ2_getChar_3b067_57 : decode cJ2_getChar_3b067 57 = .ok (.ior, 1) := by decide +kernel
theorem dJ2_getChar_3b067_58 : decode cJ2_getChar_3b067 58 = .ok (.i2c, 1) := by decide +kernel
theorem dJ2_getChar_3b067_59 : decode cJ2_getChar_3b067 59 = .ok (.ireturn, 1) := by decide +kernel
abbrev cJ2_length_9d52b : ByteArray := prog_19_method_6_code
def yJ2_length_9d52b : MethodName := ⟨"java/lang/StringUTF16", "length", "([B)I"⟩
def mJ2_length_9d52b : dt_MD := (yJ2_length_9d52b, cJ2_length_9d52b, 1, some .int)
theorem dJ2_length_9d52b_0 : decode cJ2_length_9d52b 0 = .ok (.aload_n 0, 1) := by decide +kernel
theorem dJ2_length_9d52b_1 : decode cJ2_length_9d52b 1 = .ok (.arraylength, 1) := by decide +kernel
theorem dJ2_length_9d52b_2 : decode cJ2_length_9d52b 2 = .ok (.iconst 1, 1) := by decide +kernel
theorem dJ2_length_9d52b_3 : decode cJ2_length_9d52b 3 = .ok (.ishr, 1) := by decide +kernel
theorem dJ2_length_9d52b_4 : decode cJ2_length_9d52b 4 = .ok (.ireturn, 1) := by decide +kernel
abbrev cJ2_charAt_3b067 : ByteArray := prog_19_method_83_code
def yJ2_charAt_3b067 : MethodName := ⟨"java/lang/StringUTF16", "charAt", "([BI)C"⟩
def mJ2_charAt_3b067 : dt_MD := (yJ2_charAt_3b067, cJ2_charAt_3b067, 2, some .char)
theorem dJ2_charAt_3b067_0 : decode cJ2_charAt_3b067 0 = .ok (.iload_n 1, 1) := by decide +kernel
theorem dJ2_charAt_3b067_1 : decode cJ2_charAt_3b067 1 = .ok (.aload_n 0, 1) := by decide +kernel
theorem dJ2_charAt_3b067_2 : decode cJ2_charAt_3b067 2 = .ok (.invokestatic 67, 3) := by decide +kernel
theorem dJ2_charAt_3b067_5 : decode cJ2_charAt_3b067 5 = .ok (.aload_n 0, 1) := by decide +kernel
theorem dJ2_charAt_3b067_6 : decode cJ2_charAt_3b067 6 = .ok (.iload_n 1, 1) := by decide +kernel
theorem dJ2_charAt_3b067_7 : decode cJ2_charAt_3b067 7 = .ok (.invokestatic 71, 3) := by decide +kernel
theorem dJ2_charAt_3b067_10 : decode cJ2_charAt_3b067 10 = .ok (.ireturn, 1) := by decide +kernel
abbrev cJ2_checkIndex_2214a : ByteArray := prog_19_method_91_code
def yJ2_checkIndex_2214a : MethodName := ⟨"java/lang/StringUTF16", "checkIndex", "(I[B)V"⟩
def mJ2_checkIndex_2214a : dt_MD := (yJ2_checkIndex_2214a, cJ2_checkIndex_2214a, 2, none)
theorem dJ2_checkIndex_2214a_0 : decode cJ2_checkIndex_2214a 0 = .ok (.iload_n 0, 1) := by decide +kernel
theorem dJ2_checkIndex_2214a_1 : decode cJ2_checkIndex_2214a 1 = .ok (.aload_n 1, 1) := by decide +kernel
theorem dJ2_checkIndex_2214a_2 : decode cJ2_checkIndex_2214a 2 = .ok (.invokestatic 48, 3) := by decide +kernel
theorem dJ2_checkIndex_2214a_5 : decode cJ2_checkIndex_2214a 5 = .ok (.invokestatic 414, 3) := by decide +kernel
theorem dJ2_checkIndex_2214a_8 : decode cJ2_checkIndex_2214a 8 = .ok (.return_, 1) := by decide +kernel
abbrev cJ3_checkIndex_8e157 : ByteArray := prog_21_method_11_code
def yJ3_checkIndex_8e157 : MethodName := ⟨"jdk/internal/util/Preconditions", "checkIndex", "(IILjava/util/function/BiFunction;)I"⟩
def mJ3_checkIndex_8e157 : dt_MD := (yJ3_checkIndex_8e157, cJ3_checkIndex_8e157, 3, some .int)
theorem dJ3_checkIndex_8e157_0 : decode cJ3_checkIndex_8e157 0 = .ok (.iload_n 0, 1) := by decide +kernel
theorem dJ3_checkIndex_8e157_1 : decode cJ3_checkIndex_8e157 1 = .ok (.ifCond .lt 8, 3) := by decide +kernel
theorem dJ3_checkIndex_8e157_4 : decode cJ3_checkIndex_8e157 4 = .ok (.iload_n 0, 1) := by decide +kernel
theorem dJ3_checkIndex_8e157_5 : decode cJ3_checkIndex_8e157 5 = .ok (.iload_n 1, 1) := by decide +kernel
theorem dJ3_checkIndex_8e157_6 : decode cJ3_checkIndex_8e157 6 = .ok (.if_icmp .lt 10, 3) := by decide +kernel
theorem dJ3_checkIndex_8e157_9 : decode cJ3_checkIndex_8e157 9 = .ok (.aload_n 2, 1) := by decide +kernel
theorem dJ3_checkIndex_8e157_10 : decode cJ3_checkIndex_8e157 10 = .ok (.iload_n 0, 1) := by decide +kernel
theorem dJ3_checkIndex_8e157_11 : decode cJ3_checkIndex_8e157 11 = .ok (.iload_n 1, 1) := by decide +kernel
theorem dJ3_checkIndex_8e157_12 : decode cJ3_checkIndex_8e157 12 = .ok (.invokestatic 95, 3) := by decide +kernel
theorem dJ3_checkIndex_8e157_15 : decode cJ3_checkIndex_8e157 15 = .ok (.athrow, 1) := by decide +kernel
theorem dJ3_checkIndex_8e157_16 : decode cJ3_checkIndex_8e157 16 = .ok (.iload_n 0, 1) := by decide +kernel
theorem dJ3_checkIndex_8e157_17 : decode cJ3_checkIndex_8e157 17 = .ok (.ireturn, 1) := by decide +kernel
