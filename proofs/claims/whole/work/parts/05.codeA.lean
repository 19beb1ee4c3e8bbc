abbrev cX0_init : ByteArray := prog_2_method_1_code
def yX0_init : MethodName := ⟨"DayTongues$CountingWord", "<init>", "(III)V"⟩
def mX0_init : dt_MD := (yX0_init, cX0_init, 4, none)
theorem dX0_init_0 : decode cX0_init 0 = .ok (.aload_n 0, 1) := by decide +kernel
theorem dX0_init_1 : decode cX0_init 1 = .ok (.iload_n 1, 1) := by decide +kernel
theorem dX0_init_2 : decode cX0_init 2 = .ok (.iload_n 2, 1) := by decide +kernel
theorem dX0_init_3 : decode cX0_init 3 = .ok (.iload_n 3, 1) := by decide +kernel
theorem dX0_init_4 : decode cX0_init 4 = .ok (.invokespecial 1, 3) := by decide +kernel
theorem dX0_init_7 : decode cX0_init 7 = .ok (.return_, 1) := by decide +kernel
abbrev cX0_mark : ByteArray := prog_2_method_2_code
def yX0_mark : MethodName := ⟨"DayTongues$CountingWord", "mark", "()I"⟩
def mX0_mark : dt_MD := (yX0_mark, cX0_mark, 1, some .int)
theorem dX0_mark_0 : decode cX0_mark 0 = .ok (.aload_n 0, 1) := by decide +kernel
theorem dX0_mark_1 : decode cX0_mark 1 = .ok (.bipush 22, 2) := by decide +kernel
theorem dX0_mark_3 : decode cX0_mark 3 = .ok (.invokevirtual 7, 3) := by decide +kernel
theorem dX0_mark_6 : decode cX0_mark 6 = .ok (.aload_n 0, 1) := by decide +kernel
theorem dX0_mark_7 : decode cX0_mark 7 = .ok (.invokespecial 13, 3) := by decide +kernel
theorem dX0_mark_10 : decode cX0_mark 10 = .ok (.sipush 1000, 3) := by decide +kernel
theorem dX0_mark_13 : decode cX0_mark 13 = .ok (.iadd, 1) := by decide +kernel
theorem dX0_mark_14 : decode cX0_mark 14 = .ok (.ireturn, 1) := by decide +kernel
abbrev cX1_init : ByteArray := prog_3_method_1_code
def yX1_init : MethodName := ⟨"DayTongues$DoubleWord", "<init>", "(III)V"⟩
def mX1_init : dt_MD := (yX1_init, cX1_init, 4, none)
theorem dX1_init_0 : decode cX1_init 0 = .ok (.aload_n 0, 1) := by decide +kernel
theorem dX1_init_1 : decode cX1_init 1 = .ok (.iload_n 1, 1) := by decide +kernel
theorem dX1_init_2 : decode cX1_init 2 = .ok (.iload_n 2, 1) := by decide +kernel
theorem dX1_init_3 : decode cX1_init 3 = .ok (.invokespecial 1, 3) := by decide +kernel
theorem dX1_init_6 : decode cX1_init 6 = .ok (.aload_n 0, 1) := by decide +kernel
theorem dX1_init_7 : decode cX1_init 7 = .ok (.iload_n 3, 1) := by decide +kernel
theorem dX1_init_8 : decode cX1_init 8 = .ok (.putfield 7, 3) := by decide +kernel
theorem dX1_init_11 : decode cX1_init 11 = .ok (.return_, 1) := by decide +kernel
abbrev cX1_size : ByteArray := prog_3_method_2_code
def yX1_size : MethodName := ⟨"DayTongues$DoubleWord", "size", "()I"⟩
def mX1_size : dt_MD := (yX1_size, cX1_size, 1, some .int)
theorem dX1_size_0 : decode cX1_size 0 = .ok (.aload_n 0, 1) := by decide +kernel
theorem dX1_size_1 : decode cX1_size 1 = .ok (.bipush 13, 2) := by decide +kernel
theorem dX1_size_3 : decode cX1_size 3 = .ok (.invokevirtual 13, 3) := by decide +kernel
theorem dX1_size_6 : decode cX1_size 6 = .ok (.aload_n 0, 1) := by decide +kernel
theorem dX1_size_7 : decode cX1_size 7 = .ok (.invokespecial 17, 3) := by decide +kernel
theorem dX1_size_10 : decode cX1_size 10 = .ok (.aload_n 0, 1) := by decide +kernel
theorem dX1_size_11 : decode cX1_size 11 = .ok (.invokevirtual 21, 3) := by decide +kernel
theorem dX1_size_14 : decode cX1_size 14 = .ok (.isub, 1) := by decide +kernel
theorem dX1_size_15 : decode cX1_size 15 = .ok (.ireturn, 1) := by decide +kernel
abbrev cX1_mark : ByteArray := prog_3_method_3_code
def yX1_mark : MethodName := ⟨"DayTongues$DoubleWord", "mark", "()I"⟩
def mX1_mark : dt_MD := (yX1_mark, cX1_mark, 1, some .int)
theorem dX1_mark_0 : decode cX1_mark 0 = .ok (.aload_n 0, 1) := by decide +kernel
theorem dX1_mark_1 : decode cX1_mark 1 = .ok (.bipush 23, 2) := by decide +kernel
theorem dX1_mark_3 : decode cX1_mark 3 = .ok (.invokevirtual 13, 3) := by decide +kernel
theorem dX1_mark_6 : decode cX1_mark 6 = .ok (.aload_n 0, 1) := by decide +kernel
theorem dX1_mark_7 : decode cX1_mark 7 = .ok (.invokespecial 24, 3) := by decide +kernel
theorem dX1_mark_10 : decode cX1_mark 10 = .ok (.aload_n 0, 1) := by decide +kernel
theorem dX1_mark_11 : decode cX1_mark 11 = .ok (.getfield 7, 3) := by decide +kernel
theorem dX1_mark_14 : decode cX1_mark 14 = .ok (.isub, 1) := by decide +kernel
theorem dX1_mark_15 : decode cX1_mark 15 = .ok (.ireturn, 1) := by decide +kernel
abbrev cX2_init : ByteArray := prog_4_method_1_code
def yX2_init : MethodName := ⟨"DayTongues$LentWord", "<init>", "(III)V"⟩
def mX2_init : dt_MD := (yX2_init, cX2_init, 4, none)
theorem dX2_init_0 : decode cX2_init 0 = .ok (.aload_n 0, 1) := by decide +kernel
theorem dX2_init_1 : decode cX2_init 1 = .ok (.iload_n 1, 1) := by decide +kernel
theorem dX2_init_2 : decode cX2_init 2 = .ok (.iload_n 2, 1) := by decide +kernel
theorem dX2_init_3 : decode cX2_init 3 = .ok (.iload_n 3, 1) := by decide +kernel
theorem dX2_init_4 : decode cX2_init 4 = .ok (.invokespecial 1, 3) := by decide +kernel
theorem dX2_init_7 : decode cX2_init 7 = .ok (.return_, 1) := by decide +kernel
abbrev cX2_size : ByteArray := prog_4_method_2_code
def yX2_size : MethodName := ⟨"DayTongues$LentWord", "size", "()I"⟩
def mX2_size : dt_MD := (yX2_size, cX2_size, 1, some .int)
theorem dX2_size_0 : decode cX2_size 0 = .ok (.aload_n 0, 1) := by decide +kernel
theorem dX2_size_1 : decode cX2_size 1 = .ok (.bipush 12, 2) := by decide +kernel
theorem dX2_size_3 : decode cX2_size 3 = .ok (.invokevirtual 7, 3) := by decide +kernel
theorem dX2_size_6 : decode cX2_size 6 = .ok (.iconst 0, 1) := by decide +kernel
theorem dX2_size_7 : decode cX2_size 7 = .ok (.aload_n 0, 1) := by decide +kernel
theorem dX2_size_8 : decode cX2_size 8 = .ok (.invokespecial 13, 3) := by decide +kernel
theorem dX2_size_11 : decode cX2_size 11 = .ok (.isub, 1) := by decide +kernel
theorem dX2_size_12 : decode cX2_size 12 = .ok (.ireturn, 1) := by decide +kernel
abbrev cX2_mark : ByteArray := prog_4_method_3_code
def yX2_mark : MethodName := ⟨"DayTongues$LentWord", "mark", "()I"⟩
def mX2_mark : dt_MD := (yX2_mark, cX2_mark, 1, some .int)
theorem dX2_mark_0 : decode cX2_mark 0 = .ok (.aload_n 0, 1) := by decide +kernel
theorem dX2_mark_1 : decode cX2_mark 1 = .ok (.bipush 24, 2) := by decide +kernel
theorem dX2_mark_3 : decode cX2_mark 3 = .ok (.invokevirtual 7, 3) := by decide +kernel
theorem dX2_mark_6 : decode cX2_mark 6 = .ok (.iconst 2, 1) := by decide +kernel
theorem dX2_mark_7 : decode cX2_mark 7 = .ok (.aload_n 0, 1) := by decide +kernel
theorem dX2_mark_8 : decode cX2_mark 8 = .ok (.invokespecial 17, 3) := by decide +kernel
theorem dX2_mark_11 : decode cX2_mark 11 = .ok (.imul, 1) := by decide +kernel
theorem dX2_mark_12 : decode cX2_mark 12 = .ok (.ireturn, 1) := by decide +kernel
abbrev cX3_init : ByteArray := prog_5_method_1_code
def yX3_init : MethodName := ⟨"DayTongues$OathWord", "<init>", "(III)V"⟩
def mX3_init : dt_MD := (yX3_init, cX3_init, 4, none)
theorem dX3_init_0 : decode cX3_init 0 = .ok (.aload_n 0, 1) := by decide +kernel
theorem dX3_init_1 : decode cX3_init 1 = .ok (.iload_n 1, 1) := by decide +kernel
theorem dX3_init_2 : decode cX3_init 2 = .ok (.iload_n 2, 1) := by decide +kernel
theorem dX3_init_3 : decode cX3_init 3 = .ok (.iload_n 3, 1) := by decide +kernel
theorem dX3_init_4 : decode cX3_init 4 = .ok (.invokespecial 1, 3) := by decide +kernel
theorem dX3_init_7 : decode cX3_init 7 = .ok (.return_, 1) := by decide +kernel
abbrev cX3_size : ByteArray := prog_5_method_2_code
def yX3_size : MethodName := ⟨"DayTongues$OathWord", "size", "()I"⟩
def mX3_size : dt_MD := (yX3_size, cX3_size, 1, some .int)
theorem dX3_size_0 : decode cX3_size 0 = .ok (.aload_n 0, 1) := by decide +kernel
theorem dX3_size_1 : decode cX3_size 1 = .ok (.bipush 14, 2) := by decide +kernel
theorem dX3_size_3 : decode cX3_size 3 = .ok (.invokevirtual 7, 3) := by decide +kernel
theorem dX3_size_6 : decode cX3_size 6 = .ok (.iconst 2, 1) := by decide +kernel
theorem dX3_size_7 : decode cX3_size 7 = .ok (.aload_n 0, 1) := by decide +kernel
theorem dX3_size_8 : decode cX3_size 8 = .ok (.invokespecial 13, 3) := by decide +kernel
theorem dX3_size_11 : decode cX3_size 11 = .ok (.imul, 1) := by decide +kernel
theorem dX3_size_12 : decode cX3_size 12 = .ok (.ireturn, 1) := by decide +kernel
abbrev cX5_init : ByteArray := prog_7_method_1_code
def yX5_init : MethodName := ⟨"DayTongues$PlainWord", "<init>", "(III)V"⟩
def mX5_init : dt_MD := (yX5_init, cX5_init, 4, none)
theorem dX5_init_0 : decode cX5_init 0 = .ok (.aload_n 0, 1) := by decide +kernel
theorem dX5_init_1 : decode cX5_init 1 = .ok (.iload_n 1, 1) := by decide +kernel
theorem dX5_init_2 : decode cX5_init 2 = .ok (.iload_n 2, 1) := by decide +kernel
theorem dX5_init_3 : decode cX5_init 3 = .ok (.invokespecial 1, 3) := by decide +kernel
theorem dX5_init_6 : decode cX5_init 6 = .ok (.aload_n 0, 1) := by decide +kernel
theorem dX5_init_7 : decode cX5_init 7 = .ok (.iload_n 3, 1) := by decide +kernel
theorem dX5_init_8 : decode cX5_init 8 = .ok (.putfield 7, 3) := by decide +kernel
theorem dX5_init_11 : decode cX5_init 11 = .ok (.return_, 1) := by decide +kernel
abbrev cX5_size : ByteArray := prog_7_method_2_code
def yX5_size : MethodName := ⟨"DayTongues$PlainWord", "size", "()I"⟩
def mX5_size : dt_MD := (yX5_size, cX5_size, 1, some .int)
theorem dX5_size_0 : decode cX5_size 0 = .ok (.aload_n 0, 1) := by decide +kernel
theorem dX5_size_1 : decode cX5_size 1 = .ok (.bipush 11, 2) := by decide +kernel
theorem dX5_size_3 : decode cX5_size 3 = .ok (.invokevirtual 13, 3) := by decide +kernel
theorem dX5_size_6 : decode cX5_size 6 = .ok (.aload_n 0, 1) := by decide +kernel
theorem dX5_size_7 : decode cX5_size 7 = .ok (.invokespecial 17, 3) := by decide +kernel
theorem dX5_size_10 : decode cX5_size 10 = .ok (.aload_n 0, 1) := by decide +kernel
theorem dX5_size_11 : decode cX5_size 11 = .ok (.invokevirtual 21, 3) := by decide +kernel
theorem dX5_size_14 : decode cX5_size 14 = .ok (.iadd, 1) := by decide +kernel
theorem dX5_size_15 : decode cX5_size 15 = .ok (.ireturn, 1) := by decide +kernel
abbrev cX5_mark : ByteArray := prog_7_method_3_code
def yX5_mark : MethodName := ⟨"DayTongues$PlainWord", "mark", "()I"⟩
def mX5_mark : dt_MD := (yX5_mark, cX5_mark, 1, some .int)
theorem dX5_mark_0 : decode cX5_mark 0 = .ok (.aload_n 0, 1) := by decide +kernel
theorem dX5_mark_1 : decode cX5_mark 1 = .ok (.bipush 21, 2) := by decide +kernel
theorem dX5_mark_3 : decode cX5_mark 3 = .ok (.invokevirtual 13, 3) := by decide +kernel
theorem dX5_mark_6 : decode cX5_mark 6 = .ok (.aload_n 0, 1) := by decide +kernel
theorem dX5_mark_7 : decode cX5_mark 7 = .ok (.invokespecial 24, 3) := by decide +kernel
theorem dX5_mark_10 : decode cX5_mark 10 = .ok (.aload_n 0, 1) := by decide +kernel
theorem dX5_mark_11 : decode cX5_mark 11 = .ok (.getfield 7, 3) := by decide +kernel
theorem dX5_mark_14 : decode cX5_mark 14 = .ok (.iadd, 1) := by decide +kernel
theorem dX5_mark_15 : decode cX5_mark 15 = .ok (.ireturn, 1) := by decide +kernel
abbrev cX10_init : ByteArray := prog_12_method_1_code
def yX10_init : MethodName := ⟨"DayTongues$Word", "<init>", "(II)V"⟩
def mX10_init : dt_MD := (yX10_init, cX10_init, 3, none)
theorem dX10_init_0 : decode cX10_init 0 = .ok (.aload_n 0, 1) := by decide +kernel
theorem dX10_init_1 : decode cX10_init 1 = .ok (.invokespecial 3, 3) := by decide +kernel
theorem dX10_init_4 : decode cX10_init 4 = .ok (.aload_n 0, 1) := by decide +kernel
theorem dX10_init_5 : decode cX10_init 5 = .ok (.iload_n 1, 1) := by decide +kernel
theorem dX10_init_6 : decode cX10_init 6 = .ok (.putfield 9, 3) := by decide +kernel
theorem dX10_init_9 : decode cX10_init 9 = .ok (.aload_n 0, 1) := by decide +kernel
theorem dX10_init_10 : decode cX10_init 10 = .ok (.iload_n 2, 1) := by decide +kernel
theorem dX10_init_11 : decode cX10_init 11 = .ok (.putfield 15, 3) := by decide +kernel
theorem dX10_init_14 : decode cX10_init 14 = .ok (.aload_n 0, 1) := by decide +kernel
theorem dX10_init_15 : decode cX10_init 15 = .ok (.bipush 16, 2) := by decide +kernel
theorem dX10_init_17 : decode cX10_init 17 = .ok (.newarray .int, 2) := by decide +kernel
theorem dX10_init_19 : decode cX10_init 19 = .ok (.putfield 18, 3) := by decide +kernel
theorem dX10_init_22 : decode cX10_init 22 = .ok (.aload_n 0, 1) := by decide +kernel
theorem dX10_init_23 : decode cX10_init 23 = .ok (.iconst 0, 1) := by decide +kernel
theorem dX10_init_24 : decode cX10_init 24 = .ok (.putfield 22, 3) := by decide +kernel
theorem dX10_init_27 : decode cX10_init 27 = .ok (.return_, 1) := by decide +kernel
abbrev cX10_size : ByteArray := prog_12_method_2_code
def yX10_size : MethodName := ⟨"DayTongues$Word", "size", "()I"⟩
def mX10_size : dt_MD := (yX10_size, cX10_size, 1, some .int)
theorem dX10_size_0 : decode cX10_size 0 = .ok (.aload_n 0, 1) := by decide +kernel
theorem dX10_size_1 : decode cX10_size 1 = .ok (.bipush 10, 2) := by decide +kernel
theorem dX10_size_3 : decode cX10_size 3 = .ok (.invokevirtual 25, 3) := by decide +kernel
theorem dX10_size_6 : decode cX10_size 6 = .ok (.aload_n 0, 1) := by decide +kernel
theorem dX10_size_7 : decode cX10_size 7 = .ok (.getfield 15, 3) := by decide +kernel
theorem dX10_size_10 : decode cX10_size 10 = .ok (.ireturn, 1) := by decide +kernel
abbrev cX10_mark : ByteArray := prog_12_method_3_code
def yX10_mark : MethodName := ⟨"DayTongues$Word", "mark", "()I"⟩
def mX10_mark : dt_MD := (yX10_mark, cX10_mark, 1, some .int)
theorem dX10_mark_0 : decode cX10_mark 0 = .ok (.aload_n 0, 1) := by decide +kernel
theorem dX10_mark_1 : decode cX10_mark 1 = .ok (.bipush 20, 2) := by decide +kernel
theorem dX10_mark_3 : decode cX10_mark 3 = .ok (.invokevirtual 25, 3) := by decide +kernel
theorem dX10_mark_6 : decode cX10_mark 6 = .ok (.aload_n 0, 1) := by decide +kernel
theorem dX10_mark_7 : decode cX10_mark 7 = .ok (.getfield 9, 3) := by decide +kernel
theorem dX10_mark_10 : decode cX10_mark 10 = .ok (.ireturn, 1) := by decide +kernel
abbrev cX10_leave : ByteArray := prog_12_method_4_code
def yX10_leave : MethodName := ⟨"DayTongues$Word", "leave", "(I)V"⟩
def mX10_leave : dt_MD := (yX10_leave, cX10_leave, 2, none)
theorem dX10_leave_0 : decode cX10_leave 0 = .ok (.aload_n 0, 1) := by decide +kernel
theorem dX10_leave_1 : decode cX10_leave 1 = .ok (.getfield 22, 3) := by decide +kernel
theorem dX10_leave_4 : decode cX10_leave 4 = .ok (.bipush 16, 2) := by decide +kernel
theorem dX10_leave_6 : decode cX10_leave 6 = .ok (.if_icmp .ge 23, 3) := by decide +kernel
theorem dX10_leave_9 : decode cX10_leave 9 = .ok (.aload_n 0, 1) := by decide +kernel
theorem dX10_leave_10 : decode cX10_leave 10 = .ok (.getfield 18, 3) := by decide +kernel
theorem dX10_leave_13 : decode cX10_leave 13 = .ok (.aload_n 0, 1) := by decide +kernel
theorem dX10_leave_14 : decode cX10_leave 14 = .ok (.getfield 22, 3) := by decide +kernel
theorem dX10_leave_17 : decode cX10_leave 17 = .ok (.iload_n 1, 1) := by decide +kernel
theorem dX10_leave_18 : decode cX10_leave 18 = .ok (.iastore, 1) := by decide +kernel
theorem dX10_leave_19 : decode cX10_leave 19 = .ok (.aload_n 0, 1) := by decide +kernel
theorem dX10_leave_20 : decode cX10_leave 20 = .ok (.dup, 1) := by decide +kernel
theorem dX10_leave_21 : decode cX10_leave 21 = .ok (.getfield 22, 3) := by decide +kernel
theorem dX10_leave_24 : decode cX10_leave 24 = .ok (.iconst 1, 1) := by decide +kernel
theorem dX10_leave_25 : decode cX10_leave 25 = .ok (.iadd, 1) := by decide +kernel
theorem dX10_leave_26 : decode cX10_leave 26 = .ok (.putfield 22, 3) := by decide +kernel
theorem dX10_leave_29 : decode cX10_leave 29 = .ok (.return_, 1) := by decide +kernel
abbrev cX10_step : ByteArray := prog_12_method_5_code
def yX10_step : MethodName := ⟨"DayTongues$Word", "step", "(I)I"⟩
def mX10_step : dt_MD := (yX10_step, cX10_step, 2, some .int)
theorem dX10_step_0 : decode cX10_step 0 = .ok (.iconst 0, 1) := by decide +kernel
theorem dX10_step_1 : decode cX10_step 1 = .ok (.iload_n 1, 1) := by decide +kernel
theorem dX10_step_2 : decode cX10_step 2 = .ok (.if_icmp .gt 26, 3) := by decide +kernel
theorem dX10_step_5 : decode cX10_step 5 = .ok (.iload_n 1, 1) := by decide +kernel
theorem dX10_step_6 : decode cX10_step 6 = .ok (.aload_n 0, 1) := by decide +kernel
theorem dX10_step_7 : decode cX10_step 7 = .ok (.getfield 22, 3) := by decide +kernel
theorem dX10_step_10 : decode cX10_step 10 = .ok (.if_icmp .ge 18, 3) := by decide +kernel
theorem dX10_step_13 : decode cX10_step 13 = .ok (.iload_n 1, 1) := by decide +kernel
theorem dX10_step_14 : decode cX10_step 14 = .ok (.bipush 16, 2) := by decide +kernel
theorem dX10_step_16 : decode cX10_step 16 = .ok (.if_icmp .ge 12, 3) := by decide +kernel
theorem dX10_step_19 : decode cX10_step 19 = .ok (.aload_n 0, 1) := by decide +kernel
theorem dX10_step_20 : decode cX10_step 20 = .ok (.getfield 18, 3) := by decide +kernel
theorem dX10_step_23 : decode cX10_step 23 = .ok (.iload_n 1, 1) := by decide +kernel
theorem dX10_step_24 : decode cX10_step 24 = .ok (.iaload, 1) := by decide +kernel
theorem dX10_step_25 : decode cX10_step 25 = .ok (.goto 5, 3) := by decide +kernel
theorem dX10_step_28 : decode cX10_step 28 = .ok (.ldc 29, 2) := by decide +kernel
theorem dX10_step_30 : decode cX10_step 30 = .ok (.ireturn, 1) := by decide +kernel
abbrev cX4_init : ByteArray := prog_6_method_1_code
def yX4_init : MethodName := ⟨"DayTongues$People", "<init>", "(LDayTongues$Port;)V"⟩
def mX4_init : dt_MD := (yX4_init, cX4_init, 2, none)
theorem dX4_init_0 : decode cX4_init 0 = .ok (.aload_n 0, 1) := by decide +kernel
theorem dX4_init_1 : decode cX4_init 1 = .ok (.invokespecial 3, 3) := by decide +kernel
theorem dX4_init_4 : decode cX4_init 4 = .ok (.aload_n 0, 1) := by decide +kernel
theorem dX4_init_5 : decode cX4_init 5 = .ok (.aload_n 1, 1) := by decide +kernel
theorem dX4_init_6 : decode cX4_init 6 = .ok (.putfield 9, 3) := by decide +kernel
theorem dX4_init_9 : decode cX4_init 9 = .ok (.return_, 1) := by decide +kernel
abbrev cX4_fewestBetween : ByteArray := prog_6_method_2_code
def yX4_fewestBetween : MethodName := ⟨"DayTongues$People", "fewestBetween", "(III)I"⟩
def mX4_fewestBetween : dt_MD := (yX4_fewestBetween, cX4_fewestBetween, 6, some .int)
theorem dX4_fewestBetween_0 : decode cX4_fewestBetween 0 = .ok (.iconst 1, 1) := by decide +kernel
theorem dX4_fewestBetween_1 : decode cX4_fewestBetween 1 = .ok (.iload_n 1, 1) := by decide +kernel
theorem dX4_fewestBetween_2 : decode cX4_fewestBetween 2 = .ok (.ishl, 1) := by decide +kernel
theorem dX4_fewestBetween_3 : decode cX4_fewestBetween 3 = .ok (.istore 4, 2) := by decide +kernel
theorem dX4_fewestBetween_5 : decode cX4_fewestBetween 5 = .ok (.iconst 0, 1) := by decide +kernel
theorem dX4_fewestBetween_6 : decode cX4_fewestBetween 6 = .ok (.istore 5, 2) := by decide +kernel
theorem dX4_fewestBetween_8 : decode cX4_fewestBetween 8 = .ok (.iload 5, 2) := by decide +kernel
theorem dX4_fewestBetween_10 : decode cX4_fewestBetween 10 = .ok (.bipush 8, 2) := by decide +kernel
theorem dX4_fewestBetween_12 : decode cX4_fewestBetween 12 = .ok (.if_icmp .gt 36, 3) := by decide +kernel
theorem dX4_fewestBetween_15 : decode cX4_fewestBetween 15 = .ok (.aload_n 0, 1) := by decide +kernel
theorem dX4_fewestBetween_16 : decode cX4_fewestBetween 16 = .ok (.getfield 9, 3) := by decide +kernel
theorem dX4_fewestBetween_19 : decode cX4_fewestBetween 19 = .ok (.iload_n 2, 1) := by decide +kernel
theorem dX4_fewestBetween_20 : decode cX4_fewestBetween 20 = .ok (.invokevirtual 15, 3) := by decide +kernel
theorem dX4_fewestBetween_23 : decode cX4_fewestBetween 23 = .ok (.iload 4, 2) := by decide +kernel
theorem dX4_fewestBetween_25 : decode cX4_fewestBetween 25 = .ok (.iand, 1) := by decide +kernel
theorem dX4_fewestBetween_26 : decode cX4_fewestBetween 26 = .ok (.ifCond .eq 6, 3) := by decide +kernel
theorem dX4_fewestBetween_29 : decode cX4_fewestBetween 29 = .ok (.iload 5, 2) := by decide +kernel
theorem dX4_fewestBetween_31 : decode cX4_fewestBetween 31 = .ok (.ireturn, 1) := by decide +kernel
theorem dX4_fewestBetween_32 : decode cX4_fewestBetween 32 = .ok (.aload_n 0, 1) := by decide +kernel
theorem dX4_fewestBetween_33 : decode cX4_fewestBetween 33 = .ok (.iload 4, 2) := by decide +kernel
theorem dX4_fewestBetween_35 : decode cX4_fewestBetween 35 = .ok (.iload_n 3, 1) := by decide +kernel
theorem dX4_fewestBetween_36 : decode cX4_fewestBetween 36 = .ok (.iload_n 2, 1) := by decide +kernel
theorem dX4_fewestBetween_37 : decode cX4_fewestBetween 37 = .ok (.invokevirtual 21, 3) := by decide +kernel
theorem dX4_fewestBetween_40 : decode cX4_fewestBetween 40 = .ok (.istore 4, 2) := by decide +kernel
theorem dX4_fewestBetween_42 : decode cX4_fewestBetween 42 = .ok (.iinc 5 1, 3) := by decide +kernel
theorem dX4_fewestBetween_45 : decode cX4_fewestBetween 45 = .ok (.goto (-37), 3) := by decide +kernel
theorem dX4_fewestBetween_48 : decode cX4_fewestBetween 48 = .ok (.ldc 25, 2) := by decide +kernel
theorem dX4_fewestBetween_50 : decode cX4_fewestBetween 50 = .ok (.ireturn, 1) := by decide +kernel
abbrev cX4_fewestForAll : ByteArray := prog_6_method_3_code
def yX4_fewestForAll : MethodName := ⟨"DayTongues$People", "fewestForAll", "()I"⟩
def mX4_fewestForAll : dt_MD := (yX4_fewestForAll, cX4_fewestForAll, 4, some .int)
theorem dX4_fewestForAll_0 : decode cX4_fewestForAll 0 = .ok (.ldc 25, 2) := by decide +kernel
theorem dX4_fewestForAll_2 : decode cX4_fewestForAll 2 = .ok (.istore_n 1, 1) := by decide +kernel
theorem dX4_fewestForAll_3 : decode cX4_fewestForAll 3 = .ok (.bipush 9, 2) := by decide +kernel
theorem dX4_fewestForAll_5 : decode cX4_fewestForAll 5 = .ok (.istore_n 2, 1) := by decide +kernel
theorem dX4_fewestForAll_6 : decode cX4_fewestForAll 6 = .ok (.iconst 0, 1) := by decide +kernel
theorem dX4_fewestForAll_7 : decode cX4_fewestForAll 7 = .ok (.istore_n 3, 1) := by decide +kernel
theorem dX4_fewestForAll_8 : decode cX4_fewestForAll 8 = .ok (.iload_n 3, 1) := by decide +kernel
theorem dX4_fewestForAll_9 : decode cX4_fewestForAll 9 = .ok (.iconst 1, 1) := by decide +kernel
theorem dX4_fewestForAll_10 : decode cX4_fewestForAll 10 = .ok (.aload_n 0, 1) := by decide +kernel
theorem dX4_fewestForAll_11 : decode cX4_fewestForAll 11 = .ok (.getfield 9, 3) := by decide +kernel
theorem dX4_fewestForAll_14 : decode cX4_fewestForAll 14 = .ok (.invokevirtual 26, 3) := by decide +kernel
theorem dX4_fewestForAll_17 : decode cX4_fewestForAll 17 = .ok (.ishl, 1) := by decide +kernel
theorem dX4_fewestForAll_18 : decode cX4_fewestForAll 18 = .ok (.if_icmp .ge 32, 3) := by decide +kernel
theorem dX4_fewestForAll_21 : decode cX4_fewestForAll 21 = .ok (.iload_n 3, 1) := by decide +kernel
theorem dX4_fewestForAll_22 : decode cX4_fewestForAll 22 = .ok (.invokestatic 30, 3) := by decide +kernel
theorem dX4_fewestForAll_25 : decode cX4_fewestForAll 25 = .ok (.iload_n 2, 1) := by decide +kernel
theorem dX4_fewestForAll_26 : decode cX4_fewestForAll 26 = .ok (.if_icmp .ge 18, 3) := by decide +kernel
theorem dX4_fewestForAll_29 : decode cX4_fewestForAll 29 = .ok (.aload_n 0, 1) := by decide +kernel
theorem dX4_fewestForAll_30 : decode cX4_fewestForAll 30 = .ok (.iload_n 3, 1) := by decide +kernel
theorem dX4_fewestForAll_31 : decode cX4_fewestForAll 31 = .ok (.invokevirtual 35, 3) := by decide +kernel
theorem dX4_fewestForAll_34 : decode cX4_fewestForAll 34 = .ok (.ifCond .eq 10, 3) := by decide +kernel
theorem dX4_fewestForAll_37 : decode cX4_fewestForAll 37 = .ok (.iload_n 3, 1) := by decide +kernel
theorem dX4_fewestForAll_38 : decode cX4_fewestForAll 38 = .ok (.istore_n 1, 1) := by decide +kernel
theorem dX4_fewestForAll_39 : decode cX4_fewestForAll 39 = .ok (.iload_n 3, 1) := by decide +kernel
theorem dX4_fewestForAll_40 : decode cX4_fewestForAll 40 = .ok (.invokestatic 30, 3) := by decide +kernel
theorem dX4_fewestForAll_43 : decode cX4_fewestForAll 43 = .ok (.istore_n 2, 1) := by decide +kernel
theorem dX4_fewestForAll_44 : decode cX4_fewestForAll 44 = .ok (.iinc 3 1, 3) := by decide +kernel
theorem dX4_fewestForAll_47 : decode cX4_fewestForAll 47 = .ok (.goto (-39), 3) := by decide +kernel
theorem dX4_fewestForAll_50 : decode cX4_fewestForAll 50 = .ok (.iload_n 1, 1) := by decide +kernel
theorem dX4_fewestForAll_51 : decode cX4_fewestForAll 51 = .ok (.ireturn, 1) := by decide +kernel
abbrev cX4_isWeekDealt : ByteArray := prog_6_method_4_code
def yX4_isWeekDealt : MethodName := ⟨"DayTongues$People", "isWeekDealt", "(I)Z"⟩
def mX4_isWeekDealt : dt_MD := (yX4_isWeekDealt, cX4_isWeekDealt, 5, some .boolean)
theorem dX4_isWeekDealt_0 : decode cX4_isWeekDealt 0 = .ok (.iconst 0, 1) := by decide +kernel
theorem dX4_isWeekDealt_1 : decode cX4_isWeekDealt 1 = .ok (.istore_n 2, 1) := by decide +kernel
theorem dX4_isWeekDealt_2 : decode cX4_isWeekDealt 2 = .ok (.iload_n 2, 1) := by decide +kernel
theorem dX4_isWeekDealt_3 : decode cX4_isWeekDealt 3 = .ok (.aload_n 0, 1) := by decide +kernel
theorem dX4_isWeekDealt_4 : decode cX4_isWeekDealt 4 = .ok (.getfield 9, 3) := by decide +kernel
theorem dX4_isWeekDealt_7 : decode cX4_isWeekDealt 7 = .ok (.invokevirtual 39, 3) := by decide +kernel
theorem dX4_isWeekDealt_10 : decode cX4_isWeekDealt 10 = .ok (.if_icmp .ge 53, 3) := by decide +kernel
theorem dX4_isWeekDealt_13 : decode cX4_isWeekDealt 13 = .ok (.aload_n 0, 1) := by decide +kernel
theorem dX4_isWeekDealt_14 : decode cX4_isWeekDealt 14 = .ok (.iload_n 2, 1) := by decide +kernel
theorem dX4_isWeekDealt_15 : decode cX4_isWeekDealt 15 = .ok (.iload_n 1, 1) := by decide +kernel
theorem dX4_isWeekDealt_16 : decode cX4_isWeekDealt 16 = .ok (.invokevirtual 42, 3) := by decide +kernel
theorem dX4_isWeekDealt_19 : decode cX4_isWeekDealt 19 = .ok (.istore_n 3, 1) := by decide +kernel
theorem dX4_isWeekDealt_20 : decode cX4_isWeekDealt 20 = .ok (.iconst 0, 1) := by decide +kernel
theorem dX4_isWeekDealt_21 : decode cX4_isWeekDealt 21 = .ok (.istore 4, 2) := by decide +kernel
theorem dX4_isWeekDealt_23 : decode cX4_isWeekDealt 23 = .ok (.iload 4, 2) := by decide +kernel
theorem dX4_isWeekDealt_25 : decode cX4_isWeekDealt 25 = .ok (.aload_n 0, 1) := by decide +kernel
theorem dX4_isWeekDealt_26 : decode cX4_isWeekDealt 26 = .ok (.getfield 9, 3) := by decide +kernel
theorem dX4_isWeekDealt_29 : decode cX4_isWeekDealt 29 = .ok (.invokevirtual 26, 3) := by decide +kernel
theorem dX4_isWeekDealt_32 : decode cX4_isWeekDealt 32 = .ok (.if_icmp .ge 25, 3) := by decide +kernel
theorem dX4_isWeekDealt_35 : decode cX4_isWeekDealt 35 = .ok (.aload_n 0, 1) := by decide +kernel
theorem dX4_isWeekDealt_36 : decode cX4_isWeekDealt 36 = .ok (.getfield 9, 3) := by decide +kernel
theorem dX4_isWeekDealt_39 : decode cX4_isWeekDealt 39 = .ok (.iload 4, 2) := by decide +kernel
theorem dX4_isWeekDealt_41 : decode cX4_isWeekDealt 41 = .ok (.invokevirtual 15, 3) := by decide +kernel
theorem dX4_isWeekDealt_44 : decode cX4_isWeekDealt 44 = .ok (.iload_n 3, 1) := by decide +kernel
theorem dX4_isWeekDealt_45 : decode cX4_isWeekDealt 45 = .ok (.iand, 1) := by decide +kernel
theorem dX4_isWeekDealt_46 : decode cX4_isWeekDealt 46 = .ok (.ifCond .ne 5, 3) := by decide +kernel
theorem dX4_isWeekDealt_49 : decode cX4_isWeekDealt 49 = .ok (.iconst 0, 1) := by decide +kernel
theorem dX4_isWeekDealt_50 : decode cX4_isWeekDealt 50 = .ok (.ireturn, 1) := by decide +kernel
theorem dX4_isWeekDealt_51 : decode cX4_isWeekDealt 51 = .ok (.iinc 4 1, 3) := by decide +kernel
theorem dX4_isWeekDealt_54 : decode cX4_isWeekDealt 54 = .ok (.goto (-31), 3) := by decide +kernel
theorem dX4_isWeekDealt_57 : decode cX4_isWeekDealt 57 = .ok (.iinc 2 1, 3) := by decide +kernel
theorem dX4_isWeekDealt_60 : decode cX4_isWeekDealt 60 = .ok (.goto (-58), 3) := by decide +kernel
theorem dX4_isWeekDealt_63 : decode cX4_isWeekDealt 63 = .ok (.iconst 1, 1) := by decide +kernel
theorem dX4_isWeekDealt_64 : decode cX4_isWeekDealt 64 = .ok (.ireturn, 1) := by decide +kernel
abbrev cX4_heardInTheEnd : ByteArray := prog_6_method_5_code
def yX4_heardInTheEnd : MethodName := ⟨"DayTongues$People", "heardInTheEnd", "(II)I"⟩
def mX4_heardInTheEnd : dt_MD := (yX4_heardInTheEnd, cX4_heardInTheEnd, 6, some .int)
theorem dX4_heardInTheEnd_0 : decode cX4_heardInTheEnd 0 = .ok (.iconst 0, 1) := by decide +kernel
theorem dX4_heardInTheEnd_1 : decode cX4_heardInTheEnd 1 = .ok (.istore_n 3, 1) := by decide +kernel
theorem dX4_heardInTheEnd_2 : decode cX4_heardInTheEnd 2 = .ok (.iconst 1, 1) := by decide +kernel
theorem dX4_heardInTheEnd_3 : decode cX4_heardInTheEnd 3 = .ok (.iload_n 1, 1) := by decide +kernel
theorem dX4_heardInTheEnd_4 : decode cX4_heardInTheEnd 4 = .ok (.ishl, 1) := by decide +kernel
theorem dX4_heardInTheEnd_5 : decode cX4_heardInTheEnd 5 = .ok (.istore 4, 2) := by decide +kernel
theorem dX4_heardInTheEnd_7 : decode cX4_heardInTheEnd 7 = .ok (.iconst 0, 1) := by decide +kernel
theorem dX4_heardInTheEnd_8 : decode cX4_heardInTheEnd 8 = .ok (.istore 5, 2) := by decide +kernel
theorem dX4_heardInTheEnd_10 : decode cX4_heardInTheEnd 10 = .ok (.iload 5, 2) := by decide +kernel
theorem dX4_heardInTheEnd_12 : decode cX4_heardInTheEnd 12 = .ok (.bipush 8, 2) := by decide +kernel
theorem dX4_heardInTheEnd_14 : decode cX4_heardInTheEnd 14 = .ok (.if_icmp .ge 28, 3) := by decide +kernel
theorem dX4_heardInTheEnd_17 : decode cX4_heardInTheEnd 17 = .ok (.iload 4, 2) := by decide +kernel
theorem dX4_heardInTheEnd_19 : decode cX4_heardInTheEnd 19 = .ok (.iload_n 3, 1) := by decide +kernel
theorem dX4_heardInTheEnd_20 : decode cX4_heardInTheEnd 20 = .ok (.if_icmp .eq 22, 3) := by decide +kernel
theorem dX4_heardInTheEnd_23 : decode cX4_heardInTheEnd 23 = .ok (.iload 4, 2) := by decide +kernel
theorem dX4_heardInTheEnd_25 : decode cX4_heardInTheEnd 25 = .ok (.istore_n 3, 1) := by decide +kernel
theorem dX4_heardInTheEnd_26 : decode cX4_heardInTheEnd 26 = .ok (.aload_n 0, 1) := by decide +kernel
theorem dX4_heardInTheEnd_27 : decode cX4_heardInTheEnd 27 = .ok (.iload 4, 2) := by decide +kernel
theorem dX4_heardInTheEnd_29 : decode cX4_heardInTheEnd 29 = .ok (.iload_n 2, 1) := by decide +kernel
theorem dX4_heardInTheEnd_30 : decode cX4_heardInTheEnd 30 = .ok (.iconst (-1), 1) := by decide +kernel
theorem dX4_heardInTheEnd_31 : decode cX4_heardInTheEnd 31 = .ok (.invokevirtual 21, 3) := by decide +kernel
theorem dX4_heardInTheEnd_34 : decode cX4_heardInTheEnd 34 = .ok (.istore 4, 2) := by decide +kernel
theorem dX4_heardInTheEnd_36 : decode cX4_heardInTheEnd 36 = .ok (.iinc 5 1, 3) := by decide +kernel
theorem dX4_heardInTheEnd_39 : decode cX4_heardInTheEnd 39 = .ok (.goto (-29), 3) := by decide +kernel
theorem dX4_heardInTheEnd_42 : decode cX4_heardInTheEnd 42 = .ok (.iload 4, 2) := by decide +kernel
theorem dX4_heardInTheEnd_44 : decode cX4_heardInTheEnd 44 = .ok (.ireturn, 1) := by decide +kernel
abbrev cX4_passedOn : ByteArray := prog_6_method_6_code
def yX4_passedOn : MethodName := ⟨"DayTongues$People", "passedOn", "(III)I"⟩
def mX4_passedOn : dt_MD := (yX4_passedOn, cX4_passedOn, 7, some .int)
theorem dX4_passedOn_0 : decode cX4_passedOn 0 = .ok (.iload_n 1, 1) := by decide +kernel
theorem dX4_passedOn_1 : decode cX4_passedOn 1 = .ok (.istore 4, 2) := by decide +kernel
theorem dX4_passedOn_3 : decode cX4_passedOn 3 = .ok (.iconst 0, 1) := by decide +kernel
theorem dX4_passedOn_4 : decode cX4_passedOn 4 = .ok (.istore 5, 2) := by decide +kernel
theorem dX4_passedOn_6 : decode cX4_passedOn 6 = .ok (.iload 5, 2) := by decide +kernel
theorem dX4_passedOn_8 : decode cX4_passedOn 8 = .ok (.aload_n 0, 1) := by decide +kernel
theorem dX4_passedOn_9 : decode cX4_passedOn 9 = .ok (.getfield 9, 3) := by decide +kernel
theorem dX4_passedOn_12 : decode cX4_passedOn 12 = .ok (.invokevirtual 26, 3) := by decide +kernel
theorem dX4_passedOn_15 : decode cX4_passedOn 15 = .ok (.if_icmp .ge 49, 3) := by decide +kernel
theorem dX4_passedOn_18 : decode cX4_passedOn 18 = .ok (.aload_n 0, 1) := by decide +kernel
theorem dX4_passedOn_19 : decode cX4_passedOn 19 = .ok (.getfield 9, 3) := by decide +kernel
theorem dX4_passedOn_22 : decode cX4_passedOn 22 = .ok (.iload 5, 2) := by decide +kernel
theorem dX4_passedOn_24 : decode cX4_passedOn 24 = .ok (.invokevirtual 15, 3) := by decide +kernel
theorem dX4_passedOn_27 : decode cX4_passedOn 27 = .ok (.istore 6, 2) := by decide +kernel
theorem dX4_passedOn_29 : decode cX4_passedOn 29 = .ok (.iload 5, 2) := by decide +kernel
theorem dX4_passedOn_31 : decode cX4_passedOn 31 = .ok (.iload_n 3, 1) := by decide +kernel
theorem dX4_passedOn_32 : decode cX4_passedOn 32 = .ok (.if_icmp .eq 26, 3) := by decide +kernel
theorem dX4_passedOn_35 : decode cX4_passedOn 35 = .ok (.iload_n 2, 1) := by decide +kernel
theorem dX4_passedOn_36 : decode cX4_passedOn 36 = .ok (.iload 5, 2) := by decide +kernel
theorem dX4_passedOn_38 : decode cX4_passedOn 38 = .ok (.ishr, 1) := by decide +kernel
theorem dX4_passedOn_39 : decode cX4_passedOn 39 = .ok (.iconst 1, 1) := by decide +kernel
theorem dX4_passedOn_40 : decode cX4_passedOn 40 = .ok (.iand, 1) := by decide +kernel
theorem dX4_passedOn_41 : decode cX4_passedOn 41 = .ok (.ifCond .eq 17, 3) := by decide +kernel
theorem dX4_passedOn_44 : decode cX4_passedOn 44 = .ok (.iload 6, 2) := by decide +kernel
theorem dX4_passedOn_46 : decode cX4_passedOn 46 = .ok (.iload_n 1, 1) := by decide +kernel
theorem dX4_passedOn_47 : decode cX4_passedOn 47 = .ok (.iand, 1) := by decide +kernel
theorem dX4_passedOn_48 : decode cX4_passedOn 48 = .ok (.ifCond .eq 10, 3) := by decide +kernel
theorem dX4_passedOn_51 : decode cX4_passedOn 51 = .ok (.iload 4, 2) := by decide +kernel
theorem dX4_passedOn_53 : decode cX4_passedOn 53 = .ok (.iload 6, 2) := by decide +kernel
theorem dX4_passedOn_55 : decode cX4_passedOn 55 = .ok (.ior, 1) := by decide +kernel
theorem dX4_passedOn_56 : decode cX4_passedOn 56 = .ok (.istore 4, 2) := by decide +kernel
theorem dX4_passedOn_58 : decode cX4_passedOn 58 = .ok (.iinc 5 1, 3) := by decide +kernel
theorem dX4_passedOn_61 : decode cX4_passedOn 61 = .ok (.goto (-55), 3) := by decide +kernel
theorem dX4_passedOn_64 : decode cX4_passedOn 64 = .ok (.iload 4, 2) := by decide +kernel
theorem dX4_passedOn_66 : decode cX4_passedOn 66 = .ok (.ireturn, 1) := by decide +kernel
abbrev cX6_init : ByteArray := prog_8_method_1_code
def yX6_init : MethodName := ⟨"DayTongues$Port", "<init>", "()V"⟩
def mX6_init : dt_MD := (yX6_init, cX6_init, 1, none)
theorem dX6_init_0 : decode cX6_init 0 = .ok (.aload_n 0, 1) := by decide +kernel
theorem dX6_init_1 : decode cX6_init 1 = .ok (.invokespecial 3, 3) := by decide +kernel
theorem dX6_init_4 : decode cX6_init 4 = .ok (.aload_n 0, 1) := by decide +kernel
theorem dX6_init_5 : decode cX6_init 5 = .ok (.bipush 7, 2) := by decide +kernel
theorem dX6_init_7 : decode cX6_init 7 = .ok (.newarray .int, 2) := by decide +kernel
theorem dX6_init_9 : decode cX6_init 9 = .ok (.putfield 9, 3) := by decide +kernel
theorem dX6_init_12 : decode cX6_init 12 = .ok (.aload_n 0, 1) := by decide +kernel
theorem dX6_init_13 : decode cX6_init 13 = .ok (.bipush 56, 2) := by decide +kernel
theorem dX6_init_15 : decode cX6_init 15 = .ok (.newarray .int, 2) := by decide +kernel
theorem dX6_init_17 : decode cX6_init 17 = .ok (.putfield 15, 3) := by decide +kernel
theorem dX6_init_20 : decode cX6_init 20 = .ok (.aload_n 0, 1) := by decide +kernel
theorem dX6_init_21 : decode cX6_init 21 = .ok (.bipush 56, 2) := by decide +kernel
theorem dX6_init_23 : decode cX6_init 23 = .ok (.newarray .int, 2) := by decide +kernel
theorem dX6_init_25 : decode cX6_init 25 = .ok (.putfield 18, 3) := by decide +kernel
theorem dX6_init_28 : decode cX6_init 28 = .ok (.aload_n 0, 1) := by decide +kernel
theorem dX6_init_29 : decode cX6_init 29 = .ok (.sipush 168, 3) := by decide +kernel
theorem dX6_init_32 : decode cX6_init 32 = .ok (.newarray .int, 2) := by decide +kernel
theorem dX6_init_34 : decode cX6_init 34 = .ok (.putfield 21, 3) := by decide +kernel
theorem dX6_init_37 : decode cX6_init 37 = .ok (.aload_n 0, 1) := by decide +kernel
theorem dX6_init_38 : decode cX6_init 38 = .ok (.bipush 8, 2) := by decide +kernel
theorem dX6_init_40 : decode cX6_init 40 = .ok (.newarray .int, 2) := by decide +kernel
theorem dX6_init_42 : decode cX6_init 42 = .ok (.putfield 24, 3) := by decide +kernel
theorem dX6_init_45 : decode cX6_init 45 = .ok (.aload_n 0, 1) := by decide +kernel
theorem dX6_init_46 : decode cX6_init 46 = .ok (.iconst 0, 1) := by decide +kernel
theorem dX6_init_47 : decode cX6_init 47 = .ok (.putfield 27, 3) := by decide +kernel
theorem dX6_init_50 : decode cX6_init 50 = .ok (.aload_n 0, 1) := by decide +kernel
theorem dX6_init_51 : decode cX6_init 51 = .ok (.iconst 0, 1) := by decide +kernel
theorem dX6_init_52 : decode cX6_init 52 = .ok (.putfield 31, 3) := by decide +kernel
theorem dX6_init_55 : decode cX6_init 55 = .ok (.aload_n 0, 1) := by decide +kernel
theorem dX6_init_56 : decode cX6_init 56 = .ok (.iconst 0, 1) := by decide +kernel
theorem dX6_init_57 : decode cX6_init 57 = .ok (.putfield 34, 3) := by decide +kernel
theorem dX6_init_60 : decode cX6_init 60 = .ok (.return_, 1) := by decide +kernel
abbrev cX6_isNone : ByteArray := prog_8_method_2_code
def yX6_isNone : MethodName := ⟨"DayTongues$Port", "isNone", "()Z"⟩
def mX6_isNone : dt_MD := (yX6_isNone, cX6_isNone, 1, some .boolean)
theorem dX6_isNone_0 : decode cX6_isNone 0 = .ok (.aload_n 0, 1) := by decide +kernel
theorem dX6_isNone_1 : decode cX6_isNone 1 = .ok (.getfield 27, 3) := by decide +kernel
theorem dX6_isNone_4 : decode cX6_isNone 4 = .ok (.ifCond .ne 7, 3) := by decide +kernel
theorem dX6_isNone_7 : decode cX6_isNone 7 = .ok (.iconst 1, 1) := by decide +kernel
theorem dX6_isNone_8 : decode cX6_isNone 8 = .ok (.goto 4, 3) := by decide +kernel
theorem dX6_isNone_11 : decode cX6_isNone 11 = .ok (.iconst 0, 1) := by decide +kernel
theorem dX6_isNone_12 : decode cX6_isNone 12 = .ok (.ireturn, 1) := by decide +kernel
abbrev cX6_tongues : ByteArray := prog_8_method_3_code
def yX6_tongues : MethodName := ⟨"DayTongues$Port", "tongues", "()I"⟩
def mX6_tongues : dt_MD := (yX6_tongues, cX6_tongues, 1, some .int)
theorem dX6_tongues_0 : decode cX6_tongues 0 = .ok (.aload_n 0, 1) := by decide +kernel
theorem dX6_tongues_1 : decode cX6_tongues 1 = .ok (.getfield 27, 3) := by decide +kernel
theorem dX6_tongues_4 : decode cX6_tongues 4 = .ok (.ireturn, 1) := by decide +kernel
abbrev cX6_people : ByteArray := prog_8_method_4_code
def yX6_people : MethodName := ⟨"DayTongues$Port", "people", "()I"⟩
def mX6_people : dt_MD := (yX6_people, cX6_people, 1, some .int)
theorem dX6_people_0 : decode cX6_people 0 = .ok (.aload_n 0, 1) := by decide +kernel
theorem dX6_people_1 : decode cX6_people 1 = .ok (.getfield 31, 3) := by decide +kernel
theorem dX6_people_4 : decode cX6_people 4 = .ok (.ireturn, 1) := by decide +kernel
abbrev cX6_years : ByteArray := prog_8_method_5_code
def yX6_years : MethodName := ⟨"DayTongues$Port", "years", "()I"⟩
def mX6_years : dt_MD := (yX6_years, cX6_years, 1, some .int)
theorem dX6_years_0 : decode cX6_years 0 = .ok (.aload_n 0, 1) := by decide +kernel
theorem dX6_years_1 : decode cX6_years 1 = .ok (.getfield 34, 3) := by decide +kernel
theorem dX6_years_4 : decode cX6_years 4 = .ok (.ireturn, 1) := by decide +kernel
abbrev cX6_hasTongue : ByteArray := prog_8_method_6_code
def yX6_hasTongue : MethodName := ⟨"DayTongues$Port", "hasTongue", "(I)Z"⟩
def mX6_hasTongue : dt_MD := (yX6_hasTongue, cX6_hasTongue, 2, some .boolean)
theorem dX6_hasTongue_0 : decode cX6_hasTongue 0 = .ok (.iconst 0, 1) := by decide +kernel
theorem dX6_hasTongue_1 : decode cX6_hasTongue 1 = .ok (.iload_n 1, 1) := by decide +kernel
theorem dX6_hasTongue_2 : decode cX6_hasTongue 2 = .ok (.if_icmp .gt 21, 3) := by decide +kernel
theorem dX6_hasTongue_5 : decode cX6_hasTongue 5 = .ok (.iload_n 1, 1) := by decide +kernel
theorem dX6_hasTongue_6 : decode cX6_hasTongue 6 = .ok (.aload_n 0, 1) := by decide +kernel
theorem dX6_hasTongue_7 : decode cX6_hasTongue 7 = .ok (.getfield 27, 3) := by decide +kernel
theorem dX6_hasTongue_10 : decode cX6_hasTongue 10 = .ok (.if_icmp .ge 13, 3) := by decide +kernel
theorem dX6_hasTongue_13 : decode cX6_hasTongue 13 = .ok (.iload_n 1, 1) := by decide +kernel
theorem dX6_hasTongue_14 : decode cX6_hasTongue 14 = .ok (.bipush 7, 2) := by decide +kernel
theorem dX6_hasTongue_16 : decode cX6_hasTongue 16 = .ok (.if_icmp .ge 7, 3) := by decide +kernel
theorem dX6_hasTongue_19 : decode cX6_hasTongue 19 = .ok (.iconst 1, 1) := by decide +kernel
theorem dX6_hasTongue_20 : decode cX6_hasTongue 20 = .ok (.goto 4, 3) := by decide +kernel
theorem dX6_hasTongue_23 : decode cX6_hasTongue 23 = .ok (.iconst 0, 1) := by decide +kernel
theorem dX6_hasTongue_24 : decode cX6_hasTongue 24 = .ok (.ireturn, 1) := by decide +kernel
abbrev cX6_hasPerson : ByteArray := prog_8_method_7_code
def yX6_hasPerson : MethodName := ⟨"DayTongues$Port", "hasPerson", "(I)Z"⟩
def mX6_hasPerson : dt_MD := (yX6_hasPerson, cX6_hasPerson, 2, some .boolean)
theorem dX6_hasPerson_0 : decode cX6_hasPerson 0 = .ok (.iconst 0, 1) := by decide +kernel
theorem dX6_hasPerson_1 : decode cX6_hasPerson 1 = .ok (.iload_n 1, 1) := by decide +kernel
theorem dX6_hasPerson_2 : decode cX6_hasPerson 2 = .ok (.if_icmp .gt 21, 3) := by decide +kernel
theorem dX6_hasPerson_5 : decode cX6_hasPerson 5 = .ok (.iload_n 1, 1) := by decide +kernel
theorem dX6_hasPerson_6 : decode cX6_hasPerson 6 = .ok (.aload_n 0, 1) := by decide +kernel
theorem dX6_hasPerson_7 : decode cX6_hasPerson 7 = .ok (.getfield 31, 3) := by decide +kernel
theorem dX6_hasPerson_10 : decode cX6_hasPerson 10 = .ok (.if_icmp .ge 13, 3) := by decide +kernel
theorem dX6_hasPerson_13 : decode cX6_hasPerson 13 = .ok (.iload_n 1, 1) := by decide +kernel
theorem dX6_hasPerson_14 : decode cX6_hasPerson 14 = .ok (.bipush 8, 2) := by decide +kernel
theorem dX6_hasPerson_16 : decode cX6_hasPerson 16 = .ok (.if_icmp .ge 7, 3) := by decide +kernel
theorem dX6_hasPerson_19 : decode cX6_hasPerson 19 = .ok (.iconst 1, 1) := by decide +kernel
theorem dX6_hasPerson_20 : decode cX6_hasPerson 20 = .ok (.goto 4, 3) := by decide +kernel
theorem dX6_hasPerson_23 : decode cX6_hasPerson 23 = .ok (.iconst 0, 1) := by decide +kernel
theorem dX6_hasPerson_24 : decode cX6_hasPerson 24 = .ok (.ireturn, 1) := by decide +kernel
abbrev cX6_hasWord : ByteArray := prog_8_method_8_code
def yX6_hasWord : MethodName := ⟨"DayTongues$Port", "hasWord", "(II)Z"⟩
def mX6_hasWord : dt_MD := (yX6_hasWord, cX6_hasWord, 3, some .boolean)
theorem dX6_hasWord_0 : decode cX6_hasWord 0 = .ok (.iconst 0, 1) := by decide +kernel
theorem dX6_hasWord_1 : decode cX6_hasWord 1 = .ok (.iload_n 1, 1) := by decide +kernel
theorem dX6_hasWord_2 : decode cX6_hasWord 2 = .ok (.if_icmp .gt 42, 3) := by decide +kernel
theorem dX6_hasWord_5 : decode cX6_hasWord 5 = .ok (.iload_n 1, 1) := by decide +kernel
theorem dX6_hasWord_6 : decode cX6_hasWord 6 = .ok (.aload_n 0, 1) := by decide +kernel
theorem dX6_hasWord_7 : decode cX6_hasWord 7 = .ok (.getfield 27, 3) := by decide +kernel
theorem dX6_hasWord_10 : decode cX6_hasWord 10 = .ok (.if_icmp .ge 34, 3) := by decide +kernel
theorem dX6_hasWord_13 : decode cX6_hasWord 13 = .ok (.iload_n 1, 1) := by decide +kernel
theorem dX6_hasWord_14 : decode cX6_hasWord 14 = .ok (.bipush 7, 2) := by decide +kernel
theorem dX6_hasWord_16 : decode cX6_hasWord 16 = .ok (.if_icmp .ge 28, 3) := by decide +kernel
theorem dX6_hasWord_19 : decode cX6_hasWord 19 = .ok (.iconst 0, 1) := by decide +kernel
theorem dX6_hasWord_20 : decode cX6_hasWord 20 = .ok (.iload_n 2, 1) := by decide +kernel
theorem dX6_hasWord_21 : decode cX6_hasWord 21 = .ok (.if_icmp .gt 23, 3) := by decide +kernel
theorem dX6_hasWord_24 : decode cX6_hasWord 24 = .ok (.iload_n 2, 1) := by decide +kernel
theorem dX6_hasWord_25 : decode cX6_hasWord 25 = .ok (.aload_n 0, 1) := by decide +kernel
theorem dX6_hasWord_26 : decode cX6_hasWord 26 = .ok (.getfield 9, 3) := by decide +kernel
theorem dX6_hasWord_29 : decode cX6_hasWord 29 = .ok (.iload_n 1, 1) := by decide +kernel
theorem dX6_hasWord_30 : decode cX6_hasWord 30 = .ok (.iaload, 1) := by decide +kernel
theorem dX6_hasWord_31 : decode cX6_hasWord 31 = .ok (.if_icmp .ge 13, 3) := by decide +kernel
theorem dX6_hasWord_34 : decode cX6_hasWord 34 = .ok (.iload_n 2, 1) := by decide +kernel
theorem dX6_hasWord_35 : decode cX6_hasWord 35 = .ok (.bipush 8, 2) := by decide +kernel
theorem dX6_hasWord_37 : decode cX6_hasWord 37 = .ok (.if_icmp .ge 7, 3) := by decide +kernel
theorem dX6_hasWord_40 : decode cX6_hasWord 40 = .ok (.iconst 1, 1) := by decide +kernel
theorem dX6_hasWord_41 : decode cX6_hasWord 41 = .ok (.goto 4, 3) := by decide +kernel
theorem dX6_hasWord_44 : decode cX6_hasWord 44 = .ok (.iconst 0, 1) := by decide +kernel
theorem dX6_hasWord_45 : decode cX6_hasWord 45 = .ok (.ireturn, 1) := by decide +kernel
abbrev cX6_tongueOf : ByteArray := prog_8_method_9_code
def yX6_tongueOf : MethodName := ⟨"DayTongues$Port", "tongueOf", "(I)I"⟩
def mX6_tongueOf : dt_MD := (yX6_tongueOf, cX6_tongueOf, 2, some .int)
theorem dX6_tongueOf_0 : decode cX6_tongueOf 0 = .ok (.iload_n 1, 1) := by decide +kernel
theorem dX6_tongueOf_1 : decode cX6_tongueOf 1 = .ok (.aload_n 0, 1) := by decide +kernel
theorem dX6_tongueOf_2 : decode cX6_tongueOf 2 = .ok (.getfield 27, 3) := by decide +kernel
theorem dX6_tongueOf_5 : decode cX6_tongueOf 5 = .ok (.invokestatic 37, 3) := by decide +kernel
theorem dX6_tongueOf_8 : decode cX6_tongueOf 8 = .ok (.ireturn, 1) := by decide +kernel
abbrev cX6_wordsOf : ByteArray := prog_8_method_10_code
def yX6_wordsOf : MethodName := ⟨"DayTongues$Port", "wordsOf", "(I)I"⟩
def mX6_wordsOf : dt_MD := (yX6_wordsOf, cX6_wordsOf, 2, some .int)
theorem dX6_wordsOf_0 : decode cX6_wordsOf 0 = .ok (.aload_n 0, 1) := by decide +kernel
theorem dX6_wordsOf_1 : decode cX6_wordsOf 1 = .ok (.iload_n 1, 1) := by decide +kernel
theorem dX6_wordsOf_2 : decode cX6_wordsOf 2 = .ok (.invokevirtual 41, 3) := by decide +kernel
theorem dX6_wordsOf_5 : decode cX6_wordsOf 5 = .ok (.ifCond .eq 12, 3) := by decide +kernel
theorem dX6_wordsOf_8 : decode cX6_wordsOf 8 = .ok (.aload_n 0, 1) := by decide +kernel
theorem dX6_wordsOf_9 : decode cX6_wordsOf 9 = .ok (.getfield 9, 3) := by decide +kernel
theorem dX6_wordsOf_12 : decode cX6_wordsOf 12 = .ok (.iload_n 1, 1) := by decide +kernel
theorem dX6_wordsOf_13 : decode cX6_wordsOf 13 = .ok (.iaload, 1) := by decide +kernel
theorem dX6_wordsOf_14 : decode cX6_wordsOf 14 = .ok (.goto 4, 3) := by decide +kernel
theorem dX6_wordsOf_17 : decode cX6_wordsOf 17 = .ok (.iconst 0, 1) := by decide +kernel
theorem dX6_wordsOf_18 : decode cX6_wordsOf 18 = .ok (.ireturn, 1) := by decide +kernel
abbrev cX6_wordsOfAll : ByteArray := prog_8_method_11_code
def yX6_wordsOfAll : MethodName := ⟨"DayTongues$Port", "wordsOfAll", "()I"⟩
def mX6_wordsOfAll : dt_MD := (yX6_wordsOfAll, cX6_wordsOfAll, 3, some .int)
theorem dX6_wordsOfAll_0 : decode cX6_wordsOfAll 0 = .ok (.iconst 0, 1) := by decide +kernel
theorem dX6_wordsOfAll_1 : decode cX6_wordsOfAll 1 = .ok (.istore_n 1, 1) := by decide +kernel
theorem dX6_wordsOfAll_2 : decode cX6_wordsOfAll 2 = .ok (.iconst 0, 1) := by decide +kernel
theorem dX6_wordsOfAll_3 : decode cX6_wordsOfAll 3 = .ok (.istore_n 2, 1) := by decide +kernel
theorem dX6_wordsOfAll_4 : decode cX6_wordsOfAll 4 = .ok (.iload_n 2, 1) := by decide +kernel
theorem dX6_wordsOfAll_5 : decode cX6_wordsOfAll 5 = .ok (.aload_n 0, 1) := by decide +kernel
theorem dX6_wordsOfAll_6 : decode cX6_wordsOfAll 6 = .ok (.getfield 27, 3) := by decide +kernel
theorem dX6_wordsOfAll_9 : decode cX6_wordsOfAll 9 = .ok (.if_icmp .ge 17, 3) := by decide +kernel
theorem dX6_wordsOfAll_12 : decode cX6_wordsOfAll 12 = .ok (.iload_n 1, 1) := by decide +kernel
theorem dX6_wordsOfAll_13 : decode cX6_wordsOfAll 13 = .ok (.aload_n 0, 1) := by decide +kernel
theorem dX6_wordsOfAll_14 : decode cX6_wordsOfAll 14 = .ok (.iload_n 2, 1) := by decide +kernel
theorem dX6_wordsOfAll_15 : decode cX6_wordsOfAll 15 = .ok (.invokevirtual 45, 3) := by decide +kernel
theorem dX6_wordsOfAll_18 : decode cX6_wordsOfAll 18 = .ok (.iadd, 1) := by decide +kernel
theorem dX6_wordsOfAll_19 : decode cX6_wordsOfAll 19 = .ok (.istore_n 1, 1) := by decide +kernel
theorem dX6_wordsOfAll_20 : decode cX6_wordsOfAll 20 = .ok (.iinc 2 1, 3) := by decide +kernel
theorem dX6_wordsOfAll_23 : decode cX6_wordsOfAll 23 = .ok (.goto (-19), 3) := by decide +kernel
theorem dX6_wordsOfAll_26 : decode cX6_wordsOfAll 26 = .ok (.iload_n 1, 1) := by decide +kernel
theorem dX6_wordsOfAll_27 : decode cX6_wordsOfAll 27 = .ok (.ireturn, 1) := by decide +kernel
abbrev cX6_knownBy : ByteArray := prog_8_method_12_code
def yX6_knownBy : MethodName := ⟨"DayTongues$Port", "knownBy", "(I)I"⟩
def mX6_knownBy : dt_MD := (yX6_knownBy, cX6_knownBy, 2, some .int)
theorem dX6_knownBy_0 : decode cX6_knownBy 0 = .ok (.aload_n 0, 1) := by decide +kernel
theorem dX6_knownBy_1 : decode cX6_knownBy 1 = .ok (.iload_n 1, 1) := by decide +kernel
theorem dX6_knownBy_2 : decode cX6_knownBy 2 = .ok (.invokevirtual 49, 3) := by decide +kernel
theorem dX6_knownBy_5 : decode cX6_knownBy 5 = .ok (.ifCond .eq 12, 3) := by decide +kernel
theorem dX6_knownBy_8 : decode cX6_knownBy 8 = .ok (.aload_n 0, 1) := by decide +kernel
theorem dX6_knownBy_9 : decode cX6_knownBy 9 = .ok (.getfield 24, 3) := by decide +kernel
theorem dX6_knownBy_12 : decode cX6_knownBy 12 = .ok (.iload_n 1, 1) := by decide +kernel
theorem dX6_knownBy_13 : decode cX6_knownBy 13 = .ok (.iaload, 1) := by decide +kernel
theorem dX6_knownBy_14 : decode cX6_knownBy 14 = .ok (.goto 4, 3) := by decide +kernel
theorem dX6_knownBy_17 : decode cX6_knownBy 17 = .ok (.iconst 0, 1) := by decide +kernel
theorem dX6_knownBy_18 : decode cX6_knownBy 18 = .ok (.ireturn, 1) := by decide +kernel
abbrev cX6_kindOf : ByteArray := prog_8_method_13_code
def yX6_kindOf : MethodName := ⟨"DayTongues$Port", "kindOf", "(II)I"⟩
def mX6_kindOf : dt_MD := (yX6_kindOf, cX6_kindOf, 3, some .int)
theorem dX6_kindOf_0 : decode cX6_kindOf 0 = .ok (.aload_n 0, 1) := by decide +kernel
theorem dX6_kindOf_1 : decode cX6_kindOf 1 = .ok (.iload_n 1, 1) := by decide +kernel
theorem dX6_kindOf_2 : decode cX6_kindOf 2 = .ok (.iload_n 2, 1) := by decide +kernel
theorem dX6_kindOf_3 : decode cX6_kindOf 3 = .ok (.invokevirtual 52, 3) := by decide +kernel
theorem dX6_kindOf_6 : decode cX6_kindOf 6 = .ok (.ifCond .eq 16, 3) := by decide +kernel
theorem dX6_kindOf_9 : decode cX6_kindOf 9 = .ok (.aload_n 0, 1) := by decide +kernel
theorem dX6_kindOf_10 : decode cX6_kindOf 10 = .ok (.getfield 15, 3) := by decide +kernel
theorem dX6_kindOf_13 : decode cX6_kindOf 13 = .ok (.iload_n 1, 1) := by decide +kernel
theorem dX6_kindOf_14 : decode cX6_kindOf 14 = .ok (.iload_n 2, 1) := by decide +kernel
theorem dX6_kindOf_15 : decode cX6_kindOf 15 = .ok (.invokestatic 56, 3) := by decide +kernel
theorem dX6_kindOf_18 : decode cX6_kindOf 18 = .ok (.iaload, 1) := by decide +kernel
theorem dX6_kindOf_19 : decode cX6_kindOf 19 = .ok (.goto 4, 3) := by decide +kernel
theorem dX6_kindOf_22 : decode cX6_kindOf 22 = .ok (.iconst 0, 1) := by decide +kernel
theorem dX6_kindOf_23 : decode cX6_kindOf 23 = .ok (.ireturn, 1) := by decide +kernel
abbrev cX6_readingsOf : ByteArray := prog_8_method_14_code
def yX6_readingsOf : MethodName := ⟨"DayTongues$Port", "readingsOf", "(II)I"⟩
def mX6_readingsOf : dt_MD := (yX6_readingsOf, cX6_readingsOf, 3, some .int)
theorem dX6_readingsOf_0 : decode cX6_readingsOf 0 = .ok (.aload_n 0, 1) := by decide +kernel
theorem dX6_readingsOf_1 : decode cX6_readingsOf 1 = .ok (.iload_n 1, 1) := by decide +kernel
theorem dX6_readingsOf_2 : decode cX6_readingsOf 2 = .ok (.iload_n 2, 1) := by decide +kernel
theorem dX6_readingsOf_3 : decode cX6_readingsOf 3 = .ok (.invokevirtual 52, 3) := by decide +kernel
theorem dX6_readingsOf_6 : decode cX6_readingsOf 6 = .ok (.ifCond .eq 16, 3) := by decide +kernel
theorem dX6_readingsOf_9 : decode cX6_readingsOf 9 = .ok (.aload_n 0, 1) := by decide +kernel
theorem dX6_readingsOf_10 : decode cX6_readingsOf 10 = .ok (.getfield 18, 3) := by decide +kernel
theorem dX6_readingsOf_13 : decode cX6_readingsOf 13 = .ok (.iload_n 1, 1) := by decide +kernel
theorem dX6_readingsOf_14 : decode cX6_readingsOf 14 = .ok (.iload_n 2, 1) := by decide +kernel
theorem dX6_readingsOf_15 : decode cX6_readingsOf 15 = .ok (.invokestatic 56, 3) := by decide +kernel
theorem dX6_readingsOf_18 : decode cX6_readingsOf 18 = .ok (.iaload, 1) := by decide +kernel
theorem dX6_readingsOf_19 : decode cX6_readingsOf 19 = .ok (.goto 4, 3) := by decide +kernel
theorem dX6_readingsOf_22 : decode cX6_readingsOf 22 = .ok (.iconst 0, 1) := by decide +kernel
theorem dX6_readingsOf_23 : decode cX6_readingsOf 23 = .ok (.ireturn, 1) := by decide +kernel
abbrev cX6_reading : ByteArray := prog_8_method_15_code
def yX6_reading : MethodName := ⟨"DayTongues$Port", "reading", "(III)I"⟩
def mX6_reading : dt_MD := (yX6_reading, cX6_reading, 4, some .int)
theorem dX6_reading_0 : decode cX6_reading 0 = .ok (.aload_n 0, 1) := by decide +kernel
theorem dX6_reading_1 : decode cX6_reading 1 = .ok (.iload_n 1, 1) := by decide +kernel
theorem dX6_reading_2 : decode cX6_reading 2 = .ok (.iload_n 2, 1) := by decide +kernel
theorem dX6_reading_3 : decode cX6_reading 3 = .ok (.iload_n 3, 1) := by decide +kernel
theorem dX6_reading_4 : decode cX6_reading 4 = .ok (.invokevirtual 59, 3) := by decide +kernel
theorem dX6_reading_7 : decode cX6_reading 7 = .ok (.ifCond .eq 20, 3) := by decide +kernel
theorem dX6_reading_10 : decode cX6_reading 10 = .ok (.aload_n 0, 1) := by decide +kernel
theorem dX6_reading_11 : decode cX6_reading 11 = .ok (.getfield 21, 3) := by decide +kernel
theorem dX6_reading_14 : decode cX6_reading 14 = .ok (.iload_n 1, 1) := by decide +kernel
theorem dX6_reading_15 : decode cX6_reading 15 = .ok (.iload_n 2, 1) := by decide +kernel
theorem dX6_reading_16 : decode cX6_reading 16 = .ok (.invokestatic 56, 3) := by decide +kernel
theorem dX6_reading_19 : decode cX6_reading 19 = .ok (.iconst 3, 1) := by decide +kernel
theorem dX6_reading_20 : decode cX6_reading 20 = .ok (.imul, 1) := by decide +kernel
theorem dX6_reading_21 : decode cX6_reading 21 = .ok (.iload_n 3, 1) := by decide +kernel
theorem dX6_reading_22 : decode cX6_reading 22 = .ok (.iadd, 1) := by decide +kernel
theorem dX6_reading_23 : decode cX6_reading 23 = .ok (.iaload, 1) := by decide +kernel
theorem dX6_reading_24 : decode cX6_reading 24 = .ok (.goto 4, 3) := by decide +kernel
theorem dX6_reading_27 : decode cX6_reading 27 = .ok (.iconst 0, 1) := by decide +kernel
theorem dX6_reading_28 : decode cX6_reading 28 = .ok (.ireturn, 1) := by decide +kernel
abbrev cX6_common : ByteArray := prog_8_method_16_code
def yX6_common : MethodName := ⟨"DayTongues$Port", "common", "(II)I"⟩
def mX6_common : dt_MD := (yX6_common, cX6_common, 5, some .int)
theorem dX6_common_0 : decode cX6_common 0 = .ok (.sipush 255, 3) := by decide +kernel
theorem dX6_common_3 : decode cX6_common 3 = .ok (.istore_n 3, 1) := by decide +kernel
theorem dX6_common_4 : decode cX6_common 4 = .ok (.iconst 0, 1) := by decide +kernel
theorem dX6_common_5 : decode cX6_common 5 = .ok (.istore 4, 2) := by decide +kernel
theorem dX6_common_7 : decode cX6_common 7 = .ok (.iload 4, 2) := by decide +kernel
theorem dX6_common_9 : decode cX6_common 9 = .ok (.aload_n 0, 1) := by decide +kernel
theorem dX6_common_10 : decode cX6_common 10 = .ok (.iload_n 1, 1) := by decide +kernel
theorem dX6_common_11 : decode cX6_common 11 = .ok (.iload_n 2, 1) := by decide +kernel
theorem dX6_common_12 : decode cX6_common 12 = .ok (.invokevirtual 63, 3) := by decide +kernel
theorem dX6_common_15 : decode cX6_common 15 = .ok (.if_icmp .ge 20, 3) := by decide +kernel
theorem dX6_common_18 : decode cX6_common 18 = .ok (.iload_n 3, 1) := by decide +kernel
theorem dX6_common_19 : decode cX6_common 19 = .ok (.aload_n 0, 1) := by decide +kernel
theorem dX6_common_20 : decode cX6_common 20 = .ok (.iload_n 1, 1) := by decide +kernel
theorem dX6_common_21 : decode cX6_common 21 = .ok (.iload_n 2, 1) := by decide +kernel
theorem dX6_common_22 : decode cX6_common 22 = .ok (.iload 4, 2) := by decide +kernel
theorem dX6_common_24 : decode cX6_common 24 = .ok (.invokevirtual 66, 3) := by decide +kernel
theorem dX6_common_27 : decode cX6_common 27 = .ok (.iand, 1) := by decide +kernel
theorem dX6_common_28 : decode cX6_common 28 = .ok (.istore_n 3, 1) := by decide +kernel
theorem dX6_common_29 : decode cX6_common 29 = .ok (.iinc 4 1, 3) := by decide +kernel
theorem dX6_common_32 : decode cX6_common 32 = .ok (.goto (-25), 3) := by decide +kernel
theorem dX6_common_35 : decode cX6_common 35 = .ok (.iload_n 3, 1) := by decide +kernel
theorem dX6_common_36 : decode cX6_common 36 = .ok (.ireturn, 1) := by decide +kernel
abbrev cX6_whole : ByteArray := prog_8_method_17_code
def yX6_whole : MethodName := ⟨"DayTongues$Port", "whole", "(II)I"⟩
def mX6_whole : dt_MD := (yX6_whole, cX6_whole, 5, some .int)
theorem dX6_whole_0 : decode cX6_whole 0 = .ok (.iconst 0, 1) := by decide +kernel
theorem dX6_whole_1 : decode cX6_whole 1 = .ok (.istore_n 3, 1) := by decide +kernel
theorem dX6_whole_2 : decode cX6_whole 2 = .ok (.iconst 0, 1) := by decide +kernel
theorem dX6_whole_3 : decode cX6_whole 3 = .ok (.istore 4, 2) := by decide +kernel
theorem dX6_whole_5 : decode cX6_whole 5 = .ok (.iload 4, 2) := by decide +kernel
theorem dX6_whole_7 : decode cX6_whole 7 = .ok (.aload_n 0, 1) := by decide +kernel
theorem dX6_whole_8 : decode cX6_whole 8 = .ok (.iload_n 1, 1) := by decide +kernel
theorem dX6_whole_9 : decode cX6_whole 9 = .ok (.iload_n 2, 1) := by decide +kernel
theorem dX6_whole_10 : decode cX6_whole 10 = .ok (.invokevirtual 63, 3) := by decide +kernel
theorem dX6_whole_13 : decode cX6_whole 13 = .ok (.if_icmp .ge 20, 3) := by decide +kernel
theorem dX6_whole_16 : decode cX6_whole 16 = .ok (.iload_n 3, 1) := by decide +kernel
theorem dX6_whole_17 : decode cX6_whole 17 = .ok (.aload_n 0, 1) := by decide +kernel
theorem dX6_whole_18 : decode cX6_whole 18 = .ok (.iload_n 1, 1) := by decide +kernel
theorem dX6_whole_19 : decode cX6_whole 19 = .ok (.iload_n 2, 1) := by decide +kernel
theorem dX6_whole_20 : decode cX6_whole 20 = .ok (.iload 4, 2) := by decide +kernel
theorem dX6_whole_22 : decode cX6_whole 22 = .ok (.invokevirtual 66, 3) := by decide +kernel
theorem dX6_whole_25 : decode cX6_whole 25 = .ok (.ior, 1) := by decide +kernel
theorem dX6_whole_26 : decode cX6_whole 26 = .ok (.istore_n 3, 1) := by decide +kernel
theorem dX6_whole_27 : decode cX6_whole 27 = .ok (.iinc 4 1, 3) := by decide +kernel
theorem dX6_whole_30 : decode cX6_whole 30 = .ok (.goto (-25), 3) := by decide +kernel
theorem dX6_whole_33 : decode cX6_whole 33 = .ok (.iload_n 3, 1) := by decide +kernel
theorem dX6_whole_34 : decode cX6_whole 34 = .ok (.ireturn, 1) := by decide +kernel
abbrev cX6_clear : ByteArray := prog_8_method_18_code
def yX6_clear : MethodName := ⟨"DayTongues$Port", "clear", "()V"⟩
def mX6_clear : dt_MD := (yX6_clear, cX6_clear, 1, none)
theorem dX6_clear_0 : decode cX6_clear 0 = .ok (.aload_n 0, 1) := by decide +kernel
theorem dX6_clear_1 : decode cX6_clear 1 = .ok (.iconst 0, 1) := by decide +kernel
theorem dX6_clear_2 : decode cX6_clear 2 = .ok (.putfield 27, 3) := by decide +kernel
theorem dX6_clear_5 : decode cX6_clear 5 = .ok (.aload_n 0, 1) := by decide +kernel
theorem dX6_clear_6 : decode cX6_clear 6 = .ok (.iconst 0, 1) := by decide +kernel
theorem dX6_clear_7 : decode cX6_clear 7 = .ok (.putfield 31, 3) := by decide +kernel
theorem dX6_clear_10 : decode cX6_clear 10 = .ok (.aload_n 0, 1) := by decide +kernel
theorem dX6_clear_11 : decode cX6_clear 11 = .ok (.iconst 0, 1) := by decide +kernel
theorem dX6_clear_12 : decode cX6_clear 12 = .ok (.putfield 34, 3) := by decide +kernel
theorem dX6_clear_15 : decode cX6_clear 15 = .ok (.return_, 1) := by decide +kernel
abbrev cX6_addTongue : ByteArray := prog_8_method_19_code
def yX6_addTongue : MethodName := ⟨"DayTongues$Port", "addTongue", "()V"⟩
def mX6_addTongue : dt_MD := (yX6_addTongue, cX6_addTongue, 1, none)
theorem dX6_addTongue_0 : decode cX6_addTongue 0 = .ok (.aload_n 0, 1) := by decide +kernel
theorem dX6_addTongue_1 : decode cX6_addTongue 1 = .ok (.getfield 27, 3) := by decide +kernel
theorem dX6_addTongue_4 : decode cX6_addTongue 4 = .ok (.bipush 7, 2) := by decide +kernel
theorem dX6_addTongue_6 : decode cX6_addTongue 6 = .ok (.if_icmp .ge 23, 3) := by decide +kernel
theorem dX6_addTongue_9 : decode cX6_addTongue 9 = .ok (.aload_n 0, 1) := by decide +kernel
theorem dX6_addTongue_10 : decode cX6_addTongue 10 = .ok (.getfield 9, 3) := by decide +kernel
theorem dX6_addTongue_13 : decode cX6_addTongue 13 = .ok (.aload_n 0, 1) := by decide +kernel
theorem dX6_addTongue_14 : decode cX6_addTongue 14 = .ok (.getfield 27, 3) := by decide +kernel
theorem dX6_addTongue_17 : decode cX6_addTongue 17 = .ok (.iconst 0, 1) := by decide +kernel
theorem dX6_addTongue_18 : decode cX6_addTongue 18 = .ok (.iastore, 1) := by decide +kernel
theorem dX6_addTongue_19 : decode cX6_addTongue 19 = .ok (.aload_n 0, 1) := by decide +kernel
theorem dX6_addTongue_20 : decode cX6_addTongue 20 = .ok (.dup, 1) := by decide +kernel
theorem dX6_addTongue_21 : decode cX6_addTongue 21 = .ok (.getfield 27, 3) := by decide +kernel
theorem dX6_addTongue_24 : decode cX6_addTongue 24 = .ok (.iconst 1, 1) := by decide +kernel
theorem dX6_addTongue_25 : decode cX6_addTongue 25 = .ok (.iadd, 1) := by decide +kernel
theorem dX6_addTongue_26 : decode cX6_addTongue 26 = .ok (.putfield 27, 3) := by decide +kernel
theorem dX6_addTongue_29 : decode cX6_addTongue 29 = .ok (.return_, 1) := by decide +kernel
abbrev cX6_addWord : ByteArray := prog_8_method_20_code
def yX6_addWord : MethodName := ⟨"DayTongues$Port", "addWord", "(I)V"⟩
def mX6_addWord : dt_MD := (yX6_addWord, cX6_addWord, 4, none)
theorem dX6_addWord_0 : decode cX6_addWord 0 = .ok (.aload_n 0, 1) := by decide +kernel
theorem dX6_addWord_1 : decode cX6_addWord 1 = .ok (.getfield 27, 3) := by decide +kernel
theorem dX6_addWord_4 : decode cX6_addWord 4 = .ok (.iconst 1, 1) := by decide +kernel
theorem dX6_addWord_5 : decode cX6_addWord 5 = .ok (.isub, 1) := by decide +kernel
theorem dX6_addWord_6 : decode cX6_addWord 6 = .ok (.istore_n 2, 1) := by decide +kernel
theorem dX6_addWord_7 : decode cX6_addWord 7 = .ok (.aload_n 0, 1) := by decide +kernel
theorem dX6_addWord_8 : decode cX6_addWord 8 = .ok (.iload_n 2, 1) := by decide +kernel
theorem dX6_addWord_9 : decode cX6_addWord 9 = .ok (.invokevirtual 41, 3) := by decide +kernel
theorem dX6_addWord_12 : decode cX6_addWord 12 = .ok (.ifCond .eq 49, 3) := by decide +kernel
theorem dX6_addWord_15 : decode cX6_addWord 15 = .ok (.aload_n 0, 1) := by decide +kernel
theorem dX6_addWord_16 : decode cX6_addWord 16 = .ok (.getfield 9, 3) := by decide +kernel
theorem dX6_addWord_19 : decode cX6_addWord 19 = .ok (.iload_n 2, 1) := by decide +kernel
theorem dX6_addWord_20 : decode cX6_addWord 20 = .ok (.iaload, 1) := by decide +kernel
theorem dX6_addWord_21 : decode cX6_addWord 21 = .ok (.bipush 8, 2) := by decide +kernel
theorem dX6_addWord_23 : decode cX6_addWord 23 = .ok (.if_icmp .ge 38, 3) := by decide +kernel
theorem dX6_addWord_26 : decode cX6_addWord 26 = .ok (.iload_n 2, 1) := by decide +kernel
theorem dX6_addWord_27 : decode cX6_addWord 27 = .ok (.aload_n 0, 1) := by decide +kernel
theorem dX6_addWord_28 : decode cX6_addWord 28 = .ok (.getfield 9, 3) := by decide +kernel
theorem dX6_addWord_31 : decode cX6_addWord 31 = .ok (.iload_n 2, 1) := by decide +kernel
theorem dX6_addWord_32 : decode cX6_addWord 32 = .ok (.iaload, 1) := by decide +kernel
theorem dX6_addWord_33 : decode cX6_addWord 33 = .ok (.invokestatic 56, 3) := by decide +kernel
theorem dX6_addWord_36 : decode cX6_addWord 36 = .ok (.istore_n 3, 1) := by decide +kernel
theorem dX6_addWord_37 : decode cX6_addWord 37 = .ok (.aload_n 0, 1) := by decide +kernel
theorem dX6_addWord_38 : decode cX6_addWord 38 = .ok (.getfield 15, 3) := by decide +kernel
theorem dX6_addWord_41 : decode cX6_addWord 41 = .ok (.iload_n 3, 1) := by decide +kernel
theorem dX6_addWord_42 : decode cX6_addWord 42 = .ok (.iload_n 1, 1) := by decide +kernel
theorem dX6_addWord_43 : decode cX6_addWord 43 = .ok (.iastore, 1) := by decide +kernel
theorem dX6_addWord_44 : decode cX6_addWord 44 = .ok (.aload_n 0, 1) := by decide +kernel
theorem dX6_addWord_45 : decode cX6_addWord 45 = .ok (.getfield 18, 3) := by decide +kernel
theorem dX6_addWord_48 : decode cX6_addWord 48 = .ok (.iload_n 3, 1) := by decide +kernel
theorem dX6_addWord_49 : decode cX6_addWord 49 = .ok (.iconst 0, 1) := by decide +kernel
theorem dX6_addWord_50 : decode cX6_addWord 50 = .ok (.iastore, 1) := by decide +kernel
theorem dX6_addWord_51 : decode cX6_addWord 51 = .ok (.aload_n 0, 1) := by decide +kernel
theorem dX6_addWord_52 : decode cX6_addWord 52 = .ok (.getfield 9, 3) := by decide +kernel
theorem dX6_addWord_55 : decode cX6_addWord 55 = .ok (.iload_n 2, 1) := by decide +kernel
theorem dX6_addWord_56 : decode cX6_addWord 56 = .ok (.dup2, 1) := by decide +kernel
theorem dX6_addWord_57 : decode cX6_addWord 57 = .ok (.iaload, 1) := by decide +kernel
theorem dX6_addWord_58 : decode cX6_addWord 58 = .ok (.iconst 1, 1) := by decide +kernel
theorem dX6_addWord_59 : decode cX6_addWord 59 = .ok (.iadd, 1) := by decide +kernel
theorem dX6_addWord_60 : decode cX6_addWord 60 = .ok (.iastore, 1) := by decide +kernel
theorem dX6_addWord_61 : decode cX6_addWord 61 = .ok (.return_, 1) := by decide +kernel
abbrev cX6_addReading : ByteArray := prog_8_method_21_code
def yX6_addReading : MethodName := ⟨"DayTongues$Port", "addReading", "(I)V"⟩
def mX6_addReading : dt_MD := (yX6_addReading, cX6_addReading, 6, none)
theorem dX6_addReading_0 : decode cX6_addReading 0 = .ok (.aload_n 0, 1) := by decide +kernel
theorem dX6_addReading_1 : decode cX6_addReading 1 = .ok (.getfield 27, 3) := by decide +kernel
theorem dX6_addReading_4 : decode cX6_addReading 4 = .ok (.iconst 1, 1) := by decide +kernel
theorem dX6_addReading_5 : decode cX6_addReading 5 = .ok (.isub, 1) := by decide +kernel
theorem dX6_addReading_6 : decode cX6_addReading 6 = .ok (.istore_n 2, 1) := by decide +kernel
theorem dX6_addReading_7 : decode cX6_addReading 7 = .ok (.aload_n 0, 1) := by decide +kernel
theorem dX6_addReading_8 : decode cX6_addReading 8 = .ok (.iload_n 2, 1) := by decide +kernel
theorem dX6_addReading_9 : decode cX6_addReading 9 = .ok (.invokevirtual 45, 3) := by decide +kernel
theorem dX6_addReading_12 : decode cX6_addReading 12 = .ok (.iconst 1, 1) := by decide +kernel
theorem dX6_addReading_13 : decode cX6_addReading 13 = .ok (.isub, 1) := by decide +kernel
theorem dX6_addReading_14 : decode cX6_addReading 14 = .ok (.istore_n 3, 1) := by decide +kernel
theorem dX6_addReading_15 : decode cX6_addReading 15 = .ok (.aload_n 0, 1) := by decide +kernel
theorem dX6_addReading_16 : decode cX6_addReading 16 = .ok (.iload_n 2, 1) := by decide +kernel
theorem dX6_addReading_17 : decode cX6_addReading 17 = .ok (.iload_n 3, 1) := by decide +kernel
theorem dX6_addReading_18 : decode cX6_addReading 18 = .ok (.invokevirtual 52, 3) := by decide +kernel
theorem dX6_addReading_21 : decode cX6_addReading 21 = .ok (.ifCond .ne 4, 3) := by decide +kernel
theorem dX6_addReading_24 : decode cX6_addReading 24 = .ok (.return_, 1) := by decide +kernel
theorem dX6_addReading_25 : decode cX6_addReading 25 = .ok (.iload_n 2, 1) := by decide +kernel
theorem dX6_addReading_26 : decode cX6_addReading 26 = .ok (.iload_n 3, 1) := by decide +kernel
theorem dX6_addReading_27 : decode cX6_addReading 27 = .ok (.invokestatic 56, 3) := by decide +kernel
theorem dX6_addReading_30 : decode cX6_addReading 30 = .ok (.istore 4, 2) := by decide +kernel
theorem dX6_addReading_32 : decode cX6_addReading 32 = .ok (.aload_n 0, 1) := by decide +kernel
theorem dX6_addReading_33 : decode cX6_addReading 33 = .ok (.getfield 18, 3) := by decide +kernel
theorem dX6_addReading_36 : decode cX6_addReading 36 = .ok (.iload 4, 2) := by decide +kernel
theorem dX6_addReading_38 : decode cX6_addReading 38 = .ok (.iaload, 1) := by decide +kernel
theorem dX6_addReading_39 : decode cX6_addReading 39 = .ok (.istore 5, 2) := by decide +kernel
theorem dX6_addReading_41 : decode cX6_addReading 41 = .ok (.iconst 0, 1) := by decide +kernel
theorem dX6_addReading_42 : decode cX6_addReading 42 = .ok (.iload 5, 2) := by decide +kernel
theorem dX6_addReading_44 : decode cX6_addReading 44 = .ok (.if_icmp .gt 33, 3) := by decide +kernel
theorem dX6_addReading_47 : decode cX6_addReading 47 = .ok (.iload 5, 2) := by decide +kernel
theorem dX6_addReading_49 : decode cX6_addReading 49 = .ok (.iconst 3, 1) := by decide +kernel
theorem dX6_addReading_50 : decode cX6_addReading 50 = .ok (.if_icmp .ge 27, 3) := by decide +kernel
theorem dX6_addReading_53 : decode cX6_addReading 53 = .ok (.aload_n 0, 1) := by decide +kernel
theorem dX6_addReading_54 : decode cX6_addReading 54 = .ok (.getfield 21, 3) := by decide +kernel
theorem dX6_addReading_57 : decode cX6_addReading 57 = .ok (.iload 4, 2) := by decide +kernel
theorem dX6_addReading_59 : decode cX6_addReading 59 = .ok (.iconst 3, 1) := by decide +kernel
theorem dX6_addReading_60 : decode cX6_addReading 60 = .ok (.imul, 1) := by decide +kernel
theorem dX6_addReading_61 : decode cX6_addReading 61 = .ok (.iload 5, 2) := by decide +kernel
theorem dX6_addReading_63 : decode cX6_addReading 63 = .ok (.iadd, 1) := by decide +kernel
theorem dX6_addReading_64 : decode cX6_addReading 64 = .ok (.iload_n 1, 1) := by decide +kernel
theorem dX6_addReading_65 : decode cX6_addReading 65 = .ok (.iastore, 1) := by decide +kernel
theorem dX6_addReading_66 : decode cX6_addReading 66 = .ok (.aload_n 0, 1) := by decide +kernel
theorem dX6_addReading_67 : decode cX6_addReading 67 = .ok (.getfield 18, 3) := by decide +kernel
theorem dX6_addReading_70 : decode cX6_addReading 70 = .ok (.iload 4, 2) := by decide +kernel
theorem dX6_addReading_72 : decode cX6_addReading 72 = .ok (.dup2, 1) := by decide +kernel
theorem dX6_addReading_73 : decode cX6_addReading 73 = .ok (.iaload, 1) := by decide +kernel
theorem dX6_addReading_74 : decode cX6_addReading 74 = .ok (.iconst 1, 1) := by decide +kernel
theorem dX6_addReading_75 : decode cX6_addReading 75 = .ok (.iadd, 1) := by decide +kernel
theorem dX6_addReading_76 : decode cX6_addReading 76 = .ok (.iastore, 1) := by decide +kernel
theorem dX6_addReading_77 : decode cX6_addReading 77 = .ok (.return_, 1) := by decide +kernel
abbrev cX6_addPerson : ByteArray := prog_8_method_22_code
def yX6_addPerson : MethodName := ⟨"DayTongues$Port", "addPerson", "(I)V"⟩
def mX6_addPerson : dt_MD := (yX6_addPerson, cX6_addPerson, 2, none)
theorem dX6_addPerson_0 : decode cX6_addPerson 0 = .ok (.aload_n 0, 1) := by decide +kernel
theorem dX6_addPerson_1 : decode cX6_addPerson 1 = .ok (.getfield 31, 3) := by decide +kernel
theorem dX6_addPerson_4 : decode cX6_addPerson 4 = .ok (.bipush 8, 2) := by decide +kernel
theorem dX6_addPerson_6 : decode cX6_addPerson 6 = .ok (.if_icmp .ge 23, 3) := by decide +kernel
theorem dX6_addPerson_9 : decode cX6_addPerson 9 = .ok (.aload_n 0, 1) := by decide +kernel
theorem dX6_addPerson_10 : decode cX6_addPerson 10 = .ok (.getfield 24, 3) := by decide +kernel
theorem dX6_addPerson_13 : decode cX6_addPerson 13 = .ok (.aload_n 0, 1) := by decide +kernel
theorem dX6_addPerson_14 : decode cX6_addPerson 14 = .ok (.getfield 31, 3) := by decide +kernel
theorem dX6_addPerson_17 : decode cX6_addPerson 17 = .ok (.iload_n 1, 1) := by decide +kernel
theorem dX6_addPerson_18 : decode cX6_addPerson 18 = .ok (.iastore, 1) := by decide +kernel
theorem dX6_addPerson_19 : decode cX6_addPerson 19 = .ok (.aload_n 0, 1) := by decide +kernel
theorem dX6_addPerson_20 : decode cX6_addPerson 20 = .ok (.dup, 1) := by decide +kernel
theorem dX6_addPerson_21 : decode cX6_addPerson 21 = .ok (.getfield 31, 3) := by decide +kernel
theorem dX6_addPerson_24 : decode cX6_addPerson 24 = .ok (.iconst 1, 1) := by decide +kernel
theorem dX6_addPerson_25 : decode cX6_addPerson 25 = .ok (.iadd, 1) := by decide +kernel
theorem dX6_addPerson_26 : decode cX6_addPerson 26 = .ok (.putfield 31, 3) := by decide +kernel
theorem dX6_addPerson_29 : decode cX6_addPerson 29 = .ok (.return_, 1) := by decide +kernel
abbrev cX6_become : ByteArray := prog_8_method_23_code
def yX6_become : MethodName := ⟨"DayTongues$Port", "become", "(LDayTongues$Port;)V"⟩
def mX6_become : dt_MD := (yX6_become, cX6_become, 2, none)
theorem dX6_become_0 : decode cX6_become 0 = .ok (.aload_n 1, 1) := by decide +kernel
theorem dX6_become_1 : decode cX6_become 1 = .ok (.getfield 9, 3) := by decide +kernel
theorem dX6_become_4 : decode cX6_become 4 = .ok (.iconst 0, 1) := by decide +kernel
theorem dX6_become_5 : decode cX6_become 5 = .ok (.aload_n 0, 1) := by decide +kernel
theorem dX6_become_6 : decode cX6_become 6 = .ok (.getfield 9, 3) := by decide +kernel
theorem dX6_become_9 : decode cX6_become 9 = .ok (.iconst 0, 1) := by decide +kernel
theorem dX6_become_10 : decode cX6_become 10 = .ok (.aload_n 0, 1) := by decide +kernel
theorem dX6_become_11 : decode cX6_become 11 = .ok (.getfield 9, 3) := by decide +kernel
theorem dX6_become_14 : decode cX6_become 14 = .ok (.arraylength, 1) := by decide +kernel
theorem dX6_become_15 : decode cX6_become 15 = .ok (.invokestatic 70, 3) := by decide +kernel
theorem dX6_become_18 : decode cX6_become 18 = .ok (.aload_n 1, 1) := by decide +kernel
theorem dX6_become_19 : decode cX6_become 19 = .ok (.getfield 15, 3) := by decide +kernel
theorem dX6_become_22 : decode cX6_become 22 = .ok (.iconst 0, 1) := by decide +kernel
theorem dX6_become_23 : decode cX6_become 23 = .ok (.aload_n 0, 1) := by decide +kernel
theorem dX6_become_24 : decode cX6_become 24 = .ok (.getfield 15, 3) := by decide +kernel
theorem dX6_become_27 : decode cX6_become 27 = .ok (.iconst 0, 1) := by decide +kernel
theorem dX6_become_28 : decode cX6_become 28 = .ok (.aload_n 0, 1) := by decide +kernel
theorem dX6_become_29 : decode cX6_become 29 = .ok (.getfield 15, 3) := by decide +kernel
theorem dX6_become_32 : decode cX6_become 32 = .ok (.arraylength, 1) := by decide +kernel
theorem dX6_become_33 : decode cX6_become 33 = .ok (.invokestatic 70, 3) := by decide +kernel
theorem dX6_become_36 : decode cX6_become 36 = .ok (.aload_n 1, 1) := by decide +kernel
theorem dX6_become_37 : decode cX6_become 37 = .ok (.getfield 18, 3) := by decide +kernel
theorem dX6_become_40 : decode cX6_become 40 = .ok (.iconst 0, 1) := by decide +kernel
theorem dX6_become_41 : decode cX6_become 41 = .ok (.aload_n 0, 1) := by decide +kernel
theorem dX6_become_42 : decode cX6_become 42 = .ok (.getfield 18, 3) := by decide +kernel
theorem dX6_become_45 : decode cX6_become 45 = .ok (.iconst 0, 1) := by decide +kernel
theorem dX6_become_46 : decode cX6_become 46 = .ok (.aload_n 0, 1) := by decide +kernel
theorem dX6_become_47 : decode cX6_become 47 = .ok (.getfield 18, 3) := by decide +kernel
theorem dX6_become_50 : decode cX6_become 50 = .ok (.arraylength, 1) := by decide +kernel
theorem dX6_become_51 : decode cX6_become 51 = .ok (.invokestatic 70, 3) := by decide +kernel
theorem dX6_become_54 : decode cX6_become 54 = .ok (.aload_n 1, 1) := by decide +kernel
theorem dX6_become_55 : decode cX6_become 55 = .ok (.getfield 21, 3) := by decide +kernel
theorem dX6_become_58 : decode cX6_become 58 = .ok (.iconst 0, 1) := by decide +kernel
theorem dX6_become_59 : decode cX6_become 59 = .ok (.aload_n 0, 1) := by decide +kernel
theorem dX6_become_60 : decode cX6_become 60 = .ok (.getfield 21, 3) := by decide +kernel
theorem dX6_become_63 : decode cX6_become 63 = .ok (.iconst 0, 1) := by decide +kernel
theorem dX6_become_64 : decode cX6_become 64 = .ok (.aload_n 0, 1) := by decide +kernel
theorem dX6_become_65 : decode cX6_become 65 = .ok (.getfield 21, 3) := by decide +kernel
theorem dX6_become_68 : decode cX6_become 68 = .ok (.arraylength, 1) := by decide +kernel
theorem dX6_become_69 : decode cX6_become 69 = .ok (.invokestatic 70, 3) := by decide +kernel
theorem dX6_become_72 : decode cX6_become 72 = .ok (.aload_n 1, 1) := by decide +kernel
theorem dX6_become_73 : decode cX6_become 73 = .ok (.getfield 24, 3) := by decide +kernel
theorem dX6_become_76 : decode cX6_become 76 = .ok (.iconst 0, 1) := by decide +kernel
theorem dX6_become_77 : decode cX6_become 77 = .ok (.aload_n 0, 1) := by decide +kernel
theorem dX6_become_78 : decode cX6_become 78 = .ok (.getfield 24, 3) := by decide +kernel
theorem dX6_become_81 : decode cX6_become 81 = .ok (.iconst 0, 1) := by decide +kernel
theorem dX6_become_82 : decode cX6_become 82 = .ok (.aload_n 0, 1) := by decide +kernel
theorem dX6_become_83 : decode cX6_become 83 = .ok (.getfield 24, 3) := by decide +kernel
theorem dX6_become_86 : decode cX6_become 86 = .ok (.arraylength, 1) := by decide +kernel
theorem dX6_become_87 : decode cX6_become 87 = .ok (.invokestatic 70, 3) := by decide +kernel
theorem dX6_become_90 : decode cX6_become 90 = .ok (.aload_n 0, 1) := by decide +kernel
theorem dX6_become_91 : decode cX6_become 91 = .ok (.aload_n 1, 1) := by decide +kernel
theorem dX6_become_92 : decode cX6_become 92 = .ok (.getfield 27, 3) := by decide +kernel
theorem dX6_become_95 : decode cX6_become 95 = .ok (.putfield 27, 3) := by decide +kernel
theorem dX6_become_98 : decode cX6_become 98 = .ok (.aload_n 0, 1) := by decide +kernel
theorem dX6_become_99 : decode cX6_become 99 = .ok (.aload_n 1, 1) := by decide +kernel
theorem dX6_become_100 : decode cX6_become 100 = .ok (.getfield 31, 3) := by decide +kernel
theorem dX6_become_103 : decode cX6_become 103 = .ok (.putfield 31, 3) := by decide +kernel
theorem dX6_become_106 : decode cX6_become 106 = .ok (.aload_n 0, 1) := by decide +kernel
theorem dX6_become_107 : decode cX6_become 107 = .ok (.aload_n 1, 1) := by decide +kernel
theorem dX6_become_108 : decode cX6_become 108 = .ok (.getfield 34, 3) := by decide +kernel
theorem dX6_become_111 : decode cX6_become 111 = .ok (.putfield 34, 3) := by decide +kernel
theorem dX6_become_114 : decode cX6_become 114 = .ok (.return_, 1) := by decide +kernel
abbrev cX6_passYears : ByteArray := prog_8_method_24_code
def yX6_passYears : MethodName := ⟨"DayTongues$Port", "passYears", "(II)V"⟩
def mX6_passYears : dt_MD := (yX6_passYears, cX6_passYears, 5, none)
theorem dX6_passYears_0 : decode cX6_passYears 0 = .ok (.iload_n 2, 1) := by decide +kernel
theorem dX6_passYears_1 : decode cX6_passYears 1 = .ok (.istore_n 3, 1) := by decide +kernel
theorem dX6_passYears_2 : decode cX6_passYears 2 = .ok (.iconst 0, 1) := by decide +kernel
theorem dX6_passYears_3 : decode cX6_passYears 3 = .ok (.istore 4, 2) := by decide +kernel
theorem dX6_passYears_5 : decode cX6_passYears 5 = .ok (.iload 4, 2) := by decide +kernel
theorem dX6_passYears_7 : decode cX6_passYears 7 = .ok (.iload_n 1, 1) := by decide +kernel
theorem dX6_passYears_8 : decode cX6_passYears 8 = .ok (.if_icmp .ge 25, 3) := by decide +kernel
theorem dX6_passYears_11 : decode cX6_passYears 11 = .ok (.aload_n 0, 1) := by decide +kernel
theorem dX6_passYears_12 : decode cX6_passYears 12 = .ok (.iload_n 3, 1) := by decide +kernel
theorem dX6_passYears_13 : decode cX6_passYears 13 = .ok (.invokevirtual 76, 3) := by decide +kernel
theorem dX6_passYears_16 : decode cX6_passYears 16 = .ok (.istore_n 3, 1) := by decide +kernel
theorem dX6_passYears_17 : decode cX6_passYears 17 = .ok (.aload_n 0, 1) := by decide +kernel
theorem dX6_passYears_18 : decode cX6_passYears 18 = .ok (.dup, 1) := by decide +kernel
theorem dX6_passYears_19 : decode cX6_passYears 19 = .ok (.getfield 34, 3) := by decide +kernel
theorem dX6_passYears_22 : decode cX6_passYears 22 = .ok (.iconst 1, 1) := by decide +kernel
theorem dX6_passYears_23 : decode cX6_passYears 23 = .ok (.iadd, 1) := by decide +kernel
theorem dX6_passYears_24 : decode cX6_passYears 24 = .ok (.putfield 34, 3) := by decide +kernel
theorem dX6_passYears_27 : decode cX6_passYears 27 = .ok (.iinc 4 1, 3) := by decide +kernel
theorem dX6_passYears_30 : decode cX6_passYears 30 = .ok (.goto (-25), 3) := by decide +kernel
theorem dX6_passYears_33 : decode cX6_passYears 33 = .ok (.return_, 1) := by decide +kernel
abbrev cX6_passYear : ByteArray := prog_8_method_25_code
def yX6_passYear : MethodName := ⟨"DayTongues$Port", "passYear", "(I)I"⟩
def mX6_passYear : dt_MD := (yX6_passYear, cX6_passYear, 7, some .int)
theorem dX6_passYear_0 : decode cX6_passYear 0 = .ok (.iload_n 1, 1) := by decide +kernel
theorem dX6_passYear_1 : decode cX6_passYear 1 = .ok (.invokestatic 79, 3) := by decide +kernel
theorem dX6_passYear_4 : decode cX6_passYear 4 = .ok (.istore_n 2, 1) := by decide +kernel
theorem dX6_passYear_5 : decode cX6_passYear 5 = .ok (.iload_n 2, 1) := by decide +kernel
theorem dX6_passYear_6 : decode cX6_passYear 6 = .ok (.aload_n 0, 1) := by decide +kernel
theorem dX6_passYear_7 : decode cX6_passYear 7 = .ok (.getfield 27, 3) := by decide +kernel
theorem dX6_passYear_10 : decode cX6_passYear 10 = .ok (.invokestatic 37, 3) := by decide +kernel
theorem dX6_passYear_13 : decode cX6_passYear 13 = .ok (.istore_n 3, 1) := by decide +kernel
theorem dX6_passYear_14 : decode cX6_passYear 14 = .ok (.iload_n 2, 1) := by decide +kernel
theorem dX6_passYear_15 : decode cX6_passYear 15 = .ok (.invokestatic 79, 3) := by decide +kernel
theorem dX6_passYear_18 : decode cX6_passYear 18 = .ok (.istore_n 2, 1) := by decide +kernel
theorem dX6_passYear_19 : decode cX6_passYear 19 = .ok (.aload_n 0, 1) := by decide +kernel
theorem dX6_passYear_20 : decode cX6_passYear 20 = .ok (.iload_n 3, 1) := by decide +kernel
theorem dX6_passYear_21 : decode cX6_passYear 21 = .ok (.invokevirtual 45, 3) := by decide +kernel
theorem dX6_passYear_24 : decode cX6_passYear 24 = .ok (.istore 4, 2) := by decide +kernel
theorem dX6_passYear_26 : decode cX6_passYear 26 = .ok (.iload 4, 2) := by decide +kernel
theorem dX6_passYear_28 : decode cX6_passYear 28 = .ok (.ifCond .ne 5, 3) := by decide +kernel
theorem dX6_passYear_31 : decode cX6_passYear 31 = .ok (.iload_n 2, 1) := by decide +kernel
theorem dX6_passYear_32 : decode cX6_passYear 32 = .ok (.ireturn, 1) := by decide +kernel
theorem dX6_passYear_33 : decode cX6_passYear 33 = .ok (.iload_n 2, 1) := by decide +kernel
theorem dX6_passYear_34 : decode cX6_passYear 34 = .ok (.iload 4, 2) := by decide +kernel
theorem dX6_passYear_36 : decode cX6_passYear 36 = .ok (.invokestatic 37, 3) := by decide +kernel
theorem dX6_passYear_39 : decode cX6_passYear 39 = .ok (.istore 5, 2) := by decide +kernel
theorem dX6_passYear_41 : decode cX6_passYear 41 = .ok (.iload_n 2, 1) := by decide +kernel
theorem dX6_passYear_42 : decode cX6_passYear 42 = .ok (.invokestatic 79, 3) := by decide +kernel
theorem dX6_passYear_45 : decode cX6_passYear 45 = .ok (.istore_n 2, 1) := by decide +kernel
theorem dX6_passYear_46 : decode cX6_passYear 46 = .ok (.iload_n 2, 1) := by decide +kernel
theorem dX6_passYear_47 : decode cX6_passYear 47 = .ok (.aload_n 0, 1) := by decide +kernel
theorem dX6_passYear_48 : decode cX6_passYear 48 = .ok (.iload_n 3, 1) := by decide +kernel
theorem dX6_passYear_49 : decode cX6_passYear 49 = .ok (.iload 5, 2) := by decide +kernel
theorem dX6_passYear_51 : decode cX6_passYear 51 = .ok (.invokevirtual 63, 3) := by decide +kernel
theorem dX6_passYear_54 : decode cX6_passYear 54 = .ok (.invokestatic 37, 3) := by decide +kernel
theorem dX6_passYear_57 : decode cX6_passYear 57 = .ok (.istore 6, 2) := by decide +kernel
theorem dX6_passYear_59 : decode cX6_passYear 59 = .ok (.iload_n 2, 1) := by decide +kernel
theorem dX6_passYear_60 : decode cX6_passYear 60 = .ok (.invokestatic 79, 3) := by decide +kernel
theorem dX6_passYear_63 : decode cX6_passYear 63 = .ok (.istore_n 2, 1) := by decide +kernel
theorem dX6_passYear_64 : decode cX6_passYear 64 = .ok (.aload_n 0, 1) := by decide +kernel
theorem dX6_passYear_65 : decode cX6_passYear 65 = .ok (.iload_n 3, 1) := by decide +kernel
theorem dX6_passYear_66 : decode cX6_passYear 66 = .ok (.iload 5, 2) := by decide +kernel
theorem dX6_passYear_68 : decode cX6_passYear 68 = .ok (.iload 6, 2) := by decide +kernel
theorem dX6_passYear_70 : decode cX6_passYear 70 = .ok (.iconst 1, 1) := by decide +kernel
theorem dX6_passYear_71 : decode cX6_passYear 71 = .ok (.iload_n 2, 1) := by decide +kernel
theorem dX6_passYear_72 : decode cX6_passYear 72 = .ok (.bipush 8, 2) := by decide +kernel
theorem dX6_passYear_74 : decode cX6_passYear 74 = .ok (.invokestatic 37, 3) := by decide +kernel
theorem dX6_passYear_77 : decode cX6_passYear 77 = .ok (.ishl, 1) := by decide +kernel
theorem dX6_passYear_78 : decode cX6_passYear 78 = .ok (.invokevirtual 82, 3) := by decide +kernel
theorem dX6_passYear_81 : decode cX6_passYear 81 = .ok (.iload_n 2, 1) := by decide +kernel
theorem dX6_passYear_82 : decode cX6_passYear 82 = .ok (.ireturn, 1) := by decide +kernel
abbrev cX6_turn : ByteArray := prog_8_method_26_code
def yX6_turn : MethodName := ⟨"DayTongues$Port", "turn", "(IIII)V"⟩
def mX6_turn : dt_MD := (yX6_turn, cX6_turn, 6, none)
theorem dX6_turn_0 : decode cX6_turn 0 = .ok (.aload_n 0, 1) := by decide +kernel
theorem dX6_turn_1 : decode cX6_turn 1 = .ok (.iload_n 1, 1) := by decide +kernel
theorem dX6_turn_2 : decode cX6_turn 2 = .ok (.iload_n 2, 1) := by decide +kernel
theorem dX6_turn_3 : decode cX6_turn 3 = .ok (.iload_n 3, 1) := by decide +kernel
theorem dX6_turn_4 : decode cX6_turn 4 = .ok (.invokevirtual 66, 3) := by decide +kernel
theorem dX6_turn_7 : decode cX6_turn 7 = .ok (.iload 4, 2) := by decide +kernel
theorem dX6_turn_9 : decode cX6_turn 9 = .ok (.ixor, 1) := by decide +kernel
theorem dX6_turn_10 : decode cX6_turn 10 = .ok (.istore 5, 2) := by decide +kernel
theorem dX6_turn_12 : decode cX6_turn 12 = .ok (.iload 5, 2) := by decide +kernel
theorem dX6_turn_14 : decode cX6_turn 14 = .ok (.ifCond .eq 29, 3) := by decide +kernel
theorem dX6_turn_17 : decode cX6_turn 17 = .ok (.aload_n 0, 1) := by decide +kernel
theorem dX6_turn_18 : decode cX6_turn 18 = .ok (.iload_n 1, 1) := by decide +kernel
theorem dX6_turn_19 : decode cX6_turn 19 = .ok (.iload_n 2, 1) := by decide +kernel
theorem dX6_turn_20 : decode cX6_turn 20 = .ok (.iload_n 3, 1) := by decide +kernel
theorem dX6_turn_21 : decode cX6_turn 21 = .ok (.invokevirtual 59, 3) := by decide +kernel
theorem dX6_turn_24 : decode cX6_turn 24 = .ok (.ifCond .eq 19, 3) := by decide +kernel
theorem dX6_turn_27 : decode cX6_turn 27 = .ok (.aload_n 0, 1) := by decide +kernel
theorem dX6_turn_28 : decode cX6_turn 28 = .ok (.getfield 21, 3) := by decide +kernel
theorem dX6_turn_31 : decode cX6_turn 31 = .ok (.iload_n 1, 1) := by decide +kernel
theorem dX6_turn_32 : decode cX6_turn 32 = .ok (.iload_n 2, 1) := by decide +kernel
theorem dX6_turn_33 : decode cX6_turn 33 = .ok (.invokestatic 56, 3) := by decide +kernel
theorem dX6_turn_36 : decode cX6_turn 36 = .ok (.iconst 3, 1) := by decide +kernel
theorem dX6_turn_37 : decode cX6_turn 37 = .ok (.imul, 1) := by decide +kernel
theorem dX6_turn_38 : decode cX6_turn 38 = .ok (.iload_n 3, 1) := by decide +kernel
theorem dX6_turn_39 : decode cX6_turn 39 = .ok (.iadd, 1) := by decide +kernel
theorem dX6_turn_40 : decode cX6_turn 40 = .ok (.iload 5, 2) := by decide +kernel
theorem dX6_turn_42 : decode cX6_turn 42 = .ok (.iastore, 1) := by decide +kernel
theorem dX6_turn_43 : decode cX6_turn 43 = .ok (.return_, 1) := by decide +kernel
abbrev cX6_hasReading : ByteArray := prog_8_method_27_code
def yX6_hasReading : MethodName := ⟨"DayTongues$Port", "hasReading", "(III)Z"⟩
def mX6_hasReading : dt_MD := (yX6_hasReading, cX6_hasReading, 4, some .boolean)
theorem dX6_hasReading_0 : decode cX6_hasReading 0 = .ok (.aload_n 0, 1) := by decide +kernel
theorem dX6_hasReading_1 : decode cX6_hasReading 1 = .ok (.iload_n 1, 1) := by decide +kernel
theorem dX6_hasReading_2 : decode cX6_hasReading 2 = .ok (.iload_n 2, 1) := by decide +kernel
theorem dX6_hasReading_3 : decode cX6_hasReading 3 = .ok (.invokevirtual 52, 3) := by decide +kernel
theorem dX6_hasReading_6 : decode cX6_hasReading 6 = .ok (.ifCond .eq 31, 3) := by decide +kernel
theorem dX6_hasReading_9 : decode cX6_hasReading 9 = .ok (.iconst 0, 1) := by decide +kernel
theorem dX6_hasReading_10 : decode cX6_hasReading 10 = .ok (.iload_n 3, 1) := by decide +kernel
theorem dX6_hasReading_11 : decode cX6_hasReading 11 = .ok (.if_icmp .gt 26, 3) := by decide +kernel
theorem dX6_hasReading_14 : decode cX6_hasReading 14 = .ok (.iload_n 3, 1) := by decide +kernel
theorem dX6_hasReading_15 : decode cX6_hasReading 15 = .ok (.iconst 3, 1) := by decide +kernel
theorem dX6_hasReading_16 : decode cX6_hasReading 16 = .ok (.if_icmp .ge 21, 3) := by decide +kernel
theorem dX6_hasReading_19 : decode cX6_hasReading 19 = .ok (.iload_n 3, 1) := by decide +kernel
theorem dX6_hasReading_20 : decode cX6_hasReading 20 = .ok (.aload_n 0, 1) := by decide +kernel
theorem dX6_hasReading_21 : decode cX6_hasReading 21 = .ok (.getfield 18, 3) := by decide +kernel
theorem dX6_hasReading_24 : decode cX6_hasReading 24 = .ok (.iload_n 1, 1) := by decide +kernel
theorem dX6_hasReading_25 : decode cX6_hasReading 25 = .ok (.iload_n 2, 1) := by decide +kernel
theorem dX6_hasReading_26 : decode cX6_hasReading 26 = .ok (.invokestatic 56, 3) := by decide +kernel
theorem dX6_hasReading_29 : decode cX6_hasReading 29 = .ok (.iaload, 1) := by decide +kernel
theorem dX6_hasReading_30 : decode cX6_hasReading 30 = .ok (.if_icmp .ge 7, 3) := by decide +kernel
theorem dX6_hasReading_33 : decode cX6_hasReading 33 = .ok (.iconst 1, 1) := by decide +kernel
theorem dX6_hasReading_34 : decode cX6_hasReading 34 = .ok (.goto 4, 3) := by decide +kernel
theorem dX6_hasReading_37 : decode cX6_hasReading 37 = .ok (.iconst 0, 1) := by decide +kernel
theorem dX6_hasReading_38 : decode cX6_hasReading 38 = .ok (.ireturn, 1) := by decide +kernel
abbrev cX6_slotOf : ByteArray := prog_8_method_28_code
def yX6_slotOf : MethodName := ⟨"DayTongues$Port", "slotOf", "(II)I"⟩
def mX6_slotOf : dt_MD := (yX6_slotOf, cX6_slotOf, 2, some .int)
theorem dX6_slotOf_0 : decode cX6_slotOf 0 = .ok (.iload_n 0, 1) := by decide +kernel
theorem dX6_slotOf_1 : decode cX6_slotOf 1 = .ok (.bipush 8, 2) := by decide +kernel
theorem dX6_slotOf_3 : decode cX6_slotOf 3 = .ok (.imul, 1) := by decide +kernel
theorem dX6_slotOf_4 : decode cX6_slotOf 4 = .ok (.iload_n 1, 1) := by decide +kernel
theorem dX6_slotOf_5 : decode cX6_slotOf 5 = .ok (.iadd, 1) := by decide +kernel
theorem dX6_slotOf_6 : decode cX6_slotOf 6 = .ok (.ireturn, 1) := by decide +kernel
abbrev cX6_draw : ByteArray := prog_8_method_29_code
def yX6_draw : MethodName := ⟨"DayTongues$Port", "draw", "(I)I"⟩
def mX6_draw : dt_MD := (yX6_draw, cX6_draw, 1, some .int)
theorem dX6_draw_0 : decode cX6_draw 0 = .ok (.iload_n 0, 1) := by decide +kernel
theorem dX6_draw_1 : decode cX6_draw 1 = .ok (.i2l, 1) := by decide +kernel
theorem dX6_draw_2 : decode cX6_draw 2 = .ok (.ldc2_w 86, 3) := by decide +kernel
theorem dX6_draw_5 : decode cX6_draw 5 = .ok (.lmul, 1) := by decide +kernel
theorem dX6_draw_6 : decode cX6_draw 6 = .ok (.ldc2_w 88, 3) := by decide +kernel
theorem dX6_draw_9 : decode cX6_draw 9 = .ok (.lrem, 1) := by decide +kernel
theorem dX6_draw_10 : decode cX6_draw 10 = .ok (.l2i, 1) := by decide +kernel
theorem dX6_draw_11 : decode cX6_draw 11 = .ok (.ireturn, 1) := by decide +kernel
abbrev cX6_rest : ByteArray := prog_8_method_30_code
def yX6_rest : MethodName := ⟨"DayTongues$Port", "rest", "(II)I"⟩
def mX6_rest : dt_MD := (yX6_rest, cX6_rest, 2, some .int)
theorem dX6_rest_0 : decode cX6_rest 0 = .ok (.iload_n 1, 1) := by decide +kernel
theorem dX6_rest_1 : decode cX6_rest 1 = .ok (.ifCond .le 9, 3) := by decide +kernel
theorem dX6_rest_4 : decode cX6_rest 4 = .ok (.iload_n 0, 1) := by decide +kernel
theorem dX6_rest_5 : decode cX6_rest 5 = .ok (.iload_n 1, 1) := by decide +kernel
theorem dX6_rest_6 : decode cX6_rest 6 = .ok (.irem, 1) := by decide +kernel
theorem dX6_rest_7 : decode cX6_rest 7 = .ok (.goto 4, 3) := by decide +kernel
theorem dX6_rest_10 : decode cX6_rest 10 = .ok (.iconst 0, 1) := by decide +kernel
theorem dX6_rest_11 : decode cX6_rest 11 = .ok (.ireturn, 1) := by decide +kernel
abbrev cX7_init : ByteArray := prog_9_method_1_code
def yX7_init : MethodName := ⟨"DayTongues$Rows", "<init>", "()V"⟩
def mX7_init : dt_MD := (yX7_init, cX7_init, 2, none)
theorem dX7_init_0 : decode cX7_init 0 = .ok (.aload_n 0, 1) := by decide +kernel
theorem dX7_init_1 : decode cX7_init 1 = .ok (.invokespecial 1, 3) := by decide +kernel
theorem dX7_init_4 : decode cX7_init 4 = .ok (.aload_n 0, 1) := by decide +kernel
theorem dX7_init_5 : decode cX7_init 5 = .ok (.bipush 8, 2) := by decide +kernel
theorem dX7_init_7 : decode cX7_init 7 = .ok (.newarray .int, 2) := by decide +kernel
theorem dX7_init_9 : decode cX7_init 9 = .ok (.putfield 9, 3) := by decide +kernel
theorem dX7_init_12 : decode cX7_init 12 = .ok (.aload_n 0, 1) := by decide +kernel
theorem dX7_init_13 : decode cX7_init 13 = .ok (.bipush 8, 2) := by decide +kernel
theorem dX7_init_15 : decode cX7_init 15 = .ok (.newarray .int, 2) := by decide +kernel
theorem dX7_init_17 : decode cX7_init 17 = .ok (.putfield 13, 3) := by decide +kernel
theorem dX7_init_20 : decode cX7_init 20 = .ok (.aload_n 0, 1) := by decide +kernel
theorem dX7_init_21 : decode cX7_init 21 = .ok (.sipush 320, 3) := by decide +kernel
theorem dX7_init_24 : decode cX7_init 24 = .ok (.newarray .int, 2) := by decide +kernel
theorem dX7_init_26 : decode cX7_init 26 = .ok (.putfield 16, 3) := by decide +kernel
theorem dX7_init_29 : decode cX7_init 29 = .ok (.iconst 0, 1) := by decide +kernel
theorem dX7_init_30 : decode cX7_init 30 = .ok (.istore_n 1, 1) := by decide +kernel
theorem dX7_init_31 : decode cX7_init 31 = .ok (.iload_n 1, 1) := by decide +kernel
theorem dX7_init_32 : decode cX7_init 32 = .ok (.aload_n 0, 1) := by decide +kernel
theorem dX7_init_33 : decode cX7_init 33 = .ok (.getfield 9, 3) := by decide +kernel
theorem dX7_init_36 : decode cX7_init 36 = .ok (.arraylength, 1) := by decide +kernel
theorem dX7_init_37 : decode cX7_init 37 = .ok (.if_icmp .ge 16, 3) := by decide +kernel
theorem dX7_init_40 : decode cX7_init 40 = .ok (.aload_n 0, 1) := by decide +kernel
theorem dX7_init_41 : decode cX7_init 41 = .ok (.getfield 9, 3) := by decide +kernel
theorem dX7_init_44 : decode cX7_init 44 = .ok (.iload_n 1, 1) := by decide +kernel
theorem dX7_init_45 : decode cX7_init 45 = .ok (.iconst (-1), 1) := by decide +kernel
theorem dX7_init_46 : decode cX7_init 46 = .ok (.iastore, 1) := by decide +kernel
theorem dX7_init_47 : decode cX7_init 47 = .ok (.iinc 1 1, 3) := by decide +kernel
theorem dX7_init_50 : decode cX7_init 50 = .ok (.goto (-19), 3) := by decide +kernel
theorem dX7_init_53 : decode cX7_init 53 = .ok (.return_, 1) := by decide +kernel
abbrev cX7_isOne : ByteArray := prog_9_method_2_code
def yX7_isOne : MethodName := ⟨"DayTongues$Rows", "isOne", "(I)Z"⟩
def mX7_isOne : dt_MD := (yX7_isOne, cX7_isOne, 1, some .boolean)
theorem dX7_isOne_0 : decode cX7_isOne 0 = .ok (.iconst 0, 1) := by decide +kernel
theorem dX7_isOne_1 : decode cX7_isOne 1 = .ok (.iload_n 0, 1) := by decide +kernel
theorem dX7_isOne_2 : decode cX7_isOne 2 = .ok (.if_icmp .gt 13, 3) := by decide +kernel
theorem dX7_isOne_5 : decode cX7_isOne 5 = .ok (.iload_n 0, 1) := by decide +kernel
theorem dX7_isOne_6 : decode cX7_isOne 6 = .ok (.bipush 8, 2) := by decide +kernel
theorem dX7_isOne_8 : decode cX7_isOne 8 = .ok (.if_icmp .ge 7, 3) := by decide +kernel
theorem dX7_isOne_11 : decode cX7_isOne 11 = .ok (.iconst 1, 1) := by decide +kernel
theorem dX7_isOne_12 : decode cX7_isOne 12 = .ok (.goto 4, 3) := by decide +kernel
theorem dX7_isOne_15 : decode cX7_isOne 15 = .ok (.iconst 0, 1) := by decide +kernel
theorem dX7_isOne_16 : decode cX7_isOne 16 = .ok (.ireturn, 1) := by decide +kernel
abbrev cX7_isMissing : ByteArray := prog_9_method_3_code
def yX7_isMissing : MethodName := ⟨"DayTongues$Rows", "isMissing", "(I)Z"⟩
def mX7_isMissing : dt_MD := (yX7_isMissing, cX7_isMissing, 2, some .boolean)
theorem dX7_isMissing_0 : decode cX7_isMissing 0 = .ok (.aload_n 0, 1) := by decide +kernel
theorem dX7_isMissing_1 : decode cX7_isMissing 1 = .ok (.iload_n 1, 1) := by decide +kernel
theorem dX7_isMissing_2 : decode cX7_isMissing 2 = .ok (.invokevirtual 19, 3) := by decide +kernel
theorem dX7_isMissing_5 : decode cX7_isMissing 5 = .ok (.iconst (-1), 1) := by decide +kernel
theorem dX7_isMissing_6 : decode cX7_isMissing 6 = .ok (.if_icmp .ne 7, 3) := by decide +kernel
theorem dX7_isMissing_9 : decode cX7_isMissing 9 = .ok (.iconst 1, 1) := by decide +kernel
theorem dX7_isMissing_10 : decode cX7_isMissing 10 = .ok (.goto 4, 3) := by decide +kernel
theorem dX7_isMissing_13 : decode cX7_isMissing 13 = .ok (.iconst 0, 1) := by decide +kernel
theorem dX7_isMissing_14 : decode cX7_isMissing 14 = .ok (.ireturn, 1) := by decide +kernel
abbrev cX7_laneOf : ByteArray := prog_9_method_4_code
def yX7_laneOf : MethodName := ⟨"DayTongues$Rows", "laneOf", "(I)I"⟩
def mX7_laneOf : dt_MD := (yX7_laneOf, cX7_laneOf, 2, some .int)
theorem dX7_laneOf_0 : decode cX7_laneOf 0 = .ok (.iload_n 1, 1) := by decide +kernel
theorem dX7_laneOf_1 : decode cX7_laneOf 1 = .ok (.invokestatic 23, 3) := by decide +kernel
theorem dX7_laneOf_4 : decode cX7_laneOf 4 = .ok (.ifCond .eq 12, 3) := by decide +kernel
theorem dX7_laneOf_7 : decode cX7_laneOf 7 = .ok (.aload_n 0, 1) := by decide +kernel
theorem dX7_laneOf_8 : decode cX7_laneOf 8 = .ok (.getfield 9, 3) := by decide +kernel
theorem dX7_laneOf_11 : decode cX7_laneOf 11 = .ok (.iload_n 1, 1) := by decide +kernel
theorem dX7_laneOf_12 : decode cX7_laneOf 12 = .ok (.iaload, 1) := by decide +kernel
theorem dX7_laneOf_13 : decode cX7_laneOf 13 = .ok (.goto 4, 3) := by decide +kernel
theorem dX7_laneOf_16 : decode cX7_laneOf 16 = .ok (.iconst (-1), 1) := by decide +kernel
theorem dX7_laneOf_17 : decode cX7_laneOf 17 = .ok (.ireturn, 1) := by decide +kernel
abbrev cX7_sizeOf : ByteArray := prog_9_method_5_code
def yX7_sizeOf : MethodName := ⟨"DayTongues$Rows", "sizeOf", "(I)I"⟩
def mX7_sizeOf : dt_MD := (yX7_sizeOf, cX7_sizeOf, 2, some .int)
theorem dX7_sizeOf_0 : decode cX7_sizeOf 0 = .ok (.iload_n 1, 1) := by decide +kernel
theorem dX7_sizeOf_1 : decode cX7_sizeOf 1 = .ok (.invokestatic 23, 3) := by decide +kernel
theorem dX7_sizeOf_4 : decode cX7_sizeOf 4 = .ok (.ifCond .eq 12, 3) := by decide +kernel
theorem dX7_sizeOf_7 : decode cX7_sizeOf 7 = .ok (.aload_n 0, 1) := by decide +kernel
theorem dX7_sizeOf_8 : decode cX7_sizeOf 8 = .ok (.getfield 13, 3) := by decide +kernel
theorem dX7_sizeOf_11 : decode cX7_sizeOf 11 = .ok (.iload_n 1, 1) := by decide +kernel
theorem dX7_sizeOf_12 : decode cX7_sizeOf 12 = .ok (.iaload, 1) := by decide +kernel
theorem dX7_sizeOf_13 : decode cX7_sizeOf 13 = .ok (.goto 4, 3) := by decide +kernel
theorem dX7_sizeOf_16 : decode cX7_sizeOf 16 = .ok (.iconst 0, 1) := by decide +kernel
theorem dX7_sizeOf_17 : decode cX7_sizeOf 17 = .ok (.ireturn, 1) := by decide +kernel
abbrev cX7_many : ByteArray := prog_9_method_6_code
def yX7_many : MethodName := ⟨"DayTongues$Rows", "many", "()I"⟩
def mX7_many : dt_MD := (yX7_many, cX7_many, 3, some .int)
theorem dX7_many_0 : decode cX7_many 0 = .ok (.iconst 0, 1) := by decide +kernel
theorem dX7_many_1 : decode cX7_many 1 = .ok (.istore_n 1, 1) := by decide +kernel
theorem dX7_many_2 : decode cX7_many 2 = .ok (.iconst 0, 1) := by decide +kernel
theorem dX7_many_3 : decode cX7_many 3 = .ok (.istore_n 2, 1) := by decide +kernel
theorem dX7_many_4 : decode cX7_many 4 = .ok (.iload_n 2, 1) := by decide +kernel
theorem dX7_many_5 : decode cX7_many 5 = .ok (.bipush 8, 2) := by decide +kernel
theorem dX7_many_7 : decode cX7_many 7 = .ok (.if_icmp .ge 20, 3) := by decide +kernel
theorem dX7_many_10 : decode cX7_many 10 = .ok (.aload_n 0, 1) := by decide +kernel
theorem dX7_many_11 : decode cX7_many 11 = .ok (.iload_n 2, 1) := by decide +kernel
theorem dX7_many_12 : decode cX7_many 12 = .ok (.invokevirtual 27, 3) := by decide +kernel
theorem dX7_many_15 : decode cX7_many 15 = .ok (.ifCond .ne 6, 3) := by decide +kernel
theorem dX7_many_18 : decode cX7_many 18 = .ok (.iinc 1 1, 3) := by decide +kernel
theorem dX7_many_21 : decode cX7_many 21 = .ok (.iinc 2 1, 3) := by decide +kernel
theorem dX7_many_24 : decode cX7_many 24 = .ok (.goto (-20), 3) := by decide +kernel
theorem dX7_many_27 : decode cX7_many 27 = .ok (.iload_n 1, 1) := by decide +kernel
theorem dX7_many_28 : decode cX7_many 28 = .ok (.ireturn, 1) := by decide +kernel
abbrev cX7_hasPlaces : ByteArray := prog_9_method_7_code
def yX7_hasPlaces : MethodName := ⟨"DayTongues$Rows", "hasPlaces", "(III)Z"⟩
def mX7_hasPlaces : dt_MD := (yX7_hasPlaces, cX7_hasPlaces, 4, some .boolean)
theorem dX7_hasPlaces_0 : decode cX7_hasPlaces 0 = .ok (.iload_n 2, 1) := by decide +kernel
theorem dX7_hasPlaces_1 : decode cX7_hasPlaces 1 = .ok (.ifCond .lt 31, 3) := by decide +kernel
theorem dX7_hasPlaces_4 : decode cX7_hasPlaces 4 = .ok (.iload_n 3, 1) := by decide +kernel
theorem dX7_hasPlaces_5 : decode cX7_hasPlaces 5 = .ok (.ifCond .lt 27, 3) := by decide +kernel
theorem dX7_hasPlaces_8 : decode cX7_hasPlaces 8 = .ok (.iload_n 3, 1) := by decide +kernel
theorem dX7_hasPlaces_9 : decode cX7_hasPlaces 9 = .ok (.aload_n 0, 1) := by decide +kernel
theorem dX7_hasPlaces_10 : decode cX7_hasPlaces 10 = .ok (.iload_n 1, 1) := by decide +kernel
theorem dX7_hasPlaces_11 : decode cX7_hasPlaces 11 = .ok (.invokevirtual 30, 3) := by decide +kernel
theorem dX7_hasPlaces_14 : decode cX7_hasPlaces 14 = .ok (.if_icmp .gt 18, 3) := by decide +kernel
theorem dX7_hasPlaces_17 : decode cX7_hasPlaces 17 = .ok (.iload_n 2, 1) := by decide +kernel
theorem dX7_hasPlaces_18 : decode cX7_hasPlaces 18 = .ok (.aload_n 0, 1) := by decide +kernel
theorem dX7_hasPlaces_19 : decode cX7_hasPlaces 19 = .ok (.iload_n 1, 1) := by decide +kernel
theorem dX7_hasPlaces_20 : decode cX7_hasPlaces 20 = .ok (.invokevirtual 30, 3) := by decide +kernel
theorem dX7_hasPlaces_23 : decode cX7_hasPlaces 23 = .ok (.iload_n 3, 1) := by decide +kernel
theorem dX7_hasPlaces_24 : decode cX7_hasPlaces 24 = .ok (.isub, 1) := by decide +kernel
theorem dX7_hasPlaces_25 : decode cX7_hasPlaces 25 = .ok (.if_icmp .gt 7, 3) := by decide +kernel
theorem dX7_hasPlaces_28 : decode cX7_hasPlaces 28 = .ok (.iconst 1, 1) := by decide +kernel
theorem dX7_hasPlaces_29 : decode cX7_hasPlaces 29 = .ok (.goto 4, 3) := by decide +kernel
theorem dX7_hasPlaces_32 : decode cX7_hasPlaces 32 = .ok (.iconst 0, 1) := by decide +kernel
theorem dX7_hasPlaces_33 : decode cX7_hasPlaces 33 = .ok (.ireturn, 1) := by decide +kernel
abbrev cX7_item : ByteArray := prog_9_method_8_code
def yX7_item : MethodName := ⟨"DayTongues$Rows", "item", "(II)I"⟩
def mX7_item : dt_MD := (yX7_item, cX7_item, 3, some .int)
theorem dX7_item_0 : decode cX7_item 0 = .ok (.aload_n 0, 1) := by decide +kernel
theorem dX7_item_1 : decode cX7_item 1 = .ok (.iload_n 1, 1) := by decide +kernel
theorem dX7_item_2 : decode cX7_item 2 = .ok (.iload_n 2, 1) := by decide +kernel
theorem dX7_item_3 : decode cX7_item 3 = .ok (.iconst 1, 1) := by decide +kernel
theorem dX7_item_4 : decode cX7_item 4 = .ok (.invokevirtual 33, 3) := by decide +kernel
theorem dX7_item_7 : decode cX7_item 7 = .ok (.ifCond .eq 17, 3) := by decide +kernel
theorem dX7_item_10 : decode cX7_item 10 = .ok (.aload_n 0, 1) := by decide +kernel
theorem dX7_item_11 : decode cX7_item 11 = .ok (.getfield 16, 3) := by decide +kernel
theorem dX7_item_14 : decode cX7_item 14 = .ok (.iload_n 1, 1) := by decide +kernel
theorem dX7_item_15 : decode cX7_item 15 = .ok (.bipush 40, 2) := by decide +kernel
theorem dX7_item_17 : decode cX7_item 17 = .ok (.imul, 1) := by decide +kernel
theorem dX7_item_18 : decode cX7_item 18 = .ok (.iload_n 2, 1) := by decide +kernel
theorem dX7_item_19 : decode cX7_item 19 = .ok (.iadd, 1) := by decide +kernel
theorem dX7_item_20 : decode cX7_item 20 = .ok (.iaload, 1) := by decide +kernel
theorem dX7_item_21 : decode cX7_item 21 = .ok (.goto 4, 3) := by decide +kernel
theorem dX7_item_24 : decode cX7_item 24 = .ok (.iconst 0, 1) := by decide +kernel
theorem dX7_item_25 : decode cX7_item 25 = .ok (.ireturn, 1) := by decide +kernel
abbrev cX7_lay : ByteArray := prog_9_method_9_code
def yX7_lay : MethodName := ⟨"DayTongues$Rows", "lay", "(III)V"⟩
def mX7_lay : dt_MD := (yX7_lay, cX7_lay, 5, none)
theorem dX7_lay_0 : decode cX7_lay 0 = .ok (.iload_n 1, 1) := by decide +kernel
theorem dX7_lay_1 : decode cX7_lay 1 = .ok (.invokestatic 23, 3) := by decide +kernel
theorem dX7_lay_4 : decode cX7_lay 4 = .ok (.ifCond .eq 13, 3) := by decide +kernel
theorem dX7_lay_7 : decode cX7_lay 7 = .ok (.iload_n 3, 1) := by decide +kernel
theorem dX7_lay_8 : decode cX7_lay 8 = .ok (.ifCond .lt 9, 3) := by decide +kernel
theorem dX7_lay_11 : decode cX7_lay 11 = .ok (.iload_n 3, 1) := by decide +kernel
theorem dX7_lay_12 : decode cX7_lay 12 = .ok (.bipush 40, 2) := by decide +kernel
theorem dX7_lay_14 : decode cX7_lay 14 = .ok (.if_icmp .le 4, 3) := by decide +kernel
theorem dX7_lay_17 : decode cX7_lay 17 = .ok (.return_, 1) := by decide +kernel
theorem dX7_lay_18 : decode cX7_lay 18 = .ok (.aload_n 0, 1) := by decide +kernel
theorem dX7_lay_19 : decode cX7_lay 19 = .ok (.getfield 9, 3) := by decide +kernel
theorem dX7_lay_22 : decode cX7_lay 22 = .ok (.iload_n 1, 1) := by decide +kernel
theorem dX7_lay_23 : decode cX7_lay 23 = .ok (.iload_n 2, 1) := by decide +kernel
theorem dX7_lay_24 : decode cX7_lay 24 = .ok (.iastore, 1) := by decide +kernel
theorem dX7_lay_25 : decode cX7_lay 25 = .ok (.aload_n 0, 1) := by decide +kernel
theorem dX7_lay_26 : decode cX7_lay 26 = .ok (.getfield 13, 3) := by decide +kernel
theorem dX7_lay_29 : decode cX7_lay 29 = .ok (.iload_n 1, 1) := by decide +kernel
theorem dX7_lay_30 : decode cX7_lay 30 = .ok (.iload_n 3, 1) := by decide +kernel
theorem dX7_lay_31 : decode cX7_lay 31 = .ok (.iastore, 1) := by decide +kernel
theorem dX7_lay_32 : decode cX7_lay 32 = .ok (.iconst 0, 1) := by decide +kernel
theorem dX7_lay_33 : decode cX7_lay 33 = .ok (.istore 4, 2) := by decide +kernel
theorem dX7_lay_35 : decode cX7_lay 35 = .ok (.iload 4, 2) := by decide +kernel
theorem dX7_lay_37 : decode cX7_lay 37 = .ok (.iload_n 3, 1) := by decide +kernel
theorem dX7_lay_38 : decode cX7_lay 38 = .ok (.if_icmp .ge 22, 3) := by decide +kernel
theorem dX7_lay_41 : decode cX7_lay 41 = .ok (.aload_n 0, 1) := by decide +kernel
theorem dX7_lay_42 : decode cX7_lay 42 = .ok (.getfield 16, 3) := by decide +kernel
theorem dX7_lay_45 : decode cX7_lay 45 = .ok (.iload_n 1, 1) := by decide +kernel
theorem dX7_lay_46 : decode cX7_lay 46 = .ok (.bipush 40, 2) := by decide +kernel
theorem dX7_lay_48 : decode cX7_lay 48 = .ok (.imul, 1) := by decide +kernel
theorem dX7_lay_49 : decode cX7_lay 49 = .ok (.iload 4, 2) := by decide +kernel
theorem dX7_lay_51 : decode cX7_lay 51 = .ok (.iadd, 1) := by decide +kernel
theorem dX7_lay_52 : decode cX7_lay 52 = .ok (.iconst 0, 1) := by decide +kernel
theorem dX7_lay_53 : decode cX7_lay 53 = .ok (.iastore, 1) := by decide +kernel
theorem dX7_lay_54 : decode cX7_lay 54 = .ok (.iinc 4 1, 3) := by decide +kernel
theorem dX7_lay_57 : decode cX7_lay 57 = .ok (.goto (-22), 3) := by decide +kernel
theorem dX7_lay_60 : decode cX7_lay 60 = .ok (.return_, 1) := by decide +kernel
abbrev cX7_put : ByteArray := prog_9_method_10_code
def yX7_put : MethodName := ⟨"DayTongues$Rows", "put", "(III)I"⟩
def mX7_put : dt_MD := (yX7_put, cX7_put, 5, some .int)
theorem dX7_put_0 : decode cX7_put 0 = .ok (.aload_n 0, 1) := by decide +kernel
theorem dX7_put_1 : decode cX7_put 1 = .ok (.iload_n 1, 1) := by decide +kernel
theorem dX7_put_2 : decode cX7_put 2 = .ok (.iload_n 2, 1) := by decide +kernel
theorem dX7_put_3 : decode cX7_put 3 = .ok (.iconst 1, 1) := by decide +kernel
theorem dX7_put_4 : decode cX7_put 4 = .ok (.invokevirtual 33, 3) := by decide +kernel
theorem dX7_put_7 : decode cX7_put 7 = .ok (.ifCond .ne 5, 3) := by decide +kernel
theorem dX7_put_10 : decode cX7_put 10 = .ok (.iconst 0, 1) := by decide +kernel
theorem dX7_put_11 : decode cX7_put 11 = .ok (.ireturn, 1) := by decide +kernel
theorem dX7_put_12 : decode cX7_put 12 = .ok (.aload_n 0, 1) := by decide +kernel
theorem dX7_put_13 : decode cX7_put 13 = .ok (.getfield 9, 3) := by decide +kernel
theorem dX7_put_16 : decode cX7_put 16 = .ok (.iload_n 1, 1) := by decide +kernel
theorem dX7_put_17 : decode cX7_put 17 = .ok (.iaload, 1) := by decide +kernel
theorem dX7_put_18 : decode cX7_put 18 = .ok (.iload_n 3, 1) := by decide +kernel
theorem dX7_put_19 : decode cX7_put 19 = .ok (.invokestatic 37, 3) := by decide +kernel
theorem dX7_put_22 : decode cX7_put 22 = .ok (.istore 4, 2) := by decide +kernel
theorem dX7_put_24 : decode cX7_put 24 = .ok (.aload_n 0, 1) := by decide +kernel
theorem dX7_put_25 : decode cX7_put 25 = .ok (.getfield 16, 3) := by decide +kernel
theorem dX7_put_28 : decode cX7_put 28 = .ok (.iload_n 1, 1) := by decide +kernel
theorem dX7_put_29 : decode cX7_put 29 = .ok (.bipush 40, 2) := by decide +kernel
theorem dX7_put_31 : decode cX7_put 31 = .ok (.imul, 1) := by decide +kernel
theorem dX7_put_32 : decode cX7_put 32 = .ok (.iload_n 2, 1) := by decide +kernel
theorem dX7_put_33 : decode cX7_put 33 = .ok (.iadd, 1) := by decide +kernel
theorem dX7_put_34 : decode cX7_put 34 = .ok (.iload 4, 2) := by decide +kernel
theorem dX7_put_36 : decode cX7_put 36 = .ok (.iastore, 1) := by decide +kernel
theorem dX7_put_37 : decode cX7_put 37 = .ok (.iload 4, 2) := by decide +kernel
theorem dX7_put_39 : decode cX7_put 39 = .ok (.ireturn, 1) := by decide +kernel
abbrev cX7_move : ByteArray := prog_9_method_11_code
def yX7_move : MethodName := ⟨"DayTongues$Rows", "move", "(IIIII)V"⟩
def mX7_move : dt_MD := (yX7_move, cX7_move, 6, none)
theorem dX7_move_0 : decode cX7_move 0 = .ok (.iload_n 1, 1) := by decide +kernel
theorem dX7_move_1 : decode cX7_move 1 = .ok (.invokestatic 23, 3) := by decide +kernel
theorem dX7_move_4 : decode cX7_move 4 = .ok (.ifCond .eq 59, 3) := by decide +kernel
theorem dX7_move_7 : decode cX7_move 7 = .ok (.iload_n 3, 1) := by decide +kernel
theorem dX7_move_8 : decode cX7_move 8 = .ok (.invokestatic 23, 3) := by decide +kernel
theorem dX7_move_11 : decode cX7_move 11 = .ok (.ifCond .eq 52, 3) := by decide +kernel
theorem dX7_move_14 : decode cX7_move 14 = .ok (.aload_n 0, 1) := by decide +kernel
theorem dX7_move_15 : decode cX7_move 15 = .ok (.iload_n 1, 1) := by decide +kernel
theorem dX7_move_16 : decode cX7_move 16 = .ok (.iload_n 2, 1) := by decide +kernel
theorem dX7_move_17 : decode cX7_move 17 = .ok (.iload 5, 2) := by decide +kernel
theorem dX7_move_19 : decode cX7_move 19 = .ok (.invokevirtual 33, 3) := by decide +kernel
theorem dX7_move_22 : decode cX7_move 22 = .ok (.ifCond .eq 41, 3) := by decide +kernel
theorem dX7_move_25 : decode cX7_move 25 = .ok (.aload_n 0, 1) := by decide +kernel
theorem dX7_move_26 : decode cX7_move 26 = .ok (.iload_n 3, 1) := by decide +kernel
theorem dX7_move_27 : decode cX7_move 27 = .ok (.iload 4, 2) := by decide +kernel
theorem dX7_move_29 : decode cX7_move 29 = .ok (.iload 5, 2) := by decide +kernel
theorem dX7_move_31 : decode cX7_move 31 = .ok (.invokevirtual 33, 3) := by decide +kernel
theorem dX7_move_34 : decode cX7_move 34 = .ok (.ifCond .eq 29, 3) := by decide +kernel
theorem dX7_move_37 : decode cX7_move 37 = .ok (.aload_n 0, 1) := by decide +kernel
theorem dX7_move_38 : decode cX7_move 38 = .ok (.getfield 16, 3) := by decide +kernel
theorem dX7_move_41 : decode cX7_move 41 = .ok (.iload_n 1, 1) := by decide +kernel
theorem dX7_move_42 : decode cX7_move 42 = .ok (.bipush 40, 2) := by decide +kernel
theorem dX7_move_44 : decode cX7_move 44 = .ok (.imul, 1) := by decide +kernel
theorem dX7_move_45 : decode cX7_move 45 = .ok (.iload_n 2, 1) := by decide +kernel
theorem dX7_move_46 : decode cX7_move 46 = .ok (.iadd, 1) := by decide +kernel
theorem dX7_move_47 : decode cX7_move 47 = .ok (.aload_n 0, 1) := by decide +kernel
theorem dX7_move_48 : decode cX7_move 48 = .ok (.getfield 16, 3) := by decide +kernel
theorem dX7_move_51 : decode cX7_move 51 = .ok (.iload_n 3, 1) := by decide +kernel
theorem dX7_move_52 : decode cX7_move 52 = .ok (.bipush 40, 2) := by decide +kernel
theorem dX7_move_54 : decode cX7_move 54 = .ok (.imul, 1) := by decide +kernel
theorem dX7_move_55 : decode cX7_move 55 = .ok (.iload 4, 2) := by decide +kernel
theorem dX7_move_57 : decode cX7_move 57 = .ok (.iadd, 1) := by decide +kernel
theorem dX7_move_58 : decode cX7_move 58 = .ok (.iload 5, 2) := by decide +kernel
theorem dX7_move_60 : decode cX7_move 60 = .ok (.invokestatic 41, 3) := by decide +kernel
theorem dX7_move_63 : decode cX7_move 63 = .ok (.return_, 1) := by decide +kernel
abbrev cX7_lose : ByteArray := prog_9_method_12_code
def yX7_lose : MethodName := ⟨"DayTongues$Rows", "lose", "(I)I"⟩
def mX7_lose : dt_MD := (yX7_lose, cX7_lose, 3, some .int)
theorem dX7_lose_0 : decode cX7_lose 0 = .ok (.iload_n 1, 1) := by decide +kernel
theorem dX7_lose_1 : decode cX7_lose 1 = .ok (.invokestatic 23, 3) := by decide +kernel
theorem dX7_lose_4 : decode cX7_lose 4 = .ok (.ifCond .ne 5, 3) := by decide +kernel
theorem dX7_lose_7 : decode cX7_lose 7 = .ok (.iconst 0, 1) := by decide +kernel
theorem dX7_lose_8 : decode cX7_lose 8 = .ok (.ireturn, 1) := by decide +kernel
theorem dX7_lose_9 : decode cX7_lose 9 = .ok (.aload_n 0, 1) := by decide +kernel
theorem dX7_lose_10 : decode cX7_lose 10 = .ok (.getfield 13, 3) := by decide +kernel
theorem dX7_lose_13 : decode cX7_lose 13 = .ok (.iload_n 1, 1) := by decide +kernel
theorem dX7_lose_14 : decode cX7_lose 14 = .ok (.iaload, 1) := by decide +kernel
theorem dX7_lose_15 : decode cX7_lose 15 = .ok (.istore_n 2, 1) := by decide +kernel
theorem dX7_lose_16 : decode cX7_lose 16 = .ok (.aload_n 0, 1) := by decide +kernel
theorem dX7_lose_17 : decode cX7_lose 17 = .ok (.getfield 9, 3) := by decide +kernel
theorem dX7_lose_20 : decode cX7_lose 20 = .ok (.iload_n 1, 1) := by decide +kernel
theorem dX7_lose_21 : decode cX7_lose 21 = .ok (.iconst (-1), 1) := by decide +kernel
theorem dX7_lose_22 : decode cX7_lose 22 = .ok (.iastore, 1) := by decide +kernel
theorem dX7_lose_23 : decode cX7_lose 23 = .ok (.aload_n 0, 1) := by decide +kernel
theorem dX7_lose_24 : decode cX7_lose 24 = .ok (.getfield 13, 3) := by decide +kernel
theorem dX7_lose_27 : decode cX7_lose 27 = .ok (.iload_n 1, 1) := by decide +kernel
theorem dX7_lose_28 : decode cX7_lose 28 = .ok (.iconst 0, 1) := by decide +kernel
theorem dX7_lose_29 : decode cX7_lose 29 = .ok (.iastore, 1) := by decide +kernel
theorem dX7_lose_30 : decode cX7_lose 30 = .ok (.iload_n 2, 1) := by decide +kernel
theorem dX7_lose_31 : decode cX7_lose 31 = .ok (.ireturn, 1) := by decide +kernel
abbrev cX7_lowestBits : ByteArray := prog_9_method_13_code
def yX7_lowestBits : MethodName := ⟨"DayTongues$Rows", "lowestBits", "(II)I"⟩
def mX7_lowestBits : dt_MD := (yX7_lowestBits, cX7_lowestBits, 2, some .int)
theorem dX7_lowestBits_0 : decode cX7_lowestBits 0 = .ok (.iload_n 0, 1) := by decide +kernel
theorem dX7_lowestBits_1 : decode cX7_lowestBits 1 = .ok (.ifCond .ne 6, 3) := by decide +kernel
theorem dX7_lowestBits_4 : decode cX7_lowestBits 4 = .ok (.iload_n 1, 1) := by decide +kernel
theorem dX7_lowestBits_5 : decode cX7_lowestBits 5 = .ok (.i2b, 1) := by decide +kernel
theorem dX7_lowestBits_6 : decode cX7_lowestBits 6 = .ok (.ireturn, 1) := by decide +kernel
theorem dX7_lowestBits_7 : decode cX7_lowestBits 7 = .ok (.iload_n 0, 1) := by decide +kernel
theorem dX7_lowestBits_8 : decode cX7_lowestBits 8 = .ok (.iconst 1, 1) := by decide +kernel
theorem dX7_lowestBits_9 : decode cX7_lowestBits 9 = .ok (.if_icmp .ne 8, 3) := by decide +kernel
theorem dX7_lowestBits_12 : decode cX7_lowestBits 12 = .ok (.iload_n 1, 1) := by decide +kernel
theorem dX7_lowestBits_13 : decode cX7_lowestBits 13 = .ok (.i2s, 1) := by decide +kernel
theorem dX7_lowestBits_14 : decode cX7_lowestBits 14 = .ok (.goto 4, 3) := by decide +kernel
theorem dX7_lowestBits_17 : decode cX7_lowestBits 17 = .ok (.iload_n 1, 1) := by decide +kernel
theorem dX7_lowestBits_18 : decode cX7_lowestBits 18 = .ok (.ireturn, 1) := by decide +kernel
