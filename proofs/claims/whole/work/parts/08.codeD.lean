abbrev cX12_init : ByteArray := prog_14_method_1_code
def yX12_init : MethodName := ⟨"DayTonguesModel", "<init>", "()V"⟩
def mX12_init : dt_MD := (yX12_init, cX12_init, 1, none)
theorem dX12_init_0 : decode cX12_init 0 = .ok (.aload_n 0, 1) := by decide +kernel
theorem dX12_init_1 : decode cX12_init 1 = .ok (.invokespecial 1, 3) := by decide +kernel
theorem dX12_init_4 : decode cX12_init 4 = .ok (.aload_n 0, 1) := by decide +kernel
theorem dX12_init_5 : decode cX12_init 5 = .ok (.bipush 8, 2) := by decide +kernel
theorem dX12_init_7 : decode cX12_init 7 = .ok (.newarray .int, 2) := by decide +kernel
theorem dX12_init_9 : decode cX12_init 9 = .ok (.dup, 1) := by decide +kernel
theorem dX12_init_10 : decode cX12_init 10 = .ok (.iconst 0, 1) := by decide +kernel
theorem dX12_init_11 : decode cX12_init 11 = .ok (.iconst (-1), 1) := by decide +kernel
theorem dX12_init_12 : decode cX12_init 12 = .ok (.iastore, 1) := by decide +kernel
theorem dX12_init_13 : decode cX12_init 13 = .ok (.dup, 1) := by decide +kernel
theorem dX12_init_14 : decode cX12_init 14 = .ok (.iconst 1, 1) := by decide +kernel
theorem dX12_init_15 : decode cX12_init 15 = .ok (.iconst (-1), 1) := by decide +kernel
theorem dX12_init_16 : decode cX12_init 16 = .ok (.iastore, 1) := by decide +kernel
theorem dX12_init_17 : decode cX12_init 17 = .ok (.dup, 1) := by decide +kernel
theorem dX12_init_18 : decode cX12_init 18 = .ok (.iconst 2, 1) := by decide +kernel
theorem dX12_init_19 : decode cX12_init 19 = .ok (.iconst (-1), 1) := by decide +kernel
theorem dX12_init_20 : decode cX12_init 20 = .ok (.iastore, 1) := by decide +kernel
theorem dX12_init_21 : decode cX12_init 21 = .ok (.dup, 1) := by decide +kernel
theorem dX12_init_22 : decode cX12_init 22 = .ok (.iconst 3, 1) := by decide +kernel
theorem dX12_init_23 : decode cX12_init 23 = .ok (.iconst (-1), 1) := by decide +kernel
theorem dX12_init_24 : decode cX12_init 24 = .ok (.iastore, 1) := by decide +kernel
theorem dX12_init_25 : decode cX12_init 25 = .ok (.dup, 1) := by decide +kernel
theorem dX12_init_26 : decode cX12_init 26 = .ok (.iconst 4, 1) := by decide +kernel
theorem dX12_init_27 : decode cX12_init 27 = .ok (.iconst (-1), 1) := by decide +kernel
theorem dX12_init_28 : decode cX12_init 28 = .ok (.iastore, 1) := by decide +kernel
theorem dX12_init_29 : decode cX12_init 29 = .ok (.dup, 1) := by decide +kernel
theorem dX12_init_30 : decode cX12_init 30 = .ok (.iconst 5, 1) := by decide +kernel
theorem dX12_init_31 : decode cX12_init 31 = .ok (.iconst (-1), 1) := by decide +kernel
theorem dX12_init_32 : decode cX12_init 32 = .ok (.iastore, 1) := by decide +kernel
theorem dX12_init_33 : decode cX12_init 33 = .ok (.dup, 1) := by decide +kernel
theorem dX12_init_34 : decode cX12_init 34 = .ok (.bipush 6, 2) := by decide +kernel
theorem dX12_init_36 : decode cX12_init 36 = .ok (.iconst (-1), 1) := by decide +kernel
theorem dX12_init_37 : decode cX12_init 37 = .ok (.iastore, 1) := by decide +kernel
theorem dX12_init_38 : decode cX12_init 38 = .ok (.dup, 1) := by decide +kernel
theorem dX12_init_39 : decode cX12_init 39 = .ok (.bipush 7, 2) := by decide +kernel
theorem dX12_init_41 : decode cX12_init 41 = .ok (.iconst (-1), 1) := by decide +kernel
theorem dX12_init_42 : decode cX12_init 42 = .ok (.iastore, 1) := by decide +kernel
theorem dX12_init_43 : decode cX12_init 43 = .ok (.putfield 7, 3) := by decide +kernel
theorem dX12_init_46 : decode cX12_init 46 = .ok (.aload_n 0, 1) := by decide +kernel
theorem dX12_init_47 : decode cX12_init 47 = .ok (.bipush 8, 2) := by decide +kernel
theorem dX12_init_49 : decode cX12_init 49 = .ok (.newarray .int, 2) := by decide +kernel
theorem dX12_init_51 : decode cX12_init 51 = .ok (.putfield 13, 3) := by decide +kernel
theorem dX12_init_54 : decode cX12_init 54 = .ok (.aload_n 0, 1) := by decide +kernel
theorem dX12_init_55 : decode cX12_init 55 = .ok (.sipush 320, 3) := by decide +kernel
theorem dX12_init_58 : decode cX12_init 58 = .ok (.newarray .int, 2) := by decide +kernel
theorem dX12_init_60 : decode cX12_init 60 = .ok (.putfield 16, 3) := by decide +kernel
theorem dX12_init_63 : decode cX12_init 63 = .ok (.aload_n 0, 1) := by decide +kernel
theorem dX12_init_64 : decode cX12_init 64 = .ok (.sipush 298, 3) := by decide +kernel
theorem dX12_init_67 : decode cX12_init 67 = .ok (.newarray .int, 2) := by decide +kernel
theorem dX12_init_69 : decode cX12_init 69 = .ok (.putfield 19, 3) := by decide +kernel
theorem dX12_init_72 : decode cX12_init 72 = .ok (.aload_n 0, 1) := by decide +kernel
theorem dX12_init_73 : decode cX12_init 73 = .ok (.sipush 298, 3) := by decide +kernel
theorem dX12_init_76 : decode cX12_init 76 = .ok (.newarray .int, 2) := by decide +kernel
theorem dX12_init_78 : decode cX12_init 78 = .ok (.putfield 22, 3) := by decide +kernel
theorem dX12_init_81 : decode cX12_init 81 = .ok (.aload_n 0, 1) := by decide +kernel
theorem dX12_init_82 : decode cX12_init 82 = .ok (.sipush 500, 3) := by decide +kernel
theorem dX12_init_85 : decode cX12_init 85 = .ok (.newarray .int, 2) := by decide +kernel
theorem dX12_init_87 : decode cX12_init 87 = .ok (.putfield 25, 3) := by decide +kernel
theorem dX12_init_90 : decode cX12_init 90 = .ok (.aload_n 0, 1) := by decide +kernel
theorem dX12_init_91 : decode cX12_init 91 = .ok (.sipush 256, 3) := by decide +kernel
theorem dX12_init_94 : decode cX12_init 94 = .ok (.newarray .boolean, 2) := by decide +kernel
theorem dX12_init_96 : decode cX12_init 96 = .ok (.putfield 28, 3) := by decide +kernel
theorem dX12_init_99 : decode cX12_init 99 = .ok (.aload_n 0, 1) := by decide +kernel
theorem dX12_init_100 : decode cX12_init 100 = .ok (.sipush 256, 3) := by decide +kernel
theorem dX12_init_103 : decode cX12_init 103 = .ok (.newarray .boolean, 2) := by decide +kernel
theorem dX12_init_105 : decode cX12_init 105 = .ok (.putfield 32, 3) := by decide +kernel
theorem dX12_init_108 : decode cX12_init 108 = .ok (.aload_n 0, 1) := by decide +kernel
theorem dX12_init_109 : decode cX12_init 109 = .ok (.sipush 256, 3) := by decide +kernel
theorem dX12_init_112 : decode cX12_init 112 = .ok (.newarray .int, 2) := by decide +kernel
theorem dX12_init_114 : decode cX12_init 114 = .ok (.putfield 35, 3) := by decide +kernel
theorem dX12_init_117 : decode cX12_init 117 = .ok (.aload_n 0, 1) := by decide +kernel
theorem dX12_init_118 : decode cX12_init 118 = .ok (.bipush 8, 2) := by decide +kernel
theorem dX12_init_120 : decode cX12_init 120 = .ok (.newarray .int, 2) := by decide +kernel
theorem dX12_init_122 : decode cX12_init 122 = .ok (.putfield 38, 3) := by decide +kernel
theorem dX12_init_125 : decode cX12_init 125 = .ok (.aload_n 0, 1) := by decide +kernel
theorem dX12_init_126 : decode cX12_init 126 = .ok (.sipush 256, 3) := by decide +kernel
theorem dX12_init_129 : decode cX12_init 129 = .ok (.newarray .boolean, 2) := by decide +kernel
theorem dX12_init_131 : decode cX12_init 131 = .ok (.putfield 41, 3) := by decide +kernel
theorem dX12_init_134 : decode cX12_init 134 = .ok (.aload_n 0, 1) := by decide +kernel
theorem dX12_init_135 : decode cX12_init 135 = .ok (.iconst 2, 1) := by decide +kernel
theorem dX12_init_136 : decode cX12_init 136 = .ok (.newarray .boolean, 2) := by decide +kernel
theorem dX12_init_138 : decode cX12_init 138 = .ok (.putfield 44, 3) := by decide +kernel
theorem dX12_init_141 : decode cX12_init 141 = .ok (.aload_n 0, 1) := by decide +kernel
theorem dX12_init_142 : decode cX12_init 142 = .ok (.sipush 596, 3) := by decide +kernel
theorem dX12_init_145 : decode cX12_init 145 = .ok (.newarray .int, 2) := by decide +kernel
theorem dX12_init_147 : decode cX12_init 147 = .ok (.putfield 47, 3) := by decide +kernel
theorem dX12_init_150 : decode cX12_init 150 = .ok (.aload_n 0, 1) := by decide +kernel
theorem dX12_init_151 : decode cX12_init 151 = .ok (.bipush 16, 2) := by decide +kernel
theorem dX12_init_153 : decode cX12_init 153 = .ok (.newarray .int, 2) := by decide +kernel
theorem dX12_init_155 : decode cX12_init 155 = .ok (.putfield 50, 3) := by decide +kernel
theorem dX12_init_158 : decode cX12_init 158 = .ok (.return_, 1) := by decide +kernel
abbrev cX12_in : ByteArray := prog_14_method_3_code
def yX12_in : MethodName := ⟨"DayTonguesModel", "in", "(JJJ)Z"⟩
def mX12_in : dt_MD := (yX12_in, cX12_in, 6, some .boolean)
theorem dX12_in_0 : decode cX12_in 0 = .ok (.lload_n 0, 1) := by decide +kernel
theorem dX12_in_1 : decode cX12_in 1 = .ok (.lload_n 2, 1) := by decide +kernel
theorem dX12_in_2 : decode cX12_in 2 = .ok (.lcmp, 1) := by decide +kernel
theorem dX12_in_3 : decode cX12_in 3 = .ok (.ifCond .lt 14, 3) := by decide +kernel
theorem dX12_in_6 : decode cX12_in 6 = .ok (.lload_n 0, 1) := by decide +kernel
theorem dX12_in_7 : decode cX12_in 7 = .ok (.lload 4, 2) := by decide +kernel
theorem dX12_in_9 : decode cX12_in 9 = .ok (.lcmp, 1) := by decide +kernel
theorem dX12_in_10 : decode cX12_in 10 = .ok (.ifCond .gt 7, 3) := by decide +kernel
theorem dX12_in_13 : decode cX12_in 13 = .ok (.iconst 1, 1) := by decide +kernel
theorem dX12_in_14 : decode cX12_in 14 = .ok (.goto 4, 3) := by decide +kernel
theorem dX12_in_17 : decode cX12_in 17 = .ok (.iconst 0, 1) := by decide +kernel
theorem dX12_in_18 : decode cX12_in 18 = .ok (.ireturn, 1) := by decide +kernel
abbrev cX12_finding : ByteArray := prog_14_method_4_code
def yX12_finding : MethodName := ⟨"DayTonguesModel", "finding", "(I)I"⟩
def mX12_finding : dt_MD := (yX12_finding, cX12_finding, 2, some .int)
theorem dX12_finding_0 : decode cX12_finding 0 = .ok (.aload_n 0, 1) := by decide +kernel
theorem dX12_finding_1 : decode cX12_finding 1 = .ok (.iload_n 1, 1) := by decide +kernel
theorem dX12_finding_2 : decode cX12_finding 2 = .ok (.putfield 57, 3) := by decide +kernel
theorem dX12_finding_5 : decode cX12_finding 5 = .ok (.ldc 60, 2) := by decide +kernel
theorem dX12_finding_7 : decode cX12_finding 7 = .ok (.iload_n 1, 1) := by decide +kernel
theorem dX12_finding_8 : decode cX12_finding 8 = .ok (.isub, 1) := by decide +kernel
theorem dX12_finding_9 : decode cX12_finding 9 = .ok (.ireturn, 1) := by decide +kernel
abbrev cX12_isRow : ByteArray := prog_14_method_5_code
def yX12_isRow : MethodName := ⟨"DayTonguesModel", "isRow", "(I)Z"⟩
def mX12_isRow : dt_MD := (yX12_isRow, cX12_isRow, 1, some .boolean)
theorem dX12_isRow_0 : decode cX12_isRow 0 = .ok (.iload_n 0, 1) := by decide +kernel
theorem dX12_isRow_1 : decode cX12_isRow 1 = .ok (.i2l, 1) := by decide +kernel
theorem dX12_isRow_2 : decode cX12_isRow 2 = .ok (.lconst 0, 1) := by decide +kernel
theorem dX12_isRow_3 : decode cX12_isRow 3 = .ok (.ldc2_w 61, 3) := by decide +kernel
theorem dX12_isRow_6 : decode cX12_isRow 6 = .ok (.invokestatic 63, 3) := by decide +kernel
theorem dX12_isRow_9 : decode cX12_isRow 9 = .ok (.ireturn, 1) := by decide +kernel
abbrev cX12_row : ByteArray := prog_14_method_6_code
def yX12_row : MethodName := ⟨"DayTonguesModel", "row", "(III)I"⟩
def mX12_row : dt_MD := (yX12_row, cX12_row, 5, some .int)
theorem dX12_row_0 : decode cX12_row 0 = .ok (.aload_n 0, 1) := by decide +kernel
theorem dX12_row_1 : decode cX12_row 1 = .ok (.iconst 0, 1) := by decide +kernel
theorem dX12_row_2 : decode cX12_row 2 = .ok (.putfield 53, 3) := by decide +kernel
theorem dX12_row_5 : decode cX12_row 5 = .ok (.iload_n 1, 1) := by decide +kernel
theorem dX12_row_6 : decode cX12_row 6 = .ok (.invokestatic 67, 3) := by decide +kernel
theorem dX12_row_9 : decode cX12_row 9 = .ok (.ifCond .eq 21, 3) := by decide +kernel
theorem dX12_row_12 : decode cX12_row 12 = .ok (.iload_n 2, 1) := by decide +kernel
theorem dX12_row_13 : decode cX12_row 13 = .ok (.i2l, 1) := by decide +kernel
theorem dX12_row_14 : decode cX12_row 14 = .ok (.lconst 0, 1) := by decide +kernel
theorem dX12_row_15 : decode cX12_row 15 = .ok (.ldc2_w 71, 3) := by decide +kernel
theorem dX12_row_18 : decode cX12_row 18 = .ok (.invokestatic 63, 3) := by decide +kernel
theorem dX12_row_21 : decode cX12_row 21 = .ok (.ifCond .eq 9, 3) := by decide +kernel
theorem dX12_row_24 : decode cX12_row 24 = .ok (.iload_n 3, 1) := by decide +kernel
theorem dX12_row_25 : decode cX12_row 25 = .ok (.bipush 40, 2) := by decide +kernel
theorem dX12_row_27 : decode cX12_row 27 = .ok (.if_icmp .le 6, 3) := by decide +kernel
theorem dX12_row_30 : decode cX12_row 30 = .ok (.ldc 73, 2) := by decide +kernel
theorem dX12_row_32 : decode cX12_row 32 = .ok (.ireturn, 1) := by decide +kernel
theorem dX12_row_33 : decode cX12_row 33 = .ok (.aload_n 0, 1) := by decide +kernel
theorem dX12_row_34 : decode cX12_row 34 = .ok (.iconst 0, 1) := by decide +kernel
theorem dX12_row_35 : decode cX12_row 35 = .ok (.putfield 57, 3) := by decide +kernel
theorem dX12_row_38 : decode cX12_row 38 = .ok (.iload_n 3, 1) := by decide +kernel
theorem dX12_row_39 : decode cX12_row 39 = .ok (.ifCond .ge 9, 3) := by decide +kernel
theorem dX12_row_42 : decode cX12_row 42 = .ok (.aload_n 0, 1) := by decide +kernel
theorem dX12_row_43 : decode cX12_row 43 = .ok (.iconst 4, 1) := by decide +kernel
theorem dX12_row_44 : decode cX12_row 44 = .ok (.invokevirtual 74, 3) := by decide +kernel
theorem dX12_row_47 : decode cX12_row 47 = .ok (.ireturn, 1) := by decide +kernel
theorem dX12_row_48 : decode cX12_row 48 = .ok (.aload_n 0, 1) := by decide +kernel
theorem dX12_row_49 : decode cX12_row 49 = .ok (.getfield 7, 3) := by decide +kernel
theorem dX12_row_52 : decode cX12_row 52 = .ok (.iload_n 1, 1) := by decide +kernel
theorem dX12_row_53 : decode cX12_row 53 = .ok (.iload_n 2, 1) := by decide +kernel
theorem dX12_row_54 : decode cX12_row 54 = .ok (.iastore, 1) := by decide +kernel
theorem dX12_row_55 : decode cX12_row 55 = .ok (.aload_n 0, 1) := by decide +kernel
theorem dX12_row_56 : decode cX12_row 56 = .ok (.getfield 13, 3) := by decide +kernel
theorem dX12_row_59 : decode cX12_row 59 = .ok (.iload_n 1, 1) := by decide +kernel
theorem dX12_row_60 : decode cX12_row 60 = .ok (.iload_n 3, 1) := by decide +kernel
theorem dX12_row_61 : decode cX12_row 61 = .ok (.iastore, 1) := by decide +kernel
theorem dX12_row_62 : decode cX12_row 62 = .ok (.iconst 0, 1) := by decide +kernel
theorem dX12_row_63 : decode cX12_row 63 = .ok (.istore 4, 2) := by decide +kernel
theorem dX12_row_65 : decode cX12_row 65 = .ok (.iload 4, 2) := by decide +kernel
theorem dX12_row_67 : decode cX12_row 67 = .ok (.bipush 40, 2) := by decide +kernel
theorem dX12_row_69 : decode cX12_row 69 = .ok (.if_icmp .ge 22, 3) := by decide +kernel
theorem dX12_row_72 : decode cX12_row 72 = .ok (.aload_n 0, 1) := by decide +kernel
theorem dX12_row_73 : decode cX12_row 73 = .ok (.getfield 16, 3) := by decide +kernel
theorem dX12_row_76 : decode cX12_row 76 = .ok (.bipush 40, 2) := by decide +kernel
theorem dX12_row_78 : decode cX12_row 78 = .ok (.iload_n 1, 1) := by decide +kernel
theorem dX12_row_79 : decode cX12_row 79 = .ok (.imul, 1) := by decide +kernel
theorem dX12_row_80 : decode cX12_row 80 = .ok (.iload 4, 2) := by decide +kernel
theorem dX12_row_82 : decode cX12_row 82 = .ok (.iadd, 1) := by decide +kernel
theorem dX12_row_83 : decode cX12_row 83 = .ok (.iconst 0, 1) := by decide +kernel
theorem dX12_row_84 : decode cX12_row 84 = .ok (.iastore, 1) := by decide +kernel
theorem dX12_row_85 : decode cX12_row 85 = .ok (.iinc 4 1, 3) := by decide +kernel
theorem dX12_row_88 : decode cX12_row 88 = .ok (.goto (-23), 3) := by decide +kernel
theorem dX12_row_91 : decode cX12_row 91 = .ok (.iload_n 3, 1) := by decide +kernel
theorem dX12_row_92 : decode cX12_row 92 = .ok (.ireturn, 1) := by decide +kernel
abbrev cX12_set : ByteArray := prog_14_method_7_code
def yX12_set : MethodName := ⟨"DayTonguesModel", "set", "(III)I"⟩
def mX12_set : dt_MD := (yX12_set, cX12_set, 4, some .int)
theorem dX12_set_0 : decode cX12_set 0 = .ok (.aload_n 0, 1) := by decide +kernel
theorem dX12_set_1 : decode cX12_set 1 = .ok (.iconst 0, 1) := by decide +kernel
theorem dX12_set_2 : decode cX12_set 2 = .ok (.putfield 53, 3) := by decide +kernel
theorem dX12_set_5 : decode cX12_set 5 = .ok (.iload_n 1, 1) := by decide +kernel
theorem dX12_set_6 : decode cX12_set 6 = .ok (.invokestatic 67, 3) := by decide +kernel
theorem dX12_set_9 : decode cX12_set 9 = .ok (.ifCond .ne 6, 3) := by decide +kernel
theorem dX12_set_12 : decode cX12_set 12 = .ok (.ldc 73, 2) := by decide +kernel
theorem dX12_set_14 : decode cX12_set 14 = .ok (.ireturn, 1) := by decide +kernel
theorem dX12_set_15 : decode cX12_set 15 = .ok (.aload_n 0, 1) := by decide +kernel
theorem dX12_set_16 : decode cX12_set 16 = .ok (.iconst 0, 1) := by decide +kernel
theorem dX12_set_17 : decode cX12_set 17 = .ok (.putfield 57, 3) := by decide +kernel
theorem dX12_set_20 : decode cX12_set 20 = .ok (.aload_n 0, 1) := by decide +kernel
theorem dX12_set_21 : decode cX12_set 21 = .ok (.getfield 7, 3) := by decide +kernel
theorem dX12_set_24 : decode cX12_set 24 = .ok (.iload_n 1, 1) := by decide +kernel
theorem dX12_set_25 : decode cX12_set 25 = .ok (.iaload, 1) := by decide +kernel
theorem dX12_set_26 : decode cX12_set 26 = .ok (.ifCond .ge 9, 3) := by decide +kernel
theorem dX12_set_29 : decode cX12_set 29 = .ok (.aload_n 0, 1) := by decide +kernel
theorem dX12_set_30 : decode cX12_set 30 = .ok (.iconst 1, 1) := by decide +kernel
theorem dX12_set_31 : decode cX12_set 31 = .ok (.invokevirtual 74, 3) := by decide +kernel
theorem dX12_set_34 : decode cX12_set 34 = .ok (.ireturn, 1) := by decide +kernel
theorem dX12_set_35 : decode cX12_set 35 = .ok (.iload_n 2, 1) := by decide +kernel
theorem dX12_set_36 : decode cX12_set 36 = .ok (.i2l, 1) := by decide +kernel
theorem dX12_set_37 : decode cX12_set 37 = .ok (.lconst 0, 1) := by decide +kernel
theorem dX12_set_38 : decode cX12_set 38 = .ok (.aload_n 0, 1) := by decide +kernel
theorem dX12_set_39 : decode cX12_set 39 = .ok (.getfield 13, 3) := by decide +kernel
theorem dX12_set_42 : decode cX12_set 42 = .ok (.iload_n 1, 1) := by decide +kernel
theorem dX12_set_43 : decode cX12_set 43 = .ok (.iaload, 1) := by decide +kernel
theorem dX12_set_44 : decode cX12_set 44 = .ok (.iconst 1, 1) := by decide +kernel
theorem dX12_set_45 : decode cX12_set 45 = .ok (.isub, 1) := by decide +kernel
theorem dX12_set_46 : decode cX12_set 46 = .ok (.i2l, 1) := by decide +kernel
theorem dX12_set_47 : decode cX12_set 47 = .ok (.invokestatic 63, 3) := by decide +kernel
theorem dX12_set_50 : decode cX12_set 50 = .ok (.ifCond .ne 9, 3) := by decide +kernel
theorem dX12_set_53 : decode cX12_set 53 = .ok (.aload_n 0, 1) := by decide +kernel
theorem dX12_set_54 : decode cX12_set 54 = .ok (.iconst 2, 1) := by decide +kernel
theorem dX12_set_55 : decode cX12_set 55 = .ok (.invokevirtual 74, 3) := by decide +kernel
theorem dX12_set_58 : decode cX12_set 58 = .ok (.ireturn, 1) := by decide +kernel
theorem dX12_set_59 : decode cX12_set 59 = .ok (.aload_n 0, 1) := by decide +kernel
theorem dX12_set_60 : decode cX12_set 60 = .ok (.getfield 16, 3) := by decide +kernel
theorem dX12_set_63 : decode cX12_set 63 = .ok (.bipush 40, 2) := by decide +kernel
theorem dX12_set_65 : decode cX12_set 65 = .ok (.iload_n 1, 1) := by decide +kernel
theorem dX12_set_66 : decode cX12_set 66 = .ok (.imul, 1) := by decide +kernel
theorem dX12_set_67 : decode cX12_set 67 = .ok (.iload_n 2, 1) := by decide +kernel
theorem dX12_set_68 : decode cX12_set 68 = .ok (.iadd, 1) := by decide +kernel
theorem dX12_set_69 : decode cX12_set 69 = .ok (.aload_n 0, 1) := by decide +kernel
theorem dX12_set_70 : decode cX12_set 70 = .ok (.getfield 7, 3) := by decide +kernel
theorem dX12_set_73 : decode cX12_set 73 = .ok (.iload_n 1, 1) := by decide +kernel
theorem dX12_set_74 : decode cX12_set 74 = .ok (.iaload, 1) := by decide +kernel
theorem dX12_set_75 : decode cX12_set 75 = .ok (.ifCond .ne 8, 3) := by decide +kernel
theorem dX12_set_78 : decode cX12_set 78 = .ok (.iload_n 3, 1) := by decide +kernel
theorem dX12_set_79 : decode cX12_set 79 = .ok (.i2b, 1) := by decide +kernel
theorem dX12_set_80 : decode cX12_set 80 = .ok (.goto 19, 3) := by decide +kernel
theorem dX12_set_83 : decode cX12_set 83 = .ok (.aload_n 0, 1) := by decide +kernel
theorem dX12_set_84 : decode cX12_set 84 = .ok (.getfield 7, 3) := by decide +kernel
theorem dX12_set_87 : decode cX12_set 87 = .ok (.iload_n 1, 1) := by decide +kernel
theorem dX12_set_88 : decode cX12_set 88 = .ok (.iaload, 1) := by decide +kernel
theorem dX12_set_89 : decode cX12_set 89 = .ok (.iconst 1, 1) := by decide +kernel
theorem dX12_set_90 : decode cX12_set 90 = .ok (.if_icmp .ne 8, 3) := by decide +kernel
theorem dX12_set_93 : decode cX12_set 93 = .ok (.iload_n 3, 1) := by decide +kernel
theorem dX12_set_94 : decode cX12_set 94 = .ok (.i2s, 1) := by decide +kernel
theorem dX12_set_95 : decode cX12_set 95 = .ok (.goto 4, 3) := by decide +kernel
theorem dX12_set_98 : decode cX12_set 98 = .ok (.iload_n 3, 1) := by decide +kernel
theorem dX12_set_99 : decode cX12_set 99 = .ok (.iastore, 1) := by decide +kernel
theorem dX12_set_100 : decode cX12_set 100 = .ok (.aload_n 0, 1) := by decide +kernel
theorem dX12_set_101 : decode cX12_set 101 = .ok (.getfield 16, 3) := by decide +kernel
theorem dX12_set_104 : decode cX12_set 104 = .ok (.bipush 40, 2) := by decide +kernel
theorem dX12_set_106 : decode cX12_set 106 = .ok (.iload_n 1, 1) := by decide +kernel
theorem dX12_set_107 : decode cX12_set 107 = .ok (.imul, 1) := by decide +kernel
theorem dX12_set_108 : decode cX12_set 108 = .ok (.iload_n 2, 1) := by decide +kernel
theorem dX12_set_109 : decode cX12_set 109 = .ok (.iadd, 1) := by decide +kernel
theorem dX12_set_110 : decode cX12_set 110 = .ok (.iaload, 1) := by decide +kernel
theorem dX12_set_111 : decode cX12_set 111 = .ok (.ireturn, 1) := by decide +kernel
abbrev cX12_copy : ByteArray := prog_14_method_8_code
def yX12_copy : MethodName := ⟨"DayTonguesModel", "copy", "(IIIII)I"⟩
def mX12_copy : dt_MD := (yX12_copy, cX12_copy, 9, some .int)
theorem dX12_copy_0 : decode cX12_copy 0 = .ok (.aload_n 0, 1) := by decide +kernel
theorem dX12_copy_1 : decode cX12_copy 1 = .ok (.iconst 0, 1) := by decide +kernel
theorem dX12_copy_2 : decode cX12_copy 2 = .ok (.putfield 53, 3) := by decide +kernel
theorem dX12_copy_5 : decode cX12_copy 5 = .ok (.iload_n 1, 1) := by decide +kernel
theorem dX12_copy_6 : decode cX12_copy 6 = .ok (.invokestatic 67, 3) := by decide +kernel
theorem dX12_copy_9 : decode cX12_copy 9 = .ok (.ifCond .eq 10, 3) := by decide +kernel
theorem dX12_copy_12 : decode cX12_copy 12 = .ok (.iload_n 3, 1) := by decide +kernel
theorem dX12_copy_13 : decode cX12_copy 13 = .ok (.invokestatic 67, 3) := by decide +kernel
theorem dX12_copy_16 : decode cX12_copy 16 = .ok (.ifCond .ne 6, 3) := by decide +kernel
theorem dX12_copy_19 : decode cX12_copy 19 = .ok (.ldc 73, 2) := by decide +kernel
theorem dX12_copy_21 : decode cX12_copy 21 = .ok (.ireturn, 1) := by decide +kernel
theorem dX12_copy_22 : decode cX12_copy 22 = .ok (.aload_n 0, 1) := by decide +kernel
theorem dX12_copy_23 : decode cX12_copy 23 = .ok (.iconst 0, 1) := by decide +kernel
theorem dX12_copy_24 : decode cX12_copy 24 = .ok (.putfield 57, 3) := by decide +kernel
theorem dX12_copy_27 : decode cX12_copy 27 = .ok (.aload_n 0, 1) := by decide +kernel
theorem dX12_copy_28 : decode cX12_copy 28 = .ok (.getfield 7, 3) := by decide +kernel
theorem dX12_copy_31 : decode cX12_copy 31 = .ok (.iload_n 1, 1) := by decide +kernel
theorem dX12_copy_32 : decode cX12_copy 32 = .ok (.iaload, 1) := by decide +kernel
theorem dX12_copy_33 : decode cX12_copy 33 = .ok (.ifCond .lt 12, 3) := by decide +kernel
theorem dX12_copy_36 : decode cX12_copy 36 = .ok (.aload_n 0, 1) := by decide +kernel
theorem dX12_copy_37 : decode cX12_copy 37 = .ok (.getfield 7, 3) := by decide +kernel
theorem dX12_copy_40 : decode cX12_copy 40 = .ok (.iload_n 3, 1) := by decide +kernel
theorem dX12_copy_41 : decode cX12_copy 41 = .ok (.iaload, 1) := by decide +kernel
theorem dX12_copy_42 : decode cX12_copy 42 = .ok (.ifCond .ge 9, 3) := by decide +kernel
theorem dX12_copy_45 : decode cX12_copy 45 = .ok (.aload_n 0, 1) := by decide +kernel
theorem dX12_copy_46 : decode cX12_copy 46 = .ok (.iconst 1, 1) := by decide +kernel
theorem dX12_copy_47 : decode cX12_copy 47 = .ok (.invokevirtual 74, 3) := by decide +kernel
theorem dX12_copy_50 : decode cX12_copy 50 = .ok (.ireturn, 1) := by decide +kernel
theorem dX12_copy_51 : decode cX12_copy 51 = .ok (.aload_n 0, 1) := by decide +kernel
theorem dX12_copy_52 : decode cX12_copy 52 = .ok (.getfield 7, 3) := by decide +kernel
theorem dX12_copy_55 : decode cX12_copy 55 = .ok (.iload_n 1, 1) := by decide +kernel
theorem dX12_copy_56 : decode cX12_copy 56 = .ok (.iaload, 1) := by decide +kernel
theorem dX12_copy_57 : decode cX12_copy 57 = .ok (.aload_n 0, 1) := by decide +kernel
theorem dX12_copy_58 : decode cX12_copy 58 = .ok (.getfield 7, 3) := by decide +kernel
theorem dX12_copy_61 : decode cX12_copy 61 = .ok (.iload_n 3, 1) := by decide +kernel
theorem dX12_copy_62 : decode cX12_copy 62 = .ok (.iaload, 1) := by decide +kernel
theorem dX12_copy_63 : decode cX12_copy 63 = .ok (.if_icmp .eq 9, 3) := by decide +kernel
theorem dX12_copy_66 : decode cX12_copy 66 = .ok (.aload_n 0, 1) := by decide +kernel
theorem dX12_copy_67 : decode cX12_copy 67 = .ok (.iconst 5, 1) := by decide +kernel
theorem dX12_copy_68 : decode cX12_copy 68 = .ok (.invokevirtual 74, 3) := by decide +kernel
theorem dX12_copy_71 : decode cX12_copy 71 = .ok (.ireturn, 1) := by decide +kernel
theorem dX12_copy_72 : decode cX12_copy 72 = .ok (.iload_n 2, 1) := by decide +kernel
theorem dX12_copy_73 : decode cX12_copy 73 = .ok (.ifCond .lt 48, 3) := by decide +kernel
theorem dX12_copy_76 : decode cX12_copy 76 = .ok (.iload 4, 2) := by decide +kernel
theorem dX12_copy_78 : decode cX12_copy 78 = .ok (.ifCond .lt 43, 3) := by decide +kernel
theorem dX12_copy_81 : decode cX12_copy 81 = .ok (.iload 5, 2) := by decide +kernel
theorem dX12_copy_83 : decode cX12_copy 83 = .ok (.ifCond .lt 38, 3) := by decide +kernel
theorem dX12_copy_86 : decode cX12_copy 86 = .ok (.iload_n 2, 1) := by decide +kernel
theorem dX12_copy_87 : decode cX12_copy 87 = .ok (.i2l, 1) := by decide +kernel
theorem dX12_copy_88 : decode cX12_copy 88 = .ok (.iload 5, 2) := by decide +kernel
theorem dX12_copy_90 : decode cX12_copy 90 = .ok (.i2l, 1) := by decide +kernel
theorem dX12_copy_91 : decode cX12_copy 91 = .ok (.ladd, 1) := by decide +kernel
theorem dX12_copy_92 : decode cX12_copy 92 = .ok (.aload_n 0, 1) := by decide +kernel
theorem dX12_copy_93 : decode cX12_copy 93 = .ok (.getfield 13, 3) := by decide +kernel
theorem dX12_copy_96 : decode cX12_copy 96 = .ok (.iload_n 1, 1) := by decide +kernel
theorem dX12_copy_97 : decode cX12_copy 97 = .ok (.iaload, 1) := by decide +kernel
theorem dX12_copy_98 : decode cX12_copy 98 = .ok (.i2l, 1) := by decide +kernel
theorem dX12_copy_99 : decode cX12_copy 99 = .ok (.lcmp, 1) := by decide +kernel
theorem dX12_copy_100 : decode cX12_copy 100 = .ok (.ifCond .gt 21, 3) := by decide +kernel
theorem dX12_copy_103 : decode cX12_copy 103 = .ok (.iload 4, 2) := by decide +kernel
theorem dX12_copy_105 : decode cX12_copy 105 = .ok (.i2l, 1) := by decide +kernel
theorem dX12_copy_106 : decode cX12_copy 106 = .ok (.iload 5, 2) := by decide +kernel
theorem dX12_copy_108 : decode cX12_copy 108 = .ok (.i2l, 1) := by decide +kernel
theorem dX12_copy_109 : decode cX12_copy 109 = .ok (.ladd, 1) := by decide +kernel
theorem dX12_copy_110 : decode cX12_copy 110 = .ok (.aload_n 0, 1) := by decide +kernel
theorem dX12_copy_111 : decode cX12_copy 111 = .ok (.getfield 13, 3) := by decide +kernel
theorem dX12_copy_114 : decode cX12_copy 114 = .ok (.iload_n 3, 1) := by decide +kernel
theorem dX12_copy_115 : decode cX12_copy 115 = .ok (.iaload, 1) := by decide +kernel
theorem dX12_copy_116 : decode cX12_copy 116 = .ok (.i2l, 1) := by decide +kernel
theorem dX12_copy_117 : decode cX12_copy 117 = .ok (.lcmp, 1) := by decide +kernel
theorem dX12_copy_118 : decode cX12_copy 118 = .ok (.ifCond .le 9, 3) := by decide +kernel
theorem dX12_copy_121 : decode cX12_copy 121 = .ok (.aload_n 0, 1) := by decide +kernel
theorem dX12_copy_122 : decode cX12_copy 122 = .ok (.iconst 2, 1) := by decide +kernel
theorem dX12_copy_123 : decode cX12_copy 123 = .ok (.invokevirtual 74, 3) := by decide +kernel
theorem dX12_copy_126 : decode cX12_copy 126 = .ok (.ireturn, 1) := by decide +kernel
theorem dX12_copy_127 : decode cX12_copy 127 = .ok (.iload_n 2, 1) := by decide +kernel
theorem dX12_copy_128 : decode cX12_copy 128 = .ok (.iload 4, 2) := by decide +kernel
theorem dX12_copy_130 : decode cX12_copy 130 = .ok (.if_icmp .lt 7, 3) := by decide +kernel
theorem dX12_copy_133 : decode cX12_copy 133 = .ok (.iconst 1, 1) := by decide +kernel
theorem dX12_copy_134 : decode cX12_copy 134 = .ok (.goto 4, 3) := by decide +kernel
theorem dX12_copy_137 : decode cX12_copy 137 = .ok (.iconst 0, 1) := by decide +kernel
theorem dX12_copy_138 : decode cX12_copy 138 = .ok (.istore 6, 2) := by decide +kernel
theorem dX12_copy_140 : decode cX12_copy 140 = .ok (.iconst 0, 1) := by decide +kernel
theorem dX12_copy_141 : decode cX12_copy 141 = .ok (.istore 7, 2) := by decide +kernel
theorem dX12_copy_143 : decode cX12_copy 143 = .ok (.iload 7, 2) := by decide +kernel
theorem dX12_copy_145 : decode cX12_copy 145 = .ok (.iload 5, 2) := by decide +kernel
theorem dX12_copy_147 : decode cX12_copy 147 = .ok (.if_icmp .ge 57, 3) := by decide +kernel
theorem dX12_copy_150 : decode cX12_copy 150 = .ok (.iload 6, 2) := by decide +kernel
theorem dX12_copy_152 : decode cX12_copy 152 = .ok (.ifCond .eq 8, 3) := by decide +kernel
theorem dX12_copy_155 : decode cX12_copy 155 = .ok (.iload 7, 2) := by decide +kernel
theorem dX12_copy_157 : decode cX12_copy 157 = .ok (.goto 10, 3) := by decide +kernel
theorem dX12_copy_160 : decode cX12_copy 160 = .ok (.iload 5, 2) := by decide +kernel
theorem dX12_copy_162 : decode cX12_copy 162 = .ok (.iconst 1, 1) := by decide +kernel
theorem dX12_copy_163 : decode cX12_copy 163 = .ok (.isub, 1) := by decide +kernel
theorem dX12_copy_164 : decode cX12_copy 164 = .ok (.iload 7, 2) := by decide +kernel
theorem dX12_copy_166 : decode cX12_copy 166 = .ok (.isub, 1) := by decide +kernel
theorem dX12_copy_167 : decode cX12_copy 167 = .ok (.istore 8, 2) := by decide +kernel
theorem dX12_copy_169 : decode cX12_copy 169 = .ok (.aload_n 0, 1) := by decide +kernel
theorem dX12_copy_170 : decode cX12_copy 170 = .ok (.getfield 16, 3) := by decide +kernel
theorem dX12_copy_173 : decode cX12_copy 173 = .ok (.bipush 40, 2) := by decide +kernel
theorem dX12_copy_175 : decode cX12_copy 175 = .ok (.iload_n 3, 1) := by decide +kernel
theorem dX12_copy_176 : decode cX12_copy 176 = .ok (.imul, 1) := by decide +kernel
theorem dX12_copy_177 : decode cX12_copy 177 = .ok (.iload 4, 2) := by decide +kernel
theorem dX12_copy_179 : decode cX12_copy 179 = .ok (.iadd, 1) := by decide +kernel
theorem dX12_copy_180 : decode cX12_copy 180 = .ok (.iload 8, 2) := by decide +kernel
theorem dX12_copy_182 : decode cX12_copy 182 = .ok (.iadd, 1) := by decide +kernel
theorem dX12_copy_183 : decode cX12_copy 183 = .ok (.aload_n 0, 1) := by decide +kernel
theorem dX12_copy_184 : decode cX12_copy 184 = .ok (.getfield 16, 3) := by decide +kernel
theorem dX12_copy_187 : decode cX12_copy 187 = .ok (.bipush 40, 2) := by decide +kernel
theorem dX12_copy_189 : decode cX12_copy 189 = .ok (.iload_n 1, 1) := by decide +kernel
theorem dX12_copy_190 : decode cX12_copy 190 = .ok (.imul, 1) := by decide +kernel
theorem dX12_copy_191 : decode cX12_copy 191 = .ok (.iload_n 2, 1) := by decide +kernel
theorem dX12_copy_192 : decode cX12_copy 192 = .ok (.iadd, 1) := by decide +kernel
theorem dX12_copy_193 : decode cX12_copy 193 = .ok (.iload 8, 2) := by decide +kernel
theorem dX12_copy_195 : decode cX12_copy 195 = .ok (.iadd, 1) := by decide +kernel
theorem dX12_copy_196 : decode cX12_copy 196 = .ok (.iaload, 1) := by decide +kernel
theorem dX12_copy_197 : decode cX12_copy 197 = .ok (.iastore, 1) := by decide +kernel
theorem dX12_copy_198 : decode cX12_copy 198 = .ok (.iinc 7 1, 3) := by decide +kernel
theorem dX12_copy_201 : decode cX12_copy 201 = .ok (.goto (-58), 3) := by decide +kernel
theorem dX12_copy_204 : decode cX12_copy 204 = .ok (.iload 5, 2) := by decide +kernel
theorem dX12_copy_206 : decode cX12_copy 206 = .ok (.ireturn, 1) := by decide +kernel
abbrev cX12_drop : ByteArray := prog_14_method_9_code
def yX12_drop : MethodName := ⟨"DayTonguesModel", "drop", "(I)I"⟩
def mX12_drop : dt_MD := (yX12_drop, cX12_drop, 2, some .int)
theorem dX12_drop_0 : decode cX12_drop 0 = .ok (.aload_n 0, 1) := by decide +kernel
theorem dX12_drop_1 : decode cX12_drop 1 = .ok (.iconst 0, 1) := by decide +kernel
theorem dX12_drop_2 : decode cX12_drop 2 = .ok (.putfield 53, 3) := by decide +kernel
theorem dX12_drop_5 : decode cX12_drop 5 = .ok (.iload_n 1, 1) := by decide +kernel
theorem dX12_drop_6 : decode cX12_drop 6 = .ok (.invokestatic 67, 3) := by decide +kernel
theorem dX12_drop_9 : decode cX12_drop 9 = .ok (.ifCond .ne 6, 3) := by decide +kernel
theorem dX12_drop_12 : decode cX12_drop 12 = .ok (.ldc 73, 2) := by decide +kernel
theorem dX12_drop_14 : decode cX12_drop 14 = .ok (.ireturn, 1) := by decide +kernel
theorem dX12_drop_15 : decode cX12_drop 15 = .ok (.aload_n 0, 1) := by decide +kernel
theorem dX12_drop_16 : decode cX12_drop 16 = .ok (.iconst 0, 1) := by decide +kernel
theorem dX12_drop_17 : decode cX12_drop 17 = .ok (.putfield 57, 3) := by decide +kernel
theorem dX12_drop_20 : decode cX12_drop 20 = .ok (.aload_n 0, 1) := by decide +kernel
theorem dX12_drop_21 : decode cX12_drop 21 = .ok (.getfield 7, 3) := by decide +kernel
theorem dX12_drop_24 : decode cX12_drop 24 = .ok (.iload_n 1, 1) := by decide +kernel
theorem dX12_drop_25 : decode cX12_drop 25 = .ok (.iaload, 1) := by decide +kernel
theorem dX12_drop_26 : decode cX12_drop 26 = .ok (.ifCond .ge 9, 3) := by decide +kernel
theorem dX12_drop_29 : decode cX12_drop 29 = .ok (.aload_n 0, 1) := by decide +kernel
theorem dX12_drop_30 : decode cX12_drop 30 = .ok (.iconst 1, 1) := by decide +kernel
theorem dX12_drop_31 : decode cX12_drop 31 = .ok (.invokevirtual 74, 3) := by decide +kernel
theorem dX12_drop_34 : decode cX12_drop 34 = .ok (.ireturn, 1) := by decide +kernel
theorem dX12_drop_35 : decode cX12_drop 35 = .ok (.aload_n 0, 1) := by decide +kernel
theorem dX12_drop_36 : decode cX12_drop 36 = .ok (.getfield 7, 3) := by decide +kernel
theorem dX12_drop_39 : decode cX12_drop 39 = .ok (.iload_n 1, 1) := by decide +kernel
theorem dX12_drop_40 : decode cX12_drop 40 = .ok (.iconst (-1), 1) := by decide +kernel
theorem dX12_drop_41 : decode cX12_drop 41 = .ok (.iastore, 1) := by decide +kernel
theorem dX12_drop_42 : decode cX12_drop 42 = .ok (.aload_n 0, 1) := by decide +kernel
theorem dX12_drop_43 : decode cX12_drop 43 = .ok (.getfield 13, 3) := by decide +kernel
theorem dX12_drop_46 : decode cX12_drop 46 = .ok (.iload_n 1, 1) := by decide +kernel
theorem dX12_drop_47 : decode cX12_drop 47 = .ok (.iaload, 1) := by decide +kernel
theorem dX12_drop_48 : decode cX12_drop 48 = .ok (.ireturn, 1) := by decide +kernel
abbrev cX12_feed : ByteArray := prog_14_method_10_code
def yX12_feed : MethodName := ⟨"DayTonguesModel", "feed", "(JI)I"⟩
def mX12_feed : dt_MD := (yX12_feed, cX12_feed, 5, some .int)
theorem dX12_feed_0 : decode cX12_feed 0 = .ok (.aload_n 0, 1) := by decide +kernel
theorem dX12_feed_1 : decode cX12_feed 1 = .ok (.iconst 0, 1) := by decide +kernel
theorem dX12_feed_2 : decode cX12_feed 2 = .ok (.putfield 53, 3) := by decide +kernel
theorem dX12_feed_5 : decode cX12_feed 5 = .ok (.iload_n 3, 1) := by decide +kernel
theorem dX12_feed_6 : decode cX12_feed 6 = .ok (.i2l, 1) := by decide +kernel
theorem dX12_feed_7 : decode cX12_feed 7 = .ok (.lconst 1, 1) := by decide +kernel
theorem dX12_feed_8 : decode cX12_feed 8 = .ok (.ldc2_w 78, 3) := by decide +kernel
theorem dX12_feed_11 : decode cX12_feed 11 = .ok (.invokestatic 63, 3) := by decide +kernel
theorem dX12_feed_14 : decode cX12_feed 14 = .ok (.ifCond .ne 6, 3) := by decide +kernel
theorem dX12_feed_17 : decode cX12_feed 17 = .ok (.ldc 73, 2) := by decide +kernel
theorem dX12_feed_19 : decode cX12_feed 19 = .ok (.ireturn, 1) := by decide +kernel
theorem dX12_feed_20 : decode cX12_feed 20 = .ok (.aload_n 0, 1) := by decide +kernel
theorem dX12_feed_21 : decode cX12_feed 21 = .ok (.getfield 80, 3) := by decide +kernel
theorem dX12_feed_24 : decode cX12_feed 24 = .ok (.iload_n 3, 1) := by decide +kernel
theorem dX12_feed_25 : decode cX12_feed 25 = .ok (.iadd, 1) := by decide +kernel
theorem dX12_feed_26 : decode cX12_feed 26 = .ok (.sipush 500, 3) := by decide +kernel
theorem dX12_feed_29 : decode cX12_feed 29 = .ok (.if_icmp .le 6, 3) := by decide +kernel
theorem dX12_feed_32 : decode cX12_feed 32 = .ok (.ldc 83, 2) := by decide +kernel
theorem dX12_feed_34 : decode cX12_feed 34 = .ok (.ireturn, 1) := by decide +kernel
theorem dX12_feed_35 : decode cX12_feed 35 = .ok (.iload_n 3, 1) := by decide +kernel
theorem dX12_feed_36 : decode cX12_feed 36 = .ok (.iconst 1, 1) := by decide +kernel
theorem dX12_feed_37 : decode cX12_feed 37 = .ok (.isub, 1) := by decide +kernel
theorem dX12_feed_38 : decode cX12_feed 38 = .ok (.istore 4, 2) := by decide +kernel
theorem dX12_feed_40 : decode cX12_feed 40 = .ok (.iload 4, 2) := by decide +kernel
theorem dX12_feed_42 : decode cX12_feed 42 = .ok (.ifCond .lt 40, 3) := by decide +kernel
theorem dX12_feed_45 : decode cX12_feed 45 = .ok (.aload_n 0, 1) := by decide +kernel
theorem dX12_feed_46 : decode cX12_feed 46 = .ok (.getfield 25, 3) := by decide +kernel
theorem dX12_feed_49 : decode cX12_feed 49 = .ok (.aload_n 0, 1) := by decide +kernel
theorem dX12_feed_50 : decode cX12_feed 50 = .ok (.getfield 80, 3) := by decide +kernel
theorem dX12_feed_53 : decode cX12_feed 53 = .ok (.lload_n 1, 1) := by decide +kernel
theorem dX12_feed_54 : decode cX12_feed 54 = .ok (.bipush 8, 2) := by decide +kernel
theorem dX12_feed_56 : decode cX12_feed 56 = .ok (.iload 4, 2) := by decide +kernel
theorem dX12_feed_58 : decode cX12_feed 58 = .ok (.imul, 1) := by decide +kernel
theorem dX12_feed_59 : decode cX12_feed 59 = .ok (.lshr, 1) := by decide +kernel
theorem dX12_feed_60 : decode cX12_feed 60 = .ok (.ldc2_w 84, 3) := by decide +kernel
theorem dX12_feed_63 : decode cX12_feed 63 = .ok (.land, 1) := by decide +kernel
theorem dX12_feed_64 : decode cX12_feed 64 = .ok (.l2i, 1) := by decide +kernel
theorem dX12_feed_65 : decode cX12_feed 65 = .ok (.iastore, 1) := by decide +kernel
theorem dX12_feed_66 : decode cX12_feed 66 = .ok (.aload_n 0, 1) := by decide +kernel
theorem dX12_feed_67 : decode cX12_feed 67 = .ok (.dup, 1) := by decide +kernel
theorem dX12_feed_68 : decode cX12_feed 68 = .ok (.getfield 80, 3) := by decide +kernel
theorem dX12_feed_71 : decode cX12_feed 71 = .ok (.iconst 1, 1) := by decide +kernel
theorem dX12_feed_72 : decode cX12_feed 72 = .ok (.iadd, 1) := by decide +kernel
theorem dX12_feed_73 : decode cX12_feed 73 = .ok (.putfield 80, 3) := by decide +kernel
theorem dX12_feed_76 : decode cX12_feed 76 = .ok (.iinc 4 (-1), 3) := by decide +kernel
theorem dX12_feed_79 : decode cX12_feed 79 = .ok (.goto (-39), 3) := by decide +kernel
theorem dX12_feed_82 : decode cX12_feed 82 = .ok (.aload_n 0, 1) := by decide +kernel
theorem dX12_feed_83 : decode cX12_feed 83 = .ok (.getfield 80, 3) := by decide +kernel
theorem dX12_feed_86 : decode cX12_feed 86 = .ok (.ireturn, 1) := by decide +kernel
abbrev cX12_byteAt : ByteArray := prog_14_method_11_code
def yX12_byteAt : MethodName := ⟨"DayTonguesModel", "byteAt", "(I)I"⟩
def mX12_byteAt : dt_MD := (yX12_byteAt, cX12_byteAt, 2, some .int)
theorem dX12_byteAt_0 : decode cX12_byteAt 0 = .ok (.iload_n 1, 1) := by decide +kernel
theorem dX12_byteAt_1 : decode cX12_byteAt 1 = .ok (.aload_n 0, 1) := by decide +kernel
theorem dX12_byteAt_2 : decode cX12_byteAt 2 = .ok (.getfield 86, 3) := by decide +kernel
theorem dX12_byteAt_5 : decode cX12_byteAt 5 = .ok (.if_icmp .ge 12, 3) := by decide +kernel
theorem dX12_byteAt_8 : decode cX12_byteAt 8 = .ok (.aload_n 0, 1) := by decide +kernel
theorem dX12_byteAt_9 : decode cX12_byteAt 9 = .ok (.getfield 25, 3) := by decide +kernel
theorem dX12_byteAt_12 : decode cX12_byteAt 12 = .ok (.iload_n 1, 1) := by decide +kernel
theorem dX12_byteAt_13 : decode cX12_byteAt 13 = .ok (.iaload, 1) := by decide +kernel
theorem dX12_byteAt_14 : decode cX12_byteAt 14 = .ok (.goto 5, 3) := by decide +kernel
theorem dX12_byteAt_17 : decode cX12_byteAt 17 = .ok (.ldc 89, 2) := by decide +kernel
theorem dX12_byteAt_19 : decode cX12_byteAt 19 = .ok (.ireturn, 1) := by decide +kernel
abbrev cX12_isLetter : ByteArray := prog_14_method_12_code
def yX12_isLetter : MethodName := ⟨"DayTonguesModel", "isLetter", "(I)Z"⟩
def mX12_isLetter : dt_MD := (yX12_isLetter, cX12_isLetter, 1, some .boolean)
theorem dX12_isLetter_0 : decode cX12_isLetter 0 = .ok (.iload_n 0, 1) := by decide +kernel
theorem dX12_isLetter_1 : decode cX12_isLetter 1 = .ok (.bipush 97, 2) := by decide +kernel
theorem dX12_isLetter_3 : decode cX12_isLetter 3 = .ok (.if_icmp .lt 13, 3) := by decide +kernel
theorem dX12_isLetter_6 : decode cX12_isLetter 6 = .ok (.iload_n 0, 1) := by decide +kernel
theorem dX12_isLetter_7 : decode cX12_isLetter 7 = .ok (.bipush 122, 2) := by decide +kernel
theorem dX12_isLetter_9 : decode cX12_isLetter 9 = .ok (.if_icmp .gt 7, 3) := by decide +kernel
theorem dX12_isLetter_12 : decode cX12_isLetter 12 = .ok (.iconst 1, 1) := by decide +kernel
theorem dX12_isLetter_13 : decode cX12_isLetter 13 = .ok (.goto 4, 3) := by decide +kernel
theorem dX12_isLetter_16 : decode cX12_isLetter 16 = .ok (.iconst 0, 1) := by decide +kernel
theorem dX12_isLetter_17 : decode cX12_isLetter 17 = .ok (.ireturn, 1) := by decide +kernel
abbrev cX12_isFigure : ByteArray := prog_14_method_13_code
def yX12_isFigure : MethodName := ⟨"DayTonguesModel", "isFigure", "(I)Z"⟩
def mX12_isFigure : dt_MD := (yX12_isFigure, cX12_isFigure, 1, some .boolean)
theorem dX12_isFigure_0 : decode cX12_isFigure 0 = .ok (.iload_n 0, 1) := by decide +kernel
theorem dX12_isFigure_1 : decode cX12_isFigure 1 = .ok (.bipush 48, 2) := by decide +kernel
theorem dX12_isFigure_3 : decode cX12_isFigure 3 = .ok (.if_icmp .lt 13, 3) := by decide +kernel
theorem dX12_isFigure_6 : decode cX12_isFigure 6 = .ok (.iload_n 0, 1) := by decide +kernel
theorem dX12_isFigure_7 : decode cX12_isFigure 7 = .ok (.bipush 57, 2) := by decide +kernel
theorem dX12_isFigure_9 : decode cX12_isFigure 9 = .ok (.if_icmp .gt 7, 3) := by decide +kernel
theorem dX12_isFigure_12 : decode cX12_isFigure 12 = .ok (.iconst 1, 1) := by decide +kernel
theorem dX12_isFigure_13 : decode cX12_isFigure 13 = .ok (.goto 4, 3) := by decide +kernel
theorem dX12_isFigure_16 : decode cX12_isFigure 16 = .ok (.iconst 0, 1) := by decide +kernel
theorem dX12_isFigure_17 : decode cX12_isFigure 17 = .ok (.ireturn, 1) := by decide +kernel
abbrev cX12_next : ByteArray := prog_14_method_14_code
def yX12_next : MethodName := ⟨"DayTonguesModel", "next", "()V"⟩
def mX12_next : dt_MD := (yX12_next, cX12_next, 2, none)
theorem dX12_next_0 : decode cX12_next 0 = .ok (.aload_n 0, 1) := by decide +kernel
theorem dX12_next_1 : decode cX12_next 1 = .ok (.aload_n 0, 1) := by decide +kernel
theorem dX12_next_2 : decode cX12_next 2 = .ok (.getfield 90, 3) := by decide +kernel
theorem dX12_next_5 : decode cX12_next 5 = .ok (.invokevirtual 93, 3) := by decide +kernel
theorem dX12_next_8 : decode cX12_next 8 = .ok (.bipush 32, 2) := by decide +kernel
theorem dX12_next_10 : decode cX12_next 10 = .ok (.if_icmp .eq 16, 3) := by decide +kernel
theorem dX12_next_13 : decode cX12_next 13 = .ok (.aload_n 0, 1) := by decide +kernel
theorem dX12_next_14 : decode cX12_next 14 = .ok (.aload_n 0, 1) := by decide +kernel
theorem dX12_next_15 : decode cX12_next 15 = .ok (.getfield 90, 3) := by decide +kernel
theorem dX12_next_18 : decode cX12_next 18 = .ok (.invokevirtual 93, 3) := by decide +kernel
theorem dX12_next_21 : decode cX12_next 21 = .ok (.bipush 10, 2) := by decide +kernel
theorem dX12_next_23 : decode cX12_next 23 = .ok (.if_icmp .ne 16, 3) := by decide +kernel
theorem dX12_next_26 : decode cX12_next 26 = .ok (.aload_n 0, 1) := by decide +kernel
theorem dX12_next_27 : decode cX12_next 27 = .ok (.dup, 1) := by decide +kernel
theorem dX12_next_28 : decode cX12_next 28 = .ok (.getfield 90, 3) := by decide +kernel
theorem dX12_next_31 : decode cX12_next 31 = .ok (.iconst 1, 1) := by decide +kernel
theorem dX12_next_32 : decode cX12_next 32 = .ok (.iadd, 1) := by decide +kernel
theorem dX12_next_33 : decode cX12_next 33 = .ok (.putfield 90, 3) := by decide +kernel
theorem dX12_next_36 : decode cX12_next 36 = .ok (.goto (-36), 3) := by decide +kernel
theorem dX12_next_39 : decode cX12_next 39 = .ok (.aload_n 0, 1) := by decide +kernel
theorem dX12_next_40 : decode cX12_next 40 = .ok (.aload_n 0, 1) := by decide +kernel
theorem dX12_next_41 : decode cX12_next 41 = .ok (.getfield 90, 3) := by decide +kernel
theorem dX12_next_44 : decode cX12_next 44 = .ok (.putfield 96, 3) := by decide +kernel
theorem dX12_next_47 : decode cX12_next 47 = .ok (.aload_n 0, 1) := by decide +kernel
theorem dX12_next_48 : decode cX12_next 48 = .ok (.aload_n 0, 1) := by decide +kernel
theorem dX12_next_49 : decode cX12_next 49 = .ok (.getfield 90, 3) := by decide +kernel
theorem dX12_next_52 : decode cX12_next 52 = .ok (.invokevirtual 93, 3) := by decide +kernel
theorem dX12_next_55 : decode cX12_next 55 = .ok (.istore_n 1, 1) := by decide +kernel
theorem dX12_next_56 : decode cX12_next 56 = .ok (.iload_n 1, 1) := by decide +kernel
theorem dX12_next_57 : decode cX12_next 57 = .ok (.ldc 89, 2) := by decide +kernel
theorem dX12_next_59 : decode cX12_next 59 = .ok (.if_icmp .ne 11, 3) := by decide +kernel
theorem dX12_next_62 : decode cX12_next 62 = .ok (.aload_n 0, 1) := by decide +kernel
theorem dX12_next_63 : decode cX12_next 63 = .ok (.iconst 1, 1) := by decide +kernel
theorem dX12_next_64 : decode cX12_next 64 = .ok (.putfield 99, 3) := by decide +kernel
theorem dX12_next_67 : decode cX12_next 67 = .ok (.goto 129, 3) := by decide +kernel
theorem dX12_next_70 : decode cX12_next 70 = .ok (.iload_n 1, 1) := by decide +kernel
theorem dX12_next_71 : decode cX12_next 71 = .ok (.invokestatic 102, 3) := by decide +kernel
theorem dX12_next_74 : decode cX12_next 74 = .ok (.ifCond .eq 38, 3) := by decide +kernel
theorem dX12_next_77 : decode cX12_next 77 = .ok (.aload_n 0, 1) := by decide +kernel
theorem dX12_next_78 : decode cX12_next 78 = .ok (.aload_n 0, 1) := by decide +kernel
theorem dX12_next_79 : decode cX12_next 79 = .ok (.getfield 90, 3) := by decide +kernel
theorem dX12_next_82 : decode cX12_next 82 = .ok (.invokevirtual 93, 3) := by decide +kernel
theorem dX12_next_85 : decode cX12_next 85 = .ok (.invokestatic 102, 3) := by decide +kernel
theorem dX12_next_88 : decode cX12_next 88 = .ok (.ifCond .eq 16, 3) := by decide +kernel
theorem dX12_next_91 : decode cX12_next 91 = .ok (.aload_n 0, 1) := by decide +kernel
theorem dX12_next_92 : decode cX12_next 92 = .ok (.dup, 1) := by decide +kernel
theorem dX12_next_93 : decode cX12_next 93 = .ok (.getfield 90, 3) := by decide +kernel
theorem dX12_next_96 : decode cX12_next 96 = .ok (.iconst 1, 1) := by decide +kernel
theorem dX12_next_97 : decode cX12_next 97 = .ok (.iadd, 1) := by decide +kernel
theorem dX12_next_98 : decode cX12_next 98 = .ok (.putfield 90, 3) := by decide +kernel
theorem dX12_next_101 : decode cX12_next 101 = .ok (.goto (-24), 3) := by decide +kernel
theorem dX12_next_104 : decode cX12_next 104 = .ok (.aload_n 0, 1) := by decide +kernel
theorem dX12_next_105 : decode cX12_next 105 = .ok (.iconst 2, 1) := by decide +kernel
theorem dX12_next_106 : decode cX12_next 106 = .ok (.putfield 99, 3) := by decide +kernel
theorem dX12_next_109 : decode cX12_next 109 = .ok (.goto 87, 3) := by decide +kernel
theorem dX12_next_112 : decode cX12_next 112 = .ok (.iload_n 1, 1) := by decide +kernel
theorem dX12_next_113 : decode cX12_next 113 = .ok (.invokestatic 105, 3) := by decide +kernel
theorem dX12_next_116 : decode cX12_next 116 = .ok (.ifCond .eq 55, 3) := by decide +kernel
theorem dX12_next_119 : decode cX12_next 119 = .ok (.aload_n 0, 1) := by decide +kernel
theorem dX12_next_120 : decode cX12_next 120 = .ok (.aload_n 0, 1) := by decide +kernel
theorem dX12_next_121 : decode cX12_next 121 = .ok (.getfield 90, 3) := by decide +kernel
theorem dX12_next_124 : decode cX12_next 124 = .ok (.invokevirtual 93, 3) := by decide +kernel
theorem dX12_next_127 : decode cX12_next 127 = .ok (.invokestatic 105, 3) := by decide +kernel
theorem dX12_next_130 : decode cX12_next 130 = .ok (.ifCond .eq 16, 3) := by decide +kernel
theorem dX12_next_133 : decode cX12_next 133 = .ok (.aload_n 0, 1) := by decide +kernel
theorem dX12_next_134 : decode cX12_next 134 = .ok (.dup, 1) := by decide +kernel
theorem dX12_next_135 : decode cX12_next 135 = .ok (.getfield 90, 3) := by decide +kernel
theorem dX12_next_138 : decode cX12_next 138 = .ok (.iconst 1, 1) := by decide +kernel
theorem dX12_next_139 : decode cX12_next 139 = .ok (.iadd, 1) := by decide +kernel
theorem dX12_next_140 : decode cX12_next 140 = .ok (.putfield 90, 3) := by decide +kernel
theorem dX12_next_143 : decode cX12_next 143 = .ok (.goto (-24), 3) := by decide +kernel
theorem dX12_next_146 : decode cX12_next 146 = .ok (.aload_n 0, 1) := by decide +kernel
theorem dX12_next_147 : decode cX12_next 147 = .ok (.aload_n 0, 1) := by decide +kernel
theorem dX12_next_148 : decode cX12_next 148 = .ok (.getfield 90, 3) := by decide +kernel
theorem dX12_next_151 : decode cX12_next 151 = .ok (.aload_n 0, 1) := by decide +kernel
theorem dX12_next_152 : decode cX12_next 152 = .ok (.getfield 96, 3) := by decide +kernel
theorem dX12_next_155 : decode cX12_next 155 = .ok (.isub, 1) := by decide +kernel
theorem dX12_next_156 : decode cX12_next 156 = .ok (.iconst 3, 1) := by decide +kernel
theorem dX12_next_157 : decode cX12_next 157 = .ok (.if_icmp .le 7, 3) := by decide +kernel
theorem dX12_next_160 : decode cX12_next 160 = .ok (.iconst 0, 1) := by decide +kernel
theorem dX12_next_161 : decode cX12_next 161 = .ok (.goto 4, 3) := by decide +kernel
theorem dX12_next_164 : decode cX12_next 164 = .ok (.iconst 3, 1) := by decide +kernel
theorem dX12_next_165 : decode cX12_next 165 = .ok (.putfield 99, 3) := by decide +kernel
theorem dX12_next_168 : decode cX12_next 168 = .ok (.goto 28, 3) := by decide +kernel
theorem dX12_next_171 : decode cX12_next 171 = .ok (.aload_n 0, 1) := by decide +kernel
theorem dX12_next_172 : decode cX12_next 172 = .ok (.dup, 1) := by decide +kernel
theorem dX12_next_173 : decode cX12_next 173 = .ok (.getfield 90, 3) := by decide +kernel
theorem dX12_next_176 : decode cX12_next 176 = .ok (.iconst 1, 1) := by decide +kernel
theorem dX12_next_177 : decode cX12_next 177 = .ok (.iadd, 1) := by decide +kernel
theorem dX12_next_178 : decode cX12_next 178 = .ok (.putfield 90, 3) := by decide +kernel
theorem dX12_next_181 : decode cX12_next 181 = .ok (.aload_n 0, 1) := by decide +kernel
theorem dX12_next_182 : decode cX12_next 182 = .ok (.iload_n 1, 1) := by decide +kernel
theorem dX12_next_183 : decode cX12_next 183 = .ok (.bipush 59, 2) := by decide +kernel
theorem dX12_next_185 : decode cX12_next 185 = .ok (.if_icmp .ne 7, 3) := by decide +kernel
theorem dX12_next_188 : decode cX12_next 188 = .ok (.iconst 4, 1) := by decide +kernel
theorem dX12_next_189 : decode cX12_next 189 = .ok (.goto 4, 3) := by decide +kernel
theorem dX12_next_192 : decode cX12_next 192 = .ok (.iconst 0, 1) := by decide +kernel
theorem dX12_next_193 : decode cX12_next 193 = .ok (.putfield 99, 3) := by decide +kernel
theorem dX12_next_196 : decode cX12_next 196 = .ok (.aload_n 0, 1) := by decide +kernel
theorem dX12_next_197 : decode cX12_next 197 = .ok (.aload_n 0, 1) := by decide +kernel
theorem dX12_next_198 : decode cX12_next 198 = .ok (.getfield 90, 3) := by decide +kernel
theorem dX12_next_201 : decode cX12_next 201 = .ok (.putfield 108, 3) := by decide +kernel
theorem dX12_next_204 : decode cX12_next 204 = .ok (.return_, 1) := by decide +kernel
abbrev cX12_begin : ByteArray := prog_14_method_15_code
def yX12_begin : MethodName := ⟨"DayTonguesModel", "begin", "()V"⟩
def mX12_begin : dt_MD := (yX12_begin, cX12_begin, 1, none)
theorem dX12_begin_0 : decode cX12_begin 0 = .ok (.aload_n 0, 1) := by decide +kernel
theorem dX12_begin_1 : decode cX12_begin 1 = .ok (.aload_n 0, 1) := by decide +kernel
theorem dX12_begin_2 : decode cX12_begin 2 = .ok (.getfield 80, 3) := by decide +kernel
theorem dX12_begin_5 : decode cX12_begin 5 = .ok (.putfield 86, 3) := by decide +kernel
theorem dX12_begin_8 : decode cX12_begin 8 = .ok (.aload_n 0, 1) := by decide +kernel
theorem dX12_begin_9 : decode cX12_begin 9 = .ok (.iconst 0, 1) := by decide +kernel
theorem dX12_begin_10 : decode cX12_begin 10 = .ok (.putfield 80, 3) := by decide +kernel
theorem dX12_begin_13 : decode cX12_begin 13 = .ok (.aload_n 0, 1) := by decide +kernel
theorem dX12_begin_14 : decode cX12_begin 14 = .ok (.iconst 0, 1) := by decide +kernel
theorem dX12_begin_15 : decode cX12_begin 15 = .ok (.putfield 90, 3) := by decide +kernel
theorem dX12_begin_18 : decode cX12_begin 18 = .ok (.aload_n 0, 1) := by decide +kernel
theorem dX12_begin_19 : decode cX12_begin 19 = .ok (.iconst 0, 1) := by decide +kernel
theorem dX12_begin_20 : decode cX12_begin 20 = .ok (.putfield 111, 3) := by decide +kernel
theorem dX12_begin_23 : decode cX12_begin 23 = .ok (.aload_n 0, 1) := by decide +kernel
theorem dX12_begin_24 : decode cX12_begin 24 = .ok (.invokevirtual 114, 3) := by decide +kernel
theorem dX12_begin_27 : decode cX12_begin 27 = .ok (.return_, 1) := by decide +kernel
abbrev cX12_bad : ByteArray := prog_14_method_16_code
def yX12_bad : MethodName := ⟨"DayTonguesModel", "bad", "(I)V"⟩
def mX12_bad : dt_MD := (yX12_bad, cX12_bad, 2, none)
theorem dX12_bad_0 : decode cX12_bad 0 = .ok (.aload_n 0, 1) := by decide +kernel
theorem dX12_bad_1 : decode cX12_bad 1 = .ok (.getfield 111, 3) := by decide +kernel
theorem dX12_bad_4 : decode cX12_bad 4 = .ok (.ifCond .ne 16, 3) := by decide +kernel
theorem dX12_bad_7 : decode cX12_bad 7 = .ok (.aload_n 0, 1) := by decide +kernel
theorem dX12_bad_8 : decode cX12_bad 8 = .ok (.iload_n 1, 1) := by decide +kernel
theorem dX12_bad_9 : decode cX12_bad 9 = .ok (.putfield 111, 3) := by decide +kernel
theorem dX12_bad_12 : decode cX12_bad 12 = .ok (.aload_n 0, 1) := by decide +kernel
theorem dX12_bad_13 : decode cX12_bad 13 = .ok (.aload_n 0, 1) := by decide +kernel
theorem dX12_bad_14 : decode cX12_bad 14 = .ok (.getfield 96, 3) := by decide +kernel
theorem dX12_bad_17 : decode cX12_bad 17 = .ok (.putfield 117, 3) := by decide +kernel
theorem dX12_bad_20 : decode cX12_bad 20 = .ok (.return_, 1) := by decide +kernel
abbrev cX12_must : ByteArray := prog_14_method_17_code
def yX12_must : MethodName := ⟨"DayTonguesModel", "must", "(Z)V"⟩
def mX12_must : dt_MD := (yX12_must, cX12_must, 2, none)
theorem dX12_must_0 : decode cX12_must 0 = .ok (.iload_n 1, 1) := by decide +kernel
theorem dX12_must_1 : decode cX12_must 1 = .ok (.ifCond .ne 8, 3) := by decide +kernel
theorem dX12_must_4 : decode cX12_must 4 = .ok (.aload_n 0, 1) := by decide +kernel
theorem dX12_must_5 : decode cX12_must 5 = .ok (.iconst 1, 1) := by decide +kernel
theorem dX12_must_6 : decode cX12_must 6 = .ok (.invokevirtual 120, 3) := by decide +kernel
theorem dX12_must_9 : decode cX12_must 9 = .ok (.aload_n 0, 1) := by decide +kernel
theorem dX12_must_10 : decode cX12_must 10 = .ok (.getfield 111, 3) := by decide +kernel
theorem dX12_must_13 : decode cX12_must 13 = .ok (.ifCond .ne 7, 3) := by decide +kernel
theorem dX12_must_16 : decode cX12_must 16 = .ok (.aload_n 0, 1) := by decide +kernel
theorem dX12_must_17 : decode cX12_must 17 = .ok (.invokevirtual 114, 3) := by decide +kernel
theorem dX12_must_20 : decode cX12_must 20 = .ok (.return_, 1) := by decide +kernel
abbrev cX12_name : ByteArray := prog_14_method_18_code
def yX12_name : MethodName := ⟨"DayTonguesModel", "name", "()J"⟩
def mX12_name : dt_MD := (yX12_name, cX12_name, 4, some .long)
theorem dX12_name_0 : decode cX12_name 0 = .ok (.lconst 0, 1) := by decide +kernel
theorem dX12_name_1 : decode cX12_name 1 = .ok (.lstore_n 1, 1) := by decide +kernel
theorem dX12_name_2 : decode cX12_name 2 = .ok (.aload_n 0, 1) := by decide +kernel
theorem dX12_name_3 : decode cX12_name 3 = .ok (.getfield 96, 3) := by decide +kernel
theorem dX12_name_6 : decode cX12_name 6 = .ok (.istore_n 3, 1) := by decide +kernel
theorem dX12_name_7 : decode cX12_name 7 = .ok (.iload_n 3, 1) := by decide +kernel
theorem dX12_name_8 : decode cX12_name 8 = .ok (.aload_n 0, 1) := by decide +kernel
theorem dX12_name_9 : decode cX12_name 9 = .ok (.getfield 108, 3) := by decide +kernel
theorem dX12_name_12 : decode cX12_name 12 = .ok (.if_icmp .ge 44, 3) := by decide +kernel
theorem dX12_name_15 : decode cX12_name 15 = .ok (.aload_n 0, 1) := by decide +kernel
theorem dX12_name_16 : decode cX12_name 16 = .ok (.getfield 99, 3) := by decide +kernel
theorem dX12_name_19 : decode cX12_name 19 = .ok (.iconst 2, 1) := by decide +kernel
theorem dX12_name_20 : decode cX12_name 20 = .ok (.if_icmp .ne 36, 3) := by decide +kernel
theorem dX12_name_23 : decode cX12_name 23 = .ok (.aload_n 0, 1) := by decide +kernel
theorem dX12_name_24 : decode cX12_name 24 = .ok (.getfield 108, 3) := by decide +kernel
theorem dX12_name_27 : decode cX12_name 27 = .ok (.aload_n 0, 1) := by decide +kernel
theorem dX12_name_28 : decode cX12_name 28 = .ok (.getfield 96, 3) := by decide +kernel
theorem dX12_name_31 : decode cX12_name 31 = .ok (.isub, 1) := by decide +kernel
theorem dX12_name_32 : decode cX12_name 32 = .ok (.bipush 8, 2) := by decide +kernel
theorem dX12_name_34 : decode cX12_name 34 = .ok (.if_icmp .ge 22, 3) := by decide +kernel
theorem dX12_name_37 : decode cX12_name 37 = .ok (.lload_n 1, 1) := by decide +kernel
theorem dX12_name_38 : decode cX12_name 38 = .ok (.bipush 8, 2) := by decide +kernel
theorem dX12_name_40 : decode cX12_name 40 = .ok (.lshl, 1) := by decide +kernel
theorem dX12_name_41 : decode cX12_name 41 = .ok (.aload_n 0, 1) := by decide +kernel
theorem dX12_name_42 : decode cX12_name 42 = .ok (.getfield 25, 3) := by decide +kernel
theorem dX12_name_45 : decode cX12_name 45 = .ok (.iload_n 3, 1) := by decide +kernel
theorem dX12_name_46 : decode cX12_name 46 = .ok (.iaload, 1) := by decide +kernel
theorem dX12_name_47 : decode cX12_name 47 = .ok (.i2l, 1) := by decide +kernel
theorem dX12_name_48 : decode cX12_name 48 = .ok (.lor, 1) := by decide +kernel
theorem dX12_name_49 : decode cX12_name 49 = .ok (.lstore_n 1, 1) := by decide +kernel
theorem dX12_name_50 : decode cX12_name 50 = .ok (.iinc 3 1, 3) := by decide +kernel
theorem dX12_name_53 : decode cX12_name 53 = .ok (.goto (-46), 3) := by decide +kernel
theorem dX12_name_56 : decode cX12_name 56 = .ok (.aload_n 0, 1) := by decide +kernel
theorem dX12_name_57 : decode cX12_name 57 = .ok (.getfield 111, 3) := by decide +kernel
theorem dX12_name_60 : decode cX12_name 60 = .ok (.ifCond .ne 7, 3) := by decide +kernel
theorem dX12_name_63 : decode cX12_name 63 = .ok (.lload_n 1, 1) := by decide +kernel
theorem dX12_name_64 : decode cX12_name 64 = .ok (.goto 4, 3) := by decide +kernel
theorem dX12_name_67 : decode cX12_name 67 = .ok (.lconst 0, 1) := by decide +kernel
theorem dX12_name_68 : decode cX12_name 68 = .ok (.lreturn, 1) := by decide +kernel
abbrev cX12_figures : ByteArray := prog_14_method_19_code
def yX12_figures : MethodName := ⟨"DayTonguesModel", "figures", "()I"⟩
def mX12_figures : dt_MD := (yX12_figures, cX12_figures, 3, some .int)
theorem dX12_figures_0 : decode cX12_figures 0 = .ok (.iconst 0, 1) := by decide +kernel
theorem dX12_figures_1 : decode cX12_figures 1 = .ok (.istore_n 1, 1) := by decide +kernel
theorem dX12_figures_2 : decode cX12_figures 2 = .ok (.aload_n 0, 1) := by decide +kernel
theorem dX12_figures_3 : decode cX12_figures 3 = .ok (.getfield 96, 3) := by decide +kernel
theorem dX12_figures_6 : decode cX12_figures 6 = .ok (.istore_n 2, 1) := by decide +kernel
theorem dX12_figures_7 : decode cX12_figures 7 = .ok (.iload_n 2, 1) := by decide +kernel
theorem dX12_figures_8 : decode cX12_figures 8 = .ok (.aload_n 0, 1) := by decide +kernel
theorem dX12_figures_9 : decode cX12_figures 9 = .ok (.getfield 108, 3) := by decide +kernel
theorem dX12_figures_12 : decode cX12_figures 12 = .ok (.if_icmp .ge 32, 3) := by decide +kernel
theorem dX12_figures_15 : decode cX12_figures 15 = .ok (.aload_n 0, 1) := by decide +kernel
theorem dX12_figures_16 : decode cX12_figures 16 = .ok (.getfield 99, 3) := by decide +kernel
theorem dX12_figures_19 : decode cX12_figures 19 = .ok (.iconst 3, 1) := by decide +kernel
theorem dX12_figures_20 : decode cX12_figures 20 = .ok (.if_icmp .ne 24, 3) := by decide +kernel
theorem dX12_figures_23 : decode cX12_figures 23 = .ok (.bipush 10, 2) := by decide +kernel
theorem dX12_figures_25 : decode cX12_figures 25 = .ok (.iload_n 1, 1) := by decide +kernel
theorem dX12_figures_26 : decode cX12_figures 26 = .ok (.imul, 1) := by decide +kernel
theorem dX12_figures_27 : decode cX12_figures 27 = .ok (.aload_n 0, 1) := by decide +kernel
theorem dX12_figures_28 : decode cX12_figures 28 = .ok (.getfield 25, 3) := by decide +kernel
theorem dX12_figures_31 : decode cX12_figures 31 = .ok (.iload_n 2, 1) := by decide +kernel
theorem dX12_figures_32 : decode cX12_figures 32 = .ok (.iaload, 1) := by decide +kernel
theorem dX12_figures_33 : decode cX12_figures 33 = .ok (.iadd, 1) := by decide +kernel
theorem dX12_figures_34 : decode cX12_figures 34 = .ok (.bipush 48, 2) := by decide +kernel
theorem dX12_figures_36 : decode cX12_figures 36 = .ok (.isub, 1) := by decide +kernel
theorem dX12_figures_37 : decode cX12_figures 37 = .ok (.istore_n 1, 1) := by decide +kernel
theorem dX12_figures_38 : decode cX12_figures 38 = .ok (.iinc 2 1, 3) := by decide +kernel
theorem dX12_figures_41 : decode cX12_figures 41 = .ok (.goto (-34), 3) := by decide +kernel
theorem dX12_figures_44 : decode cX12_figures 44 = .ok (.iload_n 1, 1) := by decide +kernel
theorem dX12_figures_45 : decode cX12_figures 45 = .ok (.ireturn, 1) := by decide +kernel
abbrev cX12_number : ByteArray := prog_14_method_20_code
def yX12_number : MethodName := ⟨"DayTonguesModel", "number", "(II)I"⟩
def mX12_number : dt_MD := (yX12_number, cX12_number, 4, some .int)
theorem dX12_number_0 : decode cX12_number 0 = .ok (.aload_n 0, 1) := by decide +kernel
theorem dX12_number_1 : decode cX12_number 1 = .ok (.getfield 111, 3) := by decide +kernel
theorem dX12_number_4 : decode cX12_number 4 = .ok (.ifCond .le 5, 3) := by decide +kernel
theorem dX12_number_7 : decode cX12_number 7 = .ok (.iconst 0, 1) := by decide +kernel
theorem dX12_number_8 : decode cX12_number 8 = .ok (.ireturn, 1) := by decide +kernel
theorem dX12_number_9 : decode cX12_number 9 = .ok (.aload_n 0, 1) := by decide +kernel
theorem dX12_number_10 : decode cX12_number 10 = .ok (.invokevirtual 124, 3) := by decide +kernel
theorem dX12_number_13 : decode cX12_number 13 = .ok (.istore_n 3, 1) := by decide +kernel
theorem dX12_number_14 : decode cX12_number 14 = .ok (.aload_n 0, 1) := by decide +kernel
theorem dX12_number_15 : decode cX12_number 15 = .ok (.getfield 99, 3) := by decide +kernel
theorem dX12_number_18 : decode cX12_number 18 = .ok (.iconst 3, 1) := by decide +kernel
theorem dX12_number_19 : decode cX12_number 19 = .ok (.if_icmp .ne 20, 3) := by decide +kernel
theorem dX12_number_22 : decode cX12_number 22 = .ok (.iload_n 3, 1) := by decide +kernel
theorem dX12_number_23 : decode cX12_number 23 = .ok (.i2l, 1) := by decide +kernel
theorem dX12_number_24 : decode cX12_number 24 = .ok (.iload_n 1, 1) := by decide +kernel
theorem dX12_number_25 : decode cX12_number 25 = .ok (.i2l, 1) := by decide +kernel
theorem dX12_number_26 : decode cX12_number 26 = .ok (.iload_n 2, 1) := by decide +kernel
theorem dX12_number_27 : decode cX12_number 27 = .ok (.i2l, 1) := by decide +kernel
theorem dX12_number_28 : decode cX12_number 28 = .ok (.invokestatic 63, 3) := by decide +kernel
theorem dX12_number_31 : decode cX12_number 31 = .ok (.ifCond .ne 8, 3) := by decide +kernel
theorem dX12_number_34 : decode cX12_number 34 = .ok (.aload_n 0, 1) := by decide +kernel
theorem dX12_number_35 : decode cX12_number 35 = .ok (.iconst 2, 1) := by decide +kernel
theorem dX12_number_36 : decode cX12_number 36 = .ok (.invokevirtual 120, 3) := by decide +kernel
theorem dX12_number_39 : decode cX12_number 39 = .ok (.aload_n 0, 1) := by decide +kernel
theorem dX12_number_40 : decode cX12_number 40 = .ok (.aload_n 0, 1) := by decide +kernel
theorem dX12_number_41 : decode cX12_number 41 = .ok (.getfield 99, 3) := by decide +kernel
theorem dX12_number_44 : decode cX12_number 44 = .ok (.iconst 3, 1) := by decide +kernel
theorem dX12_number_45 : decode cX12_number 45 = .ok (.if_icmp .ne 7, 3) := by decide +kernel
theorem dX12_number_48 : decode cX12_number 48 = .ok (.iconst 1, 1) := by decide +kernel
theorem dX12_number_49 : decode cX12_number 49 = .ok (.goto 4, 3) := by decide +kernel
theorem dX12_number_52 : decode cX12_number 52 = .ok (.iconst 0, 1) := by decide +kernel
theorem dX12_number_53 : decode cX12_number 53 = .ok (.invokevirtual 128, 3) := by decide +kernel
theorem dX12_number_56 : decode cX12_number 56 = .ok (.iload_n 3, 1) := by decide +kernel
theorem dX12_number_57 : decode cX12_number 57 = .ok (.ireturn, 1) := by decide +kernel
abbrev cX12_sortOf : ByteArray := prog_14_method_21_code
def yX12_sortOf : MethodName := ⟨"DayTonguesModel", "sortOf", "(J)I"⟩
def mX12_sortOf : dt_MD := (yX12_sortOf, cX12_sortOf, 2, some .int)
theorem dX12_sortOf_0 : decode cX12_sortOf 0 = .ok (.lload_n 0, 1) := by decide +kernel
theorem dX12_sortOf_1 : decode cX12_sortOf 1 = .ok (.ldc2_w 132, 3) := by decide +kernel
theorem dX12_sortOf_4 : decode cX12_sortOf 4 = .ok (.lcmp, 1) := by decide +kernel
theorem dX12_sortOf_5 : decode cX12_sortOf 5 = .ok (.ifCond .ne 7, 3) := by decide +kernel
theorem dX12_sortOf_8 : decode cX12_sortOf 8 = .ok (.iconst 1, 1) := by decide +kernel
theorem dX12_sortOf_9 : decode cX12_sortOf 9 = .ok (.goto 53, 3) := by decide +kernel
theorem dX12_sortOf_12 : decode cX12_sortOf 12 = .ok (.lload_n 0, 1) := by decide +kernel
theorem dX12_sortOf_13 : decode cX12_sortOf 13 = .ok (.ldc2_w 134, 3) := by decide +kernel
theorem dX12_sortOf_16 : decode cX12_sortOf 16 = .ok (.lcmp, 1) := by decide +kernel
theorem dX12_sortOf_17 : decode cX12_sortOf 17 = .ok (.ifCond .ne 7, 3) := by decide +kernel
theorem dX12_sortOf_20 : decode cX12_sortOf 20 = .ok (.iconst 2, 1) := by decide +kernel
theorem dX12_sortOf_21 : decode cX12_sortOf 21 = .ok (.goto 41, 3) := by decide +kernel
theorem dX12_sortOf_24 : decode cX12_sortOf 24 = .ok (.lload_n 0, 1) := by decide +kernel
theorem dX12_sortOf_25 : decode cX12_sortOf 25 = .ok (.ldc2_w 136, 3) := by decide +kernel
theorem dX12_sortOf_28 : decode cX12_sortOf 28 = .ok (.lcmp, 1) := by decide +kernel
theorem dX12_sortOf_29 : decode cX12_sortOf 29 = .ok (.ifCond .ne 7, 3) := by decide +kernel
theorem dX12_sortOf_32 : decode cX12_sortOf 32 = .ok (.iconst 3, 1) := by decide +kernel
theorem dX12_sortOf_33 : decode cX12_sortOf 33 = .ok (.goto 29, 3) := by decide +kernel
theorem dX12_sortOf_36 : decode cX12_sortOf 36 = .ok (.lload_n 0, 1) := by decide +kernel
theorem dX12_sortOf_37 : decode cX12_sortOf 37 = .ok (.ldc2_w 138, 3) := by decide +kernel
theorem dX12_sortOf_40 : decode cX12_sortOf 40 = .ok (.lcmp, 1) := by decide +kernel
theorem dX12_sortOf_41 : decode cX12_sortOf 41 = .ok (.ifCond .ne 7, 3) := by decide +kernel
theorem dX12_sortOf_44 : decode cX12_sortOf 44 = .ok (.iconst 4, 1) := by decide +kernel
theorem dX12_sortOf_45 : decode cX12_sortOf 45 = .ok (.goto 17, 3) := by decide +kernel
theorem dX12_sortOf_48 : decode cX12_sortOf 48 = .ok (.lload_n 0, 1) := by decide +kernel
theorem dX12_sortOf_49 : decode cX12_sortOf 49 = .ok (.ldc2_w 140, 3) := by decide +kernel
theorem dX12_sortOf_52 : decode cX12_sortOf 52 = .ok (.lcmp, 1) := by decide +kernel
theorem dX12_sortOf_53 : decode cX12_sortOf 53 = .ok (.ifCond .ne 7, 3) := by decide +kernel
theorem dX12_sortOf_56 : decode cX12_sortOf 56 = .ok (.iconst 5, 1) := by decide +kernel
theorem dX12_sortOf_57 : decode cX12_sortOf 57 = .ok (.goto 5, 3) := by decide +kernel
theorem dX12_sortOf_60 : decode cX12_sortOf 60 = .ok (.ldc 89, 2) := by decide +kernel
theorem dX12_sortOf_62 : decode cX12_sortOf 62 = .ok (.ireturn, 1) := by decide +kernel
abbrev cX12_mustEnd : ByteArray := prog_14_method_22_code
def yX12_mustEnd : MethodName := ⟨"DayTonguesModel", "mustEnd", "()V"⟩
def mX12_mustEnd : dt_MD := (yX12_mustEnd, cX12_mustEnd, 1, none)
theorem dX12_mustEnd_0 : decode cX12_mustEnd 0 = .ok (.aload_n 0, 1) := by decide +kernel
theorem dX12_mustEnd_1 : decode cX12_mustEnd 1 = .ok (.getfield 111, 3) := by decide +kernel
theorem dX12_mustEnd_4 : decode cX12_mustEnd 4 = .ok (.ifCond .ne 20, 3) := by decide +kernel
theorem dX12_mustEnd_7 : decode cX12_mustEnd 7 = .ok (.aload_n 0, 1) := by decide +kernel
theorem dX12_mustEnd_8 : decode cX12_mustEnd 8 = .ok (.aload_n 0, 1) := by decide +kernel
theorem dX12_mustEnd_9 : decode cX12_mustEnd 9 = .ok (.getfield 99, 3) := by decide +kernel
theorem dX12_mustEnd_12 : decode cX12_mustEnd 12 = .ok (.iconst 4, 1) := by decide +kernel
theorem dX12_mustEnd_13 : decode cX12_mustEnd 13 = .ok (.if_icmp .ne 7, 3) := by decide +kernel
theorem dX12_mustEnd_16 : decode cX12_mustEnd 16 = .ok (.iconst 1, 1) := by decide +kernel
theorem dX12_mustEnd_17 : decode cX12_mustEnd 17 = .ok (.goto 4, 3) := by decide +kernel
theorem dX12_mustEnd_20 : decode cX12_mustEnd 20 = .ok (.iconst 0, 1) := by decide +kernel
theorem dX12_mustEnd_21 : decode cX12_mustEnd 21 = .ok (.invokevirtual 128, 3) := by decide +kernel
theorem dX12_mustEnd_24 : decode cX12_mustEnd 24 = .ok (.return_, 1) := by decide +kernel
abbrev cX12_readWord : ByteArray := prog_14_method_23_code
def yX12_readWord : MethodName := ⟨"DayTonguesModel", "readWord", "()V"⟩
def mX12_readWord : dt_MD := (yX12_readWord, cX12_readWord, 8, none)
theorem dX12_readWord_0 : decode cX12_readWord 0 = .ok (.aload_n 0, 1) := by decide +kernel
theorem dX12_readWord_1 : decode cX12_readWord 1 = .ok (.getfield 22, 3) := by decide +kernel
theorem dX12_readWord_4 : decode cX12_readWord 4 = .ok (.iconst 0, 1) := by decide +kernel
theorem dX12_readWord_5 : decode cX12_readWord 5 = .ok (.iaload, 1) := by decide +kernel
theorem dX12_readWord_6 : decode cX12_readWord 6 = .ok (.iconst 1, 1) := by decide +kernel
theorem dX12_readWord_7 : decode cX12_readWord 7 = .ok (.isub, 1) := by decide +kernel
theorem dX12_readWord_8 : decode cX12_readWord 8 = .ok (.istore_n 1, 1) := by decide +kernel
theorem dX12_readWord_9 : decode cX12_readWord 9 = .ok (.aload_n 0, 1) := by decide +kernel
theorem dX12_readWord_10 : decode cX12_readWord 10 = .ok (.getfield 22, 3) := by decide +kernel
theorem dX12_readWord_13 : decode cX12_readWord 13 = .ok (.iconst 3, 1) := by decide +kernel
theorem dX12_readWord_14 : decode cX12_readWord 14 = .ok (.iload_n 1, 1) := by decide +kernel
theorem dX12_readWord_15 : decode cX12_readWord 15 = .ok (.iadd, 1) := by decide +kernel
theorem dX12_readWord_16 : decode cX12_readWord 16 = .ok (.iaload, 1) := by decide +kernel
theorem dX12_readWord_17 : decode cX12_readWord 17 = .ok (.bipush 8, 2) := by decide +kernel
theorem dX12_readWord_19 : decode cX12_readWord 19 = .ok (.if_icmp .ne 8, 3) := by decide +kernel
theorem dX12_readWord_22 : decode cX12_readWord 22 = .ok (.aload_n 0, 1) := by decide +kernel
theorem dX12_readWord_23 : decode cX12_readWord 23 = .ok (.iconst 3, 1) := by decide +kernel
theorem dX12_readWord_24 : decode cX12_readWord 24 = .ok (.invokevirtual 120, 3) := by decide +kernel
theorem dX12_readWord_27 : decode cX12_readWord 27 = .ok (.aload_n 0, 1) := by decide +kernel
theorem dX12_readWord_28 : decode cX12_readWord 28 = .ok (.iconst 1, 1) := by decide +kernel
theorem dX12_readWord_29 : decode cX12_readWord 29 = .ok (.invokevirtual 128, 3) := by decide +kernel
theorem dX12_readWord_32 : decode cX12_readWord 32 = .ok (.aload_n 0, 1) := by decide +kernel
theorem dX12_readWord_33 : decode cX12_readWord 33 = .ok (.invokevirtual 142, 3) := by decide +kernel
theorem dX12_readWord_36 : decode cX12_readWord 36 = .ok (.invokestatic 146, 3) := by decide +kernel
theorem dX12_readWord_39 : decode cX12_readWord 39 = .ok (.istore_n 2, 1) := by decide +kernel
theorem dX12_readWord_40 : decode cX12_readWord 40 = .ok (.aload_n 0, 1) := by decide +kernel
theorem dX12_readWord_41 : decode cX12_readWord 41 = .ok (.getfield 111, 3) := by decide +kernel
theorem dX12_readWord_44 : decode cX12_readWord 44 = .ok (.ifCond .ne 18, 3) := by decide +kernel
theorem dX12_readWord_47 : decode cX12_readWord 47 = .ok (.aload_n 0, 1) := by decide +kernel
theorem dX12_readWord_48 : decode cX12_readWord 48 = .ok (.iload_n 2, 1) := by decide +kernel
theorem dX12_readWord_49 : decode cX12_readWord 49 = .ok (.ldc 89, 2) := by decide +kernel
theorem dX12_readWord_51 : decode cX12_readWord 51 = .ok (.if_icmp .eq 7, 3) := by decide +kernel
theorem dX12_readWord_54 : decode cX12_readWord 54 = .ok (.iconst 1, 1) := by decide +kernel
theorem dX12_readWord_55 : decode cX12_readWord 55 = .ok (.goto 4, 3) := by decide +kernel
theorem dX12_readWord_58 : decode cX12_readWord 58 = .ok (.iconst 0, 1) := by decide +kernel
theorem dX12_readWord_59 : decode cX12_readWord 59 = .ok (.invokevirtual 128, 3) := by decide +kernel
theorem dX12_readWord_62 : decode cX12_readWord 62 = .ok (.iload_n 2, 1) := by decide +kernel
theorem dX12_readWord_63 : decode cX12_readWord 63 = .ok (.iconst 4, 1) := by decide +kernel
theorem dX12_readWord_64 : decode cX12_readWord 64 = .ok (.if_icmp .ne 7, 3) := by decide +kernel
theorem dX12_readWord_67 : decode cX12_readWord 67 = .ok (.iconst 2, 1) := by decide +kernel
theorem dX12_readWord_68 : decode cX12_readWord 68 = .ok (.goto 4, 3) := by decide +kernel
theorem dX12_readWord_71 : decode cX12_readWord 71 = .ok (.iconst 1, 1) := by decide +kernel
theorem dX12_readWord_72 : decode cX12_readWord 72 = .ok (.istore_n 3, 1) := by decide +kernel
theorem dX12_readWord_73 : decode cX12_readWord 73 = .ok (.iload_n 2, 1) := by decide +kernel
theorem dX12_readWord_74 : decode cX12_readWord 74 = .ok (.iconst 4, 1) := by decide +kernel
theorem dX12_readWord_75 : decode cX12_readWord 75 = .ok (.if_icmp .ge 7, 3) := by decide +kernel
theorem dX12_readWord_78 : decode cX12_readWord 78 = .ok (.iconst 1, 1) := by decide +kernel
theorem dX12_readWord_79 : decode cX12_readWord 79 = .ok (.goto 4, 3) := by decide +kernel
theorem dX12_readWord_82 : decode cX12_readWord 82 = .ok (.iconst 3, 1) := by decide +kernel
theorem dX12_readWord_83 : decode cX12_readWord 83 = .ok (.istore 4, 2) := by decide +kernel
theorem dX12_readWord_85 : decode cX12_readWord 85 = .ok (.bipush 18, 2) := by decide +kernel
theorem dX12_readWord_87 : decode cX12_readWord 87 = .ok (.bipush 40, 2) := by decide +kernel
theorem dX12_readWord_89 : decode cX12_readWord 89 = .ok (.iload_n 1, 1) := by decide +kernel
theorem dX12_readWord_90 : decode cX12_readWord 90 = .ok (.imul, 1) := by decide +kernel
theorem dX12_readWord_91 : decode cX12_readWord 91 = .ok (.iadd, 1) := by decide +kernel
theorem dX12_readWord_92 : decode cX12_readWord 92 = .ok (.iconst 5, 1) := by decide +kernel
theorem dX12_readWord_93 : decode cX12_readWord 93 = .ok (.aload_n 0, 1) := by decide +kernel
theorem dX12_readWord_94 : decode cX12_readWord 94 = .ok (.getfield 22, 3) := by decide +kernel
theorem dX12_readWord_97 : decode cX12_readWord 97 = .ok (.iconst 3, 1) := by decide +kernel
theorem dX12_readWord_98 : decode cX12_readWord 98 = .ok (.iload_n 1, 1) := by decide +kernel
theorem dX12_readWord_99 : decode cX12_readWord 99 = .ok (.iadd, 1) := by decide +kernel
theorem dX12_readWord_100 : decode cX12_readWord 100 = .ok (.iaload, 1) := by decide +kernel
theorem dX12_readWord_101 : decode cX12_readWord 101 = .ok (.imul, 1) := by decide +kernel
theorem dX12_readWord_102 : decode cX12_readWord 102 = .ok (.iadd, 1) := by decide +kernel
theorem dX12_readWord_103 : decode cX12_readWord 103 = .ok (.istore 5, 2) := by decide +kernel
theorem dX12_readWord_105 : decode cX12_readWord 105 = .ok (.iconst 0, 1) := by decide +kernel
theorem dX12_readWord_106 : decode cX12_readWord 106 = .ok (.istore 6, 2) := by decide +kernel
theorem dX12_readWord_108 : decode cX12_readWord 108 = .ok (.aload_n 0, 1) := by decide +kernel
theorem dX12_readWord_109 : decode cX12_readWord 109 = .ok (.getfield 111, 3) := by decide +kernel
theorem dX12_readWord_112 : decode cX12_readWord 112 = .ok (.ifCond .ne 61, 3) := by decide +kernel
theorem dX12_readWord_115 : decode cX12_readWord 115 = .ok (.iload 6, 2) := by decide +kernel
theorem dX12_readWord_117 : decode cX12_readWord 117 = .ok (.iload_n 3, 1) := by decide +kernel
theorem dX12_readWord_118 : decode cX12_readWord 118 = .ok (.if_icmp .lt 18, 3) := by decide +kernel
theorem dX12_readWord_121 : decode cX12_readWord 121 = .ok (.iload 6, 2) := by decide +kernel
theorem dX12_readWord_123 : decode cX12_readWord 123 = .ok (.iload 4, 2) := by decide +kernel
theorem dX12_readWord_125 : decode cX12_readWord 125 = .ok (.if_icmp .ge 48, 3) := by decide +kernel
theorem dX12_readWord_128 : decode cX12_readWord 128 = .ok (.aload_n 0, 1) := by decide +kernel
theorem dX12_readWord_129 : decode cX12_readWord 129 = .ok (.getfield 99, 3) := by decide +kernel
theorem dX12_readWord_132 : decode cX12_readWord 132 = .ok (.iconst 3, 1) := by decide +kernel
theorem dX12_readWord_133 : decode cX12_readWord 133 = .ok (.if_icmp .ne 40, 3) := by decide +kernel
theorem dX12_readWord_136 : decode cX12_readWord 136 = .ok (.aload_n 0, 1) := by decide +kernel
theorem dX12_readWord_137 : decode cX12_readWord 137 = .ok (.iconst 1, 1) := by decide +kernel
theorem dX12_readWord_138 : decode cX12_readWord 138 = .ok (.sipush 255, 3) := by decide +kernel
theorem dX12_readWord_141 : decode cX12_readWord 141 = .ok (.invokevirtual 150, 3) := by decide +kernel
theorem dX12_readWord_144 : decode cX12_readWord 144 = .ok (.istore 7, 2) := by decide +kernel
theorem dX12_readWord_146 : decode cX12_readWord 146 = .ok (.aload_n 0, 1) := by decide +kernel
theorem dX12_readWord_147 : decode cX12_readWord 147 = .ok (.getfield 111, 3) := by decide +kernel
theorem dX12_readWord_150 : decode cX12_readWord 150 = .ok (.ifCond .ne 20, 3) := by decide +kernel
theorem dX12_readWord_153 : decode cX12_readWord 153 = .ok (.aload_n 0, 1) := by decide +kernel
theorem dX12_readWord_154 : decode cX12_readWord 154 = .ok (.getfield 22, 3) := by decide +kernel
theorem dX12_readWord_157 : decode cX12_readWord 157 = .ok (.iload 5, 2) := by decide +kernel
theorem dX12_readWord_159 : decode cX12_readWord 159 = .ok (.iconst 2, 1) := by decide +kernel
theorem dX12_readWord_160 : decode cX12_readWord 160 = .ok (.iadd, 1) := by decide +kernel
theorem dX12_readWord_161 : decode cX12_readWord 161 = .ok (.iload 6, 2) := by decide +kernel
theorem dX12_readWord_163 : decode cX12_readWord 163 = .ok (.iadd, 1) := by decide +kernel
theorem dX12_readWord_164 : decode cX12_readWord 164 = .ok (.iload 7, 2) := by decide +kernel
theorem dX12_readWord_166 : decode cX12_readWord 166 = .ok (.iastore, 1) := by decide +kernel
theorem dX12_readWord_167 : decode cX12_readWord 167 = .ok (.iinc 6 1, 3) := by decide +kernel
theorem dX12_readWord_170 : decode cX12_readWord 170 = .ok (.goto (-62), 3) := by decide +kernel
theorem dX12_readWord_173 : decode cX12_readWord 173 = .ok (.aload_n 0, 1) := by decide +kernel
theorem dX12_readWord_174 : decode cX12_readWord 174 = .ok (.invokevirtual 154, 3) := by decide +kernel
theorem dX12_readWord_177 : decode cX12_readWord 177 = .ok (.aload_n 0, 1) := by decide +kernel
theorem dX12_readWord_178 : decode cX12_readWord 178 = .ok (.getfield 111, 3) := by decide +kernel
theorem dX12_readWord_181 : decode cX12_readWord 181 = .ok (.ifCond .ne 34, 3) := by decide +kernel
theorem dX12_readWord_184 : decode cX12_readWord 184 = .ok (.aload_n 0, 1) := by decide +kernel
theorem dX12_readWord_185 : decode cX12_readWord 185 = .ok (.getfield 22, 3) := by decide +kernel
theorem dX12_readWord_188 : decode cX12_readWord 188 = .ok (.iload 5, 2) := by decide +kernel
theorem dX12_readWord_190 : decode cX12_readWord 190 = .ok (.iload_n 2, 1) := by decide +kernel
theorem dX12_readWord_191 : decode cX12_readWord 191 = .ok (.iastore, 1) := by decide +kernel
theorem dX12_readWord_192 : decode cX12_readWord 192 = .ok (.aload_n 0, 1) := by decide +kernel
theorem dX12_readWord_193 : decode cX12_readWord 193 = .ok (.getfield 22, 3) := by decide +kernel
theorem dX12_readWord_196 : decode cX12_readWord 196 = .ok (.iload 5, 2) := by decide +kernel
theorem dX12_readWord_198 : decode cX12_readWord 198 = .ok (.iconst 1, 1) := by decide +kernel
theorem dX12_readWord_199 : decode cX12_readWord 199 = .ok (.iadd, 1) := by decide +kernel
theorem dX12_readWord_200 : decode cX12_readWord 200 = .ok (.iload 6, 2) := by decide +kernel
theorem dX12_readWord_202 : decode cX12_readWord 202 = .ok (.iastore, 1) := by decide +kernel
theorem dX12_readWord_203 : decode cX12_readWord 203 = .ok (.aload_n 0, 1) := by decide +kernel
theorem dX12_readWord_204 : decode cX12_readWord 204 = .ok (.getfield 22, 3) := by decide +kernel
theorem dX12_readWord_207 : decode cX12_readWord 207 = .ok (.iconst 3, 1) := by decide +kernel
theorem dX12_readWord_208 : decode cX12_readWord 208 = .ok (.iload_n 1, 1) := by decide +kernel
theorem dX12_readWord_209 : decode cX12_readWord 209 = .ok (.iadd, 1) := by decide +kernel
theorem dX12_readWord_210 : decode cX12_readWord 210 = .ok (.dup2, 1) := by decide +kernel
theorem dX12_readWord_211 : decode cX12_readWord 211 = .ok (.iaload, 1) := by decide +kernel
theorem dX12_readWord_212 : decode cX12_readWord 212 = .ok (.iconst 1, 1) := by decide +kernel
theorem dX12_readWord_213 : decode cX12_readWord 213 = .ok (.iadd, 1) := by decide +kernel
theorem dX12_readWord_214 : decode cX12_readWord 214 = .ok (.iastore, 1) := by decide +kernel
theorem dX12_readWord_215 : decode cX12_readWord 215 = .ok (.return_, 1) := by decide +kernel
abbrev cX12_readTongue : ByteArray := prog_14_method_24_code
def yX12_readTongue : MethodName := ⟨"DayTonguesModel", "readTongue", "()V"⟩
def mX12_readTongue : dt_MD := (yX12_readTongue, cX12_readTongue, 1, none)
theorem dX12_readTongue_0 : decode cX12_readTongue 0 = .ok (.aload_n 0, 1) := by decide +kernel
theorem dX12_readTongue_1 : decode cX12_readTongue 1 = .ok (.getfield 22, 3) := by decide +kernel
theorem dX12_readTongue_4 : decode cX12_readTongue 4 = .ok (.iconst 0, 1) := by decide +kernel
theorem dX12_readTongue_5 : decode cX12_readTongue 5 = .ok (.iaload, 1) := by decide +kernel
theorem dX12_readTongue_6 : decode cX12_readTongue 6 = .ok (.bipush 7, 2) := by decide +kernel
theorem dX12_readTongue_8 : decode cX12_readTongue 8 = .ok (.if_icmp .ne 8, 3) := by decide +kernel
theorem dX12_readTongue_11 : decode cX12_readTongue 11 = .ok (.aload_n 0, 1) := by decide +kernel
theorem dX12_readTongue_12 : decode cX12_readTongue 12 = .ok (.iconst 3, 1) := by decide +kernel
theorem dX12_readTongue_13 : decode cX12_readTongue 13 = .ok (.invokevirtual 120, 3) := by decide +kernel
theorem dX12_readTongue_16 : decode cX12_readTongue 16 = .ok (.aload_n 0, 1) := by decide +kernel
theorem dX12_readTongue_17 : decode cX12_readTongue 17 = .ok (.iconst 1, 1) := by decide +kernel
theorem dX12_readTongue_18 : decode cX12_readTongue 18 = .ok (.invokevirtual 128, 3) := by decide +kernel
theorem dX12_readTongue_21 : decode cX12_readTongue 21 = .ok (.aload_n 0, 1) := by decide +kernel
theorem dX12_readTongue_22 : decode cX12_readTongue 22 = .ok (.invokevirtual 154, 3) := by decide +kernel
theorem dX12_readTongue_25 : decode cX12_readTongue 25 = .ok (.aload_n 0, 1) := by decide +kernel
theorem dX12_readTongue_26 : decode cX12_readTongue 26 = .ok (.getfield 111, 3) := by decide +kernel
theorem dX12_readTongue_29 : decode cX12_readTongue 29 = .ok (.ifCond .ne 13, 3) := by decide +kernel
theorem dX12_readTongue_32 : decode cX12_readTongue 32 = .ok (.aload_n 0, 1) := by decide +kernel
theorem dX12_readTongue_33 : decode cX12_readTongue 33 = .ok (.getfield 22, 3) := by decide +kernel
theorem dX12_readTongue_36 : decode cX12_readTongue 36 = .ok (.iconst 0, 1) := by decide +kernel
theorem dX12_readTongue_37 : decode cX12_readTongue 37 = .ok (.dup2, 1) := by decide +kernel
theorem dX12_readTongue_38 : decode cX12_readTongue 38 = .ok (.iaload, 1) := by decide +kernel
theorem dX12_readTongue_39 : decode cX12_readTongue 39 = .ok (.iconst 1, 1) := by decide +kernel
theorem dX12_readTongue_40 : decode cX12_readTongue 40 = .ok (.iadd, 1) := by decide +kernel
theorem dX12_readTongue_41 : decode cX12_readTongue 41 = .ok (.iastore, 1) := by decide +kernel
theorem dX12_readTongue_42 : decode cX12_readTongue 42 = .ok (.aload_n 0, 1) := by decide +kernel
theorem dX12_readTongue_43 : decode cX12_readTongue 43 = .ok (.invokevirtual 142, 3) := by decide +kernel
theorem dX12_readTongue_46 : decode cX12_readTongue 46 = .ok (.ldc2_w 157, 3) := by decide +kernel
theorem dX12_readTongue_49 : decode cX12_readTongue 49 = .ok (.lcmp, 1) := by decide +kernel
theorem dX12_readTongue_50 : decode cX12_readTongue 50 = .ok (.ifCond .ne 10, 3) := by decide +kernel
theorem dX12_readTongue_53 : decode cX12_readTongue 53 = .ok (.aload_n 0, 1) := by decide +kernel
theorem dX12_readTongue_54 : decode cX12_readTongue 54 = .ok (.invokevirtual 159, 3) := by decide +kernel
theorem dX12_readTongue_57 : decode cX12_readTongue 57 = .ok (.goto (-15), 3) := by decide +kernel
theorem dX12_readTongue_60 : decode cX12_readTongue 60 = .ok (.return_, 1) := by decide +kernel
abbrev cX12_readPerson : ByteArray := prog_14_method_25_code
def yX12_readPerson : MethodName := ⟨"DayTonguesModel", "readPerson", "()V"⟩
def mX12_readPerson : dt_MD := (yX12_readPerson, cX12_readPerson, 2, none)
theorem dX12_readPerson_0 : decode cX12_readPerson 0 = .ok (.aload_n 0, 1) := by decide +kernel
theorem dX12_readPerson_1 : decode cX12_readPerson 1 = .ok (.getfield 22, 3) := by decide +kernel
theorem dX12_readPerson_4 : decode cX12_readPerson 4 = .ok (.iconst 1, 1) := by decide +kernel
theorem dX12_readPerson_5 : decode cX12_readPerson 5 = .ok (.iaload, 1) := by decide +kernel
theorem dX12_readPerson_6 : decode cX12_readPerson 6 = .ok (.bipush 8, 2) := by decide +kernel
theorem dX12_readPerson_8 : decode cX12_readPerson 8 = .ok (.if_icmp .ne 8, 3) := by decide +kernel
theorem dX12_readPerson_11 : decode cX12_readPerson 11 = .ok (.aload_n 0, 1) := by decide +kernel
theorem dX12_readPerson_12 : decode cX12_readPerson 12 = .ok (.iconst 3, 1) := by decide +kernel
theorem dX12_readPerson_13 : decode cX12_readPerson 13 = .ok (.invokevirtual 120, 3) := by decide +kernel
theorem dX12_readPerson_16 : decode cX12_readPerson 16 = .ok (.aload_n 0, 1) := by decide +kernel
theorem dX12_readPerson_17 : decode cX12_readPerson 17 = .ok (.iconst 1, 1) := by decide +kernel
theorem dX12_readPerson_18 : decode cX12_readPerson 18 = .ok (.invokevirtual 128, 3) := by decide +kernel
theorem dX12_readPerson_21 : decode cX12_readPerson 21 = .ok (.aload_n 0, 1) := by decide +kernel
theorem dX12_readPerson_22 : decode cX12_readPerson 22 = .ok (.iconst 0, 1) := by decide +kernel
theorem dX12_readPerson_23 : decode cX12_readPerson 23 = .ok (.iconst 1, 1) := by decide +kernel
theorem dX12_readPerson_24 : decode cX12_readPerson 24 = .ok (.aload_n 0, 1) := by decide +kernel
theorem dX12_readPerson_25 : decode cX12_readPerson 25 = .ok (.getfield 22, 3) := by decide +kernel
theorem dX12_readPerson_28 : decode cX12_readPerson 28 = .ok (.iconst 0, 1) := by decide +kernel
theorem dX12_readPerson_29 : decode cX12_readPerson 29 = .ok (.iaload, 1) := by decide +kernel
theorem dX12_readPerson_30 : decode cX12_readPerson 30 = .ok (.ishl, 1) := by decide +kernel
theorem dX12_readPerson_31 : decode cX12_readPerson 31 = .ok (.iconst 1, 1) := by decide +kernel
theorem dX12_readPerson_32 : decode cX12_readPerson 32 = .ok (.isub, 1) := by decide +kernel
theorem dX12_readPerson_33 : decode cX12_readPerson 33 = .ok (.invokevirtual 150, 3) := by decide +kernel
theorem dX12_readPerson_36 : decode cX12_readPerson 36 = .ok (.istore_n 1, 1) := by decide +kernel
theorem dX12_readPerson_37 : decode cX12_readPerson 37 = .ok (.aload_n 0, 1) := by decide +kernel
theorem dX12_readPerson_38 : decode cX12_readPerson 38 = .ok (.invokevirtual 154, 3) := by decide +kernel
theorem dX12_readPerson_41 : decode cX12_readPerson 41 = .ok (.aload_n 0, 1) := by decide +kernel
theorem dX12_readPerson_42 : decode cX12_readPerson 42 = .ok (.getfield 111, 3) := by decide +kernel
theorem dX12_readPerson_45 : decode cX12_readPerson 45 = .ok (.ifCond .ne 28, 3) := by decide +kernel
theorem dX12_readPerson_48 : decode cX12_readPerson 48 = .ok (.aload_n 0, 1) := by decide +kernel
theorem dX12_readPerson_49 : decode cX12_readPerson 49 = .ok (.getfield 22, 3) := by decide +kernel
theorem dX12_readPerson_52 : decode cX12_readPerson 52 = .ok (.bipush 10, 2) := by decide +kernel
theorem dX12_readPerson_54 : decode cX12_readPerson 54 = .ok (.aload_n 0, 1) := by decide +kernel
theorem dX12_readPerson_55 : decode cX12_readPerson 55 = .ok (.getfield 22, 3) := by decide +kernel
theorem dX12_readPerson_58 : decode cX12_readPerson 58 = .ok (.iconst 1, 1) := by decide +kernel
theorem dX12_readPerson_59 : decode cX12_readPerson 59 = .ok (.iaload, 1) := by decide +kernel
theorem dX12_readPerson_60 : decode cX12_readPerson 60 = .ok (.iadd, 1) := by decide +kernel
theorem dX12_readPerson_61 : decode cX12_readPerson 61 = .ok (.iload_n 1, 1) := by decide +kernel
theorem dX12_readPerson_62 : decode cX12_readPerson 62 = .ok (.iastore, 1) := by decide +kernel
theorem dX12_readPerson_63 : decode cX12_readPerson 63 = .ok (.aload_n 0, 1) := by decide +kernel
theorem dX12_readPerson_64 : decode cX12_readPerson 64 = .ok (.getfield 22, 3) := by decide +kernel
theorem dX12_readPerson_67 : decode cX12_readPerson 67 = .ok (.iconst 1, 1) := by decide +kernel
theorem dX12_readPerson_68 : decode cX12_readPerson 68 = .ok (.dup2, 1) := by decide +kernel
theorem dX12_readPerson_69 : decode cX12_readPerson 69 = .ok (.iaload, 1) := by decide +kernel
theorem dX12_readPerson_70 : decode cX12_readPerson 70 = .ok (.iconst 1, 1) := by decide +kernel
theorem dX12_readPerson_71 : decode cX12_readPerson 71 = .ok (.iadd, 1) := by decide +kernel
theorem dX12_readPerson_72 : decode cX12_readPerson 72 = .ok (.iastore, 1) := by decide +kernel
theorem dX12_readPerson_73 : decode cX12_readPerson 73 = .ok (.return_, 1) := by decide +kernel
abbrev cX12_port : ByteArray := prog_14_method_26_code
def yX12_port : MethodName := ⟨"DayTonguesModel", "port", "()I"⟩
def mX12_port : dt_MD := (yX12_port, cX12_port, 2, some .int)
theorem dX12_port_0 : decode cX12_port 0 = .ok (.aload_n 0, 1) := by decide +kernel
theorem dX12_port_1 : decode cX12_port 1 = .ok (.iconst 0, 1) := by decide +kernel
theorem dX12_port_2 : decode cX12_port 2 = .ok (.putfield 53, 3) := by decide +kernel
theorem dX12_port_5 : decode cX12_port 5 = .ok (.aload_n 0, 1) := by decide +kernel
theorem dX12_port_6 : decode cX12_port 6 = .ok (.invokevirtual 162, 3) := by decide +kernel
theorem dX12_port_9 : decode cX12_port 9 = .ok (.iconst 0, 1) := by decide +kernel
theorem dX12_port_10 : decode cX12_port 10 = .ok (.istore_n 1, 1) := by decide +kernel
theorem dX12_port_11 : decode cX12_port 11 = .ok (.iload_n 1, 1) := by decide +kernel
theorem dX12_port_12 : decode cX12_port 12 = .ok (.sipush 298, 3) := by decide +kernel
theorem dX12_port_15 : decode cX12_port 15 = .ok (.if_icmp .ge 16, 3) := by decide +kernel
theorem dX12_port_18 : decode cX12_port 18 = .ok (.aload_n 0, 1) := by decide +kernel
theorem dX12_port_19 : decode cX12_port 19 = .ok (.getfield 22, 3) := by decide +kernel
theorem dX12_port_22 : decode cX12_port 22 = .ok (.iload_n 1, 1) := by decide +kernel
theorem dX12_port_23 : decode cX12_port 23 = .ok (.iconst 0, 1) := by decide +kernel
theorem dX12_port_24 : decode cX12_port 24 = .ok (.iastore, 1) := by decide +kernel
theorem dX12_port_25 : decode cX12_port 25 = .ok (.iinc 1 1, 3) := by decide +kernel
theorem dX12_port_28 : decode cX12_port 28 = .ok (.goto (-17), 3) := by decide +kernel
theorem dX12_port_31 : decode cX12_port 31 = .ok (.aload_n 0, 1) := by decide +kernel
theorem dX12_port_32 : decode cX12_port 32 = .ok (.invokevirtual 142, 3) := by decide +kernel
theorem dX12_port_35 : decode cX12_port 35 = .ok (.ldc2_w 165, 3) := by decide +kernel
theorem dX12_port_38 : decode cX12_port 38 = .ok (.lcmp, 1) := by decide +kernel
theorem dX12_port_39 : decode cX12_port 39 = .ok (.ifCond .eq 8, 3) := by decide +kernel
theorem dX12_port_42 : decode cX12_port 42 = .ok (.aload_n 0, 1) := by decide +kernel
theorem dX12_port_43 : decode cX12_port 43 = .ok (.iconst 1, 1) := by decide +kernel
theorem dX12_port_44 : decode cX12_port 44 = .ok (.invokevirtual 120, 3) := by decide +kernel
theorem dX12_port_47 : decode cX12_port 47 = .ok (.aload_n 0, 1) := by decide +kernel
theorem dX12_port_48 : decode cX12_port 48 = .ok (.invokevirtual 142, 3) := by decide +kernel
theorem dX12_port_51 : decode cX12_port 51 = .ok (.ldc2_w 165, 3) := by decide +kernel
theorem dX12_port_54 : decode cX12_port 54 = .ok (.lcmp, 1) := by decide +kernel
theorem dX12_port_55 : decode cX12_port 55 = .ok (.ifCond .ne 10, 3) := by decide +kernel
theorem dX12_port_58 : decode cX12_port 58 = .ok (.aload_n 0, 1) := by decide +kernel
theorem dX12_port_59 : decode cX12_port 59 = .ok (.invokevirtual 167, 3) := by decide +kernel
theorem dX12_port_62 : decode cX12_port 62 = .ok (.goto (-15), 3) := by decide +kernel
theorem dX12_port_65 : decode cX12_port 65 = .ok (.aload_n 0, 1) := by decide +kernel
theorem dX12_port_66 : decode cX12_port 66 = .ok (.invokevirtual 142, 3) := by decide +kernel
theorem dX12_port_69 : decode cX12_port 69 = .ok (.ldc2_w 170, 3) := by decide +kernel
theorem dX12_port_72 : decode cX12_port 72 = .ok (.lcmp, 1) := by decide +kernel
theorem dX12_port_73 : decode cX12_port 73 = .ok (.ifCond .ne 10, 3) := by decide +kernel
theorem dX12_port_76 : decode cX12_port 76 = .ok (.aload_n 0, 1) := by decide +kernel
theorem dX12_port_77 : decode cX12_port 77 = .ok (.invokevirtual 172, 3) := by decide +kernel
theorem dX12_port_80 : decode cX12_port 80 = .ok (.goto (-15), 3) := by decide +kernel
theorem dX12_port_83 : decode cX12_port 83 = .ok (.aload_n 0, 1) := by decide +kernel
theorem dX12_port_84 : decode cX12_port 84 = .ok (.getfield 111, 3) := by decide +kernel
theorem dX12_port_87 : decode cX12_port 87 = .ok (.ifCond .ne 16, 3) := by decide +kernel
theorem dX12_port_90 : decode cX12_port 90 = .ok (.aload_n 0, 1) := by decide +kernel
theorem dX12_port_91 : decode cX12_port 91 = .ok (.getfield 99, 3) := by decide +kernel
theorem dX12_port_94 : decode cX12_port 94 = .ok (.iconst 1, 1) := by decide +kernel
theorem dX12_port_95 : decode cX12_port 95 = .ok (.if_icmp .eq 8, 3) := by decide +kernel
theorem dX12_port_98 : decode cX12_port 98 = .ok (.aload_n 0, 1) := by decide +kernel
theorem dX12_port_99 : decode cX12_port 99 = .ok (.iconst 1, 1) := by decide +kernel
theorem dX12_port_100 : decode cX12_port 100 = .ok (.invokevirtual 120, 3) := by decide +kernel
theorem dX12_port_103 : decode cX12_port 103 = .ok (.aload_n 0, 1) := by decide +kernel
theorem dX12_port_104 : decode cX12_port 104 = .ok (.getfield 111, 3) := by decide +kernel
theorem dX12_port_107 : decode cX12_port 107 = .ok (.ifCond .le 19, 3) := by decide +kernel
theorem dX12_port_110 : decode cX12_port 110 = .ok (.aload_n 0, 1) := by decide +kernel
theorem dX12_port_111 : decode cX12_port 111 = .ok (.aload_n 0, 1) := by decide +kernel
theorem dX12_port_112 : decode cX12_port 112 = .ok (.getfield 111, 3) := by decide +kernel
theorem dX12_port_115 : decode cX12_port 115 = .ok (.putfield 175, 3) := by decide +kernel
theorem dX12_port_118 : decode cX12_port 118 = .ok (.ldc 178, 2) := by decide +kernel
theorem dX12_port_120 : decode cX12_port 120 = .ok (.aload_n 0, 1) := by decide +kernel
theorem dX12_port_121 : decode cX12_port 121 = .ok (.getfield 117, 3) := by decide +kernel
theorem dX12_port_124 : decode cX12_port 124 = .ok (.isub, 1) := by decide +kernel
theorem dX12_port_125 : decode cX12_port 125 = .ok (.ireturn, 1) := by decide +kernel
theorem dX12_port_126 : decode cX12_port 126 = .ok (.aload_n 0, 1) := by decide +kernel
theorem dX12_port_127 : decode cX12_port 127 = .ok (.iconst 1, 1) := by decide +kernel
theorem dX12_port_128 : decode cX12_port 128 = .ok (.putfield 179, 3) := by decide +kernel
theorem dX12_port_131 : decode cX12_port 131 = .ok (.iconst 0, 1) := by decide +kernel
theorem dX12_port_132 : decode cX12_port 132 = .ok (.istore_n 1, 1) := by decide +kernel
theorem dX12_port_133 : decode cX12_port 133 = .ok (.iload_n 1, 1) := by decide +kernel
theorem dX12_port_134 : decode cX12_port 134 = .ok (.sipush 298, 3) := by decide +kernel
theorem dX12_port_137 : decode cX12_port 137 = .ok (.if_icmp .ge 21, 3) := by decide +kernel
theorem dX12_port_140 : decode cX12_port 140 = .ok (.aload_n 0, 1) := by decide +kernel
theorem dX12_port_141 : decode cX12_port 141 = .ok (.getfield 19, 3) := by decide +kernel
theorem dX12_port_144 : decode cX12_port 144 = .ok (.iload_n 1, 1) := by decide +kernel
theorem dX12_port_145 : decode cX12_port 145 = .ok (.aload_n 0, 1) := by decide +kernel
theorem dX12_port_146 : decode cX12_port 146 = .ok (.getfield 22, 3) := by decide +kernel
theorem dX12_port_149 : decode cX12_port 149 = .ok (.iload_n 1, 1) := by decide +kernel
theorem dX12_port_150 : decode cX12_port 150 = .ok (.iaload, 1) := by decide +kernel
theorem dX12_port_151 : decode cX12_port 151 = .ok (.iastore, 1) := by decide +kernel
theorem dX12_port_152 : decode cX12_port 152 = .ok (.iinc 1 1, 3) := by decide +kernel
theorem dX12_port_155 : decode cX12_port 155 = .ok (.goto (-22), 3) := by decide +kernel
theorem dX12_port_158 : decode cX12_port 158 = .ok (.aload_n 0, 1) := by decide +kernel
theorem dX12_port_159 : decode cX12_port 159 = .ok (.getfield 19, 3) := by decide +kernel
theorem dX12_port_162 : decode cX12_port 162 = .ok (.iconst 0, 1) := by decide +kernel
theorem dX12_port_163 : decode cX12_port 163 = .ok (.iaload, 1) := by decide +kernel
theorem dX12_port_164 : decode cX12_port 164 = .ok (.ireturn, 1) := by decide +kernel
abbrev cX12_fault : ByteArray := prog_14_method_27_code
def yX12_fault : MethodName := ⟨"DayTonguesModel", "fault", "()I"⟩
def mX12_fault : dt_MD := (yX12_fault, cX12_fault, 1, some .int)
theorem dX12_fault_0 : decode cX12_fault 0 = .ok (.aload_n 0, 1) := by decide +kernel
theorem dX12_fault_1 : decode cX12_fault 1 = .ok (.iconst 0, 1) := by decide +kernel
theorem dX12_fault_2 : decode cX12_fault 2 = .ok (.putfield 53, 3) := by decide +kernel
theorem dX12_fault_5 : decode cX12_fault 5 = .ok (.aload_n 0, 1) := by decide +kernel
theorem dX12_fault_6 : decode cX12_fault 6 = .ok (.getfield 175, 3) := by decide +kernel
theorem dX12_fault_9 : decode cX12_fault 9 = .ok (.ireturn, 1) := by decide +kernel
abbrev cX12_isTongue : ByteArray := prog_14_method_28_code
def yX12_isTongue : MethodName := ⟨"DayTonguesModel", "isTongue", "(I)Z"⟩
def mX12_isTongue : dt_MD := (yX12_isTongue, cX12_isTongue, 2, some .boolean)
theorem dX12_isTongue_0 : decode cX12_isTongue 0 = .ok (.iload_n 1, 1) := by decide +kernel
theorem dX12_isTongue_1 : decode cX12_isTongue 1 = .ok (.i2l, 1) := by decide +kernel
theorem dX12_isTongue_2 : decode cX12_isTongue 2 = .ok (.lconst 0, 1) := by decide +kernel
theorem dX12_isTongue_3 : decode cX12_isTongue 3 = .ok (.aload_n 0, 1) := by decide +kernel
theorem dX12_isTongue_4 : decode cX12_isTongue 4 = .ok (.getfield 19, 3) := by decide +kernel
theorem dX12_isTongue_7 : decode cX12_isTongue 7 = .ok (.iconst 0, 1) := by decide +kernel
theorem dX12_isTongue_8 : decode cX12_isTongue 8 = .ok (.iaload, 1) := by decide +kernel
theorem dX12_isTongue_9 : decode cX12_isTongue 9 = .ok (.iconst 1, 1) := by decide +kernel
theorem dX12_isTongue_10 : decode cX12_isTongue 10 = .ok (.isub, 1) := by decide +kernel
theorem dX12_isTongue_11 : decode cX12_isTongue 11 = .ok (.i2l, 1) := by decide +kernel
theorem dX12_isTongue_12 : decode cX12_isTongue 12 = .ok (.invokestatic 63, 3) := by decide +kernel
theorem dX12_isTongue_15 : decode cX12_isTongue 15 = .ok (.ireturn, 1) := by decide +kernel
abbrev cX12_isWord : ByteArray := prog_14_method_29_code
def yX12_isWord : MethodName := ⟨"DayTonguesModel", "isWord", "(II)Z"⟩
def mX12_isWord : dt_MD := (yX12_isWord, cX12_isWord, 3, some .boolean)
theorem dX12_isWord_0 : decode cX12_isWord 0 = .ok (.aload_n 0, 1) := by decide +kernel
theorem dX12_isWord_1 : decode cX12_isWord 1 = .ok (.iload_n 1, 1) := by decide +kernel
theorem dX12_isWord_2 : decode cX12_isWord 2 = .ok (.invokevirtual 183, 3) := by decide +kernel
theorem dX12_isWord_5 : decode cX12_isWord 5 = .ok (.ifCond .eq 27, 3) := by decide +kernel
theorem dX12_isWord_8 : decode cX12_isWord 8 = .ok (.iload_n 2, 1) := by decide +kernel
theorem dX12_isWord_9 : decode cX12_isWord 9 = .ok (.i2l, 1) := by decide +kernel
theorem dX12_isWord_10 : decode cX12_isWord 10 = .ok (.lconst 0, 1) := by decide +kernel
theorem dX12_isWord_11 : decode cX12_isWord 11 = .ok (.aload_n 0, 1) := by decide +kernel
theorem dX12_isWord_12 : decode cX12_isWord 12 = .ok (.getfield 19, 3) := by decide +kernel
theorem dX12_isWord_15 : decode cX12_isWord 15 = .ok (.iconst 3, 1) := by decide +kernel
theorem dX12_isWord_16 : decode cX12_isWord 16 = .ok (.iload_n 1, 1) := by decide +kernel
theorem dX12_isWord_17 : decode cX12_isWord 17 = .ok (.iadd, 1) := by decide +kernel
theorem dX12_isWord_18 : decode cX12_isWord 18 = .ok (.iaload, 1) := by decide +kernel
theorem dX12_isWord_19 : decode cX12_isWord 19 = .ok (.iconst 1, 1) := by decide +kernel
theorem dX12_isWord_20 : decode cX12_isWord 20 = .ok (.isub, 1) := by decide +kernel
theorem dX12_isWord_21 : decode cX12_isWord 21 = .ok (.i2l, 1) := by decide +kernel
theorem dX12_isWord_22 : decode cX12_isWord 22 = .ok (.invokestatic 63, 3) := by decide +kernel
theorem dX12_isWord_25 : decode cX12_isWord 25 = .ok (.ifCond .eq 7, 3) := by decide +kernel
theorem dX12_isWord_28 : decode cX12_isWord 28 = .ok (.iconst 1, 1) := by decide +kernel
theorem dX12_isWord_29 : decode cX12_isWord 29 = .ok (.goto 4, 3) := by decide +kernel
theorem dX12_isWord_32 : decode cX12_isWord 32 = .ok (.iconst 0, 1) := by decide +kernel
theorem dX12_isWord_33 : decode cX12_isWord 33 = .ok (.ireturn, 1) := by decide +kernel
abbrev cX12_isOne : ByteArray := prog_14_method_30_code
def yX12_isOne : MethodName := ⟨"DayTonguesModel", "isOne", "(I)Z"⟩
def mX12_isOne : dt_MD := (yX12_isOne, cX12_isOne, 2, some .boolean)
theorem dX12_isOne_0 : decode cX12_isOne 0 = .ok (.iload_n 1, 1) := by decide +kernel
theorem dX12_isOne_1 : decode cX12_isOne 1 = .ok (.i2l, 1) := by decide +kernel
theorem dX12_isOne_2 : decode cX12_isOne 2 = .ok (.lconst 0, 1) := by decide +kernel
theorem dX12_isOne_3 : decode cX12_isOne 3 = .ok (.aload_n 0, 1) := by decide +kernel
theorem dX12_isOne_4 : decode cX12_isOne 4 = .ok (.getfield 19, 3) := by decide +kernel
theorem dX12_isOne_7 : decode cX12_isOne 7 = .ok (.iconst 1, 1) := by decide +kernel
theorem dX12_isOne_8 : decode cX12_isOne 8 = .ok (.iaload, 1) := by decide +kernel
theorem dX12_isOne_9 : decode cX12_isOne 9 = .ok (.iconst 1, 1) := by decide +kernel
theorem dX12_isOne_10 : decode cX12_isOne 10 = .ok (.isub, 1) := by decide +kernel
theorem dX12_isOne_11 : decode cX12_isOne 11 = .ok (.i2l, 1) := by decide +kernel
theorem dX12_isOne_12 : decode cX12_isOne 12 = .ok (.invokestatic 63, 3) := by decide +kernel
theorem dX12_isOne_15 : decode cX12_isOne 15 = .ok (.ireturn, 1) := by decide +kernel
abbrev cX12_readings : ByteArray := prog_14_method_31_code
def yX12_readings : MethodName := ⟨"DayTonguesModel", "readings", "(II)I"⟩
def mX12_readings : dt_MD := (yX12_readings, cX12_readings, 3, some .int)
theorem dX12_readings_0 : decode cX12_readings 0 = .ok (.aload_n 0, 1) := by decide +kernel
theorem dX12_readings_1 : decode cX12_readings 1 = .ok (.getfield 19, 3) := by decide +kernel
theorem dX12_readings_4 : decode cX12_readings 4 = .ok (.bipush 18, 2) := by decide +kernel
theorem dX12_readings_6 : decode cX12_readings 6 = .ok (.bipush 40, 2) := by decide +kernel
theorem dX12_readings_8 : decode cX12_readings 8 = .ok (.iload_n 1, 1) := by decide +kernel
theorem dX12_readings_9 : decode cX12_readings 9 = .ok (.imul, 1) := by decide +kernel
theorem dX12_readings_10 : decode cX12_readings 10 = .ok (.iadd, 1) := by decide +kernel
theorem dX12_readings_11 : decode cX12_readings 11 = .ok (.iconst 5, 1) := by decide +kernel
theorem dX12_readings_12 : decode cX12_readings 12 = .ok (.iload_n 2, 1) := by decide +kernel
theorem dX12_readings_13 : decode cX12_readings 13 = .ok (.imul, 1) := by decide +kernel
theorem dX12_readings_14 : decode cX12_readings 14 = .ok (.iadd, 1) := by decide +kernel
theorem dX12_readings_15 : decode cX12_readings 15 = .ok (.iconst 1, 1) := by decide +kernel
theorem dX12_readings_16 : decode cX12_readings 16 = .ok (.iadd, 1) := by decide +kernel
theorem dX12_readings_17 : decode cX12_readings 17 = .ok (.iaload, 1) := by decide +kernel
theorem dX12_readings_18 : decode cX12_readings 18 = .ok (.ireturn, 1) := by decide +kernel
abbrev cX12_reading : ByteArray := prog_14_method_32_code
def yX12_reading : MethodName := ⟨"DayTonguesModel", "reading", "(III)I"⟩
def mX12_reading : dt_MD := (yX12_reading, cX12_reading, 4, some .int)
theorem dX12_reading_0 : decode cX12_reading 0 = .ok (.aload_n 0, 1) := by decide +kernel
theorem dX12_reading_1 : decode cX12_reading 1 = .ok (.getfield 19, 3) := by decide +kernel
theorem dX12_reading_4 : decode cX12_reading 4 = .ok (.bipush 18, 2) := by decide +kernel
theorem dX12_reading_6 : decode cX12_reading 6 = .ok (.bipush 40, 2) := by decide +kernel
theorem dX12_reading_8 : decode cX12_reading 8 = .ok (.iload_n 1, 1) := by decide +kernel
theorem dX12_reading_9 : decode cX12_reading 9 = .ok (.imul, 1) := by decide +kernel
theorem dX12_reading_10 : decode cX12_reading 10 = .ok (.iadd, 1) := by decide +kernel
theorem dX12_reading_11 : decode cX12_reading 11 = .ok (.iconst 5, 1) := by decide +kernel
theorem dX12_reading_12 : decode cX12_reading 12 = .ok (.iload_n 2, 1) := by decide +kernel
theorem dX12_reading_13 : decode cX12_reading 13 = .ok (.imul, 1) := by decide +kernel
theorem dX12_reading_14 : decode cX12_reading 14 = .ok (.iadd, 1) := by decide +kernel
theorem dX12_reading_15 : decode cX12_reading 15 = .ok (.iconst 2, 1) := by decide +kernel
theorem dX12_reading_16 : decode cX12_reading 16 = .ok (.iadd, 1) := by decide +kernel
theorem dX12_reading_17 : decode cX12_reading 17 = .ok (.iload_n 3, 1) := by decide +kernel
theorem dX12_reading_18 : decode cX12_reading 18 = .ok (.iadd, 1) := by decide +kernel
theorem dX12_reading_19 : decode cX12_reading 19 = .ok (.iaload, 1) := by decide +kernel
theorem dX12_reading_20 : decode cX12_reading 20 = .ok (.ireturn, 1) := by decide +kernel
abbrev cX12_draw : ByteArray := prog_14_method_33_code
def yX12_draw : MethodName := ⟨"DayTonguesModel", "draw", "(I)I"⟩
def mX12_draw : dt_MD := (yX12_draw, cX12_draw, 2, some .int)
theorem dX12_draw_0 : decode cX12_draw 0 = .ok (.aload_n 0, 1) := by decide +kernel
theorem dX12_draw_1 : decode cX12_draw 1 = .ok (.aload_n 0, 1) := by decide +kernel
theorem dX12_draw_2 : decode cX12_draw 2 = .ok (.getfield 186, 3) := by decide +kernel
theorem dX12_draw_5 : decode cX12_draw 5 = .ok (.ldc2_w 190, 3) := by decide +kernel
theorem dX12_draw_8 : decode cX12_draw 8 = .ok (.lmul, 1) := by decide +kernel
theorem dX12_draw_9 : decode cX12_draw 9 = .ok (.ldc2_w 192, 3) := by decide +kernel
theorem dX12_draw_12 : decode cX12_draw 12 = .ok (.lrem, 1) := by decide +kernel
theorem dX12_draw_13 : decode cX12_draw 13 = .ok (.putfield 186, 3) := by decide +kernel
theorem dX12_draw_16 : decode cX12_draw 16 = .ok (.aload_n 0, 1) := by decide +kernel
theorem dX12_draw_17 : decode cX12_draw 17 = .ok (.getfield 186, 3) := by decide +kernel
theorem dX12_draw_20 : decode cX12_draw 20 = .ok (.iload_n 1, 1) := by decide +kernel
theorem dX12_draw_21 : decode cX12_draw 21 = .ok (.i2l, 1) := by decide +kernel
theorem dX12_draw_22 : decode cX12_draw 22 = .ok (.lrem, 1) := by decide +kernel
theorem dX12_draw_23 : decode cX12_draw 23 = .ok (.l2i, 1) := by decide +kernel
theorem dX12_draw_24 : decode cX12_draw 24 = .ok (.ireturn, 1) := by decide +kernel
abbrev cX12_year : ByteArray := prog_14_method_34_code
def yX12_year : MethodName := ⟨"DayTonguesModel", "year", "()V"⟩
def mX12_year : dt_MD := (yX12_year, cX12_year, 6, none)
theorem dX12_year_0 : decode cX12_year 0 = .ok (.aload_n 0, 1) := by decide +kernel
theorem dX12_year_1 : decode cX12_year 1 = .ok (.aload_n 0, 1) := by decide +kernel
theorem dX12_year_2 : decode cX12_year 2 = .ok (.getfield 19, 3) := by decide +kernel
theorem dX12_year_5 : decode cX12_year 5 = .ok (.iconst 0, 1) := by decide +kernel
theorem dX12_year_6 : decode cX12_year 6 = .ok (.iaload, 1) := by decide +kernel
theorem dX12_year_7 : decode cX12_year 7 = .ok (.invokevirtual 194, 3) := by decide +kernel
theorem dX12_year_10 : decode cX12_year 10 = .ok (.istore_n 1, 1) := by decide +kernel
theorem dX12_year_11 : decode cX12_year 11 = .ok (.aload_n 0, 1) := by decide +kernel
theorem dX12_year_12 : decode cX12_year 12 = .ok (.getfield 19, 3) := by decide +kernel
theorem dX12_year_15 : decode cX12_year 15 = .ok (.iconst 3, 1) := by decide +kernel
theorem dX12_year_16 : decode cX12_year 16 = .ok (.iload_n 1, 1) := by decide +kernel
theorem dX12_year_17 : decode cX12_year 17 = .ok (.iadd, 1) := by decide +kernel
theorem dX12_year_18 : decode cX12_year 18 = .ok (.iaload, 1) := by decide +kernel
theorem dX12_year_19 : decode cX12_year 19 = .ok (.istore_n 2, 1) := by decide +kernel
theorem dX12_year_20 : decode cX12_year 20 = .ok (.aload_n 0, 1) := by decide +kernel
theorem dX12_year_21 : decode cX12_year 21 = .ok (.iload_n 2, 1) := by decide +kernel
theorem dX12_year_22 : decode cX12_year 22 = .ok (.ifCond .le 7, 3) := by decide +kernel
theorem dX12_year_25 : decode cX12_year 25 = .ok (.iload_n 2, 1) := by decide +kernel
theorem dX12_year_26 : decode cX12_year 26 = .ok (.goto 4, 3) := by decide +kernel
theorem dX12_year_29 : decode cX12_year 29 = .ok (.iconst 1, 1) := by decide +kernel
theorem dX12_year_30 : decode cX12_year 30 = .ok (.invokevirtual 194, 3) := by decide +kernel
theorem dX12_year_33 : decode cX12_year 33 = .ok (.istore_n 3, 1) := by decide +kernel
theorem dX12_year_34 : decode cX12_year 34 = .ok (.iload_n 2, 1) := by decide +kernel
theorem dX12_year_35 : decode cX12_year 35 = .ok (.ifCond .ne 4, 3) := by decide +kernel
theorem dX12_year_38 : decode cX12_year 38 = .ok (.return_, 1) := by decide +kernel
theorem dX12_year_39 : decode cX12_year 39 = .ok (.aload_n 0, 1) := by decide +kernel
theorem dX12_year_40 : decode cX12_year 40 = .ok (.aload_n 0, 1) := by decide +kernel
theorem dX12_year_41 : decode cX12_year 41 = .ok (.iload_n 1, 1) := by decide +kernel
theorem dX12_year_42 : decode cX12_year 42 = .ok (.iload_n 3, 1) := by decide +kernel
theorem dX12_year_43 : decode cX12_year 43 = .ok (.invokevirtual 197, 3) := by decide +kernel
theorem dX12_year_46 : decode cX12_year 46 = .ok (.invokevirtual 194, 3) := by decide +kernel
theorem dX12_year_49 : decode cX12_year 49 = .ok (.istore 4, 2) := by decide +kernel
theorem dX12_year_51 : decode cX12_year 51 = .ok (.iconst 1, 1) := by decide +kernel
theorem dX12_year_52 : decode cX12_year 52 = .ok (.aload_n 0, 1) := by decide +kernel
theorem dX12_year_53 : decode cX12_year 53 = .ok (.bipush 8, 2) := by decide +kernel
theorem dX12_year_55 : decode cX12_year 55 = .ok (.invokevirtual 194, 3) := by decide +kernel
theorem dX12_year_58 : decode cX12_year 58 = .ok (.ishl, 1) := by decide +kernel
theorem dX12_year_59 : decode cX12_year 59 = .ok (.istore 5, 2) := by decide +kernel
theorem dX12_year_61 : decode cX12_year 61 = .ok (.aload_n 0, 1) := by decide +kernel
theorem dX12_year_62 : decode cX12_year 62 = .ok (.iload_n 1, 1) := by decide +kernel
theorem dX12_year_63 : decode cX12_year 63 = .ok (.iload_n 3, 1) := by decide +kernel
theorem dX12_year_64 : decode cX12_year 64 = .ok (.iload 4, 2) := by decide +kernel
theorem dX12_year_66 : decode cX12_year 66 = .ok (.invokevirtual 200, 3) := by decide +kernel
theorem dX12_year_69 : decode cX12_year 69 = .ok (.iload 5, 2) := by decide +kernel
theorem dX12_year_71 : decode cX12_year 71 = .ok (.if_icmp .eq 29, 3) := by decide +kernel
theorem dX12_year_74 : decode cX12_year 74 = .ok (.aload_n 0, 1) := by decide +kernel
theorem dX12_year_75 : decode cX12_year 75 = .ok (.getfield 19, 3) := by decide +kernel
theorem dX12_year_78 : decode cX12_year 78 = .ok (.bipush 18, 2) := by decide +kernel
theorem dX12_year_80 : decode cX12_year 80 = .ok (.bipush 40, 2) := by decide +kernel
theorem dX12_year_82 : decode cX12_year 82 = .ok (.iload_n 1, 1) := by decide +kernel
theorem dX12_year_83 : decode cX12_year 83 = .ok (.imul, 1) := by decide +kernel
theorem dX12_year_84 : decode cX12_year 84 = .ok (.iadd, 1) := by decide +kernel
theorem dX12_year_85 : decode cX12_year 85 = .ok (.iconst 5, 1) := by decide +kernel
theorem dX12_year_86 : decode cX12_year 86 = .ok (.iload_n 3, 1) := by decide +kernel
theorem dX12_year_87 : decode cX12_year 87 = .ok (.imul, 1) := by decide +kernel
theorem dX12_year_88 : decode cX12_year 88 = .ok (.iadd, 1) := by decide +kernel
theorem dX12_year_89 : decode cX12_year 89 = .ok (.iconst 2, 1) := by decide +kernel
theorem dX12_year_90 : decode cX12_year 90 = .ok (.iadd, 1) := by decide +kernel
theorem dX12_year_91 : decode cX12_year 91 = .ok (.iload 4, 2) := by decide +kernel
theorem dX12_year_93 : decode cX12_year 93 = .ok (.iadd, 1) := by decide +kernel
theorem dX12_year_94 : decode cX12_year 94 = .ok (.dup2, 1) := by decide +kernel
theorem dX12_year_95 : decode cX12_year 95 = .ok (.iaload, 1) := by decide +kernel
theorem dX12_year_96 : decode cX12_year 96 = .ok (.iload 5, 2) := by decide +kernel
theorem dX12_year_98 : decode cX12_year 98 = .ok (.ixor, 1) := by decide +kernel
theorem dX12_year_99 : decode cX12_year 99 = .ok (.iastore, 1) := by decide +kernel
theorem dX12_year_100 : decode cX12_year 100 = .ok (.return_, 1) := by decide +kernel
abbrev cX12_drift : ByteArray := prog_14_method_35_code
def yX12_drift : MethodName := ⟨"DayTonguesModel", "drift", "(II)I"⟩
def mX12_drift : dt_MD := (yX12_drift, cX12_drift, 4, some .int)
theorem dX12_drift_0 : decode cX12_drift 0 = .ok (.aload_n 0, 1) := by decide +kernel
theorem dX12_drift_1 : decode cX12_drift 1 = .ok (.iconst 0, 1) := by decide +kernel
theorem dX12_drift_2 : decode cX12_drift 2 = .ok (.putfield 53, 3) := by decide +kernel
theorem dX12_drift_5 : decode cX12_drift 5 = .ok (.aload_n 0, 1) := by decide +kernel
theorem dX12_drift_6 : decode cX12_drift 6 = .ok (.getfield 179, 3) := by decide +kernel
theorem dX12_drift_9 : decode cX12_drift 9 = .ok (.ifCond .ne 6, 3) := by decide +kernel
theorem dX12_drift_12 : decode cX12_drift 12 = .ok (.ldc 204, 2) := by decide +kernel
theorem dX12_drift_14 : decode cX12_drift 14 = .ok (.ireturn, 1) := by decide +kernel
theorem dX12_drift_15 : decode cX12_drift 15 = .ok (.iload_n 1, 1) := by decide +kernel
theorem dX12_drift_16 : decode cX12_drift 16 = .ok (.i2l, 1) := by decide +kernel
theorem dX12_drift_17 : decode cX12_drift 17 = .ok (.lconst 1, 1) := by decide +kernel
theorem dX12_drift_18 : decode cX12_drift 18 = .ok (.ldc2_w 205, 3) := by decide +kernel
theorem dX12_drift_21 : decode cX12_drift 21 = .ok (.invokestatic 63, 3) := by decide +kernel
theorem dX12_drift_24 : decode cX12_drift 24 = .ok (.ifCond .eq 15, 3) := by decide +kernel
theorem dX12_drift_27 : decode cX12_drift 27 = .ok (.iload_n 2, 1) := by decide +kernel
theorem dX12_drift_28 : decode cX12_drift 28 = .ok (.i2l, 1) := by decide +kernel
theorem dX12_drift_29 : decode cX12_drift 29 = .ok (.lconst 1, 1) := by decide +kernel
theorem dX12_drift_30 : decode cX12_drift 30 = .ok (.ldc2_w 207, 3) := by decide +kernel
theorem dX12_drift_33 : decode cX12_drift 33 = .ok (.invokestatic 63, 3) := by decide +kernel
theorem dX12_drift_36 : decode cX12_drift 36 = .ok (.ifCond .ne 6, 3) := by decide +kernel
theorem dX12_drift_39 : decode cX12_drift 39 = .ok (.ldc 73, 2) := by decide +kernel
theorem dX12_drift_41 : decode cX12_drift 41 = .ok (.ireturn, 1) := by decide +kernel
theorem dX12_drift_42 : decode cX12_drift 42 = .ok (.aload_n 0, 1) := by decide +kernel
theorem dX12_drift_43 : decode cX12_drift 43 = .ok (.iload_n 2, 1) := by decide +kernel
theorem dX12_drift_44 : decode cX12_drift 44 = .ok (.i2l, 1) := by decide +kernel
theorem dX12_drift_45 : decode cX12_drift 45 = .ok (.putfield 186, 3) := by decide +kernel
theorem dX12_drift_48 : decode cX12_drift 48 = .ok (.iconst 0, 1) := by decide +kernel
theorem dX12_drift_49 : decode cX12_drift 49 = .ok (.istore_n 3, 1) := by decide +kernel
theorem dX12_drift_50 : decode cX12_drift 50 = .ok (.iload_n 3, 1) := by decide +kernel
theorem dX12_drift_51 : decode cX12_drift 51 = .ok (.iload_n 1, 1) := by decide +kernel
theorem dX12_drift_52 : decode cX12_drift 52 = .ok (.if_icmp .ge 13, 3) := by decide +kernel
theorem dX12_drift_55 : decode cX12_drift 55 = .ok (.aload_n 0, 1) := by decide +kernel
theorem dX12_drift_56 : decode cX12_drift 56 = .ok (.invokevirtual 209, 3) := by decide +kernel
theorem dX12_drift_59 : decode cX12_drift 59 = .ok (.iinc 3 1, 3) := by decide +kernel
theorem dX12_drift_62 : decode cX12_drift 62 = .ok (.goto (-12), 3) := by decide +kernel
theorem dX12_drift_65 : decode cX12_drift 65 = .ok (.aload_n 0, 1) := by decide +kernel
theorem dX12_drift_66 : decode cX12_drift 66 = .ok (.getfield 19, 3) := by decide +kernel
theorem dX12_drift_69 : decode cX12_drift 69 = .ok (.iconst 2, 1) := by decide +kernel
theorem dX12_drift_70 : decode cX12_drift 70 = .ok (.dup2, 1) := by decide +kernel
theorem dX12_drift_71 : decode cX12_drift 71 = .ok (.iaload, 1) := by decide +kernel
theorem dX12_drift_72 : decode cX12_drift 72 = .ok (.iload_n 1, 1) := by decide +kernel
theorem dX12_drift_73 : decode cX12_drift 73 = .ok (.iadd, 1) := by decide +kernel
theorem dX12_drift_74 : decode cX12_drift 74 = .ok (.iastore, 1) := by decide +kernel
theorem dX12_drift_75 : decode cX12_drift 75 = .ok (.aload_n 0, 1) := by decide +kernel
theorem dX12_drift_76 : decode cX12_drift 76 = .ok (.getfield 19, 3) := by decide +kernel
theorem dX12_drift_79 : decode cX12_drift 79 = .ok (.iconst 2, 1) := by decide +kernel
theorem dX12_drift_80 : decode cX12_drift 80 = .ok (.iaload, 1) := by decide +kernel
theorem dX12_drift_81 : decode cX12_drift 81 = .ok (.ireturn, 1) := by decide +kernel
abbrev cX12_word : ByteArray := prog_14_method_36_code
def yX12_word : MethodName := ⟨"DayTonguesModel", "word", "(III)I"⟩
def mX12_word : dt_MD := (yX12_word, cX12_word, 4, some .int)
theorem dX12_word_0 : decode cX12_word 0 = .ok (.aload_n 0, 1) := by decide +kernel
theorem dX12_word_1 : decode cX12_word 1 = .ok (.iconst 0, 1) := by decide +kernel
theorem dX12_word_2 : decode cX12_word 2 = .ok (.putfield 53, 3) := by decide +kernel
theorem dX12_word_5 : decode cX12_word 5 = .ok (.aload_n 0, 1) := by decide +kernel
theorem dX12_word_6 : decode cX12_word 6 = .ok (.iload_n 1, 1) := by decide +kernel
theorem dX12_word_7 : decode cX12_word 7 = .ok (.iload_n 2, 1) := by decide +kernel
theorem dX12_word_8 : decode cX12_word 8 = .ok (.invokevirtual 212, 3) := by decide +kernel
theorem dX12_word_11 : decode cX12_word 11 = .ok (.ifCond .eq 15, 3) := by decide +kernel
theorem dX12_word_14 : decode cX12_word 14 = .ok (.iload_n 3, 1) := by decide +kernel
theorem dX12_word_15 : decode cX12_word 15 = .ok (.i2l, 1) := by decide +kernel
theorem dX12_word_16 : decode cX12_word 16 = .ok (.lconst 0, 1) := by decide +kernel
theorem dX12_word_17 : decode cX12_word 17 = .ok (.ldc2_w 216, 3) := by decide +kernel
theorem dX12_word_20 : decode cX12_word 20 = .ok (.invokestatic 63, 3) := by decide +kernel
theorem dX12_word_23 : decode cX12_word 23 = .ok (.ifCond .ne 6, 3) := by decide +kernel
theorem dX12_word_26 : decode cX12_word 26 = .ok (.ldc 73, 2) := by decide +kernel
theorem dX12_word_28 : decode cX12_word 28 = .ok (.ireturn, 1) := by decide +kernel
theorem dX12_word_29 : decode cX12_word 29 = .ok (.iload_n 3, 1) := by decide +kernel
theorem dX12_word_30 : decode cX12_word 30 = .ok (.ifCond .ne 12, 3) := by decide +kernel
theorem dX12_word_33 : decode cX12_word 33 = .ok (.aload_n 0, 1) := by decide +kernel
theorem dX12_word_34 : decode cX12_word 34 = .ok (.iload_n 1, 1) := by decide +kernel
theorem dX12_word_35 : decode cX12_word 35 = .ok (.iload_n 2, 1) := by decide +kernel
theorem dX12_word_36 : decode cX12_word 36 = .ok (.invokevirtual 197, 3) := by decide +kernel
theorem dX12_word_39 : decode cX12_word 39 = .ok (.goto 27, 3) := by decide +kernel
theorem dX12_word_42 : decode cX12_word 42 = .ok (.iload_n 3, 1) := by decide +kernel
theorem dX12_word_43 : decode cX12_word 43 = .ok (.aload_n 0, 1) := by decide +kernel
theorem dX12_word_44 : decode cX12_word 44 = .ok (.iload_n 1, 1) := by decide +kernel
theorem dX12_word_45 : decode cX12_word 45 = .ok (.iload_n 2, 1) := by decide +kernel
theorem dX12_word_46 : decode cX12_word 46 = .ok (.invokevirtual 197, 3) := by decide +kernel
theorem dX12_word_49 : decode cX12_word 49 = .ok (.if_icmp .gt 15, 3) := by decide +kernel
theorem dX12_word_52 : decode cX12_word 52 = .ok (.aload_n 0, 1) := by decide +kernel
theorem dX12_word_53 : decode cX12_word 53 = .ok (.iload_n 1, 1) := by decide +kernel
theorem dX12_word_54 : decode cX12_word 54 = .ok (.iload_n 2, 1) := by decide +kernel
theorem dX12_word_55 : decode cX12_word 55 = .ok (.iload_n 3, 1) := by decide +kernel
theorem dX12_word_56 : decode cX12_word 56 = .ok (.iconst 1, 1) := by decide +kernel
theorem dX12_word_57 : decode cX12_word 57 = .ok (.isub, 1) := by decide +kernel
theorem dX12_word_58 : decode cX12_word 58 = .ok (.invokevirtual 200, 3) := by decide +kernel
theorem dX12_word_61 : decode cX12_word 61 = .ok (.goto 5, 3) := by decide +kernel
theorem dX12_word_64 : decode cX12_word 64 = .ok (.ldc 89, 2) := by decide +kernel
theorem dX12_word_66 : decode cX12_word 66 = .ok (.ireturn, 1) := by decide +kernel
abbrev cX12_words : ByteArray := prog_14_method_37_code
def yX12_words : MethodName := ⟨"DayTonguesModel", "words", "(I)I"⟩
def mX12_words : dt_MD := (yX12_words, cX12_words, 2, some .int)
theorem dX12_words_0 : decode cX12_words 0 = .ok (.aload_n 0, 1) := by decide +kernel
theorem dX12_words_1 : decode cX12_words 1 = .ok (.iconst 0, 1) := by decide +kernel
theorem dX12_words_2 : decode cX12_words 2 = .ok (.putfield 53, 3) := by decide +kernel
theorem dX12_words_5 : decode cX12_words 5 = .ok (.aload_n 0, 1) := by decide +kernel
theorem dX12_words_6 : decode cX12_words 6 = .ok (.iload_n 1, 1) := by decide +kernel
theorem dX12_words_7 : decode cX12_words 7 = .ok (.invokevirtual 183, 3) := by decide +kernel
theorem dX12_words_10 : decode cX12_words 10 = .ok (.ifCond .eq 14, 3) := by decide +kernel
theorem dX12_words_13 : decode cX12_words 13 = .ok (.aload_n 0, 1) := by decide +kernel
theorem dX12_words_14 : decode cX12_words 14 = .ok (.getfield 19, 3) := by decide +kernel
theorem dX12_words_17 : decode cX12_words 17 = .ok (.iconst 3, 1) := by decide +kernel
theorem dX12_words_18 : decode cX12_words 18 = .ok (.iload_n 1, 1) := by decide +kernel
theorem dX12_words_19 : decode cX12_words 19 = .ok (.iadd, 1) := by decide +kernel
theorem dX12_words_20 : decode cX12_words 20 = .ok (.iaload, 1) := by decide +kernel
theorem dX12_words_21 : decode cX12_words 21 = .ok (.goto 5, 3) := by decide +kernel
theorem dX12_words_24 : decode cX12_words 24 = .ok (.ldc 73, 2) := by decide +kernel
theorem dX12_words_26 : decode cX12_words 26 = .ok (.ireturn, 1) := by decide +kernel
abbrev cX12_knows : ByteArray := prog_14_method_38_code
def yX12_knows : MethodName := ⟨"DayTonguesModel", "knows", "(I)I"⟩
def mX12_knows : dt_MD := (yX12_knows, cX12_knows, 2, some .int)
theorem dX12_knows_0 : decode cX12_knows 0 = .ok (.aload_n 0, 1) := by decide +kernel
theorem dX12_knows_1 : decode cX12_knows 1 = .ok (.iconst 0, 1) := by decide +kernel
theorem dX12_knows_2 : decode cX12_knows 2 = .ok (.putfield 53, 3) := by decide +kernel
theorem dX12_knows_5 : decode cX12_knows 5 = .ok (.aload_n 0, 1) := by decide +kernel
theorem dX12_knows_6 : decode cX12_knows 6 = .ok (.iload_n 1, 1) := by decide +kernel
theorem dX12_knows_7 : decode cX12_knows 7 = .ok (.invokevirtual 218, 3) := by decide +kernel
theorem dX12_knows_10 : decode cX12_knows 10 = .ok (.ifCond .eq 15, 3) := by decide +kernel
theorem dX12_knows_13 : decode cX12_knows 13 = .ok (.aload_n 0, 1) := by decide +kernel
theorem dX12_knows_14 : decode cX12_knows 14 = .ok (.getfield 19, 3) := by decide +kernel
theorem dX12_knows_17 : decode cX12_knows 17 = .ok (.bipush 10, 2) := by decide +kernel
theorem dX12_knows_19 : decode cX12_knows 19 = .ok (.iload_n 1, 1) := by decide +kernel
theorem dX12_knows_20 : decode cX12_knows 20 = .ok (.iadd, 1) := by decide +kernel
theorem dX12_knows_21 : decode cX12_knows 21 = .ok (.iaload, 1) := by decide +kernel
theorem dX12_knows_22 : decode cX12_knows 22 = .ok (.goto 5, 3) := by decide +kernel
theorem dX12_knows_25 : decode cX12_knows 25 = .ok (.ldc 73, 2) := by decide +kernel
theorem dX12_knows_27 : decode cX12_knows 27 = .ok (.ireturn, 1) := by decide +kernel
abbrev cX12_startMeaning : ByteArray := prog_14_method_39_code
def yX12_startMeaning : MethodName := ⟨"DayTonguesModel", "startMeaning", "()V"⟩
def mX12_startMeaning : dt_MD := (yX12_startMeaning, cX12_startMeaning, 2, none)
theorem dX12_startMeaning_0 : decode cX12_startMeaning 0 = .ok (.iconst 0, 1) := by decide +kernel
theorem dX12_startMeaning_1 : decode cX12_startMeaning 1 = .ok (.istore_n 1, 1) := by decide +kernel
theorem dX12_startMeaning_2 : decode cX12_startMeaning 2 = .ok (.iload_n 1, 1) := by decide +kernel
theorem dX12_startMeaning_3 : decode cX12_startMeaning 3 = .ok (.sipush 256, 3) := by decide +kernel
theorem dX12_startMeaning_6 : decode cX12_startMeaning 6 = .ok (.if_icmp .ge 24, 3) := by decide +kernel
theorem dX12_startMeaning_9 : decode cX12_startMeaning 9 = .ok (.aload_n 0, 1) := by decide +kernel
theorem dX12_startMeaning_10 : decode cX12_startMeaning 10 = .ok (.getfield 28, 3) := by decide +kernel
theorem dX12_startMeaning_13 : decode cX12_startMeaning 13 = .ok (.iload_n 1, 1) := by decide +kernel
theorem dX12_startMeaning_14 : decode cX12_startMeaning 14 = .ok (.iload_n 1, 1) := by decide +kernel
theorem dX12_startMeaning_15 : decode cX12_startMeaning 15 = .ok (.ifCond .ne 7, 3) := by decide +kernel
theorem dX12_startMeaning_18 : decode cX12_startMeaning 18 = .ok (.iconst 1, 1) := by decide +kernel
theorem dX12_startMeaning_19 : decode cX12_startMeaning 19 = .ok (.goto 4, 3) := by decide +kernel
theorem dX12_startMeaning_22 : decode cX12_startMeaning 22 = .ok (.iconst 0, 1) := by decide +kernel
theorem dX12_startMeaning_23 : decode cX12_startMeaning 23 = .ok (.bastore, 1) := by decide +kernel
theorem dX12_startMeaning_24 : decode cX12_startMeaning 24 = .ok (.iinc 1 1, 3) := by decide +kernel
theorem dX12_startMeaning_27 : decode cX12_startMeaning 27 = .ok (.goto (-25), 3) := by decide +kernel
theorem dX12_startMeaning_30 : decode cX12_startMeaning 30 = .ok (.return_, 1) := by decide +kernel
abbrev cX12_mean : ByteArray := prog_14_method_40_code
def yX12_mean : MethodName := ⟨"DayTonguesModel", "mean", "(II)V"⟩
def mX12_mean : dt_MD := (yX12_mean, cX12_mean, 5, none)
theorem dX12_mean_0 : decode cX12_mean 0 = .ok (.iconst 0, 1) := by decide +kernel
theorem dX12_mean_1 : decode cX12_mean 1 = .ok (.istore_n 3, 1) := by decide +kernel
theorem dX12_mean_2 : decode cX12_mean 2 = .ok (.iload_n 3, 1) := by decide +kernel
theorem dX12_mean_3 : decode cX12_mean 3 = .ok (.sipush 256, 3) := by decide +kernel
theorem dX12_mean_6 : decode cX12_mean 6 = .ok (.if_icmp .ge 16, 3) := by decide +kernel
theorem dX12_mean_9 : decode cX12_mean 9 = .ok (.aload_n 0, 1) := by decide +kernel
theorem dX12_mean_10 : decode cX12_mean 10 = .ok (.getfield 32, 3) := by decide +kernel
theorem dX12_mean_13 : decode cX12_mean 13 = .ok (.iload_n 3, 1) := by decide +kernel
theorem dX12_mean_14 : decode cX12_mean 14 = .ok (.iconst 0, 1) := by decide +kernel
theorem dX12_mean_15 : decode cX12_mean 15 = .ok (.bastore, 1) := by decide +kernel
theorem dX12_mean_16 : decode cX12_mean 16 = .ok (.iinc 3 1, 3) := by decide +kernel
theorem dX12_mean_19 : decode cX12_mean 19 = .ok (.goto (-17), 3) := by decide +kernel
theorem dX12_mean_22 : decode cX12_mean 22 = .ok (.iconst 0, 1) := by decide +kernel
theorem dX12_mean_23 : decode cX12_mean 23 = .ok (.istore_n 3, 1) := by decide +kernel
theorem dX12_mean_24 : decode cX12_mean 24 = .ok (.iload_n 3, 1) := by decide +kernel
theorem dX12_mean_25 : decode cX12_mean 25 = .ok (.sipush 256, 3) := by decide +kernel
theorem dX12_mean_28 : decode cX12_mean 28 = .ok (.if_icmp .ge 54, 3) := by decide +kernel
theorem dX12_mean_31 : decode cX12_mean 31 = .ok (.iconst 0, 1) := by decide +kernel
theorem dX12_mean_32 : decode cX12_mean 32 = .ok (.istore 4, 2) := by decide +kernel
theorem dX12_mean_34 : decode cX12_mean 34 = .ok (.iload 4, 2) := by decide +kernel
theorem dX12_mean_36 : decode cX12_mean 36 = .ok (.aload_n 0, 1) := by decide +kernel
theorem dX12_mean_37 : decode cX12_mean 37 = .ok (.iload_n 1, 1) := by decide +kernel
theorem dX12_mean_38 : decode cX12_mean 38 = .ok (.iload_n 2, 1) := by decide +kernel
theorem dX12_mean_39 : decode cX12_mean 39 = .ok (.invokevirtual 197, 3) := by decide +kernel
theorem dX12_mean_42 : decode cX12_mean 42 = .ok (.if_icmp .ge 34, 3) := by decide +kernel
theorem dX12_mean_45 : decode cX12_mean 45 = .ok (.aload_n 0, 1) := by decide +kernel
theorem dX12_mean_46 : decode cX12_mean 46 = .ok (.getfield 28, 3) := by decide +kernel
theorem dX12_mean_49 : decode cX12_mean 49 = .ok (.iload_n 3, 1) := by decide +kernel
theorem dX12_mean_50 : decode cX12_mean 50 = .ok (.baload, 1) := by decide +kernel
theorem dX12_mean_51 : decode cX12_mean 51 = .ok (.ifCond .eq 25, 3) := by decide +kernel
theorem dX12_mean_54 : decode cX12_mean 54 = .ok (.aload_n 0, 1) := by decide +kernel
theorem dX12_mean_55 : decode cX12_mean 55 = .ok (.getfield 32, 3) := by decide +kernel
theorem dX12_mean_58 : decode cX12_mean 58 = .ok (.iload_n 3, 1) := by decide +kernel
theorem dX12_mean_59 : decode cX12_mean 59 = .ok (.aload_n 0, 1) := by decide +kernel
theorem dX12_mean_60 : decode cX12_mean 60 = .ok (.iload_n 1, 1) := by decide +kernel
theorem dX12_mean_61 : decode cX12_mean 61 = .ok (.iload_n 2, 1) := by decide +kernel
theorem dX12_mean_62 : decode cX12_mean 62 = .ok (.iload 4, 2) := by decide +kernel
theorem dX12_mean_64 : decode cX12_mean 64 = .ok (.invokevirtual 200, 3) := by decide +kernel
theorem dX12_mean_67 : decode cX12_mean 67 = .ok (.ior, 1) := by decide +kernel
theorem dX12_mean_68 : decode cX12_mean 68 = .ok (.iconst 1, 1) := by decide +kernel
theorem dX12_mean_69 : decode cX12_mean 69 = .ok (.bastore, 1) := by decide +kernel
theorem dX12_mean_70 : decode cX12_mean 70 = .ok (.iinc 4 1, 3) := by decide +kernel
theorem dX12_mean_73 : decode cX12_mean 73 = .ok (.goto (-39), 3) := by decide +kernel
theorem dX12_mean_76 : decode cX12_mean 76 = .ok (.iinc 3 1, 3) := by decide +kernel
theorem dX12_mean_79 : decode cX12_mean 79 = .ok (.goto (-55), 3) := by decide +kernel
theorem dX12_mean_82 : decode cX12_mean 82 = .ok (.iconst 0, 1) := by decide +kernel
theorem dX12_mean_83 : decode cX12_mean 83 = .ok (.istore_n 3, 1) := by decide +kernel
theorem dX12_mean_84 : decode cX12_mean 84 = .ok (.iload_n 3, 1) := by decide +kernel
theorem dX12_mean_85 : decode cX12_mean 85 = .ok (.sipush 256, 3) := by decide +kernel
theorem dX12_mean_88 : decode cX12_mean 88 = .ok (.if_icmp .ge 21, 3) := by decide +kernel
theorem dX12_mean_91 : decode cX12_mean 91 = .ok (.aload_n 0, 1) := by decide +kernel
theorem dX12_mean_92 : decode cX12_mean 92 = .ok (.getfield 28, 3) := by decide +kernel
theorem dX12_mean_95 : decode cX12_mean 95 = .ok (.iload_n 3, 1) := by decide +kernel
theorem dX12_mean_96 : decode cX12_mean 96 = .ok (.aload_n 0, 1) := by decide +kernel
theorem dX12_mean_97 : decode cX12_mean 97 = .ok (.getfield 32, 3) := by decide +kernel
theorem dX12_mean_100 : decode cX12_mean 100 = .ok (.iload_n 3, 1) := by decide +kernel
theorem dX12_mean_101 : decode cX12_mean 101 = .ok (.baload, 1) := by decide +kernel
theorem dX12_mean_102 : decode cX12_mean 102 = .ok (.bastore, 1) := by decide +kernel
theorem dX12_mean_103 : decode cX12_mean 103 = .ok (.iinc 3 1, 3) := by decide +kernel
theorem dX12_mean_106 : decode cX12_mean 106 = .ok (.goto (-22), 3) := by decide +kernel
theorem dX12_mean_109 : decode cX12_mean 109 = .ok (.return_, 1) := by decide +kernel
