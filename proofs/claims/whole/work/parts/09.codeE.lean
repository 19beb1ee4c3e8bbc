abbrev cX12_marked : ByteArray := prog_14_method_41_code
def yX12_marked : MethodName := ⟨"DayTonguesModel", "marked", "([ZI)I"⟩
def mX12_marked : dt_MD := (yX12_marked, cX12_marked, 5, some .int)
theorem dX12_marked_0 : decode cX12_marked 0 = .ok (.iconst 0, 1) := by decide +kernel
theorem dX12_marked_1 : decode cX12_marked 1 = .ok (.istore_n 3, 1) := by decide +kernel
theorem dX12_marked_2 : decode cX12_marked 2 = .ok (.iconst 0, 1) := by decide +kernel
theorem dX12_marked_3 : decode cX12_marked 3 = .ok (.istore 4, 2) := by decide +kernel
theorem dX12_marked_5 : decode cX12_marked 5 = .ok (.iload 4, 2) := by decide +kernel
theorem dX12_marked_7 : decode cX12_marked 7 = .ok (.sipush 256, 3) := by decide +kernel
theorem dX12_marked_10 : decode cX12_marked 10 = .ok (.if_icmp .ge 39, 3) := by decide +kernel
theorem dX12_marked_13 : decode cX12_marked 13 = .ok (.aload_n 1, 1) := by decide +kernel
theorem dX12_marked_14 : decode cX12_marked 14 = .ok (.iload 4, 2) := by decide +kernel
theorem dX12_marked_16 : decode cX12_marked 16 = .ok (.baload, 1) := by decide +kernel
theorem dX12_marked_17 : decode cX12_marked 17 = .ok (.ifCond .eq 11, 3) := by decide +kernel
theorem dX12_marked_20 : decode cX12_marked 20 = .ok (.iload_n 3, 1) := by decide +kernel
theorem dX12_marked_21 : decode cX12_marked 21 = .ok (.iload_n 2, 1) := by decide +kernel
theorem dX12_marked_22 : decode cX12_marked 22 = .ok (.if_icmp .ne 6, 3) := by decide +kernel
theorem dX12_marked_25 : decode cX12_marked 25 = .ok (.iload 4, 2) := by decide +kernel
theorem dX12_marked_27 : decode cX12_marked 27 = .ok (.ireturn, 1) := by decide +kernel
theorem dX12_marked_28 : decode cX12_marked 28 = .ok (.iload_n 3, 1) := by decide +kernel
theorem dX12_marked_29 : decode cX12_marked 29 = .ok (.aload_n 1, 1) := by decide +kernel
theorem dX12_marked_30 : decode cX12_marked 30 = .ok (.iload 4, 2) := by decide +kernel
theorem dX12_marked_32 : decode cX12_marked 32 = .ok (.baload, 1) := by decide +kernel
theorem dX12_marked_33 : decode cX12_marked 33 = .ok (.ifCond .eq 7, 3) := by decide +kernel
theorem dX12_marked_36 : decode cX12_marked 36 = .ok (.iconst 1, 1) := by decide +kernel
theorem dX12_marked_37 : decode cX12_marked 37 = .ok (.goto 4, 3) := by decide +kernel
theorem dX12_marked_40 : decode cX12_marked 40 = .ok (.iconst 0, 1) := by decide +kernel
theorem dX12_marked_41 : decode cX12_marked 41 = .ok (.iadd, 1) := by decide +kernel
theorem dX12_marked_42 : decode cX12_marked 42 = .ok (.istore_n 3, 1) := by decide +kernel
theorem dX12_marked_43 : decode cX12_marked 43 = .ok (.iinc 4 1, 3) := by decide +kernel
theorem dX12_marked_46 : decode cX12_marked 46 = .ok (.goto (-41), 3) := by decide +kernel
theorem dX12_marked_49 : decode cX12_marked 49 = .ok (.iload_n 2, 1) := by decide +kernel
theorem dX12_marked_50 : decode cX12_marked 50 = .ok (.ifCond .ge 7, 3) := by decide +kernel
theorem dX12_marked_53 : decode cX12_marked 53 = .ok (.iload_n 3, 1) := by decide +kernel
theorem dX12_marked_54 : decode cX12_marked 54 = .ok (.goto 5, 3) := by decide +kernel
theorem dX12_marked_57 : decode cX12_marked 57 = .ok (.ldc 89, 2) := by decide +kernel
theorem dX12_marked_59 : decode cX12_marked 59 = .ok (.ireturn, 1) := by decide +kernel
abbrev cX12_isDay : ByteArray := prog_14_method_42_code
def yX12_isDay : MethodName := ⟨"DayTonguesModel", "isDay", "(I)Z"⟩
def mX12_isDay : dt_MD := (yX12_isDay, cX12_isDay, 1, some .boolean)
theorem dX12_isDay_0 : decode cX12_isDay 0 = .ok (.iload_n 0, 1) := by decide +kernel
theorem dX12_isDay_1 : decode cX12_isDay 1 = .ok (.i2l, 1) := by decide +kernel
theorem dX12_isDay_2 : decode cX12_isDay 2 = .ok (.lconst 0, 1) := by decide +kernel
theorem dX12_isDay_3 : decode cX12_isDay 3 = .ok (.ldc2_w 221, 3) := by decide +kernel
theorem dX12_isDay_6 : decode cX12_isDay 6 = .ok (.invokestatic 63, 3) := by decide +kernel
theorem dX12_isDay_9 : decode cX12_isDay 9 = .ok (.ireturn, 1) := by decide +kernel
abbrev cX12_tongueOf : ByteArray := prog_14_method_43_code
def yX12_tongueOf : MethodName := ⟨"DayTonguesModel", "tongueOf", "(I)I"⟩
def mX12_tongueOf : dt_MD := (yX12_tongueOf, cX12_tongueOf, 2, some .int)
theorem dX12_tongueOf_0 : decode cX12_tongueOf 0 = .ok (.iload_n 1, 1) := by decide +kernel
theorem dX12_tongueOf_1 : decode cX12_tongueOf 1 = .ok (.aload_n 0, 1) := by decide +kernel
theorem dX12_tongueOf_2 : decode cX12_tongueOf 2 = .ok (.getfield 19, 3) := by decide +kernel
theorem dX12_tongueOf_5 : decode cX12_tongueOf 5 = .ok (.iconst 0, 1) := by decide +kernel
theorem dX12_tongueOf_6 : decode cX12_tongueOf 6 = .ok (.iaload, 1) := by decide +kernel
theorem dX12_tongueOf_7 : decode cX12_tongueOf 7 = .ok (.irem, 1) := by decide +kernel
theorem dX12_tongueOf_8 : decode cX12_tongueOf 8 = .ok (.ireturn, 1) := by decide +kernel
abbrev cX12_lack : ByteArray := prog_14_method_44_code
def yX12_lack : MethodName := ⟨"DayTonguesModel", "lack", "(III)I"⟩
def mX12_lack : dt_MD := (yX12_lack, cX12_lack, 4, some .int)
theorem dX12_lack_0 : decode cX12_lack 0 = .ok (.aload_n 0, 1) := by decide +kernel
theorem dX12_lack_1 : decode cX12_lack 1 = .ok (.getfield 7, 3) := by decide +kernel
theorem dX12_lack_4 : decode cX12_lack 4 = .ok (.iload_n 1, 1) := by decide +kernel
theorem dX12_lack_5 : decode cX12_lack 5 = .ok (.iaload, 1) := by decide +kernel
theorem dX12_lack_6 : decode cX12_lack 6 = .ok (.ifCond .ge 7, 3) := by decide +kernel
theorem dX12_lack_9 : decode cX12_lack 9 = .ok (.iconst 1, 1) := by decide +kernel
theorem dX12_lack_10 : decode cX12_lack 10 = .ok (.goto 28, 3) := by decide +kernel
theorem dX12_lack_13 : decode cX12_lack 13 = .ok (.iload_n 2, 1) := by decide +kernel
theorem dX12_lack_14 : decode cX12_lack 14 = .ok (.ifCond .lt 19, 3) := by decide +kernel
theorem dX12_lack_17 : decode cX12_lack 17 = .ok (.iload_n 2, 1) := by decide +kernel
theorem dX12_lack_18 : decode cX12_lack 18 = .ok (.i2l, 1) := by decide +kernel
theorem dX12_lack_19 : decode cX12_lack 19 = .ok (.iload_n 3, 1) := by decide +kernel
theorem dX12_lack_20 : decode cX12_lack 20 = .ok (.i2l, 1) := by decide +kernel
theorem dX12_lack_21 : decode cX12_lack 21 = .ok (.ladd, 1) := by decide +kernel
theorem dX12_lack_22 : decode cX12_lack 22 = .ok (.aload_n 0, 1) := by decide +kernel
theorem dX12_lack_23 : decode cX12_lack 23 = .ok (.getfield 13, 3) := by decide +kernel
theorem dX12_lack_26 : decode cX12_lack 26 = .ok (.iload_n 1, 1) := by decide +kernel
theorem dX12_lack_27 : decode cX12_lack 27 = .ok (.iaload, 1) := by decide +kernel
theorem dX12_lack_28 : decode cX12_lack 28 = .ok (.i2l, 1) := by decide +kernel
theorem dX12_lack_29 : decode cX12_lack 29 = .ok (.lcmp, 1) := by decide +kernel
theorem dX12_lack_30 : decode cX12_lack 30 = .ok (.ifCond .le 7, 3) := by decide +kernel
theorem dX12_lack_33 : decode cX12_lack 33 = .ok (.iconst 2, 1) := by decide +kernel
theorem dX12_lack_34 : decode cX12_lack 34 = .ok (.goto 4, 3) := by decide +kernel
theorem dX12_lack_37 : decode cX12_lack 37 = .ok (.iconst 0, 1) := by decide +kernel
theorem dX12_lack_38 : decode cX12_lack 38 = .ok (.ireturn, 1) := by decide +kernel
abbrev cX12_means : ByteArray := prog_14_method_45_code
def yX12_means : MethodName := ⟨"DayTonguesModel", "means", "(IIIII)I"⟩
def mX12_means : dt_MD := (yX12_means, cX12_means, 9, some .int)
theorem dX12_means_0 : decode cX12_means 0 = .ok (.aload_n 0, 1) := by decide +kernel
theorem dX12_means_1 : decode cX12_means 1 = .ok (.iconst 0, 1) := by decide +kernel
theorem dX12_means_2 : decode cX12_means 2 = .ok (.putfield 53, 3) := by decide +kernel
theorem dX12_means_5 : decode cX12_means 5 = .ok (.aload_n 0, 1) := by decide +kernel
theorem dX12_means_6 : decode cX12_means 6 = .ok (.getfield 179, 3) := by decide +kernel
theorem dX12_means_9 : decode cX12_means 9 = .ok (.ifCond .ne 6, 3) := by decide +kernel
theorem dX12_means_12 : decode cX12_means 12 = .ok (.ldc 204, 2) := by decide +kernel
theorem dX12_means_14 : decode cX12_means 14 = .ok (.ireturn, 1) := by decide +kernel
theorem dX12_means_15 : decode cX12_means 15 = .ok (.iload_n 1, 1) := by decide +kernel
theorem dX12_means_16 : decode cX12_means 16 = .ok (.invokestatic 223, 3) := by decide +kernel
theorem dX12_means_19 : decode cX12_means 19 = .ok (.ifCond .eq 29, 3) := by decide +kernel
theorem dX12_means_22 : decode cX12_means 22 = .ok (.iload_n 2, 1) := by decide +kernel
theorem dX12_means_23 : decode cX12_means 23 = .ok (.invokestatic 67, 3) := by decide +kernel
theorem dX12_means_26 : decode cX12_means 26 = .ok (.ifCond .eq 22, 3) := by decide +kernel
theorem dX12_means_29 : decode cX12_means 29 = .ok (.iload 4, 2) := by decide +kernel
theorem dX12_means_31 : decode cX12_means 31 = .ok (.i2l, 1) := by decide +kernel
theorem dX12_means_32 : decode cX12_means 32 = .ok (.lconst 0, 1) := by decide +kernel
theorem dX12_means_33 : decode cX12_means 33 = .ok (.ldc2_w 226, 3) := by decide +kernel
theorem dX12_means_36 : decode cX12_means 36 = .ok (.invokestatic 63, 3) := by decide +kernel
theorem dX12_means_39 : decode cX12_means 39 = .ok (.ifCond .eq 9, 3) := by decide +kernel
theorem dX12_means_42 : decode cX12_means 42 = .ok (.iload 5, 2) := by decide +kernel
theorem dX12_means_44 : decode cX12_means 44 = .ok (.iconst (-1), 1) := by decide +kernel
theorem dX12_means_45 : decode cX12_means 45 = .ok (.if_icmp .ge 6, 3) := by decide +kernel
theorem dX12_means_48 : decode cX12_means 48 = .ok (.ldc 73, 2) := by decide +kernel
theorem dX12_means_50 : decode cX12_means 50 = .ok (.ireturn, 1) := by decide +kernel
theorem dX12_means_51 : decode cX12_means 51 = .ok (.aload_n 0, 1) := by decide +kernel
theorem dX12_means_52 : decode cX12_means 52 = .ok (.iload_n 2, 1) := by decide +kernel
theorem dX12_means_53 : decode cX12_means 53 = .ok (.iload_n 3, 1) := by decide +kernel
theorem dX12_means_54 : decode cX12_means 54 = .ok (.iload 4, 2) := by decide +kernel
theorem dX12_means_56 : decode cX12_means 56 = .ok (.invokevirtual 228, 3) := by decide +kernel
theorem dX12_means_59 : decode cX12_means 59 = .ok (.istore 6, 2) := by decide +kernel
theorem dX12_means_61 : decode cX12_means 61 = .ok (.iload 6, 2) := by decide +kernel
theorem dX12_means_63 : decode cX12_means 63 = .ok (.ifCond .le 10, 3) := by decide +kernel
theorem dX12_means_66 : decode cX12_means 66 = .ok (.aload_n 0, 1) := by decide +kernel
theorem dX12_means_67 : decode cX12_means 67 = .ok (.iload 6, 2) := by decide +kernel
theorem dX12_means_69 : decode cX12_means 69 = .ok (.invokevirtual 74, 3) := by decide +kernel
theorem dX12_means_72 : decode cX12_means 72 = .ok (.ireturn, 1) := by decide +kernel
theorem dX12_means_73 : decode cX12_means 73 = .ok (.aload_n 0, 1) := by decide +kernel
theorem dX12_means_74 : decode cX12_means 74 = .ok (.iload_n 1, 1) := by decide +kernel
theorem dX12_means_75 : decode cX12_means 75 = .ok (.invokevirtual 231, 3) := by decide +kernel
theorem dX12_means_78 : decode cX12_means 78 = .ok (.istore 7, 2) := by decide +kernel
theorem dX12_means_80 : decode cX12_means 80 = .ok (.iconst 0, 1) := by decide +kernel
theorem dX12_means_81 : decode cX12_means 81 = .ok (.istore 8, 2) := by decide +kernel
theorem dX12_means_83 : decode cX12_means 83 = .ok (.iload 8, 2) := by decide +kernel
theorem dX12_means_85 : decode cX12_means 85 = .ok (.iload 4, 2) := by decide +kernel
theorem dX12_means_87 : decode cX12_means 87 = .ok (.if_icmp .ge 35, 3) := by decide +kernel
theorem dX12_means_90 : decode cX12_means 90 = .ok (.aload_n 0, 1) := by decide +kernel
theorem dX12_means_91 : decode cX12_means 91 = .ok (.iload 7, 2) := by decide +kernel
theorem dX12_means_93 : decode cX12_means 93 = .ok (.aload_n 0, 1) := by decide +kernel
theorem dX12_means_94 : decode cX12_means 94 = .ok (.getfield 16, 3) := by decide +kernel
theorem dX12_means_97 : decode cX12_means 97 = .ok (.bipush 40, 2) := by decide +kernel
theorem dX12_means_99 : decode cX12_means 99 = .ok (.iload_n 2, 1) := by decide +kernel
theorem dX12_means_100 : decode cX12_means 100 = .ok (.imul, 1) := by decide +kernel
theorem dX12_means_101 : decode cX12_means 101 = .ok (.iload_n 3, 1) := by decide +kernel
theorem dX12_means_102 : decode cX12_means 102 = .ok (.iadd, 1) := by decide +kernel
theorem dX12_means_103 : decode cX12_means 103 = .ok (.iload 8, 2) := by decide +kernel
theorem dX12_means_105 : decode cX12_means 105 = .ok (.iadd, 1) := by decide +kernel
theorem dX12_means_106 : decode cX12_means 106 = .ok (.iaload, 1) := by decide +kernel
theorem dX12_means_107 : decode cX12_means 107 = .ok (.invokevirtual 212, 3) := by decide +kernel
theorem dX12_means_110 : decode cX12_means 110 = .ok (.ifCond .ne 6, 3) := by decide +kernel
theorem dX12_means_113 : decode cX12_means 113 = .ok (.ldc 73, 2) := by decide +kernel
theorem dX12_means_115 : decode cX12_means 115 = .ok (.ireturn, 1) := by decide +kernel
theorem dX12_means_116 : decode cX12_means 116 = .ok (.iinc 8 1, 3) := by decide +kernel
theorem dX12_means_119 : decode cX12_means 119 = .ok (.goto (-36), 3) := by decide +kernel
theorem dX12_means_122 : decode cX12_means 122 = .ok (.aload_n 0, 1) := by decide +kernel
theorem dX12_means_123 : decode cX12_means 123 = .ok (.iconst 0, 1) := by decide +kernel
theorem dX12_means_124 : decode cX12_means 124 = .ok (.putfield 57, 3) := by decide +kernel
theorem dX12_means_127 : decode cX12_means 127 = .ok (.aload_n 0, 1) := by decide +kernel
theorem dX12_means_128 : decode cX12_means 128 = .ok (.invokevirtual 234, 3) := by decide +kernel
theorem dX12_means_131 : decode cX12_means 131 = .ok (.iconst 0, 1) := by decide +kernel
theorem dX12_means_132 : decode cX12_means 132 = .ok (.istore 8, 2) := by decide +kernel
theorem dX12_means_134 : decode cX12_means 134 = .ok (.iload 8, 2) := by decide +kernel
theorem dX12_means_136 : decode cX12_means 136 = .ok (.iload 4, 2) := by decide +kernel
theorem dX12_means_138 : decode cX12_means 138 = .ok (.if_icmp .ge 29, 3) := by decide +kernel
theorem dX12_means_141 : decode cX12_means 141 = .ok (.aload_n 0, 1) := by decide +kernel
theorem dX12_means_142 : decode cX12_means 142 = .ok (.iload 7, 2) := by decide +kernel
theorem dX12_means_144 : decode cX12_means 144 = .ok (.aload_n 0, 1) := by decide +kernel
theorem dX12_means_145 : decode cX12_means 145 = .ok (.getfield 16, 3) := by decide +kernel
theorem dX12_means_148 : decode cX12_means 148 = .ok (.bipush 40, 2) := by decide +kernel
theorem dX12_means_150 : decode cX12_means 150 = .ok (.iload_n 2, 1) := by decide +kernel
theorem dX12_means_151 : decode cX12_means 151 = .ok (.imul, 1) := by decide +kernel
theorem dX12_means_152 : decode cX12_means 152 = .ok (.iload_n 3, 1) := by decide +kernel
theorem dX12_means_153 : decode cX12_means 153 = .ok (.iadd, 1) := by decide +kernel
theorem dX12_means_154 : decode cX12_means 154 = .ok (.iload 8, 2) := by decide +kernel
theorem dX12_means_156 : decode cX12_means 156 = .ok (.iadd, 1) := by decide +kernel
theorem dX12_means_157 : decode cX12_means 157 = .ok (.iaload, 1) := by decide +kernel
theorem dX12_means_158 : decode cX12_means 158 = .ok (.invokevirtual 237, 3) := by decide +kernel
theorem dX12_means_161 : decode cX12_means 161 = .ok (.iinc 8 1, 3) := by decide +kernel
theorem dX12_means_164 : decode cX12_means 164 = .ok (.goto (-30), 3) := by decide +kernel
theorem dX12_means_167 : decode cX12_means 167 = .ok (.aload_n 0, 1) := by decide +kernel
theorem dX12_means_168 : decode cX12_means 168 = .ok (.aload_n 0, 1) := by decide +kernel
theorem dX12_means_169 : decode cX12_means 169 = .ok (.getfield 28, 3) := by decide +kernel
theorem dX12_means_172 : decode cX12_means 172 = .ok (.iload 5, 2) := by decide +kernel
theorem dX12_means_174 : decode cX12_means 174 = .ok (.invokevirtual 241, 3) := by decide +kernel
theorem dX12_means_177 : decode cX12_means 177 = .ok (.ireturn, 1) := by decide +kernel
abbrev cX12_common : ByteArray := prog_14_method_46_code
def yX12_common : MethodName := ⟨"DayTonguesModel", "common", "(II)I"⟩
def mX12_common : dt_MD := (yX12_common, cX12_common, 5, some .int)
theorem dX12_common_0 : decode cX12_common 0 = .ok (.sipush 255, 3) := by decide +kernel
theorem dX12_common_3 : decode cX12_common 3 = .ok (.istore_n 3, 1) := by decide +kernel
theorem dX12_common_4 : decode cX12_common 4 = .ok (.iconst 0, 1) := by decide +kernel
theorem dX12_common_5 : decode cX12_common 5 = .ok (.istore 4, 2) := by decide +kernel
theorem dX12_common_7 : decode cX12_common 7 = .ok (.iload 4, 2) := by decide +kernel
theorem dX12_common_9 : decode cX12_common 9 = .ok (.aload_n 0, 1) := by decide +kernel
theorem dX12_common_10 : decode cX12_common 10 = .ok (.iload_n 1, 1) := by decide +kernel
theorem dX12_common_11 : decode cX12_common 11 = .ok (.iload_n 2, 1) := by decide +kernel
theorem dX12_common_12 : decode cX12_common 12 = .ok (.invokevirtual 197, 3) := by decide +kernel
theorem dX12_common_15 : decode cX12_common 15 = .ok (.if_icmp .ge 20, 3) := by decide +kernel
theorem dX12_common_18 : decode cX12_common 18 = .ok (.iload_n 3, 1) := by decide +kernel
theorem dX12_common_19 : decode cX12_common 19 = .ok (.aload_n 0, 1) := by decide +kernel
theorem dX12_common_20 : decode cX12_common 20 = .ok (.iload_n 1, 1) := by decide +kernel
theorem dX12_common_21 : decode cX12_common 21 = .ok (.iload_n 2, 1) := by decide +kernel
theorem dX12_common_22 : decode cX12_common 22 = .ok (.iload 4, 2) := by decide +kernel
theorem dX12_common_24 : decode cX12_common 24 = .ok (.invokevirtual 200, 3) := by decide +kernel
theorem dX12_common_27 : decode cX12_common 27 = .ok (.iand, 1) := by decide +kernel
theorem dX12_common_28 : decode cX12_common 28 = .ok (.istore_n 3, 1) := by decide +kernel
theorem dX12_common_29 : decode cX12_common 29 = .ok (.iinc 4 1, 3) := by decide +kernel
theorem dX12_common_32 : decode cX12_common 32 = .ok (.goto (-25), 3) := by decide +kernel
theorem dX12_common_35 : decode cX12_common 35 = .ok (.iload_n 3, 1) := by decide +kernel
theorem dX12_common_36 : decode cX12_common 36 = .ok (.ireturn, 1) := by decide +kernel
abbrev cX12_isWithin : ByteArray := prog_14_method_47_code
def yX12_isWithin : MethodName := ⟨"DayTonguesModel", "isWithin", "(III)Z"⟩
def mX12_isWithin : dt_MD := (yX12_isWithin, cX12_isWithin, 6, some .boolean)
theorem dX12_isWithin_0 : decode cX12_isWithin 0 = .ok (.iconst 1, 1) := by decide +kernel
theorem dX12_isWithin_1 : decode cX12_isWithin 1 = .ok (.istore 4, 2) := by decide +kernel
theorem dX12_isWithin_3 : decode cX12_isWithin 3 = .ok (.iconst 0, 1) := by decide +kernel
theorem dX12_isWithin_4 : decode cX12_isWithin 4 = .ok (.istore 5, 2) := by decide +kernel
theorem dX12_isWithin_6 : decode cX12_isWithin 6 = .ok (.iload 5, 2) := by decide +kernel
theorem dX12_isWithin_8 : decode cX12_isWithin 8 = .ok (.aload_n 0, 1) := by decide +kernel
theorem dX12_isWithin_9 : decode cX12_isWithin 9 = .ok (.iload_n 1, 1) := by decide +kernel
theorem dX12_isWithin_10 : decode cX12_isWithin 10 = .ok (.iload_n 2, 1) := by decide +kernel
theorem dX12_isWithin_11 : decode cX12_isWithin 11 = .ok (.invokevirtual 197, 3) := by decide +kernel
theorem dX12_isWithin_14 : decode cX12_isWithin 14 = .ok (.if_icmp .ge 36, 3) := by decide +kernel
theorem dX12_isWithin_17 : decode cX12_isWithin 17 = .ok (.iload 4, 2) := by decide +kernel
theorem dX12_isWithin_19 : decode cX12_isWithin 19 = .ok (.ifCond .eq 22, 3) := by decide +kernel
theorem dX12_isWithin_22 : decode cX12_isWithin 22 = .ok (.aload_n 0, 1) := by decide +kernel
theorem dX12_isWithin_23 : decode cX12_isWithin 23 = .ok (.iload_n 1, 1) := by decide +kernel
theorem dX12_isWithin_24 : decode cX12_isWithin 24 = .ok (.iload_n 2, 1) := by decide +kernel
theorem dX12_isWithin_25 : decode cX12_isWithin 25 = .ok (.iload 5, 2) := by decide +kernel
theorem dX12_isWithin_27 : decode cX12_isWithin 27 = .ok (.invokevirtual 200, 3) := by decide +kernel
theorem dX12_isWithin_30 : decode cX12_isWithin 30 = .ok (.iload_n 3, 1) := by decide +kernel
theorem dX12_isWithin_31 : decode cX12_isWithin 31 = .ok (.iconst (-1), 1) := by decide +kernel
theorem dX12_isWithin_32 : decode cX12_isWithin 32 = .ok (.ixor, 1) := by decide +kernel
theorem dX12_isWithin_33 : decode cX12_isWithin 33 = .ok (.iand, 1) := by decide +kernel
theorem dX12_isWithin_34 : decode cX12_isWithin 34 = .ok (.ifCond .ne 7, 3) := by decide +kernel
theorem dX12_isWithin_37 : decode cX12_isWithin 37 = .ok (.iconst 1, 1) := by decide +kernel
theorem dX12_isWithin_38 : decode cX12_isWithin 38 = .ok (.goto 4, 3) := by decide +kernel
theorem dX12_isWithin_41 : decode cX12_isWithin 41 = .ok (.iconst 0, 1) := by decide +kernel
theorem dX12_isWithin_42 : decode cX12_isWithin 42 = .ok (.istore 4, 2) := by decide +kernel
theorem dX12_isWithin_44 : decode cX12_isWithin 44 = .ok (.iinc 5 1, 3) := by decide +kernel
theorem dX12_isWithin_47 : decode cX12_isWithin 47 = .ok (.goto (-41), 3) := by decide +kernel
theorem dX12_isWithin_50 : decode cX12_isWithin 50 = .ok (.iload 4, 2) := by decide +kernel
theorem dX12_isWithin_52 : decode cX12_isWithin 52 = .ok (.ireturn, 1) := by decide +kernel
abbrev cX12_waysOf : ByteArray := prog_14_method_48_code
def yX12_waysOf : MethodName := ⟨"DayTonguesModel", "waysOf", "(IIIZ)I"⟩
def mX12_waysOf : dt_MD := (yX12_waysOf, cX12_waysOf, 5, some .int)
theorem dX12_waysOf_0 : decode cX12_waysOf 0 = .ok (.iload 4, 2) := by decide +kernel
theorem dX12_waysOf_2 : decode cX12_waysOf 2 = .ok (.ifCond .ne 12, 3) := by decide +kernel
theorem dX12_waysOf_5 : decode cX12_waysOf 5 = .ok (.aload_n 0, 1) := by decide +kernel
theorem dX12_waysOf_6 : decode cX12_waysOf 6 = .ok (.iload_n 1, 1) := by decide +kernel
theorem dX12_waysOf_7 : decode cX12_waysOf 7 = .ok (.iload_n 2, 1) := by decide +kernel
theorem dX12_waysOf_8 : decode cX12_waysOf 8 = .ok (.invokevirtual 197, 3) := by decide +kernel
theorem dX12_waysOf_11 : decode cX12_waysOf 11 = .ok (.goto 18, 3) := by decide +kernel
theorem dX12_waysOf_14 : decode cX12_waysOf 14 = .ok (.aload_n 0, 1) := by decide +kernel
theorem dX12_waysOf_15 : decode cX12_waysOf 15 = .ok (.iload_n 1, 1) := by decide +kernel
theorem dX12_waysOf_16 : decode cX12_waysOf 16 = .ok (.iload_n 2, 1) := by decide +kernel
theorem dX12_waysOf_17 : decode cX12_waysOf 17 = .ok (.iload_n 3, 1) := by decide +kernel
theorem dX12_waysOf_18 : decode cX12_waysOf 18 = .ok (.invokevirtual 245, 3) := by decide +kernel
theorem dX12_waysOf_21 : decode cX12_waysOf 21 = .ok (.ifCond .eq 7, 3) := by decide +kernel
theorem dX12_waysOf_24 : decode cX12_waysOf 24 = .ok (.iconst 1, 1) := by decide +kernel
theorem dX12_waysOf_25 : decode cX12_waysOf 25 = .ok (.goto 4, 3) := by decide +kernel
theorem dX12_waysOf_28 : decode cX12_waysOf 28 = .ok (.iconst 0, 1) := by decide +kernel
theorem dX12_waysOf_29 : decode cX12_waysOf 29 = .ok (.ireturn, 1) := by decide +kernel
abbrev cX12_onBy : ByteArray := prog_14_method_49_code
def yX12_onBy : MethodName := ⟨"DayTonguesModel", "onBy", "(IIIZ)I"⟩
def mX12_onBy : dt_MD := (yX12_onBy, cX12_onBy, 5, some .int)
theorem dX12_onBy_0 : decode cX12_onBy 0 = .ok (.iload 4, 2) := by decide +kernel
theorem dX12_onBy_2 : decode cX12_onBy 2 = .ok (.ifCond .eq 12, 3) := by decide +kernel
theorem dX12_onBy_5 : decode cX12_onBy 5 = .ok (.aload_n 0, 1) := by decide +kernel
theorem dX12_onBy_6 : decode cX12_onBy 6 = .ok (.iload_n 1, 1) := by decide +kernel
theorem dX12_onBy_7 : decode cX12_onBy 7 = .ok (.iload_n 2, 1) := by decide +kernel
theorem dX12_onBy_8 : decode cX12_onBy 8 = .ok (.invokevirtual 249, 3) := by decide +kernel
theorem dX12_onBy_11 : decode cX12_onBy 11 = .ok (.goto 10, 3) := by decide +kernel
theorem dX12_onBy_14 : decode cX12_onBy 14 = .ok (.aload_n 0, 1) := by decide +kernel
theorem dX12_onBy_15 : decode cX12_onBy 15 = .ok (.iload_n 1, 1) := by decide +kernel
theorem dX12_onBy_16 : decode cX12_onBy 16 = .ok (.iload_n 2, 1) := by decide +kernel
theorem dX12_onBy_17 : decode cX12_onBy 17 = .ok (.iload_n 3, 1) := by decide +kernel
theorem dX12_onBy_18 : decode cX12_onBy 18 = .ok (.invokevirtual 200, 3) := by decide +kernel
theorem dX12_onBy_21 : decode cX12_onBy 21 = .ok (.ireturn, 1) := by decide +kernel
abbrev cX12_layFar : ByteArray := prog_14_method_50_code
def yX12_layFar : MethodName := ⟨"DayTonguesModel", "layFar", "(IIZ)V"⟩
def mX12_layFar : dt_MD := (yX12_layFar, cX12_layFar, 8, none)
theorem dX12_layFar_0 : decode cX12_layFar 0 = .ok (.iconst 0, 1) := by decide +kernel
theorem dX12_layFar_1 : decode cX12_layFar 1 = .ok (.istore 4, 2) := by decide +kernel
theorem dX12_layFar_3 : decode cX12_layFar 3 = .ok (.iload 4, 2) := by decide +kernel
theorem dX12_layFar_5 : decode cX12_layFar 5 = .ok (.sipush 256, 3) := by decide +kernel
theorem dX12_layFar_8 : decode cX12_layFar 8 = .ok (.if_icmp .ge 27, 3) := by decide +kernel
theorem dX12_layFar_11 : decode cX12_layFar 11 = .ok (.aload_n 0, 1) := by decide +kernel
theorem dX12_layFar_12 : decode cX12_layFar 12 = .ok (.getfield 35, 3) := by decide +kernel
theorem dX12_layFar_15 : decode cX12_layFar 15 = .ok (.iload 4, 2) := by decide +kernel
theorem dX12_layFar_17 : decode cX12_layFar 17 = .ok (.iload 4, 2) := by decide +kernel
theorem dX12_layFar_19 : decode cX12_layFar 19 = .ok (.iload_n 2, 1) := by decide +kernel
theorem dX12_layFar_20 : decode cX12_layFar 20 = .ok (.if_icmp .ne 7, 3) := by decide +kernel
theorem dX12_layFar_23 : decode cX12_layFar 23 = .ok (.iconst 0, 1) := by decide +kernel
theorem dX12_layFar_24 : decode cX12_layFar 24 = .ok (.goto 4, 3) := by decide +kernel
theorem dX12_layFar_27 : decode cX12_layFar 27 = .ok (.iconst (-1), 1) := by decide +kernel
theorem dX12_layFar_28 : decode cX12_layFar 28 = .ok (.iastore, 1) := by decide +kernel
theorem dX12_layFar_29 : decode cX12_layFar 29 = .ok (.iinc 4 1, 3) := by decide +kernel
theorem dX12_layFar_32 : decode cX12_layFar 32 = .ok (.goto (-29), 3) := by decide +kernel
theorem dX12_layFar_35 : decode cX12_layFar 35 = .ok (.iconst 1, 1) := by decide +kernel
theorem dX12_layFar_36 : decode cX12_layFar 36 = .ok (.istore 4, 2) := by decide +kernel
theorem dX12_layFar_38 : decode cX12_layFar 38 = .ok (.iload 4, 2) := by decide +kernel
theorem dX12_layFar_40 : decode cX12_layFar 40 = .ok (.bipush 8, 2) := by decide +kernel
theorem dX12_layFar_42 : decode cX12_layFar 42 = .ok (.if_icmp .gt 135, 3) := by decide +kernel
theorem dX12_layFar_45 : decode cX12_layFar 45 = .ok (.iconst 0, 1) := by decide +kernel
theorem dX12_layFar_46 : decode cX12_layFar 46 = .ok (.istore 5, 2) := by decide +kernel
theorem dX12_layFar_48 : decode cX12_layFar 48 = .ok (.iload 5, 2) := by decide +kernel
theorem dX12_layFar_50 : decode cX12_layFar 50 = .ok (.sipush 256, 3) := by decide +kernel
theorem dX12_layFar_53 : decode cX12_layFar 53 = .ok (.if_icmp .ge 118, 3) := by decide +kernel
theorem dX12_layFar_56 : decode cX12_layFar 56 = .ok (.iconst 0, 1) := by decide +kernel
theorem dX12_layFar_57 : decode cX12_layFar 57 = .ok (.istore 6, 2) := by decide +kernel
theorem dX12_layFar_59 : decode cX12_layFar 59 = .ok (.iload 6, 2) := by decide +kernel
theorem dX12_layFar_61 : decode cX12_layFar 61 = .ok (.aload_n 0, 1) := by decide +kernel
theorem dX12_layFar_62 : decode cX12_layFar 62 = .ok (.getfield 19, 3) := by decide +kernel
theorem dX12_layFar_65 : decode cX12_layFar 65 = .ok (.iconst 3, 1) := by decide +kernel
theorem dX12_layFar_66 : decode cX12_layFar 66 = .ok (.iload_n 1, 1) := by decide +kernel
theorem dX12_layFar_67 : decode cX12_layFar 67 = .ok (.iadd, 1) := by decide +kernel
theorem dX12_layFar_68 : decode cX12_layFar 68 = .ok (.iaload, 1) := by decide +kernel
theorem dX12_layFar_69 : decode cX12_layFar 69 = .ok (.if_icmp .ge 96, 3) := by decide +kernel
theorem dX12_layFar_72 : decode cX12_layFar 72 = .ok (.aload_n 0, 1) := by decide +kernel
theorem dX12_layFar_73 : decode cX12_layFar 73 = .ok (.getfield 35, 3) := by decide +kernel
theorem dX12_layFar_76 : decode cX12_layFar 76 = .ok (.iload 5, 2) := by decide +kernel
theorem dX12_layFar_78 : decode cX12_layFar 78 = .ok (.iaload, 1) := by decide +kernel
theorem dX12_layFar_79 : decode cX12_layFar 79 = .ok (.ifCond .ge 86, 3) := by decide +kernel
theorem dX12_layFar_82 : decode cX12_layFar 82 = .ok (.iconst 0, 1) := by decide +kernel
theorem dX12_layFar_83 : decode cX12_layFar 83 = .ok (.istore 7, 2) := by decide +kernel
theorem dX12_layFar_85 : decode cX12_layFar 85 = .ok (.iload 7, 2) := by decide +kernel
theorem dX12_layFar_87 : decode cX12_layFar 87 = .ok (.aload_n 0, 1) := by decide +kernel
theorem dX12_layFar_88 : decode cX12_layFar 88 = .ok (.iload_n 1, 1) := by decide +kernel
theorem dX12_layFar_89 : decode cX12_layFar 89 = .ok (.iload 6, 2) := by decide +kernel
theorem dX12_layFar_91 : decode cX12_layFar 91 = .ok (.iload_n 2, 1) := by decide +kernel
theorem dX12_layFar_92 : decode cX12_layFar 92 = .ok (.iload_n 3, 1) := by decide +kernel
theorem dX12_layFar_93 : decode cX12_layFar 93 = .ok (.invokevirtual 252, 3) := by decide +kernel
theorem dX12_layFar_96 : decode cX12_layFar 96 = .ok (.if_icmp .ge 63, 3) := by decide +kernel
theorem dX12_layFar_99 : decode cX12_layFar 99 = .ok (.aload_n 0, 1) := by decide +kernel
theorem dX12_layFar_100 : decode cX12_layFar 100 = .ok (.getfield 35, 3) := by decide +kernel
theorem dX12_layFar_103 : decode cX12_layFar 103 = .ok (.iload 5, 2) := by decide +kernel
theorem dX12_layFar_105 : decode cX12_layFar 105 = .ok (.aload_n 0, 1) := by decide +kernel
theorem dX12_layFar_106 : decode cX12_layFar 106 = .ok (.getfield 35, 3) := by decide +kernel
theorem dX12_layFar_109 : decode cX12_layFar 109 = .ok (.iload 5, 2) := by decide +kernel
theorem dX12_layFar_111 : decode cX12_layFar 111 = .ok (.iaload, 1) := by decide +kernel
theorem dX12_layFar_112 : decode cX12_layFar 112 = .ok (.ifCond .ge 33, 3) := by decide +kernel
theorem dX12_layFar_115 : decode cX12_layFar 115 = .ok (.aload_n 0, 1) := by decide +kernel
theorem dX12_layFar_116 : decode cX12_layFar 116 = .ok (.getfield 35, 3) := by decide +kernel
theorem dX12_layFar_119 : decode cX12_layFar 119 = .ok (.iload 5, 2) := by decide +kernel
theorem dX12_layFar_121 : decode cX12_layFar 121 = .ok (.aload_n 0, 1) := by decide +kernel
theorem dX12_layFar_122 : decode cX12_layFar 122 = .ok (.iload_n 1, 1) := by decide +kernel
theorem dX12_layFar_123 : decode cX12_layFar 123 = .ok (.iload 6, 2) := by decide +kernel
theorem dX12_layFar_125 : decode cX12_layFar 125 = .ok (.iload 7, 2) := by decide +kernel
theorem dX12_layFar_127 : decode cX12_layFar 127 = .ok (.iload_n 3, 1) := by decide +kernel
theorem dX12_layFar_128 : decode cX12_layFar 128 = .ok (.invokevirtual 256, 3) := by decide +kernel
theorem dX12_layFar_131 : decode cX12_layFar 131 = .ok (.ior, 1) := by decide +kernel
theorem dX12_layFar_132 : decode cX12_layFar 132 = .ok (.iaload, 1) := by decide +kernel
theorem dX12_layFar_133 : decode cX12_layFar 133 = .ok (.iload 4, 2) := by decide +kernel
theorem dX12_layFar_135 : decode cX12_layFar 135 = .ok (.iconst 1, 1) := by decide +kernel
theorem dX12_layFar_136 : decode cX12_layFar 136 = .ok (.isub, 1) := by decide +kernel
theorem dX12_layFar_137 : decode cX12_layFar 137 = .ok (.if_icmp .ne 8, 3) := by decide +kernel
theorem dX12_layFar_140 : decode cX12_layFar 140 = .ok (.iload 4, 2) := by decide +kernel
theorem dX12_layFar_142 : decode cX12_layFar 142 = .ok (.goto 10, 3) := by decide +kernel
theorem dX12_layFar_145 : decode cX12_layFar 145 = .ok (.aload_n 0, 1) := by decide +kernel
theorem dX12_layFar_146 : decode cX12_layFar 146 = .ok (.getfield 35, 3) := by decide +kernel
theorem dX12_layFar_149 : decode cX12_layFar 149 = .ok (.iload 5, 2) := by decide +kernel
theorem dX12_layFar_151 : decode cX12_layFar 151 = .ok (.iaload, 1) := by decide +kernel
theorem dX12_layFar_152 : decode cX12_layFar 152 = .ok (.iastore, 1) := by decide +kernel
theorem dX12_layFar_153 : decode cX12_layFar 153 = .ok (.iinc 7 1, 3) := by decide +kernel
theorem dX12_layFar_156 : decode cX12_layFar 156 = .ok (.goto (-71), 3) := by decide +kernel
theorem dX12_layFar_159 : decode cX12_layFar 159 = .ok (.iinc 6 1, 3) := by decide +kernel
theorem dX12_layFar_162 : decode cX12_layFar 162 = .ok (.goto (-103), 3) := by decide +kernel
theorem dX12_layFar_165 : decode cX12_layFar 165 = .ok (.iinc 5 1, 3) := by decide +kernel
theorem dX12_layFar_168 : decode cX12_layFar 168 = .ok (.goto (-120), 3) := by decide +kernel
theorem dX12_layFar_171 : decode cX12_layFar 171 = .ok (.iinc 4 1, 3) := by decide +kernel
theorem dX12_layFar_174 : decode cX12_layFar 174 = .ok (.goto (-136), 3) := by decide +kernel
theorem dX12_layFar_177 : decode cX12_layFar 177 = .ok (.return_, 1) := by decide +kernel
abbrev cX12_takesOn : ByteArray := prog_14_method_51_code
def yX12_takesOn : MethodName := ⟨"DayTonguesModel", "takesOn", "(IIIZI)Z"⟩
def mX12_takesOn : dt_MD := (yX12_takesOn, cX12_takesOn, 10, some .boolean)
theorem dX12_takesOn_0 : decode cX12_takesOn 0 = .ok (.iconst 0, 1) := by decide +kernel
theorem dX12_takesOn_1 : decode cX12_takesOn 1 = .ok (.istore 6, 2) := by decide +kernel
theorem dX12_takesOn_3 : decode cX12_takesOn 3 = .ok (.iconst 0, 1) := by decide +kernel
theorem dX12_takesOn_4 : decode cX12_takesOn 4 = .ok (.istore 7, 2) := by decide +kernel
theorem dX12_takesOn_6 : decode cX12_takesOn 6 = .ok (.iload 7, 2) := by decide +kernel
theorem dX12_takesOn_8 : decode cX12_takesOn 8 = .ok (.sipush 256, 3) := by decide +kernel
theorem dX12_takesOn_11 : decode cX12_takesOn 11 = .ok (.if_icmp .ge 17, 3) := by decide +kernel
theorem dX12_takesOn_14 : decode cX12_takesOn 14 = .ok (.aload_n 0, 1) := by decide +kernel
theorem dX12_takesOn_15 : decode cX12_takesOn 15 = .ok (.getfield 32, 3) := by decide +kernel
theorem dX12_takesOn_18 : decode cX12_takesOn 18 = .ok (.iload 7, 2) := by decide +kernel
theorem dX12_takesOn_20 : decode cX12_takesOn 20 = .ok (.iconst 0, 1) := by decide +kernel
theorem dX12_takesOn_21 : decode cX12_takesOn 21 = .ok (.bastore, 1) := by decide +kernel
theorem dX12_takesOn_22 : decode cX12_takesOn 22 = .ok (.iinc 7 1, 3) := by decide +kernel
theorem dX12_takesOn_25 : decode cX12_takesOn 25 = .ok (.goto (-19), 3) := by decide +kernel
theorem dX12_takesOn_28 : decode cX12_takesOn 28 = .ok (.iconst 0, 1) := by decide +kernel
theorem dX12_takesOn_29 : decode cX12_takesOn 29 = .ok (.istore 7, 2) := by decide +kernel
theorem dX12_takesOn_31 : decode cX12_takesOn 31 = .ok (.iload 7, 2) := by decide +kernel
theorem dX12_takesOn_33 : decode cX12_takesOn 33 = .ok (.sipush 256, 3) := by decide +kernel
theorem dX12_takesOn_36 : decode cX12_takesOn 36 = .ok (.if_icmp .ge 82, 3) := by decide +kernel
theorem dX12_takesOn_39 : decode cX12_takesOn 39 = .ok (.iconst 0, 1) := by decide +kernel
theorem dX12_takesOn_40 : decode cX12_takesOn 40 = .ok (.istore 8, 2) := by decide +kernel
theorem dX12_takesOn_42 : decode cX12_takesOn 42 = .ok (.iload 8, 2) := by decide +kernel
theorem dX12_takesOn_44 : decode cX12_takesOn 44 = .ok (.aload_n 0, 1) := by decide +kernel
theorem dX12_takesOn_45 : decode cX12_takesOn 45 = .ok (.iload_n 1, 1) := by decide +kernel
theorem dX12_takesOn_46 : decode cX12_takesOn 46 = .ok (.iload_n 2, 1) := by decide +kernel
theorem dX12_takesOn_47 : decode cX12_takesOn 47 = .ok (.iload_n 3, 1) := by decide +kernel
theorem dX12_takesOn_48 : decode cX12_takesOn 48 = .ok (.iload 4, 2) := by decide +kernel
theorem dX12_takesOn_50 : decode cX12_takesOn 50 = .ok (.invokevirtual 252, 3) := by decide +kernel
theorem dX12_takesOn_53 : decode cX12_takesOn 53 = .ok (.if_icmp .ge 59, 3) := by decide +kernel
theorem dX12_takesOn_56 : decode cX12_takesOn 56 = .ok (.aload_n 0, 1) := by decide +kernel
theorem dX12_takesOn_57 : decode cX12_takesOn 57 = .ok (.getfield 28, 3) := by decide +kernel
theorem dX12_takesOn_60 : decode cX12_takesOn 60 = .ok (.iload 7, 2) := by decide +kernel
theorem dX12_takesOn_62 : decode cX12_takesOn 62 = .ok (.baload, 1) := by decide +kernel
theorem dX12_takesOn_63 : decode cX12_takesOn 63 = .ok (.ifCond .eq 49, 3) := by decide +kernel
theorem dX12_takesOn_66 : decode cX12_takesOn 66 = .ok (.iload 7, 2) := by decide +kernel
theorem dX12_takesOn_68 : decode cX12_takesOn 68 = .ok (.aload_n 0, 1) := by decide +kernel
theorem dX12_takesOn_69 : decode cX12_takesOn 69 = .ok (.iload_n 1, 1) := by decide +kernel
theorem dX12_takesOn_70 : decode cX12_takesOn 70 = .ok (.iload_n 2, 1) := by decide +kernel
theorem dX12_takesOn_71 : decode cX12_takesOn 71 = .ok (.iload 8, 2) := by decide +kernel
theorem dX12_takesOn_73 : decode cX12_takesOn 73 = .ok (.iload 4, 2) := by decide +kernel
theorem dX12_takesOn_75 : decode cX12_takesOn 75 = .ok (.invokevirtual 256, 3) := by decide +kernel
theorem dX12_takesOn_78 : decode cX12_takesOn 78 = .ok (.ior, 1) := by decide +kernel
theorem dX12_takesOn_79 : decode cX12_takesOn 79 = .ok (.istore 9, 2) := by decide +kernel
theorem dX12_takesOn_81 : decode cX12_takesOn 81 = .ok (.aload_n 0, 1) := by decide +kernel
theorem dX12_takesOn_82 : decode cX12_takesOn 82 = .ok (.getfield 35, 3) := by decide +kernel
theorem dX12_takesOn_85 : decode cX12_takesOn 85 = .ok (.iload 9, 2) := by decide +kernel
theorem dX12_takesOn_87 : decode cX12_takesOn 87 = .ok (.iaload, 1) := by decide +kernel
theorem dX12_takesOn_88 : decode cX12_takesOn 88 = .ok (.iload 5, 2) := by decide +kernel
theorem dX12_takesOn_90 : decode cX12_takesOn 90 = .ok (.iconst 1, 1) := by decide +kernel
theorem dX12_takesOn_91 : decode cX12_takesOn 91 = .ok (.isub, 1) := by decide +kernel
theorem dX12_takesOn_92 : decode cX12_takesOn 92 = .ok (.if_icmp .ne 14, 3) := by decide +kernel
theorem dX12_takesOn_95 : decode cX12_takesOn 95 = .ok (.aload_n 0, 1) := by decide +kernel
theorem dX12_takesOn_96 : decode cX12_takesOn 96 = .ok (.getfield 32, 3) := by decide +kernel
theorem dX12_takesOn_99 : decode cX12_takesOn 99 = .ok (.iload 9, 2) := by decide +kernel
theorem dX12_takesOn_101 : decode cX12_takesOn 101 = .ok (.iconst 1, 1) := by decide +kernel
theorem dX12_takesOn_102 : decode cX12_takesOn 102 = .ok (.bastore, 1) := by decide +kernel
theorem dX12_takesOn_103 : decode cX12_takesOn 103 = .ok (.iconst 1, 1) := by decide +kernel
theorem dX12_takesOn_104 : decode cX12_takesOn 104 = .ok (.istore 6, 2) := by decide +kernel
theorem dX12_takesOn_106 : decode cX12_takesOn 106 = .ok (.iinc 8 1, 3) := by decide +kernel
theorem dX12_takesOn_109 : decode cX12_takesOn 109 = .ok (.goto (-67), 3) := by decide +kernel
theorem dX12_takesOn_112 : decode cX12_takesOn 112 = .ok (.iinc 7 1, 3) := by decide +kernel
theorem dX12_takesOn_115 : decode cX12_takesOn 115 = .ok (.goto (-84), 3) := by decide +kernel
theorem dX12_takesOn_118 : decode cX12_takesOn 118 = .ok (.iload 6, 2) := by decide +kernel
theorem dX12_takesOn_120 : decode cX12_takesOn 120 = .ok (.ireturn, 1) := by decide +kernel
abbrev cX12_laySaying : ByteArray := prog_14_method_52_code
def yX12_laySaying : MethodName := ⟨"DayTonguesModel", "laySaying", "(IIZ)V"⟩
def mX12_laySaying : dt_MD := (yX12_laySaying, cX12_laySaying, 7, none)
theorem dX12_laySaying_0 : decode cX12_laySaying 0 = .ok (.aload_n 0, 1) := by decide +kernel
theorem dX12_laySaying_1 : decode cX12_laySaying 1 = .ok (.invokevirtual 234, 3) := by decide +kernel
theorem dX12_laySaying_4 : decode cX12_laySaying 4 = .ok (.iconst 0, 1) := by decide +kernel
theorem dX12_laySaying_5 : decode cX12_laySaying 5 = .ok (.istore 4, 2) := by decide +kernel
theorem dX12_laySaying_7 : decode cX12_laySaying 7 = .ok (.iload 4, 2) := by decide +kernel
theorem dX12_laySaying_9 : decode cX12_laySaying 9 = .ok (.aload_n 0, 1) := by decide +kernel
theorem dX12_laySaying_10 : decode cX12_laySaying 10 = .ok (.getfield 35, 3) := by decide +kernel
theorem dX12_laySaying_13 : decode cX12_laySaying 13 = .ok (.iconst 0, 1) := by decide +kernel
theorem dX12_laySaying_14 : decode cX12_laySaying 14 = .ok (.iaload, 1) := by decide +kernel
theorem dX12_laySaying_15 : decode cX12_laySaying 15 = .ok (.if_icmp .ge 79, 3) := by decide +kernel
theorem dX12_laySaying_18 : decode cX12_laySaying 18 = .ok (.iconst 0, 1) := by decide +kernel
theorem dX12_laySaying_19 : decode cX12_laySaying 19 = .ok (.istore 5, 2) := by decide +kernel
theorem dX12_laySaying_21 : decode cX12_laySaying 21 = .ok (.aload_n 0, 1) := by decide +kernel
theorem dX12_laySaying_22 : decode cX12_laySaying 22 = .ok (.iload_n 1, 1) := by decide +kernel
theorem dX12_laySaying_23 : decode cX12_laySaying 23 = .ok (.iload 5, 2) := by decide +kernel
theorem dX12_laySaying_25 : decode cX12_laySaying 25 = .ok (.iload_n 2, 1) := by decide +kernel
theorem dX12_laySaying_26 : decode cX12_laySaying 26 = .ok (.iload_n 3, 1) := by decide +kernel
theorem dX12_laySaying_27 : decode cX12_laySaying 27 = .ok (.aload_n 0, 1) := by decide +kernel
theorem dX12_laySaying_28 : decode cX12_laySaying 28 = .ok (.getfield 35, 3) := by decide +kernel
theorem dX12_laySaying_31 : decode cX12_laySaying 31 = .ok (.iconst 0, 1) := by decide +kernel
theorem dX12_laySaying_32 : decode cX12_laySaying 32 = .ok (.iaload, 1) := by decide +kernel
theorem dX12_laySaying_33 : decode cX12_laySaying 33 = .ok (.iload 4, 2) := by decide +kernel
theorem dX12_laySaying_35 : decode cX12_laySaying 35 = .ok (.isub, 1) := by decide +kernel
theorem dX12_laySaying_36 : decode cX12_laySaying 36 = .ok (.invokevirtual 259, 3) := by decide +kernel
theorem dX12_laySaying_39 : decode cX12_laySaying 39 = .ok (.ifCond .ne 9, 3) := by decide +kernel
theorem dX12_laySaying_42 : decode cX12_laySaying 42 = .ok (.iinc 5 1, 3) := by decide +kernel
theorem dX12_laySaying_45 : decode cX12_laySaying 45 = .ok (.goto (-24), 3) := by decide +kernel
theorem dX12_laySaying_48 : decode cX12_laySaying 48 = .ok (.aload_n 0, 1) := by decide +kernel
theorem dX12_laySaying_49 : decode cX12_laySaying 49 = .ok (.getfield 38, 3) := by decide +kernel
theorem dX12_laySaying_52 : decode cX12_laySaying 52 = .ok (.iload 4, 2) := by decide +kernel
theorem dX12_laySaying_54 : decode cX12_laySaying 54 = .ok (.iload 5, 2) := by decide +kernel
theorem dX12_laySaying_56 : decode cX12_laySaying 56 = .ok (.iastore, 1) := by decide +kernel
theorem dX12_laySaying_57 : decode cX12_laySaying 57 = .ok (.iconst 0, 1) := by decide +kernel
theorem dX12_laySaying_58 : decode cX12_laySaying 58 = .ok (.istore 6, 2) := by decide +kernel
theorem dX12_laySaying_60 : decode cX12_laySaying 60 = .ok (.iload 6, 2) := by decide +kernel
theorem dX12_laySaying_62 : decode cX12_laySaying 62 = .ok (.sipush 256, 3) := by decide +kernel
theorem dX12_laySaying_65 : decode cX12_laySaying 65 = .ok (.if_icmp .ge 23, 3) := by decide +kernel
theorem dX12_laySaying_68 : decode cX12_laySaying 68 = .ok (.aload_n 0, 1) := by decide +kernel
theorem dX12_laySaying_69 : decode cX12_laySaying 69 = .ok (.getfield 28, 3) := by decide +kernel
theorem dX12_laySaying_72 : decode cX12_laySaying 72 = .ok (.iload 6, 2) := by decide +kernel
theorem dX12_laySaying_74 : decode cX12_laySaying 74 = .ok (.aload_n 0, 1) := by decide +kernel
theorem dX12_laySaying_75 : decode cX12_laySaying 75 = .ok (.getfield 32, 3) := by decide +kernel
theorem dX12_laySaying_78 : decode cX12_laySaying 78 = .ok (.iload 6, 2) := by decide +kernel
theorem dX12_laySaying_80 : decode cX12_laySaying 80 = .ok (.baload, 1) := by decide +kernel
theorem dX12_laySaying_81 : decode cX12_laySaying 81 = .ok (.bastore, 1) := by decide +kernel
theorem dX12_laySaying_82 : decode cX12_laySaying 82 = .ok (.iinc 6 1, 3) := by decide +kernel
theorem dX12_laySaying_85 : decode cX12_laySaying 85 = .ok (.goto (-25), 3) := by decide +kernel
theorem dX12_laySaying_88 : decode cX12_laySaying 88 = .ok (.iinc 4 1, 3) := by decide +kernel
theorem dX12_laySaying_91 : decode cX12_laySaying 91 = .ok (.goto (-84), 3) := by decide +kernel
theorem dX12_laySaying_94 : decode cX12_laySaying 94 = .ok (.return_, 1) := by decide +kernel
abbrev cX12_shortest : ByteArray := prog_14_method_53_code
def yX12_shortest : MethodName := ⟨"DayTonguesModel", "shortest", "(IIII)I"⟩
def mX12_shortest : dt_MD := (yX12_shortest, cX12_shortest, 6, some .int)
theorem dX12_shortest_0 : decode cX12_shortest 0 = .ok (.aload_n 0, 1) := by decide +kernel
theorem dX12_shortest_1 : decode cX12_shortest 1 = .ok (.iconst 0, 1) := by decide +kernel
theorem dX12_shortest_2 : decode cX12_shortest 2 = .ok (.putfield 53, 3) := by decide +kernel
theorem dX12_shortest_5 : decode cX12_shortest 5 = .ok (.aload_n 0, 1) := by decide +kernel
theorem dX12_shortest_6 : decode cX12_shortest 6 = .ok (.getfield 179, 3) := by decide +kernel
theorem dX12_shortest_9 : decode cX12_shortest 9 = .ok (.ifCond .ne 6, 3) := by decide +kernel
theorem dX12_shortest_12 : decode cX12_shortest 12 = .ok (.ldc 204, 2) := by decide +kernel
theorem dX12_shortest_14 : decode cX12_shortest 14 = .ok (.ireturn, 1) := by decide +kernel
theorem dX12_shortest_15 : decode cX12_shortest 15 = .ok (.iload_n 1, 1) := by decide +kernel
theorem dX12_shortest_16 : decode cX12_shortest 16 = .ok (.invokestatic 223, 3) := by decide +kernel
theorem dX12_shortest_19 : decode cX12_shortest 19 = .ok (.ifCond .eq 31, 3) := by decide +kernel
theorem dX12_shortest_22 : decode cX12_shortest 22 = .ok (.iload_n 2, 1) := by decide +kernel
theorem dX12_shortest_23 : decode cX12_shortest 23 = .ok (.i2l, 1) := by decide +kernel
theorem dX12_shortest_24 : decode cX12_shortest 24 = .ok (.lconst 0, 1) := by decide +kernel
theorem dX12_shortest_25 : decode cX12_shortest 25 = .ok (.ldc2_w 84, 3) := by decide +kernel
theorem dX12_shortest_28 : decode cX12_shortest 28 = .ok (.invokestatic 63, 3) := by decide +kernel
theorem dX12_shortest_31 : decode cX12_shortest 31 = .ok (.ifCond .eq 19, 3) := by decide +kernel
theorem dX12_shortest_34 : decode cX12_shortest 34 = .ok (.iload_n 3, 1) := by decide +kernel
theorem dX12_shortest_35 : decode cX12_shortest 35 = .ok (.i2l, 1) := by decide +kernel
theorem dX12_shortest_36 : decode cX12_shortest 36 = .ok (.lconst 0, 1) := by decide +kernel
theorem dX12_shortest_37 : decode cX12_shortest 37 = .ok (.lconst 1, 1) := by decide +kernel
theorem dX12_shortest_38 : decode cX12_shortest 38 = .ok (.invokestatic 63, 3) := by decide +kernel
theorem dX12_shortest_41 : decode cX12_shortest 41 = .ok (.ifCond .eq 9, 3) := by decide +kernel
theorem dX12_shortest_44 : decode cX12_shortest 44 = .ok (.iload 4, 2) := by decide +kernel
theorem dX12_shortest_46 : decode cX12_shortest 46 = .ok (.iconst (-1), 1) := by decide +kernel
theorem dX12_shortest_47 : decode cX12_shortest 47 = .ok (.if_icmp .ge 6, 3) := by decide +kernel
theorem dX12_shortest_50 : decode cX12_shortest 50 = .ok (.ldc 73, 2) := by decide +kernel
theorem dX12_shortest_52 : decode cX12_shortest 52 = .ok (.ireturn, 1) := by decide +kernel
theorem dX12_shortest_53 : decode cX12_shortest 53 = .ok (.aload_n 0, 1) := by decide +kernel
theorem dX12_shortest_54 : decode cX12_shortest 54 = .ok (.iload_n 1, 1) := by decide +kernel
theorem dX12_shortest_55 : decode cX12_shortest 55 = .ok (.invokevirtual 231, 3) := by decide +kernel
theorem dX12_shortest_58 : decode cX12_shortest 58 = .ok (.istore 5, 2) := by decide +kernel
theorem dX12_shortest_60 : decode cX12_shortest 60 = .ok (.aload_n 0, 1) := by decide +kernel
theorem dX12_shortest_61 : decode cX12_shortest 61 = .ok (.iload 5, 2) := by decide +kernel
theorem dX12_shortest_63 : decode cX12_shortest 63 = .ok (.iload_n 2, 1) := by decide +kernel
theorem dX12_shortest_64 : decode cX12_shortest 64 = .ok (.iload_n 3, 1) := by decide +kernel
theorem dX12_shortest_65 : decode cX12_shortest 65 = .ok (.iconst 1, 1) := by decide +kernel
theorem dX12_shortest_66 : decode cX12_shortest 66 = .ok (.if_icmp .ne 7, 3) := by decide +kernel
theorem dX12_shortest_69 : decode cX12_shortest 69 = .ok (.iconst 1, 1) := by decide +kernel
theorem dX12_shortest_70 : decode cX12_shortest 70 = .ok (.goto 4, 3) := by decide +kernel
theorem dX12_shortest_73 : decode cX12_shortest 73 = .ok (.iconst 0, 1) := by decide +kernel
theorem dX12_shortest_74 : decode cX12_shortest 74 = .ok (.invokevirtual 263, 3) := by decide +kernel
theorem dX12_shortest_77 : decode cX12_shortest 77 = .ok (.aload_n 0, 1) := by decide +kernel
theorem dX12_shortest_78 : decode cX12_shortest 78 = .ok (.getfield 35, 3) := by decide +kernel
theorem dX12_shortest_81 : decode cX12_shortest 81 = .ok (.iconst 0, 1) := by decide +kernel
theorem dX12_shortest_82 : decode cX12_shortest 82 = .ok (.iaload, 1) := by decide +kernel
theorem dX12_shortest_83 : decode cX12_shortest 83 = .ok (.ifCond .ge 6, 3) := by decide +kernel
theorem dX12_shortest_86 : decode cX12_shortest 86 = .ok (.ldc 89, 2) := by decide +kernel
theorem dX12_shortest_88 : decode cX12_shortest 88 = .ok (.ireturn, 1) := by decide +kernel
theorem dX12_shortest_89 : decode cX12_shortest 89 = .ok (.iload 4, 2) := by decide +kernel
theorem dX12_shortest_91 : decode cX12_shortest 91 = .ok (.ifCond .lt 14, 3) := by decide +kernel
theorem dX12_shortest_94 : decode cX12_shortest 94 = .ok (.iload 4, 2) := by decide +kernel
theorem dX12_shortest_96 : decode cX12_shortest 96 = .ok (.aload_n 0, 1) := by decide +kernel
theorem dX12_shortest_97 : decode cX12_shortest 97 = .ok (.getfield 35, 3) := by decide +kernel
theorem dX12_shortest_100 : decode cX12_shortest 100 = .ok (.iconst 0, 1) := by decide +kernel
theorem dX12_shortest_101 : decode cX12_shortest 101 = .ok (.iaload, 1) := by decide +kernel
theorem dX12_shortest_102 : decode cX12_shortest 102 = .ok (.if_icmp .lt 20, 3) := by decide +kernel
theorem dX12_shortest_105 : decode cX12_shortest 105 = .ok (.iload 4, 2) := by decide +kernel
theorem dX12_shortest_107 : decode cX12_shortest 107 = .ok (.ifCond .ge 12, 3) := by decide +kernel
theorem dX12_shortest_110 : decode cX12_shortest 110 = .ok (.aload_n 0, 1) := by decide +kernel
theorem dX12_shortest_111 : decode cX12_shortest 111 = .ok (.getfield 35, 3) := by decide +kernel
theorem dX12_shortest_114 : decode cX12_shortest 114 = .ok (.iconst 0, 1) := by decide +kernel
theorem dX12_shortest_115 : decode cX12_shortest 115 = .ok (.iaload, 1) := by decide +kernel
theorem dX12_shortest_116 : decode cX12_shortest 116 = .ok (.goto 5, 3) := by decide +kernel
theorem dX12_shortest_119 : decode cX12_shortest 119 = .ok (.ldc 89, 2) := by decide +kernel
theorem dX12_shortest_121 : decode cX12_shortest 121 = .ok (.ireturn, 1) := by decide +kernel
theorem dX12_shortest_122 : decode cX12_shortest 122 = .ok (.aload_n 0, 1) := by decide +kernel
theorem dX12_shortest_123 : decode cX12_shortest 123 = .ok (.iload 5, 2) := by decide +kernel
theorem dX12_shortest_125 : decode cX12_shortest 125 = .ok (.iload_n 2, 1) := by decide +kernel
theorem dX12_shortest_126 : decode cX12_shortest 126 = .ok (.iload_n 3, 1) := by decide +kernel
theorem dX12_shortest_127 : decode cX12_shortest 127 = .ok (.iconst 1, 1) := by decide +kernel
theorem dX12_shortest_128 : decode cX12_shortest 128 = .ok (.if_icmp .ne 7, 3) := by decide +kernel
theorem dX12_shortest_131 : decode cX12_shortest 131 = .ok (.iconst 1, 1) := by decide +kernel
theorem dX12_shortest_132 : decode cX12_shortest 132 = .ok (.goto 4, 3) := by decide +kernel
theorem dX12_shortest_135 : decode cX12_shortest 135 = .ok (.iconst 0, 1) := by decide +kernel
theorem dX12_shortest_136 : decode cX12_shortest 136 = .ok (.invokevirtual 267, 3) := by decide +kernel
theorem dX12_shortest_139 : decode cX12_shortest 139 = .ok (.aload_n 0, 1) := by decide +kernel
theorem dX12_shortest_140 : decode cX12_shortest 140 = .ok (.getfield 38, 3) := by decide +kernel
theorem dX12_shortest_143 : decode cX12_shortest 143 = .ok (.iload 4, 2) := by decide +kernel
theorem dX12_shortest_145 : decode cX12_shortest 145 = .ok (.iaload, 1) := by decide +kernel
theorem dX12_shortest_146 : decode cX12_shortest 146 = .ok (.ireturn, 1) := by decide +kernel
abbrev cX12_said : ByteArray := prog_14_method_54_code
def yX12_said : MethodName := ⟨"DayTonguesModel", "said", "(IZ)I"⟩
def mX12_said : dt_MD := (yX12_said, cX12_said, 9, some .int)
theorem dX12_said_0 : decode cX12_said 0 = .ok (.iconst 0, 1) := by decide +kernel
theorem dX12_said_1 : decode cX12_said 1 = .ok (.istore_n 3, 1) := by decide +kernel
theorem dX12_said_2 : decode cX12_said 2 = .ok (.iload_n 2, 1) := by decide +kernel
theorem dX12_said_3 : decode cX12_said 3 = .ok (.ifCond .eq 90, 3) := by decide +kernel
theorem dX12_said_6 : decode cX12_said 6 = .ok (.iconst 0, 1) := by decide +kernel
theorem dX12_said_7 : decode cX12_said 7 = .ok (.istore 4, 2) := by decide +kernel
theorem dX12_said_9 : decode cX12_said 9 = .ok (.iload 4, 2) := by decide +kernel
theorem dX12_said_11 : decode cX12_said 11 = .ok (.sipush 256, 3) := by decide +kernel
theorem dX12_said_14 : decode cX12_said 14 = .ok (.if_icmp .ge 77, 3) := by decide +kernel
theorem dX12_said_17 : decode cX12_said 17 = .ok (.iconst 0, 1) := by decide +kernel
theorem dX12_said_18 : decode cX12_said 18 = .ok (.istore 5, 2) := by decide +kernel
theorem dX12_said_20 : decode cX12_said 20 = .ok (.iconst 0, 1) := by decide +kernel
theorem dX12_said_21 : decode cX12_said 21 = .ok (.istore 6, 2) := by decide +kernel
theorem dX12_said_23 : decode cX12_said 23 = .ok (.iload 6, 2) := by decide +kernel
theorem dX12_said_25 : decode cX12_said 25 = .ok (.aload_n 0, 1) := by decide +kernel
theorem dX12_said_26 : decode cX12_said 26 = .ok (.getfield 19, 3) := by decide +kernel
theorem dX12_said_29 : decode cX12_said 29 = .ok (.iconst 3, 1) := by decide +kernel
theorem dX12_said_30 : decode cX12_said 30 = .ok (.iload_n 1, 1) := by decide +kernel
theorem dX12_said_31 : decode cX12_said 31 = .ok (.iadd, 1) := by decide +kernel
theorem dX12_said_32 : decode cX12_said 32 = .ok (.iaload, 1) := by decide +kernel
theorem dX12_said_33 : decode cX12_said 33 = .ok (.if_icmp .ge 37, 3) := by decide +kernel
theorem dX12_said_36 : decode cX12_said 36 = .ok (.iload 5, 2) := by decide +kernel
theorem dX12_said_38 : decode cX12_said 38 = .ok (.aload_n 0, 1) := by decide +kernel
theorem dX12_said_39 : decode cX12_said 39 = .ok (.iload_n 1, 1) := by decide +kernel
theorem dX12_said_40 : decode cX12_said 40 = .ok (.iload 6, 2) := by decide +kernel
theorem dX12_said_42 : decode cX12_said 42 = .ok (.iload 4, 2) := by decide +kernel
theorem dX12_said_44 : decode cX12_said 44 = .ok (.invokevirtual 245, 3) := by decide +kernel
theorem dX12_said_47 : decode cX12_said 47 = .ok (.ifCond .eq 13, 3) := by decide +kernel
theorem dX12_said_50 : decode cX12_said 50 = .ok (.aload_n 0, 1) := by decide +kernel
theorem dX12_said_51 : decode cX12_said 51 = .ok (.iload_n 1, 1) := by decide +kernel
theorem dX12_said_52 : decode cX12_said 52 = .ok (.iload 6, 2) := by decide +kernel
theorem dX12_said_54 : decode cX12_said 54 = .ok (.invokevirtual 249, 3) := by decide +kernel
theorem dX12_said_57 : decode cX12_said 57 = .ok (.goto 4, 3) := by decide +kernel
theorem dX12_said_60 : decode cX12_said 60 = .ok (.iconst 0, 1) := by decide +kernel
theorem dX12_said_61 : decode cX12_said 61 = .ok (.ior, 1) := by decide +kernel
theorem dX12_said_62 : decode cX12_said 62 = .ok (.istore 5, 2) := by decide +kernel
theorem dX12_said_64 : decode cX12_said 64 = .ok (.iinc 6 1, 3) := by decide +kernel
theorem dX12_said_67 : decode cX12_said 67 = .ok (.goto (-44), 3) := by decide +kernel
theorem dX12_said_70 : decode cX12_said 70 = .ok (.iload_n 3, 1) := by decide +kernel
theorem dX12_said_71 : decode cX12_said 71 = .ok (.iload 5, 2) := by decide +kernel
theorem dX12_said_73 : decode cX12_said 73 = .ok (.iload 4, 2) := by decide +kernel
theorem dX12_said_75 : decode cX12_said 75 = .ok (.if_icmp .ne 7, 3) := by decide +kernel
theorem dX12_said_78 : decode cX12_said 78 = .ok (.iconst 1, 1) := by decide +kernel
theorem dX12_said_79 : decode cX12_said 79 = .ok (.goto 4, 3) := by decide +kernel
theorem dX12_said_82 : decode cX12_said 82 = .ok (.iconst 0, 1) := by decide +kernel
theorem dX12_said_83 : decode cX12_said 83 = .ok (.iadd, 1) := by decide +kernel
theorem dX12_said_84 : decode cX12_said 84 = .ok (.istore_n 3, 1) := by decide +kernel
theorem dX12_said_85 : decode cX12_said 85 = .ok (.iinc 4 1, 3) := by decide +kernel
theorem dX12_said_88 : decode cX12_said 88 = .ok (.goto (-79), 3) := by decide +kernel
theorem dX12_said_91 : decode cX12_said 91 = .ok (.iload_n 3, 1) := by decide +kernel
theorem dX12_said_92 : decode cX12_said 92 = .ok (.ireturn, 1) := by decide +kernel
theorem dX12_said_93 : decode cX12_said 93 = .ok (.aload_n 0, 1) := by decide +kernel
theorem dX12_said_94 : decode cX12_said 94 = .ok (.invokevirtual 234, 3) := by decide +kernel
theorem dX12_said_97 : decode cX12_said 97 = .ok (.iconst 1, 1) := by decide +kernel
theorem dX12_said_98 : decode cX12_said 98 = .ok (.istore 4, 2) := by decide +kernel
theorem dX12_said_100 : decode cX12_said 100 = .ok (.iload 4, 2) := by decide +kernel
theorem dX12_said_102 : decode cX12_said 102 = .ok (.ifCond .eq 123, 3) := by decide +kernel
theorem dX12_said_105 : decode cX12_said 105 = .ok (.iconst 0, 1) := by decide +kernel
theorem dX12_said_106 : decode cX12_said 106 = .ok (.istore 4, 2) := by decide +kernel
theorem dX12_said_108 : decode cX12_said 108 = .ok (.iconst 0, 1) := by decide +kernel
theorem dX12_said_109 : decode cX12_said 109 = .ok (.istore 5, 2) := by decide +kernel
theorem dX12_said_111 : decode cX12_said 111 = .ok (.iload 5, 2) := by decide +kernel
theorem dX12_said_113 : decode cX12_said 113 = .ok (.sipush 256, 3) := by decide +kernel
theorem dX12_said_116 : decode cX12_said 116 = .ok (.if_icmp .ge 106, 3) := by decide +kernel
theorem dX12_said_119 : decode cX12_said 119 = .ok (.iconst 0, 1) := by decide +kernel
theorem dX12_said_120 : decode cX12_said 120 = .ok (.istore 6, 2) := by decide +kernel
theorem dX12_said_122 : decode cX12_said 122 = .ok (.iload 6, 2) := by decide +kernel
theorem dX12_said_124 : decode cX12_said 124 = .ok (.aload_n 0, 1) := by decide +kernel
theorem dX12_said_125 : decode cX12_said 125 = .ok (.getfield 19, 3) := by decide +kernel
theorem dX12_said_128 : decode cX12_said 128 = .ok (.iconst 3, 1) := by decide +kernel
theorem dX12_said_129 : decode cX12_said 129 = .ok (.iload_n 1, 1) := by decide +kernel
theorem dX12_said_130 : decode cX12_said 130 = .ok (.iadd, 1) := by decide +kernel
theorem dX12_said_131 : decode cX12_said 131 = .ok (.iaload, 1) := by decide +kernel
theorem dX12_said_132 : decode cX12_said 132 = .ok (.if_icmp .ge 84, 3) := by decide +kernel
theorem dX12_said_135 : decode cX12_said 135 = .ok (.aload_n 0, 1) := by decide +kernel
theorem dX12_said_136 : decode cX12_said 136 = .ok (.getfield 28, 3) := by decide +kernel
theorem dX12_said_139 : decode cX12_said 139 = .ok (.iload 5, 2) := by decide +kernel
theorem dX12_said_141 : decode cX12_said 141 = .ok (.baload, 1) := by decide +kernel
theorem dX12_said_142 : decode cX12_said 142 = .ok (.ifCond .eq 74, 3) := by decide +kernel
theorem dX12_said_145 : decode cX12_said 145 = .ok (.iconst 0, 1) := by decide +kernel
theorem dX12_said_146 : decode cX12_said 146 = .ok (.istore 7, 2) := by decide +kernel
theorem dX12_said_148 : decode cX12_said 148 = .ok (.iload 7, 2) := by decide +kernel
theorem dX12_said_150 : decode cX12_said 150 = .ok (.aload_n 0, 1) := by decide +kernel
theorem dX12_said_151 : decode cX12_said 151 = .ok (.iload_n 1, 1) := by decide +kernel
theorem dX12_said_152 : decode cX12_said 152 = .ok (.iload 6, 2) := by decide +kernel
theorem dX12_said_154 : decode cX12_said 154 = .ok (.invokevirtual 197, 3) := by decide +kernel
theorem dX12_said_157 : decode cX12_said 157 = .ok (.if_icmp .ge 53, 3) := by decide +kernel
theorem dX12_said_160 : decode cX12_said 160 = .ok (.iload 5, 2) := by decide +kernel
theorem dX12_said_162 : decode cX12_said 162 = .ok (.aload_n 0, 1) := by decide +kernel
theorem dX12_said_163 : decode cX12_said 163 = .ok (.iload_n 1, 1) := by decide +kernel
theorem dX12_said_164 : decode cX12_said 164 = .ok (.iload 6, 2) := by decide +kernel
theorem dX12_said_166 : decode cX12_said 166 = .ok (.iload 7, 2) := by decide +kernel
theorem dX12_said_168 : decode cX12_said 168 = .ok (.invokevirtual 200, 3) := by decide +kernel
theorem dX12_said_171 : decode cX12_said 171 = .ok (.ior, 1) := by decide +kernel
theorem dX12_said_172 : decode cX12_said 172 = .ok (.istore 8, 2) := by decide +kernel
theorem dX12_said_174 : decode cX12_said 174 = .ok (.iload 4, 2) := by decide +kernel
theorem dX12_said_176 : decode cX12_said 176 = .ok (.ifCond .ne 13, 3) := by decide +kernel
theorem dX12_said_179 : decode cX12_said 179 = .ok (.aload_n 0, 1) := by decide +kernel
theorem dX12_said_180 : decode cX12_said 180 = .ok (.getfield 28, 3) := by decide +kernel
theorem dX12_said_183 : decode cX12_said 183 = .ok (.iload 8, 2) := by decide +kernel
theorem dX12_said_185 : decode cX12_said 185 = .ok (.baload, 1) := by decide +kernel
theorem dX12_said_186 : decode cX12_said 186 = .ok (.ifCond .ne 7, 3) := by decide +kernel
theorem dX12_said_189 : decode cX12_said 189 = .ok (.iconst 1, 1) := by decide +kernel
theorem dX12_said_190 : decode cX12_said 190 = .ok (.goto 4, 3) := by decide +kernel
theorem dX12_said_193 : decode cX12_said 193 = .ok (.iconst 0, 1) := by decide +kernel
theorem dX12_said_194 : decode cX12_said 194 = .ok (.istore 4, 2) := by decide +kernel
theorem dX12_said_196 : decode cX12_said 196 = .ok (.aload_n 0, 1) := by decide +kernel
theorem dX12_said_197 : decode cX12_said 197 = .ok (.getfield 28, 3) := by decide +kernel
theorem dX12_said_200 : decode cX12_said 200 = .ok (.iload 8, 2) := by decide +kernel
theorem dX12_said_202 : decode cX12_said 202 = .ok (.iconst 1, 1) := by decide +kernel
theorem dX12_said_203 : decode cX12_said 203 = .ok (.bastore, 1) := by decide +kernel
theorem dX12_said_204 : decode cX12_said 204 = .ok (.iinc 7 1, 3) := by decide +kernel
theorem dX12_said_207 : decode cX12_said 207 = .ok (.goto (-59), 3) := by decide +kernel
theorem dX12_said_210 : decode cX12_said 210 = .ok (.iinc 6 1, 3) := by decide +kernel
theorem dX12_said_213 : decode cX12_said 213 = .ok (.goto (-91), 3) := by decide +kernel
theorem dX12_said_216 : decode cX12_said 216 = .ok (.iinc 5 1, 3) := by decide +kernel
theorem dX12_said_219 : decode cX12_said 219 = .ok (.goto (-108), 3) := by decide +kernel
theorem dX12_said_222 : decode cX12_said 222 = .ok (.goto (-122), 3) := by decide +kernel
theorem dX12_said_225 : decode cX12_said 225 = .ok (.aload_n 0, 1) := by decide +kernel
theorem dX12_said_226 : decode cX12_said 226 = .ok (.aload_n 0, 1) := by decide +kernel
theorem dX12_said_227 : decode cX12_said 227 = .ok (.getfield 28, 3) := by decide +kernel
theorem dX12_said_230 : decode cX12_said 230 = .ok (.iconst (-1), 1) := by decide +kernel
theorem dX12_said_231 : decode cX12_said 231 = .ok (.invokevirtual 241, 3) := by decide +kernel
theorem dX12_said_234 : decode cX12_said 234 = .ok (.ireturn, 1) := by decide +kernel
abbrev cX12_sayable : ByteArray := prog_14_method_55_code
def yX12_sayable : MethodName := ⟨"DayTonguesModel", "sayable", "(II)I"⟩
def mX12_sayable : dt_MD := (yX12_sayable, cX12_sayable, 3, some .int)
theorem dX12_sayable_0 : decode cX12_sayable 0 = .ok (.aload_n 0, 1) := by decide +kernel
theorem dX12_sayable_1 : decode cX12_sayable 1 = .ok (.iconst 0, 1) := by decide +kernel
theorem dX12_sayable_2 : decode cX12_sayable 2 = .ok (.putfield 53, 3) := by decide +kernel
theorem dX12_sayable_5 : decode cX12_sayable 5 = .ok (.aload_n 0, 1) := by decide +kernel
theorem dX12_sayable_6 : decode cX12_sayable 6 = .ok (.getfield 179, 3) := by decide +kernel
theorem dX12_sayable_9 : decode cX12_sayable 9 = .ok (.ifCond .ne 6, 3) := by decide +kernel
theorem dX12_sayable_12 : decode cX12_sayable 12 = .ok (.ldc 204, 2) := by decide +kernel
theorem dX12_sayable_14 : decode cX12_sayable 14 = .ok (.ireturn, 1) := by decide +kernel
theorem dX12_sayable_15 : decode cX12_sayable 15 = .ok (.iload_n 1, 1) := by decide +kernel
theorem dX12_sayable_16 : decode cX12_sayable 16 = .ok (.invokestatic 223, 3) := by decide +kernel
theorem dX12_sayable_19 : decode cX12_sayable 19 = .ok (.ifCond .eq 35, 3) := by decide +kernel
theorem dX12_sayable_22 : decode cX12_sayable 22 = .ok (.iload_n 2, 1) := by decide +kernel
theorem dX12_sayable_23 : decode cX12_sayable 23 = .ok (.i2l, 1) := by decide +kernel
theorem dX12_sayable_24 : decode cX12_sayable 24 = .ok (.lconst 0, 1) := by decide +kernel
theorem dX12_sayable_25 : decode cX12_sayable 25 = .ok (.lconst 1, 1) := by decide +kernel
theorem dX12_sayable_26 : decode cX12_sayable 26 = .ok (.invokestatic 63, 3) := by decide +kernel
theorem dX12_sayable_29 : decode cX12_sayable 29 = .ok (.ifCond .eq 25, 3) := by decide +kernel
theorem dX12_sayable_32 : decode cX12_sayable 32 = .ok (.aload_n 0, 1) := by decide +kernel
theorem dX12_sayable_33 : decode cX12_sayable 33 = .ok (.aload_n 0, 1) := by decide +kernel
theorem dX12_sayable_34 : decode cX12_sayable 34 = .ok (.iload_n 1, 1) := by decide +kernel
theorem dX12_sayable_35 : decode cX12_sayable 35 = .ok (.invokevirtual 231, 3) := by decide +kernel
theorem dX12_sayable_38 : decode cX12_sayable 38 = .ok (.iload_n 2, 1) := by decide +kernel
theorem dX12_sayable_39 : decode cX12_sayable 39 = .ok (.iconst 1, 1) := by decide +kernel
theorem dX12_sayable_40 : decode cX12_sayable 40 = .ok (.if_icmp .ne 7, 3) := by decide +kernel
theorem dX12_sayable_43 : decode cX12_sayable 43 = .ok (.iconst 1, 1) := by decide +kernel
theorem dX12_sayable_44 : decode cX12_sayable 44 = .ok (.goto 4, 3) := by decide +kernel
theorem dX12_sayable_47 : decode cX12_sayable 47 = .ok (.iconst 0, 1) := by decide +kernel
theorem dX12_sayable_48 : decode cX12_sayable 48 = .ok (.invokevirtual 270, 3) := by decide +kernel
theorem dX12_sayable_51 : decode cX12_sayable 51 = .ok (.goto 5, 3) := by decide +kernel
theorem dX12_sayable_54 : decode cX12_sayable 54 = .ok (.ldc 73, 2) := by decide +kernel
theorem dX12_sayable_56 : decode cX12_sayable 56 = .ok (.ireturn, 1) := by decide +kernel
abbrev cX12_nextItem : ByteArray := prog_14_method_56_code
def yX12_nextItem : MethodName := ⟨"DayTonguesModel", "nextItem", "(I)I"⟩
def mX12_nextItem : dt_MD := (yX12_nextItem, cX12_nextItem, 2, some .int)
theorem dX12_nextItem_0 : decode cX12_nextItem 0 = .ok (.aload_n 0, 1) := by decide +kernel
theorem dX12_nextItem_1 : decode cX12_nextItem 1 = .ok (.getfield 274, 3) := by decide +kernel
theorem dX12_nextItem_4 : decode cX12_nextItem 4 = .ok (.ifCond .eq 5, 3) := by decide +kernel
theorem dX12_nextItem_7 : decode cX12_nextItem 7 = .ok (.iconst 0, 1) := by decide +kernel
theorem dX12_nextItem_8 : decode cX12_nextItem 8 = .ok (.ireturn, 1) := by decide +kernel
theorem dX12_nextItem_9 : decode cX12_nextItem 9 = .ok (.aload_n 0, 1) := by decide +kernel
theorem dX12_nextItem_10 : decode cX12_nextItem 10 = .ok (.getfield 277, 3) := by decide +kernel
theorem dX12_nextItem_13 : decode cX12_nextItem 13 = .ok (.aload_n 0, 1) := by decide +kernel
theorem dX12_nextItem_14 : decode cX12_nextItem 14 = .ok (.getfield 13, 3) := by decide +kernel
theorem dX12_nextItem_17 : decode cX12_nextItem 17 = .ok (.iload_n 1, 1) := by decide +kernel
theorem dX12_nextItem_18 : decode cX12_nextItem 18 = .ok (.iaload, 1) := by decide +kernel
theorem dX12_nextItem_19 : decode cX12_nextItem 19 = .ok (.if_icmp .ne 14, 3) := by decide +kernel
theorem dX12_nextItem_22 : decode cX12_nextItem 22 = .ok (.aload_n 0, 1) := by decide +kernel
theorem dX12_nextItem_23 : decode cX12_nextItem 23 = .ok (.aload_n 0, 1) := by decide +kernel
theorem dX12_nextItem_24 : decode cX12_nextItem 24 = .ok (.iconst 2, 1) := by decide +kernel
theorem dX12_nextItem_25 : decode cX12_nextItem 25 = .ok (.invokevirtual 74, 3) := by decide +kernel
theorem dX12_nextItem_28 : decode cX12_nextItem 28 = .ok (.putfield 274, 3) := by decide +kernel
theorem dX12_nextItem_31 : decode cX12_nextItem 31 = .ok (.iconst 0, 1) := by decide +kernel
theorem dX12_nextItem_32 : decode cX12_nextItem 32 = .ok (.ireturn, 1) := by decide +kernel
theorem dX12_nextItem_33 : decode cX12_nextItem 33 = .ok (.aload_n 0, 1) := by decide +kernel
theorem dX12_nextItem_34 : decode cX12_nextItem 34 = .ok (.dup, 1) := by decide +kernel
theorem dX12_nextItem_35 : decode cX12_nextItem 35 = .ok (.getfield 277, 3) := by decide +kernel
theorem dX12_nextItem_38 : decode cX12_nextItem 38 = .ok (.iconst 1, 1) := by decide +kernel
theorem dX12_nextItem_39 : decode cX12_nextItem 39 = .ok (.iadd, 1) := by decide +kernel
theorem dX12_nextItem_40 : decode cX12_nextItem 40 = .ok (.putfield 277, 3) := by decide +kernel
theorem dX12_nextItem_43 : decode cX12_nextItem 43 = .ok (.aload_n 0, 1) := by decide +kernel
theorem dX12_nextItem_44 : decode cX12_nextItem 44 = .ok (.getfield 16, 3) := by decide +kernel
theorem dX12_nextItem_47 : decode cX12_nextItem 47 = .ok (.bipush 40, 2) := by decide +kernel
theorem dX12_nextItem_49 : decode cX12_nextItem 49 = .ok (.iload_n 1, 1) := by decide +kernel
theorem dX12_nextItem_50 : decode cX12_nextItem 50 = .ok (.imul, 1) := by decide +kernel
theorem dX12_nextItem_51 : decode cX12_nextItem 51 = .ok (.aload_n 0, 1) := by decide +kernel
theorem dX12_nextItem_52 : decode cX12_nextItem 52 = .ok (.getfield 277, 3) := by decide +kernel
theorem dX12_nextItem_55 : decode cX12_nextItem 55 = .ok (.iadd, 1) := by decide +kernel
theorem dX12_nextItem_56 : decode cX12_nextItem 56 = .ok (.iconst 1, 1) := by decide +kernel
theorem dX12_nextItem_57 : decode cX12_nextItem 57 = .ok (.isub, 1) := by decide +kernel
theorem dX12_nextItem_58 : decode cX12_nextItem 58 = .ok (.iaload, 1) := by decide +kernel
theorem dX12_nextItem_59 : decode cX12_nextItem 59 = .ok (.ireturn, 1) := by decide +kernel
abbrev cX12_bars : ByteArray := prog_14_method_57_code
def yX12_bars : MethodName := ⟨"DayTonguesModel", "bars", "(Z)V"⟩
def mX12_bars : dt_MD := (yX12_bars, cX12_bars, 2, none)
theorem dX12_bars_0 : decode cX12_bars 0 = .ok (.aload_n 0, 1) := by decide +kernel
theorem dX12_bars_1 : decode cX12_bars 1 = .ok (.aload_n 0, 1) := by decide +kernel
theorem dX12_bars_2 : decode cX12_bars 2 = .ok (.getfield 274, 3) := by decide +kernel
theorem dX12_bars_5 : decode cX12_bars 5 = .ok (.ifCond .ne 12, 3) := by decide +kernel
theorem dX12_bars_8 : decode cX12_bars 8 = .ok (.iload_n 1, 1) := by decide +kernel
theorem dX12_bars_9 : decode cX12_bars 9 = .ok (.ifCond .eq 8, 3) := by decide +kernel
theorem dX12_bars_12 : decode cX12_bars 12 = .ok (.ldc 73, 2) := by decide +kernel
theorem dX12_bars_14 : decode cX12_bars 14 = .ok (.goto 7, 3) := by decide +kernel
theorem dX12_bars_17 : decode cX12_bars 17 = .ok (.aload_n 0, 1) := by decide +kernel
theorem dX12_bars_18 : decode cX12_bars 18 = .ok (.getfield 274, 3) := by decide +kernel
theorem dX12_bars_21 : decode cX12_bars 21 = .ok (.putfield 274, 3) := by decide +kernel
theorem dX12_bars_24 : decode cX12_bars 24 = .ok (.return_, 1) := by decide +kernel
abbrev cX12_oneSaying : ByteArray := prog_14_method_58_code
def yX12_oneSaying : MethodName := ⟨"DayTonguesModel", "oneSaying", "(I)V"⟩
def mX12_oneSaying : dt_MD := (yX12_oneSaying, cX12_oneSaying, 7, none)
theorem dX12_oneSaying_0 : decode cX12_oneSaying 0 = .ok (.aload_n 0, 1) := by decide +kernel
theorem dX12_oneSaying_1 : decode cX12_oneSaying 1 = .ok (.iload_n 1, 1) := by decide +kernel
theorem dX12_oneSaying_2 : decode cX12_oneSaying 2 = .ok (.invokevirtual 280, 3) := by decide +kernel
theorem dX12_oneSaying_5 : decode cX12_oneSaying 5 = .ok (.istore_n 2, 1) := by decide +kernel
theorem dX12_oneSaying_6 : decode cX12_oneSaying 6 = .ok (.aload_n 0, 1) := by decide +kernel
theorem dX12_oneSaying_7 : decode cX12_oneSaying 7 = .ok (.iload_n 2, 1) := by decide +kernel
theorem dX12_oneSaying_8 : decode cX12_oneSaying 8 = .ok (.ifCond .ge 7, 3) := by decide +kernel
theorem dX12_oneSaying_11 : decode cX12_oneSaying 11 = .ok (.iconst 1, 1) := by decide +kernel
theorem dX12_oneSaying_12 : decode cX12_oneSaying 12 = .ok (.goto 4, 3) := by decide +kernel
theorem dX12_oneSaying_15 : decode cX12_oneSaying 15 = .ok (.iconst 0, 1) := by decide +kernel
theorem dX12_oneSaying_16 : decode cX12_oneSaying 16 = .ok (.invokevirtual 283, 3) := by decide +kernel
theorem dX12_oneSaying_19 : decode cX12_oneSaying 19 = .ok (.aload_n 0, 1) := by decide +kernel
theorem dX12_oneSaying_20 : decode cX12_oneSaying 20 = .ok (.iload_n 1, 1) := by decide +kernel
theorem dX12_oneSaying_21 : decode cX12_oneSaying 21 = .ok (.invokevirtual 280, 3) := by decide +kernel
theorem dX12_oneSaying_24 : decode cX12_oneSaying 24 = .ok (.istore_n 3, 1) := by decide +kernel
theorem dX12_oneSaying_25 : decode cX12_oneSaying 25 = .ok (.aload_n 0, 1) := by decide +kernel
theorem dX12_oneSaying_26 : decode cX12_oneSaying 26 = .ok (.iload_n 3, 1) := by decide +kernel
theorem dX12_oneSaying_27 : decode cX12_oneSaying 27 = .ok (.i2l, 1) := by decide +kernel
theorem dX12_oneSaying_28 : decode cX12_oneSaying 28 = .ok (.lconst 0, 1) := by decide +kernel
theorem dX12_oneSaying_29 : decode cX12_oneSaying 29 = .ok (.ldc2_w 226, 3) := by decide +kernel
theorem dX12_oneSaying_32 : decode cX12_oneSaying 32 = .ok (.invokestatic 63, 3) := by decide +kernel
theorem dX12_oneSaying_35 : decode cX12_oneSaying 35 = .ok (.ifCond .ne 7, 3) := by decide +kernel
theorem dX12_oneSaying_38 : decode cX12_oneSaying 38 = .ok (.iconst 1, 1) := by decide +kernel
theorem dX12_oneSaying_39 : decode cX12_oneSaying 39 = .ok (.goto 4, 3) := by decide +kernel
theorem dX12_oneSaying_42 : decode cX12_oneSaying 42 = .ok (.iconst 0, 1) := by decide +kernel
theorem dX12_oneSaying_43 : decode cX12_oneSaying 43 = .ok (.invokevirtual 283, 3) := by decide +kernel
theorem dX12_oneSaying_46 : decode cX12_oneSaying 46 = .ok (.aload_n 0, 1) := by decide +kernel
theorem dX12_oneSaying_47 : decode cX12_oneSaying 47 = .ok (.getfield 274, 3) := by decide +kernel
theorem dX12_oneSaying_50 : decode cX12_oneSaying 50 = .ok (.ifCond .ne 11, 3) := by decide +kernel
theorem dX12_oneSaying_53 : decode cX12_oneSaying 53 = .ok (.aload_n 0, 1) := by decide +kernel
theorem dX12_oneSaying_54 : decode cX12_oneSaying 54 = .ok (.iload_n 2, 1) := by decide +kernel
theorem dX12_oneSaying_55 : decode cX12_oneSaying 55 = .ok (.invokevirtual 231, 3) := by decide +kernel
theorem dX12_oneSaying_58 : decode cX12_oneSaying 58 = .ok (.goto 4, 3) := by decide +kernel
theorem dX12_oneSaying_61 : decode cX12_oneSaying 61 = .ok (.iconst 0, 1) := by decide +kernel
theorem dX12_oneSaying_62 : decode cX12_oneSaying 62 = .ok (.istore 4, 2) := by decide +kernel
theorem dX12_oneSaying_64 : decode cX12_oneSaying 64 = .ok (.aload_n 0, 1) := by decide +kernel
theorem dX12_oneSaying_65 : decode cX12_oneSaying 65 = .ok (.invokevirtual 234, 3) := by decide +kernel
theorem dX12_oneSaying_68 : decode cX12_oneSaying 68 = .ok (.iconst 0, 1) := by decide +kernel
theorem dX12_oneSaying_69 : decode cX12_oneSaying 69 = .ok (.istore 5, 2) := by decide +kernel
theorem dX12_oneSaying_71 : decode cX12_oneSaying 71 = .ok (.iload 5, 2) := by decide +kernel
theorem dX12_oneSaying_73 : decode cX12_oneSaying 73 = .ok (.iload_n 3, 1) := by decide +kernel
theorem dX12_oneSaying_74 : decode cX12_oneSaying 74 = .ok (.if_icmp .ge 58, 3) := by decide +kernel
theorem dX12_oneSaying_77 : decode cX12_oneSaying 77 = .ok (.aload_n 0, 1) := by decide +kernel
theorem dX12_oneSaying_78 : decode cX12_oneSaying 78 = .ok (.getfield 274, 3) := by decide +kernel
theorem dX12_oneSaying_81 : decode cX12_oneSaying 81 = .ok (.ifCond .ne 51, 3) := by decide +kernel
theorem dX12_oneSaying_84 : decode cX12_oneSaying 84 = .ok (.aload_n 0, 1) := by decide +kernel
theorem dX12_oneSaying_85 : decode cX12_oneSaying 85 = .ok (.iload_n 1, 1) := by decide +kernel
theorem dX12_oneSaying_86 : decode cX12_oneSaying 86 = .ok (.invokevirtual 280, 3) := by decide +kernel
theorem dX12_oneSaying_89 : decode cX12_oneSaying 89 = .ok (.istore 6, 2) := by decide +kernel
theorem dX12_oneSaying_91 : decode cX12_oneSaying 91 = .ok (.aload_n 0, 1) := by decide +kernel
theorem dX12_oneSaying_92 : decode cX12_oneSaying 92 = .ok (.aload_n 0, 1) := by decide +kernel
theorem dX12_oneSaying_93 : decode cX12_oneSaying 93 = .ok (.iload 4, 2) := by decide +kernel
theorem dX12_oneSaying_95 : decode cX12_oneSaying 95 = .ok (.iload 6, 2) := by decide +kernel
theorem dX12_oneSaying_97 : decode cX12_oneSaying 97 = .ok (.invokevirtual 212, 3) := by decide +kernel
theorem dX12_oneSaying_100 : decode cX12_oneSaying 100 = .ok (.ifCond .ne 7, 3) := by decide +kernel
theorem dX12_oneSaying_103 : decode cX12_oneSaying 103 = .ok (.iconst 1, 1) := by decide +kernel
theorem dX12_oneSaying_104 : decode cX12_oneSaying 104 = .ok (.goto 4, 3) := by decide +kernel
theorem dX12_oneSaying_107 : decode cX12_oneSaying 107 = .ok (.iconst 0, 1) := by decide +kernel
theorem dX12_oneSaying_108 : decode cX12_oneSaying 108 = .ok (.invokevirtual 283, 3) := by decide +kernel
theorem dX12_oneSaying_111 : decode cX12_oneSaying 111 = .ok (.aload_n 0, 1) := by decide +kernel
theorem dX12_oneSaying_112 : decode cX12_oneSaying 112 = .ok (.getfield 274, 3) := by decide +kernel
theorem dX12_oneSaying_115 : decode cX12_oneSaying 115 = .ok (.ifCond .ne 11, 3) := by decide +kernel
theorem dX12_oneSaying_118 : decode cX12_oneSaying 118 = .ok (.aload_n 0, 1) := by decide +kernel
theorem dX12_oneSaying_119 : decode cX12_oneSaying 119 = .ok (.iload 4, 2) := by decide +kernel
theorem dX12_oneSaying_121 : decode cX12_oneSaying 121 = .ok (.iload 6, 2) := by decide +kernel
theorem dX12_oneSaying_123 : decode cX12_oneSaying 123 = .ok (.invokevirtual 237, 3) := by decide +kernel
theorem dX12_oneSaying_126 : decode cX12_oneSaying 126 = .ok (.iinc 5 1, 3) := by decide +kernel
theorem dX12_oneSaying_129 : decode cX12_oneSaying 129 = .ok (.goto (-58), 3) := by decide +kernel
theorem dX12_oneSaying_132 : decode cX12_oneSaying 132 = .ok (.iconst 0, 1) := by decide +kernel
theorem dX12_oneSaying_133 : decode cX12_oneSaying 133 = .ok (.istore 5, 2) := by decide +kernel
theorem dX12_oneSaying_135 : decode cX12_oneSaying 135 = .ok (.iload 5, 2) := by decide +kernel
theorem dX12_oneSaying_137 : decode cX12_oneSaying 137 = .ok (.sipush 256, 3) := by decide +kernel
theorem dX12_oneSaying_140 : decode cX12_oneSaying 140 = .ok (.if_icmp .ge 41, 3) := by decide +kernel
theorem dX12_oneSaying_143 : decode cX12_oneSaying 143 = .ok (.aload_n 0, 1) := by decide +kernel
theorem dX12_oneSaying_144 : decode cX12_oneSaying 144 = .ok (.getfield 41, 3) := by decide +kernel
theorem dX12_oneSaying_147 : decode cX12_oneSaying 147 = .ok (.iload 5, 2) := by decide +kernel
theorem dX12_oneSaying_149 : decode cX12_oneSaying 149 = .ok (.aload_n 0, 1) := by decide +kernel
theorem dX12_oneSaying_150 : decode cX12_oneSaying 150 = .ok (.getfield 41, 3) := by decide +kernel
theorem dX12_oneSaying_153 : decode cX12_oneSaying 153 = .ok (.iload 5, 2) := by decide +kernel
theorem dX12_oneSaying_155 : decode cX12_oneSaying 155 = .ok (.baload, 1) := by decide +kernel
theorem dX12_oneSaying_156 : decode cX12_oneSaying 156 = .ok (.ifCond .eq 17, 3) := by decide +kernel
theorem dX12_oneSaying_159 : decode cX12_oneSaying 159 = .ok (.aload_n 0, 1) := by decide +kernel
theorem dX12_oneSaying_160 : decode cX12_oneSaying 160 = .ok (.getfield 28, 3) := by decide +kernel
theorem dX12_oneSaying_163 : decode cX12_oneSaying 163 = .ok (.iload 5, 2) := by decide +kernel
theorem dX12_oneSaying_165 : decode cX12_oneSaying 165 = .ok (.baload, 1) := by decide +kernel
theorem dX12_oneSaying_166 : decode cX12_oneSaying 166 = .ok (.ifCond .eq 7, 3) := by decide +kernel
theorem dX12_oneSaying_169 : decode cX12_oneSaying 169 = .ok (.iconst 1, 1) := by decide +kernel
theorem dX12_oneSaying_170 : decode cX12_oneSaying 170 = .ok (.goto 4, 3) := by decide +kernel
theorem dX12_oneSaying_173 : decode cX12_oneSaying 173 = .ok (.iconst 0, 1) := by decide +kernel
theorem dX12_oneSaying_174 : decode cX12_oneSaying 174 = .ok (.bastore, 1) := by decide +kernel
theorem dX12_oneSaying_175 : decode cX12_oneSaying 175 = .ok (.iinc 5 1, 3) := by decide +kernel
theorem dX12_oneSaying_178 : decode cX12_oneSaying 178 = .ok (.goto (-43), 3) := by decide +kernel
theorem dX12_oneSaying_181 : decode cX12_oneSaying 181 = .ok (.return_, 1) := by decide +kernel
abbrev cX12_bargain : ByteArray := prog_14_method_59_code
def yX12_bargain : MethodName := ⟨"DayTonguesModel", "bargain", "(III)I"⟩
def mX12_bargain : dt_MD := (yX12_bargain, cX12_bargain, 5, some .int)
theorem dX12_bargain_0 : decode cX12_bargain 0 = .ok (.aload_n 0, 1) := by decide +kernel
theorem dX12_bargain_1 : decode cX12_bargain 1 = .ok (.iconst 0, 1) := by decide +kernel
theorem dX12_bargain_2 : decode cX12_bargain 2 = .ok (.putfield 53, 3) := by decide +kernel
theorem dX12_bargain_5 : decode cX12_bargain 5 = .ok (.aload_n 0, 1) := by decide +kernel
theorem dX12_bargain_6 : decode cX12_bargain 6 = .ok (.getfield 179, 3) := by decide +kernel
theorem dX12_bargain_9 : decode cX12_bargain 9 = .ok (.ifCond .ne 6, 3) := by decide +kernel
theorem dX12_bargain_12 : decode cX12_bargain 12 = .ok (.ldc 204, 2) := by decide +kernel
theorem dX12_bargain_14 : decode cX12_bargain 14 = .ok (.ireturn, 1) := by decide +kernel
theorem dX12_bargain_15 : decode cX12_bargain 15 = .ok (.iload_n 1, 1) := by decide +kernel
theorem dX12_bargain_16 : decode cX12_bargain 16 = .ok (.invokestatic 67, 3) := by decide +kernel
theorem dX12_bargain_19 : decode cX12_bargain 19 = .ok (.ifCond .eq 20, 3) := by decide +kernel
theorem dX12_bargain_22 : decode cX12_bargain 22 = .ok (.iload_n 2, 1) := by decide +kernel
theorem dX12_bargain_23 : decode cX12_bargain 23 = .ok (.i2l, 1) := by decide +kernel
theorem dX12_bargain_24 : decode cX12_bargain 24 = .ok (.lconst 1, 1) := by decide +kernel
theorem dX12_bargain_25 : decode cX12_bargain 25 = .ok (.ldc2_w 286, 3) := by decide +kernel
theorem dX12_bargain_28 : decode cX12_bargain 28 = .ok (.invokestatic 63, 3) := by decide +kernel
theorem dX12_bargain_31 : decode cX12_bargain 31 = .ok (.ifCond .eq 8, 3) := by decide +kernel
theorem dX12_bargain_34 : decode cX12_bargain 34 = .ok (.iload_n 3, 1) := by decide +kernel
theorem dX12_bargain_35 : decode cX12_bargain 35 = .ok (.iconst (-1), 1) := by decide +kernel
theorem dX12_bargain_36 : decode cX12_bargain 36 = .ok (.if_icmp .ge 6, 3) := by decide +kernel
theorem dX12_bargain_39 : decode cX12_bargain 39 = .ok (.ldc 73, 2) := by decide +kernel
theorem dX12_bargain_41 : decode cX12_bargain 41 = .ok (.ireturn, 1) := by decide +kernel
theorem dX12_bargain_42 : decode cX12_bargain 42 = .ok (.aload_n 0, 1) := by decide +kernel
theorem dX12_bargain_43 : decode cX12_bargain 43 = .ok (.getfield 7, 3) := by decide +kernel
theorem dX12_bargain_46 : decode cX12_bargain 46 = .ok (.iload_n 1, 1) := by decide +kernel
theorem dX12_bargain_47 : decode cX12_bargain 47 = .ok (.iaload, 1) := by decide +kernel
theorem dX12_bargain_48 : decode cX12_bargain 48 = .ok (.ifCond .ge 9, 3) := by decide +kernel
theorem dX12_bargain_51 : decode cX12_bargain 51 = .ok (.aload_n 0, 1) := by decide +kernel
theorem dX12_bargain_52 : decode cX12_bargain 52 = .ok (.iconst 1, 1) := by decide +kernel
theorem dX12_bargain_53 : decode cX12_bargain 53 = .ok (.invokevirtual 74, 3) := by decide +kernel
theorem dX12_bargain_56 : decode cX12_bargain 56 = .ok (.ireturn, 1) := by decide +kernel
theorem dX12_bargain_57 : decode cX12_bargain 57 = .ok (.iconst 0, 1) := by decide +kernel
theorem dX12_bargain_58 : decode cX12_bargain 58 = .ok (.istore 4, 2) := by decide +kernel
theorem dX12_bargain_60 : decode cX12_bargain 60 = .ok (.iload 4, 2) := by decide +kernel
theorem dX12_bargain_62 : decode cX12_bargain 62 = .ok (.sipush 256, 3) := by decide +kernel
theorem dX12_bargain_65 : decode cX12_bargain 65 = .ok (.if_icmp .ge 17, 3) := by decide +kernel
theorem dX12_bargain_68 : decode cX12_bargain 68 = .ok (.aload_n 0, 1) := by decide +kernel
theorem dX12_bargain_69 : decode cX12_bargain 69 = .ok (.getfield 41, 3) := by decide +kernel
theorem dX12_bargain_72 : decode cX12_bargain 72 = .ok (.iload 4, 2) := by decide +kernel
theorem dX12_bargain_74 : decode cX12_bargain 74 = .ok (.iconst 1, 1) := by decide +kernel
theorem dX12_bargain_75 : decode cX12_bargain 75 = .ok (.bastore, 1) := by decide +kernel
theorem dX12_bargain_76 : decode cX12_bargain 76 = .ok (.iinc 4 1, 3) := by decide +kernel
theorem dX12_bargain_79 : decode cX12_bargain 79 = .ok (.goto (-19), 3) := by decide +kernel
theorem dX12_bargain_82 : decode cX12_bargain 82 = .ok (.aload_n 0, 1) := by decide +kernel
theorem dX12_bargain_83 : decode cX12_bargain 83 = .ok (.iconst 0, 1) := by decide +kernel
theorem dX12_bargain_84 : decode cX12_bargain 84 = .ok (.putfield 277, 3) := by decide +kernel
theorem dX12_bargain_87 : decode cX12_bargain 87 = .ok (.aload_n 0, 1) := by decide +kernel
theorem dX12_bargain_88 : decode cX12_bargain 88 = .ok (.iconst 0, 1) := by decide +kernel
theorem dX12_bargain_89 : decode cX12_bargain 89 = .ok (.putfield 274, 3) := by decide +kernel
theorem dX12_bargain_92 : decode cX12_bargain 92 = .ok (.iconst 0, 1) := by decide +kernel
theorem dX12_bargain_93 : decode cX12_bargain 93 = .ok (.istore 4, 2) := by decide +kernel
theorem dX12_bargain_95 : decode cX12_bargain 95 = .ok (.iload 4, 2) := by decide +kernel
theorem dX12_bargain_97 : decode cX12_bargain 97 = .ok (.iload_n 2, 1) := by decide +kernel
theorem dX12_bargain_98 : decode cX12_bargain 98 = .ok (.if_icmp .ge 21, 3) := by decide +kernel
theorem dX12_bargain_101 : decode cX12_bargain 101 = .ok (.aload_n 0, 1) := by decide +kernel
theorem dX12_bargain_102 : decode cX12_bargain 102 = .ok (.getfield 274, 3) := by decide +kernel
theorem dX12_bargain_105 : decode cX12_bargain 105 = .ok (.ifCond .ne 14, 3) := by decide +kernel
theorem dX12_bargain_108 : decode cX12_bargain 108 = .ok (.aload_n 0, 1) := by decide +kernel
theorem dX12_bargain_109 : decode cX12_bargain 109 = .ok (.iload_n 1, 1) := by decide +kernel
theorem dX12_bargain_110 : decode cX12_bargain 110 = .ok (.invokevirtual 288, 3) := by decide +kernel
theorem dX12_bargain_113 : decode cX12_bargain 113 = .ok (.iinc 4 1, 3) := by decide +kernel
theorem dX12_bargain_116 : decode cX12_bargain 116 = .ok (.goto (-21), 3) := by decide +kernel
theorem dX12_bargain_119 : decode cX12_bargain 119 = .ok (.aload_n 0, 1) := by decide +kernel
theorem dX12_bargain_120 : decode cX12_bargain 120 = .ok (.getfield 274, 3) := by decide +kernel
theorem dX12_bargain_123 : decode cX12_bargain 123 = .ok (.ifCond .eq 8, 3) := by decide +kernel
theorem dX12_bargain_126 : decode cX12_bargain 126 = .ok (.aload_n 0, 1) := by decide +kernel
theorem dX12_bargain_127 : decode cX12_bargain 127 = .ok (.getfield 274, 3) := by decide +kernel
theorem dX12_bargain_130 : decode cX12_bargain 130 = .ok (.ireturn, 1) := by decide +kernel
theorem dX12_bargain_131 : decode cX12_bargain 131 = .ok (.aload_n 0, 1) := by decide +kernel
theorem dX12_bargain_132 : decode cX12_bargain 132 = .ok (.iconst 0, 1) := by decide +kernel
theorem dX12_bargain_133 : decode cX12_bargain 133 = .ok (.putfield 57, 3) := by decide +kernel
theorem dX12_bargain_136 : decode cX12_bargain 136 = .ok (.aload_n 0, 1) := by decide +kernel
theorem dX12_bargain_137 : decode cX12_bargain 137 = .ok (.aload_n 0, 1) := by decide +kernel
theorem dX12_bargain_138 : decode cX12_bargain 138 = .ok (.getfield 41, 3) := by decide +kernel
theorem dX12_bargain_141 : decode cX12_bargain 141 = .ok (.iload_n 3, 1) := by decide +kernel
theorem dX12_bargain_142 : decode cX12_bargain 142 = .ok (.invokevirtual 241, 3) := by decide +kernel
theorem dX12_bargain_145 : decode cX12_bargain 145 = .ok (.ireturn, 1) := by decide +kernel
abbrev cX12_between : ByteArray := prog_14_method_60_code
def yX12_between : MethodName := ⟨"DayTonguesModel", "between", "(III)I"⟩
def mX12_between : dt_MD := (yX12_between, cX12_between, 10, some .int)
theorem dX12_between_0 : decode cX12_between 0 = .ok (.aload_n 0, 1) := by decide +kernel
theorem dX12_between_1 : decode cX12_between 1 = .ok (.getfield 19, 3) := by decide +kernel
theorem dX12_between_4 : decode cX12_between 4 = .ok (.bipush 10, 2) := by decide +kernel
theorem dX12_between_6 : decode cX12_between 6 = .ok (.iload_n 2, 1) := by decide +kernel
theorem dX12_between_7 : decode cX12_between 7 = .ok (.iadd, 1) := by decide +kernel
theorem dX12_between_8 : decode cX12_between 8 = .ok (.iaload, 1) := by decide +kernel
theorem dX12_between_9 : decode cX12_between 9 = .ok (.istore 4, 2) := by decide +kernel
theorem dX12_between_11 : decode cX12_between 11 = .ok (.iload 4, 2) := by decide +kernel
theorem dX12_between_13 : decode cX12_between 13 = .ok (.iload_n 1, 1) := by decide +kernel
theorem dX12_between_14 : decode cX12_between 14 = .ok (.ishr, 1) := by decide +kernel
theorem dX12_between_15 : decode cX12_between 15 = .ok (.iconst 1, 1) := by decide +kernel
theorem dX12_between_16 : decode cX12_between 16 = .ok (.iand, 1) := by decide +kernel
theorem dX12_between_17 : decode cX12_between 17 = .ok (.iconst 1, 1) := by decide +kernel
theorem dX12_between_18 : decode cX12_between 18 = .ok (.if_icmp .ne 5, 3) := by decide +kernel
theorem dX12_between_21 : decode cX12_between 21 = .ok (.iconst 0, 1) := by decide +kernel
theorem dX12_between_22 : decode cX12_between 22 = .ok (.ireturn, 1) := by decide +kernel
theorem dX12_between_23 : decode cX12_between 23 = .ok (.iconst 1, 1) := by decide +kernel
theorem dX12_between_24 : decode cX12_between 24 = .ok (.iload_n 1, 1) := by decide +kernel
theorem dX12_between_25 : decode cX12_between 25 = .ok (.ishl, 1) := by decide +kernel
theorem dX12_between_26 : decode cX12_between 26 = .ok (.istore 5, 2) := by decide +kernel
theorem dX12_between_28 : decode cX12_between 28 = .ok (.iconst 1, 1) := by decide +kernel
theorem dX12_between_29 : decode cX12_between 29 = .ok (.istore 6, 2) := by decide +kernel
theorem dX12_between_31 : decode cX12_between 31 = .ok (.iload 6, 2) := by decide +kernel
theorem dX12_between_33 : decode cX12_between 33 = .ok (.bipush 8, 2) := by decide +kernel
theorem dX12_between_35 : decode cX12_between 35 = .ok (.if_icmp .gt 111, 3) := by decide +kernel
theorem dX12_between_38 : decode cX12_between 38 = .ok (.iload 5, 2) := by decide +kernel
theorem dX12_between_40 : decode cX12_between 40 = .ok (.istore 7, 2) := by decide +kernel
theorem dX12_between_42 : decode cX12_between 42 = .ok (.iconst 0, 1) := by decide +kernel
theorem dX12_between_43 : decode cX12_between 43 = .ok (.istore 8, 2) := by decide +kernel
theorem dX12_between_45 : decode cX12_between 45 = .ok (.iload 8, 2) := by decide +kernel
theorem dX12_between_47 : decode cX12_between 47 = .ok (.aload_n 0, 1) := by decide +kernel
theorem dX12_between_48 : decode cX12_between 48 = .ok (.getfield 19, 3) := by decide +kernel
theorem dX12_between_51 : decode cX12_between 51 = .ok (.iconst 1, 1) := by decide +kernel
theorem dX12_between_52 : decode cX12_between 52 = .ok (.iaload, 1) := by decide +kernel
theorem dX12_between_53 : decode cX12_between 53 = .ok (.if_icmp .ge 72, 3) := by decide +kernel
theorem dX12_between_56 : decode cX12_between 56 = .ok (.iload 8, 2) := by decide +kernel
theorem dX12_between_58 : decode cX12_between 58 = .ok (.iload_n 2, 1) := by decide +kernel
theorem dX12_between_59 : decode cX12_between 59 = .ok (.if_icmp .eq 33, 3) := by decide +kernel
theorem dX12_between_62 : decode cX12_between 62 = .ok (.iload_n 3, 1) := by decide +kernel
theorem dX12_between_63 : decode cX12_between 63 = .ok (.iload 8, 2) := by decide +kernel
theorem dX12_between_65 : decode cX12_between 65 = .ok (.ishr, 1) := by decide +kernel
theorem dX12_between_66 : decode cX12_between 66 = .ok (.iconst 1, 1) := by decide +kernel
theorem dX12_between_67 : decode cX12_between 67 = .ok (.iand, 1) := by decide +kernel
theorem dX12_between_68 : decode cX12_between 68 = .ok (.iconst 1, 1) := by decide +kernel
theorem dX12_between_69 : decode cX12_between 69 = .ok (.if_icmp .ne 23, 3) := by decide +kernel
theorem dX12_between_72 : decode cX12_between 72 = .ok (.aload_n 0, 1) := by decide +kernel
theorem dX12_between_73 : decode cX12_between 73 = .ok (.getfield 19, 3) := by decide +kernel
theorem dX12_between_76 : decode cX12_between 76 = .ok (.bipush 10, 2) := by decide +kernel
theorem dX12_between_78 : decode cX12_between 78 = .ok (.iload 8, 2) := by decide +kernel
theorem dX12_between_80 : decode cX12_between 80 = .ok (.iadd, 1) := by decide +kernel
theorem dX12_between_81 : decode cX12_between 81 = .ok (.iaload, 1) := by decide +kernel
theorem dX12_between_82 : decode cX12_between 82 = .ok (.iload 5, 2) := by decide +kernel
theorem dX12_between_84 : decode cX12_between 84 = .ok (.iand, 1) := by decide +kernel
theorem dX12_between_85 : decode cX12_between 85 = .ok (.ifCond .eq 7, 3) := by decide +kernel
theorem dX12_between_88 : decode cX12_between 88 = .ok (.iconst 1, 1) := by decide +kernel
theorem dX12_between_89 : decode cX12_between 89 = .ok (.goto 4, 3) := by decide +kernel
theorem dX12_between_92 : decode cX12_between 92 = .ok (.iconst 0, 1) := by decide +kernel
theorem dX12_between_93 : decode cX12_between 93 = .ok (.istore 9, 2) := by decide +kernel
theorem dX12_between_95 : decode cX12_between 95 = .ok (.iload 7, 2) := by decide +kernel
theorem dX12_between_97 : decode cX12_between 97 = .ok (.iload 9, 2) := by decide +kernel
theorem dX12_between_99 : decode cX12_between 99 = .ok (.ifCond .eq 16, 3) := by decide +kernel
theorem dX12_between_102 : decode cX12_between 102 = .ok (.aload_n 0, 1) := by decide +kernel
theorem dX12_between_103 : decode cX12_between 103 = .ok (.getfield 19, 3) := by decide +kernel
theorem dX12_between_106 : decode cX12_between 106 = .ok (.bipush 10, 2) := by decide +kernel
theorem dX12_between_108 : decode cX12_between 108 = .ok (.iload 8, 2) := by decide +kernel
theorem dX12_between_110 : decode cX12_between 110 = .ok (.iadd, 1) := by decide +kernel
theorem dX12_between_111 : decode cX12_between 111 = .ok (.iaload, 1) := by decide +kernel
theorem dX12_between_112 : decode cX12_between 112 = .ok (.goto 4, 3) := by decide +kernel
theorem dX12_between_115 : decode cX12_between 115 = .ok (.iconst 0, 1) := by decide +kernel
theorem dX12_between_116 : decode cX12_between 116 = .ok (.ior, 1) := by decide +kernel
theorem dX12_between_117 : decode cX12_between 117 = .ok (.istore 7, 2) := by decide +kernel
theorem dX12_between_119 : decode cX12_between 119 = .ok (.iinc 8 1, 3) := by decide +kernel
theorem dX12_between_122 : decode cX12_between 122 = .ok (.goto (-77), 3) := by decide +kernel
theorem dX12_between_125 : decode cX12_between 125 = .ok (.iload 7, 2) := by decide +kernel
theorem dX12_between_127 : decode cX12_between 127 = .ok (.istore 5, 2) := by decide +kernel
theorem dX12_between_129 : decode cX12_between 129 = .ok (.iload 5, 2) := by decide +kernel
theorem dX12_between_131 : decode cX12_between 131 = .ok (.iload 4, 2) := by decide +kernel
theorem dX12_between_133 : decode cX12_between 133 = .ok (.iand, 1) := by decide +kernel
theorem dX12_between_134 : decode cX12_between 134 = .ok (.ifCond .eq 6, 3) := by decide +kernel
theorem dX12_between_137 : decode cX12_between 137 = .ok (.iload 6, 2) := by decide +kernel
theorem dX12_between_139 : decode cX12_between 139 = .ok (.ireturn, 1) := by decide +kernel
theorem dX12_between_140 : decode cX12_between 140 = .ok (.iinc 6 1, 3) := by decide +kernel
theorem dX12_between_143 : decode cX12_between 143 = .ok (.goto (-112), 3) := by decide +kernel
theorem dX12_between_146 : decode cX12_between 146 = .ok (.ldc 89, 2) := by decide +kernel
theorem dX12_between_148 : decode cX12_between 148 = .ok (.ireturn, 1) := by decide +kernel
abbrev cX12_understands : ByteArray := prog_14_method_61_code
def yX12_understands : MethodName := ⟨"DayTonguesModel", "understands", "(III)I"⟩
def mX12_understands : dt_MD := (yX12_understands, cX12_understands, 4, some .int)
theorem dX12_understands_0 : decode cX12_understands 0 = .ok (.aload_n 0, 1) := by decide +kernel
theorem dX12_understands_1 : decode cX12_understands 1 = .ok (.iconst 0, 1) := by decide +kernel
theorem dX12_understands_2 : decode cX12_understands 2 = .ok (.putfield 53, 3) := by decide +kernel
theorem dX12_understands_5 : decode cX12_understands 5 = .ok (.iload_n 1, 1) := by decide +kernel
theorem dX12_understands_6 : decode cX12_understands 6 = .ok (.invokestatic 223, 3) := by decide +kernel
theorem dX12_understands_9 : decode cX12_understands 9 = .ok (.ifCond .eq 37, 3) := by decide +kernel
theorem dX12_understands_12 : decode cX12_understands 12 = .ok (.aload_n 0, 1) := by decide +kernel
theorem dX12_understands_13 : decode cX12_understands 13 = .ok (.iload_n 2, 1) := by decide +kernel
theorem dX12_understands_14 : decode cX12_understands 14 = .ok (.invokevirtual 218, 3) := by decide +kernel
theorem dX12_understands_17 : decode cX12_understands 17 = .ok (.ifCond .eq 29, 3) := by decide +kernel
theorem dX12_understands_20 : decode cX12_understands 20 = .ok (.iload_n 3, 1) := by decide +kernel
theorem dX12_understands_21 : decode cX12_understands 21 = .ok (.i2l, 1) := by decide +kernel
theorem dX12_understands_22 : decode cX12_understands 22 = .ok (.lconst 0, 1) := by decide +kernel
theorem dX12_understands_23 : decode cX12_understands 23 = .ok (.ldc2_w 84, 3) := by decide +kernel
theorem dX12_understands_26 : decode cX12_understands 26 = .ok (.invokestatic 63, 3) := by decide +kernel
theorem dX12_understands_29 : decode cX12_understands 29 = .ok (.ifCond .eq 17, 3) := by decide +kernel
theorem dX12_understands_32 : decode cX12_understands 32 = .ok (.aload_n 0, 1) := by decide +kernel
theorem dX12_understands_33 : decode cX12_understands 33 = .ok (.aload_n 0, 1) := by decide +kernel
theorem dX12_understands_34 : decode cX12_understands 34 = .ok (.iload_n 1, 1) := by decide +kernel
theorem dX12_understands_35 : decode cX12_understands 35 = .ok (.invokevirtual 231, 3) := by decide +kernel
theorem dX12_understands_38 : decode cX12_understands 38 = .ok (.iload_n 2, 1) := by decide +kernel
theorem dX12_understands_39 : decode cX12_understands 39 = .ok (.iload_n 3, 1) := by decide +kernel
theorem dX12_understands_40 : decode cX12_understands 40 = .ok (.invokevirtual 291, 3) := by decide +kernel
theorem dX12_understands_43 : decode cX12_understands 43 = .ok (.goto 5, 3) := by decide +kernel
theorem dX12_understands_46 : decode cX12_understands 46 = .ok (.ldc 73, 2) := by decide +kernel
theorem dX12_understands_48 : decode cX12_understands 48 = .ok (.ireturn, 1) := by decide +kernel
abbrev cX12_bits : ByteArray := prog_14_method_62_code
def yX12_bits : MethodName := ⟨"DayTonguesModel", "bits", "(I)I"⟩
def mX12_bits : dt_MD := (yX12_bits, cX12_bits, 3, some .int)
theorem dX12_bits_0 : decode cX12_bits 0 = .ok (.iconst 0, 1) := by decide +kernel
theorem dX12_bits_1 : decode cX12_bits 1 = .ok (.istore_n 1, 1) := by decide +kernel
theorem dX12_bits_2 : decode cX12_bits 2 = .ok (.iconst 0, 1) := by decide +kernel
theorem dX12_bits_3 : decode cX12_bits 3 = .ok (.istore_n 2, 1) := by decide +kernel
theorem dX12_bits_4 : decode cX12_bits 4 = .ok (.iload_n 2, 1) := by decide +kernel
theorem dX12_bits_5 : decode cX12_bits 5 = .ok (.bipush 8, 2) := by decide +kernel
theorem dX12_bits_7 : decode cX12_bits 7 = .ok (.if_icmp .ge 17, 3) := by decide +kernel
theorem dX12_bits_10 : decode cX12_bits 10 = .ok (.iload_n 1, 1) := by decide +kernel
theorem dX12_bits_11 : decode cX12_bits 11 = .ok (.iload_n 0, 1) := by decide +kernel
theorem dX12_bits_12 : decode cX12_bits 12 = .ok (.iload_n 2, 1) := by decide +kernel
theorem dX12_bits_13 : decode cX12_bits 13 = .ok (.ishr, 1) := by decide +kernel
theorem dX12_bits_14 : decode cX12_bits 14 = .ok (.iconst 1, 1) := by decide +kernel
theorem dX12_bits_15 : decode cX12_bits 15 = .ok (.iand, 1) := by decide +kernel
theorem dX12_bits_16 : decode cX12_bits 16 = .ok (.iadd, 1) := by decide +kernel
theorem dX12_bits_17 : decode cX12_bits 17 = .ok (.istore_n 1, 1) := by decide +kernel
theorem dX12_bits_18 : decode cX12_bits 18 = .ok (.iinc 2 1, 3) := by decide +kernel
theorem dX12_bits_21 : decode cX12_bits 21 = .ok (.goto (-17), 3) := by decide +kernel
theorem dX12_bits_24 : decode cX12_bits 24 = .ok (.iload_n 1, 1) := by decide +kernel
theorem dX12_bits_25 : decode cX12_bits 25 = .ok (.ireturn, 1) := by decide +kernel
abbrev cX12_isEnough : ByteArray := prog_14_method_63_code
def yX12_isEnough : MethodName := ⟨"DayTonguesModel", "isEnough", "(I)Z"⟩
def mX12_isEnough : dt_MD := (yX12_isEnough, cX12_isEnough, 5, some .boolean)
theorem dX12_isEnough_0 : decode cX12_isEnough 0 = .ok (.iconst 1, 1) := by decide +kernel
theorem dX12_isEnough_1 : decode cX12_isEnough 1 = .ok (.istore_n 2, 1) := by decide +kernel
theorem dX12_isEnough_2 : decode cX12_isEnough 2 = .ok (.iconst 0, 1) := by decide +kernel
theorem dX12_isEnough_3 : decode cX12_isEnough 3 = .ok (.istore_n 3, 1) := by decide +kernel
theorem dX12_isEnough_4 : decode cX12_isEnough 4 = .ok (.iload_n 3, 1) := by decide +kernel
theorem dX12_isEnough_5 : decode cX12_isEnough 5 = .ok (.aload_n 0, 1) := by decide +kernel
theorem dX12_isEnough_6 : decode cX12_isEnough 6 = .ok (.getfield 19, 3) := by decide +kernel
theorem dX12_isEnough_9 : decode cX12_isEnough 9 = .ok (.iconst 1, 1) := by decide +kernel
theorem dX12_isEnough_10 : decode cX12_isEnough 10 = .ok (.iaload, 1) := by decide +kernel
theorem dX12_isEnough_11 : decode cX12_isEnough 11 = .ok (.if_icmp .ge 52, 3) := by decide +kernel
theorem dX12_isEnough_14 : decode cX12_isEnough 14 = .ok (.iconst 0, 1) := by decide +kernel
theorem dX12_isEnough_15 : decode cX12_isEnough 15 = .ok (.istore 4, 2) := by decide +kernel
theorem dX12_isEnough_17 : decode cX12_isEnough 17 = .ok (.iload 4, 2) := by decide +kernel
theorem dX12_isEnough_19 : decode cX12_isEnough 19 = .ok (.aload_n 0, 1) := by decide +kernel
theorem dX12_isEnough_20 : decode cX12_isEnough 20 = .ok (.getfield 19, 3) := by decide +kernel
theorem dX12_isEnough_23 : decode cX12_isEnough 23 = .ok (.iconst 0, 1) := by decide +kernel
theorem dX12_isEnough_24 : decode cX12_isEnough 24 = .ok (.iaload, 1) := by decide +kernel
theorem dX12_isEnough_25 : decode cX12_isEnough 25 = .ok (.if_icmp .ge 32, 3) := by decide +kernel
theorem dX12_isEnough_28 : decode cX12_isEnough 28 = .ok (.iload_n 2, 1) := by decide +kernel
theorem dX12_isEnough_29 : decode cX12_isEnough 29 = .ok (.ifCond .eq 20, 3) := by decide +kernel
theorem dX12_isEnough_32 : decode cX12_isEnough 32 = .ok (.aload_n 0, 1) := by decide +kernel
theorem dX12_isEnough_33 : decode cX12_isEnough 33 = .ok (.iload 4, 2) := by decide +kernel
theorem dX12_isEnough_35 : decode cX12_isEnough 35 = .ok (.iload_n 3, 1) := by decide +kernel
theorem dX12_isEnough_36 : decode cX12_isEnough 36 = .ok (.iload_n 1, 1) := by decide +kernel
theorem dX12_isEnough_37 : decode cX12_isEnough 37 = .ok (.invokevirtual 291, 3) := by decide +kernel
theorem dX12_isEnough_40 : decode cX12_isEnough 40 = .ok (.ldc 89, 2) := by decide +kernel
theorem dX12_isEnough_42 : decode cX12_isEnough 42 = .ok (.if_icmp .eq 7, 3) := by decide +kernel
theorem dX12_isEnough_45 : decode cX12_isEnough 45 = .ok (.iconst 1, 1) := by decide +kernel
theorem dX12_isEnough_46 : decode cX12_isEnough 46 = .ok (.goto 4, 3) := by decide +kernel
theorem dX12_isEnough_49 : decode cX12_isEnough 49 = .ok (.iconst 0, 1) := by decide +kernel
theorem dX12_isEnough_50 : decode cX12_isEnough 50 = .ok (.istore_n 2, 1) := by decide +kernel
theorem dX12_isEnough_51 : decode cX12_isEnough 51 = .ok (.iinc 4 1, 3) := by decide +kernel
theorem dX12_isEnough_54 : decode cX12_isEnough 54 = .ok (.goto (-37), 3) := by decide +kernel
theorem dX12_isEnough_57 : decode cX12_isEnough 57 = .ok (.iinc 3 1, 3) := by decide +kernel
theorem dX12_isEnough_60 : decode cX12_isEnough 60 = .ok (.goto (-56), 3) := by decide +kernel
theorem dX12_isEnough_63 : decode cX12_isEnough 63 = .ok (.iload_n 2, 1) := by decide +kernel
theorem dX12_isEnough_64 : decode cX12_isEnough 64 = .ok (.ireturn, 1) := by decide +kernel
abbrev cX12_week : ByteArray := prog_14_method_64_code
def yX12_week : MethodName := ⟨"DayTonguesModel", "week", "(I)I"⟩
def mX12_week : dt_MD := (yX12_week, cX12_week, 4, some .int)
theorem dX12_week_0 : decode cX12_week 0 = .ok (.aload_n 0, 1) := by decide +kernel
theorem dX12_week_1 : decode cX12_week 1 = .ok (.iconst 0, 1) := by decide +kernel
theorem dX12_week_2 : decode cX12_week 2 = .ok (.putfield 53, 3) := by decide +kernel
theorem dX12_week_5 : decode cX12_week 5 = .ok (.aload_n 0, 1) := by decide +kernel
theorem dX12_week_6 : decode cX12_week 6 = .ok (.getfield 179, 3) := by decide +kernel
theorem dX12_week_9 : decode cX12_week 9 = .ok (.ifCond .ne 6, 3) := by decide +kernel
theorem dX12_week_12 : decode cX12_week 12 = .ok (.ldc 204, 2) := by decide +kernel
theorem dX12_week_14 : decode cX12_week 14 = .ok (.ireturn, 1) := by decide +kernel
theorem dX12_week_15 : decode cX12_week 15 = .ok (.iload_n 1, 1) := by decide +kernel
theorem dX12_week_16 : decode cX12_week 16 = .ok (.i2l, 1) := by decide +kernel
theorem dX12_week_17 : decode cX12_week 17 = .ok (.lconst 0, 1) := by decide +kernel
theorem dX12_week_18 : decode cX12_week 18 = .ok (.lconst 1, 1) := by decide +kernel
theorem dX12_week_19 : decode cX12_week 19 = .ok (.invokestatic 63, 3) := by decide +kernel
theorem dX12_week_22 : decode cX12_week 22 = .ok (.ifCond .ne 6, 3) := by decide +kernel
theorem dX12_week_25 : decode cX12_week 25 = .ok (.ldc 73, 2) := by decide +kernel
theorem dX12_week_27 : decode cX12_week 27 = .ok (.ireturn, 1) := by decide +kernel
theorem dX12_week_28 : decode cX12_week 28 = .ok (.ldc 89, 2) := by decide +kernel
theorem dX12_week_30 : decode cX12_week 30 = .ok (.istore_n 2, 1) := by decide +kernel
theorem dX12_week_31 : decode cX12_week 31 = .ok (.iconst 0, 1) := by decide +kernel
theorem dX12_week_32 : decode cX12_week 32 = .ok (.istore_n 3, 1) := by decide +kernel
theorem dX12_week_33 : decode cX12_week 33 = .ok (.iload_n 3, 1) := by decide +kernel
theorem dX12_week_34 : decode cX12_week 34 = .ok (.iconst 1, 1) := by decide +kernel
theorem dX12_week_35 : decode cX12_week 35 = .ok (.aload_n 0, 1) := by decide +kernel
theorem dX12_week_36 : decode cX12_week 36 = .ok (.getfield 19, 3) := by decide +kernel
theorem dX12_week_39 : decode cX12_week 39 = .ok (.iconst 1, 1) := by decide +kernel
theorem dX12_week_40 : decode cX12_week 40 = .ok (.iaload, 1) := by decide +kernel
theorem dX12_week_41 : decode cX12_week 41 = .ok (.ishl, 1) := by decide +kernel
theorem dX12_week_42 : decode cX12_week 42 = .ok (.if_icmp .ge 40, 3) := by decide +kernel
theorem dX12_week_45 : decode cX12_week 45 = .ok (.iload_n 2, 1) := by decide +kernel
theorem dX12_week_46 : decode cX12_week 46 = .ok (.ldc 89, 2) := by decide +kernel
theorem dX12_week_48 : decode cX12_week 48 = .ok (.if_icmp .eq 14, 3) := by decide +kernel
theorem dX12_week_51 : decode cX12_week 51 = .ok (.iload_n 3, 1) := by decide +kernel
theorem dX12_week_52 : decode cX12_week 52 = .ok (.invokestatic 294, 3) := by decide +kernel
theorem dX12_week_55 : decode cX12_week 55 = .ok (.iload_n 2, 1) := by decide +kernel
theorem dX12_week_56 : decode cX12_week 56 = .ok (.invokestatic 294, 3) := by decide +kernel
theorem dX12_week_59 : decode cX12_week 59 = .ok (.if_icmp .ge 15, 3) := by decide +kernel
theorem dX12_week_62 : decode cX12_week 62 = .ok (.aload_n 0, 1) := by decide +kernel
theorem dX12_week_63 : decode cX12_week 63 = .ok (.iload_n 3, 1) := by decide +kernel
theorem dX12_week_64 : decode cX12_week 64 = .ok (.invokevirtual 297, 3) := by decide +kernel
theorem dX12_week_67 : decode cX12_week 67 = .ok (.ifCond .eq 7, 3) := by decide +kernel
theorem dX12_week_70 : decode cX12_week 70 = .ok (.iload_n 3, 1) := by decide +kernel
theorem dX12_week_71 : decode cX12_week 71 = .ok (.goto 4, 3) := by decide +kernel
theorem dX12_week_74 : decode cX12_week 74 = .ok (.iload_n 2, 1) := by decide +kernel
theorem dX12_week_75 : decode cX12_week 75 = .ok (.istore_n 2, 1) := by decide +kernel
theorem dX12_week_76 : decode cX12_week 76 = .ok (.iinc 3 1, 3) := by decide +kernel
theorem dX12_week_79 : decode cX12_week 79 = .ok (.goto (-46), 3) := by decide +kernel
theorem dX12_week_82 : decode cX12_week 82 = .ok (.iload_n 2, 1) := by decide +kernel
theorem dX12_week_83 : decode cX12_week 83 = .ok (.ldc 89, 2) := by decide +kernel
theorem dX12_week_85 : decode cX12_week 85 = .ok (.if_icmp .eq 8, 3) := by decide +kernel
theorem dX12_week_88 : decode cX12_week 88 = .ok (.iload_n 1, 1) := by decide +kernel
theorem dX12_week_89 : decode cX12_week 89 = .ok (.iconst 1, 1) := by decide +kernel
theorem dX12_week_90 : decode cX12_week 90 = .ok (.if_icmp .ne 7, 3) := by decide +kernel
theorem dX12_week_93 : decode cX12_week 93 = .ok (.iload_n 2, 1) := by decide +kernel
theorem dX12_week_94 : decode cX12_week 94 = .ok (.goto 7, 3) := by decide +kernel
theorem dX12_week_97 : decode cX12_week 97 = .ok (.iload_n 2, 1) := by decide +kernel
theorem dX12_week_98 : decode cX12_week 98 = .ok (.invokestatic 294, 3) := by decide +kernel
theorem dX12_week_101 : decode cX12_week 101 = .ok (.ireturn, 1) := by decide +kernel
abbrev cX12_letIn : ByteArray := prog_14_method_65_code
def yX12_letIn : MethodName := ⟨"DayTonguesModel", "letIn", "(I)I"⟩
def mX12_letIn : dt_MD := (yX12_letIn, cX12_letIn, 9, some .int)
theorem dX12_letIn_0 : decode cX12_letIn 0 = .ok (.aload_n 0, 1) := by decide +kernel
theorem dX12_letIn_1 : decode cX12_letIn 1 = .ok (.iconst 0, 1) := by decide +kernel
theorem dX12_letIn_2 : decode cX12_letIn 2 = .ok (.putfield 53, 3) := by decide +kernel
theorem dX12_letIn_5 : decode cX12_letIn 5 = .ok (.aload_n 0, 1) := by decide +kernel
theorem dX12_letIn_6 : decode cX12_letIn 6 = .ok (.getfield 179, 3) := by decide +kernel
theorem dX12_letIn_9 : decode cX12_letIn 9 = .ok (.ifCond .ne 6, 3) := by decide +kernel
theorem dX12_letIn_12 : decode cX12_letIn 12 = .ok (.ldc 204, 2) := by decide +kernel
theorem dX12_letIn_14 : decode cX12_letIn 14 = .ok (.ireturn, 1) := by decide +kernel
theorem dX12_letIn_15 : decode cX12_letIn 15 = .ok (.iload_n 1, 1) := by decide +kernel
theorem dX12_letIn_16 : decode cX12_letIn 16 = .ok (.i2l, 1) := by decide +kernel
theorem dX12_letIn_17 : decode cX12_letIn 17 = .ok (.lconst 1, 1) := by decide +kernel
theorem dX12_letIn_18 : decode cX12_letIn 18 = .ok (.ldc2_w 84, 3) := by decide +kernel
theorem dX12_letIn_21 : decode cX12_letIn 21 = .ok (.invokestatic 63, 3) := by decide +kernel
theorem dX12_letIn_24 : decode cX12_letIn 24 = .ok (.ifCond .ne 6, 3) := by decide +kernel
theorem dX12_letIn_27 : decode cX12_letIn 27 = .ok (.ldc 73, 2) := by decide +kernel
theorem dX12_letIn_29 : decode cX12_letIn 29 = .ok (.ireturn, 1) := by decide +kernel
theorem dX12_letIn_30 : decode cX12_letIn 30 = .ok (.ldc 89, 2) := by decide +kernel
theorem dX12_letIn_32 : decode cX12_letIn 32 = .ok (.istore_n 2, 1) := by decide +kernel
theorem dX12_letIn_33 : decode cX12_letIn 33 = .ok (.iconst 0, 1) := by decide +kernel
theorem dX12_letIn_34 : decode cX12_letIn 34 = .ok (.istore_n 3, 1) := by decide +kernel
theorem dX12_letIn_35 : decode cX12_letIn 35 = .ok (.iconst 0, 1) := by decide +kernel
theorem dX12_letIn_36 : decode cX12_letIn 36 = .ok (.istore 4, 2) := by decide +kernel
theorem dX12_letIn_38 : decode cX12_letIn 38 = .ok (.iload 4, 2) := by decide +kernel
theorem dX12_letIn_40 : decode cX12_letIn 40 = .ok (.aload_n 0, 1) := by decide +kernel
theorem dX12_letIn_41 : decode cX12_letIn 41 = .ok (.getfield 19, 3) := by decide +kernel
theorem dX12_letIn_44 : decode cX12_letIn 44 = .ok (.iconst 0, 1) := by decide +kernel
theorem dX12_letIn_45 : decode cX12_letIn 45 = .ok (.iaload, 1) := by decide +kernel
theorem dX12_letIn_46 : decode cX12_letIn 46 = .ok (.if_icmp .ge 163, 3) := by decide +kernel
theorem dX12_letIn_49 : decode cX12_letIn 49 = .ok (.aload_n 0, 1) := by decide +kernel
theorem dX12_letIn_50 : decode cX12_letIn 50 = .ok (.getfield 19, 3) := by decide +kernel
theorem dX12_letIn_53 : decode cX12_letIn 53 = .ok (.iconst 3, 1) := by decide +kernel
theorem dX12_letIn_54 : decode cX12_letIn 54 = .ok (.iload 4, 2) := by decide +kernel
theorem dX12_letIn_56 : decode cX12_letIn 56 = .ok (.iadd, 1) := by decide +kernel
theorem dX12_letIn_57 : decode cX12_letIn 57 = .ok (.iaload, 1) := by decide +kernel
theorem dX12_letIn_58 : decode cX12_letIn 58 = .ok (.bipush 8, 2) := by decide +kernel
theorem dX12_letIn_60 : decode cX12_letIn 60 = .ok (.if_icmp .ge 143, 3) := by decide +kernel
theorem dX12_letIn_63 : decode cX12_letIn 63 = .ok (.aload_n 0, 1) := by decide +kernel
theorem dX12_letIn_64 : decode cX12_letIn 64 = .ok (.iload 4, 2) := by decide +kernel
theorem dX12_letIn_66 : decode cX12_letIn 66 = .ok (.iconst 1, 1) := by decide +kernel
theorem dX12_letIn_67 : decode cX12_letIn 67 = .ok (.invokevirtual 270, 3) := by decide +kernel
theorem dX12_letIn_70 : decode cX12_letIn 70 = .ok (.istore 5, 2) := by decide +kernel
theorem dX12_letIn_72 : decode cX12_letIn 72 = .ok (.bipush 18, 2) := by decide +kernel
theorem dX12_letIn_74 : decode cX12_letIn 74 = .ok (.bipush 40, 2) := by decide +kernel
theorem dX12_letIn_76 : decode cX12_letIn 76 = .ok (.iload 4, 2) := by decide +kernel
theorem dX12_letIn_78 : decode cX12_letIn 78 = .ok (.imul, 1) := by decide +kernel
theorem dX12_letIn_79 : decode cX12_letIn 79 = .ok (.iadd, 1) := by decide +kernel
theorem dX12_letIn_80 : decode cX12_letIn 80 = .ok (.iconst 5, 1) := by decide +kernel
theorem dX12_letIn_81 : decode cX12_letIn 81 = .ok (.aload_n 0, 1) := by decide +kernel
theorem dX12_letIn_82 : decode cX12_letIn 82 = .ok (.getfield 19, 3) := by decide +kernel
theorem dX12_letIn_85 : decode cX12_letIn 85 = .ok (.iconst 3, 1) := by decide +kernel
theorem dX12_letIn_86 : decode cX12_letIn 86 = .ok (.iload 4, 2) := by decide +kernel
theorem dX12_letIn_88 : decode cX12_letIn 88 = .ok (.iadd, 1) := by decide +kernel
theorem dX12_letIn_89 : decode cX12_letIn 89 = .ok (.iaload, 1) := by decide +kernel
theorem dX12_letIn_90 : decode cX12_letIn 90 = .ok (.imul, 1) := by decide +kernel
theorem dX12_letIn_91 : decode cX12_letIn 91 = .ok (.iadd, 1) := by decide +kernel
theorem dX12_letIn_92 : decode cX12_letIn 92 = .ok (.istore 6, 2) := by decide +kernel
theorem dX12_letIn_94 : decode cX12_letIn 94 = .ok (.aload_n 0, 1) := by decide +kernel
theorem dX12_letIn_95 : decode cX12_letIn 95 = .ok (.getfield 19, 3) := by decide +kernel
theorem dX12_letIn_98 : decode cX12_letIn 98 = .ok (.iload 6, 2) := by decide +kernel
theorem dX12_letIn_100 : decode cX12_letIn 100 = .ok (.iconst 1, 1) := by decide +kernel
theorem dX12_letIn_101 : decode cX12_letIn 101 = .ok (.iastore, 1) := by decide +kernel
theorem dX12_letIn_102 : decode cX12_letIn 102 = .ok (.aload_n 0, 1) := by decide +kernel
theorem dX12_letIn_103 : decode cX12_letIn 103 = .ok (.getfield 19, 3) := by decide +kernel
theorem dX12_letIn_106 : decode cX12_letIn 106 = .ok (.iload 6, 2) := by decide +kernel
theorem dX12_letIn_108 : decode cX12_letIn 108 = .ok (.iconst 1, 1) := by decide +kernel
theorem dX12_letIn_109 : decode cX12_letIn 109 = .ok (.iadd, 1) := by decide +kernel
theorem dX12_letIn_110 : decode cX12_letIn 110 = .ok (.iconst 1, 1) := by decide +kernel
theorem dX12_letIn_111 : decode cX12_letIn 111 = .ok (.iastore, 1) := by decide +kernel
theorem dX12_letIn_112 : decode cX12_letIn 112 = .ok (.aload_n 0, 1) := by decide +kernel
theorem dX12_letIn_113 : decode cX12_letIn 113 = .ok (.getfield 19, 3) := by decide +kernel
theorem dX12_letIn_116 : decode cX12_letIn 116 = .ok (.iload 6, 2) := by decide +kernel
theorem dX12_letIn_118 : decode cX12_letIn 118 = .ok (.iconst 2, 1) := by decide +kernel
theorem dX12_letIn_119 : decode cX12_letIn 119 = .ok (.iadd, 1) := by decide +kernel
theorem dX12_letIn_120 : decode cX12_letIn 120 = .ok (.iload_n 1, 1) := by decide +kernel
theorem dX12_letIn_121 : decode cX12_letIn 121 = .ok (.iastore, 1) := by decide +kernel
theorem dX12_letIn_122 : decode cX12_letIn 122 = .ok (.aload_n 0, 1) := by decide +kernel
theorem dX12_letIn_123 : decode cX12_letIn 123 = .ok (.getfield 19, 3) := by decide +kernel
theorem dX12_letIn_126 : decode cX12_letIn 126 = .ok (.iconst 3, 1) := by decide +kernel
theorem dX12_letIn_127 : decode cX12_letIn 127 = .ok (.iload 4, 2) := by decide +kernel
theorem dX12_letIn_129 : decode cX12_letIn 129 = .ok (.iadd, 1) := by decide +kernel
theorem dX12_letIn_130 : decode cX12_letIn 130 = .ok (.dup2, 1) := by decide +kernel
theorem dX12_letIn_131 : decode cX12_letIn 131 = .ok (.iaload, 1) := by decide +kernel
theorem dX12_letIn_132 : decode cX12_letIn 132 = .ok (.iconst 1, 1) := by decide +kernel
theorem dX12_letIn_133 : decode cX12_letIn 133 = .ok (.iadd, 1) := by decide +kernel
theorem dX12_letIn_134 : decode cX12_letIn 134 = .ok (.iastore, 1) := by decide +kernel
theorem dX12_letIn_135 : decode cX12_letIn 135 = .ok (.aload_n 0, 1) := by decide +kernel
theorem dX12_letIn_136 : decode cX12_letIn 136 = .ok (.iload 4, 2) := by decide +kernel
theorem dX12_letIn_138 : decode cX12_letIn 138 = .ok (.iconst 1, 1) := by decide +kernel
theorem dX12_letIn_139 : decode cX12_letIn 139 = .ok (.invokevirtual 270, 3) := by decide +kernel
theorem dX12_letIn_142 : decode cX12_letIn 142 = .ok (.iload 5, 2) := by decide +kernel
theorem dX12_letIn_144 : decode cX12_letIn 144 = .ok (.isub, 1) := by decide +kernel
theorem dX12_letIn_145 : decode cX12_letIn 145 = .ok (.istore 7, 2) := by decide +kernel
theorem dX12_letIn_147 : decode cX12_letIn 147 = .ok (.aload_n 0, 1) := by decide +kernel
theorem dX12_letIn_148 : decode cX12_letIn 148 = .ok (.getfield 19, 3) := by decide +kernel
theorem dX12_letIn_151 : decode cX12_letIn 151 = .ok (.iconst 3, 1) := by decide +kernel
theorem dX12_letIn_152 : decode cX12_letIn 152 = .ok (.iload 4, 2) := by decide +kernel
theorem dX12_letIn_154 : decode cX12_letIn 154 = .ok (.iadd, 1) := by decide +kernel
theorem dX12_letIn_155 : decode cX12_letIn 155 = .ok (.dup2, 1) := by decide +kernel
theorem dX12_letIn_156 : decode cX12_letIn 156 = .ok (.iaload, 1) := by decide +kernel
theorem dX12_letIn_157 : decode cX12_letIn 157 = .ok (.iconst 1, 1) := by decide +kernel
theorem dX12_letIn_158 : decode cX12_letIn 158 = .ok (.isub, 1) := by decide +kernel
theorem dX12_letIn_159 : decode cX12_letIn 159 = .ok (.iastore, 1) := by decide +kernel
theorem dX12_letIn_160 : decode cX12_letIn 160 = .ok (.iload_n 2, 1) := by decide +kernel
theorem dX12_letIn_161 : decode cX12_letIn 161 = .ok (.ldc 89, 2) := by decide +kernel
theorem dX12_letIn_163 : decode cX12_letIn 163 = .ok (.if_icmp .eq 9, 3) := by decide +kernel
theorem dX12_letIn_166 : decode cX12_letIn 166 = .ok (.iload 7, 2) := by decide +kernel
theorem dX12_letIn_168 : decode cX12_letIn 168 = .ok (.iload_n 3, 1) := by decide +kernel
theorem dX12_letIn_169 : decode cX12_letIn 169 = .ok (.if_icmp .le 7, 3) := by decide +kernel
theorem dX12_letIn_172 : decode cX12_letIn 172 = .ok (.iconst 1, 1) := by decide +kernel
theorem dX12_letIn_173 : decode cX12_letIn 173 = .ok (.goto 4, 3) := by decide +kernel
theorem dX12_letIn_176 : decode cX12_letIn 176 = .ok (.iconst 0, 1) := by decide +kernel
theorem dX12_letIn_177 : decode cX12_letIn 177 = .ok (.istore 8, 2) := by decide +kernel
theorem dX12_letIn_179 : decode cX12_letIn 179 = .ok (.iload 8, 2) := by decide +kernel
theorem dX12_letIn_181 : decode cX12_letIn 181 = .ok (.ifCond .eq 8, 3) := by decide +kernel
theorem dX12_letIn_184 : decode cX12_letIn 184 = .ok (.iload 4, 2) := by decide +kernel
theorem dX12_letIn_186 : decode cX12_letIn 186 = .ok (.goto 4, 3) := by decide +kernel
theorem dX12_letIn_189 : decode cX12_letIn 189 = .ok (.iload_n 2, 1) := by decide +kernel
theorem dX12_letIn_190 : decode cX12_letIn 190 = .ok (.istore_n 2, 1) := by decide +kernel
theorem dX12_letIn_191 : decode cX12_letIn 191 = .ok (.iload 8, 2) := by decide +kernel
theorem dX12_letIn_193 : decode cX12_letIn 193 = .ok (.ifCond .eq 8, 3) := by decide +kernel
theorem dX12_letIn_196 : decode cX12_letIn 196 = .ok (.iload 7, 2) := by decide +kernel
theorem dX12_letIn_198 : decode cX12_letIn 198 = .ok (.goto 4, 3) := by decide +kernel
theorem dX12_letIn_201 : decode cX12_letIn 201 = .ok (.iload_n 3, 1) := by decide +kernel
theorem dX12_letIn_202 : decode cX12_letIn 202 = .ok (.istore_n 3, 1) := by decide +kernel
theorem dX12_letIn_203 : decode cX12_letIn 203 = .ok (.iinc 4 1, 3) := by decide +kernel
theorem dX12_letIn_206 : decode cX12_letIn 206 = .ok (.goto (-168), 3) := by decide +kernel
theorem dX12_letIn_209 : decode cX12_letIn 209 = .ok (.iload_n 2, 1) := by decide +kernel
theorem dX12_letIn_210 : decode cX12_letIn 210 = .ok (.ireturn, 1) := by decide +kernel
abbrev cX12_dated : ByteArray := prog_14_method_66_code
def yX12_dated : MethodName := ⟨"DayTonguesModel", "dated", "(IIII)I"⟩
def mX12_dated : dt_MD := (yX12_dated, cX12_dated, 10, some .int)
theorem dX12_dated_0 : decode cX12_dated 0 = .ok (.aload_n 0, 1) := by decide +kernel
theorem dX12_dated_1 : decode cX12_dated 1 = .ok (.iconst 0, 1) := by decide +kernel
theorem dX12_dated_2 : decode cX12_dated 2 = .ok (.putfield 53, 3) := by decide +kernel
theorem dX12_dated_5 : decode cX12_dated 5 = .ok (.aload_n 0, 1) := by decide +kernel
theorem dX12_dated_6 : decode cX12_dated 6 = .ok (.getfield 179, 3) := by decide +kernel
theorem dX12_dated_9 : decode cX12_dated 9 = .ok (.ifCond .ne 6, 3) := by decide +kernel
theorem dX12_dated_12 : decode cX12_dated 12 = .ok (.ldc 204, 2) := by decide +kernel
theorem dX12_dated_14 : decode cX12_dated 14 = .ok (.ireturn, 1) := by decide +kernel
theorem dX12_dated_15 : decode cX12_dated 15 = .ok (.iload_n 1, 1) := by decide +kernel
theorem dX12_dated_16 : decode cX12_dated 16 = .ok (.invokestatic 67, 3) := by decide +kernel
theorem dX12_dated_19 : decode cX12_dated 19 = .ok (.ifCond .eq 28, 3) := by decide +kernel
theorem dX12_dated_22 : decode cX12_dated 22 = .ok (.iload_n 3, 1) := by decide +kernel
theorem dX12_dated_23 : decode cX12_dated 23 = .ok (.i2l, 1) := by decide +kernel
theorem dX12_dated_24 : decode cX12_dated 24 = .ok (.lconst 0, 1) := by decide +kernel
theorem dX12_dated_25 : decode cX12_dated 25 = .ok (.ldc2_w 226, 3) := by decide +kernel
theorem dX12_dated_28 : decode cX12_dated 28 = .ok (.invokestatic 63, 3) := by decide +kernel
theorem dX12_dated_31 : decode cX12_dated 31 = .ok (.ifCond .eq 16, 3) := by decide +kernel
theorem dX12_dated_34 : decode cX12_dated 34 = .ok (.iload 4, 2) := by decide +kernel
theorem dX12_dated_36 : decode cX12_dated 36 = .ok (.i2l, 1) := by decide +kernel
theorem dX12_dated_37 : decode cX12_dated 37 = .ok (.lconst 0, 1) := by decide +kernel
theorem dX12_dated_38 : decode cX12_dated 38 = .ok (.ldc2_w 84, 3) := by decide +kernel
theorem dX12_dated_41 : decode cX12_dated 41 = .ok (.invokestatic 63, 3) := by decide +kernel
theorem dX12_dated_44 : decode cX12_dated 44 = .ok (.ifCond .ne 6, 3) := by decide +kernel
theorem dX12_dated_47 : decode cX12_dated 47 = .ok (.ldc 73, 2) := by decide +kernel
theorem dX12_dated_49 : decode cX12_dated 49 = .ok (.ireturn, 1) := by decide +kernel
theorem dX12_dated_50 : decode cX12_dated 50 = .ok (.aload_n 0, 1) := by decide +kernel
theorem dX12_dated_51 : decode cX12_dated 51 = .ok (.iload_n 1, 1) := by decide +kernel
theorem dX12_dated_52 : decode cX12_dated 52 = .ok (.iload_n 2, 1) := by decide +kernel
theorem dX12_dated_53 : decode cX12_dated 53 = .ok (.iload_n 3, 1) := by decide +kernel
theorem dX12_dated_54 : decode cX12_dated 54 = .ok (.invokevirtual 228, 3) := by decide +kernel
theorem dX12_dated_57 : decode cX12_dated 57 = .ok (.istore 5, 2) := by decide +kernel
theorem dX12_dated_59 : decode cX12_dated 59 = .ok (.iload 5, 2) := by decide +kernel
theorem dX12_dated_61 : decode cX12_dated 61 = .ok (.ifCond .le 10, 3) := by decide +kernel
theorem dX12_dated_64 : decode cX12_dated 64 = .ok (.aload_n 0, 1) := by decide +kernel
theorem dX12_dated_65 : decode cX12_dated 65 = .ok (.iload 5, 2) := by decide +kernel
theorem dX12_dated_67 : decode cX12_dated 67 = .ok (.invokevirtual 74, 3) := by decide +kernel
theorem dX12_dated_70 : decode cX12_dated 70 = .ok (.ireturn, 1) := by decide +kernel
theorem dX12_dated_71 : decode cX12_dated 71 = .ok (.iconst 0, 1) := by decide +kernel
theorem dX12_dated_72 : decode cX12_dated 72 = .ok (.istore 6, 2) := by decide +kernel
theorem dX12_dated_74 : decode cX12_dated 74 = .ok (.iconst 0, 1) := by decide +kernel
theorem dX12_dated_75 : decode cX12_dated 75 = .ok (.istore 7, 2) := by decide +kernel
theorem dX12_dated_77 : decode cX12_dated 77 = .ok (.iload 7, 2) := by decide +kernel
theorem dX12_dated_79 : decode cX12_dated 79 = .ok (.iload_n 3, 1) := by decide +kernel
theorem dX12_dated_80 : decode cX12_dated 80 = .ok (.if_icmp .ge 61, 3) := by decide +kernel
theorem dX12_dated_83 : decode cX12_dated 83 = .ok (.aload_n 0, 1) := by decide +kernel
theorem dX12_dated_84 : decode cX12_dated 84 = .ok (.getfield 16, 3) := by decide +kernel
theorem dX12_dated_87 : decode cX12_dated 87 = .ok (.bipush 40, 2) := by decide +kernel
theorem dX12_dated_89 : decode cX12_dated 89 = .ok (.iload_n 1, 1) := by decide +kernel
theorem dX12_dated_90 : decode cX12_dated 90 = .ok (.imul, 1) := by decide +kernel
theorem dX12_dated_91 : decode cX12_dated 91 = .ok (.iload_n 2, 1) := by decide +kernel
theorem dX12_dated_92 : decode cX12_dated 92 = .ok (.iadd, 1) := by decide +kernel
theorem dX12_dated_93 : decode cX12_dated 93 = .ok (.iload 7, 2) := by decide +kernel
theorem dX12_dated_95 : decode cX12_dated 95 = .ok (.iadd, 1) := by decide +kernel
theorem dX12_dated_96 : decode cX12_dated 96 = .ok (.iaload, 1) := by decide +kernel
theorem dX12_dated_97 : decode cX12_dated 97 = .ok (.istore 8, 2) := by decide +kernel
theorem dX12_dated_99 : decode cX12_dated 99 = .ok (.iload 8, 2) := by decide +kernel
theorem dX12_dated_101 : decode cX12_dated 101 = .ok (.i2l, 1) := by decide +kernel
theorem dX12_dated_102 : decode cX12_dated 102 = .ok (.lconst 0, 1) := by decide +kernel
theorem dX12_dated_103 : decode cX12_dated 103 = .ok (.ldc2_w 61, 3) := by decide +kernel
theorem dX12_dated_106 : decode cX12_dated 106 = .ok (.invokestatic 63, 3) := by decide +kernel
theorem dX12_dated_109 : decode cX12_dated 109 = .ok (.ifCond .ne 6, 3) := by decide +kernel
theorem dX12_dated_112 : decode cX12_dated 112 = .ok (.ldc 73, 2) := by decide +kernel
theorem dX12_dated_114 : decode cX12_dated 114 = .ok (.ireturn, 1) := by decide +kernel
theorem dX12_dated_115 : decode cX12_dated 115 = .ok (.iload 8, 2) := by decide +kernel
theorem dX12_dated_117 : decode cX12_dated 117 = .ok (.iconst 1, 1) := by decide +kernel
theorem dX12_dated_118 : decode cX12_dated 118 = .ok (.iadd, 1) := by decide +kernel
theorem dX12_dated_119 : decode cX12_dated 119 = .ok (.iload 6, 2) := by decide +kernel
theorem dX12_dated_121 : decode cX12_dated 121 = .ok (.if_icmp .le 10, 3) := by decide +kernel
theorem dX12_dated_124 : decode cX12_dated 124 = .ok (.iload 8, 2) := by decide +kernel
theorem dX12_dated_126 : decode cX12_dated 126 = .ok (.iconst 1, 1) := by decide +kernel
theorem dX12_dated_127 : decode cX12_dated 127 = .ok (.iadd, 1) := by decide +kernel
theorem dX12_dated_128 : decode cX12_dated 128 = .ok (.goto 5, 3) := by decide +kernel
theorem dX12_dated_131 : decode cX12_dated 131 = .ok (.iload 6, 2) := by decide +kernel
theorem dX12_dated_133 : decode cX12_dated 133 = .ok (.istore 6, 2) := by decide +kernel
theorem dX12_dated_135 : decode cX12_dated 135 = .ok (.iinc 7 1, 3) := by decide +kernel
theorem dX12_dated_138 : decode cX12_dated 138 = .ok (.goto (-61), 3) := by decide +kernel
theorem dX12_dated_141 : decode cX12_dated 141 = .ok (.aload_n 0, 1) := by decide +kernel
theorem dX12_dated_142 : decode cX12_dated 142 = .ok (.iconst 0, 1) := by decide +kernel
theorem dX12_dated_143 : decode cX12_dated 143 = .ok (.putfield 57, 3) := by decide +kernel
theorem dX12_dated_146 : decode cX12_dated 146 = .ok (.iconst 0, 1) := by decide +kernel
theorem dX12_dated_147 : decode cX12_dated 147 = .ok (.istore 7, 2) := by decide +kernel
theorem dX12_dated_149 : decode cX12_dated 149 = .ok (.iconst 0, 1) := by decide +kernel
theorem dX12_dated_150 : decode cX12_dated 150 = .ok (.istore 8, 2) := by decide +kernel
theorem dX12_dated_152 : decode cX12_dated 152 = .ok (.iload 8, 2) := by decide +kernel
theorem dX12_dated_154 : decode cX12_dated 154 = .ok (.aload_n 0, 1) := by decide +kernel
theorem dX12_dated_155 : decode cX12_dated 155 = .ok (.getfield 19, 3) := by decide +kernel
theorem dX12_dated_158 : decode cX12_dated 158 = .ok (.iconst 0, 1) := by decide +kernel
theorem dX12_dated_159 : decode cX12_dated 159 = .ok (.iaload, 1) := by decide +kernel
theorem dX12_dated_160 : decode cX12_dated 160 = .ok (.if_icmp .ge 99, 3) := by decide +kernel
theorem dX12_dated_163 : decode cX12_dated 163 = .ok (.aload_n 0, 1) := by decide +kernel
theorem dX12_dated_164 : decode cX12_dated 164 = .ok (.invokevirtual 234, 3) := by decide +kernel
theorem dX12_dated_167 : decode cX12_dated 167 = .ok (.iconst 0, 1) := by decide +kernel
theorem dX12_dated_168 : decode cX12_dated 168 = .ok (.istore 9, 2) := by decide +kernel
theorem dX12_dated_170 : decode cX12_dated 170 = .ok (.iload 9, 2) := by decide +kernel
theorem dX12_dated_172 : decode cX12_dated 172 = .ok (.iload_n 3, 1) := by decide +kernel
theorem dX12_dated_173 : decode cX12_dated 173 = .ok (.if_icmp .ge 43, 3) := by decide +kernel
theorem dX12_dated_176 : decode cX12_dated 176 = .ok (.iload 6, 2) := by decide +kernel
theorem dX12_dated_178 : decode cX12_dated 178 = .ok (.aload_n 0, 1) := by decide +kernel
theorem dX12_dated_179 : decode cX12_dated 179 = .ok (.getfield 19, 3) := by decide +kernel
theorem dX12_dated_182 : decode cX12_dated 182 = .ok (.iconst 3, 1) := by decide +kernel
theorem dX12_dated_183 : decode cX12_dated 183 = .ok (.iload 8, 2) := by decide +kernel
theorem dX12_dated_185 : decode cX12_dated 185 = .ok (.iadd, 1) := by decide +kernel
theorem dX12_dated_186 : decode cX12_dated 186 = .ok (.iaload, 1) := by decide +kernel
theorem dX12_dated_187 : decode cX12_dated 187 = .ok (.if_icmp .gt 29, 3) := by decide +kernel
theorem dX12_dated_190 : decode cX12_dated 190 = .ok (.aload_n 0, 1) := by decide +kernel
theorem dX12_dated_191 : decode cX12_dated 191 = .ok (.iload 8, 2) := by decide +kernel
theorem dX12_dated_193 : decode cX12_dated 193 = .ok (.aload_n 0, 1) := by decide +kernel
theorem dX12_dated_194 : decode cX12_dated 194 = .ok (.getfield 16, 3) := by decide +kernel
theorem dX12_dated_197 : decode cX12_dated 197 = .ok (.bipush 40, 2) := by decide +kernel
theorem dX12_dated_199 : decode cX12_dated 199 = .ok (.iload_n 1, 1) := by decide +kernel
theorem dX12_dated_200 : decode cX12_dated 200 = .ok (.imul, 1) := by decide +kernel
theorem dX12_dated_201 : decode cX12_dated 201 = .ok (.iload_n 2, 1) := by decide +kernel
theorem dX12_dated_202 : decode cX12_dated 202 = .ok (.iadd, 1) := by decide +kernel
theorem dX12_dated_203 : decode cX12_dated 203 = .ok (.iload 9, 2) := by decide +kernel
theorem dX12_dated_205 : decode cX12_dated 205 = .ok (.iadd, 1) := by decide +kernel
theorem dX12_dated_206 : decode cX12_dated 206 = .ok (.iaload, 1) := by decide +kernel
theorem dX12_dated_207 : decode cX12_dated 207 = .ok (.invokevirtual 237, 3) := by decide +kernel
theorem dX12_dated_210 : decode cX12_dated 210 = .ok (.iinc 9 1, 3) := by decide +kernel
theorem dX12_dated_213 : decode cX12_dated 213 = .ok (.goto (-43), 3) := by decide +kernel
theorem dX12_dated_216 : decode cX12_dated 216 = .ok (.iload 7, 2) := by decide +kernel
theorem dX12_dated_218 : decode cX12_dated 218 = .ok (.iload 6, 2) := by decide +kernel
theorem dX12_dated_220 : decode cX12_dated 220 = .ok (.aload_n 0, 1) := by decide +kernel
theorem dX12_dated_221 : decode cX12_dated 221 = .ok (.getfield 19, 3) := by decide +kernel
theorem dX12_dated_224 : decode cX12_dated 224 = .ok (.iconst 3, 1) := by decide +kernel
theorem dX12_dated_225 : decode cX12_dated 225 = .ok (.iload 8, 2) := by decide +kernel
theorem dX12_dated_227 : decode cX12_dated 227 = .ok (.iadd, 1) := by decide +kernel
theorem dX12_dated_228 : decode cX12_dated 228 = .ok (.iaload, 1) := by decide +kernel
theorem dX12_dated_229 : decode cX12_dated 229 = .ok (.if_icmp .gt 20, 3) := by decide +kernel
theorem dX12_dated_232 : decode cX12_dated 232 = .ok (.aload_n 0, 1) := by decide +kernel
theorem dX12_dated_233 : decode cX12_dated 233 = .ok (.getfield 28, 3) := by decide +kernel
theorem dX12_dated_236 : decode cX12_dated 236 = .ok (.iload 4, 2) := by decide +kernel
theorem dX12_dated_238 : decode cX12_dated 238 = .ok (.baload, 1) := by decide +kernel
theorem dX12_dated_239 : decode cX12_dated 239 = .ok (.ifCond .eq 10, 3) := by decide +kernel
theorem dX12_dated_242 : decode cX12_dated 242 = .ok (.iconst 1, 1) := by decide +kernel
theorem dX12_dated_243 : decode cX12_dated 243 = .ok (.iload 8, 2) := by decide +kernel
theorem dX12_dated_245 : decode cX12_dated 245 = .ok (.ishl, 1) := by decide +kernel
theorem dX12_dated_246 : decode cX12_dated 246 = .ok (.goto 4, 3) := by decide +kernel
theorem dX12_dated_249 : decode cX12_dated 249 = .ok (.iconst 0, 1) := by decide +kernel
theorem dX12_dated_250 : decode cX12_dated 250 = .ok (.ior, 1) := by decide +kernel
theorem dX12_dated_251 : decode cX12_dated 251 = .ok (.istore 7, 2) := by decide +kernel
theorem dX12_dated_253 : decode cX12_dated 253 = .ok (.iinc 8 1, 3) := by decide +kernel
theorem dX12_dated_256 : decode cX12_dated 256 = .ok (.goto (-104), 3) := by decide +kernel
theorem dX12_dated_259 : decode cX12_dated 259 = .ok (.iload 7, 2) := by decide +kernel
theorem dX12_dated_261 : decode cX12_dated 261 = .ok (.ireturn, 1) := by decide +kernel
abbrev cX12_image : ByteArray := prog_14_method_67_code
def yX12_image : MethodName := ⟨"DayTonguesModel", "image", "(I)I"⟩
def mX12_image : dt_MD := (yX12_image, cX12_image, 3, some .int)
theorem dX12_image_0 : decode cX12_image 0 = .ok (.aload_n 0, 1) := by decide +kernel
theorem dX12_image_1 : decode cX12_image 1 = .ok (.iconst 0, 1) := by decide +kernel
theorem dX12_image_2 : decode cX12_image 2 = .ok (.putfield 53, 3) := by decide +kernel
theorem dX12_image_5 : decode cX12_image 5 = .ok (.iload_n 1, 1) := by decide +kernel
theorem dX12_image_6 : decode cX12_image 6 = .ok (.i2l, 1) := by decide +kernel
theorem dX12_image_7 : decode cX12_image 7 = .ok (.lconst 0, 1) := by decide +kernel
theorem dX12_image_8 : decode cX12_image 8 = .ok (.lconst 1, 1) := by decide +kernel
theorem dX12_image_9 : decode cX12_image 9 = .ok (.invokestatic 63, 3) := by decide +kernel
theorem dX12_image_12 : decode cX12_image 12 = .ok (.ifCond .ne 6, 3) := by decide +kernel
theorem dX12_image_15 : decode cX12_image 15 = .ok (.ldc 73, 2) := by decide +kernel
theorem dX12_image_17 : decode cX12_image 17 = .ok (.ireturn, 1) := by decide +kernel
theorem dX12_image_18 : decode cX12_image 18 = .ok (.aload_n 0, 1) := by decide +kernel
theorem dX12_image_19 : decode cX12_image 19 = .ok (.getfield 179, 3) := by decide +kernel
theorem dX12_image_22 : decode cX12_image 22 = .ok (.ifCond .ne 6, 3) := by decide +kernel
theorem dX12_image_25 : decode cX12_image 25 = .ok (.ldc 204, 2) := by decide +kernel
theorem dX12_image_27 : decode cX12_image 27 = .ok (.ireturn, 1) := by decide +kernel
theorem dX12_image_28 : decode cX12_image 28 = .ok (.iconst 0, 1) := by decide +kernel
theorem dX12_image_29 : decode cX12_image 29 = .ok (.istore_n 2, 1) := by decide +kernel
theorem dX12_image_30 : decode cX12_image 30 = .ok (.iload_n 2, 1) := by decide +kernel
theorem dX12_image_31 : decode cX12_image 31 = .ok (.sipush 298, 3) := by decide +kernel
theorem dX12_image_34 : decode cX12_image 34 = .ok (.if_icmp .ge 27, 3) := by decide +kernel
theorem dX12_image_37 : decode cX12_image 37 = .ok (.aload_n 0, 1) := by decide +kernel
theorem dX12_image_38 : decode cX12_image 38 = .ok (.getfield 47, 3) := by decide +kernel
theorem dX12_image_41 : decode cX12_image 41 = .ok (.sipush 298, 3) := by decide +kernel
theorem dX12_image_44 : decode cX12_image 44 = .ok (.iload_n 1, 1) := by decide +kernel
theorem dX12_image_45 : decode cX12_image 45 = .ok (.imul, 1) := by decide +kernel
theorem dX12_image_46 : decode cX12_image 46 = .ok (.iload_n 2, 1) := by decide +kernel
theorem dX12_image_47 : decode cX12_image 47 = .ok (.iadd, 1) := by decide +kernel
theorem dX12_image_48 : decode cX12_image 48 = .ok (.aload_n 0, 1) := by decide +kernel
theorem dX12_image_49 : decode cX12_image 49 = .ok (.getfield 19, 3) := by decide +kernel
theorem dX12_image_52 : decode cX12_image 52 = .ok (.iload_n 2, 1) := by decide +kernel
theorem dX12_image_53 : decode cX12_image 53 = .ok (.iaload, 1) := by decide +kernel
theorem dX12_image_54 : decode cX12_image 54 = .ok (.iastore, 1) := by decide +kernel
theorem dX12_image_55 : decode cX12_image 55 = .ok (.iinc 2 1, 3) := by decide +kernel
theorem dX12_image_58 : decode cX12_image 58 = .ok (.goto (-28), 3) := by decide +kernel
theorem dX12_image_61 : decode cX12_image 61 = .ok (.aload_n 0, 1) := by decide +kernel
theorem dX12_image_62 : decode cX12_image 62 = .ok (.getfield 44, 3) := by decide +kernel
theorem dX12_image_65 : decode cX12_image 65 = .ok (.iload_n 1, 1) := by decide +kernel
theorem dX12_image_66 : decode cX12_image 66 = .ok (.iconst 1, 1) := by decide +kernel
theorem dX12_image_67 : decode cX12_image 67 = .ok (.bastore, 1) := by decide +kernel
theorem dX12_image_68 : decode cX12_image 68 = .ok (.iconst 1, 1) := by decide +kernel
theorem dX12_image_69 : decode cX12_image 69 = .ok (.ireturn, 1) := by decide +kernel
abbrev cX12_restore : ByteArray := prog_14_method_68_code
def yX12_restore : MethodName := ⟨"DayTonguesModel", "restore", "(I)I"⟩
def mX12_restore : dt_MD := (yX12_restore, cX12_restore, 3, some .int)
theorem dX12_restore_0 : decode cX12_restore 0 = .ok (.aload_n 0, 1) := by decide +kernel
theorem dX12_restore_1 : decode cX12_restore 1 = .ok (.iconst 0, 1) := by decide +kernel
theorem dX12_restore_2 : decode cX12_restore 2 = .ok (.putfield 53, 3) := by decide +kernel
theorem dX12_restore_5 : decode cX12_restore 5 = .ok (.iload_n 1, 1) := by decide +kernel
theorem dX12_restore_6 : decode cX12_restore 6 = .ok (.i2l, 1) := by decide +kernel
theorem dX12_restore_7 : decode cX12_restore 7 = .ok (.lconst 0, 1) := by decide +kernel
theorem dX12_restore_8 : decode cX12_restore 8 = .ok (.lconst 1, 1) := by decide +kernel
theorem dX12_restore_9 : decode cX12_restore 9 = .ok (.invokestatic 63, 3) := by decide +kernel
theorem dX12_restore_12 : decode cX12_restore 12 = .ok (.ifCond .ne 6, 3) := by decide +kernel
theorem dX12_restore_15 : decode cX12_restore 15 = .ok (.ldc 73, 2) := by decide +kernel
theorem dX12_restore_17 : decode cX12_restore 17 = .ok (.ireturn, 1) := by decide +kernel
theorem dX12_restore_18 : decode cX12_restore 18 = .ok (.aload_n 0, 1) := by decide +kernel
theorem dX12_restore_19 : decode cX12_restore 19 = .ok (.getfield 44, 3) := by decide +kernel
theorem dX12_restore_22 : decode cX12_restore 22 = .ok (.iload_n 1, 1) := by decide +kernel
theorem dX12_restore_23 : decode cX12_restore 23 = .ok (.baload, 1) := by decide +kernel
theorem dX12_restore_24 : decode cX12_restore 24 = .ok (.ifCond .ne 6, 3) := by decide +kernel
theorem dX12_restore_27 : decode cX12_restore 27 = .ok (.ldc 204, 2) := by decide +kernel
theorem dX12_restore_29 : decode cX12_restore 29 = .ok (.ireturn, 1) := by decide +kernel
theorem dX12_restore_30 : decode cX12_restore 30 = .ok (.iconst 0, 1) := by decide +kernel
theorem dX12_restore_31 : decode cX12_restore 31 = .ok (.istore_n 2, 1) := by decide +kernel
theorem dX12_restore_32 : decode cX12_restore 32 = .ok (.iload_n 2, 1) := by decide +kernel
theorem dX12_restore_33 : decode cX12_restore 33 = .ok (.sipush 298, 3) := by decide +kernel
theorem dX12_restore_36 : decode cX12_restore 36 = .ok (.if_icmp .ge 27, 3) := by decide +kernel
theorem dX12_restore_39 : decode cX12_restore 39 = .ok (.aload_n 0, 1) := by decide +kernel
theorem dX12_restore_40 : decode cX12_restore 40 = .ok (.getfield 19, 3) := by decide +kernel
theorem dX12_restore_43 : decode cX12_restore 43 = .ok (.iload_n 2, 1) := by decide +kernel
theorem dX12_restore_44 : decode cX12_restore 44 = .ok (.aload_n 0, 1) := by decide +kernel
theorem dX12_restore_45 : decode cX12_restore 45 = .ok (.getfield 47, 3) := by decide +kernel
theorem dX12_restore_48 : decode cX12_restore 48 = .ok (.sipush 298, 3) := by decide +kernel
theorem dX12_restore_51 : decode cX12_restore 51 = .ok (.iload_n 1, 1) := by decide +kernel
theorem dX12_restore_52 : decode cX12_restore 52 = .ok (.imul, 1) := by decide +kernel
theorem dX12_restore_53 : decode cX12_restore 53 = .ok (.iload_n 2, 1) := by decide +kernel
theorem dX12_restore_54 : decode cX12_restore 54 = .ok (.iadd, 1) := by decide +kernel
theorem dX12_restore_55 : decode cX12_restore 55 = .ok (.iaload, 1) := by decide +kernel
theorem dX12_restore_56 : decode cX12_restore 56 = .ok (.iastore, 1) := by decide +kernel
theorem dX12_restore_57 : decode cX12_restore 57 = .ok (.iinc 2 1, 3) := by decide +kernel
theorem dX12_restore_60 : decode cX12_restore 60 = .ok (.goto (-28), 3) := by decide +kernel
theorem dX12_restore_63 : decode cX12_restore 63 = .ok (.iconst 1, 1) := by decide +kernel
theorem dX12_restore_64 : decode cX12_restore 64 = .ok (.ireturn, 1) := by decide +kernel
abbrev cX12_kindOf : ByteArray := prog_14_method_69_code
def yX12_kindOf : MethodName := ⟨"DayTonguesModel", "kindOf", "(II)I"⟩
def mX12_kindOf : dt_MD := (yX12_kindOf, cX12_kindOf, 3, some .int)
theorem dX12_kindOf_0 : decode cX12_kindOf 0 = .ok (.aload_n 0, 1) := by decide +kernel
theorem dX12_kindOf_1 : decode cX12_kindOf 1 = .ok (.getfield 19, 3) := by decide +kernel
theorem dX12_kindOf_4 : decode cX12_kindOf 4 = .ok (.bipush 18, 2) := by decide +kernel
theorem dX12_kindOf_6 : decode cX12_kindOf 6 = .ok (.bipush 40, 2) := by decide +kernel
theorem dX12_kindOf_8 : decode cX12_kindOf 8 = .ok (.iload_n 1, 1) := by decide +kernel
theorem dX12_kindOf_9 : decode cX12_kindOf 9 = .ok (.imul, 1) := by decide +kernel
theorem dX12_kindOf_10 : decode cX12_kindOf 10 = .ok (.iadd, 1) := by decide +kernel
theorem dX12_kindOf_11 : decode cX12_kindOf 11 = .ok (.iconst 5, 1) := by decide +kernel
theorem dX12_kindOf_12 : decode cX12_kindOf 12 = .ok (.iload_n 2, 1) := by decide +kernel
theorem dX12_kindOf_13 : decode cX12_kindOf 13 = .ok (.imul, 1) := by decide +kernel
theorem dX12_kindOf_14 : decode cX12_kindOf 14 = .ok (.iadd, 1) := by decide +kernel
theorem dX12_kindOf_15 : decode cX12_kindOf 15 = .ok (.iaload, 1) := by decide +kernel
theorem dX12_kindOf_16 : decode cX12_kindOf 16 = .ok (.ireturn, 1) := by decide +kernel
abbrev cX12_isOf : ByteArray := prog_14_method_70_code
def yX12_isOf : MethodName := ⟨"DayTonguesModel", "isOf", "(II)Z"⟩
def mX12_isOf : dt_MD := (yX12_isOf, cX12_isOf, 2, some .boolean)
theorem dX12_isOf_0 : decode cX12_isOf 0 = .ok (.iload_n 1, 1) := by decide +kernel
theorem dX12_isOf_1 : decode cX12_isOf 1 = .ok (.ifCond .eq 38, 3) := by decide +kernel
theorem dX12_isOf_4 : decode cX12_isOf 4 = .ok (.iload_n 0, 1) := by decide +kernel
theorem dX12_isOf_5 : decode cX12_isOf 5 = .ok (.iload_n 1, 1) := by decide +kernel
theorem dX12_isOf_6 : decode cX12_isOf 6 = .ok (.if_icmp .eq 33, 3) := by decide +kernel
theorem dX12_isOf_9 : decode cX12_isOf 9 = .ok (.iload_n 1, 1) := by decide +kernel
theorem dX12_isOf_10 : decode cX12_isOf 10 = .ok (.iconst 1, 1) := by decide +kernel
theorem dX12_isOf_11 : decode cX12_isOf 11 = .ok (.if_icmp .ne 8, 3) := by decide +kernel
theorem dX12_isOf_14 : decode cX12_isOf 14 = .ok (.iload_n 0, 1) := by decide +kernel
theorem dX12_isOf_15 : decode cX12_isOf 15 = .ok (.iconst 4, 1) := by decide +kernel
theorem dX12_isOf_16 : decode cX12_isOf 16 = .ok (.if_icmp .lt 23, 3) := by decide +kernel
theorem dX12_isOf_19 : decode cX12_isOf 19 = .ok (.iload_n 1, 1) := by decide +kernel
theorem dX12_isOf_20 : decode cX12_isOf 20 = .ok (.iconst 2, 1) := by decide +kernel
theorem dX12_isOf_21 : decode cX12_isOf 21 = .ok (.if_icmp .ne 8, 3) := by decide +kernel
theorem dX12_isOf_24 : decode cX12_isOf 24 = .ok (.iload_n 0, 1) := by decide +kernel
theorem dX12_isOf_25 : decode cX12_isOf 25 = .ok (.iconst 3, 1) := by decide +kernel
theorem dX12_isOf_26 : decode cX12_isOf 26 = .ok (.if_icmp .eq 13, 3) := by decide +kernel
theorem dX12_isOf_29 : decode cX12_isOf 29 = .ok (.iload_n 1, 1) := by decide +kernel
theorem dX12_isOf_30 : decode cX12_isOf 30 = .ok (.iconst 4, 1) := by decide +kernel
theorem dX12_isOf_31 : decode cX12_isOf 31 = .ok (.if_icmp .ne 12, 3) := by decide +kernel
theorem dX12_isOf_34 : decode cX12_isOf 34 = .ok (.iload_n 0, 1) := by decide +kernel
theorem dX12_isOf_35 : decode cX12_isOf 35 = .ok (.iconst 5, 1) := by decide +kernel
theorem dX12_isOf_36 : decode cX12_isOf 36 = .ok (.if_icmp .ne 7, 3) := by decide +kernel
theorem dX12_isOf_39 : decode cX12_isOf 39 = .ok (.iconst 1, 1) := by decide +kernel
theorem dX12_isOf_40 : decode cX12_isOf 40 = .ok (.goto 4, 3) := by decide +kernel
theorem dX12_isOf_43 : decode cX12_isOf 43 = .ok (.iconst 0, 1) := by decide +kernel
theorem dX12_isOf_44 : decode cX12_isOf 44 = .ok (.ireturn, 1) := by decide +kernel
abbrev cX12_kind : ByteArray := prog_14_method_71_code
def yX12_kind : MethodName := ⟨"DayTonguesModel", "kind", "(II)I"⟩
def mX12_kind : dt_MD := (yX12_kind, cX12_kind, 3, some .int)
theorem dX12_kind_0 : decode cX12_kind 0 = .ok (.aload_n 0, 1) := by decide +kernel
theorem dX12_kind_1 : decode cX12_kind 1 = .ok (.iconst 0, 1) := by decide +kernel
theorem dX12_kind_2 : decode cX12_kind 2 = .ok (.putfield 53, 3) := by decide +kernel
theorem dX12_kind_5 : decode cX12_kind 5 = .ok (.aload_n 0, 1) := by decide +kernel
theorem dX12_kind_6 : decode cX12_kind 6 = .ok (.iload_n 1, 1) := by decide +kernel
theorem dX12_kind_7 : decode cX12_kind 7 = .ok (.iload_n 2, 1) := by decide +kernel
theorem dX12_kind_8 : decode cX12_kind 8 = .ok (.invokevirtual 212, 3) := by decide +kernel
theorem dX12_kind_11 : decode cX12_kind 11 = .ok (.ifCond .eq 12, 3) := by decide +kernel
theorem dX12_kind_14 : decode cX12_kind 14 = .ok (.aload_n 0, 1) := by decide +kernel
theorem dX12_kind_15 : decode cX12_kind 15 = .ok (.iload_n 1, 1) := by decide +kernel
theorem dX12_kind_16 : decode cX12_kind 16 = .ok (.iload_n 2, 1) := by decide +kernel
theorem dX12_kind_17 : decode cX12_kind 17 = .ok (.invokevirtual 300, 3) := by decide +kernel
theorem dX12_kind_20 : decode cX12_kind 20 = .ok (.goto 5, 3) := by decide +kernel
theorem dX12_kind_23 : decode cX12_kind 23 = .ok (.ldc 73, 2) := by decide +kernel
theorem dX12_kind_25 : decode cX12_kind 25 = .ok (.ireturn, 1) := by decide +kernel
abbrev cX12_as : ByteArray := prog_14_method_72_code
def yX12_as : MethodName := ⟨"DayTonguesModel", "as", "(III)I"⟩
def mX12_as : dt_MD := (yX12_as, cX12_as, 4, some .int)
theorem dX12_as_0 : decode cX12_as 0 = .ok (.aload_n 0, 1) := by decide +kernel
theorem dX12_as_1 : decode cX12_as 1 = .ok (.iconst 0, 1) := by decide +kernel
theorem dX12_as_2 : decode cX12_as 2 = .ok (.putfield 53, 3) := by decide +kernel
theorem dX12_as_5 : decode cX12_as 5 = .ok (.aload_n 0, 1) := by decide +kernel
theorem dX12_as_6 : decode cX12_as 6 = .ok (.iload_n 1, 1) := by decide +kernel
theorem dX12_as_7 : decode cX12_as 7 = .ok (.iload_n 2, 1) := by decide +kernel
theorem dX12_as_8 : decode cX12_as 8 = .ok (.invokevirtual 212, 3) := by decide +kernel
theorem dX12_as_11 : decode cX12_as 11 = .ok (.ifCond .eq 15, 3) := by decide +kernel
theorem dX12_as_14 : decode cX12_as 14 = .ok (.iload_n 3, 1) := by decide +kernel
theorem dX12_as_15 : decode cX12_as 15 = .ok (.i2l, 1) := by decide +kernel
theorem dX12_as_16 : decode cX12_as 16 = .ok (.lconst 0, 1) := by decide +kernel
theorem dX12_as_17 : decode cX12_as 17 = .ok (.ldc2_w 286, 3) := by decide +kernel
theorem dX12_as_20 : decode cX12_as 20 = .ok (.invokestatic 63, 3) := by decide +kernel
theorem dX12_as_23 : decode cX12_as 23 = .ok (.ifCond .ne 6, 3) := by decide +kernel
theorem dX12_as_26 : decode cX12_as 26 = .ok (.ldc 73, 2) := by decide +kernel
theorem dX12_as_28 : decode cX12_as 28 = .ok (.ireturn, 1) := by decide +kernel
theorem dX12_as_29 : decode cX12_as 29 = .ok (.aload_n 0, 1) := by decide +kernel
theorem dX12_as_30 : decode cX12_as 30 = .ok (.iconst 0, 1) := by decide +kernel
theorem dX12_as_31 : decode cX12_as 31 = .ok (.putfield 57, 3) := by decide +kernel
theorem dX12_as_34 : decode cX12_as 34 = .ok (.aload_n 0, 1) := by decide +kernel
theorem dX12_as_35 : decode cX12_as 35 = .ok (.iload_n 1, 1) := by decide +kernel
theorem dX12_as_36 : decode cX12_as 36 = .ok (.iload_n 2, 1) := by decide +kernel
theorem dX12_as_37 : decode cX12_as 37 = .ok (.invokevirtual 300, 3) := by decide +kernel
theorem dX12_as_40 : decode cX12_as 40 = .ok (.iload_n 3, 1) := by decide +kernel
theorem dX12_as_41 : decode cX12_as 41 = .ok (.invokestatic 303, 3) := by decide +kernel
theorem dX12_as_44 : decode cX12_as 44 = .ok (.ifCond .eq 7, 3) := by decide +kernel
theorem dX12_as_47 : decode cX12_as 47 = .ok (.iload_n 2, 1) := by decide +kernel
theorem dX12_as_48 : decode cX12_as 48 = .ok (.goto 8, 3) := by decide +kernel
theorem dX12_as_51 : decode cX12_as 51 = .ok (.aload_n 0, 1) := by decide +kernel
theorem dX12_as_52 : decode cX12_as 52 = .ok (.iconst 3, 1) := by decide +kernel
theorem dX12_as_53 : decode cX12_as 53 = .ok (.invokevirtual 74, 3) := by decide +kernel
theorem dX12_as_56 : decode cX12_as 56 = .ok (.ireturn, 1) := by decide +kernel
abbrev cX12_began : ByteArray := prog_14_method_73_code
def yX12_began : MethodName := ⟨"DayTonguesModel", "began", "(I)V"⟩
def mX12_began : dt_MD := (yX12_began, cX12_began, 2, none)
theorem dX12_began_0 : decode cX12_began 0 = .ok (.aload_n 0, 1) := by decide +kernel
theorem dX12_began_1 : decode cX12_began 1 = .ok (.getfield 306, 3) := by decide +kernel
theorem dX12_began_4 : decode cX12_began 4 = .ok (.bipush 16, 2) := by decide +kernel
theorem dX12_began_6 : decode cX12_began 6 = .ok (.if_icmp .ge 23, 3) := by decide +kernel
theorem dX12_began_9 : decode cX12_began 9 = .ok (.aload_n 0, 1) := by decide +kernel
theorem dX12_began_10 : decode cX12_began 10 = .ok (.getfield 50, 3) := by decide +kernel
theorem dX12_began_13 : decode cX12_began 13 = .ok (.aload_n 0, 1) := by decide +kernel
theorem dX12_began_14 : decode cX12_began 14 = .ok (.getfield 306, 3) := by decide +kernel
theorem dX12_began_17 : decode cX12_began 17 = .ok (.iload_n 1, 1) := by decide +kernel
theorem dX12_began_18 : decode cX12_began 18 = .ok (.iastore, 1) := by decide +kernel
theorem dX12_began_19 : decode cX12_began 19 = .ok (.aload_n 0, 1) := by decide +kernel
theorem dX12_began_20 : decode cX12_began 20 = .ok (.dup, 1) := by decide +kernel
theorem dX12_began_21 : decode cX12_began 21 = .ok (.getfield 306, 3) := by decide +kernel
theorem dX12_began_24 : decode cX12_began 24 = .ok (.iconst 1, 1) := by decide +kernel
theorem dX12_began_25 : decode cX12_began 25 = .ok (.iadd, 1) := by decide +kernel
theorem dX12_began_26 : decode cX12_began 26 = .ok (.putfield 306, 3) := by decide +kernel
theorem dX12_began_29 : decode cX12_began 29 = .ok (.return_, 1) := by decide +kernel
abbrev cX12_plainSize : ByteArray := prog_14_method_74_code
def yX12_plainSize : MethodName := ⟨"DayTonguesModel", "plainSize", "(II)I"⟩
def mX12_plainSize : dt_MD := (yX12_plainSize, cX12_plainSize, 3, some .int)
theorem dX12_plainSize_0 : decode cX12_plainSize 0 = .ok (.aload_n 0, 1) := by decide +kernel
theorem dX12_plainSize_1 : decode cX12_plainSize 1 = .ok (.bipush 10, 2) := by decide +kernel
theorem dX12_plainSize_3 : decode cX12_plainSize 3 = .ok (.invokevirtual 309, 3) := by decide +kernel
theorem dX12_plainSize_6 : decode cX12_plainSize 6 = .ok (.aload_n 0, 1) := by decide +kernel
theorem dX12_plainSize_7 : decode cX12_plainSize 7 = .ok (.iload_n 1, 1) := by decide +kernel
theorem dX12_plainSize_8 : decode cX12_plainSize 8 = .ok (.iload_n 2, 1) := by decide +kernel
theorem dX12_plainSize_9 : decode cX12_plainSize 9 = .ok (.invokevirtual 197, 3) := by decide +kernel
theorem dX12_plainSize_12 : decode cX12_plainSize 12 = .ok (.ireturn, 1) := by decide +kernel
abbrev cX12_markOf : ByteArray := prog_14_method_75_code
def yX12_markOf : MethodName := ⟨"DayTonguesModel", "markOf", "(II)I"⟩
def mX12_markOf : dt_MD := (yX12_markOf, cX12_markOf, 5, some .int)
theorem dX12_markOf_0 : decode cX12_markOf 0 = .ok (.aload_n 0, 1) := by decide +kernel
theorem dX12_markOf_1 : decode cX12_markOf 1 = .ok (.iload_n 1, 1) := by decide +kernel
theorem dX12_markOf_2 : decode cX12_markOf 2 = .ok (.iload_n 2, 1) := by decide +kernel
theorem dX12_markOf_3 : decode cX12_markOf 3 = .ok (.invokevirtual 300, 3) := by decide +kernel
theorem dX12_markOf_6 : decode cX12_markOf 6 = .ok (.istore_n 3, 1) := by decide +kernel
theorem dX12_markOf_7 : decode cX12_markOf 7 = .ok (.iload_n 3, 1) := by decide +kernel
theorem dX12_markOf_8 : decode cX12_markOf 8 = .ok (.iconst 4, 1) := by decide +kernel
theorem dX12_markOf_9 : decode cX12_markOf 9 = .ok (.if_icmp .lt 24, 3) := by decide +kernel
theorem dX12_markOf_12 : decode cX12_markOf 12 = .ok (.aload_n 0, 1) := by decide +kernel
theorem dX12_markOf_13 : decode cX12_markOf 13 = .ok (.bipush 23, 2) := by decide +kernel
theorem dX12_markOf_15 : decode cX12_markOf 15 = .ok (.invokevirtual 309, 3) := by decide +kernel
theorem dX12_markOf_18 : decode cX12_markOf 18 = .ok (.aload_n 0, 1) := by decide +kernel
theorem dX12_markOf_19 : decode cX12_markOf 19 = .ok (.bipush 20, 2) := by decide +kernel
theorem dX12_markOf_21 : decode cX12_markOf 21 = .ok (.invokevirtual 309, 3) := by decide +kernel
theorem dX12_markOf_24 : decode cX12_markOf 24 = .ok (.iload_n 2, 1) := by decide +kernel
theorem dX12_markOf_25 : decode cX12_markOf 25 = .ok (.aload_n 0, 1) := by decide +kernel
theorem dX12_markOf_26 : decode cX12_markOf 26 = .ok (.iload_n 1, 1) := by decide +kernel
theorem dX12_markOf_27 : decode cX12_markOf 27 = .ok (.iload_n 2, 1) := by decide +kernel
theorem dX12_markOf_28 : decode cX12_markOf 28 = .ok (.invokevirtual 249, 3) := by decide +kernel
theorem dX12_markOf_31 : decode cX12_markOf 31 = .ok (.isub, 1) := by decide +kernel
theorem dX12_markOf_32 : decode cX12_markOf 32 = .ok (.ireturn, 1) := by decide +kernel
theorem dX12_markOf_33 : decode cX12_markOf 33 = .ok (.iload_n 3, 1) := by decide +kernel
theorem dX12_markOf_34 : decode cX12_markOf 34 = .ok (.iconst 3, 1) := by decide +kernel
theorem dX12_markOf_35 : decode cX12_markOf 35 = .ok (.if_icmp .ne 9, 3) := by decide +kernel
theorem dX12_markOf_38 : decode cX12_markOf 38 = .ok (.aload_n 0, 1) := by decide +kernel
theorem dX12_markOf_39 : decode cX12_markOf 39 = .ok (.bipush 24, 2) := by decide +kernel
theorem dX12_markOf_41 : decode cX12_markOf 41 = .ok (.invokevirtual 309, 3) := by decide +kernel
theorem dX12_markOf_44 : decode cX12_markOf 44 = .ok (.iload_n 3, 1) := by decide +kernel
theorem dX12_markOf_45 : decode cX12_markOf 45 = .ok (.iconst 1, 1) := by decide +kernel
theorem dX12_markOf_46 : decode cX12_markOf 46 = .ok (.if_icmp .eq 9, 3) := by decide +kernel
theorem dX12_markOf_49 : decode cX12_markOf 49 = .ok (.aload_n 0, 1) := by decide +kernel
theorem dX12_markOf_50 : decode cX12_markOf 50 = .ok (.bipush 22, 2) := by decide +kernel
theorem dX12_markOf_52 : decode cX12_markOf 52 = .ok (.invokevirtual 309, 3) := by decide +kernel
theorem dX12_markOf_55 : decode cX12_markOf 55 = .ok (.aload_n 0, 1) := by decide +kernel
theorem dX12_markOf_56 : decode cX12_markOf 56 = .ok (.bipush 21, 2) := by decide +kernel
theorem dX12_markOf_58 : decode cX12_markOf 58 = .ok (.invokevirtual 309, 3) := by decide +kernel
theorem dX12_markOf_61 : decode cX12_markOf 61 = .ok (.aload_n 0, 1) := by decide +kernel
theorem dX12_markOf_62 : decode cX12_markOf 62 = .ok (.bipush 20, 2) := by decide +kernel
theorem dX12_markOf_64 : decode cX12_markOf 64 = .ok (.invokevirtual 309, 3) := by decide +kernel
theorem dX12_markOf_67 : decode cX12_markOf 67 = .ok (.iload_n 2, 1) := by decide +kernel
theorem dX12_markOf_68 : decode cX12_markOf 68 = .ok (.aload_n 0, 1) := by decide +kernel
theorem dX12_markOf_69 : decode cX12_markOf 69 = .ok (.iload_n 1, 1) := by decide +kernel
theorem dX12_markOf_70 : decode cX12_markOf 70 = .ok (.iload_n 2, 1) := by decide +kernel
theorem dX12_markOf_71 : decode cX12_markOf 71 = .ok (.iconst 0, 1) := by decide +kernel
theorem dX12_markOf_72 : decode cX12_markOf 72 = .ok (.invokevirtual 200, 3) := by decide +kernel
theorem dX12_markOf_75 : decode cX12_markOf 75 = .ok (.iadd, 1) := by decide +kernel
theorem dX12_markOf_76 : decode cX12_markOf 76 = .ok (.iload_n 3, 1) := by decide +kernel
theorem dX12_markOf_77 : decode cX12_markOf 77 = .ok (.iconst 1, 1) := by decide +kernel
theorem dX12_markOf_78 : decode cX12_markOf 78 = .ok (.if_icmp .ne 7, 3) := by decide +kernel
theorem dX12_markOf_81 : decode cX12_markOf 81 = .ok (.iconst 0, 1) := by decide +kernel
theorem dX12_markOf_82 : decode cX12_markOf 82 = .ok (.goto 6, 3) := by decide +kernel
theorem dX12_markOf_85 : decode cX12_markOf 85 = .ok (.sipush 1000, 3) := by decide +kernel
theorem dX12_markOf_88 : decode cX12_markOf 88 = .ok (.iadd, 1) := by decide +kernel
theorem dX12_markOf_89 : decode cX12_markOf 89 = .ok (.istore 4, 2) := by decide +kernel
theorem dX12_markOf_91 : decode cX12_markOf 91 = .ok (.iload_n 3, 1) := by decide +kernel
theorem dX12_markOf_92 : decode cX12_markOf 92 = .ok (.iconst 3, 1) := by decide +kernel
theorem dX12_markOf_93 : decode cX12_markOf 93 = .ok (.if_icmp .ne 10, 3) := by decide +kernel
theorem dX12_markOf_96 : decode cX12_markOf 96 = .ok (.iconst 2, 1) := by decide +kernel
theorem dX12_markOf_97 : decode cX12_markOf 97 = .ok (.iload 4, 2) := by decide +kernel
theorem dX12_markOf_99 : decode cX12_markOf 99 = .ok (.imul, 1) := by decide +kernel
theorem dX12_markOf_100 : decode cX12_markOf 100 = .ok (.goto 5, 3) := by decide +kernel
theorem dX12_markOf_103 : decode cX12_markOf 103 = .ok (.iload 4, 2) := by decide +kernel
theorem dX12_markOf_105 : decode cX12_markOf 105 = .ok (.ireturn, 1) := by decide +kernel
abbrev cX12_sizeOf : ByteArray := prog_14_method_76_code
def yX12_sizeOf : MethodName := ⟨"DayTonguesModel", "sizeOf", "(II)I"⟩
def mX12_sizeOf : dt_MD := (yX12_sizeOf, cX12_sizeOf, 6, some .int)
theorem dX12_sizeOf_0 : decode cX12_sizeOf 0 = .ok (.aload_n 0, 1) := by decide +kernel
theorem dX12_sizeOf_1 : decode cX12_sizeOf 1 = .ok (.iload_n 1, 1) := by decide +kernel
theorem dX12_sizeOf_2 : decode cX12_sizeOf 2 = .ok (.iload_n 2, 1) := by decide +kernel
theorem dX12_sizeOf_3 : decode cX12_sizeOf 3 = .ok (.invokevirtual 300, 3) := by decide +kernel
theorem dX12_sizeOf_6 : decode cX12_sizeOf 6 = .ok (.istore_n 3, 1) := by decide +kernel
theorem dX12_sizeOf_7 : decode cX12_sizeOf 7 = .ok (.iload_n 3, 1) := by decide +kernel
theorem dX12_sizeOf_8 : decode cX12_sizeOf 8 = .ok (.iconst 3, 1) := by decide +kernel
theorem dX12_sizeOf_9 : decode cX12_sizeOf 9 = .ok (.if_icmp .eq 8, 3) := by decide +kernel
theorem dX12_sizeOf_12 : decode cX12_sizeOf 12 = .ok (.iload_n 3, 1) := by decide +kernel
theorem dX12_sizeOf_13 : decode cX12_sizeOf 13 = .ok (.iconst 5, 1) := by decide +kernel
theorem dX12_sizeOf_14 : decode cX12_sizeOf 14 = .ok (.if_icmp .ne 19, 3) := by decide +kernel
theorem dX12_sizeOf_17 : decode cX12_sizeOf 17 = .ok (.aload_n 0, 1) := by decide +kernel
theorem dX12_sizeOf_18 : decode cX12_sizeOf 18 = .ok (.iload_n 3, 1) := by decide +kernel
theorem dX12_sizeOf_19 : decode cX12_sizeOf 19 = .ok (.iconst 3, 1) := by decide +kernel
theorem dX12_sizeOf_20 : decode cX12_sizeOf 20 = .ok (.if_icmp .ne 8, 3) := by decide +kernel
theorem dX12_sizeOf_23 : decode cX12_sizeOf 23 = .ok (.bipush 12, 2) := by decide +kernel
theorem dX12_sizeOf_25 : decode cX12_sizeOf 25 = .ok (.goto 5, 3) := by decide +kernel
theorem dX12_sizeOf_28 : decode cX12_sizeOf 28 = .ok (.bipush 14, 2) := by decide +kernel
theorem dX12_sizeOf_30 : decode cX12_sizeOf 30 = .ok (.invokevirtual 309, 3) := by decide +kernel
theorem dX12_sizeOf_33 : decode cX12_sizeOf 33 = .ok (.aload_n 0, 1) := by decide +kernel
theorem dX12_sizeOf_34 : decode cX12_sizeOf 34 = .ok (.iload_n 3, 1) := by decide +kernel
theorem dX12_sizeOf_35 : decode cX12_sizeOf 35 = .ok (.iconst 4, 1) := by decide +kernel
theorem dX12_sizeOf_36 : decode cX12_sizeOf 36 = .ok (.if_icmp .ge 8, 3) := by decide +kernel
theorem dX12_sizeOf_39 : decode cX12_sizeOf 39 = .ok (.bipush 11, 2) := by decide +kernel
theorem dX12_sizeOf_41 : decode cX12_sizeOf 41 = .ok (.goto 5, 3) := by decide +kernel
theorem dX12_sizeOf_44 : decode cX12_sizeOf 44 = .ok (.bipush 13, 2) := by decide +kernel
theorem dX12_sizeOf_46 : decode cX12_sizeOf 46 = .ok (.invokevirtual 309, 3) := by decide +kernel
theorem dX12_sizeOf_49 : decode cX12_sizeOf 49 = .ok (.aload_n 0, 1) := by decide +kernel
theorem dX12_sizeOf_50 : decode cX12_sizeOf 50 = .ok (.iload_n 1, 1) := by decide +kernel
theorem dX12_sizeOf_51 : decode cX12_sizeOf 51 = .ok (.iload_n 2, 1) := by decide +kernel
theorem dX12_sizeOf_52 : decode cX12_sizeOf 52 = .ok (.invokevirtual 312, 3) := by decide +kernel
theorem dX12_sizeOf_55 : decode cX12_sizeOf 55 = .ok (.istore 4, 2) := by decide +kernel
theorem dX12_sizeOf_57 : decode cX12_sizeOf 57 = .ok (.aload_n 0, 1) := by decide +kernel
theorem dX12_sizeOf_58 : decode cX12_sizeOf 58 = .ok (.iload_n 1, 1) := by decide +kernel
theorem dX12_sizeOf_59 : decode cX12_sizeOf 59 = .ok (.iload_n 2, 1) := by decide +kernel
theorem dX12_sizeOf_60 : decode cX12_sizeOf 60 = .ok (.invokevirtual 315, 3) := by decide +kernel
theorem dX12_sizeOf_63 : decode cX12_sizeOf 63 = .ok (.istore 5, 2) := by decide +kernel
theorem dX12_sizeOf_65 : decode cX12_sizeOf 65 = .ok (.iload_n 3, 1) := by decide +kernel
theorem dX12_sizeOf_66 : decode cX12_sizeOf 66 = .ok (.iconst 3, 1) := by decide +kernel
theorem dX12_sizeOf_67 : decode cX12_sizeOf 67 = .ok (.if_icmp .ne 12, 3) := by decide +kernel
theorem dX12_sizeOf_70 : decode cX12_sizeOf 70 = .ok (.iload 4, 2) := by decide +kernel
theorem dX12_sizeOf_72 : decode cX12_sizeOf 72 = .ok (.ineg, 1) := by decide +kernel
theorem dX12_sizeOf_73 : decode cX12_sizeOf 73 = .ok (.iload 5, 2) := by decide +kernel
theorem dX12_sizeOf_75 : decode cX12_sizeOf 75 = .ok (.isub, 1) := by decide +kernel
theorem dX12_sizeOf_76 : decode cX12_sizeOf 76 = .ok (.goto 36, 3) := by decide +kernel
theorem dX12_sizeOf_79 : decode cX12_sizeOf 79 = .ok (.iload_n 3, 1) := by decide +kernel
theorem dX12_sizeOf_80 : decode cX12_sizeOf 80 = .ok (.iconst 4, 1) := by decide +kernel
theorem dX12_sizeOf_81 : decode cX12_sizeOf 81 = .ok (.if_icmp .ge 11, 3) := by decide +kernel
theorem dX12_sizeOf_84 : decode cX12_sizeOf 84 = .ok (.iload 4, 2) := by decide +kernel
theorem dX12_sizeOf_86 : decode cX12_sizeOf 86 = .ok (.iload 5, 2) := by decide +kernel
theorem dX12_sizeOf_88 : decode cX12_sizeOf 88 = .ok (.iadd, 1) := by decide +kernel
theorem dX12_sizeOf_89 : decode cX12_sizeOf 89 = .ok (.goto 23, 3) := by decide +kernel
theorem dX12_sizeOf_92 : decode cX12_sizeOf 92 = .ok (.iload_n 3, 1) := by decide +kernel
theorem dX12_sizeOf_93 : decode cX12_sizeOf 93 = .ok (.iconst 4, 1) := by decide +kernel
theorem dX12_sizeOf_94 : decode cX12_sizeOf 94 = .ok (.if_icmp .ne 11, 3) := by decide +kernel
theorem dX12_sizeOf_97 : decode cX12_sizeOf 97 = .ok (.iload 4, 2) := by decide +kernel
theorem dX12_sizeOf_99 : decode cX12_sizeOf 99 = .ok (.iload 5, 2) := by decide +kernel
theorem dX12_sizeOf_101 : decode cX12_sizeOf 101 = .ok (.isub, 1) := by decide +kernel
theorem dX12_sizeOf_102 : decode cX12_sizeOf 102 = .ok (.goto 10, 3) := by decide +kernel
theorem dX12_sizeOf_105 : decode cX12_sizeOf 105 = .ok (.iconst 2, 1) := by decide +kernel
theorem dX12_sizeOf_106 : decode cX12_sizeOf 106 = .ok (.iload 4, 2) := by decide +kernel
theorem dX12_sizeOf_108 : decode cX12_sizeOf 108 = .ok (.iload 5, 2) := by decide +kernel
theorem dX12_sizeOf_110 : decode cX12_sizeOf 110 = .ok (.isub, 1) := by decide +kernel
theorem dX12_sizeOf_111 : decode cX12_sizeOf 111 = .ok (.imul, 1) := by decide +kernel
theorem dX12_sizeOf_112 : decode cX12_sizeOf 112 = .ok (.ireturn, 1) := by decide +kernel
abbrev cX12_ask : ByteArray := prog_14_method_77_code
def yX12_ask : MethodName := ⟨"DayTonguesModel", "ask", "(III)I"⟩
def mX12_ask : dt_MD := (yX12_ask, cX12_ask, 4, some .int)
theorem dX12_ask_0 : decode cX12_ask 0 = .ok (.aload_n 0, 1) := by decide +kernel
theorem dX12_ask_1 : decode cX12_ask 1 = .ok (.iconst 0, 1) := by decide +kernel
theorem dX12_ask_2 : decode cX12_ask 2 = .ok (.putfield 53, 3) := by decide +kernel
theorem dX12_ask_5 : decode cX12_ask 5 = .ok (.aload_n 0, 1) := by decide +kernel
theorem dX12_ask_6 : decode cX12_ask 6 = .ok (.iload_n 1, 1) := by decide +kernel
theorem dX12_ask_7 : decode cX12_ask 7 = .ok (.iload_n 2, 1) := by decide +kernel
theorem dX12_ask_8 : decode cX12_ask 8 = .ok (.invokevirtual 212, 3) := by decide +kernel
theorem dX12_ask_11 : decode cX12_ask 11 = .ok (.ifCond .eq 13, 3) := by decide +kernel
theorem dX12_ask_14 : decode cX12_ask 14 = .ok (.iload_n 3, 1) := by decide +kernel
theorem dX12_ask_15 : decode cX12_ask 15 = .ok (.i2l, 1) := by decide +kernel
theorem dX12_ask_16 : decode cX12_ask 16 = .ok (.lconst 0, 1) := by decide +kernel
theorem dX12_ask_17 : decode cX12_ask 17 = .ok (.lconst 1, 1) := by decide +kernel
theorem dX12_ask_18 : decode cX12_ask 18 = .ok (.invokestatic 63, 3) := by decide +kernel
theorem dX12_ask_21 : decode cX12_ask 21 = .ok (.ifCond .ne 6, 3) := by decide +kernel
theorem dX12_ask_24 : decode cX12_ask 24 = .ok (.ldc 73, 2) := by decide +kernel
theorem dX12_ask_26 : decode cX12_ask 26 = .ok (.ireturn, 1) := by decide +kernel
theorem dX12_ask_27 : decode cX12_ask 27 = .ok (.aload_n 0, 1) := by decide +kernel
theorem dX12_ask_28 : decode cX12_ask 28 = .ok (.iconst 0, 1) := by decide +kernel
theorem dX12_ask_29 : decode cX12_ask 29 = .ok (.putfield 306, 3) := by decide +kernel
theorem dX12_ask_32 : decode cX12_ask 32 = .ok (.iload_n 3, 1) := by decide +kernel
theorem dX12_ask_33 : decode cX12_ask 33 = .ok (.ifCond .ne 12, 3) := by decide +kernel
theorem dX12_ask_36 : decode cX12_ask 36 = .ok (.aload_n 0, 1) := by decide +kernel
theorem dX12_ask_37 : decode cX12_ask 37 = .ok (.iload_n 1, 1) := by decide +kernel
theorem dX12_ask_38 : decode cX12_ask 38 = .ok (.iload_n 2, 1) := by decide +kernel
theorem dX12_ask_39 : decode cX12_ask 39 = .ok (.invokevirtual 318, 3) := by decide +kernel
theorem dX12_ask_42 : decode cX12_ask 42 = .ok (.goto 9, 3) := by decide +kernel
theorem dX12_ask_45 : decode cX12_ask 45 = .ok (.aload_n 0, 1) := by decide +kernel
theorem dX12_ask_46 : decode cX12_ask 46 = .ok (.iload_n 1, 1) := by decide +kernel
theorem dX12_ask_47 : decode cX12_ask 47 = .ok (.iload_n 2, 1) := by decide +kernel
theorem dX12_ask_48 : decode cX12_ask 48 = .ok (.invokevirtual 315, 3) := by decide +kernel
theorem dX12_ask_51 : decode cX12_ask 51 = .ok (.ireturn, 1) := by decide +kernel
abbrev cX12_trace : ByteArray := prog_14_method_78_code
def yX12_trace : MethodName := ⟨"DayTonguesModel", "trace", "(I)I"⟩
def mX12_trace : dt_MD := (yX12_trace, cX12_trace, 2, some .int)
theorem dX12_trace_0 : decode cX12_trace 0 = .ok (.aload_n 0, 1) := by decide +kernel
theorem dX12_trace_1 : decode cX12_trace 1 = .ok (.iconst 0, 1) := by decide +kernel
theorem dX12_trace_2 : decode cX12_trace 2 = .ok (.putfield 53, 3) := by decide +kernel
theorem dX12_trace_5 : decode cX12_trace 5 = .ok (.iload_n 1, 1) := by decide +kernel
theorem dX12_trace_6 : decode cX12_trace 6 = .ok (.i2l, 1) := by decide +kernel
theorem dX12_trace_7 : decode cX12_trace 7 = .ok (.lconst 0, 1) := by decide +kernel
theorem dX12_trace_8 : decode cX12_trace 8 = .ok (.aload_n 0, 1) := by decide +kernel
theorem dX12_trace_9 : decode cX12_trace 9 = .ok (.getfield 306, 3) := by decide +kernel
theorem dX12_trace_12 : decode cX12_trace 12 = .ok (.iconst 1, 1) := by decide +kernel
theorem dX12_trace_13 : decode cX12_trace 13 = .ok (.isub, 1) := by decide +kernel
theorem dX12_trace_14 : decode cX12_trace 14 = .ok (.i2l, 1) := by decide +kernel
theorem dX12_trace_15 : decode cX12_trace 15 = .ok (.invokestatic 63, 3) := by decide +kernel
theorem dX12_trace_18 : decode cX12_trace 18 = .ok (.ifCond .eq 12, 3) := by decide +kernel
theorem dX12_trace_21 : decode cX12_trace 21 = .ok (.aload_n 0, 1) := by decide +kernel
theorem dX12_trace_22 : decode cX12_trace 22 = .ok (.getfield 50, 3) := by decide +kernel
theorem dX12_trace_25 : decode cX12_trace 25 = .ok (.iload_n 1, 1) := by decide +kernel
theorem dX12_trace_26 : decode cX12_trace 26 = .ok (.iaload, 1) := by decide +kernel
theorem dX12_trace_27 : decode cX12_trace 27 = .ok (.goto 5, 3) := by decide +kernel
theorem dX12_trace_30 : decode cX12_trace 30 = .ok (.ldc 89, 2) := by decide +kernel
theorem dX12_trace_32 : decode cX12_trace 32 = .ok (.ireturn, 1) := by decide +kernel
abbrev cX12_count : ByteArray := prog_14_method_79_code
def yX12_count : MethodName := ⟨"DayTonguesModel", "count", "(I)I"⟩
def mX12_count : dt_MD := (yX12_count, cX12_count, 4, some .int)
theorem dX12_count_0 : decode cX12_count 0 = .ok (.aload_n 0, 1) := by decide +kernel
theorem dX12_count_1 : decode cX12_count 1 = .ok (.iconst 0, 1) := by decide +kernel
theorem dX12_count_2 : decode cX12_count 2 = .ok (.putfield 53, 3) := by decide +kernel
theorem dX12_count_5 : decode cX12_count 5 = .ok (.iconst 0, 1) := by decide +kernel
theorem dX12_count_6 : decode cX12_count 6 = .ok (.istore_n 2, 1) := by decide +kernel
theorem dX12_count_7 : decode cX12_count 7 = .ok (.iload_n 1, 1) := by decide +kernel
theorem dX12_count_8 : decode cX12_count 8 = .ok (.tableswitch 130 0 5 #[40, 73, 80, 111, 118, 125], 40) := by decide +kernel
theorem dX12_count_48 : decode cX12_count 48 = .ok (.iconst 0, 1) := by decide +kernel
theorem dX12_count_49 : decode cX12_count 49 = .ok (.istore_n 3, 1) := by decide +kernel
theorem dX12_count_50 : decode cX12_count 50 = .ok (.iload_n 3, 1) := by decide +kernel
theorem dX12_count_51 : decode cX12_count 51 = .ok (.bipush 8, 2) := by decide +kernel
theorem dX12_count_53 : decode cX12_count 53 = .ok (.if_icmp .ge 26, 3) := by decide +kernel
theorem dX12_count_56 : decode cX12_count 56 = .ok (.iload_n 2, 1) := by decide +kernel
theorem dX12_count_57 : decode cX12_count 57 = .ok (.aload_n 0, 1) := by decide +kernel
theorem dX12_count_58 : decode cX12_count 58 = .ok (.getfield 7, 3) := by decide +kernel
theorem dX12_count_61 : decode cX12_count 61 = .ok (.iload_n 3, 1) := by decide +kernel
theorem dX12_count_62 : decode cX12_count 62 = .ok (.iaload, 1) := by decide +kernel
theorem dX12_count_63 : decode cX12_count 63 = .ok (.ifCond .lt 7, 3) := by decide +kernel
theorem dX12_count_66 : decode cX12_count 66 = .ok (.iconst 1, 1) := by decide +kernel
theorem dX12_count_67 : decode cX12_count 67 = .ok (.goto 4, 3) := by decide +kernel
theorem dX12_count_70 : decode cX12_count 70 = .ok (.iconst 0, 1) := by decide +kernel
theorem dX12_count_71 : decode cX12_count 71 = .ok (.iadd, 1) := by decide +kernel
theorem dX12_count_72 : decode cX12_count 72 = .ok (.istore_n 2, 1) := by decide +kernel
theorem dX12_count_73 : decode cX12_count 73 = .ok (.iinc 3 1, 3) := by decide +kernel
theorem dX12_count_76 : decode cX12_count 76 = .ok (.goto (-26), 3) := by decide +kernel
theorem dX12_count_79 : decode cX12_count 79 = .ok (.iload_n 2, 1) := by decide +kernel
theorem dX12_count_80 : decode cX12_count 80 = .ok (.ireturn, 1) := by decide +kernel
theorem dX12_count_81 : decode cX12_count 81 = .ok (.aload_n 0, 1) := by decide +kernel
theorem dX12_count_82 : decode cX12_count 82 = .ok (.getfield 19, 3) := by decide +kernel
theorem dX12_count_85 : decode cX12_count 85 = .ok (.iconst 0, 1) := by decide +kernel
theorem dX12_count_86 : decode cX12_count 86 = .ok (.iaload, 1) := by decide +kernel
theorem dX12_count_87 : decode cX12_count 87 = .ok (.ireturn, 1) := by decide +kernel
theorem dX12_count_88 : decode cX12_count 88 = .ok (.iconst 0, 1) := by decide +kernel
theorem dX12_count_89 : decode cX12_count 89 = .ok (.istore_n 3, 1) := by decide +kernel
theorem dX12_count_90 : decode cX12_count 90 = .ok (.iload_n 3, 1) := by decide +kernel
theorem dX12_count_91 : decode cX12_count 91 = .ok (.aload_n 0, 1) := by decide +kernel
theorem dX12_count_92 : decode cX12_count 92 = .ok (.getfield 19, 3) := by decide +kernel
theorem dX12_count_95 : decode cX12_count 95 = .ok (.iconst 0, 1) := by decide +kernel
theorem dX12_count_96 : decode cX12_count 96 = .ok (.iaload, 1) := by decide +kernel
theorem dX12_count_97 : decode cX12_count 97 = .ok (.if_icmp .ge 20, 3) := by decide +kernel
theorem dX12_count_100 : decode cX12_count 100 = .ok (.iload_n 2, 1) := by decide +kernel
theorem dX12_count_101 : decode cX12_count 101 = .ok (.aload_n 0, 1) := by decide +kernel
theorem dX12_count_102 : decode cX12_count 102 = .ok (.getfield 19, 3) := by decide +kernel
theorem dX12_count_105 : decode cX12_count 105 = .ok (.iconst 3, 1) := by decide +kernel
theorem dX12_count_106 : decode cX12_count 106 = .ok (.iload_n 3, 1) := by decide +kernel
theorem dX12_count_107 : decode cX12_count 107 = .ok (.iadd, 1) := by decide +kernel
theorem dX12_count_108 : decode cX12_count 108 = .ok (.iaload, 1) := by decide +kernel
theorem dX12_count_109 : decode cX12_count 109 = .ok (.iadd, 1) := by decide +kernel
theorem dX12_count_110 : decode cX12_count 110 = .ok (.istore_n 2, 1) := by decide +kernel
theorem dX12_count_111 : decode cX12_count 111 = .ok (.iinc 3 1, 3) := by decide +kernel
theorem dX12_count_114 : decode cX12_count 114 = .ok (.goto (-24), 3) := by decide +kernel
theorem dX12_count_117 : decode cX12_count 117 = .ok (.iload_n 2, 1) := by decide +kernel
theorem dX12_count_118 : decode cX12_count 118 = .ok (.ireturn, 1) := by decide +kernel
theorem dX12_count_119 : decode cX12_count 119 = .ok (.aload_n 0, 1) := by decide +kernel
theorem dX12_count_120 : decode cX12_count 120 = .ok (.getfield 19, 3) := by decide +kernel
theorem dX12_count_123 : decode cX12_count 123 = .ok (.iconst 1, 1) := by decide +kernel
theorem dX12_count_124 : decode cX12_count 124 = .ok (.iaload, 1) := by decide +kernel
theorem dX12_count_125 : decode cX12_count 125 = .ok (.ireturn, 1) := by decide +kernel
theorem dX12_count_126 : decode cX12_count 126 = .ok (.aload_n 0, 1) := by decide +kernel
theorem dX12_count_127 : decode cX12_count 127 = .ok (.getfield 19, 3) := by decide +kernel
theorem dX12_count_130 : decode cX12_count 130 = .ok (.iconst 2, 1) := by decide +kernel
theorem dX12_count_131 : decode cX12_count 131 = .ok (.iaload, 1) := by decide +kernel
theorem dX12_count_132 : decode cX12_count 132 = .ok (.ireturn, 1) := by decide +kernel
theorem dX12_count_133 : decode cX12_count 133 = .ok (.aload_n 0, 1) := by decide +kernel
theorem dX12_count_134 : decode cX12_count 134 = .ok (.getfield 80, 3) := by decide +kernel
theorem dX12_count_137 : decode cX12_count 137 = .ok (.ireturn, 1) := by decide +kernel
theorem dX12_count_138 : decode cX12_count 138 = .ok (.ldc 73, 2) := by decide +kernel
theorem dX12_count_140 : decode cX12_count 140 = .ok (.ireturn, 1) := by decide +kernel
abbrev cX12_status : ByteArray := prog_14_method_80_code
def yX12_status : MethodName := ⟨"DayTonguesModel", "status", "()I"⟩
def mX12_status : dt_MD := (yX12_status, cX12_status, 1, some .int)
theorem dX12_status_0 : decode cX12_status 0 = .ok (.aload_n 0, 1) := by decide +kernel
theorem dX12_status_1 : decode cX12_status 1 = .ok (.iconst 0, 1) := by decide +kernel
theorem dX12_status_2 : decode cX12_status 2 = .ok (.putfield 53, 3) := by decide +kernel
theorem dX12_status_5 : decode cX12_status 5 = .ok (.aload_n 0, 1) := by decide +kernel
theorem dX12_status_6 : decode cX12_status 6 = .ok (.getfield 57, 3) := by decide +kernel
theorem dX12_status_9 : decode cX12_status 9 = .ok (.ireturn, 1) := by decide +kernel
