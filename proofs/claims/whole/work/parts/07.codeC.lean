abbrev cX11_init : ByteArray := prog_1_method_1_code
def yX11_init : MethodName := ⟨"DayTongues", "<init>", "()V"⟩
def mX11_init : dt_MD := (yX11_init, cX11_init, 1, none)
theorem dX11_init_0 : decode cX11_init 0 = .ok (.aload_n 0, 1) := by decide +kernel
theorem dX11_init_1 : decode cX11_init 1 = .ok (.invokespecial 1, 3) := by decide +kernel
theorem dX11_init_4 : decode cX11_init 4 = .ok (.aload_n 0, 1) := by decide +kernel
theorem dX11_init_5 : decode cX11_init 5 = .ok (.new 7, 3) := by decide +kernel
theorem dX11_init_8 : decode cX11_init 8 = .ok (.dup, 1) := by decide +kernel
theorem dX11_init_9 : decode cX11_init 9 = .ok (.invokespecial 9, 3) := by decide +kernel
theorem dX11_init_12 : decode cX11_init 12 = .ok (.putfield 10, 3) := by decide +kernel
theorem dX11_init_15 : decode cX11_init 15 = .ok (.aload_n 0, 1) := by decide +kernel
theorem dX11_init_16 : decode cX11_init 16 = .ok (.new 16, 3) := by decide +kernel
theorem dX11_init_19 : decode cX11_init 19 = .ok (.dup, 1) := by decide +kernel
theorem dX11_init_20 : decode cX11_init 20 = .ok (.invokespecial 18, 3) := by decide +kernel
theorem dX11_init_23 : decode cX11_init 23 = .ok (.putfield 19, 3) := by decide +kernel
theorem dX11_init_26 : decode cX11_init 26 = .ok (.aload_n 0, 1) := by decide +kernel
theorem dX11_init_27 : decode cX11_init 27 = .ok (.new 23, 3) := by decide +kernel
theorem dX11_init_30 : decode cX11_init 30 = .ok (.dup, 1) := by decide +kernel
theorem dX11_init_31 : decode cX11_init 31 = .ok (.invokespecial 25, 3) := by decide +kernel
theorem dX11_init_34 : decode cX11_init 34 = .ok (.putfield 26, 3) := by decide +kernel
theorem dX11_init_37 : decode cX11_init 37 = .ok (.aload_n 0, 1) := by decide +kernel
theorem dX11_init_38 : decode cX11_init 38 = .ok (.new 23, 3) := by decide +kernel
theorem dX11_init_41 : decode cX11_init 41 = .ok (.dup, 1) := by decide +kernel
theorem dX11_init_42 : decode cX11_init 42 = .ok (.invokespecial 25, 3) := by decide +kernel
theorem dX11_init_45 : decode cX11_init 45 = .ok (.putfield 30, 3) := by decide +kernel
theorem dX11_init_48 : decode cX11_init 48 = .ok (.aload_n 0, 1) := by decide +kernel
theorem dX11_init_49 : decode cX11_init 49 = .ok (.new 23, 3) := by decide +kernel
theorem dX11_init_52 : decode cX11_init 52 = .ok (.dup, 1) := by decide +kernel
theorem dX11_init_53 : decode cX11_init 53 = .ok (.invokespecial 25, 3) := by decide +kernel
theorem dX11_init_56 : decode cX11_init 56 = .ok (.putfield 33, 3) := by decide +kernel
theorem dX11_init_59 : decode cX11_init 59 = .ok (.aload_n 0, 1) := by decide +kernel
theorem dX11_init_60 : decode cX11_init 60 = .ok (.new 23, 3) := by decide +kernel
theorem dX11_init_63 : decode cX11_init 63 = .ok (.dup, 1) := by decide +kernel
theorem dX11_init_64 : decode cX11_init 64 = .ok (.invokespecial 25, 3) := by decide +kernel
theorem dX11_init_67 : decode cX11_init 67 = .ok (.putfield 36, 3) := by decide +kernel
theorem dX11_init_70 : decode cX11_init 70 = .ok (.aload_n 0, 1) := by decide +kernel
theorem dX11_init_71 : decode cX11_init 71 = .ok (.new 39, 3) := by decide +kernel
theorem dX11_init_74 : decode cX11_init 74 = .ok (.dup, 1) := by decide +kernel
theorem dX11_init_75 : decode cX11_init 75 = .ok (.aload_n 0, 1) := by decide +kernel
theorem dX11_init_76 : decode cX11_init 76 = .ok (.getfield 26, 3) := by decide +kernel
theorem dX11_init_79 : decode cX11_init 79 = .ok (.invokespecial 41, 3) := by decide +kernel
theorem dX11_init_82 : decode cX11_init 82 = .ok (.putfield 44, 3) := by decide +kernel
theorem dX11_init_85 : decode cX11_init 85 = .ok (.aload_n 0, 1) := by decide +kernel
theorem dX11_init_86 : decode cX11_init 86 = .ok (.new 48, 3) := by decide +kernel
theorem dX11_init_89 : decode cX11_init 89 = .ok (.dup, 1) := by decide +kernel
theorem dX11_init_90 : decode cX11_init 90 = .ok (.aload_n 0, 1) := by decide +kernel
theorem dX11_init_91 : decode cX11_init 91 = .ok (.getfield 26, 3) := by decide +kernel
theorem dX11_init_94 : decode cX11_init 94 = .ok (.invokespecial 50, 3) := by decide +kernel
theorem dX11_init_97 : decode cX11_init 97 = .ok (.putfield 51, 3) := by decide +kernel
theorem dX11_init_100 : decode cX11_init 100 = .ok (.aload_n 0, 1) := by decide +kernel
theorem dX11_init_101 : decode cX11_init 101 = .ok (.aconst_null, 1) := by decide +kernel
theorem dX11_init_102 : decode cX11_init 102 = .ok (.putfield 55, 3) := by decide +kernel
theorem dX11_init_105 : decode cX11_init 105 = .ok (.aload_n 0, 1) := by decide +kernel
theorem dX11_init_106 : decode cX11_init 106 = .ok (.iconst 0, 1) := by decide +kernel
theorem dX11_init_107 : decode cX11_init 107 = .ok (.putfield 59, 3) := by decide +kernel
theorem dX11_init_110 : decode cX11_init 110 = .ok (.aload_n 0, 1) := by decide +kernel
theorem dX11_init_111 : decode cX11_init 111 = .ok (.iconst 0, 1) := by decide +kernel
theorem dX11_init_112 : decode cX11_init 112 = .ok (.putfield 63, 3) := by decide +kernel
theorem dX11_init_115 : decode cX11_init 115 = .ok (.return_, 1) := by decide +kernel
abbrev cX11_row : ByteArray := prog_1_method_2_code
def yX11_row : MethodName := ⟨"DayTongues", "row", "(III)I"⟩
def mX11_row : dt_MD := (yX11_row, cX11_row, 4, some .int)
theorem dX11_row_0 : decode cX11_row 0 = .ok (.iload_n 1, 1) := by decide +kernel
theorem dX11_row_1 : decode cX11_row 1 = .ok (.invokestatic 66, 3) := by decide +kernel
theorem dX11_row_4 : decode cX11_row 4 = .ok (.ifCond .eq 18, 3) := by decide +kernel
theorem dX11_row_7 : decode cX11_row 7 = .ok (.iload_n 2, 1) := by decide +kernel
theorem dX11_row_8 : decode cX11_row 8 = .ok (.iconst 0, 1) := by decide +kernel
theorem dX11_row_9 : decode cX11_row 9 = .ok (.iconst 2, 1) := by decide +kernel
theorem dX11_row_10 : decode cX11_row 10 = .ok (.invokestatic 70, 3) := by decide +kernel
theorem dX11_row_13 : decode cX11_row 13 = .ok (.ifCond .eq 9, 3) := by decide +kernel
theorem dX11_row_16 : decode cX11_row 16 = .ok (.iload_n 3, 1) := by decide +kernel
theorem dX11_row_17 : decode cX11_row 17 = .ok (.bipush 40, 2) := by decide +kernel
theorem dX11_row_19 : decode cX11_row 19 = .ok (.if_icmp .le 6, 3) := by decide +kernel
theorem dX11_row_22 : decode cX11_row 22 = .ok (.ldc 74, 2) := by decide +kernel
theorem dX11_row_24 : decode cX11_row 24 = .ok (.ireturn, 1) := by decide +kernel
theorem dX11_row_25 : decode cX11_row 25 = .ok (.iload_n 3, 1) := by decide +kernel
theorem dX11_row_26 : decode cX11_row 26 = .ok (.ifCond .ge 9, 3) := by decide +kernel
theorem dX11_row_29 : decode cX11_row 29 = .ok (.aload_n 0, 1) := by decide +kernel
theorem dX11_row_30 : decode cX11_row 30 = .ok (.iconst 4, 1) := by decide +kernel
theorem dX11_row_31 : decode cX11_row 31 = .ok (.invokevirtual 75, 3) := by decide +kernel
theorem dX11_row_34 : decode cX11_row 34 = .ok (.ireturn, 1) := by decide +kernel
theorem dX11_row_35 : decode cX11_row 35 = .ok (.aload_n 0, 1) := by decide +kernel
theorem dX11_row_36 : decode cX11_row 36 = .ok (.getfield 10, 3) := by decide +kernel
theorem dX11_row_39 : decode cX11_row 39 = .ok (.iload_n 1, 1) := by decide +kernel
theorem dX11_row_40 : decode cX11_row 40 = .ok (.iload_n 2, 1) := by decide +kernel
theorem dX11_row_41 : decode cX11_row 41 = .ok (.iload_n 3, 1) := by decide +kernel
theorem dX11_row_42 : decode cX11_row 42 = .ok (.invokevirtual 79, 3) := by decide +kernel
theorem dX11_row_45 : decode cX11_row 45 = .ok (.aload_n 0, 1) := by decide +kernel
theorem dX11_row_46 : decode cX11_row 46 = .ok (.iload_n 3, 1) := by decide +kernel
theorem dX11_row_47 : decode cX11_row 47 = .ok (.invokevirtual 83, 3) := by decide +kernel
theorem dX11_row_50 : decode cX11_row 50 = .ok (.ireturn, 1) := by decide +kernel
abbrev cX11_set : ByteArray := prog_1_method_3_code
def yX11_set : MethodName := ⟨"DayTongues", "set", "(III)I"⟩
def mX11_set : dt_MD := (yX11_set, cX11_set, 4, some .int)
theorem dX11_set_0 : decode cX11_set 0 = .ok (.iload_n 1, 1) := by decide +kernel
theorem dX11_set_1 : decode cX11_set 1 = .ok (.invokestatic 66, 3) := by decide +kernel
theorem dX11_set_4 : decode cX11_set 4 = .ok (.ifCond .ne 6, 3) := by decide +kernel
theorem dX11_set_7 : decode cX11_set 7 = .ok (.ldc 74, 2) := by decide +kernel
theorem dX11_set_9 : decode cX11_set 9 = .ok (.ireturn, 1) := by decide +kernel
theorem dX11_set_10 : decode cX11_set 10 = .ok (.aload_n 0, 1) := by decide +kernel
theorem dX11_set_11 : decode cX11_set 11 = .ok (.getfield 10, 3) := by decide +kernel
theorem dX11_set_14 : decode cX11_set 14 = .ok (.iload_n 1, 1) := by decide +kernel
theorem dX11_set_15 : decode cX11_set 15 = .ok (.invokevirtual 86, 3) := by decide +kernel
theorem dX11_set_18 : decode cX11_set 18 = .ok (.ifCond .eq 9, 3) := by decide +kernel
theorem dX11_set_21 : decode cX11_set 21 = .ok (.aload_n 0, 1) := by decide +kernel
theorem dX11_set_22 : decode cX11_set 22 = .ok (.iconst 1, 1) := by decide +kernel
theorem dX11_set_23 : decode cX11_set 23 = .ok (.invokevirtual 75, 3) := by decide +kernel
theorem dX11_set_26 : decode cX11_set 26 = .ok (.ireturn, 1) := by decide +kernel
theorem dX11_set_27 : decode cX11_set 27 = .ok (.aload_n 0, 1) := by decide +kernel
theorem dX11_set_28 : decode cX11_set 28 = .ok (.getfield 10, 3) := by decide +kernel
theorem dX11_set_31 : decode cX11_set 31 = .ok (.iload_n 1, 1) := by decide +kernel
theorem dX11_set_32 : decode cX11_set 32 = .ok (.iload_n 2, 1) := by decide +kernel
theorem dX11_set_33 : decode cX11_set 33 = .ok (.iconst 1, 1) := by decide +kernel
theorem dX11_set_34 : decode cX11_set 34 = .ok (.invokevirtual 89, 3) := by decide +kernel
theorem dX11_set_37 : decode cX11_set 37 = .ok (.ifCond .ne 9, 3) := by decide +kernel
theorem dX11_set_40 : decode cX11_set 40 = .ok (.aload_n 0, 1) := by decide +kernel
theorem dX11_set_41 : decode cX11_set 41 = .ok (.iconst 2, 1) := by decide +kernel
theorem dX11_set_42 : decode cX11_set 42 = .ok (.invokevirtual 75, 3) := by decide +kernel
theorem dX11_set_45 : decode cX11_set 45 = .ok (.ireturn, 1) := by decide +kernel
theorem dX11_set_46 : decode cX11_set 46 = .ok (.aload_n 0, 1) := by decide +kernel
theorem dX11_set_47 : decode cX11_set 47 = .ok (.aload_n 0, 1) := by decide +kernel
theorem dX11_set_48 : decode cX11_set 48 = .ok (.getfield 10, 3) := by decide +kernel
theorem dX11_set_51 : decode cX11_set 51 = .ok (.iload_n 1, 1) := by decide +kernel
theorem dX11_set_52 : decode cX11_set 52 = .ok (.iload_n 2, 1) := by decide +kernel
theorem dX11_set_53 : decode cX11_set 53 = .ok (.iload_n 3, 1) := by decide +kernel
theorem dX11_set_54 : decode cX11_set 54 = .ok (.invokevirtual 92, 3) := by decide +kernel
theorem dX11_set_57 : decode cX11_set 57 = .ok (.invokevirtual 83, 3) := by decide +kernel
theorem dX11_set_60 : decode cX11_set 60 = .ok (.ireturn, 1) := by decide +kernel
abbrev cX11_copy : ByteArray := prog_1_method_4_code
def yX11_copy : MethodName := ⟨"DayTongues", "copy", "(IIIII)I"⟩
def mX11_copy : dt_MD := (yX11_copy, cX11_copy, 6, some .int)
theorem dX11_copy_0 : decode cX11_copy 0 = .ok (.iload_n 1, 1) := by decide +kernel
theorem dX11_copy_1 : decode cX11_copy 1 = .ok (.invokestatic 66, 3) := by decide +kernel
theorem dX11_copy_4 : decode cX11_copy 4 = .ok (.ifCond .eq 10, 3) := by decide +kernel
theorem dX11_copy_7 : decode cX11_copy 7 = .ok (.iload_n 3, 1) := by decide +kernel
theorem dX11_copy_8 : decode cX11_copy 8 = .ok (.invokestatic 66, 3) := by decide +kernel
theorem dX11_copy_11 : decode cX11_copy 11 = .ok (.ifCond .ne 6, 3) := by decide +kernel
theorem dX11_copy_14 : decode cX11_copy 14 = .ok (.ldc 74, 2) := by decide +kernel
theorem dX11_copy_16 : decode cX11_copy 16 = .ok (.ireturn, 1) := by decide +kernel
theorem dX11_copy_17 : decode cX11_copy 17 = .ok (.aload_n 0, 1) := by decide +kernel
theorem dX11_copy_18 : decode cX11_copy 18 = .ok (.getfield 10, 3) := by decide +kernel
theorem dX11_copy_21 : decode cX11_copy 21 = .ok (.iload_n 1, 1) := by decide +kernel
theorem dX11_copy_22 : decode cX11_copy 22 = .ok (.invokevirtual 86, 3) := by decide +kernel
theorem dX11_copy_25 : decode cX11_copy 25 = .ok (.ifCond .ne 14, 3) := by decide +kernel
theorem dX11_copy_28 : decode cX11_copy 28 = .ok (.aload_n 0, 1) := by decide +kernel
theorem dX11_copy_29 : decode cX11_copy 29 = .ok (.getfield 10, 3) := by decide +kernel
theorem dX11_copy_32 : decode cX11_copy 32 = .ok (.iload_n 3, 1) := by decide +kernel
theorem dX11_copy_33 : decode cX11_copy 33 = .ok (.invokevirtual 86, 3) := by decide +kernel
theorem dX11_copy_36 : decode cX11_copy 36 = .ok (.ifCond .eq 9, 3) := by decide +kernel
theorem dX11_copy_39 : decode cX11_copy 39 = .ok (.aload_n 0, 1) := by decide +kernel
theorem dX11_copy_40 : decode cX11_copy 40 = .ok (.iconst 1, 1) := by decide +kernel
theorem dX11_copy_41 : decode cX11_copy 41 = .ok (.invokevirtual 75, 3) := by decide +kernel
theorem dX11_copy_44 : decode cX11_copy 44 = .ok (.ireturn, 1) := by decide +kernel
theorem dX11_copy_45 : decode cX11_copy 45 = .ok (.aload_n 0, 1) := by decide +kernel
theorem dX11_copy_46 : decode cX11_copy 46 = .ok (.getfield 10, 3) := by decide +kernel
theorem dX11_copy_49 : decode cX11_copy 49 = .ok (.iload_n 1, 1) := by decide +kernel
theorem dX11_copy_50 : decode cX11_copy 50 = .ok (.invokevirtual 96, 3) := by decide +kernel
theorem dX11_copy_53 : decode cX11_copy 53 = .ok (.aload_n 0, 1) := by decide +kernel
theorem dX11_copy_54 : decode cX11_copy 54 = .ok (.getfield 10, 3) := by decide +kernel
theorem dX11_copy_57 : decode cX11_copy 57 = .ok (.iload_n 3, 1) := by decide +kernel
theorem dX11_copy_58 : decode cX11_copy 58 = .ok (.invokevirtual 96, 3) := by decide +kernel
theorem dX11_copy_61 : decode cX11_copy 61 = .ok (.if_icmp .eq 9, 3) := by decide +kernel
theorem dX11_copy_64 : decode cX11_copy 64 = .ok (.aload_n 0, 1) := by decide +kernel
theorem dX11_copy_65 : decode cX11_copy 65 = .ok (.iconst 5, 1) := by decide +kernel
theorem dX11_copy_66 : decode cX11_copy 66 = .ok (.invokevirtual 75, 3) := by decide +kernel
theorem dX11_copy_69 : decode cX11_copy 69 = .ok (.ireturn, 1) := by decide +kernel
theorem dX11_copy_70 : decode cX11_copy 70 = .ok (.aload_n 0, 1) := by decide +kernel
theorem dX11_copy_71 : decode cX11_copy 71 = .ok (.getfield 10, 3) := by decide +kernel
theorem dX11_copy_74 : decode cX11_copy 74 = .ok (.iload_n 1, 1) := by decide +kernel
theorem dX11_copy_75 : decode cX11_copy 75 = .ok (.iload_n 2, 1) := by decide +kernel
theorem dX11_copy_76 : decode cX11_copy 76 = .ok (.iload 5, 2) := by decide +kernel
theorem dX11_copy_78 : decode cX11_copy 78 = .ok (.invokevirtual 89, 3) := by decide +kernel
theorem dX11_copy_81 : decode cX11_copy 81 = .ok (.ifCond .eq 18, 3) := by decide +kernel
theorem dX11_copy_84 : decode cX11_copy 84 = .ok (.aload_n 0, 1) := by decide +kernel
theorem dX11_copy_85 : decode cX11_copy 85 = .ok (.getfield 10, 3) := by decide +kernel
theorem dX11_copy_88 : decode cX11_copy 88 = .ok (.iload_n 3, 1) := by decide +kernel
theorem dX11_copy_89 : decode cX11_copy 89 = .ok (.iload 4, 2) := by decide +kernel
theorem dX11_copy_91 : decode cX11_copy 91 = .ok (.iload 5, 2) := by decide +kernel
theorem dX11_copy_93 : decode cX11_copy 93 = .ok (.invokevirtual 89, 3) := by decide +kernel
theorem dX11_copy_96 : decode cX11_copy 96 = .ok (.ifCond .ne 9, 3) := by decide +kernel
theorem dX11_copy_99 : decode cX11_copy 99 = .ok (.aload_n 0, 1) := by decide +kernel
theorem dX11_copy_100 : decode cX11_copy 100 = .ok (.iconst 2, 1) := by decide +kernel
theorem dX11_copy_101 : decode cX11_copy 101 = .ok (.invokevirtual 75, 3) := by decide +kernel
theorem dX11_copy_104 : decode cX11_copy 104 = .ok (.ireturn, 1) := by decide +kernel
theorem dX11_copy_105 : decode cX11_copy 105 = .ok (.aload_n 0, 1) := by decide +kernel
theorem dX11_copy_106 : decode cX11_copy 106 = .ok (.getfield 10, 3) := by decide +kernel
theorem dX11_copy_109 : decode cX11_copy 109 = .ok (.iload_n 1, 1) := by decide +kernel
theorem dX11_copy_110 : decode cX11_copy 110 = .ok (.iload_n 2, 1) := by decide +kernel
theorem dX11_copy_111 : decode cX11_copy 111 = .ok (.iload_n 3, 1) := by decide +kernel
theorem dX11_copy_112 : decode cX11_copy 112 = .ok (.iload 4, 2) := by decide +kernel
theorem dX11_copy_114 : decode cX11_copy 114 = .ok (.iload 5, 2) := by decide +kernel
theorem dX11_copy_116 : decode cX11_copy 116 = .ok (.invokevirtual 99, 3) := by decide +kernel
theorem dX11_copy_119 : decode cX11_copy 119 = .ok (.aload_n 0, 1) := by decide +kernel
theorem dX11_copy_120 : decode cX11_copy 120 = .ok (.iload 5, 2) := by decide +kernel
theorem dX11_copy_122 : decode cX11_copy 122 = .ok (.invokevirtual 83, 3) := by decide +kernel
theorem dX11_copy_125 : decode cX11_copy 125 = .ok (.ireturn, 1) := by decide +kernel
abbrev cX11_drop : ByteArray := prog_1_method_5_code
def yX11_drop : MethodName := ⟨"DayTongues", "drop", "(I)I"⟩
def mX11_drop : dt_MD := (yX11_drop, cX11_drop, 2, some .int)
theorem dX11_drop_0 : decode cX11_drop 0 = .ok (.iload_n 1, 1) := by decide +kernel
theorem dX11_drop_1 : decode cX11_drop 1 = .ok (.invokestatic 66, 3) := by decide +kernel
theorem dX11_drop_4 : decode cX11_drop 4 = .ok (.ifCond .ne 6, 3) := by decide +kernel
theorem dX11_drop_7 : decode cX11_drop 7 = .ok (.ldc 74, 2) := by decide +kernel
theorem dX11_drop_9 : decode cX11_drop 9 = .ok (.ireturn, 1) := by decide +kernel
theorem dX11_drop_10 : decode cX11_drop 10 = .ok (.aload_n 0, 1) := by decide +kernel
theorem dX11_drop_11 : decode cX11_drop 11 = .ok (.getfield 10, 3) := by decide +kernel
theorem dX11_drop_14 : decode cX11_drop 14 = .ok (.iload_n 1, 1) := by decide +kernel
theorem dX11_drop_15 : decode cX11_drop 15 = .ok (.invokevirtual 86, 3) := by decide +kernel
theorem dX11_drop_18 : decode cX11_drop 18 = .ok (.ifCond .eq 9, 3) := by decide +kernel
theorem dX11_drop_21 : decode cX11_drop 21 = .ok (.aload_n 0, 1) := by decide +kernel
theorem dX11_drop_22 : decode cX11_drop 22 = .ok (.iconst 1, 1) := by decide +kernel
theorem dX11_drop_23 : decode cX11_drop 23 = .ok (.invokevirtual 75, 3) := by decide +kernel
theorem dX11_drop_26 : decode cX11_drop 26 = .ok (.ireturn, 1) := by decide +kernel
theorem dX11_drop_27 : decode cX11_drop 27 = .ok (.aload_n 0, 1) := by decide +kernel
theorem dX11_drop_28 : decode cX11_drop 28 = .ok (.aload_n 0, 1) := by decide +kernel
theorem dX11_drop_29 : decode cX11_drop 29 = .ok (.getfield 10, 3) := by decide +kernel
theorem dX11_drop_32 : decode cX11_drop 32 = .ok (.iload_n 1, 1) := by decide +kernel
theorem dX11_drop_33 : decode cX11_drop 33 = .ok (.invokevirtual 103, 3) := by decide +kernel
theorem dX11_drop_36 : decode cX11_drop 36 = .ok (.invokevirtual 83, 3) := by decide +kernel
theorem dX11_drop_39 : decode cX11_drop 39 = .ok (.ireturn, 1) := by decide +kernel
abbrev cX11_feed : ByteArray := prog_1_method_6_code
def yX11_feed : MethodName := ⟨"DayTongues", "feed", "(JI)I"⟩
def mX11_feed : dt_MD := (yX11_feed, cX11_feed, 4, some .int)
theorem dX11_feed_0 : decode cX11_feed 0 = .ok (.iload_n 3, 1) := by decide +kernel
theorem dX11_feed_1 : decode cX11_feed 1 = .ok (.iconst 1, 1) := by decide +kernel
theorem dX11_feed_2 : decode cX11_feed 2 = .ok (.bipush 8, 2) := by decide +kernel
theorem dX11_feed_4 : decode cX11_feed 4 = .ok (.invokestatic 70, 3) := by decide +kernel
theorem dX11_feed_7 : decode cX11_feed 7 = .ok (.ifCond .ne 6, 3) := by decide +kernel
theorem dX11_feed_10 : decode cX11_feed 10 = .ok (.ldc 74, 2) := by decide +kernel
theorem dX11_feed_12 : decode cX11_feed 12 = .ok (.ireturn, 1) := by decide +kernel
theorem dX11_feed_13 : decode cX11_feed 13 = .ok (.aload_n 0, 1) := by decide +kernel
theorem dX11_feed_14 : decode cX11_feed 14 = .ok (.getfield 19, 3) := by decide +kernel
theorem dX11_feed_17 : decode cX11_feed 17 = .ok (.iload_n 3, 1) := by decide +kernel
theorem dX11_feed_18 : decode cX11_feed 18 = .ok (.invokevirtual 106, 3) := by decide +kernel
theorem dX11_feed_21 : decode cX11_feed 21 = .ok (.ifCond .ne 6, 3) := by decide +kernel
theorem dX11_feed_24 : decode cX11_feed 24 = .ok (.ldc 109, 2) := by decide +kernel
theorem dX11_feed_26 : decode cX11_feed 26 = .ok (.ireturn, 1) := by decide +kernel
theorem dX11_feed_27 : decode cX11_feed 27 = .ok (.aload_n 0, 1) := by decide +kernel
theorem dX11_feed_28 : decode cX11_feed 28 = .ok (.getfield 19, 3) := by decide +kernel
theorem dX11_feed_31 : decode cX11_feed 31 = .ok (.lload_n 1, 1) := by decide +kernel
theorem dX11_feed_32 : decode cX11_feed 32 = .ok (.iload_n 3, 1) := by decide +kernel
theorem dX11_feed_33 : decode cX11_feed 33 = .ok (.invokevirtual 110, 3) := by decide +kernel
theorem dX11_feed_36 : decode cX11_feed 36 = .ok (.ireturn, 1) := by decide +kernel
abbrev cX11_port : ByteArray := prog_1_method_7_code
def yX11_port : MethodName := ⟨"DayTongues", "port", "()I"⟩
def mX11_port : dt_MD := (yX11_port, cX11_port, 3, some .int)
theorem dX11_port_0 : decode cX11_port 0 = .ok (.aload_n 0, 1) := by decide +kernel
theorem dX11_port_1 : decode cX11_port 1 = .ok (.getfield 19, 3) := by decide +kernel
theorem dX11_port_4 : decode cX11_port 4 = .ok (.aload_n 0, 1) := by decide +kernel
theorem dX11_port_5 : decode cX11_port 5 = .ok (.getfield 30, 3) := by decide +kernel
theorem dX11_port_8 : decode cX11_port 8 = .ok (.invokevirtual 114, 3) := by decide +kernel
theorem dX11_port_11 : decode cX11_port 11 = .ok (.istore_n 1, 1) := by decide +kernel
theorem dX11_port_12 : decode cX11_port 12 = .ok (.aload_n 0, 1) := by decide +kernel
theorem dX11_port_13 : decode cX11_port 13 = .ok (.getfield 19, 3) := by decide +kernel
theorem dX11_port_16 : decode cX11_port 16 = .ok (.invokevirtual 118, 3) := by decide +kernel
theorem dX11_port_19 : decode cX11_port 19 = .ok (.istore_n 2, 1) := by decide +kernel
theorem dX11_port_20 : decode cX11_port 20 = .ok (.aload_n 0, 1) := by decide +kernel
theorem dX11_port_21 : decode cX11_port 21 = .ok (.getfield 19, 3) := by decide +kernel
theorem dX11_port_24 : decode cX11_port 24 = .ok (.invokevirtual 122, 3) := by decide +kernel
theorem dX11_port_27 : decode cX11_port 27 = .ok (.iload_n 1, 1) := by decide +kernel
theorem dX11_port_28 : decode cX11_port 28 = .ok (.ifCond .eq 13, 3) := by decide +kernel
theorem dX11_port_31 : decode cX11_port 31 = .ok (.aload_n 0, 1) := by decide +kernel
theorem dX11_port_32 : decode cX11_port 32 = .ok (.iload_n 1, 1) := by decide +kernel
theorem dX11_port_33 : decode cX11_port 33 = .ok (.putfield 59, 3) := by decide +kernel
theorem dX11_port_36 : decode cX11_port 36 = .ok (.ldc 125, 2) := by decide +kernel
theorem dX11_port_38 : decode cX11_port 38 = .ok (.iload_n 2, 1) := by decide +kernel
theorem dX11_port_39 : decode cX11_port 39 = .ok (.isub, 1) := by decide +kernel
theorem dX11_port_40 : decode cX11_port 40 = .ok (.ireturn, 1) := by decide +kernel
theorem dX11_port_41 : decode cX11_port 41 = .ok (.aload_n 0, 1) := by decide +kernel
theorem dX11_port_42 : decode cX11_port 42 = .ok (.getfield 26, 3) := by decide +kernel
theorem dX11_port_45 : decode cX11_port 45 = .ok (.aload_n 0, 1) := by decide +kernel
theorem dX11_port_46 : decode cX11_port 46 = .ok (.getfield 30, 3) := by decide +kernel
theorem dX11_port_49 : decode cX11_port 49 = .ok (.invokevirtual 126, 3) := by decide +kernel
theorem dX11_port_52 : decode cX11_port 52 = .ok (.aload_n 0, 1) := by decide +kernel
theorem dX11_port_53 : decode cX11_port 53 = .ok (.getfield 26, 3) := by decide +kernel
theorem dX11_port_56 : decode cX11_port 56 = .ok (.invokevirtual 129, 3) := by decide +kernel
theorem dX11_port_59 : decode cX11_port 59 = .ok (.ireturn, 1) := by decide +kernel
abbrev cX11_fault : ByteArray := prog_1_method_8_code
def yX11_fault : MethodName := ⟨"DayTongues", "fault", "()I"⟩
def mX11_fault : dt_MD := (yX11_fault, cX11_fault, 1, some .int)
theorem dX11_fault_0 : decode cX11_fault 0 = .ok (.aload_n 0, 1) := by decide +kernel
theorem dX11_fault_1 : decode cX11_fault 1 = .ok (.getfield 59, 3) := by decide +kernel
theorem dX11_fault_4 : decode cX11_fault 4 = .ok (.ireturn, 1) := by decide +kernel
abbrev cX11_drift : ByteArray := prog_1_method_9_code
def yX11_drift : MethodName := ⟨"DayTongues", "drift", "(II)I"⟩
def mX11_drift : dt_MD := (yX11_drift, cX11_drift, 3, some .int)
theorem dX11_drift_0 : decode cX11_drift 0 = .ok (.aload_n 0, 1) := by decide +kernel
theorem dX11_drift_1 : decode cX11_drift 1 = .ok (.invokevirtual 132, 3) := by decide +kernel
theorem dX11_drift_4 : decode cX11_drift 4 = .ok (.ifCond .eq 6, 3) := by decide +kernel
theorem dX11_drift_7 : decode cX11_drift 7 = .ok (.ldc 136, 2) := by decide +kernel
theorem dX11_drift_9 : decode cX11_drift 9 = .ok (.ireturn, 1) := by decide +kernel
theorem dX11_drift_10 : decode cX11_drift 10 = .ok (.iload_n 1, 1) := by decide +kernel
theorem dX11_drift_11 : decode cX11_drift 11 = .ok (.iconst 1, 1) := by decide +kernel
theorem dX11_drift_12 : decode cX11_drift 12 = .ok (.bipush 100, 2) := by decide +kernel
theorem dX11_drift_14 : decode cX11_drift 14 = .ok (.invokestatic 70, 3) := by decide +kernel
theorem dX11_drift_17 : decode cX11_drift 17 = .ok (.ifCond .eq 13, 3) := by decide +kernel
theorem dX11_drift_20 : decode cX11_drift 20 = .ok (.iload_n 2, 1) := by decide +kernel
theorem dX11_drift_21 : decode cX11_drift 21 = .ok (.iconst 1, 1) := by decide +kernel
theorem dX11_drift_22 : decode cX11_drift 22 = .ok (.ldc 137, 2) := by decide +kernel
theorem dX11_drift_24 : decode cX11_drift 24 = .ok (.invokestatic 70, 3) := by decide +kernel
theorem dX11_drift_27 : decode cX11_drift 27 = .ok (.ifCond .ne 6, 3) := by decide +kernel
theorem dX11_drift_30 : decode cX11_drift 30 = .ok (.ldc 74, 2) := by decide +kernel
theorem dX11_drift_32 : decode cX11_drift 32 = .ok (.ireturn, 1) := by decide +kernel
theorem dX11_drift_33 : decode cX11_drift 33 = .ok (.aload_n 0, 1) := by decide +kernel
theorem dX11_drift_34 : decode cX11_drift 34 = .ok (.getfield 26, 3) := by decide +kernel
theorem dX11_drift_37 : decode cX11_drift 37 = .ok (.iload_n 1, 1) := by decide +kernel
theorem dX11_drift_38 : decode cX11_drift 38 = .ok (.iload_n 2, 1) := by decide +kernel
theorem dX11_drift_39 : decode cX11_drift 39 = .ok (.invokevirtual 138, 3) := by decide +kernel
theorem dX11_drift_42 : decode cX11_drift 42 = .ok (.aload_n 0, 1) := by decide +kernel
theorem dX11_drift_43 : decode cX11_drift 43 = .ok (.getfield 26, 3) := by decide +kernel
theorem dX11_drift_46 : decode cX11_drift 46 = .ok (.invokevirtual 142, 3) := by decide +kernel
theorem dX11_drift_49 : decode cX11_drift 49 = .ok (.ireturn, 1) := by decide +kernel
abbrev cX11_word : ByteArray := prog_1_method_10_code
def yX11_word : MethodName := ⟨"DayTongues", "word", "(III)I"⟩
def mX11_word : dt_MD := (yX11_word, cX11_word, 5, some .int)
theorem dX11_word_0 : decode cX11_word 0 = .ok (.aload_n 0, 1) := by decide +kernel
theorem dX11_word_1 : decode cX11_word 1 = .ok (.getfield 26, 3) := by decide +kernel
theorem dX11_word_4 : decode cX11_word 4 = .ok (.iload_n 1, 1) := by decide +kernel
theorem dX11_word_5 : decode cX11_word 5 = .ok (.iload_n 2, 1) := by decide +kernel
theorem dX11_word_6 : decode cX11_word 6 = .ok (.invokevirtual 145, 3) := by decide +kernel
theorem dX11_word_9 : decode cX11_word 9 = .ok (.ifCond .eq 12, 3) := by decide +kernel
theorem dX11_word_12 : decode cX11_word 12 = .ok (.iload_n 3, 1) := by decide +kernel
theorem dX11_word_13 : decode cX11_word 13 = .ok (.iconst 0, 1) := by decide +kernel
theorem dX11_word_14 : decode cX11_word 14 = .ok (.iconst 3, 1) := by decide +kernel
theorem dX11_word_15 : decode cX11_word 15 = .ok (.invokestatic 70, 3) := by decide +kernel
theorem dX11_word_18 : decode cX11_word 18 = .ok (.ifCond .ne 6, 3) := by decide +kernel
theorem dX11_word_21 : decode cX11_word 21 = .ok (.ldc 74, 2) := by decide +kernel
theorem dX11_word_23 : decode cX11_word 23 = .ok (.ireturn, 1) := by decide +kernel
theorem dX11_word_24 : decode cX11_word 24 = .ok (.aload_n 0, 1) := by decide +kernel
theorem dX11_word_25 : decode cX11_word 25 = .ok (.getfield 26, 3) := by decide +kernel
theorem dX11_word_28 : decode cX11_word 28 = .ok (.iload_n 1, 1) := by decide +kernel
theorem dX11_word_29 : decode cX11_word 29 = .ok (.iload_n 2, 1) := by decide +kernel
theorem dX11_word_30 : decode cX11_word 30 = .ok (.invokevirtual 149, 3) := by decide +kernel
theorem dX11_word_33 : decode cX11_word 33 = .ok (.istore 4, 2) := by decide +kernel
theorem dX11_word_35 : decode cX11_word 35 = .ok (.iload_n 3, 1) := by decide +kernel
theorem dX11_word_36 : decode cX11_word 36 = .ok (.ifCond .ne 6, 3) := by decide +kernel
theorem dX11_word_39 : decode cX11_word 39 = .ok (.iload 4, 2) := by decide +kernel
theorem dX11_word_41 : decode cX11_word 41 = .ok (.ireturn, 1) := by decide +kernel
theorem dX11_word_42 : decode cX11_word 42 = .ok (.iload_n 3, 1) := by decide +kernel
theorem dX11_word_43 : decode cX11_word 43 = .ok (.iload 4, 2) := by decide +kernel
theorem dX11_word_45 : decode cX11_word 45 = .ok (.if_icmp .gt 18, 3) := by decide +kernel
theorem dX11_word_48 : decode cX11_word 48 = .ok (.aload_n 0, 1) := by decide +kernel
theorem dX11_word_49 : decode cX11_word 49 = .ok (.getfield 26, 3) := by decide +kernel
theorem dX11_word_52 : decode cX11_word 52 = .ok (.iload_n 1, 1) := by decide +kernel
theorem dX11_word_53 : decode cX11_word 53 = .ok (.iload_n 2, 1) := by decide +kernel
theorem dX11_word_54 : decode cX11_word 54 = .ok (.iload_n 3, 1) := by decide +kernel
theorem dX11_word_55 : decode cX11_word 55 = .ok (.iconst 1, 1) := by decide +kernel
theorem dX11_word_56 : decode cX11_word 56 = .ok (.isub, 1) := by decide +kernel
theorem dX11_word_57 : decode cX11_word 57 = .ok (.invokevirtual 153, 3) := by decide +kernel
theorem dX11_word_60 : decode cX11_word 60 = .ok (.goto 5, 3) := by decide +kernel
theorem dX11_word_63 : decode cX11_word 63 = .ok (.ldc 156, 2) := by decide +kernel
theorem dX11_word_65 : decode cX11_word 65 = .ok (.ireturn, 1) := by decide +kernel
abbrev cX11_words : ByteArray := prog_1_method_11_code
def yX11_words : MethodName := ⟨"DayTongues", "words", "(I)I"⟩
def mX11_words : dt_MD := (yX11_words, cX11_words, 2, some .int)
theorem dX11_words_0 : decode cX11_words 0 = .ok (.aload_n 0, 1) := by decide +kernel
theorem dX11_words_1 : decode cX11_words 1 = .ok (.getfield 26, 3) := by decide +kernel
theorem dX11_words_4 : decode cX11_words 4 = .ok (.iload_n 1, 1) := by decide +kernel
theorem dX11_words_5 : decode cX11_words 5 = .ok (.invokevirtual 157, 3) := by decide +kernel
theorem dX11_words_8 : decode cX11_words 8 = .ok (.ifCond .eq 14, 3) := by decide +kernel
theorem dX11_words_11 : decode cX11_words 11 = .ok (.aload_n 0, 1) := by decide +kernel
theorem dX11_words_12 : decode cX11_words 12 = .ok (.getfield 26, 3) := by decide +kernel
theorem dX11_words_15 : decode cX11_words 15 = .ok (.iload_n 1, 1) := by decide +kernel
theorem dX11_words_16 : decode cX11_words 16 = .ok (.invokevirtual 160, 3) := by decide +kernel
theorem dX11_words_19 : decode cX11_words 19 = .ok (.goto 5, 3) := by decide +kernel
theorem dX11_words_22 : decode cX11_words 22 = .ok (.ldc 74, 2) := by decide +kernel
theorem dX11_words_24 : decode cX11_words 24 = .ok (.ireturn, 1) := by decide +kernel
abbrev cX11_knows : ByteArray := prog_1_method_12_code
def yX11_knows : MethodName := ⟨"DayTongues", "knows", "(I)I"⟩
def mX11_knows : dt_MD := (yX11_knows, cX11_knows, 2, some .int)
theorem dX11_knows_0 : decode cX11_knows 0 = .ok (.aload_n 0, 1) := by decide +kernel
theorem dX11_knows_1 : decode cX11_knows 1 = .ok (.getfield 26, 3) := by decide +kernel
theorem dX11_knows_4 : decode cX11_knows 4 = .ok (.iload_n 1, 1) := by decide +kernel
theorem dX11_knows_5 : decode cX11_knows 5 = .ok (.invokevirtual 163, 3) := by decide +kernel
theorem dX11_knows_8 : decode cX11_knows 8 = .ok (.ifCond .eq 14, 3) := by decide +kernel
theorem dX11_knows_11 : decode cX11_knows 11 = .ok (.aload_n 0, 1) := by decide +kernel
theorem dX11_knows_12 : decode cX11_knows 12 = .ok (.getfield 26, 3) := by decide +kernel
theorem dX11_knows_15 : decode cX11_knows 15 = .ok (.iload_n 1, 1) := by decide +kernel
theorem dX11_knows_16 : decode cX11_knows 16 = .ok (.invokevirtual 166, 3) := by decide +kernel
theorem dX11_knows_19 : decode cX11_knows 19 = .ok (.goto 5, 3) := by decide +kernel
theorem dX11_knows_22 : decode cX11_knows 22 = .ok (.ldc 74, 2) := by decide +kernel
theorem dX11_knows_24 : decode cX11_knows 24 = .ok (.ireturn, 1) := by decide +kernel
abbrev cX11_means : ByteArray := prog_1_method_13_code
def yX11_means : MethodName := ⟨"DayTongues", "means", "(IIIII)I"⟩
def mX11_means : dt_MD := (yX11_means, cX11_means, 6, some .int)
theorem dX11_means_0 : decode cX11_means 0 = .ok (.aload_n 0, 1) := by decide +kernel
theorem dX11_means_1 : decode cX11_means 1 = .ok (.invokevirtual 132, 3) := by decide +kernel
theorem dX11_means_4 : decode cX11_means 4 = .ok (.ifCond .eq 6, 3) := by decide +kernel
theorem dX11_means_7 : decode cX11_means 7 = .ok (.ldc 136, 2) := by decide +kernel
theorem dX11_means_9 : decode cX11_means 9 = .ok (.ireturn, 1) := by decide +kernel
theorem dX11_means_10 : decode cX11_means 10 = .ok (.iload_n 1, 1) := by decide +kernel
theorem dX11_means_11 : decode cX11_means 11 = .ok (.invokestatic 169, 3) := by decide +kernel
theorem dX11_means_14 : decode cX11_means 14 = .ok (.ifCond .eq 27, 3) := by decide +kernel
theorem dX11_means_17 : decode cX11_means 17 = .ok (.iload_n 2, 1) := by decide +kernel
theorem dX11_means_18 : decode cX11_means 18 = .ok (.invokestatic 66, 3) := by decide +kernel
theorem dX11_means_21 : decode cX11_means 21 = .ok (.ifCond .eq 20, 3) := by decide +kernel
theorem dX11_means_24 : decode cX11_means 24 = .ok (.iload 4, 2) := by decide +kernel
theorem dX11_means_26 : decode cX11_means 26 = .ok (.iconst 0, 1) := by decide +kernel
theorem dX11_means_27 : decode cX11_means 27 = .ok (.bipush 6, 2) := by decide +kernel
theorem dX11_means_29 : decode cX11_means 29 = .ok (.invokestatic 70, 3) := by decide +kernel
theorem dX11_means_32 : decode cX11_means 32 = .ok (.ifCond .eq 9, 3) := by decide +kernel
theorem dX11_means_35 : decode cX11_means 35 = .ok (.iload 5, 2) := by decide +kernel
theorem dX11_means_37 : decode cX11_means 37 = .ok (.iconst (-1), 1) := by decide +kernel
theorem dX11_means_38 : decode cX11_means 38 = .ok (.if_icmp .ge 6, 3) := by decide +kernel
theorem dX11_means_41 : decode cX11_means 41 = .ok (.ldc 74, 2) := by decide +kernel
theorem dX11_means_43 : decode cX11_means 43 = .ok (.ireturn, 1) := by decide +kernel
theorem dX11_means_44 : decode cX11_means 44 = .ok (.aload_n 0, 1) := by decide +kernel
theorem dX11_means_45 : decode cX11_means 45 = .ok (.getfield 10, 3) := by decide +kernel
theorem dX11_means_48 : decode cX11_means 48 = .ok (.iload_n 2, 1) := by decide +kernel
theorem dX11_means_49 : decode cX11_means 49 = .ok (.invokevirtual 86, 3) := by decide +kernel
theorem dX11_means_52 : decode cX11_means 52 = .ok (.ifCond .eq 9, 3) := by decide +kernel
theorem dX11_means_55 : decode cX11_means 55 = .ok (.aload_n 0, 1) := by decide +kernel
theorem dX11_means_56 : decode cX11_means 56 = .ok (.iconst 1, 1) := by decide +kernel
theorem dX11_means_57 : decode cX11_means 57 = .ok (.invokevirtual 75, 3) := by decide +kernel
theorem dX11_means_60 : decode cX11_means 60 = .ok (.ireturn, 1) := by decide +kernel
theorem dX11_means_61 : decode cX11_means 61 = .ok (.aload_n 0, 1) := by decide +kernel
theorem dX11_means_62 : decode cX11_means 62 = .ok (.getfield 10, 3) := by decide +kernel
theorem dX11_means_65 : decode cX11_means 65 = .ok (.iload_n 2, 1) := by decide +kernel
theorem dX11_means_66 : decode cX11_means 66 = .ok (.iload_n 3, 1) := by decide +kernel
theorem dX11_means_67 : decode cX11_means 67 = .ok (.iload 4, 2) := by decide +kernel
theorem dX11_means_69 : decode cX11_means 69 = .ok (.invokevirtual 89, 3) := by decide +kernel
theorem dX11_means_72 : decode cX11_means 72 = .ok (.ifCond .ne 9, 3) := by decide +kernel
theorem dX11_means_75 : decode cX11_means 75 = .ok (.aload_n 0, 1) := by decide +kernel
theorem dX11_means_76 : decode cX11_means 76 = .ok (.iconst 2, 1) := by decide +kernel
theorem dX11_means_77 : decode cX11_means 77 = .ok (.invokevirtual 75, 3) := by decide +kernel
theorem dX11_means_80 : decode cX11_means 80 = .ok (.ireturn, 1) := by decide +kernel
theorem dX11_means_81 : decode cX11_means 81 = .ok (.aload_n 0, 1) := by decide +kernel
theorem dX11_means_82 : decode cX11_means 82 = .ok (.aload_n 0, 1) := by decide +kernel
theorem dX11_means_83 : decode cX11_means 83 = .ok (.getfield 26, 3) := by decide +kernel
theorem dX11_means_86 : decode cX11_means 86 = .ok (.iload_n 1, 1) := by decide +kernel
theorem dX11_means_87 : decode cX11_means 87 = .ok (.invokevirtual 172, 3) := by decide +kernel
theorem dX11_means_90 : decode cX11_means 90 = .ok (.iload_n 2, 1) := by decide +kernel
theorem dX11_means_91 : decode cX11_means 91 = .ok (.iload_n 3, 1) := by decide +kernel
theorem dX11_means_92 : decode cX11_means 92 = .ok (.iload 4, 2) := by decide +kernel
theorem dX11_means_94 : decode cX11_means 94 = .ok (.invokevirtual 175, 3) := by decide +kernel
theorem dX11_means_97 : decode cX11_means 97 = .ok (.ifCond .ne 6, 3) := by decide +kernel
theorem dX11_means_100 : decode cX11_means 100 = .ok (.ldc 74, 2) := by decide +kernel
theorem dX11_means_102 : decode cX11_means 102 = .ok (.ireturn, 1) := by decide +kernel
theorem dX11_means_103 : decode cX11_means 103 = .ok (.aload_n 0, 1) := by decide +kernel
theorem dX11_means_104 : decode cX11_means 104 = .ok (.aload_n 0, 1) := by decide +kernel
theorem dX11_means_105 : decode cX11_means 105 = .ok (.getfield 44, 3) := by decide +kernel
theorem dX11_means_108 : decode cX11_means 108 = .ok (.iload 5, 2) := by decide +kernel
theorem dX11_means_110 : decode cX11_means 110 = .ok (.invokevirtual 179, 3) := by decide +kernel
theorem dX11_means_113 : decode cX11_means 113 = .ok (.invokevirtual 83, 3) := by decide +kernel
theorem dX11_means_116 : decode cX11_means 116 = .ok (.ireturn, 1) := by decide +kernel
abbrev cX11_shortest : ByteArray := prog_1_method_14_code
def yX11_shortest : MethodName := ⟨"DayTongues", "shortest", "(IIII)I"⟩
def mX11_shortest : dt_MD := (yX11_shortest, cX11_shortest, 5, some .int)
theorem dX11_shortest_0 : decode cX11_shortest 0 = .ok (.aload_n 0, 1) := by decide +kernel
theorem dX11_shortest_1 : decode cX11_shortest 1 = .ok (.invokevirtual 132, 3) := by decide +kernel
theorem dX11_shortest_4 : decode cX11_shortest 4 = .ok (.ifCond .eq 6, 3) := by decide +kernel
theorem dX11_shortest_7 : decode cX11_shortest 7 = .ok (.ldc 136, 2) := by decide +kernel
theorem dX11_shortest_9 : decode cX11_shortest 9 = .ok (.ireturn, 1) := by decide +kernel
theorem dX11_shortest_10 : decode cX11_shortest 10 = .ok (.iload_n 1, 1) := by decide +kernel
theorem dX11_shortest_11 : decode cX11_shortest 11 = .ok (.invokestatic 169, 3) := by decide +kernel
theorem dX11_shortest_14 : decode cX11_shortest 14 = .ok (.ifCond .eq 25, 3) := by decide +kernel
theorem dX11_shortest_17 : decode cX11_shortest 17 = .ok (.iload_n 2, 1) := by decide +kernel
theorem dX11_shortest_18 : decode cX11_shortest 18 = .ok (.invokestatic 182, 3) := by decide +kernel
theorem dX11_shortest_21 : decode cX11_shortest 21 = .ok (.ifCond .eq 18, 3) := by decide +kernel
theorem dX11_shortest_24 : decode cX11_shortest 24 = .ok (.iload_n 3, 1) := by decide +kernel
theorem dX11_shortest_25 : decode cX11_shortest 25 = .ok (.iconst 0, 1) := by decide +kernel
theorem dX11_shortest_26 : decode cX11_shortest 26 = .ok (.iconst 1, 1) := by decide +kernel
theorem dX11_shortest_27 : decode cX11_shortest 27 = .ok (.invokestatic 70, 3) := by decide +kernel
theorem dX11_shortest_30 : decode cX11_shortest 30 = .ok (.ifCond .eq 9, 3) := by decide +kernel
theorem dX11_shortest_33 : decode cX11_shortest 33 = .ok (.iload 4, 2) := by decide +kernel
theorem dX11_shortest_35 : decode cX11_shortest 35 = .ok (.iconst (-1), 1) := by decide +kernel
theorem dX11_shortest_36 : decode cX11_shortest 36 = .ok (.if_icmp .ge 6, 3) := by decide +kernel
theorem dX11_shortest_39 : decode cX11_shortest 39 = .ok (.ldc 74, 2) := by decide +kernel
theorem dX11_shortest_41 : decode cX11_shortest 41 = .ok (.ireturn, 1) := by decide +kernel
theorem dX11_shortest_42 : decode cX11_shortest 42 = .ok (.aload_n 0, 1) := by decide +kernel
theorem dX11_shortest_43 : decode cX11_shortest 43 = .ok (.getfield 44, 3) := by decide +kernel
theorem dX11_shortest_46 : decode cX11_shortest 46 = .ok (.aload_n 0, 1) := by decide +kernel
theorem dX11_shortest_47 : decode cX11_shortest 47 = .ok (.getfield 26, 3) := by decide +kernel
theorem dX11_shortest_50 : decode cX11_shortest 50 = .ok (.iload_n 1, 1) := by decide +kernel
theorem dX11_shortest_51 : decode cX11_shortest 51 = .ok (.invokevirtual 172, 3) := by decide +kernel
theorem dX11_shortest_54 : decode cX11_shortest 54 = .ok (.iload_n 2, 1) := by decide +kernel
theorem dX11_shortest_55 : decode cX11_shortest 55 = .ok (.iload_n 3, 1) := by decide +kernel
theorem dX11_shortest_56 : decode cX11_shortest 56 = .ok (.iconst 1, 1) := by decide +kernel
theorem dX11_shortest_57 : decode cX11_shortest 57 = .ok (.if_icmp .ne 7, 3) := by decide +kernel
theorem dX11_shortest_60 : decode cX11_shortest 60 = .ok (.iconst 1, 1) := by decide +kernel
theorem dX11_shortest_61 : decode cX11_shortest 61 = .ok (.goto 4, 3) := by decide +kernel
theorem dX11_shortest_64 : decode cX11_shortest 64 = .ok (.iconst 0, 1) := by decide +kernel
theorem dX11_shortest_65 : decode cX11_shortest 65 = .ok (.iload 4, 2) := by decide +kernel
theorem dX11_shortest_67 : decode cX11_shortest 67 = .ok (.invokevirtual 185, 3) := by decide +kernel
theorem dX11_shortest_70 : decode cX11_shortest 70 = .ok (.ireturn, 1) := by decide +kernel
abbrev cX11_sayable : ByteArray := prog_1_method_15_code
def yX11_sayable : MethodName := ⟨"DayTongues", "sayable", "(II)I"⟩
def mX11_sayable : dt_MD := (yX11_sayable, cX11_sayable, 4, some .int)
theorem dX11_sayable_0 : decode cX11_sayable 0 = .ok (.aload_n 0, 1) := by decide +kernel
theorem dX11_sayable_1 : decode cX11_sayable 1 = .ok (.invokevirtual 132, 3) := by decide +kernel
theorem dX11_sayable_4 : decode cX11_sayable 4 = .ok (.ifCond .eq 6, 3) := by decide +kernel
theorem dX11_sayable_7 : decode cX11_sayable 7 = .ok (.ldc 136, 2) := by decide +kernel
theorem dX11_sayable_9 : decode cX11_sayable 9 = .ok (.ireturn, 1) := by decide +kernel
theorem dX11_sayable_10 : decode cX11_sayable 10 = .ok (.iload_n 1, 1) := by decide +kernel
theorem dX11_sayable_11 : decode cX11_sayable 11 = .ok (.invokestatic 169, 3) := by decide +kernel
theorem dX11_sayable_14 : decode cX11_sayable 14 = .ok (.ifCond .eq 12, 3) := by decide +kernel
theorem dX11_sayable_17 : decode cX11_sayable 17 = .ok (.iload_n 2, 1) := by decide +kernel
theorem dX11_sayable_18 : decode cX11_sayable 18 = .ok (.iconst 0, 1) := by decide +kernel
theorem dX11_sayable_19 : decode cX11_sayable 19 = .ok (.iconst 1, 1) := by decide +kernel
theorem dX11_sayable_20 : decode cX11_sayable 20 = .ok (.invokestatic 70, 3) := by decide +kernel
theorem dX11_sayable_23 : decode cX11_sayable 23 = .ok (.ifCond .ne 6, 3) := by decide +kernel
theorem dX11_sayable_26 : decode cX11_sayable 26 = .ok (.ldc 74, 2) := by decide +kernel
theorem dX11_sayable_28 : decode cX11_sayable 28 = .ok (.ireturn, 1) := by decide +kernel
theorem dX11_sayable_29 : decode cX11_sayable 29 = .ok (.aload_n 0, 1) := by decide +kernel
theorem dX11_sayable_30 : decode cX11_sayable 30 = .ok (.getfield 26, 3) := by decide +kernel
theorem dX11_sayable_33 : decode cX11_sayable 33 = .ok (.iload_n 1, 1) := by decide +kernel
theorem dX11_sayable_34 : decode cX11_sayable 34 = .ok (.invokevirtual 172, 3) := by decide +kernel
theorem dX11_sayable_37 : decode cX11_sayable 37 = .ok (.istore_n 3, 1) := by decide +kernel
theorem dX11_sayable_38 : decode cX11_sayable 38 = .ok (.iload_n 2, 1) := by decide +kernel
theorem dX11_sayable_39 : decode cX11_sayable 39 = .ok (.ifCond .ne 14, 3) := by decide +kernel
theorem dX11_sayable_42 : decode cX11_sayable 42 = .ok (.aload_n 0, 1) := by decide +kernel
theorem dX11_sayable_43 : decode cX11_sayable 43 = .ok (.getfield 44, 3) := by decide +kernel
theorem dX11_sayable_46 : decode cX11_sayable 46 = .ok (.iload_n 3, 1) := by decide +kernel
theorem dX11_sayable_47 : decode cX11_sayable 47 = .ok (.invokevirtual 189, 3) := by decide +kernel
theorem dX11_sayable_50 : decode cX11_sayable 50 = .ok (.goto 12, 3) := by decide +kernel
theorem dX11_sayable_53 : decode cX11_sayable 53 = .ok (.aload_n 0, 1) := by decide +kernel
theorem dX11_sayable_54 : decode cX11_sayable 54 = .ok (.getfield 44, 3) := by decide +kernel
theorem dX11_sayable_57 : decode cX11_sayable 57 = .ok (.iload_n 3, 1) := by decide +kernel
theorem dX11_sayable_58 : decode cX11_sayable 58 = .ok (.iconst 0, 1) := by decide +kernel
theorem dX11_sayable_59 : decode cX11_sayable 59 = .ok (.invokevirtual 192, 3) := by decide +kernel
theorem dX11_sayable_62 : decode cX11_sayable 62 = .ok (.ireturn, 1) := by decide +kernel
abbrev cX11_bargain : ByteArray := prog_1_method_16_code
def yX11_bargain : MethodName := ⟨"DayTongues", "bargain", "(III)I"⟩
def mX11_bargain : dt_MD := (yX11_bargain, cX11_bargain, 7, some .int)
theorem dX11_bargain_0 : decode cX11_bargain 0 = .ok (.aload_n 0, 1) := by decide +kernel
theorem dX11_bargain_1 : decode cX11_bargain 1 = .ok (.invokevirtual 132, 3) := by decide +kernel
theorem dX11_bargain_4 : decode cX11_bargain 4 = .ok (.ifCond .eq 6, 3) := by decide +kernel
theorem dX11_bargain_7 : decode cX11_bargain 7 = .ok (.ldc 136, 2) := by decide +kernel
theorem dX11_bargain_9 : decode cX11_bargain 9 = .ok (.ireturn, 1) := by decide +kernel
theorem dX11_bargain_10 : decode cX11_bargain 10 = .ok (.iload_n 1, 1) := by decide +kernel
theorem dX11_bargain_11 : decode cX11_bargain 11 = .ok (.invokestatic 66, 3) := by decide +kernel
theorem dX11_bargain_14 : decode cX11_bargain 14 = .ok (.ifCond .eq 17, 3) := by decide +kernel
theorem dX11_bargain_17 : decode cX11_bargain 17 = .ok (.iload_n 2, 1) := by decide +kernel
theorem dX11_bargain_18 : decode cX11_bargain 18 = .ok (.iconst 1, 1) := by decide +kernel
theorem dX11_bargain_19 : decode cX11_bargain 19 = .ok (.iconst 5, 1) := by decide +kernel
theorem dX11_bargain_20 : decode cX11_bargain 20 = .ok (.invokestatic 70, 3) := by decide +kernel
theorem dX11_bargain_23 : decode cX11_bargain 23 = .ok (.ifCond .eq 8, 3) := by decide +kernel
theorem dX11_bargain_26 : decode cX11_bargain 26 = .ok (.iload_n 3, 1) := by decide +kernel
theorem dX11_bargain_27 : decode cX11_bargain 27 = .ok (.iconst (-1), 1) := by decide +kernel
theorem dX11_bargain_28 : decode cX11_bargain 28 = .ok (.if_icmp .ge 6, 3) := by decide +kernel
theorem dX11_bargain_31 : decode cX11_bargain 31 = .ok (.ldc 74, 2) := by decide +kernel
theorem dX11_bargain_33 : decode cX11_bargain 33 = .ok (.ireturn, 1) := by decide +kernel
theorem dX11_bargain_34 : decode cX11_bargain 34 = .ok (.aload_n 0, 1) := by decide +kernel
theorem dX11_bargain_35 : decode cX11_bargain 35 = .ok (.getfield 10, 3) := by decide +kernel
theorem dX11_bargain_38 : decode cX11_bargain 38 = .ok (.iload_n 1, 1) := by decide +kernel
theorem dX11_bargain_39 : decode cX11_bargain 39 = .ok (.invokevirtual 86, 3) := by decide +kernel
theorem dX11_bargain_42 : decode cX11_bargain 42 = .ok (.ifCond .eq 9, 3) := by decide +kernel
theorem dX11_bargain_45 : decode cX11_bargain 45 = .ok (.aload_n 0, 1) := by decide +kernel
theorem dX11_bargain_46 : decode cX11_bargain 46 = .ok (.iconst 1, 1) := by decide +kernel
theorem dX11_bargain_47 : decode cX11_bargain 47 = .ok (.invokevirtual 75, 3) := by decide +kernel
theorem dX11_bargain_50 : decode cX11_bargain 50 = .ok (.ireturn, 1) := by decide +kernel
theorem dX11_bargain_51 : decode cX11_bargain 51 = .ok (.aload_n 0, 1) := by decide +kernel
theorem dX11_bargain_52 : decode cX11_bargain 52 = .ok (.getfield 44, 3) := by decide +kernel
theorem dX11_bargain_55 : decode cX11_bargain 55 = .ok (.invokevirtual 195, 3) := by decide +kernel
theorem dX11_bargain_58 : decode cX11_bargain 58 = .ok (.iconst 0, 1) := by decide +kernel
theorem dX11_bargain_59 : decode cX11_bargain 59 = .ok (.istore 4, 2) := by decide +kernel
theorem dX11_bargain_61 : decode cX11_bargain 61 = .ok (.iconst 0, 1) := by decide +kernel
theorem dX11_bargain_62 : decode cX11_bargain 62 = .ok (.istore 5, 2) := by decide +kernel
theorem dX11_bargain_64 : decode cX11_bargain 64 = .ok (.iload 5, 2) := by decide +kernel
theorem dX11_bargain_66 : decode cX11_bargain 66 = .ok (.iload_n 2, 1) := by decide +kernel
theorem dX11_bargain_67 : decode cX11_bargain 67 = .ok (.if_icmp .ge 67, 3) := by decide +kernel
theorem dX11_bargain_70 : decode cX11_bargain 70 = .ok (.aload_n 0, 1) := by decide +kernel
theorem dX11_bargain_71 : decode cX11_bargain 71 = .ok (.iload_n 1, 1) := by decide +kernel
theorem dX11_bargain_72 : decode cX11_bargain 72 = .ok (.iload 4, 2) := by decide +kernel
theorem dX11_bargain_74 : decode cX11_bargain 74 = .ok (.invokevirtual 198, 3) := by decide +kernel
theorem dX11_bargain_77 : decode cX11_bargain 77 = .ok (.istore 6, 2) := by decide +kernel
theorem dX11_bargain_79 : decode cX11_bargain 79 = .ok (.iload 6, 2) := by decide +kernel
theorem dX11_bargain_81 : decode cX11_bargain 81 = .ok (.ifCond .eq 21, 3) := by decide +kernel
theorem dX11_bargain_84 : decode cX11_bargain 84 = .ok (.iload 6, 2) := by decide +kernel
theorem dX11_bargain_86 : decode cX11_bargain 86 = .ok (.ldc 74, 2) := by decide +kernel
theorem dX11_bargain_88 : decode cX11_bargain 88 = .ok (.if_icmp .ne 8, 3) := by decide +kernel
theorem dX11_bargain_91 : decode cX11_bargain 91 = .ok (.ldc 74, 2) := by decide +kernel
theorem dX11_bargain_93 : decode cX11_bargain 93 = .ok (.goto 8, 3) := by decide +kernel
theorem dX11_bargain_96 : decode cX11_bargain 96 = .ok (.aload_n 0, 1) := by decide +kernel
theorem dX11_bargain_97 : decode cX11_bargain 97 = .ok (.iconst 2, 1) := by decide +kernel
theorem dX11_bargain_98 : decode cX11_bargain 98 = .ok (.invokevirtual 75, 3) := by decide +kernel
theorem dX11_bargain_101 : decode cX11_bargain 101 = .ok (.ireturn, 1) := by decide +kernel
theorem dX11_bargain_102 : decode cX11_bargain 102 = .ok (.aload_n 0, 1) := by decide +kernel
theorem dX11_bargain_103 : decode cX11_bargain 103 = .ok (.getfield 44, 3) := by decide +kernel
theorem dX11_bargain_106 : decode cX11_bargain 106 = .ok (.invokevirtual 201, 3) := by decide +kernel
theorem dX11_bargain_109 : decode cX11_bargain 109 = .ok (.iload 4, 2) := by decide +kernel
theorem dX11_bargain_111 : decode cX11_bargain 111 = .ok (.iconst 2, 1) := by decide +kernel
theorem dX11_bargain_112 : decode cX11_bargain 112 = .ok (.aload_n 0, 1) := by decide +kernel
theorem dX11_bargain_113 : decode cX11_bargain 113 = .ok (.getfield 10, 3) := by decide +kernel
theorem dX11_bargain_116 : decode cX11_bargain 116 = .ok (.iload_n 1, 1) := by decide +kernel
theorem dX11_bargain_117 : decode cX11_bargain 117 = .ok (.iload 4, 2) := by decide +kernel
theorem dX11_bargain_119 : decode cX11_bargain 119 = .ok (.iconst 1, 1) := by decide +kernel
theorem dX11_bargain_120 : decode cX11_bargain 120 = .ok (.iadd, 1) := by decide +kernel
theorem dX11_bargain_121 : decode cX11_bargain 121 = .ok (.invokevirtual 204, 3) := by decide +kernel
theorem dX11_bargain_124 : decode cX11_bargain 124 = .ok (.iadd, 1) := by decide +kernel
theorem dX11_bargain_125 : decode cX11_bargain 125 = .ok (.iadd, 1) := by decide +kernel
theorem dX11_bargain_126 : decode cX11_bargain 126 = .ok (.istore 4, 2) := by decide +kernel
theorem dX11_bargain_128 : decode cX11_bargain 128 = .ok (.iinc 5 1, 3) := by decide +kernel
theorem dX11_bargain_131 : decode cX11_bargain 131 = .ok (.goto (-67), 3) := by decide +kernel
theorem dX11_bargain_134 : decode cX11_bargain 134 = .ok (.aload_n 0, 1) := by decide +kernel
theorem dX11_bargain_135 : decode cX11_bargain 135 = .ok (.aload_n 0, 1) := by decide +kernel
theorem dX11_bargain_136 : decode cX11_bargain 136 = .ok (.getfield 44, 3) := by decide +kernel
theorem dX11_bargain_139 : decode cX11_bargain 139 = .ok (.iload_n 3, 1) := by decide +kernel
theorem dX11_bargain_140 : decode cX11_bargain 140 = .ok (.invokevirtual 207, 3) := by decide +kernel
theorem dX11_bargain_143 : decode cX11_bargain 143 = .ok (.invokevirtual 83, 3) := by decide +kernel
theorem dX11_bargain_146 : decode cX11_bargain 146 = .ok (.ireturn, 1) := by decide +kernel
abbrev cX11_understands : ByteArray := prog_1_method_17_code
def yX11_understands : MethodName := ⟨"DayTongues", "understands", "(III)I"⟩
def mX11_understands : dt_MD := (yX11_understands, cX11_understands, 4, some .int)
theorem dX11_understands_0 : decode cX11_understands 0 = .ok (.iload_n 1, 1) := by decide +kernel
theorem dX11_understands_1 : decode cX11_understands 1 = .ok (.invokestatic 169, 3) := by decide +kernel
theorem dX11_understands_4 : decode cX11_understands 4 = .ok (.ifCond .eq 21, 3) := by decide +kernel
theorem dX11_understands_7 : decode cX11_understands 7 = .ok (.aload_n 0, 1) := by decide +kernel
theorem dX11_understands_8 : decode cX11_understands 8 = .ok (.getfield 26, 3) := by decide +kernel
theorem dX11_understands_11 : decode cX11_understands 11 = .ok (.iload_n 2, 1) := by decide +kernel
theorem dX11_understands_12 : decode cX11_understands 12 = .ok (.invokevirtual 163, 3) := by decide +kernel
theorem dX11_understands_15 : decode cX11_understands 15 = .ok (.ifCond .eq 10, 3) := by decide +kernel
theorem dX11_understands_18 : decode cX11_understands 18 = .ok (.iload_n 3, 1) := by decide +kernel
theorem dX11_understands_19 : decode cX11_understands 19 = .ok (.invokestatic 182, 3) := by decide +kernel
theorem dX11_understands_22 : decode cX11_understands 22 = .ok (.ifCond .ne 6, 3) := by decide +kernel
theorem dX11_understands_25 : decode cX11_understands 25 = .ok (.ldc 74, 2) := by decide +kernel
theorem dX11_understands_27 : decode cX11_understands 27 = .ok (.ireturn, 1) := by decide +kernel
theorem dX11_understands_28 : decode cX11_understands 28 = .ok (.aload_n 0, 1) := by decide +kernel
theorem dX11_understands_29 : decode cX11_understands 29 = .ok (.getfield 51, 3) := by decide +kernel
theorem dX11_understands_32 : decode cX11_understands 32 = .ok (.aload_n 0, 1) := by decide +kernel
theorem dX11_understands_33 : decode cX11_understands 33 = .ok (.getfield 26, 3) := by decide +kernel
theorem dX11_understands_36 : decode cX11_understands 36 = .ok (.iload_n 1, 1) := by decide +kernel
theorem dX11_understands_37 : decode cX11_understands 37 = .ok (.invokevirtual 172, 3) := by decide +kernel
theorem dX11_understands_40 : decode cX11_understands 40 = .ok (.iload_n 2, 1) := by decide +kernel
theorem dX11_understands_41 : decode cX11_understands 41 = .ok (.iload_n 3, 1) := by decide +kernel
theorem dX11_understands_42 : decode cX11_understands 42 = .ok (.invokevirtual 210, 3) := by decide +kernel
theorem dX11_understands_45 : decode cX11_understands 45 = .ok (.ireturn, 1) := by decide +kernel
abbrev cX11_week : ByteArray := prog_1_method_18_code
def yX11_week : MethodName := ⟨"DayTongues", "week", "(I)I"⟩
def mX11_week : dt_MD := (yX11_week, cX11_week, 3, some .int)
theorem dX11_week_0 : decode cX11_week 0 = .ok (.aload_n 0, 1) := by decide +kernel
theorem dX11_week_1 : decode cX11_week 1 = .ok (.invokevirtual 132, 3) := by decide +kernel
theorem dX11_week_4 : decode cX11_week 4 = .ok (.ifCond .eq 6, 3) := by decide +kernel
theorem dX11_week_7 : decode cX11_week 7 = .ok (.ldc 136, 2) := by decide +kernel
theorem dX11_week_9 : decode cX11_week 9 = .ok (.ireturn, 1) := by decide +kernel
theorem dX11_week_10 : decode cX11_week 10 = .ok (.iload_n 1, 1) := by decide +kernel
theorem dX11_week_11 : decode cX11_week 11 = .ok (.iconst 0, 1) := by decide +kernel
theorem dX11_week_12 : decode cX11_week 12 = .ok (.iconst 1, 1) := by decide +kernel
theorem dX11_week_13 : decode cX11_week 13 = .ok (.invokestatic 70, 3) := by decide +kernel
theorem dX11_week_16 : decode cX11_week 16 = .ok (.ifCond .ne 6, 3) := by decide +kernel
theorem dX11_week_19 : decode cX11_week 19 = .ok (.ldc 74, 2) := by decide +kernel
theorem dX11_week_21 : decode cX11_week 21 = .ok (.ireturn, 1) := by decide +kernel
theorem dX11_week_22 : decode cX11_week 22 = .ok (.aload_n 0, 1) := by decide +kernel
theorem dX11_week_23 : decode cX11_week 23 = .ok (.getfield 51, 3) := by decide +kernel
theorem dX11_week_26 : decode cX11_week 26 = .ok (.invokevirtual 213, 3) := by decide +kernel
theorem dX11_week_29 : decode cX11_week 29 = .ok (.istore_n 2, 1) := by decide +kernel
theorem dX11_week_30 : decode cX11_week 30 = .ok (.iload_n 2, 1) := by decide +kernel
theorem dX11_week_31 : decode cX11_week 31 = .ok (.ldc 156, 2) := by decide +kernel
theorem dX11_week_33 : decode cX11_week 33 = .ok (.if_icmp .eq 8, 3) := by decide +kernel
theorem dX11_week_36 : decode cX11_week 36 = .ok (.iload_n 1, 1) := by decide +kernel
theorem dX11_week_37 : decode cX11_week 37 = .ok (.iconst 1, 1) := by decide +kernel
theorem dX11_week_38 : decode cX11_week 38 = .ok (.if_icmp .ne 5, 3) := by decide +kernel
theorem dX11_week_41 : decode cX11_week 41 = .ok (.iload_n 2, 1) := by decide +kernel
theorem dX11_week_42 : decode cX11_week 42 = .ok (.ireturn, 1) := by decide +kernel
theorem dX11_week_43 : decode cX11_week 43 = .ok (.iload_n 2, 1) := by decide +kernel
theorem dX11_week_44 : decode cX11_week 44 = .ok (.invokestatic 216, 3) := by decide +kernel
theorem dX11_week_47 : decode cX11_week 47 = .ok (.ireturn, 1) := by decide +kernel
abbrev cX11_letIn : ByteArray := prog_1_method_19_code
def yX11_letIn : MethodName := ⟨"DayTongues", "letIn", "(I)I"⟩
def mX11_letIn : dt_MD := (yX11_letIn, cX11_letIn, 2, some .int)
theorem dX11_letIn_0 : decode cX11_letIn 0 = .ok (.aload_n 0, 1) := by decide +kernel
theorem dX11_letIn_1 : decode cX11_letIn 1 = .ok (.invokevirtual 132, 3) := by decide +kernel
theorem dX11_letIn_4 : decode cX11_letIn 4 = .ok (.ifCond .eq 6, 3) := by decide +kernel
theorem dX11_letIn_7 : decode cX11_letIn 7 = .ok (.ldc 136, 2) := by decide +kernel
theorem dX11_letIn_9 : decode cX11_letIn 9 = .ok (.ireturn, 1) := by decide +kernel
theorem dX11_letIn_10 : decode cX11_letIn 10 = .ok (.iload_n 1, 1) := by decide +kernel
theorem dX11_letIn_11 : decode cX11_letIn 11 = .ok (.iconst 1, 1) := by decide +kernel
theorem dX11_letIn_12 : decode cX11_letIn 12 = .ok (.sipush 255, 3) := by decide +kernel
theorem dX11_letIn_15 : decode cX11_letIn 15 = .ok (.invokestatic 70, 3) := by decide +kernel
theorem dX11_letIn_18 : decode cX11_letIn 18 = .ok (.ifCond .ne 6, 3) := by decide +kernel
theorem dX11_letIn_21 : decode cX11_letIn 21 = .ok (.ldc 74, 2) := by decide +kernel
theorem dX11_letIn_23 : decode cX11_letIn 23 = .ok (.ireturn, 1) := by decide +kernel
theorem dX11_letIn_24 : decode cX11_letIn 24 = .ok (.aload_n 0, 1) := by decide +kernel
theorem dX11_letIn_25 : decode cX11_letIn 25 = .ok (.getfield 44, 3) := by decide +kernel
theorem dX11_letIn_28 : decode cX11_letIn 28 = .ok (.iload_n 1, 1) := by decide +kernel
theorem dX11_letIn_29 : decode cX11_letIn 29 = .ok (.invokevirtual 221, 3) := by decide +kernel
theorem dX11_letIn_32 : decode cX11_letIn 32 = .ok (.ireturn, 1) := by decide +kernel
abbrev cX11_dated : ByteArray := prog_1_method_20_code
def yX11_dated : MethodName := ⟨"DayTongues", "dated", "(IIII)I"⟩
def mX11_dated : dt_MD := (yX11_dated, cX11_dated, 6, some .int)
theorem dX11_dated_0 : decode cX11_dated 0 = .ok (.aload_n 0, 1) := by decide +kernel
theorem dX11_dated_1 : decode cX11_dated 1 = .ok (.invokevirtual 132, 3) := by decide +kernel
theorem dX11_dated_4 : decode cX11_dated 4 = .ok (.ifCond .eq 6, 3) := by decide +kernel
theorem dX11_dated_7 : decode cX11_dated 7 = .ok (.ldc 136, 2) := by decide +kernel
theorem dX11_dated_9 : decode cX11_dated 9 = .ok (.ireturn, 1) := by decide +kernel
theorem dX11_dated_10 : decode cX11_dated 10 = .ok (.iload_n 1, 1) := by decide +kernel
theorem dX11_dated_11 : decode cX11_dated 11 = .ok (.invokestatic 66, 3) := by decide +kernel
theorem dX11_dated_14 : decode cX11_dated 14 = .ok (.ifCond .eq 21, 3) := by decide +kernel
theorem dX11_dated_17 : decode cX11_dated 17 = .ok (.iload_n 3, 1) := by decide +kernel
theorem dX11_dated_18 : decode cX11_dated 18 = .ok (.iconst 0, 1) := by decide +kernel
theorem dX11_dated_19 : decode cX11_dated 19 = .ok (.bipush 6, 2) := by decide +kernel
theorem dX11_dated_21 : decode cX11_dated 21 = .ok (.invokestatic 70, 3) := by decide +kernel
theorem dX11_dated_24 : decode cX11_dated 24 = .ok (.ifCond .eq 11, 3) := by decide +kernel
theorem dX11_dated_27 : decode cX11_dated 27 = .ok (.iload 4, 2) := by decide +kernel
theorem dX11_dated_29 : decode cX11_dated 29 = .ok (.invokestatic 182, 3) := by decide +kernel
theorem dX11_dated_32 : decode cX11_dated 32 = .ok (.ifCond .ne 6, 3) := by decide +kernel
theorem dX11_dated_35 : decode cX11_dated 35 = .ok (.ldc 74, 2) := by decide +kernel
theorem dX11_dated_37 : decode cX11_dated 37 = .ok (.ireturn, 1) := by decide +kernel
theorem dX11_dated_38 : decode cX11_dated 38 = .ok (.aload_n 0, 1) := by decide +kernel
theorem dX11_dated_39 : decode cX11_dated 39 = .ok (.getfield 10, 3) := by decide +kernel
theorem dX11_dated_42 : decode cX11_dated 42 = .ok (.iload_n 1, 1) := by decide +kernel
theorem dX11_dated_43 : decode cX11_dated 43 = .ok (.invokevirtual 86, 3) := by decide +kernel
theorem dX11_dated_46 : decode cX11_dated 46 = .ok (.ifCond .eq 9, 3) := by decide +kernel
theorem dX11_dated_49 : decode cX11_dated 49 = .ok (.aload_n 0, 1) := by decide +kernel
theorem dX11_dated_50 : decode cX11_dated 50 = .ok (.iconst 1, 1) := by decide +kernel
theorem dX11_dated_51 : decode cX11_dated 51 = .ok (.invokevirtual 75, 3) := by decide +kernel
theorem dX11_dated_54 : decode cX11_dated 54 = .ok (.ireturn, 1) := by decide +kernel
theorem dX11_dated_55 : decode cX11_dated 55 = .ok (.aload_n 0, 1) := by decide +kernel
theorem dX11_dated_56 : decode cX11_dated 56 = .ok (.getfield 10, 3) := by decide +kernel
theorem dX11_dated_59 : decode cX11_dated 59 = .ok (.iload_n 1, 1) := by decide +kernel
theorem dX11_dated_60 : decode cX11_dated 60 = .ok (.iload_n 2, 1) := by decide +kernel
theorem dX11_dated_61 : decode cX11_dated 61 = .ok (.iload_n 3, 1) := by decide +kernel
theorem dX11_dated_62 : decode cX11_dated 62 = .ok (.invokevirtual 89, 3) := by decide +kernel
theorem dX11_dated_65 : decode cX11_dated 65 = .ok (.ifCond .ne 9, 3) := by decide +kernel
theorem dX11_dated_68 : decode cX11_dated 68 = .ok (.aload_n 0, 1) := by decide +kernel
theorem dX11_dated_69 : decode cX11_dated 69 = .ok (.iconst 2, 1) := by decide +kernel
theorem dX11_dated_70 : decode cX11_dated 70 = .ok (.invokevirtual 75, 3) := by decide +kernel
theorem dX11_dated_73 : decode cX11_dated 73 = .ok (.ireturn, 1) := by decide +kernel
theorem dX11_dated_74 : decode cX11_dated 74 = .ok (.iload_n 2, 1) := by decide +kernel
theorem dX11_dated_75 : decode cX11_dated 75 = .ok (.istore 5, 2) := by decide +kernel
theorem dX11_dated_77 : decode cX11_dated 77 = .ok (.iload 5, 2) := by decide +kernel
theorem dX11_dated_79 : decode cX11_dated 79 = .ok (.iload_n 2, 1) := by decide +kernel
theorem dX11_dated_80 : decode cX11_dated 80 = .ok (.iload_n 3, 1) := by decide +kernel
theorem dX11_dated_81 : decode cX11_dated 81 = .ok (.iadd, 1) := by decide +kernel
theorem dX11_dated_82 : decode cX11_dated 82 = .ok (.if_icmp .ge 31, 3) := by decide +kernel
theorem dX11_dated_85 : decode cX11_dated 85 = .ok (.aload_n 0, 1) := by decide +kernel
theorem dX11_dated_86 : decode cX11_dated 86 = .ok (.getfield 10, 3) := by decide +kernel
theorem dX11_dated_89 : decode cX11_dated 89 = .ok (.iload_n 1, 1) := by decide +kernel
theorem dX11_dated_90 : decode cX11_dated 90 = .ok (.iload 5, 2) := by decide +kernel
theorem dX11_dated_92 : decode cX11_dated 92 = .ok (.invokevirtual 204, 3) := by decide +kernel
theorem dX11_dated_95 : decode cX11_dated 95 = .ok (.iconst 0, 1) := by decide +kernel
theorem dX11_dated_96 : decode cX11_dated 96 = .ok (.bipush 7, 2) := by decide +kernel
theorem dX11_dated_98 : decode cX11_dated 98 = .ok (.invokestatic 70, 3) := by decide +kernel
theorem dX11_dated_101 : decode cX11_dated 101 = .ok (.ifCond .ne 6, 3) := by decide +kernel
theorem dX11_dated_104 : decode cX11_dated 104 = .ok (.ldc 74, 2) := by decide +kernel
theorem dX11_dated_106 : decode cX11_dated 106 = .ok (.ireturn, 1) := by decide +kernel
theorem dX11_dated_107 : decode cX11_dated 107 = .ok (.iinc 5 1, 3) := by decide +kernel
theorem dX11_dated_110 : decode cX11_dated 110 = .ok (.goto (-33), 3) := by decide +kernel
theorem dX11_dated_113 : decode cX11_dated 113 = .ok (.aload_n 0, 1) := by decide +kernel
theorem dX11_dated_114 : decode cX11_dated 114 = .ok (.aload_n 0, 1) := by decide +kernel
theorem dX11_dated_115 : decode cX11_dated 115 = .ok (.iload_n 1, 1) := by decide +kernel
theorem dX11_dated_116 : decode cX11_dated 116 = .ok (.iload_n 2, 1) := by decide +kernel
theorem dX11_dated_117 : decode cX11_dated 117 = .ok (.iload_n 3, 1) := by decide +kernel
theorem dX11_dated_118 : decode cX11_dated 118 = .ok (.iload 4, 2) := by decide +kernel
theorem dX11_dated_120 : decode cX11_dated 120 = .ok (.invokevirtual 224, 3) := by decide +kernel
theorem dX11_dated_123 : decode cX11_dated 123 = .ok (.invokevirtual 83, 3) := by decide +kernel
theorem dX11_dated_126 : decode cX11_dated 126 = .ok (.ireturn, 1) := by decide +kernel
abbrev cX11_image : ByteArray := prog_1_method_21_code
def yX11_image : MethodName := ⟨"DayTongues", "image", "(I)I"⟩
def mX11_image : dt_MD := (yX11_image, cX11_image, 2, some .int)
theorem dX11_image_0 : decode cX11_image 0 = .ok (.iload_n 1, 1) := by decide +kernel
theorem dX11_image_1 : decode cX11_image 1 = .ok (.iconst 0, 1) := by decide +kernel
theorem dX11_image_2 : decode cX11_image 2 = .ok (.iconst 1, 1) := by decide +kernel
theorem dX11_image_3 : decode cX11_image 3 = .ok (.invokestatic 70, 3) := by decide +kernel
theorem dX11_image_6 : decode cX11_image 6 = .ok (.ifCond .ne 6, 3) := by decide +kernel
theorem dX11_image_9 : decode cX11_image 9 = .ok (.ldc 74, 2) := by decide +kernel
theorem dX11_image_11 : decode cX11_image 11 = .ok (.ireturn, 1) := by decide +kernel
theorem dX11_image_12 : decode cX11_image 12 = .ok (.aload_n 0, 1) := by decide +kernel
theorem dX11_image_13 : decode cX11_image 13 = .ok (.invokevirtual 132, 3) := by decide +kernel
theorem dX11_image_16 : decode cX11_image 16 = .ok (.ifCond .eq 6, 3) := by decide +kernel
theorem dX11_image_19 : decode cX11_image 19 = .ok (.ldc 136, 2) := by decide +kernel
theorem dX11_image_21 : decode cX11_image 21 = .ok (.ireturn, 1) := by decide +kernel
theorem dX11_image_22 : decode cX11_image 22 = .ok (.aload_n 0, 1) := by decide +kernel
theorem dX11_image_23 : decode cX11_image 23 = .ok (.iload_n 1, 1) := by decide +kernel
theorem dX11_image_24 : decode cX11_image 24 = .ok (.invokevirtual 228, 3) := by decide +kernel
theorem dX11_image_27 : decode cX11_image 27 = .ok (.aload_n 0, 1) := by decide +kernel
theorem dX11_image_28 : decode cX11_image 28 = .ok (.getfield 26, 3) := by decide +kernel
theorem dX11_image_31 : decode cX11_image 31 = .ok (.invokevirtual 126, 3) := by decide +kernel
theorem dX11_image_34 : decode cX11_image 34 = .ok (.iconst 1, 1) := by decide +kernel
theorem dX11_image_35 : decode cX11_image 35 = .ok (.ireturn, 1) := by decide +kernel
abbrev cX11_restore : ByteArray := prog_1_method_22_code
def yX11_restore : MethodName := ⟨"DayTongues", "restore", "(I)I"⟩
def mX11_restore : dt_MD := (yX11_restore, cX11_restore, 2, some .int)
theorem dX11_restore_0 : decode cX11_restore 0 = .ok (.iload_n 1, 1) := by decide +kernel
theorem dX11_restore_1 : decode cX11_restore 1 = .ok (.iconst 0, 1) := by decide +kernel
theorem dX11_restore_2 : decode cX11_restore 2 = .ok (.iconst 1, 1) := by decide +kernel
theorem dX11_restore_3 : decode cX11_restore 3 = .ok (.invokestatic 70, 3) := by decide +kernel
theorem dX11_restore_6 : decode cX11_restore 6 = .ok (.ifCond .ne 6, 3) := by decide +kernel
theorem dX11_restore_9 : decode cX11_restore 9 = .ok (.ldc 74, 2) := by decide +kernel
theorem dX11_restore_11 : decode cX11_restore 11 = .ok (.ireturn, 1) := by decide +kernel
theorem dX11_restore_12 : decode cX11_restore 12 = .ok (.aload_n 0, 1) := by decide +kernel
theorem dX11_restore_13 : decode cX11_restore 13 = .ok (.iload_n 1, 1) := by decide +kernel
theorem dX11_restore_14 : decode cX11_restore 14 = .ok (.invokevirtual 228, 3) := by decide +kernel
theorem dX11_restore_17 : decode cX11_restore 17 = .ok (.invokevirtual 232, 3) := by decide +kernel
theorem dX11_restore_20 : decode cX11_restore 20 = .ok (.ifCond .eq 6, 3) := by decide +kernel
theorem dX11_restore_23 : decode cX11_restore 23 = .ok (.ldc 136, 2) := by decide +kernel
theorem dX11_restore_25 : decode cX11_restore 25 = .ok (.ireturn, 1) := by decide +kernel
theorem dX11_restore_26 : decode cX11_restore 26 = .ok (.aload_n 0, 1) := by decide +kernel
theorem dX11_restore_27 : decode cX11_restore 27 = .ok (.getfield 26, 3) := by decide +kernel
theorem dX11_restore_30 : decode cX11_restore 30 = .ok (.aload_n 0, 1) := by decide +kernel
theorem dX11_restore_31 : decode cX11_restore 31 = .ok (.iload_n 1, 1) := by decide +kernel
theorem dX11_restore_32 : decode cX11_restore 32 = .ok (.invokevirtual 228, 3) := by decide +kernel
theorem dX11_restore_35 : decode cX11_restore 35 = .ok (.invokevirtual 126, 3) := by decide +kernel
theorem dX11_restore_38 : decode cX11_restore 38 = .ok (.iconst 1, 1) := by decide +kernel
theorem dX11_restore_39 : decode cX11_restore 39 = .ok (.ireturn, 1) := by decide +kernel
abbrev cX11_kind : ByteArray := prog_1_method_23_code
def yX11_kind : MethodName := ⟨"DayTongues", "kind", "(II)I"⟩
def mX11_kind : dt_MD := (yX11_kind, cX11_kind, 3, some .int)
theorem dX11_kind_0 : decode cX11_kind 0 = .ok (.aload_n 0, 1) := by decide +kernel
theorem dX11_kind_1 : decode cX11_kind 1 = .ok (.getfield 26, 3) := by decide +kernel
theorem dX11_kind_4 : decode cX11_kind 4 = .ok (.iload_n 1, 1) := by decide +kernel
theorem dX11_kind_5 : decode cX11_kind 5 = .ok (.iload_n 2, 1) := by decide +kernel
theorem dX11_kind_6 : decode cX11_kind 6 = .ok (.invokevirtual 145, 3) := by decide +kernel
theorem dX11_kind_9 : decode cX11_kind 9 = .ok (.ifCond .eq 15, 3) := by decide +kernel
theorem dX11_kind_12 : decode cX11_kind 12 = .ok (.aload_n 0, 1) := by decide +kernel
theorem dX11_kind_13 : decode cX11_kind 13 = .ok (.getfield 26, 3) := by decide +kernel
theorem dX11_kind_16 : decode cX11_kind 16 = .ok (.iload_n 1, 1) := by decide +kernel
theorem dX11_kind_17 : decode cX11_kind 17 = .ok (.iload_n 2, 1) := by decide +kernel
theorem dX11_kind_18 : decode cX11_kind 18 = .ok (.invokevirtual 235, 3) := by decide +kernel
theorem dX11_kind_21 : decode cX11_kind 21 = .ok (.goto 5, 3) := by decide +kernel
theorem dX11_kind_24 : decode cX11_kind 24 = .ok (.ldc 74, 2) := by decide +kernel
theorem dX11_kind_26 : decode cX11_kind 26 = .ok (.ireturn, 1) := by decide +kernel
abbrev cX11_as : ByteArray := prog_1_method_24_code
def yX11_as : MethodName := ⟨"DayTongues", "as", "(III)I"⟩
def mX11_as : dt_MD := (yX11_as, cX11_as, 4, some .int)
theorem dX11_as_0 : decode cX11_as 0 = .ok (.aload_n 0, 1) := by decide +kernel
theorem dX11_as_1 : decode cX11_as 1 = .ok (.getfield 26, 3) := by decide +kernel
theorem dX11_as_4 : decode cX11_as 4 = .ok (.iload_n 1, 1) := by decide +kernel
theorem dX11_as_5 : decode cX11_as 5 = .ok (.iload_n 2, 1) := by decide +kernel
theorem dX11_as_6 : decode cX11_as 6 = .ok (.invokevirtual 145, 3) := by decide +kernel
theorem dX11_as_9 : decode cX11_as 9 = .ok (.ifCond .eq 12, 3) := by decide +kernel
theorem dX11_as_12 : decode cX11_as 12 = .ok (.iload_n 3, 1) := by decide +kernel
theorem dX11_as_13 : decode cX11_as 13 = .ok (.iconst 0, 1) := by decide +kernel
theorem dX11_as_14 : decode cX11_as 14 = .ok (.iconst 5, 1) := by decide +kernel
theorem dX11_as_15 : decode cX11_as 15 = .ok (.invokestatic 70, 3) := by decide +kernel
theorem dX11_as_18 : decode cX11_as 18 = .ok (.ifCond .ne 6, 3) := by decide +kernel
theorem dX11_as_21 : decode cX11_as 21 = .ok (.ldc 74, 2) := by decide +kernel
theorem dX11_as_23 : decode cX11_as 23 = .ok (.ireturn, 1) := by decide +kernel
theorem dX11_as_24 : decode cX11_as 24 = .ok (.aload_n 0, 1) := by decide +kernel
theorem dX11_as_25 : decode cX11_as 25 = .ok (.iload_n 1, 1) := by decide +kernel
theorem dX11_as_26 : decode cX11_as 26 = .ok (.iload_n 2, 1) := by decide +kernel
theorem dX11_as_27 : decode cX11_as 27 = .ok (.invokevirtual 238, 3) := by decide +kernel
theorem dX11_as_30 : decode cX11_as 30 = .ok (.iload_n 3, 1) := by decide +kernel
theorem dX11_as_31 : decode cX11_as 31 = .ok (.invokestatic 242, 3) := by decide +kernel
theorem dX11_as_34 : decode cX11_as 34 = .ok (.ifCond .eq 11, 3) := by decide +kernel
theorem dX11_as_37 : decode cX11_as 37 = .ok (.aload_n 0, 1) := by decide +kernel
theorem dX11_as_38 : decode cX11_as 38 = .ok (.iload_n 2, 1) := by decide +kernel
theorem dX11_as_39 : decode cX11_as 39 = .ok (.invokevirtual 83, 3) := by decide +kernel
theorem dX11_as_42 : decode cX11_as 42 = .ok (.goto 8, 3) := by decide +kernel
theorem dX11_as_45 : decode cX11_as 45 = .ok (.aload_n 0, 1) := by decide +kernel
theorem dX11_as_46 : decode cX11_as 46 = .ok (.iconst 3, 1) := by decide +kernel
theorem dX11_as_47 : decode cX11_as 47 = .ok (.invokevirtual 75, 3) := by decide +kernel
theorem dX11_as_50 : decode cX11_as 50 = .ok (.ireturn, 1) := by decide +kernel
abbrev cX11_ask : ByteArray := prog_1_method_25_code
def yX11_ask : MethodName := ⟨"DayTongues", "ask", "(III)I"⟩
def mX11_ask : dt_MD := (yX11_ask, cX11_ask, 5, some .int)
theorem dX11_ask_0 : decode cX11_ask 0 = .ok (.aload_n 0, 1) := by decide +kernel
theorem dX11_ask_1 : decode cX11_ask 1 = .ok (.getfield 26, 3) := by decide +kernel
theorem dX11_ask_4 : decode cX11_ask 4 = .ok (.iload_n 1, 1) := by decide +kernel
theorem dX11_ask_5 : decode cX11_ask 5 = .ok (.iload_n 2, 1) := by decide +kernel
theorem dX11_ask_6 : decode cX11_ask 6 = .ok (.invokevirtual 145, 3) := by decide +kernel
theorem dX11_ask_9 : decode cX11_ask 9 = .ok (.ifCond .eq 12, 3) := by decide +kernel
theorem dX11_ask_12 : decode cX11_ask 12 = .ok (.iload_n 3, 1) := by decide +kernel
theorem dX11_ask_13 : decode cX11_ask 13 = .ok (.iconst 0, 1) := by decide +kernel
theorem dX11_ask_14 : decode cX11_ask 14 = .ok (.iconst 1, 1) := by decide +kernel
theorem dX11_ask_15 : decode cX11_ask 15 = .ok (.invokestatic 70, 3) := by decide +kernel
theorem dX11_ask_18 : decode cX11_ask 18 = .ok (.ifCond .ne 6, 3) := by decide +kernel
theorem dX11_ask_21 : decode cX11_ask 21 = .ok (.ldc 74, 2) := by decide +kernel
theorem dX11_ask_23 : decode cX11_ask 23 = .ok (.ireturn, 1) := by decide +kernel
theorem dX11_ask_24 : decode cX11_ask 24 = .ok (.aload_n 0, 1) := by decide +kernel
theorem dX11_ask_25 : decode cX11_ask 25 = .ok (.iload_n 1, 1) := by decide +kernel
theorem dX11_ask_26 : decode cX11_ask 26 = .ok (.iload_n 2, 1) := by decide +kernel
theorem dX11_ask_27 : decode cX11_ask 27 = .ok (.invokevirtual 238, 3) := by decide +kernel
theorem dX11_ask_30 : decode cX11_ask 30 = .ok (.astore 4, 2) := by decide +kernel
theorem dX11_ask_32 : decode cX11_ask 32 = .ok (.aload_n 0, 1) := by decide +kernel
theorem dX11_ask_33 : decode cX11_ask 33 = .ok (.aload 4, 2) := by decide +kernel
theorem dX11_ask_35 : decode cX11_ask 35 = .ok (.putfield 55, 3) := by decide +kernel
theorem dX11_ask_38 : decode cX11_ask 38 = .ok (.iload_n 3, 1) := by decide +kernel
theorem dX11_ask_39 : decode cX11_ask 39 = .ok (.ifCond .ne 11, 3) := by decide +kernel
theorem dX11_ask_42 : decode cX11_ask 42 = .ok (.aload 4, 2) := by decide +kernel
theorem dX11_ask_44 : decode cX11_ask 44 = .ok (.invokevirtual 246, 3) := by decide +kernel
theorem dX11_ask_47 : decode cX11_ask 47 = .ok (.goto 8, 3) := by decide +kernel
theorem dX11_ask_50 : decode cX11_ask 50 = .ok (.aload 4, 2) := by decide +kernel
theorem dX11_ask_52 : decode cX11_ask 52 = .ok (.invokevirtual 251, 3) := by decide +kernel
theorem dX11_ask_55 : decode cX11_ask 55 = .ok (.ireturn, 1) := by decide +kernel
abbrev cX11_trace : ByteArray := prog_1_method_26_code
def yX11_trace : MethodName := ⟨"DayTongues", "trace", "(I)I"⟩
def mX11_trace : dt_MD := (yX11_trace, cX11_trace, 2, some .int)
theorem dX11_trace_0 : decode cX11_trace 0 = .ok (.aload_n 0, 1) := by decide +kernel
theorem dX11_trace_1 : decode cX11_trace 1 = .ok (.getfield 55, 3) := by decide +kernel
theorem dX11_trace_4 : decode cX11_trace 4 = .ok (.ifnonnull 8, 3) := by decide +kernel
theorem dX11_trace_7 : decode cX11_trace 7 = .ok (.ldc 156, 2) := by decide +kernel
theorem dX11_trace_9 : decode cX11_trace 9 = .ok (.goto 11, 3) := by decide +kernel
theorem dX11_trace_12 : decode cX11_trace 12 = .ok (.aload_n 0, 1) := by decide +kernel
theorem dX11_trace_13 : decode cX11_trace 13 = .ok (.getfield 55, 3) := by decide +kernel
theorem dX11_trace_16 : decode cX11_trace 16 = .ok (.iload_n 1, 1) := by decide +kernel
theorem dX11_trace_17 : decode cX11_trace 17 = .ok (.invokevirtual 254, 3) := by decide +kernel
theorem dX11_trace_20 : decode cX11_trace 20 = .ok (.ireturn, 1) := by decide +kernel
abbrev cX11_count : ByteArray := prog_1_method_27_code
def yX11_count : MethodName := ⟨"DayTongues", "count", "(I)I"⟩
def mX11_count : dt_MD := (yX11_count, cX11_count, 2, some .int)
theorem dX11_count_0 : decode cX11_count 0 = .ok (.iload_n 1, 1) := by decide +kernel
theorem dX11_count_1 : decode cX11_count 1 = .ok (.tableswitch 87 0 5 #[39, 47, 55, 63, 71, 79], 39) := by decide +kernel
theorem dX11_count_40 : decode cX11_count 40 = .ok (.aload_n 0, 1) := by decide +kernel
theorem dX11_count_41 : decode cX11_count 41 = .ok (.getfield 10, 3) := by decide +kernel
theorem dX11_count_44 : decode cX11_count 44 = .ok (.invokevirtual 257, 3) := by decide +kernel
theorem dX11_count_47 : decode cX11_count 47 = .ok (.ireturn, 1) := by decide +kernel
theorem dX11_count_48 : decode cX11_count 48 = .ok (.aload_n 0, 1) := by decide +kernel
theorem dX11_count_49 : decode cX11_count 49 = .ok (.getfield 26, 3) := by decide +kernel
theorem dX11_count_52 : decode cX11_count 52 = .ok (.invokevirtual 129, 3) := by decide +kernel
theorem dX11_count_55 : decode cX11_count 55 = .ok (.ireturn, 1) := by decide +kernel
theorem dX11_count_56 : decode cX11_count 56 = .ok (.aload_n 0, 1) := by decide +kernel
theorem dX11_count_57 : decode cX11_count 57 = .ok (.getfield 26, 3) := by decide +kernel
theorem dX11_count_60 : decode cX11_count 60 = .ok (.invokevirtual 260, 3) := by decide +kernel
theorem dX11_count_63 : decode cX11_count 63 = .ok (.ireturn, 1) := by decide +kernel
theorem dX11_count_64 : decode cX11_count 64 = .ok (.aload_n 0, 1) := by decide +kernel
theorem dX11_count_65 : decode cX11_count 65 = .ok (.getfield 26, 3) := by decide +kernel
theorem dX11_count_68 : decode cX11_count 68 = .ok (.invokevirtual 263, 3) := by decide +kernel
theorem dX11_count_71 : decode cX11_count 71 = .ok (.ireturn, 1) := by decide +kernel
theorem dX11_count_72 : decode cX11_count 72 = .ok (.aload_n 0, 1) := by decide +kernel
theorem dX11_count_73 : decode cX11_count 73 = .ok (.getfield 26, 3) := by decide +kernel
theorem dX11_count_76 : decode cX11_count 76 = .ok (.invokevirtual 142, 3) := by decide +kernel
theorem dX11_count_79 : decode cX11_count 79 = .ok (.ireturn, 1) := by decide +kernel
theorem dX11_count_80 : decode cX11_count 80 = .ok (.aload_n 0, 1) := by decide +kernel
theorem dX11_count_81 : decode cX11_count 81 = .ok (.getfield 19, 3) := by decide +kernel
theorem dX11_count_84 : decode cX11_count 84 = .ok (.invokevirtual 265, 3) := by decide +kernel
theorem dX11_count_87 : decode cX11_count 87 = .ok (.ireturn, 1) := by decide +kernel
theorem dX11_count_88 : decode cX11_count 88 = .ok (.ldc 74, 2) := by decide +kernel
theorem dX11_count_90 : decode cX11_count 90 = .ok (.ireturn, 1) := by decide +kernel
abbrev cX11_status : ByteArray := prog_1_method_28_code
def yX11_status : MethodName := ⟨"DayTongues", "status", "()I"⟩
def mX11_status : dt_MD := (yX11_status, cX11_status, 1, some .int)
theorem dX11_status_0 : decode cX11_status 0 = .ok (.aload_n 0, 1) := by decide +kernel
theorem dX11_status_1 : decode cX11_status 1 = .ok (.getfield 63, 3) := by decide +kernel
theorem dX11_status_4 : decode cX11_status 4 = .ok (.ireturn, 1) := by decide +kernel
abbrev cX11_found : ByteArray := prog_1_method_29_code
def yX11_found : MethodName := ⟨"DayTongues", "found", "(I)I"⟩
def mX11_found : dt_MD := (yX11_found, cX11_found, 2, some .int)
theorem dX11_found_0 : decode cX11_found 0 = .ok (.aload_n 0, 1) := by decide +kernel
theorem dX11_found_1 : decode cX11_found 1 = .ok (.iload_n 1, 1) := by decide +kernel
theorem dX11_found_2 : decode cX11_found 2 = .ok (.putfield 63, 3) := by decide +kernel
theorem dX11_found_5 : decode cX11_found 5 = .ok (.ldc_w 268, 3) := by decide +kernel
theorem dX11_found_8 : decode cX11_found 8 = .ok (.iload_n 1, 1) := by decide +kernel
theorem dX11_found_9 : decode cX11_found 9 = .ok (.isub, 1) := by decide +kernel
theorem dX11_found_10 : decode cX11_found 10 = .ok (.ireturn, 1) := by decide +kernel
abbrev cX11_well : ByteArray := prog_1_method_30_code
def yX11_well : MethodName := ⟨"DayTongues", "well", "(I)I"⟩
def mX11_well : dt_MD := (yX11_well, cX11_well, 2, some .int)
theorem dX11_well_0 : decode cX11_well 0 = .ok (.aload_n 0, 1) := by decide +kernel
theorem dX11_well_1 : decode cX11_well 1 = .ok (.iconst 0, 1) := by decide +kernel
theorem dX11_well_2 : decode cX11_well 2 = .ok (.putfield 63, 3) := by decide +kernel
theorem dX11_well_5 : decode cX11_well 5 = .ok (.iload_n 1, 1) := by decide +kernel
theorem dX11_well_6 : decode cX11_well 6 = .ok (.ireturn, 1) := by decide +kernel
abbrev cX11_hasNoPort : ByteArray := prog_1_method_31_code
def yX11_hasNoPort : MethodName := ⟨"DayTongues", "hasNoPort", "()Z"⟩
def mX11_hasNoPort : dt_MD := (yX11_hasNoPort, cX11_hasNoPort, 1, some .boolean)
theorem dX11_hasNoPort_0 : decode cX11_hasNoPort 0 = .ok (.aload_n 0, 1) := by decide +kernel
theorem dX11_hasNoPort_1 : decode cX11_hasNoPort 1 = .ok (.getfield 26, 3) := by decide +kernel
theorem dX11_hasNoPort_4 : decode cX11_hasNoPort 4 = .ok (.invokevirtual 232, 3) := by decide +kernel
theorem dX11_hasNoPort_7 : decode cX11_hasNoPort 7 = .ok (.ireturn, 1) := by decide +kernel
abbrev cX11_isWithin : ByteArray := prog_1_method_32_code
def yX11_isWithin : MethodName := ⟨"DayTongues", "isWithin", "(III)Z"⟩
def mX11_isWithin : dt_MD := (yX11_isWithin, cX11_isWithin, 3, some .boolean)
theorem dX11_isWithin_0 : decode cX11_isWithin 0 = .ok (.iload_n 1, 1) := by decide +kernel
theorem dX11_isWithin_1 : decode cX11_isWithin 1 = .ok (.iload_n 0, 1) := by decide +kernel
theorem dX11_isWithin_2 : decode cX11_isWithin 2 = .ok (.if_icmp .gt 12, 3) := by decide +kernel
theorem dX11_isWithin_5 : decode cX11_isWithin 5 = .ok (.iload_n 0, 1) := by decide +kernel
theorem dX11_isWithin_6 : decode cX11_isWithin 6 = .ok (.iload_n 2, 1) := by decide +kernel
theorem dX11_isWithin_7 : decode cX11_isWithin 7 = .ok (.if_icmp .gt 7, 3) := by decide +kernel
theorem dX11_isWithin_10 : decode cX11_isWithin 10 = .ok (.iconst 1, 1) := by decide +kernel
theorem dX11_isWithin_11 : decode cX11_isWithin 11 = .ok (.goto 4, 3) := by decide +kernel
theorem dX11_isWithin_14 : decode cX11_isWithin 14 = .ok (.iconst 0, 1) := by decide +kernel
theorem dX11_isWithin_15 : decode cX11_isWithin 15 = .ok (.ireturn, 1) := by decide +kernel
abbrev cX11_isDay : ByteArray := prog_1_method_33_code
def yX11_isDay : MethodName := ⟨"DayTongues", "isDay", "(I)Z"⟩
def mX11_isDay : dt_MD := (yX11_isDay, cX11_isDay, 1, some .boolean)
theorem dX11_isDay_0 : decode cX11_isDay 0 = .ok (.iload_n 0, 1) := by decide +kernel
theorem dX11_isDay_1 : decode cX11_isDay 1 = .ok (.iconst 0, 1) := by decide +kernel
theorem dX11_isDay_2 : decode cX11_isDay 2 = .ok (.ldc_w 269, 3) := by decide +kernel
theorem dX11_isDay_5 : decode cX11_isDay 5 = .ok (.invokestatic 70, 3) := by decide +kernel
theorem dX11_isDay_8 : decode cX11_isDay 8 = .ok (.ireturn, 1) := by decide +kernel
abbrev cX11_isSet : ByteArray := prog_1_method_34_code
def yX11_isSet : MethodName := ⟨"DayTongues", "isSet", "(I)Z"⟩
def mX11_isSet : dt_MD := (yX11_isSet, cX11_isSet, 1, some .boolean)
theorem dX11_isSet_0 : decode cX11_isSet 0 = .ok (.iload_n 0, 1) := by decide +kernel
theorem dX11_isSet_1 : decode cX11_isSet 1 = .ok (.iconst 0, 1) := by decide +kernel
theorem dX11_isSet_2 : decode cX11_isSet 2 = .ok (.sipush 255, 3) := by decide +kernel
theorem dX11_isSet_5 : decode cX11_isSet 5 = .ok (.invokestatic 70, 3) := by decide +kernel
theorem dX11_isSet_8 : decode cX11_isSet 8 = .ok (.ireturn, 1) := by decide +kernel
abbrev cX11_imageOf : ByteArray := prog_1_method_35_code
def yX11_imageOf : MethodName := ⟨"DayTongues", "imageOf", "(I)LDayTongues$Port;"⟩
def mX11_imageOf : dt_MD := (yX11_imageOf, cX11_imageOf, 2, some (.object "DayTongues$Port"))
theorem dX11_imageOf_0 : decode cX11_imageOf 0 = .ok (.iload_n 1, 1) := by decide +kernel
theorem dX11_imageOf_1 : decode cX11_imageOf 1 = .ok (.ifCond .ne 10, 3) := by decide +kernel
theorem dX11_imageOf_4 : decode cX11_imageOf 4 = .ok (.aload_n 0, 1) := by decide +kernel
theorem dX11_imageOf_5 : decode cX11_imageOf 5 = .ok (.getfield 33, 3) := by decide +kernel
theorem dX11_imageOf_8 : decode cX11_imageOf 8 = .ok (.goto 7, 3) := by decide +kernel
theorem dX11_imageOf_11 : decode cX11_imageOf 11 = .ok (.aload_n 0, 1) := by decide +kernel
theorem dX11_imageOf_12 : decode cX11_imageOf 12 = .ok (.getfield 36, 3) := by decide +kernel
theorem dX11_imageOf_15 : decode cX11_imageOf 15 = .ok (.areturn, 1) := by decide +kernel
abbrev cX11_isSaid : ByteArray := prog_1_method_36_code
def yX11_isSaid : MethodName := ⟨"DayTongues", "isSaid", "(IIII)Z"⟩
def mX11_isSaid : dt_MD := (yX11_isSaid, cX11_isSaid, 7, some .boolean)
theorem dX11_isSaid_0 : decode cX11_isSaid 0 = .ok (.aload_n 0, 1) := by decide +kernel
theorem dX11_isSaid_1 : decode cX11_isSaid 1 = .ok (.getfield 44, 3) := by decide +kernel
theorem dX11_isSaid_4 : decode cX11_isSaid 4 = .ok (.invokevirtual 270, 3) := by decide +kernel
theorem dX11_isSaid_7 : decode cX11_isSaid 7 = .ok (.iload_n 3, 1) := by decide +kernel
theorem dX11_isSaid_8 : decode cX11_isSaid 8 = .ok (.istore 5, 2) := by decide +kernel
theorem dX11_isSaid_10 : decode cX11_isSaid 10 = .ok (.iload 5, 2) := by decide +kernel
theorem dX11_isSaid_12 : decode cX11_isSaid 12 = .ok (.iload_n 3, 1) := by decide +kernel
theorem dX11_isSaid_13 : decode cX11_isSaid 13 = .ok (.iload 4, 2) := by decide +kernel
theorem dX11_isSaid_15 : decode cX11_isSaid 15 = .ok (.iadd, 1) := by decide +kernel
theorem dX11_isSaid_16 : decode cX11_isSaid 16 = .ok (.if_icmp .ge 46, 3) := by decide +kernel
theorem dX11_isSaid_19 : decode cX11_isSaid 19 = .ok (.aload_n 0, 1) := by decide +kernel
theorem dX11_isSaid_20 : decode cX11_isSaid 20 = .ok (.getfield 10, 3) := by decide +kernel
theorem dX11_isSaid_23 : decode cX11_isSaid 23 = .ok (.iload_n 2, 1) := by decide +kernel
theorem dX11_isSaid_24 : decode cX11_isSaid 24 = .ok (.iload 5, 2) := by decide +kernel
theorem dX11_isSaid_26 : decode cX11_isSaid 26 = .ok (.invokevirtual 204, 3) := by decide +kernel
theorem dX11_isSaid_29 : decode cX11_isSaid 29 = .ok (.istore 6, 2) := by decide +kernel
theorem dX11_isSaid_31 : decode cX11_isSaid 31 = .ok (.aload_n 0, 1) := by decide +kernel
theorem dX11_isSaid_32 : decode cX11_isSaid 32 = .ok (.getfield 26, 3) := by decide +kernel
theorem dX11_isSaid_35 : decode cX11_isSaid 35 = .ok (.iload_n 1, 1) := by decide +kernel
theorem dX11_isSaid_36 : decode cX11_isSaid 36 = .ok (.iload 6, 2) := by decide +kernel
theorem dX11_isSaid_38 : decode cX11_isSaid 38 = .ok (.invokevirtual 145, 3) := by decide +kernel
theorem dX11_isSaid_41 : decode cX11_isSaid 41 = .ok (.ifCond .ne 5, 3) := by decide +kernel
theorem dX11_isSaid_44 : decode cX11_isSaid 44 = .ok (.iconst 0, 1) := by decide +kernel
theorem dX11_isSaid_45 : decode cX11_isSaid 45 = .ok (.ireturn, 1) := by decide +kernel
theorem dX11_isSaid_46 : decode cX11_isSaid 46 = .ok (.aload_n 0, 1) := by decide +kernel
theorem dX11_isSaid_47 : decode cX11_isSaid 47 = .ok (.getfield 44, 3) := by decide +kernel
theorem dX11_isSaid_50 : decode cX11_isSaid 50 = .ok (.iload_n 1, 1) := by decide +kernel
theorem dX11_isSaid_51 : decode cX11_isSaid 51 = .ok (.iload 6, 2) := by decide +kernel
theorem dX11_isSaid_53 : decode cX11_isSaid 53 = .ok (.invokevirtual 273, 3) := by decide +kernel
theorem dX11_isSaid_56 : decode cX11_isSaid 56 = .ok (.iinc 5 1, 3) := by decide +kernel
theorem dX11_isSaid_59 : decode cX11_isSaid 59 = .ok (.goto (-49), 3) := by decide +kernel
theorem dX11_isSaid_62 : decode cX11_isSaid 62 = .ok (.iconst 1, 1) := by decide +kernel
theorem dX11_isSaid_63 : decode cX11_isSaid 63 = .ok (.ireturn, 1) := by decide +kernel
abbrev cX11_refusalOfSaying : ByteArray := prog_1_method_37_code
def yX11_refusalOfSaying : MethodName := ⟨"DayTongues", "refusalOfSaying", "(II)I"⟩
def mX11_refusalOfSaying : dt_MD := (yX11_refusalOfSaying, cX11_refusalOfSaying, 6, some .int)
theorem dX11_refusalOfSaying_0 : decode cX11_refusalOfSaying 0 = .ok (.aload_n 0, 1) := by decide +kernel
theorem dX11_refusalOfSaying_1 : decode cX11_refusalOfSaying 1 = .ok (.getfield 10, 3) := by decide +kernel
theorem dX11_refusalOfSaying_4 : decode cX11_refusalOfSaying 4 = .ok (.iload_n 1, 1) := by decide +kernel
theorem dX11_refusalOfSaying_5 : decode cX11_refusalOfSaying 5 = .ok (.iload_n 2, 1) := by decide +kernel
theorem dX11_refusalOfSaying_6 : decode cX11_refusalOfSaying 6 = .ok (.iconst 1, 1) := by decide +kernel
theorem dX11_refusalOfSaying_7 : decode cX11_refusalOfSaying 7 = .ok (.invokevirtual 89, 3) := by decide +kernel
theorem dX11_refusalOfSaying_10 : decode cX11_refusalOfSaying 10 = .ok (.ifCond .ne 5, 3) := by decide +kernel
theorem dX11_refusalOfSaying_13 : decode cX11_refusalOfSaying 13 = .ok (.iconst 2, 1) := by decide +kernel
theorem dX11_refusalOfSaying_14 : decode cX11_refusalOfSaying 14 = .ok (.ireturn, 1) := by decide +kernel
theorem dX11_refusalOfSaying_15 : decode cX11_refusalOfSaying 15 = .ok (.aload_n 0, 1) := by decide +kernel
theorem dX11_refusalOfSaying_16 : decode cX11_refusalOfSaying 16 = .ok (.getfield 10, 3) := by decide +kernel
theorem dX11_refusalOfSaying_19 : decode cX11_refusalOfSaying 19 = .ok (.iload_n 1, 1) := by decide +kernel
theorem dX11_refusalOfSaying_20 : decode cX11_refusalOfSaying 20 = .ok (.iload_n 2, 1) := by decide +kernel
theorem dX11_refusalOfSaying_21 : decode cX11_refusalOfSaying 21 = .ok (.invokevirtual 204, 3) := by decide +kernel
theorem dX11_refusalOfSaying_24 : decode cX11_refusalOfSaying 24 = .ok (.istore_n 3, 1) := by decide +kernel
theorem dX11_refusalOfSaying_25 : decode cX11_refusalOfSaying 25 = .ok (.iload_n 3, 1) := by decide +kernel
theorem dX11_refusalOfSaying_26 : decode cX11_refusalOfSaying 26 = .ok (.ifCond .ge 6, 3) := by decide +kernel
theorem dX11_refusalOfSaying_29 : decode cX11_refusalOfSaying 29 = .ok (.ldc 74, 2) := by decide +kernel
theorem dX11_refusalOfSaying_31 : decode cX11_refusalOfSaying 31 = .ok (.ireturn, 1) := by decide +kernel
theorem dX11_refusalOfSaying_32 : decode cX11_refusalOfSaying 32 = .ok (.aload_n 0, 1) := by decide +kernel
theorem dX11_refusalOfSaying_33 : decode cX11_refusalOfSaying 33 = .ok (.getfield 10, 3) := by decide +kernel
theorem dX11_refusalOfSaying_36 : decode cX11_refusalOfSaying 36 = .ok (.iload_n 1, 1) := by decide +kernel
theorem dX11_refusalOfSaying_37 : decode cX11_refusalOfSaying 37 = .ok (.iload_n 2, 1) := by decide +kernel
theorem dX11_refusalOfSaying_38 : decode cX11_refusalOfSaying 38 = .ok (.iconst 1, 1) := by decide +kernel
theorem dX11_refusalOfSaying_39 : decode cX11_refusalOfSaying 39 = .ok (.iadd, 1) := by decide +kernel
theorem dX11_refusalOfSaying_40 : decode cX11_refusalOfSaying 40 = .ok (.iconst 1, 1) := by decide +kernel
theorem dX11_refusalOfSaying_41 : decode cX11_refusalOfSaying 41 = .ok (.invokevirtual 89, 3) := by decide +kernel
theorem dX11_refusalOfSaying_44 : decode cX11_refusalOfSaying 44 = .ok (.ifCond .ne 5, 3) := by decide +kernel
theorem dX11_refusalOfSaying_47 : decode cX11_refusalOfSaying 47 = .ok (.iconst 2, 1) := by decide +kernel
theorem dX11_refusalOfSaying_48 : decode cX11_refusalOfSaying 48 = .ok (.ireturn, 1) := by decide +kernel
theorem dX11_refusalOfSaying_49 : decode cX11_refusalOfSaying 49 = .ok (.aload_n 0, 1) := by decide +kernel
theorem dX11_refusalOfSaying_50 : decode cX11_refusalOfSaying 50 = .ok (.getfield 10, 3) := by decide +kernel
theorem dX11_refusalOfSaying_53 : decode cX11_refusalOfSaying 53 = .ok (.iload_n 1, 1) := by decide +kernel
theorem dX11_refusalOfSaying_54 : decode cX11_refusalOfSaying 54 = .ok (.iload_n 2, 1) := by decide +kernel
theorem dX11_refusalOfSaying_55 : decode cX11_refusalOfSaying 55 = .ok (.iconst 1, 1) := by decide +kernel
theorem dX11_refusalOfSaying_56 : decode cX11_refusalOfSaying 56 = .ok (.iadd, 1) := by decide +kernel
theorem dX11_refusalOfSaying_57 : decode cX11_refusalOfSaying 57 = .ok (.invokevirtual 204, 3) := by decide +kernel
theorem dX11_refusalOfSaying_60 : decode cX11_refusalOfSaying 60 = .ok (.istore 4, 2) := by decide +kernel
theorem dX11_refusalOfSaying_62 : decode cX11_refusalOfSaying 62 = .ok (.iload 4, 2) := by decide +kernel
theorem dX11_refusalOfSaying_64 : decode cX11_refusalOfSaying 64 = .ok (.iconst 0, 1) := by decide +kernel
theorem dX11_refusalOfSaying_65 : decode cX11_refusalOfSaying 65 = .ok (.bipush 6, 2) := by decide +kernel
theorem dX11_refusalOfSaying_67 : decode cX11_refusalOfSaying 67 = .ok (.invokestatic 70, 3) := by decide +kernel
theorem dX11_refusalOfSaying_70 : decode cX11_refusalOfSaying 70 = .ok (.ifCond .ne 6, 3) := by decide +kernel
theorem dX11_refusalOfSaying_73 : decode cX11_refusalOfSaying 73 = .ok (.ldc 74, 2) := by decide +kernel
theorem dX11_refusalOfSaying_75 : decode cX11_refusalOfSaying 75 = .ok (.ireturn, 1) := by decide +kernel
theorem dX11_refusalOfSaying_76 : decode cX11_refusalOfSaying 76 = .ok (.iload 4, 2) := by decide +kernel
theorem dX11_refusalOfSaying_78 : decode cX11_refusalOfSaying 78 = .ok (.aload_n 0, 1) := by decide +kernel
theorem dX11_refusalOfSaying_79 : decode cX11_refusalOfSaying 79 = .ok (.getfield 10, 3) := by decide +kernel
theorem dX11_refusalOfSaying_82 : decode cX11_refusalOfSaying 82 = .ok (.iload_n 1, 1) := by decide +kernel
theorem dX11_refusalOfSaying_83 : decode cX11_refusalOfSaying 83 = .ok (.invokevirtual 276, 3) := by decide +kernel
theorem dX11_refusalOfSaying_86 : decode cX11_refusalOfSaying 86 = .ok (.iload_n 2, 1) := by decide +kernel
theorem dX11_refusalOfSaying_87 : decode cX11_refusalOfSaying 87 = .ok (.isub, 1) := by decide +kernel
theorem dX11_refusalOfSaying_88 : decode cX11_refusalOfSaying 88 = .ok (.iconst 2, 1) := by decide +kernel
theorem dX11_refusalOfSaying_89 : decode cX11_refusalOfSaying 89 = .ok (.isub, 1) := by decide +kernel
theorem dX11_refusalOfSaying_90 : decode cX11_refusalOfSaying 90 = .ok (.invokestatic 279, 3) := by decide +kernel
theorem dX11_refusalOfSaying_93 : decode cX11_refusalOfSaying 93 = .ok (.istore 5, 2) := by decide +kernel
theorem dX11_refusalOfSaying_95 : decode cX11_refusalOfSaying 95 = .ok (.aload_n 0, 1) := by decide +kernel
theorem dX11_refusalOfSaying_96 : decode cX11_refusalOfSaying 96 = .ok (.aload_n 0, 1) := by decide +kernel
theorem dX11_refusalOfSaying_97 : decode cX11_refusalOfSaying 97 = .ok (.getfield 26, 3) := by decide +kernel
theorem dX11_refusalOfSaying_100 : decode cX11_refusalOfSaying 100 = .ok (.iload_n 3, 1) := by decide +kernel
theorem dX11_refusalOfSaying_101 : decode cX11_refusalOfSaying 101 = .ok (.invokevirtual 172, 3) := by decide +kernel
theorem dX11_refusalOfSaying_104 : decode cX11_refusalOfSaying 104 = .ok (.iload_n 1, 1) := by decide +kernel
theorem dX11_refusalOfSaying_105 : decode cX11_refusalOfSaying 105 = .ok (.iload_n 2, 1) := by decide +kernel
theorem dX11_refusalOfSaying_106 : decode cX11_refusalOfSaying 106 = .ok (.iconst 2, 1) := by decide +kernel
theorem dX11_refusalOfSaying_107 : decode cX11_refusalOfSaying 107 = .ok (.iadd, 1) := by decide +kernel
theorem dX11_refusalOfSaying_108 : decode cX11_refusalOfSaying 108 = .ok (.iload 5, 2) := by decide +kernel
theorem dX11_refusalOfSaying_110 : decode cX11_refusalOfSaying 110 = .ok (.invokevirtual 175, 3) := by decide +kernel
theorem dX11_refusalOfSaying_113 : decode cX11_refusalOfSaying 113 = .ok (.ifCond .ne 6, 3) := by decide +kernel
theorem dX11_refusalOfSaying_116 : decode cX11_refusalOfSaying 116 = .ok (.ldc 74, 2) := by decide +kernel
theorem dX11_refusalOfSaying_118 : decode cX11_refusalOfSaying 118 = .ok (.ireturn, 1) := by decide +kernel
theorem dX11_refusalOfSaying_119 : decode cX11_refusalOfSaying 119 = .ok (.iload 5, 2) := by decide +kernel
theorem dX11_refusalOfSaying_121 : decode cX11_refusalOfSaying 121 = .ok (.iload 4, 2) := by decide +kernel
theorem dX11_refusalOfSaying_123 : decode cX11_refusalOfSaying 123 = .ok (.if_icmp .ge 7, 3) := by decide +kernel
theorem dX11_refusalOfSaying_126 : decode cX11_refusalOfSaying 126 = .ok (.iconst 2, 1) := by decide +kernel
theorem dX11_refusalOfSaying_127 : decode cX11_refusalOfSaying 127 = .ok (.goto 4, 3) := by decide +kernel
theorem dX11_refusalOfSaying_130 : decode cX11_refusalOfSaying 130 = .ok (.iconst 0, 1) := by decide +kernel
theorem dX11_refusalOfSaying_131 : decode cX11_refusalOfSaying 131 = .ok (.ireturn, 1) := by decide +kernel
abbrev cX11_tonguesOf : ByteArray := prog_1_method_38_code
def yX11_tonguesOf : MethodName := ⟨"DayTongues", "tonguesOf", "(IIII)I"⟩
def mX11_tonguesOf : dt_MD := (yX11_tonguesOf, cX11_tonguesOf, 7, some .int)
theorem dX11_tonguesOf_0 : decode cX11_tonguesOf 0 = .ok (.iconst 0, 1) := by decide +kernel
theorem dX11_tonguesOf_1 : decode cX11_tonguesOf 1 = .ok (.istore 5, 2) := by decide +kernel
theorem dX11_tonguesOf_3 : decode cX11_tonguesOf 3 = .ok (.iconst 0, 1) := by decide +kernel
theorem dX11_tonguesOf_4 : decode cX11_tonguesOf 4 = .ok (.istore 6, 2) := by decide +kernel
theorem dX11_tonguesOf_6 : decode cX11_tonguesOf 6 = .ok (.iload 6, 2) := by decide +kernel
theorem dX11_tonguesOf_8 : decode cX11_tonguesOf 8 = .ok (.aload_n 0, 1) := by decide +kernel
theorem dX11_tonguesOf_9 : decode cX11_tonguesOf 9 = .ok (.getfield 26, 3) := by decide +kernel
theorem dX11_tonguesOf_12 : decode cX11_tonguesOf 12 = .ok (.invokevirtual 129, 3) := by decide +kernel
theorem dX11_tonguesOf_15 : decode cX11_tonguesOf 15 = .ok (.if_icmp .ge 42, 3) := by decide +kernel
theorem dX11_tonguesOf_18 : decode cX11_tonguesOf 18 = .ok (.aload_n 0, 1) := by decide +kernel
theorem dX11_tonguesOf_19 : decode cX11_tonguesOf 19 = .ok (.iload 6, 2) := by decide +kernel
theorem dX11_tonguesOf_21 : decode cX11_tonguesOf 21 = .ok (.iload_n 1, 1) := by decide +kernel
theorem dX11_tonguesOf_22 : decode cX11_tonguesOf 22 = .ok (.iload_n 2, 1) := by decide +kernel
theorem dX11_tonguesOf_23 : decode cX11_tonguesOf 23 = .ok (.iload_n 3, 1) := by decide +kernel
theorem dX11_tonguesOf_24 : decode cX11_tonguesOf 24 = .ok (.invokevirtual 175, 3) := by decide +kernel
theorem dX11_tonguesOf_27 : decode cX11_tonguesOf 27 = .ok (.ifCond .eq 24, 3) := by decide +kernel
theorem dX11_tonguesOf_30 : decode cX11_tonguesOf 30 = .ok (.aload_n 0, 1) := by decide +kernel
theorem dX11_tonguesOf_31 : decode cX11_tonguesOf 31 = .ok (.getfield 44, 3) := by decide +kernel
theorem dX11_tonguesOf_34 : decode cX11_tonguesOf 34 = .ok (.iload 4, 2) := by decide +kernel
theorem dX11_tonguesOf_36 : decode cX11_tonguesOf 36 = .ok (.invokevirtual 284, 3) := by decide +kernel
theorem dX11_tonguesOf_39 : decode cX11_tonguesOf 39 = .ok (.ifCond .eq 12, 3) := by decide +kernel
theorem dX11_tonguesOf_42 : decode cX11_tonguesOf 42 = .ok (.iload 5, 2) := by decide +kernel
theorem dX11_tonguesOf_44 : decode cX11_tonguesOf 44 = .ok (.iconst 1, 1) := by decide +kernel
theorem dX11_tonguesOf_45 : decode cX11_tonguesOf 45 = .ok (.iload 6, 2) := by decide +kernel
theorem dX11_tonguesOf_47 : decode cX11_tonguesOf 47 = .ok (.ishl, 1) := by decide +kernel
theorem dX11_tonguesOf_48 : decode cX11_tonguesOf 48 = .ok (.ior, 1) := by decide +kernel
theorem dX11_tonguesOf_49 : decode cX11_tonguesOf 49 = .ok (.istore 5, 2) := by decide +kernel
theorem dX11_tonguesOf_51 : decode cX11_tonguesOf 51 = .ok (.iinc 6 1, 3) := by decide +kernel
theorem dX11_tonguesOf_54 : decode cX11_tonguesOf 54 = .ok (.goto (-48), 3) := by decide +kernel
theorem dX11_tonguesOf_57 : decode cX11_tonguesOf 57 = .ok (.iload 5, 2) := by decide +kernel
theorem dX11_tonguesOf_59 : decode cX11_tonguesOf 59 = .ok (.ireturn, 1) := by decide +kernel
abbrev cX11_wordToAsk : ByteArray := prog_1_method_39_code
def yX11_wordToAsk : MethodName := ⟨"DayTongues", "wordToAsk", "(II)LDayTongues$Word;"⟩
def mX11_wordToAsk : dt_MD := (yX11_wordToAsk, cX11_wordToAsk, 5, some (.object "DayTongues$Word"))
theorem dX11_wordToAsk_0 : decode cX11_wordToAsk 0 = .ok (.aload_n 0, 1) := by decide +kernel
theorem dX11_wordToAsk_1 : decode cX11_wordToAsk 1 = .ok (.getfield 26, 3) := by decide +kernel
theorem dX11_wordToAsk_4 : decode cX11_wordToAsk 4 = .ok (.iload_n 1, 1) := by decide +kernel
theorem dX11_wordToAsk_5 : decode cX11_wordToAsk 5 = .ok (.iload_n 2, 1) := by decide +kernel
theorem dX11_wordToAsk_6 : decode cX11_wordToAsk 6 = .ok (.invokevirtual 149, 3) := by decide +kernel
theorem dX11_wordToAsk_9 : decode cX11_wordToAsk 9 = .ok (.istore_n 3, 1) := by decide +kernel
theorem dX11_wordToAsk_10 : decode cX11_wordToAsk 10 = .ok (.aload_n 0, 1) := by decide +kernel
theorem dX11_wordToAsk_11 : decode cX11_wordToAsk 11 = .ok (.getfield 26, 3) := by decide +kernel
theorem dX11_wordToAsk_14 : decode cX11_wordToAsk 14 = .ok (.iload_n 1, 1) := by decide +kernel
theorem dX11_wordToAsk_15 : decode cX11_wordToAsk 15 = .ok (.iload_n 2, 1) := by decide +kernel
theorem dX11_wordToAsk_16 : decode cX11_wordToAsk 16 = .ok (.invokevirtual 287, 3) := by decide +kernel
theorem dX11_wordToAsk_19 : decode cX11_wordToAsk 19 = .ok (.istore 4, 2) := by decide +kernel
theorem dX11_wordToAsk_21 : decode cX11_wordToAsk 21 = .ok (.aload_n 0, 1) := by decide +kernel
theorem dX11_wordToAsk_22 : decode cX11_wordToAsk 22 = .ok (.getfield 26, 3) := by decide +kernel
theorem dX11_wordToAsk_25 : decode cX11_wordToAsk 25 = .ok (.iload_n 1, 1) := by decide +kernel
theorem dX11_wordToAsk_26 : decode cX11_wordToAsk 26 = .ok (.iload_n 2, 1) := by decide +kernel
theorem dX11_wordToAsk_27 : decode cX11_wordToAsk 27 = .ok (.invokevirtual 235, 3) := by decide +kernel
theorem dX11_wordToAsk_30 : decode cX11_wordToAsk 30 = .ok (.tableswitch 94 1 5 #[34, 46, 58, 70, 82], 34) := by decide +kernel
theorem dX11_wordToAsk_64 : decode cX11_wordToAsk 64 = .ok (.new 290, 3) := by decide +kernel
theorem dX11_wordToAsk_67 : decode cX11_wordToAsk 67 = .ok (.dup, 1) := by decide +kernel
theorem dX11_wordToAsk_68 : decode cX11_wordToAsk 68 = .ok (.iload_n 2, 1) := by decide +kernel
theorem dX11_wordToAsk_69 : decode cX11_wordToAsk 69 = .ok (.iload_n 3, 1) := by decide +kernel
theorem dX11_wordToAsk_70 : decode cX11_wordToAsk 70 = .ok (.iload 4, 2) := by decide +kernel
theorem dX11_wordToAsk_72 : decode cX11_wordToAsk 72 = .ok (.invokespecial 292, 3) := by decide +kernel
theorem dX11_wordToAsk_75 : decode cX11_wordToAsk 75 = .ok (.areturn, 1) := by decide +kernel
theorem dX11_wordToAsk_76 : decode cX11_wordToAsk 76 = .ok (.new 294, 3) := by decide +kernel
theorem dX11_wordToAsk_79 : decode cX11_wordToAsk 79 = .ok (.dup, 1) := by decide +kernel
theorem dX11_wordToAsk_80 : decode cX11_wordToAsk 80 = .ok (.iload_n 2, 1) := by decide +kernel
theorem dX11_wordToAsk_81 : decode cX11_wordToAsk 81 = .ok (.iload_n 3, 1) := by decide +kernel
theorem dX11_wordToAsk_82 : decode cX11_wordToAsk 82 = .ok (.iload 4, 2) := by decide +kernel
theorem dX11_wordToAsk_84 : decode cX11_wordToAsk 84 = .ok (.invokespecial 296, 3) := by decide +kernel
theorem dX11_wordToAsk_87 : decode cX11_wordToAsk 87 = .ok (.areturn, 1) := by decide +kernel
theorem dX11_wordToAsk_88 : decode cX11_wordToAsk 88 = .ok (.new 297, 3) := by decide +kernel
theorem dX11_wordToAsk_91 : decode cX11_wordToAsk 91 = .ok (.dup, 1) := by decide +kernel
theorem dX11_wordToAsk_92 : decode cX11_wordToAsk 92 = .ok (.iload_n 2, 1) := by decide +kernel
theorem dX11_wordToAsk_93 : decode cX11_wordToAsk 93 = .ok (.iload_n 3, 1) := by decide +kernel
theorem dX11_wordToAsk_94 : decode cX11_wordToAsk 94 = .ok (.iload 4, 2) := by decide +kernel
theorem dX11_wordToAsk_96 : decode cX11_wordToAsk 96 = .ok (.invokespecial 299, 3) := by decide +kernel
theorem dX11_wordToAsk_99 : decode cX11_wordToAsk 99 = .ok (.areturn, 1) := by decide +kernel
theorem dX11_wordToAsk_100 : decode cX11_wordToAsk 100 = .ok (.new 300, 3) := by decide +kernel
theorem dX11_wordToAsk_103 : decode cX11_wordToAsk 103 = .ok (.dup, 1) := by decide +kernel
theorem dX11_wordToAsk_104 : decode cX11_wordToAsk 104 = .ok (.iload_n 2, 1) := by decide +kernel
theorem dX11_wordToAsk_105 : decode cX11_wordToAsk 105 = .ok (.iload_n 3, 1) := by decide +kernel
theorem dX11_wordToAsk_106 : decode cX11_wordToAsk 106 = .ok (.iload 4, 2) := by decide +kernel
theorem dX11_wordToAsk_108 : decode cX11_wordToAsk 108 = .ok (.invokespecial 302, 3) := by decide +kernel
theorem dX11_wordToAsk_111 : decode cX11_wordToAsk 111 = .ok (.areturn, 1) := by decide +kernel
theorem dX11_wordToAsk_112 : decode cX11_wordToAsk 112 = .ok (.new 303, 3) := by decide +kernel
theorem dX11_wordToAsk_115 : decode cX11_wordToAsk 115 = .ok (.dup, 1) := by decide +kernel
theorem dX11_wordToAsk_116 : decode cX11_wordToAsk 116 = .ok (.iload_n 2, 1) := by decide +kernel
theorem dX11_wordToAsk_117 : decode cX11_wordToAsk 117 = .ok (.iload_n 3, 1) := by decide +kernel
theorem dX11_wordToAsk_118 : decode cX11_wordToAsk 118 = .ok (.iload 4, 2) := by decide +kernel
theorem dX11_wordToAsk_120 : decode cX11_wordToAsk 120 = .ok (.invokespecial 305, 3) := by decide +kernel
theorem dX11_wordToAsk_123 : decode cX11_wordToAsk 123 = .ok (.areturn, 1) := by decide +kernel
theorem dX11_wordToAsk_124 : decode cX11_wordToAsk 124 = .ok (.new 247, 3) := by decide +kernel
theorem dX11_wordToAsk_127 : decode cX11_wordToAsk 127 = .ok (.dup, 1) := by decide +kernel
theorem dX11_wordToAsk_128 : decode cX11_wordToAsk 128 = .ok (.iload_n 2, 1) := by decide +kernel
theorem dX11_wordToAsk_129 : decode cX11_wordToAsk 129 = .ok (.iload_n 3, 1) := by decide +kernel
theorem dX11_wordToAsk_130 : decode cX11_wordToAsk 130 = .ok (.invokespecial 306, 3) := by decide +kernel
theorem dX11_wordToAsk_133 : decode cX11_wordToAsk 133 = .ok (.areturn, 1) := by decide +kernel
abbrev cX11_isOfKind : ByteArray := prog_1_method_40_code
def yX11_isOfKind : MethodName := ⟨"DayTongues", "isOfKind", "(LDayTongues$Word;I)Z"⟩
def mX11_isOfKind : dt_MD := (yX11_isOfKind, cX11_isOfKind, 2, some .boolean)
theorem dX11_isOfKind_0 : decode cX11_isOfKind 0 = .ok (.iload_n 1, 1) := by decide +kernel
theorem dX11_isOfKind_1 : decode cX11_isOfKind 1 = .ok (.tableswitch 60 1 5 #[35, 40, 45, 50, 55], 35) := by decide +kernel
theorem dX11_isOfKind_36 : decode cX11_isOfKind 36 = .ok (.aload_n 0, 1) := by decide +kernel
theorem dX11_isOfKind_37 : decode cX11_isOfKind 37 = .ok (.instanceof 290, 3) := by decide +kernel
theorem dX11_isOfKind_40 : decode cX11_isOfKind 40 = .ok (.ireturn, 1) := by decide +kernel
theorem dX11_isOfKind_41 : decode cX11_isOfKind 41 = .ok (.aload_n 0, 1) := by decide +kernel
theorem dX11_isOfKind_42 : decode cX11_isOfKind 42 = .ok (.instanceof 294, 3) := by decide +kernel
theorem dX11_isOfKind_45 : decode cX11_isOfKind 45 = .ok (.ireturn, 1) := by decide +kernel
theorem dX11_isOfKind_46 : decode cX11_isOfKind 46 = .ok (.aload_n 0, 1) := by decide +kernel
theorem dX11_isOfKind_47 : decode cX11_isOfKind 47 = .ok (.instanceof 297, 3) := by decide +kernel
theorem dX11_isOfKind_50 : decode cX11_isOfKind 50 = .ok (.ireturn, 1) := by decide +kernel
theorem dX11_isOfKind_51 : decode cX11_isOfKind 51 = .ok (.aload_n 0, 1) := by decide +kernel
theorem dX11_isOfKind_52 : decode cX11_isOfKind 52 = .ok (.instanceof 300, 3) := by decide +kernel
theorem dX11_isOfKind_55 : decode cX11_isOfKind 55 = .ok (.ireturn, 1) := by decide +kernel
theorem dX11_isOfKind_56 : decode cX11_isOfKind 56 = .ok (.aload_n 0, 1) := by decide +kernel
theorem dX11_isOfKind_57 : decode cX11_isOfKind 57 = .ok (.instanceof 303, 3) := by decide +kernel
theorem dX11_isOfKind_60 : decode cX11_isOfKind 60 = .ok (.ireturn, 1) := by decide +kernel
theorem dX11_isOfKind_61 : decode cX11_isOfKind 61 = .ok (.iload_n 1, 1) := by decide +kernel
theorem dX11_isOfKind_62 : decode cX11_isOfKind 62 = .ok (.ifCond .ne 7, 3) := by decide +kernel
theorem dX11_isOfKind_65 : decode cX11_isOfKind 65 = .ok (.iconst 1, 1) := by decide +kernel
theorem dX11_isOfKind_66 : decode cX11_isOfKind 66 = .ok (.goto 4, 3) := by decide +kernel
theorem dX11_isOfKind_69 : decode cX11_isOfKind 69 = .ok (.iconst 0, 1) := by decide +kernel
theorem dX11_isOfKind_70 : decode cX11_isOfKind 70 = .ok (.ireturn, 1) := by decide +kernel
