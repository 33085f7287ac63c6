theorem dX8_init_0 : decode cX8_init 0 = .ok (.aload_n 0, 1) := by decide +kernel
theorem dX8_init_1 : decode cX8_init 1 = .ok (.invokespecial 1, 3) := by decide +kernel
theorem dX8_init_4 : decode cX8_init 4 = .ok (.aload_n 0, 1) := by decide +kernel
theorem dX8_init_5 : decode cX8_init 5 = .ok (.bipush 8, 2) := by decide +kernel
theorem dX8_init_7 : decode cX8_init 7 = .ok (.newarray .int, 2) := by decide +kernel
theorem dX8_init_9 : decode cX8_init 9 = .ok (.dup, 1) := by decide +kernel
theorem dX8_init_10 : decode cX8_init 10 = .ok (.iconst 0, 1) := by decide +kernel
theorem dX8_init_11 : decode cX8_init 11 = .ok (.iconst (-1), 1) := by decide +kernel
theorem dX8_init_12 : decode cX8_init 12 = .ok (.iastore, 1) := by decide +kernel
theorem dX8_init_13 : decode cX8_init 13 = .ok (.dup, 1) := by decide +kernel
theorem dX8_init_14 : decode cX8_init 14 = .ok (.iconst 1, 1) := by decide +kernel
theorem dX8_init_15 : decode cX8_init 15 = .ok (.iconst (-1), 1) := by decide +kernel
theorem dX8_init_16 : decode cX8_init 16 = .ok (.iastore, 1) := by decide +kernel
theorem dX8_init_17 : decode cX8_init 17 = .ok (.dup, 1) := by decide +kernel
theorem dX8_init_18 : decode cX8_init 18 = .ok (.iconst 2, 1) := by decide +kernel
theorem dX8_init_19 : decode cX8_init 19 = .ok (.iconst (-1), 1) := by decide +kernel
theorem dX8_init_20 : decode cX8_init 20 = .ok (.iastore, 1) := by decide +kernel
theorem dX8_init_21 : decode cX8_init 21 = .ok (.dup, 1) := by decide +kernel
theorem dX8_init_22 : decode cX8_init 22 = .ok (.iconst 3, 1) := by decide +kernel
theorem dX8_init_23 : decode cX8_init 23 = .ok (.iconst (-1), 1) := by decide +kernel
theorem dX8_init_24 : decode cX8_init 24 = .ok (.iastore, 1) := by decide +kernel
theorem dX8_init_25 : decode cX8_init 25 = .ok (.dup, 1) := by decide +kernel
theorem dX8_init_26 : decode cX8_init 26 = .ok (.iconst 4, 1) := by decide +kernel
theorem dX8_init_27 : decode cX8_init 27 = .ok (.iconst (-1), 1) := by decide +kernel
theorem dX8_init_28 : decode cX8_init 28 = .ok (.iastore, 1) := by decide +kernel
theorem dX8_init_29 : decode cX8_init 29 = .ok (.dup, 1) := by decide +kernel
theorem dX8_init_30 : decode cX8_init 30 = .ok (.iconst 5, 1) := by decide +kernel
theorem dX8_init_31 : decode cX8_init 31 = .ok (.iconst (-1), 1) := by decide +kernel
theorem dX8_init_32 : decode cX8_init 32 = .ok (.iastore, 1) := by decide +kernel
theorem dX8_init_33 : decode cX8_init 33 = .ok (.dup, 1) := by decide +kernel
theorem dX8_init_34 : decode cX8_init 34 = .ok (.bipush 6, 2) := by decide +kernel
theorem dX8_init_36 : decode cX8_init 36 = .ok (.iconst (-1), 1) := by decide +kernel
theorem dX8_init_37 : decode cX8_init 37 = .ok (.iastore, 1) := by decide +kernel
theorem dX8_init_38 : decode cX8_init 38 = .ok (.dup, 1) := by decide +kernel
theorem dX8_init_39 : decode cX8_init 39 = .ok (.bipush 7, 2) := by decide +kernel
theorem dX8_init_41 : decode cX8_init 41 = .ok (.iconst (-1), 1) := by decide +kernel
theorem dX8_init_42 : decode cX8_init 42 = .ok (.iastore, 1) := by decide +kernel
theorem dX8_init_43 : decode cX8_init 43 = .ok (.putfield 7, 3) := by decide +kernel
theorem dX8_init_46 : decode cX8_init 46 = .ok (.aload_n 0, 1) := by decide +kernel
theorem dX8_init_47 : decode cX8_init 47 = .ok (.bipush 8, 2) := by decide +kernel
theorem dX8_init_49 : decode cX8_init 49 = .ok (.newarray .int, 2) := by decide +kernel
theorem dX8_init_51 : decode cX8_init 51 = .ok (.putfield 13, 3) := by decide +kernel
theorem dX8_init_54 : decode cX8_init 54 = .ok (.aload_n 0, 1) := by decide +kernel
theorem dX8_init_55 : decode cX8_init 55 = .ok (.sipush 320, 3) := by decide +kernel
theorem dX8_init_58 : decode cX8_init 58 = .ok (.newarray .int, 2) := by decide +kernel
theorem dX8_init_60 : decode cX8_init 60 = .ok (.putfield 16, 3) := by decide +kernel
theorem dX8_init_63 : decode cX8_init 63 = .ok (.aload_n 0, 1) := by decide +kernel
theorem dX8_init_64 : decode cX8_init 64 = .ok (.bipush 41, 2) := by decide +kernel
theorem dX8_init_66 : decode cX8_init 66 = .ok (.newarray .int, 2) := by decide +kernel
theorem dX8_init_68 : decode cX8_init 68 = .ok (.putfield 19, 3) := by decide +kernel
theorem dX8_init_71 : decode cX8_init 71 = .ok (.aload_n 0, 1) := by decide +kernel
theorem dX8_init_72 : decode cX8_init 72 = .ok (.bipush 41, 2) := by decide +kernel
theorem dX8_init_74 : decode cX8_init 74 = .ok (.newarray .int, 2) := by decide +kernel
theorem dX8_init_76 : decode cX8_init 76 = .ok (.putfield 22, 3) := by decide +kernel
theorem dX8_init_79 : decode cX8_init 79 = .ok (.aload_n 0, 1) := by decide +kernel
theorem dX8_init_80 : decode cX8_init 80 = .ok (.bipush 41, 2) := by decide +kernel
theorem dX8_init_82 : decode cX8_init 82 = .ok (.newarray .int, 2) := by decide +kernel
theorem dX8_init_84 : decode cX8_init 84 = .ok (.putfield 25, 3) := by decide +kernel
theorem dX8_init_87 : decode cX8_init 87 = .ok (.aload_n 0, 1) := by decide +kernel
theorem dX8_init_88 : decode cX8_init 88 = .ok (.sipush 984, 3) := by decide +kernel
theorem dX8_init_91 : decode cX8_init 91 = .ok (.newarray .int, 2) := by decide +kernel
theorem dX8_init_93 : decode cX8_init 93 = .ok (.putfield 28, 3) := by decide +kernel
theorem dX8_init_96 : decode cX8_init 96 = .ok (.aload_n 0, 1) := by decide +kernel
theorem dX8_init_97 : decode cX8_init 97 = .ok (.bipush 120, 2) := by decide +kernel
theorem dX8_init_99 : decode cX8_init 99 = .ok (.newarray .int, 2) := by decide +kernel
theorem dX8_init_101 : decode cX8_init 101 = .ok (.putfield 31, 3) := by decide +kernel
theorem dX8_init_104 : decode cX8_init 104 = .ok (.aload_n 0, 1) := by decide +kernel
theorem dX8_init_105 : decode cX8_init 105 = .ok (.iconst 4, 1) := by decide +kernel
theorem dX8_init_106 : decode cX8_init 106 = .ok (.newarray .int, 2) := by decide +kernel
theorem dX8_init_108 : decode cX8_init 108 = .ok (.putfield 34, 3) := by decide +kernel
theorem dX8_init_111 : decode cX8_init 111 = .ok (.aload_n 0, 1) := by decide +kernel
theorem dX8_init_112 : decode cX8_init 112 = .ok (.bipush 6, 2) := by decide +kernel
theorem dX8_init_114 : decode cX8_init 114 = .ok (.newarray .int, 2) := by decide +kernel
theorem dX8_init_116 : decode cX8_init 116 = .ok (.putfield 37, 3) := by decide +kernel
theorem dX8_init_119 : decode cX8_init 119 = .ok (.aload_n 0, 1) := by decide +kernel
theorem dX8_init_120 : decode cX8_init 120 = .ok (.bipush 6, 2) := by decide +kernel
theorem dX8_init_122 : decode cX8_init 122 = .ok (.newarray .int, 2) := by decide +kernel
theorem dX8_init_124 : decode cX8_init 124 = .ok (.putfield 40, 3) := by decide +kernel
theorem dX8_init_127 : decode cX8_init 127 = .ok (.aload_n 0, 1) := by decide +kernel
theorem dX8_init_128 : decode cX8_init 128 = .ok (.iconst 2, 1) := by decide +kernel
theorem dX8_init_129 : decode cX8_init 129 = .ok (.newarray .boolean, 2) := by decide +kernel
theorem dX8_init_131 : decode cX8_init 131 = .ok (.putfield 43, 3) := by decide +kernel
theorem dX8_init_134 : decode cX8_init 134 = .ok (.aload_n 0, 1) := by decide +kernel
theorem dX8_init_135 : decode cX8_init 135 = .ok (.bipush 82, 2) := by decide +kernel
theorem dX8_init_137 : decode cX8_init 137 = .ok (.newarray .int, 2) := by decide +kernel
theorem dX8_init_139 : decode cX8_init 139 = .ok (.putfield 47, 3) := by decide +kernel
theorem dX8_init_142 : decode cX8_init 142 = .ok (.aload_n 0, 1) := by decide +kernel
theorem dX8_init_143 : decode cX8_init 143 = .ok (.bipush 16, 2) := by decide +kernel
theorem dX8_init_145 : decode cX8_init 145 = .ok (.newarray .int, 2) := by decide +kernel
theorem dX8_init_147 : decode cX8_init 147 = .ok (.putfield 50, 3) := by decide +kernel
theorem dX8_init_150 : decode cX8_init 150 = .ok (.return_, 1) := by decide +kernel
theorem dX8_in_0 : decode cX8_in 0 = .ok (.lload_n 0, 1) := by decide +kernel
theorem dX8_in_1 : decode cX8_in 1 = .ok (.lload_n 2, 1) := by decide +kernel
theorem dX8_in_2 : decode cX8_in 2 = .ok (.lcmp, 1) := by decide +kernel
theorem dX8_in_3 : decode cX8_in 3 = .ok (.ifCond .lt 14, 3) := by decide +kernel
theorem dX8_in_6 : decode cX8_in 6 = .ok (.lload_n 0, 1) := by decide +kernel
theorem dX8_in_7 : decode cX8_in 7 = .ok (.lload 4, 2) := by decide +kernel
theorem dX8_in_9 : decode cX8_in 9 = .ok (.lcmp, 1) := by decide +kernel
theorem dX8_in_10 : decode cX8_in 10 = .ok (.ifCond .gt 7, 3) := by decide +kernel
theorem dX8_in_13 : decode cX8_in 13 = .ok (.iconst 1, 1) := by decide +kernel
theorem dX8_in_14 : decode cX8_in 14 = .ok (.goto 4, 3) := by decide +kernel
theorem dX8_in_17 : decode cX8_in 17 = .ok (.iconst 0, 1) := by decide +kernel
theorem dX8_in_18 : decode cX8_in 18 = .ok (.ireturn, 1) := by decide +kernel
theorem dX8_finding_0 : decode cX8_finding 0 = .ok (.aload_n 0, 1) := by decide +kernel
theorem dX8_finding_1 : decode cX8_finding 1 = .ok (.iload_n 1, 1) := by decide +kernel
theorem dX8_finding_2 : decode cX8_finding 2 = .ok (.putfield 57, 3) := by decide +kernel
theorem dX8_finding_5 : decode cX8_finding 5 = .ok (.ldc 60, 2) := by decide +kernel
theorem dX8_finding_7 : decode cX8_finding 7 = .ok (.iload_n 1, 1) := by decide +kernel
theorem dX8_finding_8 : decode cX8_finding 8 = .ok (.isub, 1) := by decide +kernel
theorem dX8_finding_9 : decode cX8_finding 9 = .ok (.ireturn, 1) := by decide +kernel
theorem dX8_isRow_0 : decode cX8_isRow 0 = .ok (.iload_n 0, 1) := by decide +kernel
theorem dX8_isRow_1 : decode cX8_isRow 1 = .ok (.i2l, 1) := by decide +kernel
theorem dX8_isRow_2 : decode cX8_isRow 2 = .ok (.lconst 0, 1) := by decide +kernel
theorem dX8_isRow_3 : decode cX8_isRow 3 = .ok (.ldc2_w 61, 3) := by decide +kernel
theorem dX8_isRow_6 : decode cX8_isRow 6 = .ok (.invokestatic 63, 3) := by decide +kernel
theorem dX8_isRow_9 : decode cX8_isRow 9 = .ok (.ireturn, 1) := by decide +kernel
theorem dX8_row_0 : decode cX8_row 0 = .ok (.aload_n 0, 1) := by decide +kernel
theorem dX8_row_1 : decode cX8_row 1 = .ok (.iconst 0, 1) := by decide +kernel
theorem dX8_row_2 : decode cX8_row 2 = .ok (.putfield 53, 3) := by decide +kernel
theorem dX8_row_5 : decode cX8_row 5 = .ok (.iload_n 1, 1) := by decide +kernel
theorem dX8_row_6 : decode cX8_row 6 = .ok (.invokestatic 67, 3) := by decide +kernel
theorem dX8_row_9 : decode cX8_row 9 = .ok (.ifCond .eq 21, 3) := by decide +kernel
theorem dX8_row_12 : decode cX8_row 12 = .ok (.iload_n 2, 1) := by decide +kernel
theorem dX8_row_13 : decode cX8_row 13 = .ok (.i2l, 1) := by decide +kernel
theorem dX8_row_14 : decode cX8_row 14 = .ok (.lconst 0, 1) := by decide +kernel
theorem dX8_row_15 : decode cX8_row 15 = .ok (.ldc2_w 71, 3) := by decide +kernel
theorem dX8_row_18 : decode cX8_row 18 = .ok (.invokestatic 63, 3) := by decide +kernel
theorem dX8_row_21 : decode cX8_row 21 = .ok (.ifCond .eq 9, 3) := by decide +kernel
theorem dX8_row_24 : decode cX8_row 24 = .ok (.iload_n 3, 1) := by decide +kernel
theorem dX8_row_25 : decode cX8_row 25 = .ok (.bipush 40, 2) := by decide +kernel
theorem dX8_row_27 : decode cX8_row 27 = .ok (.if_icmp .le 6, 3) := by decide +kernel
theorem dX8_row_30 : decode cX8_row 30 = .ok (.ldc 73, 2) := by decide +kernel
theorem dX8_row_32 : decode cX8_row 32 = .ok (.ireturn, 1) := by decide +kernel
theorem dX8_row_33 : decode cX8_row 33 = .ok (.aload_n 0, 1) := by decide +kernel
theorem dX8_row_34 : decode cX8_row 34 = .ok (.iconst 0, 1) := by decide +kernel
theorem dX8_row_35 : decode cX8_row 35 = .ok (.putfield 57, 3) := by decide +kernel
theorem dX8_row_38 : decode cX8_row 38 = .ok (.iload_n 3, 1) := by decide +kernel
theorem dX8_row_39 : decode cX8_row 39 = .ok (.ifCond .ge 9, 3) := by decide +kernel
theorem dX8_row_42 : decode cX8_row 42 = .ok (.aload_n 0, 1) := by decide +kernel
theorem dX8_row_43 : decode cX8_row 43 = .ok (.iconst 4, 1) := by decide +kernel
theorem dX8_row_44 : decode cX8_row 44 = .ok (.invokevirtual 74, 3) := by decide +kernel
theorem dX8_row_47 : decode cX8_row 47 = .ok (.ireturn, 1) := by decide +kernel
theorem dX8_row_48 : decode cX8_row 48 = .ok (.aload_n 0, 1) := by decide +kernel
theorem dX8_row_49 : decode cX8_row 49 = .ok (.getfield 7, 3) := by decide +kernel
theorem dX8_row_52 : decode cX8_row 52 = .ok (.iload_n 1, 1) := by decide +kernel
theorem dX8_row_53 : decode cX8_row 53 = .ok (.iload_n 2, 1) := by decide +kernel
theorem dX8_row_54 : decode cX8_row 54 = .ok (.iastore, 1) := by decide +kernel
theorem dX8_row_55 : decode cX8_row 55 = .ok (.aload_n 0, 1) := by decide +kernel
theorem dX8_row_56 : decode cX8_row 56 = .ok (.getfield 13, 3) := by decide +kernel
theorem dX8_row_59 : decode cX8_row 59 = .ok (.iload_n 1, 1) := by decide +kernel
theorem dX8_row_60 : decode cX8_row 60 = .ok (.iload_n 3, 1) := by decide +kernel
theorem dX8_row_61 : decode cX8_row 61 = .ok (.iastore, 1) := by decide +kernel
theorem dX8_row_62 : decode cX8_row 62 = .ok (.iconst 0, 1) := by decide +kernel
theorem dX8_row_63 : decode cX8_row 63 = .ok (.istore 4, 2) := by decide +kernel
theorem dX8_row_65 : decode cX8_row 65 = .ok (.iload 4, 2) := by decide +kernel
theorem dX8_row_67 : decode cX8_row 67 = .ok (.bipush 40, 2) := by decide +kernel
theorem dX8_row_69 : decode cX8_row 69 = .ok (.if_icmp .ge 22, 3) := by decide +kernel
theorem dX8_row_72 : decode cX8_row 72 = .ok (.aload_n 0, 1) := by decide +kernel
theorem dX8_row_73 : decode cX8_row 73 = .ok (.getfield 16, 3) := by decide +kernel
theorem dX8_row_76 : decode cX8_row 76 = .ok (.bipush 40, 2) := by decide +kernel
theorem dX8_row_78 : decode cX8_row 78 = .ok (.iload_n 1, 1) := by decide +kernel
theorem dX8_row_79 : decode cX8_row 79 = .ok (.imul, 1) := by decide +kernel
theorem dX8_row_80 : decode cX8_row 80 = .ok (.iload 4, 2) := by decide +kernel
theorem dX8_row_82 : decode cX8_row 82 = .ok (.iadd, 1) := by decide +kernel
theorem dX8_row_83 : decode cX8_row 83 = .ok (.iconst 0, 1) := by decide +kernel
theorem dX8_row_84 : decode cX8_row 84 = .ok (.iastore, 1) := by decide +kernel
theorem dX8_row_85 : decode cX8_row 85 = .ok (.iinc 4 1, 3) := by decide +kernel
theorem dX8_row_88 : decode cX8_row 88 = .ok (.goto (-23), 3) := by decide +kernel
theorem dX8_row_91 : decode cX8_row 91 = .ok (.iload_n 3, 1) := by decide +kernel
theorem dX8_row_92 : decode cX8_row 92 = .ok (.ireturn, 1) := by decide +kernel
theorem dX8_set_0 : decode cX8_set 0 = .ok (.aload_n 0, 1) := by decide +kernel
theorem dX8_set_1 : decode cX8_set 1 = .ok (.iconst 0, 1) := by decide +kernel
theorem dX8_set_2 : decode cX8_set 2 = .ok (.putfield 53, 3) := by decide +kernel
theorem dX8_set_5 : decode cX8_set 5 = .ok (.iload_n 1, 1) := by decide +kernel
theorem dX8_set_6 : decode cX8_set 6 = .ok (.invokestatic 67, 3) := by decide +kernel
theorem dX8_set_9 : decode cX8_set 9 = .ok (.ifCond .ne 6, 3) := by decide +kernel
theorem dX8_set_12 : decode cX8_set 12 = .ok (.ldc 73, 2) := by decide +kernel
theorem dX8_set_14 : decode cX8_set 14 = .ok (.ireturn, 1) := by decide +kernel
theorem dX8_set_15 : decode cX8_set 15 = .ok (.aload_n 0, 1) := by decide +kernel
theorem dX8_set_16 : decode cX8_set 16 = .ok (.iconst 0, 1) := by decide +kernel
theorem dX8_set_17 : decode cX8_set 17 = .ok (.putfield 57, 3) := by decide +kernel
theorem dX8_set_20 : decode cX8_set 20 = .ok (.aload_n 0, 1) := by decide +kernel
theorem dX8_set_21 : decode cX8_set 21 = .ok (.getfield 7, 3) := by decide +kernel
theorem dX8_set_24 : decode cX8_set 24 = .ok (.iload_n 1, 1) := by decide +kernel
theorem dX8_set_25 : decode cX8_set 25 = .ok (.iaload, 1) := by decide +kernel
theorem dX8_set_26 : decode cX8_set 26 = .ok (.ifCond .ge 9, 3) := by decide +kernel
theorem dX8_set_29 : decode cX8_set 29 = .ok (.aload_n 0, 1) := by decide +kernel
theorem dX8_set_30 : decode cX8_set 30 = .ok (.iconst 1, 1) := by decide +kernel
theorem dX8_set_31 : decode cX8_set 31 = .ok (.invokevirtual 74, 3) := by decide +kernel
theorem dX8_set_34 : decode cX8_set 34 = .ok (.ireturn, 1) := by decide +kernel
theorem dX8_set_35 : decode cX8_set 35 = .ok (.iload_n 2, 1) := by decide +kernel
theorem dX8_set_36 : decode cX8_set 36 = .ok (.i2l, 1) := by decide +kernel
theorem dX8_set_37 : decode cX8_set 37 = .ok (.lconst 0, 1) := by decide +kernel
theorem dX8_set_38 : decode cX8_set 38 = .ok (.aload_n 0, 1) := by decide +kernel
theorem dX8_set_39 : decode cX8_set 39 = .ok (.getfield 13, 3) := by decide +kernel
theorem dX8_set_42 : decode cX8_set 42 = .ok (.iload_n 1, 1) := by decide +kernel
theorem dX8_set_43 : decode cX8_set 43 = .ok (.iaload, 1) := by decide +kernel
theorem dX8_set_44 : decode cX8_set 44 = .ok (.iconst 1, 1) := by decide +kernel
theorem dX8_set_45 : decode cX8_set 45 = .ok (.isub, 1) := by decide +kernel
theorem dX8_set_46 : decode cX8_set 46 = .ok (.i2l, 1) := by decide +kernel
theorem dX8_set_47 : decode cX8_set 47 = .ok (.invokestatic 63, 3) := by decide +kernel
theorem dX8_set_50 : decode cX8_set 50 = .ok (.ifCond .ne 9, 3) := by decide +kernel
theorem dX8_set_53 : decode cX8_set 53 = .ok (.aload_n 0, 1) := by decide +kernel
theorem dX8_set_54 : decode cX8_set 54 = .ok (.iconst 2, 1) := by decide +kernel
theorem dX8_set_55 : decode cX8_set 55 = .ok (.invokevirtual 74, 3) := by decide +kernel
theorem dX8_set_58 : decode cX8_set 58 = .ok (.ireturn, 1) := by decide +kernel
theorem dX8_set_59 : decode cX8_set 59 = .ok (.aload_n 0, 1) := by decide +kernel
theorem dX8_set_60 : decode cX8_set 60 = .ok (.getfield 16, 3) := by decide +kernel
theorem dX8_set_63 : decode cX8_set 63 = .ok (.bipush 40, 2) := by decide +kernel
theorem dX8_set_65 : decode cX8_set 65 = .ok (.iload_n 1, 1) := by decide +kernel
theorem dX8_set_66 : decode cX8_set 66 = .ok (.imul, 1) := by decide +kernel
theorem dX8_set_67 : decode cX8_set 67 = .ok (.iload_n 2, 1) := by decide +kernel
theorem dX8_set_68 : decode cX8_set 68 = .ok (.iadd, 1) := by decide +kernel
theorem dX8_set_69 : decode cX8_set 69 = .ok (.aload_n 0, 1) := by decide +kernel
theorem dX8_set_70 : decode cX8_set 70 = .ok (.getfield 7, 3) := by decide +kernel
theorem dX8_set_73 : decode cX8_set 73 = .ok (.iload_n 1, 1) := by decide +kernel
theorem dX8_set_74 : decode cX8_set 74 = .ok (.iaload, 1) := by decide +kernel
theorem dX8_set_75 : decode cX8_set 75 = .ok (.ifCond .ne 8, 3) := by decide +kernel
theorem dX8_set_78 : decode cX8_set 78 = .ok (.iload_n 3, 1) := by decide +kernel
theorem dX8_set_79 : decode cX8_set 79 = .ok (.i2b, 1) := by decide +kernel
theorem dX8_set_80 : decode cX8_set 80 = .ok (.goto 19, 3) := by decide +kernel
theorem dX8_set_83 : decode cX8_set 83 = .ok (.aload_n 0, 1) := by decide +kernel
theorem dX8_set_84 : decode cX8_set 84 = .ok (.getfield 7, 3) := by decide +kernel
theorem dX8_set_87 : decode cX8_set 87 = .ok (.iload_n 1, 1) := by decide +kernel
theorem dX8_set_88 : decode cX8_set 88 = .ok (.iaload, 1) := by decide +kernel
theorem dX8_set_89 : decode cX8_set 89 = .ok (.iconst 1, 1) := by decide +kernel
theorem dX8_set_90 : decode cX8_set 90 = .ok (.if_icmp .ne 8, 3) := by decide +kernel
theorem dX8_set_93 : decode cX8_set 93 = .ok (.iload_n 3, 1) := by decide +kernel
theorem dX8_set_94 : decode cX8_set 94 = .ok (.i2s, 1) := by decide +kernel
theorem dX8_set_95 : decode cX8_set 95 = .ok (.goto 4, 3) := by decide +kernel
theorem dX8_set_98 : decode cX8_set 98 = .ok (.iload_n 3, 1) := by decide +kernel
theorem dX8_set_99 : decode cX8_set 99 = .ok (.iastore, 1) := by decide +kernel
theorem dX8_set_100 : decode cX8_set 100 = .ok (.aload_n 0, 1) := by decide +kernel
theorem dX8_set_101 : decode cX8_set 101 = .ok (.getfield 16, 3) := by decide +kernel
theorem dX8_set_104 : decode cX8_set 104 = .ok (.bipush 40, 2) := by decide +kernel
theorem dX8_set_106 : decode cX8_set 106 = .ok (.iload_n 1, 1) := by decide +kernel
theorem dX8_set_107 : decode cX8_set 107 = .ok (.imul, 1) := by decide +kernel
theorem dX8_set_108 : decode cX8_set 108 = .ok (.iload_n 2, 1) := by decide +kernel
theorem dX8_set_109 : decode cX8_set 109 = .ok (.iadd, 1) := by decide +kernel
theorem dX8_set_110 : decode cX8_set 110 = .ok (.iaload, 1) := by decide +kernel
theorem dX8_set_111 : decode cX8_set 111 = .ok (.ireturn, 1) := by decide +kernel
theorem dX8_copy_0 : decode cX8_copy 0 = .ok (.aload_n 0, 1) := by decide +kernel
theorem dX8_copy_1 : decode cX8_copy 1 = .ok (.iconst 0, 1) := by decide +kernel
theorem dX8_copy_2 : decode cX8_copy 2 = .ok (.putfield 53, 3) := by decide +kernel
theorem dX8_copy_5 : decode cX8_copy 5 = .ok (.iload_n 1, 1) := by decide +kernel
theorem dX8_copy_6 : decode cX8_copy 6 = .ok (.invokestatic 67, 3) := by decide +kernel
theorem dX8_copy_9 : decode cX8_copy 9 = .ok (.ifCond .eq 10, 3) := by decide +kernel
theorem dX8_copy_12 : decode cX8_copy 12 = .ok (.iload_n 3, 1) := by decide +kernel
theorem dX8_copy_13 : decode cX8_copy 13 = .ok (.invokestatic 67, 3) := by decide +kernel
theorem dX8_copy_16 : decode cX8_copy 16 = .ok (.ifCond .ne 6, 3) := by decide +kernel
theorem dX8_copy_19 : decode cX8_copy 19 = .ok (.ldc 73, 2) := by decide +kernel
theorem dX8_copy_21 : decode cX8_copy 21 = .ok (.ireturn, 1) := by decide +kernel
theorem dX8_copy_22 : decode cX8_copy 22 = .ok (.aload_n 0, 1) := by decide +kernel
theorem dX8_copy_23 : decode cX8_copy 23 = .ok (.iconst 0, 1) := by decide +kernel
theorem dX8_copy_24 : decode cX8_copy 24 = .ok (.putfield 57, 3) := by decide +kernel
theorem dX8_copy_27 : decode cX8_copy 27 = .ok (.aload_n 0, 1) := by decide +kernel
theorem dX8_copy_28 : decode cX8_copy 28 = .ok (.getfield 7, 3) := by decide +kernel
theorem dX8_copy_31 : decode cX8_copy 31 = .ok (.iload_n 1, 1) := by decide +kernel
theorem dX8_copy_32 : decode cX8_copy 32 = .ok (.iaload, 1) := by decide +kernel
theorem dX8_copy_33 : decode cX8_copy 33 = .ok (.ifCond .lt 12, 3) := by decide +kernel
theorem dX8_copy_36 : decode cX8_copy 36 = .ok (.aload_n 0, 1) := by decide +kernel
theorem dX8_copy_37 : decode cX8_copy 37 = .ok (.getfield 7, 3) := by decide +kernel
theorem dX8_copy_40 : decode cX8_copy 40 = .ok (.iload_n 3, 1) := by decide +kernel
theorem dX8_copy_41 : decode cX8_copy 41 = .ok (.iaload, 1) := by decide +kernel
theorem dX8_copy_42 : decode cX8_copy 42 = .ok (.ifCond .ge 9, 3) := by decide +kernel
theorem dX8_copy_45 : decode cX8_copy 45 = .ok (.aload_n 0, 1) := by decide +kernel
theorem dX8_copy_46 : decode cX8_copy 46 = .ok (.iconst 1, 1) := by decide +kernel
theorem dX8_copy_47 : decode cX8_copy 47 = .ok (.invokevirtual 74, 3) := by decide +kernel
theorem dX8_copy_50 : decode cX8_copy 50 = .ok (.ireturn, 1) := by decide +kernel
theorem dX8_copy_51 : decode cX8_copy 51 = .ok (.aload_n 0, 1) := by decide +kernel
theorem dX8_copy_52 : decode cX8_copy 52 = .ok (.getfield 7, 3) := by decide +kernel
theorem dX8_copy_55 : decode cX8_copy 55 = .ok (.iload_n 1, 1) := by decide +kernel
theorem dX8_copy_56 : decode cX8_copy 56 = .ok (.iaload, 1) := by decide +kernel
theorem dX8_copy_57 : decode cX8_copy 57 = .ok (.aload_n 0, 1) := by decide +kernel
theorem dX8_copy_58 : decode cX8_copy 58 = .ok (.getfield 7, 3) := by decide +kernel
theorem dX8_copy_61 : decode cX8_copy 61 = .ok (.iload_n 3, 1) := by decide +kernel
theorem dX8_copy_62 : decode cX8_copy 62 = .ok (.iaload, 1) := by decide +kernel
theorem dX8_copy_63 : decode cX8_copy 63 = .ok (.if_icmp .eq 9, 3) := by decide +kernel
theorem dX8_copy_66 : decode cX8_copy 66 = .ok (.aload_n 0, 1) := by decide +kernel
theorem dX8_copy_67 : decode cX8_copy 67 = .ok (.iconst 5, 1) := by decide +kernel
theorem dX8_copy_68 : decode cX8_copy 68 = .ok (.invokevirtual 74, 3) := by decide +kernel
theorem dX8_copy_71 : decode cX8_copy 71 = .ok (.ireturn, 1) := by decide +kernel
theorem dX8_copy_72 : decode cX8_copy 72 = .ok (.iload_n 2, 1) := by decide +kernel
theorem dX8_copy_73 : decode cX8_copy 73 = .ok (.ifCond .lt 48, 3) := by decide +kernel
theorem dX8_copy_76 : decode cX8_copy 76 = .ok (.iload 4, 2) := by decide +kernel
theorem dX8_copy_78 : decode cX8_copy 78 = .ok (.ifCond .lt 43, 3) := by decide +kernel
theorem dX8_copy_81 : decode cX8_copy 81 = .ok (.iload 5, 2) := by decide +kernel
theorem dX8_copy_83 : decode cX8_copy 83 = .ok (.ifCond .lt 38, 3) := by decide +kernel
theorem dX8_copy_86 : decode cX8_copy 86 = .ok (.iload_n 2, 1) := by decide +kernel
theorem dX8_copy_87 : decode cX8_copy 87 = .ok (.i2l, 1) := by decide +kernel
theorem dX8_copy_88 : decode cX8_copy 88 = .ok (.iload 5, 2) := by decide +kernel
theorem dX8_copy_90 : decode cX8_copy 90 = .ok (.i2l, 1) := by decide +kernel
theorem dX8_copy_91 : decode cX8_copy 91 = .ok (.ladd, 1) := by decide +kernel
theorem dX8_copy_92 : decode cX8_copy 92 = .ok (.aload_n 0, 1) := by decide +kernel
theorem dX8_copy_93 : decode cX8_copy 93 = .ok (.getfield 13, 3) := by decide +kernel
theorem dX8_copy_96 : decode cX8_copy 96 = .ok (.iload_n 1, 1) := by decide +kernel
theorem dX8_copy_97 : decode cX8_copy 97 = .ok (.iaload, 1) := by decide +kernel
theorem dX8_copy_98 : decode cX8_copy 98 = .ok (.i2l, 1) := by decide +kernel
theorem dX8_copy_99 : decode cX8_copy 99 = .ok (.lcmp, 1) := by decide +kernel
theorem dX8_copy_100 : decode cX8_copy 100 = .ok (.ifCond .gt 21, 3) := by decide +kernel
theorem dX8_copy_103 : decode cX8_copy 103 = .ok (.iload 4, 2) := by decide +kernel
theorem dX8_copy_105 : decode cX8_copy 105 = .ok (.i2l, 1) := by decide +kernel
theorem dX8_copy_106 : decode cX8_copy 106 = .ok (.iload 5, 2) := by decide +kernel
theorem dX8_copy_108 : decode cX8_copy 108 = .ok (.i2l, 1) := by decide +kernel
theorem dX8_copy_109 : decode cX8_copy 109 = .ok (.ladd, 1) := by decide +kernel
theorem dX8_copy_110 : decode cX8_copy 110 = .ok (.aload_n 0, 1) := by decide +kernel
theorem dX8_copy_111 : decode cX8_copy 111 = .ok (.getfield 13, 3) := by decide +kernel
theorem dX8_copy_114 : decode cX8_copy 114 = .ok (.iload_n 3, 1) := by decide +kernel
theorem dX8_copy_115 : decode cX8_copy 115 = .ok (.iaload, 1) := by decide +kernel
theorem dX8_copy_116 : decode cX8_copy 116 = .ok (.i2l, 1) := by decide +kernel
theorem dX8_copy_117 : decode cX8_copy 117 = .ok (.lcmp, 1) := by decide +kernel
theorem dX8_copy_118 : decode cX8_copy 118 = .ok (.ifCond .le 9, 3) := by decide +kernel
theorem dX8_copy_121 : decode cX8_copy 121 = .ok (.aload_n 0, 1) := by decide +kernel
theorem dX8_copy_122 : decode cX8_copy 122 = .ok (.iconst 2, 1) := by decide +kernel
theorem dX8_copy_123 : decode cX8_copy 123 = .ok (.invokevirtual 74, 3) := by decide +kernel
theorem dX8_copy_126 : decode cX8_copy 126 = .ok (.ireturn, 1) := by decide +kernel
theorem dX8_copy_127 : decode cX8_copy 127 = .ok (.iload_n 2, 1) := by decide +kernel
theorem dX8_copy_128 : decode cX8_copy 128 = .ok (.iload 4, 2) := by decide +kernel
theorem dX8_copy_130 : decode cX8_copy 130 = .ok (.if_icmp .lt 7, 3) := by decide +kernel
theorem dX8_copy_133 : decode cX8_copy 133 = .ok (.iconst 1, 1) := by decide +kernel
theorem dX8_copy_134 : decode cX8_copy 134 = .ok (.goto 4, 3) := by decide +kernel
theorem dX8_copy_137 : decode cX8_copy 137 = .ok (.iconst 0, 1) := by decide +kernel
theorem dX8_copy_138 : decode cX8_copy 138 = .ok (.istore 6, 2) := by decide +kernel
theorem dX8_copy_140 : decode cX8_copy 140 = .ok (.iconst 0, 1) := by decide +kernel
theorem dX8_copy_141 : decode cX8_copy 141 = .ok (.istore 7, 2) := by decide +kernel
theorem dX8_copy_143 : decode cX8_copy 143 = .ok (.iload 7, 2) := by decide +kernel
theorem dX8_copy_145 : decode cX8_copy 145 = .ok (.iload 5, 2) := by decide +kernel
theorem dX8_copy_147 : decode cX8_copy 147 = .ok (.if_icmp .ge 57, 3) := by decide +kernel
theorem dX8_copy_150 : decode cX8_copy 150 = .ok (.iload 6, 2) := by decide +kernel
theorem dX8_copy_152 : decode cX8_copy 152 = .ok (.ifCond .eq 8, 3) := by decide +kernel
theorem dX8_copy_155 : decode cX8_copy 155 = .ok (.iload 7, 2) := by decide +kernel
theorem dX8_copy_157 : decode cX8_copy 157 = .ok (.goto 10, 3) := by decide +kernel
theorem dX8_copy_160 : decode cX8_copy 160 = .ok (.iload 5, 2) := by decide +kernel
theorem dX8_copy_162 : decode cX8_copy 162 = .ok (.iconst 1, 1) := by decide +kernel
theorem dX8_copy_163 : decode cX8_copy 163 = .ok (.isub, 1) := by decide +kernel
theorem dX8_copy_164 : decode cX8_copy 164 = .ok (.iload 7, 2) := by decide +kernel
theorem dX8_copy_166 : decode cX8_copy 166 = .ok (.isub, 1) := by decide +kernel
theorem dX8_copy_167 : decode cX8_copy 167 = .ok (.istore 8, 2) := by decide +kernel
theorem dX8_copy_169 : decode cX8_copy 169 = .ok (.aload_n 0, 1) := by decide +kernel
theorem dX8_copy_170 : decode cX8_copy 170 = .ok (.getfield 16, 3) := by decide +kernel
theorem dX8_copy_173 : decode cX8_copy 173 = .ok (.bipush 40, 2) := by decide +kernel
theorem dX8_copy_175 : decode cX8_copy 175 = .ok (.iload_n 3, 1) := by decide +kernel
theorem dX8_copy_176 : decode cX8_copy 176 = .ok (.imul, 1) := by decide +kernel
theorem dX8_copy_177 : decode cX8_copy 177 = .ok (.iload 4, 2) := by decide +kernel
theorem dX8_copy_179 : decode cX8_copy 179 = .ok (.iadd, 1) := by decide +kernel
theorem dX8_copy_180 : decode cX8_copy 180 = .ok (.iload 8, 2) := by decide +kernel
theorem dX8_copy_182 : decode cX8_copy 182 = .ok (.iadd, 1) := by decide +kernel
theorem dX8_copy_183 : decode cX8_copy 183 = .ok (.aload_n 0, 1) := by decide +kernel
theorem dX8_copy_184 : decode cX8_copy 184 = .ok (.getfield 16, 3) := by decide +kernel
theorem dX8_copy_187 : decode cX8_copy 187 = .ok (.bipush 40, 2) := by decide +kernel
theorem dX8_copy_189 : decode cX8_copy 189 = .ok (.iload_n 1, 1) := by decide +kernel
theorem dX8_copy_190 : decode cX8_copy 190 = .ok (.imul, 1) := by decide +kernel
theorem dX8_copy_191 : decode cX8_copy 191 = .ok (.iload_n 2, 1) := by decide +kernel
theorem dX8_copy_192 : decode cX8_copy 192 = .ok (.iadd, 1) := by decide +kernel
theorem dX8_copy_193 : decode cX8_copy 193 = .ok (.iload 8, 2) := by decide +kernel
theorem dX8_copy_195 : decode cX8_copy 195 = .ok (.iadd, 1) := by decide +kernel
theorem dX8_copy_196 : decode cX8_copy 196 = .ok (.iaload, 1) := by decide +kernel
theorem dX8_copy_197 : decode cX8_copy 197 = .ok (.iastore, 1) := by decide +kernel
theorem dX8_copy_198 : decode cX8_copy 198 = .ok (.iinc 7 1, 3) := by decide +kernel
theorem dX8_copy_201 : decode cX8_copy 201 = .ok (.goto (-58), 3) := by decide +kernel
theorem dX8_copy_204 : decode cX8_copy 204 = .ok (.iload 5, 2) := by decide +kernel
theorem dX8_copy_206 : decode cX8_copy 206 = .ok (.ireturn, 1) := by decide +kernel
theorem dX8_drop_0 : decode cX8_drop 0 = .ok (.aload_n 0, 1) := by decide +kernel
theorem dX8_drop_1 : decode cX8_drop 1 = .ok (.iconst 0, 1) := by decide +kernel
theorem dX8_drop_2 : decode cX8_drop 2 = .ok (.putfield 53, 3) := by decide +kernel
theorem dX8_drop_5 : decode cX8_drop 5 = .ok (.iload_n 1, 1) := by decide +kernel
theorem dX8_drop_6 : decode cX8_drop 6 = .ok (.invokestatic 67, 3) := by decide +kernel
theorem dX8_drop_9 : decode cX8_drop 9 = .ok (.ifCond .ne 6, 3) := by decide +kernel
theorem dX8_drop_12 : decode cX8_drop 12 = .ok (.ldc 73, 2) := by decide +kernel
theorem dX8_drop_14 : decode cX8_drop 14 = .ok (.ireturn, 1) := by decide +kernel
theorem dX8_drop_15 : decode cX8_drop 15 = .ok (.aload_n 0, 1) := by decide +kernel
theorem dX8_drop_16 : decode cX8_drop 16 = .ok (.iconst 0, 1) := by decide +kernel
theorem dX8_drop_17 : decode cX8_drop 17 = .ok (.putfield 57, 3) := by decide +kernel
theorem dX8_drop_20 : decode cX8_drop 20 = .ok (.aload_n 0, 1) := by decide +kernel
theorem dX8_drop_21 : decode cX8_drop 21 = .ok (.getfield 7, 3) := by decide +kernel
theorem dX8_drop_24 : decode cX8_drop 24 = .ok (.iload_n 1, 1) := by decide +kernel
theorem dX8_drop_25 : decode cX8_drop 25 = .ok (.iaload, 1) := by decide +kernel
theorem dX8_drop_26 : decode cX8_drop 26 = .ok (.ifCond .ge 9, 3) := by decide +kernel
theorem dX8_drop_29 : decode cX8_drop 29 = .ok (.aload_n 0, 1) := by decide +kernel
theorem dX8_drop_30 : decode cX8_drop 30 = .ok (.iconst 1, 1) := by decide +kernel
theorem dX8_drop_31 : decode cX8_drop 31 = .ok (.invokevirtual 74, 3) := by decide +kernel
theorem dX8_drop_34 : decode cX8_drop 34 = .ok (.ireturn, 1) := by decide +kernel
theorem dX8_drop_35 : decode cX8_drop 35 = .ok (.aload_n 0, 1) := by decide +kernel
theorem dX8_drop_36 : decode cX8_drop 36 = .ok (.getfield 7, 3) := by decide +kernel
theorem dX8_drop_39 : decode cX8_drop 39 = .ok (.iload_n 1, 1) := by decide +kernel
theorem dX8_drop_40 : decode cX8_drop 40 = .ok (.iconst (-1), 1) := by decide +kernel
theorem dX8_drop_41 : decode cX8_drop 41 = .ok (.iastore, 1) := by decide +kernel
theorem dX8_drop_42 : decode cX8_drop 42 = .ok (.aload_n 0, 1) := by decide +kernel
theorem dX8_drop_43 : decode cX8_drop 43 = .ok (.getfield 13, 3) := by decide +kernel
theorem dX8_drop_46 : decode cX8_drop 46 = .ok (.iload_n 1, 1) := by decide +kernel
theorem dX8_drop_47 : decode cX8_drop 47 = .ok (.iaload, 1) := by decide +kernel
theorem dX8_drop_48 : decode cX8_drop 48 = .ok (.ireturn, 1) := by decide +kernel
theorem dX8_feed_0 : decode cX8_feed 0 = .ok (.aload_n 0, 1) := by decide +kernel
theorem dX8_feed_1 : decode cX8_feed 1 = .ok (.iconst 0, 1) := by decide +kernel
theorem dX8_feed_2 : decode cX8_feed 2 = .ok (.putfield 53, 3) := by decide +kernel
theorem dX8_feed_5 : decode cX8_feed 5 = .ok (.iload_n 1, 1) := by decide +kernel
theorem dX8_feed_6 : decode cX8_feed 6 = .ok (.i2l, 1) := by decide +kernel
theorem dX8_feed_7 : decode cX8_feed 7 = .ok (.lconst 0, 1) := by decide +kernel
theorem dX8_feed_8 : decode cX8_feed 8 = .ok (.ldc2_w 78, 3) := by decide +kernel
theorem dX8_feed_11 : decode cX8_feed 11 = .ok (.invokestatic 63, 3) := by decide +kernel
theorem dX8_feed_14 : decode cX8_feed 14 = .ok (.ifCond .ne 6, 3) := by decide +kernel
theorem dX8_feed_17 : decode cX8_feed 17 = .ok (.ldc 73, 2) := by decide +kernel
theorem dX8_feed_19 : decode cX8_feed 19 = .ok (.ireturn, 1) := by decide +kernel
theorem dX8_feed_20 : decode cX8_feed 20 = .ok (.aload_n 0, 1) := by decide +kernel
theorem dX8_feed_21 : decode cX8_feed 21 = .ok (.getfield 80, 3) := by decide +kernel
theorem dX8_feed_24 : decode cX8_feed 24 = .ok (.bipush 120, 2) := by decide +kernel
theorem dX8_feed_26 : decode cX8_feed 26 = .ok (.if_icmp .ne 6, 3) := by decide +kernel
theorem dX8_feed_29 : decode cX8_feed 29 = .ok (.ldc 83, 2) := by decide +kernel
theorem dX8_feed_31 : decode cX8_feed 31 = .ok (.ireturn, 1) := by decide +kernel
theorem dX8_feed_32 : decode cX8_feed 32 = .ok (.aload_n 0, 1) := by decide +kernel
theorem dX8_feed_33 : decode cX8_feed 33 = .ok (.getfield 31, 3) := by decide +kernel
theorem dX8_feed_36 : decode cX8_feed 36 = .ok (.aload_n 0, 1) := by decide +kernel
theorem dX8_feed_37 : decode cX8_feed 37 = .ok (.getfield 80, 3) := by decide +kernel
theorem dX8_feed_40 : decode cX8_feed 40 = .ok (.iload_n 1, 1) := by decide +kernel
theorem dX8_feed_41 : decode cX8_feed 41 = .ok (.iastore, 1) := by decide +kernel
theorem dX8_feed_42 : decode cX8_feed 42 = .ok (.aload_n 0, 1) := by decide +kernel
theorem dX8_feed_43 : decode cX8_feed 43 = .ok (.dup, 1) := by decide +kernel
theorem dX8_feed_44 : decode cX8_feed 44 = .ok (.getfield 80, 3) := by decide +kernel
theorem dX8_feed_47 : decode cX8_feed 47 = .ok (.iconst 1, 1) := by decide +kernel
theorem dX8_feed_48 : decode cX8_feed 48 = .ok (.iadd, 1) := by decide +kernel
theorem dX8_feed_49 : decode cX8_feed 49 = .ok (.putfield 80, 3) := by decide +kernel
theorem dX8_feed_52 : decode cX8_feed 52 = .ok (.aload_n 0, 1) := by decide +kernel
theorem dX8_feed_53 : decode cX8_feed 53 = .ok (.getfield 80, 3) := by decide +kernel
theorem dX8_feed_56 : decode cX8_feed 56 = .ok (.ireturn, 1) := by decide +kernel
theorem dX8_bad_0 : decode cX8_bad 0 = .ok (.aload_n 0, 1) := by decide +kernel
theorem dX8_bad_1 : decode cX8_bad 1 = .ok (.getfield 84, 3) := by decide +kernel
theorem dX8_bad_4 : decode cX8_bad 4 = .ok (.ifCond .ne 16, 3) := by decide +kernel
theorem dX8_bad_7 : decode cX8_bad 7 = .ok (.aload_n 0, 1) := by decide +kernel
theorem dX8_bad_8 : decode cX8_bad 8 = .ok (.iload_n 1, 1) := by decide +kernel
theorem dX8_bad_9 : decode cX8_bad 9 = .ok (.putfield 84, 3) := by decide +kernel
theorem dX8_bad_12 : decode cX8_bad 12 = .ok (.aload_n 0, 1) := by decide +kernel
theorem dX8_bad_13 : decode cX8_bad 13 = .ok (.aload_n 0, 1) := by decide +kernel
theorem dX8_bad_14 : decode cX8_bad 14 = .ok (.getfield 87, 3) := by decide +kernel
theorem dX8_bad_17 : decode cX8_bad 17 = .ok (.putfield 90, 3) := by decide +kernel
theorem dX8_bad_20 : decode cX8_bad 20 = .ok (.return_, 1) := by decide +kernel
theorem dX8_nextToken_0 : decode cX8_nextToken 0 = .ok (.aload_n 0, 1) := by decide +kernel
theorem dX8_nextToken_1 : decode cX8_nextToken 1 = .ok (.aload_n 0, 1) := by decide +kernel
theorem dX8_nextToken_2 : decode cX8_nextToken 2 = .ok (.getfield 93, 3) := by decide +kernel
theorem dX8_nextToken_5 : decode cX8_nextToken 5 = .ok (.putfield 87, 3) := by decide +kernel
theorem dX8_nextToken_8 : decode cX8_nextToken 8 = .ok (.aload_n 0, 1) := by decide +kernel
theorem dX8_nextToken_9 : decode cX8_nextToken 9 = .ok (.aload_n 0, 1) := by decide +kernel
theorem dX8_nextToken_10 : decode cX8_nextToken 10 = .ok (.getfield 93, 3) := by decide +kernel
theorem dX8_nextToken_13 : decode cX8_nextToken 13 = .ok (.aload_n 0, 1) := by decide +kernel
theorem dX8_nextToken_14 : decode cX8_nextToken 14 = .ok (.getfield 80, 3) := by decide +kernel
theorem dX8_nextToken_17 : decode cX8_nextToken 17 = .ok (.if_icmp .ge 15, 3) := by decide +kernel
theorem dX8_nextToken_20 : decode cX8_nextToken 20 = .ok (.aload_n 0, 1) := by decide +kernel
theorem dX8_nextToken_21 : decode cX8_nextToken 21 = .ok (.getfield 31, 3) := by decide +kernel
theorem dX8_nextToken_24 : decode cX8_nextToken 24 = .ok (.aload_n 0, 1) := by decide +kernel
theorem dX8_nextToken_25 : decode cX8_nextToken 25 = .ok (.getfield 93, 3) := by decide +kernel
theorem dX8_nextToken_28 : decode cX8_nextToken 28 = .ok (.iaload, 1) := by decide +kernel
theorem dX8_nextToken_29 : decode cX8_nextToken 29 = .ok (.goto 5, 3) := by decide +kernel
theorem dX8_nextToken_32 : decode cX8_nextToken 32 = .ok (.ldc 96, 2) := by decide +kernel
theorem dX8_nextToken_34 : decode cX8_nextToken 34 = .ok (.putfield 97, 3) := by decide +kernel
theorem dX8_nextToken_37 : decode cX8_nextToken 37 = .ok (.aload_n 0, 1) := by decide +kernel
theorem dX8_nextToken_38 : decode cX8_nextToken 38 = .ok (.aload_n 0, 1) := by decide +kernel
theorem dX8_nextToken_39 : decode cX8_nextToken 39 = .ok (.getfield 93, 3) := by decide +kernel
theorem dX8_nextToken_42 : decode cX8_nextToken 42 = .ok (.aload_n 0, 1) := by decide +kernel
theorem dX8_nextToken_43 : decode cX8_nextToken 43 = .ok (.getfield 80, 3) := by decide +kernel
theorem dX8_nextToken_46 : decode cX8_nextToken 46 = .ok (.if_icmp .ne 7, 3) := by decide +kernel
theorem dX8_nextToken_49 : decode cX8_nextToken 49 = .ok (.iconst 1, 1) := by decide +kernel
theorem dX8_nextToken_50 : decode cX8_nextToken 50 = .ok (.goto 68, 3) := by decide +kernel
theorem dX8_nextToken_53 : decode cX8_nextToken 53 = .ok (.aload_n 0, 1) := by decide +kernel
theorem dX8_nextToken_54 : decode cX8_nextToken 54 = .ok (.getfield 97, 3) := by decide +kernel
theorem dX8_nextToken_57 : decode cX8_nextToken 57 = .ok (.i2l, 1) := by decide +kernel
theorem dX8_nextToken_58 : decode cX8_nextToken 58 = .ok (.ldc2_w 100, 3) := by decide +kernel
theorem dX8_nextToken_61 : decode cX8_nextToken 61 = .ok (.ldc2_w 102, 3) := by decide +kernel
theorem dX8_nextToken_64 : decode cX8_nextToken 64 = .ok (.invokestatic 63, 3) := by decide +kernel
theorem dX8_nextToken_67 : decode cX8_nextToken 67 = .ok (.ifCond .eq 7, 3) := by decide +kernel
theorem dX8_nextToken_70 : decode cX8_nextToken 70 = .ok (.iconst 2, 1) := by decide +kernel
theorem dX8_nextToken_71 : decode cX8_nextToken 71 = .ok (.goto 47, 3) := by decide +kernel
theorem dX8_nextToken_74 : decode cX8_nextToken 74 = .ok (.aload_n 0, 1) := by decide +kernel
theorem dX8_nextToken_75 : decode cX8_nextToken 75 = .ok (.getfield 97, 3) := by decide +kernel
theorem dX8_nextToken_78 : decode cX8_nextToken 78 = .ok (.i2l, 1) := by decide +kernel
theorem dX8_nextToken_79 : decode cX8_nextToken 79 = .ok (.ldc2_w 104, 3) := by decide +kernel
theorem dX8_nextToken_82 : decode cX8_nextToken 82 = .ok (.ldc2_w 106, 3) := by decide +kernel
theorem dX8_nextToken_85 : decode cX8_nextToken 85 = .ok (.invokestatic 63, 3) := by decide +kernel
theorem dX8_nextToken_88 : decode cX8_nextToken 88 = .ok (.ifCond .eq 7, 3) := by decide +kernel
theorem dX8_nextToken_91 : decode cX8_nextToken 91 = .ok (.iconst 3, 1) := by decide +kernel
theorem dX8_nextToken_92 : decode cX8_nextToken 92 = .ok (.goto 26, 3) := by decide +kernel
theorem dX8_nextToken_95 : decode cX8_nextToken 95 = .ok (.aload_n 0, 1) := by decide +kernel
theorem dX8_nextToken_96 : decode cX8_nextToken 96 = .ok (.getfield 97, 3) := by decide +kernel
theorem dX8_nextToken_99 : decode cX8_nextToken 99 = .ok (.bipush 44, 2) := by decide +kernel
theorem dX8_nextToken_101 : decode cX8_nextToken 101 = .ok (.if_icmp .eq 12, 3) := by decide +kernel
theorem dX8_nextToken_104 : decode cX8_nextToken 104 = .ok (.aload_n 0, 1) := by decide +kernel
theorem dX8_nextToken_105 : decode cX8_nextToken 105 = .ok (.getfield 97, 3) := by decide +kernel
theorem dX8_nextToken_108 : decode cX8_nextToken 108 = .ok (.bipush 59, 2) := by decide +kernel
theorem dX8_nextToken_110 : decode cX8_nextToken 110 = .ok (.if_icmp .ne 7, 3) := by decide +kernel
theorem dX8_nextToken_113 : decode cX8_nextToken 113 = .ok (.iconst 4, 1) := by decide +kernel
theorem dX8_nextToken_114 : decode cX8_nextToken 114 = .ok (.goto 4, 3) := by decide +kernel
theorem dX8_nextToken_117 : decode cX8_nextToken 117 = .ok (.iconst 0, 1) := by decide +kernel
theorem dX8_nextToken_118 : decode cX8_nextToken 118 = .ok (.putfield 108, 3) := by decide +kernel
theorem dX8_nextToken_121 : decode cX8_nextToken 121 = .ok (.aload_n 0, 1) := by decide +kernel
theorem dX8_nextToken_122 : decode cX8_nextToken 122 = .ok (.dup, 1) := by decide +kernel
theorem dX8_nextToken_123 : decode cX8_nextToken 123 = .ok (.getfield 93, 3) := by decide +kernel
theorem dX8_nextToken_126 : decode cX8_nextToken 126 = .ok (.aload_n 0, 1) := by decide +kernel
theorem dX8_nextToken_127 : decode cX8_nextToken 127 = .ok (.getfield 93, 3) := by decide +kernel
theorem dX8_nextToken_130 : decode cX8_nextToken 130 = .ok (.aload_n 0, 1) := by decide +kernel
theorem dX8_nextToken_131 : decode cX8_nextToken 131 = .ok (.getfield 80, 3) := by decide +kernel
theorem dX8_nextToken_134 : decode cX8_nextToken 134 = .ok (.if_icmp .ge 7, 3) := by decide +kernel
theorem dX8_nextToken_137 : decode cX8_nextToken 137 = .ok (.iconst 1, 1) := by decide +kernel
theorem dX8_nextToken_138 : decode cX8_nextToken 138 = .ok (.goto 4, 3) := by decide +kernel
theorem dX8_nextToken_141 : decode cX8_nextToken 141 = .ok (.iconst 0, 1) := by decide +kernel
theorem dX8_nextToken_142 : decode cX8_nextToken 142 = .ok (.iadd, 1) := by decide +kernel
theorem dX8_nextToken_143 : decode cX8_nextToken 143 = .ok (.putfield 93, 3) := by decide +kernel
theorem dX8_nextToken_146 : decode cX8_nextToken 146 = .ok (.aload_n 0, 1) := by decide +kernel
theorem dX8_nextToken_147 : decode cX8_nextToken 147 = .ok (.getfield 108, 3) := by decide +kernel
theorem dX8_nextToken_150 : decode cX8_nextToken 150 = .ok (.iconst 3, 1) := by decide +kernel
theorem dX8_nextToken_151 : decode cX8_nextToken 151 = .ok (.if_icmp .ne 126, 3) := by decide +kernel
theorem dX8_nextToken_154 : decode cX8_nextToken 154 = .ok (.aload_n 0, 1) := by decide +kernel
theorem dX8_nextToken_155 : decode cX8_nextToken 155 = .ok (.dup, 1) := by decide +kernel
theorem dX8_nextToken_156 : decode cX8_nextToken 156 = .ok (.getfield 97, 3) := by decide +kernel
theorem dX8_nextToken_159 : decode cX8_nextToken 159 = .ok (.bipush 48, 2) := by decide +kernel
theorem dX8_nextToken_161 : decode cX8_nextToken 161 = .ok (.isub, 1) := by decide +kernel
theorem dX8_nextToken_162 : decode cX8_nextToken 162 = .ok (.putfield 97, 3) := by decide +kernel
theorem dX8_nextToken_165 : decode cX8_nextToken 165 = .ok (.aload_n 0, 1) := by decide +kernel
theorem dX8_nextToken_166 : decode cX8_nextToken 166 = .ok (.getfield 93, 3) := by decide +kernel
theorem dX8_nextToken_169 : decode cX8_nextToken 169 = .ok (.aload_n 0, 1) := by decide +kernel
theorem dX8_nextToken_170 : decode cX8_nextToken 170 = .ok (.getfield 80, 3) := by decide +kernel
theorem dX8_nextToken_173 : decode cX8_nextToken 173 = .ok (.if_icmp .ge 82, 3) := by decide +kernel
theorem dX8_nextToken_176 : decode cX8_nextToken 176 = .ok (.aload_n 0, 1) := by decide +kernel
theorem dX8_nextToken_177 : decode cX8_nextToken 177 = .ok (.getfield 31, 3) := by decide +kernel
theorem dX8_nextToken_180 : decode cX8_nextToken 180 = .ok (.aload_n 0, 1) := by decide +kernel
theorem dX8_nextToken_181 : decode cX8_nextToken 181 = .ok (.getfield 93, 3) := by decide +kernel
theorem dX8_nextToken_184 : decode cX8_nextToken 184 = .ok (.iaload, 1) := by decide +kernel
theorem dX8_nextToken_185 : decode cX8_nextToken 185 = .ok (.i2l, 1) := by decide +kernel
theorem dX8_nextToken_186 : decode cX8_nextToken 186 = .ok (.ldc2_w 104, 3) := by decide +kernel
theorem dX8_nextToken_189 : decode cX8_nextToken 189 = .ok (.ldc2_w 106, 3) := by decide +kernel
theorem dX8_nextToken_192 : decode cX8_nextToken 192 = .ok (.invokestatic 63, 3) := by decide +kernel
theorem dX8_nextToken_195 : decode cX8_nextToken 195 = .ok (.ifCond .eq 60, 3) := by decide +kernel
theorem dX8_nextToken_198 : decode cX8_nextToken 198 = .ok (.aload_n 0, 1) := by decide +kernel
theorem dX8_nextToken_199 : decode cX8_nextToken 199 = .ok (.aload_n 0, 1) := by decide +kernel
theorem dX8_nextToken_200 : decode cX8_nextToken 200 = .ok (.getfield 93, 3) := by decide +kernel
theorem dX8_nextToken_203 : decode cX8_nextToken 203 = .ok (.aload_n 0, 1) := by decide +kernel
theorem dX8_nextToken_204 : decode cX8_nextToken 204 = .ok (.getfield 87, 3) := by decide +kernel
theorem dX8_nextToken_207 : decode cX8_nextToken 207 = .ok (.isub, 1) := by decide +kernel
theorem dX8_nextToken_208 : decode cX8_nextToken 208 = .ok (.iconst 2, 1) := by decide +kernel
theorem dX8_nextToken_209 : decode cX8_nextToken 209 = .ok (.if_icmp .ge 26, 3) := by decide +kernel
theorem dX8_nextToken_212 : decode cX8_nextToken 212 = .ok (.bipush 10, 2) := by decide +kernel
theorem dX8_nextToken_214 : decode cX8_nextToken 214 = .ok (.aload_n 0, 1) := by decide +kernel
theorem dX8_nextToken_215 : decode cX8_nextToken 215 = .ok (.getfield 97, 3) := by decide +kernel
theorem dX8_nextToken_218 : decode cX8_nextToken 218 = .ok (.imul, 1) := by decide +kernel
theorem dX8_nextToken_219 : decode cX8_nextToken 219 = .ok (.aload_n 0, 1) := by decide +kernel
theorem dX8_nextToken_220 : decode cX8_nextToken 220 = .ok (.getfield 31, 3) := by decide +kernel
theorem dX8_nextToken_223 : decode cX8_nextToken 223 = .ok (.aload_n 0, 1) := by decide +kernel
theorem dX8_nextToken_224 : decode cX8_nextToken 224 = .ok (.getfield 93, 3) := by decide +kernel
theorem dX8_nextToken_227 : decode cX8_nextToken 227 = .ok (.iaload, 1) := by decide +kernel
theorem dX8_nextToken_228 : decode cX8_nextToken 228 = .ok (.iadd, 1) := by decide +kernel
theorem dX8_nextToken_229 : decode cX8_nextToken 229 = .ok (.bipush 48, 2) := by decide +kernel
theorem dX8_nextToken_231 : decode cX8_nextToken 231 = .ok (.isub, 1) := by decide +kernel
theorem dX8_nextToken_232 : decode cX8_nextToken 232 = .ok (.goto 7, 3) := by decide +kernel
theorem dX8_nextToken_235 : decode cX8_nextToken 235 = .ok (.aload_n 0, 1) := by decide +kernel
theorem dX8_nextToken_236 : decode cX8_nextToken 236 = .ok (.getfield 97, 3) := by decide +kernel
theorem dX8_nextToken_239 : decode cX8_nextToken 239 = .ok (.putfield 97, 3) := by decide +kernel
theorem dX8_nextToken_242 : decode cX8_nextToken 242 = .ok (.aload_n 0, 1) := by decide +kernel
theorem dX8_nextToken_243 : decode cX8_nextToken 243 = .ok (.dup, 1) := by decide +kernel
theorem dX8_nextToken_244 : decode cX8_nextToken 244 = .ok (.getfield 93, 3) := by decide +kernel
theorem dX8_nextToken_247 : decode cX8_nextToken 247 = .ok (.iconst 1, 1) := by decide +kernel
theorem dX8_nextToken_248 : decode cX8_nextToken 248 = .ok (.iadd, 1) := by decide +kernel
theorem dX8_nextToken_249 : decode cX8_nextToken 249 = .ok (.putfield 93, 3) := by decide +kernel
theorem dX8_nextToken_252 : decode cX8_nextToken 252 = .ok (.goto (-87), 3) := by decide +kernel
theorem dX8_nextToken_255 : decode cX8_nextToken 255 = .ok (.aload_n 0, 1) := by decide +kernel
theorem dX8_nextToken_256 : decode cX8_nextToken 256 = .ok (.aload_n 0, 1) := by decide +kernel
theorem dX8_nextToken_257 : decode cX8_nextToken 257 = .ok (.getfield 93, 3) := by decide +kernel
theorem dX8_nextToken_260 : decode cX8_nextToken 260 = .ok (.aload_n 0, 1) := by decide +kernel
theorem dX8_nextToken_261 : decode cX8_nextToken 261 = .ok (.getfield 87, 3) := by decide +kernel
theorem dX8_nextToken_264 : decode cX8_nextToken 264 = .ok (.isub, 1) := by decide +kernel
theorem dX8_nextToken_265 : decode cX8_nextToken 265 = .ok (.iconst 2, 1) := by decide +kernel
theorem dX8_nextToken_266 : decode cX8_nextToken 266 = .ok (.if_icmp .le 7, 3) := by decide +kernel
theorem dX8_nextToken_269 : decode cX8_nextToken 269 = .ok (.iconst 0, 1) := by decide +kernel
theorem dX8_nextToken_270 : decode cX8_nextToken 270 = .ok (.goto 4, 3) := by decide +kernel
theorem dX8_nextToken_273 : decode cX8_nextToken 273 = .ok (.iconst 3, 1) := by decide +kernel
theorem dX8_nextToken_274 : decode cX8_nextToken 274 = .ok (.putfield 108, 3) := by decide +kernel
theorem dX8_nextToken_277 : decode cX8_nextToken 277 = .ok (.return_, 1) := by decide +kernel
theorem dX8_must_0 : decode cX8_must 0 = .ok (.iload_n 1, 1) := by decide +kernel
theorem dX8_must_1 : decode cX8_must 1 = .ok (.ifCond .ne 8, 3) := by decide +kernel
theorem dX8_must_4 : decode cX8_must 4 = .ok (.aload_n 0, 1) := by decide +kernel
theorem dX8_must_5 : decode cX8_must 5 = .ok (.iconst 1, 1) := by decide +kernel
theorem dX8_must_6 : decode cX8_must 6 = .ok (.invokevirtual 111, 3) := by decide +kernel
theorem dX8_must_9 : decode cX8_must 9 = .ok (.aload_n 0, 1) := by decide +kernel
theorem dX8_must_10 : decode cX8_must 10 = .ok (.getfield 84, 3) := by decide +kernel
theorem dX8_must_13 : decode cX8_must 13 = .ok (.ifCond .ne 7, 3) := by decide +kernel
theorem dX8_must_16 : decode cX8_must 16 = .ok (.aload_n 0, 1) := by decide +kernel
theorem dX8_must_17 : decode cX8_must 17 = .ok (.invokevirtual 115, 3) := by decide +kernel
theorem dX8_must_20 : decode cX8_must 20 = .ok (.return_, 1) := by decide +kernel
theorem dX8_isLetter_0 : decode cX8_isLetter 0 = .ok (.aload_n 0, 1) := by decide +kernel
theorem dX8_isLetter_1 : decode cX8_isLetter 1 = .ok (.getfield 84, 3) := by decide +kernel
theorem dX8_isLetter_4 : decode cX8_isLetter 4 = .ok (.ifCond .ne 23, 3) := by decide +kernel
theorem dX8_isLetter_7 : decode cX8_isLetter 7 = .ok (.aload_n 0, 1) := by decide +kernel
theorem dX8_isLetter_8 : decode cX8_isLetter 8 = .ok (.getfield 108, 3) := by decide +kernel
theorem dX8_isLetter_11 : decode cX8_isLetter 11 = .ok (.iconst 2, 1) := by decide +kernel
theorem dX8_isLetter_12 : decode cX8_isLetter 12 = .ok (.if_icmp .ne 15, 3) := by decide +kernel
theorem dX8_isLetter_15 : decode cX8_isLetter 15 = .ok (.aload_n 0, 1) := by decide +kernel
theorem dX8_isLetter_16 : decode cX8_isLetter 16 = .ok (.getfield 97, 3) := by decide +kernel
theorem dX8_isLetter_19 : decode cX8_isLetter 19 = .ok (.iload_n 1, 1) := by decide +kernel
theorem dX8_isLetter_20 : decode cX8_isLetter 20 = .ok (.if_icmp .ne 7, 3) := by decide +kernel
theorem dX8_isLetter_23 : decode cX8_isLetter 23 = .ok (.iconst 1, 1) := by decide +kernel
theorem dX8_isLetter_24 : decode cX8_isLetter 24 = .ok (.goto 4, 3) := by decide +kernel
theorem dX8_isLetter_27 : decode cX8_isLetter 27 = .ok (.iconst 0, 1) := by decide +kernel
theorem dX8_isLetter_28 : decode cX8_isLetter 28 = .ok (.ireturn, 1) := by decide +kernel
theorem dX8_number_0 : decode cX8_number 0 = .ok (.aload_n 0, 1) := by decide +kernel
theorem dX8_number_1 : decode cX8_number 1 = .ok (.getfield 84, 3) := by decide +kernel
theorem dX8_number_4 : decode cX8_number 4 = .ok (.ifCond .ne 16, 3) := by decide +kernel
theorem dX8_number_7 : decode cX8_number 7 = .ok (.aload_n 0, 1) := by decide +kernel
theorem dX8_number_8 : decode cX8_number 8 = .ok (.getfield 108, 3) := by decide +kernel
theorem dX8_number_11 : decode cX8_number 11 = .ok (.iconst 3, 1) := by decide +kernel
theorem dX8_number_12 : decode cX8_number 12 = .ok (.if_icmp .eq 8, 3) := by decide +kernel
theorem dX8_number_15 : decode cX8_number 15 = .ok (.aload_n 0, 1) := by decide +kernel
theorem dX8_number_16 : decode cX8_number 16 = .ok (.iconst 1, 1) := by decide +kernel
theorem dX8_number_17 : decode cX8_number 17 = .ok (.invokevirtual 111, 3) := by decide +kernel
theorem dX8_number_20 : decode cX8_number 20 = .ok (.aload_n 0, 1) := by decide +kernel
theorem dX8_number_21 : decode cX8_number 21 = .ok (.getfield 84, 3) := by decide +kernel
theorem dX8_number_24 : decode cX8_number 24 = .ok (.ifCond .ne 23, 3) := by decide +kernel
theorem dX8_number_27 : decode cX8_number 27 = .ok (.aload_n 0, 1) := by decide +kernel
theorem dX8_number_28 : decode cX8_number 28 = .ok (.getfield 97, 3) := by decide +kernel
theorem dX8_number_31 : decode cX8_number 31 = .ok (.i2l, 1) := by decide +kernel
theorem dX8_number_32 : decode cX8_number 32 = .ok (.iload_n 1, 1) := by decide +kernel
theorem dX8_number_33 : decode cX8_number 33 = .ok (.i2l, 1) := by decide +kernel
theorem dX8_number_34 : decode cX8_number 34 = .ok (.iload_n 2, 1) := by decide +kernel
theorem dX8_number_35 : decode cX8_number 35 = .ok (.i2l, 1) := by decide +kernel
theorem dX8_number_36 : decode cX8_number 36 = .ok (.invokestatic 63, 3) := by decide +kernel
theorem dX8_number_39 : decode cX8_number 39 = .ok (.ifCond .ne 8, 3) := by decide +kernel
theorem dX8_number_42 : decode cX8_number 42 = .ok (.aload_n 0, 1) := by decide +kernel
theorem dX8_number_43 : decode cX8_number 43 = .ok (.iconst 2, 1) := by decide +kernel
theorem dX8_number_44 : decode cX8_number 44 = .ok (.invokevirtual 111, 3) := by decide +kernel
theorem dX8_number_47 : decode cX8_number 47 = .ok (.aload_n 0, 1) := by decide +kernel
theorem dX8_number_48 : decode cX8_number 48 = .ok (.getfield 84, 3) := by decide +kernel
theorem dX8_number_51 : decode cX8_number 51 = .ok (.ifCond .ne 10, 3) := by decide +kernel
theorem dX8_number_54 : decode cX8_number 54 = .ok (.aload_n 0, 1) := by decide +kernel
theorem dX8_number_55 : decode cX8_number 55 = .ok (.getfield 97, 3) := by decide +kernel
theorem dX8_number_58 : decode cX8_number 58 = .ok (.goto 4, 3) := by decide +kernel
theorem dX8_number_61 : decode cX8_number 61 = .ok (.iload_n 1, 1) := by decide +kernel
theorem dX8_number_62 : decode cX8_number 62 = .ok (.istore_n 3, 1) := by decide +kernel
theorem dX8_number_63 : decode cX8_number 63 = .ok (.aload_n 0, 1) := by decide +kernel
theorem dX8_number_64 : decode cX8_number 64 = .ok (.iconst 1, 1) := by decide +kernel
theorem dX8_number_65 : decode cX8_number 65 = .ok (.invokevirtual 118, 3) := by decide +kernel
theorem dX8_number_68 : decode cX8_number 68 = .ok (.iload_n 3, 1) := by decide +kernel
theorem dX8_number_69 : decode cX8_number 69 = .ok (.ireturn, 1) := by decide +kernel
theorem dX8_mustSign_0 : decode cX8_mustSign 0 = .ok (.aload_n 0, 1) := by decide +kernel
theorem dX8_mustSign_1 : decode cX8_mustSign 1 = .ok (.aload_n 0, 1) := by decide +kernel
theorem dX8_mustSign_2 : decode cX8_mustSign 2 = .ok (.getfield 108, 3) := by decide +kernel
theorem dX8_mustSign_5 : decode cX8_mustSign 5 = .ok (.iconst 4, 1) := by decide +kernel
theorem dX8_mustSign_6 : decode cX8_mustSign 6 = .ok (.if_icmp .ne 15, 3) := by decide +kernel
theorem dX8_mustSign_9 : decode cX8_mustSign 9 = .ok (.aload_n 0, 1) := by decide +kernel
theorem dX8_mustSign_10 : decode cX8_mustSign 10 = .ok (.getfield 97, 3) := by decide +kernel
theorem dX8_mustSign_13 : decode cX8_mustSign 13 = .ok (.iload_n 1, 1) := by decide +kernel
theorem dX8_mustSign_14 : decode cX8_mustSign 14 = .ok (.if_icmp .ne 7, 3) := by decide +kernel
theorem dX8_mustSign_17 : decode cX8_mustSign 17 = .ok (.iconst 1, 1) := by decide +kernel
theorem dX8_mustSign_18 : decode cX8_mustSign 18 = .ok (.goto 4, 3) := by decide +kernel
theorem dX8_mustSign_21 : decode cX8_mustSign 21 = .ok (.iconst 0, 1) := by decide +kernel
theorem dX8_mustSign_22 : decode cX8_mustSign 22 = .ok (.invokevirtual 118, 3) := by decide +kernel
theorem dX8_mustSign_25 : decode cX8_mustSign 25 = .ok (.return_, 1) := by decide +kernel
theorem dX8_startUp_0 : decode cX8_startUp 0 = .ok (.aload_n 0, 1) := by decide +kernel
theorem dX8_startUp_1 : decode cX8_startUp 1 = .ok (.iconst 0, 1) := by decide +kernel
theorem dX8_startUp_2 : decode cX8_startUp 2 = .ok (.putfield 93, 3) := by decide +kernel
theorem dX8_startUp_5 : decode cX8_startUp 5 = .ok (.aload_n 0, 1) := by decide +kernel
theorem dX8_startUp_6 : decode cX8_startUp 6 = .ok (.iconst 0, 1) := by decide +kernel
theorem dX8_startUp_7 : decode cX8_startUp 7 = .ok (.putfield 84, 3) := by decide +kernel
theorem dX8_startUp_10 : decode cX8_startUp 10 = .ok (.aload_n 0, 1) := by decide +kernel
theorem dX8_startUp_11 : decode cX8_startUp 11 = .ok (.invokevirtual 115, 3) := by decide +kernel
theorem dX8_startUp_14 : decode cX8_startUp 14 = .ok (.return_, 1) := by decide +kernel
theorem dX8_failed_0 : decode cX8_failed 0 = .ok (.aload_n 0, 1) := by decide +kernel
theorem dX8_failed_1 : decode cX8_failed 1 = .ok (.getfield 84, 3) := by decide +kernel
theorem dX8_failed_4 : decode cX8_failed 4 = .ok (.ifCond .ne 16, 3) := by decide +kernel
theorem dX8_failed_7 : decode cX8_failed 7 = .ok (.aload_n 0, 1) := by decide +kernel
theorem dX8_failed_8 : decode cX8_failed 8 = .ok (.getfield 108, 3) := by decide +kernel
theorem dX8_failed_11 : decode cX8_failed 11 = .ok (.iconst 1, 1) := by decide +kernel
theorem dX8_failed_12 : decode cX8_failed 12 = .ok (.if_icmp .eq 8, 3) := by decide +kernel
theorem dX8_failed_15 : decode cX8_failed 15 = .ok (.aload_n 0, 1) := by decide +kernel
theorem dX8_failed_16 : decode cX8_failed 16 = .ok (.iconst 1, 1) := by decide +kernel
theorem dX8_failed_17 : decode cX8_failed 17 = .ok (.invokevirtual 111, 3) := by decide +kernel
theorem dX8_failed_20 : decode cX8_failed 20 = .ok (.aload_n 0, 1) := by decide +kernel
theorem dX8_failed_21 : decode cX8_failed 21 = .ok (.iconst 0, 1) := by decide +kernel
theorem dX8_failed_22 : decode cX8_failed 22 = .ok (.putfield 80, 3) := by decide +kernel
theorem dX8_failed_25 : decode cX8_failed 25 = .ok (.aload_n 0, 1) := by decide +kernel
theorem dX8_failed_26 : decode cX8_failed 26 = .ok (.aload_n 0, 1) := by decide +kernel
theorem dX8_failed_27 : decode cX8_failed 27 = .ok (.getfield 84, 3) := by decide +kernel
theorem dX8_failed_30 : decode cX8_failed 30 = .ok (.ifCond .le 10, 3) := by decide +kernel
theorem dX8_failed_33 : decode cX8_failed 33 = .ok (.aload_n 0, 1) := by decide +kernel
theorem dX8_failed_34 : decode cX8_failed 34 = .ok (.getfield 84, 3) := by decide +kernel
theorem dX8_failed_37 : decode cX8_failed 37 = .ok (.goto 7, 3) := by decide +kernel
theorem dX8_failed_40 : decode cX8_failed 40 = .ok (.aload_n 0, 1) := by decide +kernel
theorem dX8_failed_41 : decode cX8_failed 41 = .ok (.getfield 122, 3) := by decide +kernel
theorem dX8_failed_44 : decode cX8_failed 44 = .ok (.putfield 122, 3) := by decide +kernel
theorem dX8_failed_47 : decode cX8_failed 47 = .ok (.aload_n 0, 1) := by decide +kernel
theorem dX8_failed_48 : decode cX8_failed 48 = .ok (.getfield 84, 3) := by decide +kernel
theorem dX8_failed_51 : decode cX8_failed 51 = .ok (.ifCond .le 7, 3) := by decide +kernel
theorem dX8_failed_54 : decode cX8_failed 54 = .ok (.iconst 1, 1) := by decide +kernel
theorem dX8_failed_55 : decode cX8_failed 55 = .ok (.goto 4, 3) := by decide +kernel
theorem dX8_failed_58 : decode cX8_failed 58 = .ok (.iconst 0, 1) := by decide +kernel
theorem dX8_failed_59 : decode cX8_failed 59 = .ok (.ireturn, 1) := by decide +kernel
theorem dX8_fault_0 : decode cX8_fault 0 = .ok (.aload_n 0, 1) := by decide +kernel
theorem dX8_fault_1 : decode cX8_fault 1 = .ok (.iconst 0, 1) := by decide +kernel
theorem dX8_fault_2 : decode cX8_fault 2 = .ok (.putfield 53, 3) := by decide +kernel
theorem dX8_fault_5 : decode cX8_fault 5 = .ok (.aload_n 0, 1) := by decide +kernel
theorem dX8_fault_6 : decode cX8_fault 6 = .ok (.getfield 122, 3) := by decide +kernel
theorem dX8_fault_9 : decode cX8_fault 9 = .ok (.ireturn, 1) := by decide +kernel
theorem dX8_kindBy_0 : decode cX8_kindBy 0 = .ok (.iload_n 0, 1) := by decide +kernel
theorem dX8_kindBy_1 : decode cX8_kindBy 1 = .ok (.bipush 119, 2) := by decide +kernel
theorem dX8_kindBy_3 : decode cX8_kindBy 3 = .ok (.if_icmp .ne 7, 3) := by decide +kernel
theorem dX8_kindBy_6 : decode cX8_kindBy 6 = .ok (.iconst 1, 1) := by decide +kernel
theorem dX8_kindBy_7 : decode cX8_kindBy 7 = .ok (.goto 45, 3) := by decide +kernel
theorem dX8_kindBy_10 : decode cX8_kindBy 10 = .ok (.iload_n 0, 1) := by decide +kernel
theorem dX8_kindBy_11 : decode cX8_kindBy 11 = .ok (.bipush 99, 2) := by decide +kernel
theorem dX8_kindBy_13 : decode cX8_kindBy 13 = .ok (.if_icmp .ne 7, 3) := by decide +kernel
theorem dX8_kindBy_16 : decode cX8_kindBy 16 = .ok (.iconst 2, 1) := by decide +kernel
theorem dX8_kindBy_17 : decode cX8_kindBy 17 = .ok (.goto 35, 3) := by decide +kernel
theorem dX8_kindBy_20 : decode cX8_kindBy 20 = .ok (.iload_n 0, 1) := by decide +kernel
theorem dX8_kindBy_21 : decode cX8_kindBy 21 = .ok (.bipush 100, 2) := by decide +kernel
theorem dX8_kindBy_23 : decode cX8_kindBy 23 = .ok (.if_icmp .ne 7, 3) := by decide +kernel
theorem dX8_kindBy_26 : decode cX8_kindBy 26 = .ok (.iconst 3, 1) := by decide +kernel
theorem dX8_kindBy_27 : decode cX8_kindBy 27 = .ok (.goto 25, 3) := by decide +kernel
theorem dX8_kindBy_30 : decode cX8_kindBy 30 = .ok (.iload_n 0, 1) := by decide +kernel
theorem dX8_kindBy_31 : decode cX8_kindBy 31 = .ok (.bipush 109, 2) := by decide +kernel
theorem dX8_kindBy_33 : decode cX8_kindBy 33 = .ok (.if_icmp .ne 7, 3) := by decide +kernel
theorem dX8_kindBy_36 : decode cX8_kindBy 36 = .ok (.iconst 4, 1) := by decide +kernel
theorem dX8_kindBy_37 : decode cX8_kindBy 37 = .ok (.goto 15, 3) := by decide +kernel
theorem dX8_kindBy_40 : decode cX8_kindBy 40 = .ok (.iload_n 0, 1) := by decide +kernel
theorem dX8_kindBy_41 : decode cX8_kindBy 41 = .ok (.bipush 98, 2) := by decide +kernel
theorem dX8_kindBy_43 : decode cX8_kindBy 43 = .ok (.if_icmp .ne 7, 3) := by decide +kernel
theorem dX8_kindBy_46 : decode cX8_kindBy 46 = .ok (.iconst 5, 1) := by decide +kernel
theorem dX8_kindBy_47 : decode cX8_kindBy 47 = .ok (.goto 5, 3) := by decide +kernel
theorem dX8_kindBy_50 : decode cX8_kindBy 50 = .ok (.ldc 96, 2) := by decide +kernel
theorem dX8_kindBy_52 : decode cX8_kindBy 52 = .ok (.ireturn, 1) := by decide +kernel
theorem dX8_isSort_0 : decode cX8_isSort 0 = .ok (.aload_n 0, 1) := by decide +kernel
theorem dX8_isSort_1 : decode cX8_isSort 1 = .ok (.getfield 84, 3) := by decide +kernel
theorem dX8_isSort_4 : decode cX8_isSort 4 = .ok (.ifCond .ne 27, 3) := by decide +kernel
theorem dX8_isSort_7 : decode cX8_isSort 7 = .ok (.aload_n 0, 1) := by decide +kernel
theorem dX8_isSort_8 : decode cX8_isSort 8 = .ok (.getfield 108, 3) := by decide +kernel
theorem dX8_isSort_11 : decode cX8_isSort 11 = .ok (.iconst 2, 1) := by decide +kernel
theorem dX8_isSort_12 : decode cX8_isSort 12 = .ok (.if_icmp .ne 19, 3) := by decide +kernel
theorem dX8_isSort_15 : decode cX8_isSort 15 = .ok (.aload_n 0, 1) := by decide +kernel
theorem dX8_isSort_16 : decode cX8_isSort 16 = .ok (.getfield 97, 3) := by decide +kernel
theorem dX8_isSort_19 : decode cX8_isSort 19 = .ok (.invokestatic 125, 3) := by decide +kernel
theorem dX8_isSort_22 : decode cX8_isSort 22 = .ok (.ldc 96, 2) := by decide +kernel
theorem dX8_isSort_24 : decode cX8_isSort 24 = .ok (.if_icmp .eq 7, 3) := by decide +kernel
theorem dX8_isSort_27 : decode cX8_isSort 27 = .ok (.iconst 1, 1) := by decide +kernel
theorem dX8_isSort_28 : decode cX8_isSort 28 = .ok (.goto 4, 3) := by decide +kernel
theorem dX8_isSort_31 : decode cX8_isSort 31 = .ok (.iconst 0, 1) := by decide +kernel
theorem dX8_isSort_32 : decode cX8_isSort 32 = .ok (.ireturn, 1) := by decide +kernel
theorem dX8_readPerson_0 : decode cX8_readPerson 0 = .ok (.aload_n 0, 1) := by decide +kernel
theorem dX8_readPerson_1 : decode cX8_readPerson 1 = .ok (.getfield 97, 3) := by decide +kernel
theorem dX8_readPerson_4 : decode cX8_readPerson 4 = .ok (.invokestatic 125, 3) := by decide +kernel
theorem dX8_readPerson_7 : decode cX8_readPerson 7 = .ok (.istore_n 1, 1) := by decide +kernel
theorem dX8_readPerson_8 : decode cX8_readPerson 8 = .ok (.aload_n 0, 1) := by decide +kernel
theorem dX8_readPerson_9 : decode cX8_readPerson 9 = .ok (.getfield 22, 3) := by decide +kernel
theorem dX8_readPerson_12 : decode cX8_readPerson 12 = .ok (.iconst 2, 1) := by decide +kernel
theorem dX8_readPerson_13 : decode cX8_readPerson 13 = .ok (.iaload, 1) := by decide +kernel
theorem dX8_readPerson_14 : decode cX8_readPerson 14 = .ok (.bipush 6, 2) := by decide +kernel
theorem dX8_readPerson_16 : decode cX8_readPerson 16 = .ok (.if_icmp .ne 8, 3) := by decide +kernel
theorem dX8_readPerson_19 : decode cX8_readPerson 19 = .ok (.aload_n 0, 1) := by decide +kernel
theorem dX8_readPerson_20 : decode cX8_readPerson 20 = .ok (.iconst 3, 1) := by decide +kernel
theorem dX8_readPerson_21 : decode cX8_readPerson 21 = .ok (.invokevirtual 111, 3) := by decide +kernel
theorem dX8_readPerson_24 : decode cX8_readPerson 24 = .ok (.aload_n 0, 1) := by decide +kernel
theorem dX8_readPerson_25 : decode cX8_readPerson 25 = .ok (.iconst 1, 1) := by decide +kernel
theorem dX8_readPerson_26 : decode cX8_readPerson 26 = .ok (.invokevirtual 118, 3) := by decide +kernel
theorem dX8_readPerson_29 : decode cX8_readPerson 29 = .ok (.aload_n 0, 1) := by decide +kernel
theorem dX8_readPerson_30 : decode cX8_readPerson 30 = .ok (.iconst 0, 1) := by decide +kernel
theorem dX8_readPerson_31 : decode cX8_readPerson 31 = .ok (.aload_n 0, 1) := by decide +kernel
theorem dX8_readPerson_32 : decode cX8_readPerson 32 = .ok (.getfield 22, 3) := by decide +kernel
theorem dX8_readPerson_35 : decode cX8_readPerson 35 = .ok (.iconst 0, 1) := by decide +kernel
theorem dX8_readPerson_36 : decode cX8_readPerson 36 = .ok (.iaload, 1) := by decide +kernel
theorem dX8_readPerson_37 : decode cX8_readPerson 37 = .ok (.iconst 1, 1) := by decide +kernel
theorem dX8_readPerson_38 : decode cX8_readPerson 38 = .ok (.isub, 1) := by decide +kernel
theorem dX8_readPerson_39 : decode cX8_readPerson 39 = .ok (.invokevirtual 128, 3) := by decide +kernel
theorem dX8_readPerson_42 : decode cX8_readPerson 42 = .ok (.istore_n 2, 1) := by decide +kernel
theorem dX8_readPerson_43 : decode cX8_readPerson 43 = .ok (.aload_n 0, 1) := by decide +kernel
theorem dX8_readPerson_44 : decode cX8_readPerson 44 = .ok (.bipush 44, 2) := by decide +kernel
theorem dX8_readPerson_46 : decode cX8_readPerson 46 = .ok (.invokevirtual 132, 3) := by decide +kernel
theorem dX8_readPerson_49 : decode cX8_readPerson 49 = .ok (.aload_n 0, 1) := by decide +kernel
theorem dX8_readPerson_50 : decode cX8_readPerson 50 = .ok (.iconst 0, 1) := by decide +kernel
theorem dX8_readPerson_51 : decode cX8_readPerson 51 = .ok (.aload_n 0, 1) := by decide +kernel
theorem dX8_readPerson_52 : decode cX8_readPerson 52 = .ok (.getfield 22, 3) := by decide +kernel
theorem dX8_readPerson_55 : decode cX8_readPerson 55 = .ok (.iconst 0, 1) := by decide +kernel
theorem dX8_readPerson_56 : decode cX8_readPerson 56 = .ok (.iaload, 1) := by decide +kernel
theorem dX8_readPerson_57 : decode cX8_readPerson 57 = .ok (.iconst 1, 1) := by decide +kernel
theorem dX8_readPerson_58 : decode cX8_readPerson 58 = .ok (.isub, 1) := by decide +kernel
theorem dX8_readPerson_59 : decode cX8_readPerson 59 = .ok (.invokevirtual 128, 3) := by decide +kernel
theorem dX8_readPerson_62 : decode cX8_readPerson 62 = .ok (.istore_n 3, 1) := by decide +kernel
theorem dX8_readPerson_63 : decode cX8_readPerson 63 = .ok (.aload_n 0, 1) := by decide +kernel
theorem dX8_readPerson_64 : decode cX8_readPerson 64 = .ok (.bipush 44, 2) := by decide +kernel
theorem dX8_readPerson_66 : decode cX8_readPerson 66 = .ok (.invokevirtual 132, 3) := by decide +kernel
theorem dX8_readPerson_69 : decode cX8_readPerson 69 = .ok (.aload_n 0, 1) := by decide +kernel
theorem dX8_readPerson_70 : decode cX8_readPerson 70 = .ok (.iconst 0, 1) := by decide +kernel
theorem dX8_readPerson_71 : decode cX8_readPerson 71 = .ok (.bipush 23, 2) := by decide +kernel
theorem dX8_readPerson_73 : decode cX8_readPerson 73 = .ok (.invokevirtual 128, 3) := by decide +kernel
theorem dX8_readPerson_76 : decode cX8_readPerson 76 = .ok (.istore 4, 2) := by decide +kernel
theorem dX8_readPerson_78 : decode cX8_readPerson 78 = .ok (.aload_n 0, 1) := by decide +kernel
theorem dX8_readPerson_79 : decode cX8_readPerson 79 = .ok (.bipush 59, 2) := by decide +kernel
theorem dX8_readPerson_81 : decode cX8_readPerson 81 = .ok (.invokevirtual 132, 3) := by decide +kernel
theorem dX8_readPerson_84 : decode cX8_readPerson 84 = .ok (.aload_n 0, 1) := by decide +kernel
theorem dX8_readPerson_85 : decode cX8_readPerson 85 = .ok (.getfield 84, 3) := by decide +kernel
theorem dX8_readPerson_88 : decode cX8_readPerson 88 = .ok (.ifCond .ne 65, 3) := by decide +kernel
theorem dX8_readPerson_91 : decode cX8_readPerson 91 = .ok (.bipush 17, 2) := by decide +kernel
theorem dX8_readPerson_93 : decode cX8_readPerson 93 = .ok (.iconst 4, 1) := by decide +kernel
theorem dX8_readPerson_94 : decode cX8_readPerson 94 = .ok (.aload_n 0, 1) := by decide +kernel
theorem dX8_readPerson_95 : decode cX8_readPerson 95 = .ok (.getfield 22, 3) := by decide +kernel
theorem dX8_readPerson_98 : decode cX8_readPerson 98 = .ok (.iconst 2, 1) := by decide +kernel
theorem dX8_readPerson_99 : decode cX8_readPerson 99 = .ok (.iaload, 1) := by decide +kernel
theorem dX8_readPerson_100 : decode cX8_readPerson 100 = .ok (.imul, 1) := by decide +kernel
theorem dX8_readPerson_101 : decode cX8_readPerson 101 = .ok (.iadd, 1) := by decide +kernel
theorem dX8_readPerson_102 : decode cX8_readPerson 102 = .ok (.istore 5, 2) := by decide +kernel
theorem dX8_readPerson_104 : decode cX8_readPerson 104 = .ok (.aload_n 0, 1) := by decide +kernel
theorem dX8_readPerson_105 : decode cX8_readPerson 105 = .ok (.getfield 22, 3) := by decide +kernel
theorem dX8_readPerson_108 : decode cX8_readPerson 108 = .ok (.iload 5, 2) := by decide +kernel
theorem dX8_readPerson_110 : decode cX8_readPerson 110 = .ok (.iload_n 1, 1) := by decide +kernel
theorem dX8_readPerson_111 : decode cX8_readPerson 111 = .ok (.iastore, 1) := by decide +kernel
theorem dX8_readPerson_112 : decode cX8_readPerson 112 = .ok (.aload_n 0, 1) := by decide +kernel
theorem dX8_readPerson_113 : decode cX8_readPerson 113 = .ok (.getfield 22, 3) := by decide +kernel
theorem dX8_readPerson_116 : decode cX8_readPerson 116 = .ok (.iload 5, 2) := by decide +kernel
theorem dX8_readPerson_118 : decode cX8_readPerson 118 = .ok (.iconst 1, 1) := by decide +kernel
theorem dX8_readPerson_119 : decode cX8_readPerson 119 = .ok (.iadd, 1) := by decide +kernel
theorem dX8_readPerson_120 : decode cX8_readPerson 120 = .ok (.iload_n 2, 1) := by decide +kernel
theorem dX8_readPerson_121 : decode cX8_readPerson 121 = .ok (.iastore, 1) := by decide +kernel
theorem dX8_readPerson_122 : decode cX8_readPerson 122 = .ok (.aload_n 0, 1) := by decide +kernel
theorem dX8_readPerson_123 : decode cX8_readPerson 123 = .ok (.getfield 22, 3) := by decide +kernel
theorem dX8_readPerson_126 : decode cX8_readPerson 126 = .ok (.iload 5, 2) := by decide +kernel
theorem dX8_readPerson_128 : decode cX8_readPerson 128 = .ok (.iconst 2, 1) := by decide +kernel
theorem dX8_readPerson_129 : decode cX8_readPerson 129 = .ok (.iadd, 1) := by decide +kernel
theorem dX8_readPerson_130 : decode cX8_readPerson 130 = .ok (.iload_n 3, 1) := by decide +kernel
theorem dX8_readPerson_131 : decode cX8_readPerson 131 = .ok (.iastore, 1) := by decide +kernel
theorem dX8_readPerson_132 : decode cX8_readPerson 132 = .ok (.aload_n 0, 1) := by decide +kernel
theorem dX8_readPerson_133 : decode cX8_readPerson 133 = .ok (.getfield 22, 3) := by decide +kernel
theorem dX8_readPerson_136 : decode cX8_readPerson 136 = .ok (.iload 5, 2) := by decide +kernel
theorem dX8_readPerson_138 : decode cX8_readPerson 138 = .ok (.iconst 3, 1) := by decide +kernel
theorem dX8_readPerson_139 : decode cX8_readPerson 139 = .ok (.iadd, 1) := by decide +kernel
theorem dX8_readPerson_140 : decode cX8_readPerson 140 = .ok (.iload 4, 2) := by decide +kernel
theorem dX8_readPerson_142 : decode cX8_readPerson 142 = .ok (.iastore, 1) := by decide +kernel
theorem dX8_readPerson_143 : decode cX8_readPerson 143 = .ok (.aload_n 0, 1) := by decide +kernel
theorem dX8_readPerson_144 : decode cX8_readPerson 144 = .ok (.getfield 22, 3) := by decide +kernel
theorem dX8_readPerson_147 : decode cX8_readPerson 147 = .ok (.iconst 2, 1) := by decide +kernel
theorem dX8_readPerson_148 : decode cX8_readPerson 148 = .ok (.dup2, 1) := by decide +kernel
theorem dX8_readPerson_149 : decode cX8_readPerson 149 = .ok (.iaload, 1) := by decide +kernel
theorem dX8_readPerson_150 : decode cX8_readPerson 150 = .ok (.iconst 1, 1) := by decide +kernel
theorem dX8_readPerson_151 : decode cX8_readPerson 151 = .ok (.iadd, 1) := by decide +kernel
theorem dX8_readPerson_152 : decode cX8_readPerson 152 = .ok (.iastore, 1) := by decide +kernel
theorem dX8_readPerson_153 : decode cX8_readPerson 153 = .ok (.return_, 1) := by decide +kernel
theorem dX8_town_0 : decode cX8_town 0 = .ok (.aload_n 0, 1) := by decide +kernel
theorem dX8_town_1 : decode cX8_town 1 = .ok (.iconst 0, 1) := by decide +kernel
theorem dX8_town_2 : decode cX8_town 2 = .ok (.putfield 53, 3) := by decide +kernel
theorem dX8_town_5 : decode cX8_town 5 = .ok (.aload_n 0, 1) := by decide +kernel
theorem dX8_town_6 : decode cX8_town 6 = .ok (.invokevirtual 135, 3) := by decide +kernel
theorem dX8_town_9 : decode cX8_town 9 = .ok (.iconst 0, 1) := by decide +kernel
theorem dX8_town_10 : decode cX8_town 10 = .ok (.istore_n 1, 1) := by decide +kernel
theorem dX8_town_11 : decode cX8_town 11 = .ok (.iload_n 1, 1) := by decide +kernel
theorem dX8_town_12 : decode cX8_town 12 = .ok (.bipush 41, 2) := by decide +kernel
theorem dX8_town_14 : decode cX8_town 14 = .ok (.if_icmp .ge 16, 3) := by decide +kernel
theorem dX8_town_17 : decode cX8_town 17 = .ok (.aload_n 0, 1) := by decide +kernel
theorem dX8_town_18 : decode cX8_town 18 = .ok (.getfield 22, 3) := by decide +kernel
theorem dX8_town_21 : decode cX8_town 21 = .ok (.iload_n 1, 1) := by decide +kernel
theorem dX8_town_22 : decode cX8_town 22 = .ok (.iconst 0, 1) := by decide +kernel
theorem dX8_town_23 : decode cX8_town 23 = .ok (.iastore, 1) := by decide +kernel
theorem dX8_town_24 : decode cX8_town 24 = .ok (.iinc 1 1, 3) := by decide +kernel
theorem dX8_town_27 : decode cX8_town 27 = .ok (.goto (-16), 3) := by decide +kernel
theorem dX8_town_30 : decode cX8_town 30 = .ok (.aload_n 0, 1) := by decide +kernel
theorem dX8_town_31 : decode cX8_town 31 = .ok (.aload_n 0, 1) := by decide +kernel
theorem dX8_town_32 : decode cX8_town 32 = .ok (.bipush 116, 2) := by decide +kernel
theorem dX8_town_34 : decode cX8_town 34 = .ok (.invokevirtual 138, 3) := by decide +kernel
theorem dX8_town_37 : decode cX8_town 37 = .ok (.invokevirtual 118, 3) := by decide +kernel
theorem dX8_town_40 : decode cX8_town 40 = .ok (.aload_n 0, 1) := by decide +kernel
theorem dX8_town_41 : decode cX8_town 41 = .ok (.getfield 22, 3) := by decide +kernel
theorem dX8_town_44 : decode cX8_town 44 = .ok (.iconst 0, 1) := by decide +kernel
theorem dX8_town_45 : decode cX8_town 45 = .ok (.aload_n 0, 1) := by decide +kernel
theorem dX8_town_46 : decode cX8_town 46 = .ok (.iconst 2, 1) := by decide +kernel
theorem dX8_town_47 : decode cX8_town 47 = .ok (.bipush 9, 2) := by decide +kernel
theorem dX8_town_49 : decode cX8_town 49 = .ok (.invokevirtual 128, 3) := by decide +kernel
theorem dX8_town_52 : decode cX8_town 52 = .ok (.iastore, 1) := by decide +kernel
theorem dX8_town_53 : decode cX8_town 53 = .ok (.aload_n 0, 1) := by decide +kernel
theorem dX8_town_54 : decode cX8_town 54 = .ok (.bipush 44, 2) := by decide +kernel
theorem dX8_town_56 : decode cX8_town 56 = .ok (.invokevirtual 132, 3) := by decide +kernel
theorem dX8_town_59 : decode cX8_town 59 = .ok (.aload_n 0, 1) := by decide +kernel
theorem dX8_town_60 : decode cX8_town 60 = .ok (.getfield 22, 3) := by decide +kernel
theorem dX8_town_63 : decode cX8_town 63 = .ok (.iconst 1, 1) := by decide +kernel
theorem dX8_town_64 : decode cX8_town 64 = .ok (.aload_n 0, 1) := by decide +kernel
theorem dX8_town_65 : decode cX8_town 65 = .ok (.iconst 4, 1) := by decide +kernel
theorem dX8_town_66 : decode cX8_town 66 = .ok (.bipush 24, 2) := by decide +kernel
theorem dX8_town_68 : decode cX8_town 68 = .ok (.invokevirtual 128, 3) := by decide +kernel
theorem dX8_town_71 : decode cX8_town 71 = .ok (.iastore, 1) := by decide +kernel
theorem dX8_town_72 : decode cX8_town 72 = .ok (.aload_n 0, 1) := by decide +kernel
theorem dX8_town_73 : decode cX8_town 73 = .ok (.bipush 59, 2) := by decide +kernel
theorem dX8_town_75 : decode cX8_town 75 = .ok (.invokevirtual 132, 3) := by decide +kernel
theorem dX8_town_78 : decode cX8_town 78 = .ok (.aload_n 0, 1) := by decide +kernel
theorem dX8_town_79 : decode cX8_town 79 = .ok (.invokevirtual 141, 3) := by decide +kernel
theorem dX8_town_82 : decode cX8_town 82 = .ok (.ifCond .ne 8, 3) := by decide +kernel
theorem dX8_town_85 : decode cX8_town 85 = .ok (.aload_n 0, 1) := by decide +kernel
theorem dX8_town_86 : decode cX8_town 86 = .ok (.iconst 1, 1) := by decide +kernel
theorem dX8_town_87 : decode cX8_town 87 = .ok (.invokevirtual 111, 3) := by decide +kernel
theorem dX8_town_90 : decode cX8_town 90 = .ok (.aload_n 0, 1) := by decide +kernel
theorem dX8_town_91 : decode cX8_town 91 = .ok (.invokevirtual 141, 3) := by decide +kernel
theorem dX8_town_94 : decode cX8_town 94 = .ok (.ifCond .eq 10, 3) := by decide +kernel
theorem dX8_town_97 : decode cX8_town 97 = .ok (.aload_n 0, 1) := by decide +kernel
theorem dX8_town_98 : decode cX8_town 98 = .ok (.invokevirtual 145, 3) := by decide +kernel
theorem dX8_town_101 : decode cX8_town 101 = .ok (.goto (-11), 3) := by decide +kernel
theorem dX8_town_104 : decode cX8_town 104 = .ok (.aload_n 0, 1) := by decide +kernel
theorem dX8_town_105 : decode cX8_town 105 = .ok (.invokevirtual 148, 3) := by decide +kernel
theorem dX8_town_108 : decode cX8_town 108 = .ok (.ifCond .eq 11, 3) := by decide +kernel
theorem dX8_town_111 : decode cX8_town 111 = .ok (.ldc 151, 2) := by decide +kernel
theorem dX8_town_113 : decode cX8_town 113 = .ok (.aload_n 0, 1) := by decide +kernel
theorem dX8_town_114 : decode cX8_town 114 = .ok (.getfield 90, 3) := by decide +kernel
theorem dX8_town_117 : decode cX8_town 117 = .ok (.isub, 1) := by decide +kernel
theorem dX8_town_118 : decode cX8_town 118 = .ok (.ireturn, 1) := by decide +kernel
theorem dX8_town_119 : decode cX8_town 119 = .ok (.aload_n 0, 1) := by decide +kernel
theorem dX8_town_120 : decode cX8_town 120 = .ok (.iconst 0, 1) := by decide +kernel
theorem dX8_town_121 : decode cX8_town 121 = .ok (.putfield 152, 3) := by decide +kernel
theorem dX8_town_124 : decode cX8_town 124 = .ok (.iconst 0, 1) := by decide +kernel
theorem dX8_town_125 : decode cX8_town 125 = .ok (.istore_n 1, 1) := by decide +kernel
theorem dX8_town_126 : decode cX8_town 126 = .ok (.iload_n 1, 1) := by decide +kernel
theorem dX8_town_127 : decode cX8_town 127 = .ok (.bipush 41, 2) := by decide +kernel
theorem dX8_town_129 : decode cX8_town 129 = .ok (.if_icmp .ge 21, 3) := by decide +kernel
theorem dX8_town_132 : decode cX8_town 132 = .ok (.aload_n 0, 1) := by decide +kernel
theorem dX8_town_133 : decode cX8_town 133 = .ok (.getfield 19, 3) := by decide +kernel
theorem dX8_town_136 : decode cX8_town 136 = .ok (.iload_n 1, 1) := by decide +kernel
theorem dX8_town_137 : decode cX8_town 137 = .ok (.aload_n 0, 1) := by decide +kernel
theorem dX8_town_138 : decode cX8_town 138 = .ok (.getfield 22, 3) := by decide +kernel
theorem dX8_town_141 : decode cX8_town 141 = .ok (.iload_n 1, 1) := by decide +kernel
theorem dX8_town_142 : decode cX8_town 142 = .ok (.iaload, 1) := by decide +kernel
theorem dX8_town_143 : decode cX8_town 143 = .ok (.iastore, 1) := by decide +kernel
theorem dX8_town_144 : decode cX8_town 144 = .ok (.iinc 1 1, 3) := by decide +kernel
theorem dX8_town_147 : decode cX8_town 147 = .ok (.goto (-21), 3) := by decide +kernel
theorem dX8_town_150 : decode cX8_town 150 = .ok (.aload_n 0, 1) := by decide +kernel
theorem dX8_town_151 : decode cX8_town 151 = .ok (.getfield 19, 3) := by decide +kernel
theorem dX8_town_154 : decode cX8_town 154 = .ok (.iconst 2, 1) := by decide +kernel
theorem dX8_town_155 : decode cX8_town 155 = .ok (.iaload, 1) := by decide +kernel
theorem dX8_town_156 : decode cX8_town 156 = .ok (.ireturn, 1) := by decide +kernel
theorem dX8_isThere_0 : decode cX8_isThere 0 = .ok (.aload_n 0, 1) := by decide +kernel
theorem dX8_isThere_1 : decode cX8_isThere 1 = .ok (.getfield 19, 3) := by decide +kernel
theorem dX8_isThere_4 : decode cX8_isThere 4 = .ok (.iconst 0, 1) := by decide +kernel
theorem dX8_isThere_5 : decode cX8_isThere 5 = .ok (.iaload, 1) := by decide +kernel
theorem dX8_isThere_6 : decode cX8_isThere 6 = .ok (.ifCond .le 7, 3) := by decide +kernel
theorem dX8_isThere_9 : decode cX8_isThere 9 = .ok (.iconst 1, 1) := by decide +kernel
theorem dX8_isThere_10 : decode cX8_isThere 10 = .ok (.goto 4, 3) := by decide +kernel
theorem dX8_isThere_13 : decode cX8_isThere 13 = .ok (.iconst 0, 1) := by decide +kernel
theorem dX8_isThere_14 : decode cX8_isThere 14 = .ok (.ireturn, 1) := by decide +kernel
theorem dX8_isPerson_0 : decode cX8_isPerson 0 = .ok (.iload_n 1, 1) := by decide +kernel
theorem dX8_isPerson_1 : decode cX8_isPerson 1 = .ok (.i2l, 1) := by decide +kernel
theorem dX8_isPerson_2 : decode cX8_isPerson 2 = .ok (.lconst 0, 1) := by decide +kernel
theorem dX8_isPerson_3 : decode cX8_isPerson 3 = .ok (.aload_n 0, 1) := by decide +kernel
theorem dX8_isPerson_4 : decode cX8_isPerson 4 = .ok (.getfield 19, 3) := by decide +kernel
theorem dX8_isPerson_7 : decode cX8_isPerson 7 = .ok (.iconst 2, 1) := by decide +kernel
theorem dX8_isPerson_8 : decode cX8_isPerson 8 = .ok (.iaload, 1) := by decide +kernel
theorem dX8_isPerson_9 : decode cX8_isPerson 9 = .ok (.iconst 1, 1) := by decide +kernel
theorem dX8_isPerson_10 : decode cX8_isPerson 10 = .ok (.isub, 1) := by decide +kernel
theorem dX8_isPerson_11 : decode cX8_isPerson 11 = .ok (.i2l, 1) := by decide +kernel
theorem dX8_isPerson_12 : decode cX8_isPerson 12 = .ok (.invokestatic 63, 3) := by decide +kernel
theorem dX8_isPerson_15 : decode cX8_isPerson 15 = .ok (.ireturn, 1) := by decide +kernel
theorem dX8_isLane_0 : decode cX8_isLane 0 = .ok (.iload_n 1, 1) := by decide +kernel
theorem dX8_isLane_1 : decode cX8_isLane 1 = .ok (.i2l, 1) := by decide +kernel
theorem dX8_isLane_2 : decode cX8_isLane 2 = .ok (.lconst 0, 1) := by decide +kernel
theorem dX8_isLane_3 : decode cX8_isLane 3 = .ok (.aload_n 0, 1) := by decide +kernel
theorem dX8_isLane_4 : decode cX8_isLane 4 = .ok (.getfield 19, 3) := by decide +kernel
theorem dX8_isLane_7 : decode cX8_isLane 7 = .ok (.iconst 0, 1) := by decide +kernel
theorem dX8_isLane_8 : decode cX8_isLane 8 = .ok (.iaload, 1) := by decide +kernel
theorem dX8_isLane_9 : decode cX8_isLane 9 = .ok (.iconst 1, 1) := by decide +kernel
theorem dX8_isLane_10 : decode cX8_isLane 10 = .ok (.isub, 1) := by decide +kernel
theorem dX8_isLane_11 : decode cX8_isLane 11 = .ok (.i2l, 1) := by decide +kernel
theorem dX8_isLane_12 : decode cX8_isLane 12 = .ok (.invokestatic 63, 3) := by decide +kernel
theorem dX8_isLane_15 : decode cX8_isLane 15 = .ok (.ireturn, 1) := by decide +kernel
theorem dX8_isPosted_0 : decode cX8_isPosted 0 = .ok (.aload_n 0, 1) := by decide +kernel
theorem dX8_isPosted_1 : decode cX8_isPosted 1 = .ok (.invokevirtual 155, 3) := by decide +kernel
theorem dX8_isPosted_4 : decode cX8_isPosted 4 = .ok (.ifCond .eq 19, 3) := by decide +kernel
theorem dX8_isPosted_7 : decode cX8_isPosted 7 = .ok (.iload_n 1, 1) := by decide +kernel
theorem dX8_isPosted_8 : decode cX8_isPosted 8 = .ok (.i2l, 1) := by decide +kernel
theorem dX8_isPosted_9 : decode cX8_isPosted 9 = .ok (.lconst 0, 1) := by decide +kernel
theorem dX8_isPosted_10 : decode cX8_isPosted 10 = .ok (.ldc2_w 158, 3) := by decide +kernel
theorem dX8_isPosted_13 : decode cX8_isPosted 13 = .ok (.invokestatic 63, 3) := by decide +kernel
theorem dX8_isPosted_16 : decode cX8_isPosted 16 = .ok (.ifCond .eq 7, 3) := by decide +kernel
theorem dX8_isPosted_19 : decode cX8_isPosted 19 = .ok (.iconst 1, 1) := by decide +kernel
theorem dX8_isPosted_20 : decode cX8_isPosted 20 = .ok (.goto 4, 3) := by decide +kernel
theorem dX8_isPosted_23 : decode cX8_isPosted 23 = .ok (.iconst 0, 1) := by decide +kernel
theorem dX8_isPosted_24 : decode cX8_isPosted 24 = .ok (.ireturn, 1) := by decide +kernel
theorem dX8_bits_0 : decode cX8_bits 0 = .ok (.iconst 0, 1) := by decide +kernel
theorem dX8_bits_1 : decode cX8_bits 1 = .ok (.istore_n 1, 1) := by decide +kernel
theorem dX8_bits_2 : decode cX8_bits 2 = .ok (.iconst 0, 1) := by decide +kernel
theorem dX8_bits_3 : decode cX8_bits 3 = .ok (.istore_n 2, 1) := by decide +kernel
theorem dX8_bits_4 : decode cX8_bits 4 = .ok (.iload_n 2, 1) := by decide +kernel
theorem dX8_bits_5 : decode cX8_bits 5 = .ok (.bipush 9, 2) := by decide +kernel
theorem dX8_bits_7 : decode cX8_bits 7 = .ok (.if_icmp .ge 17, 3) := by decide +kernel
theorem dX8_bits_10 : decode cX8_bits 10 = .ok (.iload_n 1, 1) := by decide +kernel
theorem dX8_bits_11 : decode cX8_bits 11 = .ok (.iload_n 0, 1) := by decide +kernel
theorem dX8_bits_12 : decode cX8_bits 12 = .ok (.iload_n 2, 1) := by decide +kernel
theorem dX8_bits_13 : decode cX8_bits 13 = .ok (.ishr, 1) := by decide +kernel
theorem dX8_bits_14 : decode cX8_bits 14 = .ok (.iconst 1, 1) := by decide +kernel
theorem dX8_bits_15 : decode cX8_bits 15 = .ok (.iand, 1) := by decide +kernel
theorem dX8_bits_16 : decode cX8_bits 16 = .ok (.iadd, 1) := by decide +kernel
theorem dX8_bits_17 : decode cX8_bits 17 = .ok (.istore_n 1, 1) := by decide +kernel
theorem dX8_bits_18 : decode cX8_bits 18 = .ok (.iinc 2 1, 3) := by decide +kernel
theorem dX8_bits_21 : decode cX8_bits 21 = .ok (.goto (-17), 3) := by decide +kernel
theorem dX8_bits_24 : decode cX8_bits 24 = .ok (.iload_n 1, 1) := by decide +kernel
theorem dX8_bits_25 : decode cX8_bits 25 = .ok (.ireturn, 1) := by decide +kernel
theorem dX8_has_0 : decode cX8_has 0 = .ok (.iload_n 0, 1) := by decide +kernel
theorem dX8_has_1 : decode cX8_has 1 = .ok (.iload_n 1, 1) := by decide +kernel
theorem dX8_has_2 : decode cX8_has 2 = .ok (.ishr, 1) := by decide +kernel
theorem dX8_has_3 : decode cX8_has 3 = .ok (.iconst 1, 1) := by decide +kernel
theorem dX8_has_4 : decode cX8_has 4 = .ok (.iand, 1) := by decide +kernel
theorem dX8_has_5 : decode cX8_has 5 = .ok (.iconst 1, 1) := by decide +kernel
theorem dX8_has_6 : decode cX8_has 6 = .ok (.if_icmp .ne 7, 3) := by decide +kernel
theorem dX8_has_9 : decode cX8_has 9 = .ok (.iconst 1, 1) := by decide +kernel
theorem dX8_has_10 : decode cX8_has 10 = .ok (.goto 4, 3) := by decide +kernel
theorem dX8_has_13 : decode cX8_has 13 = .ok (.iconst 0, 1) := by decide +kernel
theorem dX8_has_14 : decode cX8_has 14 = .ok (.ireturn, 1) := by decide +kernel
theorem dX8_of_0 : decode cX8_of 0 = .ok (.aload_n 0, 1) := by decide +kernel
theorem dX8_of_1 : decode cX8_of 1 = .ok (.bipush 17, 2) := by decide +kernel
theorem dX8_of_3 : decode cX8_of 3 = .ok (.iconst 4, 1) := by decide +kernel
theorem dX8_of_4 : decode cX8_of 4 = .ok (.iload_n 1, 1) := by decide +kernel
theorem dX8_of_5 : decode cX8_of 5 = .ok (.imul, 1) := by decide +kernel
theorem dX8_of_6 : decode cX8_of 6 = .ok (.iadd, 1) := by decide +kernel
theorem dX8_of_7 : decode cX8_of 7 = .ok (.iload_n 2, 1) := by decide +kernel
theorem dX8_of_8 : decode cX8_of 8 = .ok (.iadd, 1) := by decide +kernel
theorem dX8_of_9 : decode cX8_of 9 = .ok (.iaload, 1) := by decide +kernel
theorem dX8_of_10 : decode cX8_of 10 = .ok (.ireturn, 1) := by decide +kernel
theorem dX8_its_0 : decode cX8_its 0 = .ok (.aload_n 0, 1) := by decide +kernel
theorem dX8_its_1 : decode cX8_its 1 = .ok (.iconst 5, 1) := by decide +kernel
theorem dX8_its_2 : decode cX8_its 2 = .ok (.iconst 3, 1) := by decide +kernel
theorem dX8_its_3 : decode cX8_its 3 = .ok (.iload_n 1, 1) := by decide +kernel
theorem dX8_its_4 : decode cX8_its 4 = .ok (.imul, 1) := by decide +kernel
theorem dX8_its_5 : decode cX8_its 5 = .ok (.iadd, 1) := by decide +kernel
theorem dX8_its_6 : decode cX8_its 6 = .ok (.iload_n 2, 1) := by decide +kernel
theorem dX8_its_7 : decode cX8_its 7 = .ok (.iadd, 1) := by decide +kernel
theorem dX8_its_8 : decode cX8_its 8 = .ok (.iaload, 1) := by decide +kernel
theorem dX8_its_9 : decode cX8_its 9 = .ok (.ireturn, 1) := by decide +kernel
theorem dX8_isOut_0 : decode cX8_isOut 0 = .ok (.aload_n 0, 1) := by decide +kernel
theorem dX8_isOut_1 : decode cX8_isOut 1 = .ok (.iload_n 1, 1) := by decide +kernel
theorem dX8_isOut_2 : decode cX8_isOut 2 = .ok (.iconst 0, 1) := by decide +kernel
theorem dX8_isOut_3 : decode cX8_isOut 3 = .ok (.invokestatic 160, 3) := by decide +kernel
theorem dX8_isOut_6 : decode cX8_isOut 6 = .ok (.iconst 1, 1) := by decide +kernel
theorem dX8_isOut_7 : decode cX8_isOut 7 = .ok (.if_icmp .ne 7, 3) := by decide +kernel
theorem dX8_isOut_10 : decode cX8_isOut 10 = .ok (.iconst 1, 1) := by decide +kernel
theorem dX8_isOut_11 : decode cX8_isOut 11 = .ok (.goto 4, 3) := by decide +kernel
theorem dX8_isOut_14 : decode cX8_isOut 14 = .ok (.iconst 0, 1) := by decide +kernel
theorem dX8_isOut_15 : decode cX8_isOut 15 = .ok (.ireturn, 1) := by decide +kernel
theorem dX8_isDone_0 : decode cX8_isDone 0 = .ok (.aload_n 0, 1) := by decide +kernel
theorem dX8_isDone_1 : decode cX8_isDone 1 = .ok (.iload_n 1, 1) := by decide +kernel
theorem dX8_isDone_2 : decode cX8_isDone 2 = .ok (.invokestatic 164, 3) := by decide +kernel
theorem dX8_isDone_5 : decode cX8_isDone 5 = .ok (.ifCond .eq 22, 3) := by decide +kernel
theorem dX8_isDone_8 : decode cX8_isDone 8 = .ok (.aload_n 0, 1) := by decide +kernel
theorem dX8_isDone_9 : decode cX8_isDone 9 = .ok (.iload_n 1, 1) := by decide +kernel
theorem dX8_isDone_10 : decode cX8_isDone 10 = .ok (.iconst 1, 1) := by decide +kernel
theorem dX8_isDone_11 : decode cX8_isDone 11 = .ok (.invokestatic 160, 3) := by decide +kernel
theorem dX8_isDone_14 : decode cX8_isDone 14 = .ok (.aload_n 0, 1) := by decide +kernel
theorem dX8_isDone_15 : decode cX8_isDone 15 = .ok (.iload_n 1, 1) := by decide +kernel
theorem dX8_isDone_16 : decode cX8_isDone 16 = .ok (.iconst 2, 1) := by decide +kernel
theorem dX8_isDone_17 : decode cX8_isDone 17 = .ok (.invokestatic 160, 3) := by decide +kernel
theorem dX8_isDone_20 : decode cX8_isDone 20 = .ok (.if_icmp .ne 7, 3) := by decide +kernel
theorem dX8_isDone_23 : decode cX8_isDone 23 = .ok (.iconst 1, 1) := by decide +kernel
theorem dX8_isDone_24 : decode cX8_isDone 24 = .ok (.goto 4, 3) := by decide +kernel
theorem dX8_isDone_27 : decode cX8_isDone 27 = .ok (.iconst 0, 1) := by decide +kernel
theorem dX8_isDone_28 : decode cX8_isDone 28 = .ok (.ireturn, 1) := by decide +kernel
theorem dX8_place_0 : decode cX8_place 0 = .ok (.aload_n 0, 1) := by decide +kernel
theorem dX8_place_1 : decode cX8_place 1 = .ok (.iload_n 1, 1) := by decide +kernel
theorem dX8_place_2 : decode cX8_place 2 = .ok (.iconst 1, 1) := by decide +kernel
theorem dX8_place_3 : decode cX8_place 3 = .ok (.invokestatic 168, 3) := by decide +kernel
theorem dX8_place_6 : decode cX8_place 6 = .ok (.istore_n 3, 1) := by decide +kernel
theorem dX8_place_7 : decode cX8_place 7 = .ok (.aload_n 0, 1) := by decide +kernel
theorem dX8_place_8 : decode cX8_place 8 = .ok (.iload_n 1, 1) := by decide +kernel
theorem dX8_place_9 : decode cX8_place 9 = .ok (.iconst 2, 1) := by decide +kernel
theorem dX8_place_10 : decode cX8_place 10 = .ok (.invokestatic 168, 3) := by decide +kernel
theorem dX8_place_13 : decode cX8_place 13 = .ok (.istore 4, 2) := by decide +kernel
theorem dX8_place_15 : decode cX8_place 15 = .ok (.aload_n 0, 1) := by decide +kernel
theorem dX8_place_16 : decode cX8_place 16 = .ok (.iconst 4, 1) := by decide +kernel
theorem dX8_place_17 : decode cX8_place 17 = .ok (.iaload, 1) := by decide +kernel
theorem dX8_place_18 : decode cX8_place 18 = .ok (.iload_n 1, 1) := by decide +kernel
theorem dX8_place_19 : decode cX8_place 19 = .ok (.invokestatic 171, 3) := by decide +kernel
theorem dX8_place_22 : decode cX8_place 22 = .ok (.ifCond .eq 5, 3) := by decide +kernel
theorem dX8_place_25 : decode cX8_place 25 = .ok (.iload_n 3, 1) := by decide +kernel
theorem dX8_place_26 : decode cX8_place 26 = .ok (.ireturn, 1) := by decide +kernel
theorem dX8_place_27 : decode cX8_place 27 = .ok (.aload_n 0, 1) := by decide +kernel
theorem dX8_place_28 : decode cX8_place 28 = .ok (.iload_n 1, 1) := by decide +kernel
theorem dX8_place_29 : decode cX8_place 29 = .ok (.iconst 0, 1) := by decide +kernel
theorem dX8_place_30 : decode cX8_place 30 = .ok (.invokestatic 168, 3) := by decide +kernel
theorem dX8_place_33 : decode cX8_place 33 = .ok (.istore 5, 2) := by decide +kernel
theorem dX8_place_35 : decode cX8_place 35 = .ok (.iload_n 2, 1) := by decide +kernel
theorem dX8_place_36 : decode cX8_place 36 = .ok (.aload_n 0, 1) := by decide +kernel
theorem dX8_place_37 : decode cX8_place 37 = .ok (.iconst 1, 1) := by decide +kernel
theorem dX8_place_38 : decode cX8_place 38 = .ok (.iaload, 1) := by decide +kernel
theorem dX8_place_39 : decode cX8_place 39 = .ok (.irem, 1) := by decide +kernel
theorem dX8_place_40 : decode cX8_place 40 = .ok (.istore 6, 2) := by decide +kernel
theorem dX8_place_42 : decode cX8_place 42 = .ok (.iload_n 2, 1) := by decide +kernel
theorem dX8_place_43 : decode cX8_place 43 = .ok (.aload_n 0, 1) := by decide +kernel
theorem dX8_place_44 : decode cX8_place 44 = .ok (.iconst 1, 1) := by decide +kernel
theorem dX8_place_45 : decode cX8_place 45 = .ok (.iaload, 1) := by decide +kernel
theorem dX8_place_46 : decode cX8_place 46 = .ok (.idiv, 1) := by decide +kernel
theorem dX8_place_47 : decode cX8_place 47 = .ok (.istore 7, 2) := by decide +kernel
theorem dX8_place_49 : decode cX8_place 49 = .ok (.iload 6, 2) := by decide +kernel
theorem dX8_place_51 : decode cX8_place 51 = .ok (.aload_n 0, 1) := by decide +kernel
theorem dX8_place_52 : decode cX8_place 52 = .ok (.iload_n 1, 1) := by decide +kernel
theorem dX8_place_53 : decode cX8_place 53 = .ok (.iconst 3, 1) := by decide +kernel
theorem dX8_place_54 : decode cX8_place 54 = .ok (.invokestatic 168, 3) := by decide +kernel
theorem dX8_place_57 : decode cX8_place 57 = .ok (.if_icmp .le 15, 3) := by decide +kernel
theorem dX8_place_60 : decode cX8_place 60 = .ok (.iload 6, 2) := by decide +kernel
theorem dX8_place_62 : decode cX8_place 62 = .ok (.aload_n 0, 1) := by decide +kernel
theorem dX8_place_63 : decode cX8_place 63 = .ok (.iload_n 1, 1) := by decide +kernel
theorem dX8_place_64 : decode cX8_place 64 = .ok (.iconst 3, 1) := by decide +kernel
theorem dX8_place_65 : decode cX8_place 65 = .ok (.invokestatic 168, 3) := by decide +kernel
theorem dX8_place_68 : decode cX8_place 68 = .ok (.isub, 1) := by decide +kernel
theorem dX8_place_69 : decode cX8_place 69 = .ok (.goto 4, 3) := by decide +kernel
theorem dX8_place_72 : decode cX8_place 72 = .ok (.iconst 0, 1) := by decide +kernel
theorem dX8_place_73 : decode cX8_place 73 = .ok (.istore 8, 2) := by decide +kernel
theorem dX8_place_75 : decode cX8_place 75 = .ok (.iload 5, 2) := by decide +kernel
theorem dX8_place_77 : decode cX8_place 77 = .ok (.iconst 3, 1) := by decide +kernel
theorem dX8_place_78 : decode cX8_place 78 = .ok (.if_icmp .ne 10, 3) := by decide +kernel
theorem dX8_place_81 : decode cX8_place 81 = .ok (.iload 8, 2) := by decide +kernel
theorem dX8_place_83 : decode cX8_place 83 = .ok (.iconst 2, 1) := by decide +kernel
theorem dX8_place_84 : decode cX8_place 84 = .ok (.idiv, 1) := by decide +kernel
theorem dX8_place_85 : decode cX8_place 85 = .ok (.goto 36, 3) := by decide +kernel
theorem dX8_place_88 : decode cX8_place 88 = .ok (.iload 5, 2) := by decide +kernel
theorem dX8_place_90 : decode cX8_place 90 = .ok (.iconst 4, 1) := by decide +kernel
theorem dX8_place_91 : decode cX8_place 91 = .ok (.if_icmp .lt 15, 3) := by decide +kernel
theorem dX8_place_94 : decode cX8_place 94 = .ok (.iload 7, 2) := by decide +kernel
theorem dX8_place_96 : decode cX8_place 96 = .ok (.iconst 2, 1) := by decide +kernel
theorem dX8_place_97 : decode cX8_place 97 = .ok (.irem, 1) := by decide +kernel
theorem dX8_place_98 : decode cX8_place 98 = .ok (.iconst 1, 1) := by decide +kernel
theorem dX8_place_99 : decode cX8_place 99 = .ok (.if_icmp .ne 7, 3) := by decide +kernel
theorem dX8_place_102 : decode cX8_place 102 = .ok (.iconst 0, 1) := by decide +kernel
theorem dX8_place_103 : decode cX8_place 103 = .ok (.goto 18, 3) := by decide +kernel
theorem dX8_place_106 : decode cX8_place 106 = .ok (.iload 5, 2) := by decide +kernel
theorem dX8_place_108 : decode cX8_place 108 = .ok (.iconst 5, 1) := by decide +kernel
theorem dX8_place_109 : decode cX8_place 109 = .ok (.if_icmp .ne 10, 3) := by decide +kernel
theorem dX8_place_112 : decode cX8_place 112 = .ok (.iconst 2, 1) := by decide +kernel
theorem dX8_place_113 : decode cX8_place 113 = .ok (.iload 8, 2) := by decide +kernel
theorem dX8_place_115 : decode cX8_place 115 = .ok (.imul, 1) := by decide +kernel
theorem dX8_place_116 : decode cX8_place 116 = .ok (.goto 5, 3) := by decide +kernel
theorem dX8_place_119 : decode cX8_place 119 = .ok (.iload 8, 2) := by decide +kernel
theorem dX8_place_121 : decode cX8_place 121 = .ok (.istore 8, 2) := by decide +kernel
theorem dX8_place_123 : decode cX8_place 123 = .ok (.iload 4, 2) := by decide +kernel
theorem dX8_place_125 : decode cX8_place 125 = .ok (.iload_n 3, 1) := by decide +kernel
theorem dX8_place_126 : decode cX8_place 126 = .ok (.if_icmp .le 10, 3) := by decide +kernel
theorem dX8_place_129 : decode cX8_place 129 = .ok (.iload 4, 2) := by decide +kernel
theorem dX8_place_131 : decode cX8_place 131 = .ok (.iload_n 3, 1) := by decide +kernel
theorem dX8_place_132 : decode cX8_place 132 = .ok (.isub, 1) := by decide +kernel
theorem dX8_place_133 : decode cX8_place 133 = .ok (.goto 7, 3) := by decide +kernel
theorem dX8_place_136 : decode cX8_place 136 = .ok (.iload_n 3, 1) := by decide +kernel
theorem dX8_place_137 : decode cX8_place 137 = .ok (.iload 4, 2) := by decide +kernel
theorem dX8_place_139 : decode cX8_place 139 = .ok (.isub, 1) := by decide +kernel
theorem dX8_place_140 : decode cX8_place 140 = .ok (.istore 9, 2) := by decide +kernel
theorem dX8_place_142 : decode cX8_place 142 = .ok (.iload 8, 2) := by decide +kernel
theorem dX8_place_144 : decode cX8_place 144 = .ok (.iload 9, 2) := by decide +kernel
theorem dX8_place_146 : decode cX8_place 146 = .ok (.if_icmp .le 8, 3) := by decide +kernel
theorem dX8_place_149 : decode cX8_place 149 = .ok (.iload 9, 2) := by decide +kernel
theorem dX8_place_151 : decode cX8_place 151 = .ok (.goto 5, 3) := by decide +kernel
theorem dX8_place_154 : decode cX8_place 154 = .ok (.iload 8, 2) := by decide +kernel
theorem dX8_place_156 : decode cX8_place 156 = .ok (.istore 8, 2) := by decide +kernel
theorem dX8_place_158 : decode cX8_place 158 = .ok (.iload 4, 2) := by decide +kernel
theorem dX8_place_160 : decode cX8_place 160 = .ok (.iload_n 3, 1) := by decide +kernel
theorem dX8_place_161 : decode cX8_place 161 = .ok (.if_icmp .le 10, 3) := by decide +kernel
theorem dX8_place_164 : decode cX8_place 164 = .ok (.iload_n 3, 1) := by decide +kernel
theorem dX8_place_165 : decode cX8_place 165 = .ok (.iload 8, 2) := by decide +kernel
theorem dX8_place_167 : decode cX8_place 167 = .ok (.iadd, 1) := by decide +kernel
theorem dX8_place_168 : decode cX8_place 168 = .ok (.goto 7, 3) := by decide +kernel
theorem dX8_place_171 : decode cX8_place 171 = .ok (.iload_n 3, 1) := by decide +kernel
theorem dX8_place_172 : decode cX8_place 172 = .ok (.iload 8, 2) := by decide +kernel
theorem dX8_place_174 : decode cX8_place 174 = .ok (.isub, 1) := by decide +kernel
theorem dX8_place_175 : decode cX8_place 175 = .ok (.ireturn, 1) := by decide +kernel
theorem dX8_findCarriers_0 : decode cX8_findCarriers 0 = .ok (.iconst 0, 1) := by decide +kernel
theorem dX8_findCarriers_1 : decode cX8_findCarriers 1 = .ok (.istore_n 2, 1) := by decide +kernel
theorem dX8_findCarriers_2 : decode cX8_findCarriers 2 = .ok (.iload_n 2, 1) := by decide +kernel
theorem dX8_findCarriers_3 : decode cX8_findCarriers 3 = .ok (.bipush 6, 2) := by decide +kernel
theorem dX8_findCarriers_5 : decode cX8_findCarriers 5 = .ok (.if_icmp .ge 16, 3) := by decide +kernel
theorem dX8_findCarriers_8 : decode cX8_findCarriers 8 = .ok (.aload_n 0, 1) := by decide +kernel
theorem dX8_findCarriers_9 : decode cX8_findCarriers 9 = .ok (.getfield 37, 3) := by decide +kernel
theorem dX8_findCarriers_12 : decode cX8_findCarriers 12 = .ok (.iload_n 2, 1) := by decide +kernel
theorem dX8_findCarriers_13 : decode cX8_findCarriers 13 = .ok (.iconst 0, 1) := by decide +kernel
theorem dX8_findCarriers_14 : decode cX8_findCarriers 14 = .ok (.iastore, 1) := by decide +kernel
theorem dX8_findCarriers_15 : decode cX8_findCarriers 15 = .ok (.iinc 2 1, 3) := by decide +kernel
theorem dX8_findCarriers_18 : decode cX8_findCarriers 18 = .ok (.goto (-16), 3) := by decide +kernel
theorem dX8_findCarriers_21 : decode cX8_findCarriers 21 = .ok (.iconst 0, 1) := by decide +kernel
theorem dX8_findCarriers_22 : decode cX8_findCarriers 22 = .ok (.istore_n 2, 1) := by decide +kernel
theorem dX8_findCarriers_23 : decode cX8_findCarriers 23 = .ok (.iload_n 2, 1) := by decide +kernel
theorem dX8_findCarriers_24 : decode cX8_findCarriers 24 = .ok (.iconst 4, 1) := by decide +kernel
theorem dX8_findCarriers_25 : decode cX8_findCarriers 25 = .ok (.if_icmp .ge 195, 3) := by decide +kernel
theorem dX8_findCarriers_28 : decode cX8_findCarriers 28 = .ok (.aload_n 0, 1) := by decide +kernel
theorem dX8_findCarriers_29 : decode cX8_findCarriers 29 = .ok (.getfield 34, 3) := by decide +kernel
theorem dX8_findCarriers_32 : decode cX8_findCarriers 32 = .ok (.iload_n 2, 1) := by decide +kernel
theorem dX8_findCarriers_33 : decode cX8_findCarriers 33 = .ok (.ldc 96, 2) := by decide +kernel
theorem dX8_findCarriers_35 : decode cX8_findCarriers 35 = .ok (.iastore, 1) := by decide +kernel
theorem dX8_findCarriers_36 : decode cX8_findCarriers 36 = .ok (.aload_n 1, 1) := by decide +kernel
theorem dX8_findCarriers_37 : decode cX8_findCarriers 37 = .ok (.iload_n 2, 1) := by decide +kernel
theorem dX8_findCarriers_38 : decode cX8_findCarriers 38 = .ok (.iconst 1, 1) := by decide +kernel
theorem dX8_findCarriers_39 : decode cX8_findCarriers 39 = .ok (.invokestatic 160, 3) := by decide +kernel
theorem dX8_findCarriers_42 : decode cX8_findCarriers 42 = .ok (.istore_n 3, 1) := by decide +kernel
theorem dX8_findCarriers_43 : decode cX8_findCarriers 43 = .ok (.aload_n 1, 1) := by decide +kernel
theorem dX8_findCarriers_44 : decode cX8_findCarriers 44 = .ok (.iload_n 2, 1) := by decide +kernel
theorem dX8_findCarriers_45 : decode cX8_findCarriers 45 = .ok (.iconst 2, 1) := by decide +kernel
theorem dX8_findCarriers_46 : decode cX8_findCarriers 46 = .ok (.invokestatic 160, 3) := by decide +kernel
theorem dX8_findCarriers_49 : decode cX8_findCarriers 49 = .ok (.istore 4, 2) := by decide +kernel
theorem dX8_findCarriers_51 : decode cX8_findCarriers 51 = .ok (.iconst 0, 1) := by decide +kernel
theorem dX8_findCarriers_52 : decode cX8_findCarriers 52 = .ok (.istore 5, 2) := by decide +kernel
theorem dX8_findCarriers_54 : decode cX8_findCarriers 54 = .ok (.iload 5, 2) := by decide +kernel
theorem dX8_findCarriers_56 : decode cX8_findCarriers 56 = .ok (.aload_n 1, 1) := by decide +kernel
theorem dX8_findCarriers_57 : decode cX8_findCarriers 57 = .ok (.iconst 2, 1) := by decide +kernel
theorem dX8_findCarriers_58 : decode cX8_findCarriers 58 = .ok (.iaload, 1) := by decide +kernel
theorem dX8_findCarriers_59 : decode cX8_findCarriers 59 = .ok (.if_icmp .ge 155, 3) := by decide +kernel
theorem dX8_findCarriers_62 : decode cX8_findCarriers 62 = .ok (.aload_n 1, 1) := by decide +kernel
theorem dX8_findCarriers_63 : decode cX8_findCarriers 63 = .ok (.iload_n 2, 1) := by decide +kernel
theorem dX8_findCarriers_64 : decode cX8_findCarriers 64 = .ok (.invokestatic 164, 3) := by decide +kernel
theorem dX8_findCarriers_67 : decode cX8_findCarriers 67 = .ok (.ifCond .eq 147, 3) := by decide +kernel
theorem dX8_findCarriers_70 : decode cX8_findCarriers 70 = .ok (.iload_n 3, 1) := by decide +kernel
theorem dX8_findCarriers_71 : decode cX8_findCarriers 71 = .ok (.iload 4, 2) := by decide +kernel
theorem dX8_findCarriers_73 : decode cX8_findCarriers 73 = .ok (.if_icmp .eq 141, 3) := by decide +kernel
theorem dX8_findCarriers_76 : decode cX8_findCarriers 76 = .ok (.aload_n 0, 1) := by decide +kernel
theorem dX8_findCarriers_77 : decode cX8_findCarriers 77 = .ok (.getfield 34, 3) := by decide +kernel
theorem dX8_findCarriers_80 : decode cX8_findCarriers 80 = .ok (.iload_n 2, 1) := by decide +kernel
theorem dX8_findCarriers_81 : decode cX8_findCarriers 81 = .ok (.iaload, 1) := by decide +kernel
theorem dX8_findCarriers_82 : decode cX8_findCarriers 82 = .ok (.ldc 96, 2) := by decide +kernel
theorem dX8_findCarriers_84 : decode cX8_findCarriers 84 = .ok (.if_icmp .ne 130, 3) := by decide +kernel
theorem dX8_findCarriers_87 : decode cX8_findCarriers 87 = .ok (.aload_n 1, 1) := by decide +kernel
theorem dX8_findCarriers_88 : decode cX8_findCarriers 88 = .ok (.iload 5, 2) := by decide +kernel
theorem dX8_findCarriers_90 : decode cX8_findCarriers 90 = .ok (.aload_n 1, 1) := by decide +kernel
theorem dX8_findCarriers_91 : decode cX8_findCarriers 91 = .ok (.iconst 3, 1) := by decide +kernel
theorem dX8_findCarriers_92 : decode cX8_findCarriers 92 = .ok (.iaload, 1) := by decide +kernel
theorem dX8_findCarriers_93 : decode cX8_findCarriers 93 = .ok (.iconst 1, 1) := by decide +kernel
theorem dX8_findCarriers_94 : decode cX8_findCarriers 94 = .ok (.iadd, 1) := by decide +kernel
theorem dX8_findCarriers_95 : decode cX8_findCarriers 95 = .ok (.invokestatic 175, 3) := by decide +kernel
theorem dX8_findCarriers_98 : decode cX8_findCarriers 98 = .ok (.istore 6, 2) := by decide +kernel
theorem dX8_findCarriers_100 : decode cX8_findCarriers 100 = .ok (.iload 4, 2) := by decide +kernel
theorem dX8_findCarriers_102 : decode cX8_findCarriers 102 = .ok (.iload_n 3, 1) := by decide +kernel
theorem dX8_findCarriers_103 : decode cX8_findCarriers 103 = .ok (.if_icmp .le 17, 3) := by decide +kernel
theorem dX8_findCarriers_106 : decode cX8_findCarriers 106 = .ok (.iload 6, 2) := by decide +kernel
theorem dX8_findCarriers_108 : decode cX8_findCarriers 108 = .ok (.iload_n 3, 1) := by decide +kernel
theorem dX8_findCarriers_109 : decode cX8_findCarriers 109 = .ok (.if_icmp .le 7, 3) := by decide +kernel
theorem dX8_findCarriers_112 : decode cX8_findCarriers 112 = .ok (.iconst 1, 1) := by decide +kernel
theorem dX8_findCarriers_113 : decode cX8_findCarriers 113 = .ok (.goto 18, 3) := by decide +kernel
theorem dX8_findCarriers_116 : decode cX8_findCarriers 116 = .ok (.iconst 0, 1) := by decide +kernel
theorem dX8_findCarriers_117 : decode cX8_findCarriers 117 = .ok (.goto 14, 3) := by decide +kernel
theorem dX8_findCarriers_120 : decode cX8_findCarriers 120 = .ok (.iload 6, 2) := by decide +kernel
theorem dX8_findCarriers_122 : decode cX8_findCarriers 122 = .ok (.iload_n 3, 1) := by decide +kernel
theorem dX8_findCarriers_123 : decode cX8_findCarriers 123 = .ok (.if_icmp .ge 7, 3) := by decide +kernel
theorem dX8_findCarriers_126 : decode cX8_findCarriers 126 = .ok (.iconst 1, 1) := by decide +kernel
theorem dX8_findCarriers_127 : decode cX8_findCarriers 127 = .ok (.goto 4, 3) := by decide +kernel
theorem dX8_findCarriers_130 : decode cX8_findCarriers 130 = .ok (.iconst 0, 1) := by decide +kernel
theorem dX8_findCarriers_131 : decode cX8_findCarriers 131 = .ok (.istore 7, 2) := by decide +kernel
theorem dX8_findCarriers_133 : decode cX8_findCarriers 133 = .ok (.aload_n 0, 1) := by decide +kernel
theorem dX8_findCarriers_134 : decode cX8_findCarriers 134 = .ok (.getfield 37, 3) := by decide +kernel
theorem dX8_findCarriers_137 : decode cX8_findCarriers 137 = .ok (.iload 5, 2) := by decide +kernel
theorem dX8_findCarriers_139 : decode cX8_findCarriers 139 = .ok (.iaload, 1) := by decide +kernel
theorem dX8_findCarriers_140 : decode cX8_findCarriers 140 = .ok (.aload_n 1, 1) := by decide +kernel
theorem dX8_findCarriers_141 : decode cX8_findCarriers 141 = .ok (.iload 5, 2) := by decide +kernel
theorem dX8_findCarriers_143 : decode cX8_findCarriers 143 = .ok (.iconst 0, 1) := by decide +kernel
theorem dX8_findCarriers_144 : decode cX8_findCarriers 144 = .ok (.invokestatic 168, 3) := by decide +kernel
theorem dX8_findCarriers_147 : decode cX8_findCarriers 147 = .ok (.iconst 2, 1) := by decide +kernel
theorem dX8_findCarriers_148 : decode cX8_findCarriers 148 = .ok (.if_icmp .ne 7, 3) := by decide +kernel
theorem dX8_findCarriers_151 : decode cX8_findCarriers 151 = .ok (.iconst 2, 1) := by decide +kernel
theorem dX8_findCarriers_152 : decode cX8_findCarriers 152 = .ok (.goto 4, 3) := by decide +kernel
theorem dX8_findCarriers_155 : decode cX8_findCarriers 155 = .ok (.iconst 1, 1) := by decide +kernel
theorem dX8_findCarriers_156 : decode cX8_findCarriers 156 = .ok (.if_icmp .ge 7, 3) := by decide +kernel
theorem dX8_findCarriers_159 : decode cX8_findCarriers 159 = .ok (.iconst 1, 1) := by decide +kernel
theorem dX8_findCarriers_160 : decode cX8_findCarriers 160 = .ok (.goto 4, 3) := by decide +kernel
theorem dX8_findCarriers_163 : decode cX8_findCarriers 163 = .ok (.iconst 0, 1) := by decide +kernel
theorem dX8_findCarriers_164 : decode cX8_findCarriers 164 = .ok (.istore 8, 2) := by decide +kernel
theorem dX8_findCarriers_166 : decode cX8_findCarriers 166 = .ok (.aload_n 1, 1) := by decide +kernel
theorem dX8_findCarriers_167 : decode cX8_findCarriers 167 = .ok (.iload 5, 2) := by decide +kernel
theorem dX8_findCarriers_169 : decode cX8_findCarriers 169 = .ok (.aload_n 1, 1) := by decide +kernel
theorem dX8_findCarriers_170 : decode cX8_findCarriers 170 = .ok (.iconst 3, 1) := by decide +kernel
theorem dX8_findCarriers_171 : decode cX8_findCarriers 171 = .ok (.iaload, 1) := by decide +kernel
theorem dX8_findCarriers_172 : decode cX8_findCarriers 172 = .ok (.invokestatic 175, 3) := by decide +kernel
theorem dX8_findCarriers_175 : decode cX8_findCarriers 175 = .ok (.iload_n 3, 1) := by decide +kernel
theorem dX8_findCarriers_176 : decode cX8_findCarriers 176 = .ok (.if_icmp .ne 32, 3) := by decide +kernel
theorem dX8_findCarriers_179 : decode cX8_findCarriers 179 = .ok (.iload 7, 2) := by decide +kernel
theorem dX8_findCarriers_181 : decode cX8_findCarriers 181 = .ok (.ifCond .eq 27, 3) := by decide +kernel
theorem dX8_findCarriers_184 : decode cX8_findCarriers 184 = .ok (.iload 8, 2) := by decide +kernel
theorem dX8_findCarriers_186 : decode cX8_findCarriers 186 = .ok (.ifCond .eq 22, 3) := by decide +kernel
theorem dX8_findCarriers_189 : decode cX8_findCarriers 189 = .ok (.aload_n 0, 1) := by decide +kernel
theorem dX8_findCarriers_190 : decode cX8_findCarriers 190 = .ok (.getfield 34, 3) := by decide +kernel
theorem dX8_findCarriers_193 : decode cX8_findCarriers 193 = .ok (.iload_n 2, 1) := by decide +kernel
theorem dX8_findCarriers_194 : decode cX8_findCarriers 194 = .ok (.iload 5, 2) := by decide +kernel
theorem dX8_findCarriers_196 : decode cX8_findCarriers 196 = .ok (.iastore, 1) := by decide +kernel
theorem dX8_findCarriers_197 : decode cX8_findCarriers 197 = .ok (.aload_n 0, 1) := by decide +kernel
theorem dX8_findCarriers_198 : decode cX8_findCarriers 198 = .ok (.getfield 37, 3) := by decide +kernel
theorem dX8_findCarriers_201 : decode cX8_findCarriers 201 = .ok (.iload 5, 2) := by decide +kernel
theorem dX8_findCarriers_203 : decode cX8_findCarriers 203 = .ok (.dup2, 1) := by decide +kernel
theorem dX8_findCarriers_204 : decode cX8_findCarriers 204 = .ok (.iaload, 1) := by decide +kernel
theorem dX8_findCarriers_205 : decode cX8_findCarriers 205 = .ok (.iconst 1, 1) := by decide +kernel
theorem dX8_findCarriers_206 : decode cX8_findCarriers 206 = .ok (.iadd, 1) := by decide +kernel
theorem dX8_findCarriers_207 : decode cX8_findCarriers 207 = .ok (.iastore, 1) := by decide +kernel
theorem dX8_findCarriers_208 : decode cX8_findCarriers 208 = .ok (.iinc 5 1, 3) := by decide +kernel
theorem dX8_findCarriers_211 : decode cX8_findCarriers 211 = .ok (.goto (-157), 3) := by decide +kernel
theorem dX8_findCarriers_214 : decode cX8_findCarriers 214 = .ok (.iinc 2 1, 3) := by decide +kernel
theorem dX8_findCarriers_217 : decode cX8_findCarriers 217 = .ok (.goto (-194), 3) := by decide +kernel
theorem dX8_findCarriers_220 : decode cX8_findCarriers 220 = .ok (.return_, 1) := by decide +kernel
theorem dX8_hour_0 : decode cX8_hour 0 = .ok (.iconst 0, 1) := by decide +kernel
theorem dX8_hour_1 : decode cX8_hour 1 = .ok (.istore_n 2, 1) := by decide +kernel
theorem dX8_hour_2 : decode cX8_hour 2 = .ok (.aload_n 0, 1) := by decide +kernel
theorem dX8_hour_3 : decode cX8_hour 3 = .ok (.aload_n 1, 1) := by decide +kernel
theorem dX8_hour_4 : decode cX8_hour 4 = .ok (.invokevirtual 178, 3) := by decide +kernel
theorem dX8_hour_7 : decode cX8_hour 7 = .ok (.iconst 0, 1) := by decide +kernel
theorem dX8_hour_8 : decode cX8_hour 8 = .ok (.istore_n 3, 1) := by decide +kernel
theorem dX8_hour_9 : decode cX8_hour 9 = .ok (.iload_n 3, 1) := by decide +kernel
theorem dX8_hour_10 : decode cX8_hour 10 = .ok (.iconst 4, 1) := by decide +kernel
theorem dX8_hour_11 : decode cX8_hour 11 = .ok (.if_icmp .ge 113, 3) := by decide +kernel
theorem dX8_hour_14 : decode cX8_hour 14 = .ok (.aload_n 0, 1) := by decide +kernel
theorem dX8_hour_15 : decode cX8_hour 15 = .ok (.getfield 34, 3) := by decide +kernel
theorem dX8_hour_18 : decode cX8_hour 18 = .ok (.iload_n 3, 1) := by decide +kernel
theorem dX8_hour_19 : decode cX8_hour 19 = .ok (.iaload, 1) := by decide +kernel
theorem dX8_hour_20 : decode cX8_hour 20 = .ok (.ldc 96, 2) := by decide +kernel
theorem dX8_hour_22 : decode cX8_hour 22 = .ok (.if_icmp .eq 96, 3) := by decide +kernel
theorem dX8_hour_25 : decode cX8_hour 25 = .ok (.aload_n 1, 1) := by decide +kernel
theorem dX8_hour_26 : decode cX8_hour 26 = .ok (.iload_n 3, 1) := by decide +kernel
theorem dX8_hour_27 : decode cX8_hour 27 = .ok (.iconst 1, 1) := by decide +kernel
theorem dX8_hour_28 : decode cX8_hour 28 = .ok (.invokestatic 160, 3) := by decide +kernel
theorem dX8_hour_31 : decode cX8_hour 31 = .ok (.istore 4, 2) := by decide +kernel
theorem dX8_hour_33 : decode cX8_hour 33 = .ok (.aload_n 1, 1) := by decide +kernel
theorem dX8_hour_34 : decode cX8_hour 34 = .ok (.iload_n 3, 1) := by decide +kernel
theorem dX8_hour_35 : decode cX8_hour 35 = .ok (.iconst 2, 1) := by decide +kernel
theorem dX8_hour_36 : decode cX8_hour 36 = .ok (.invokestatic 160, 3) := by decide +kernel
theorem dX8_hour_39 : decode cX8_hour 39 = .ok (.istore 5, 2) := by decide +kernel
theorem dX8_hour_41 : decode cX8_hour 41 = .ok (.aload_n 1, 1) := by decide +kernel
theorem dX8_hour_42 : decode cX8_hour 42 = .ok (.aload_n 0, 1) := by decide +kernel
theorem dX8_hour_43 : decode cX8_hour 43 = .ok (.getfield 34, 3) := by decide +kernel
theorem dX8_hour_46 : decode cX8_hour 46 = .ok (.iload_n 3, 1) := by decide +kernel
theorem dX8_hour_47 : decode cX8_hour 47 = .ok (.iaload, 1) := by decide +kernel
theorem dX8_hour_48 : decode cX8_hour 48 = .ok (.aload_n 1, 1) := by decide +kernel
theorem dX8_hour_49 : decode cX8_hour 49 = .ok (.iconst 3, 1) := by decide +kernel
theorem dX8_hour_50 : decode cX8_hour 50 = .ok (.iaload, 1) := by decide +kernel
theorem dX8_hour_51 : decode cX8_hour 51 = .ok (.iconst 1, 1) := by decide +kernel
theorem dX8_hour_52 : decode cX8_hour 52 = .ok (.iadd, 1) := by decide +kernel
theorem dX8_hour_53 : decode cX8_hour 53 = .ok (.invokestatic 175, 3) := by decide +kernel
theorem dX8_hour_56 : decode cX8_hour 56 = .ok (.istore 6, 2) := by decide +kernel
theorem dX8_hour_58 : decode cX8_hour 58 = .ok (.iload 5, 2) := by decide +kernel
theorem dX8_hour_60 : decode cX8_hour 60 = .ok (.iload 4, 2) := by decide +kernel
theorem dX8_hour_62 : decode cX8_hour 62 = .ok (.if_icmp .le 18, 3) := by decide +kernel
theorem dX8_hour_65 : decode cX8_hour 65 = .ok (.iload 6, 2) := by decide +kernel
theorem dX8_hour_67 : decode cX8_hour 67 = .ok (.iload 5, 2) := by decide +kernel
theorem dX8_hour_69 : decode cX8_hour 69 = .ok (.if_icmp .le 7, 3) := by decide +kernel
theorem dX8_hour_72 : decode cX8_hour 72 = .ok (.iconst 1, 1) := by decide +kernel
theorem dX8_hour_73 : decode cX8_hour 73 = .ok (.goto 19, 3) := by decide +kernel
theorem dX8_hour_76 : decode cX8_hour 76 = .ok (.iconst 0, 1) := by decide +kernel
theorem dX8_hour_77 : decode cX8_hour 77 = .ok (.goto 15, 3) := by decide +kernel
theorem dX8_hour_80 : decode cX8_hour 80 = .ok (.iload 6, 2) := by decide +kernel
theorem dX8_hour_82 : decode cX8_hour 82 = .ok (.iload 5, 2) := by decide +kernel
theorem dX8_hour_84 : decode cX8_hour 84 = .ok (.if_icmp .ge 7, 3) := by decide +kernel
theorem dX8_hour_87 : decode cX8_hour 87 = .ok (.iconst 1, 1) := by decide +kernel
theorem dX8_hour_88 : decode cX8_hour 88 = .ok (.goto 4, 3) := by decide +kernel
theorem dX8_hour_91 : decode cX8_hour 91 = .ok (.iconst 0, 1) := by decide +kernel
theorem dX8_hour_92 : decode cX8_hour 92 = .ok (.istore 7, 2) := by decide +kernel
theorem dX8_hour_94 : decode cX8_hour 94 = .ok (.aload_n 1, 1) := by decide +kernel
theorem dX8_hour_95 : decode cX8_hour 95 = .ok (.iconst 5, 1) := by decide +kernel
theorem dX8_hour_96 : decode cX8_hour 96 = .ok (.iconst 3, 1) := by decide +kernel
theorem dX8_hour_97 : decode cX8_hour 97 = .ok (.iload_n 3, 1) := by decide +kernel
theorem dX8_hour_98 : decode cX8_hour 98 = .ok (.imul, 1) := by decide +kernel
theorem dX8_hour_99 : decode cX8_hour 99 = .ok (.iadd, 1) := by decide +kernel
theorem dX8_hour_100 : decode cX8_hour 100 = .ok (.iconst 1, 1) := by decide +kernel
theorem dX8_hour_101 : decode cX8_hour 101 = .ok (.iadd, 1) := by decide +kernel
theorem dX8_hour_102 : decode cX8_hour 102 = .ok (.iload 7, 2) := by decide +kernel
theorem dX8_hour_104 : decode cX8_hour 104 = .ok (.ifCond .eq 8, 3) := by decide +kernel
theorem dX8_hour_107 : decode cX8_hour 107 = .ok (.iload 5, 2) := by decide +kernel
theorem dX8_hour_109 : decode cX8_hour 109 = .ok (.goto 5, 3) := by decide +kernel
theorem dX8_hour_112 : decode cX8_hour 112 = .ok (.iload 6, 2) := by decide +kernel
theorem dX8_hour_114 : decode cX8_hour 114 = .ok (.iastore, 1) := by decide +kernel
theorem dX8_hour_115 : decode cX8_hour 115 = .ok (.iinc 2 1, 3) := by decide +kernel
theorem dX8_hour_118 : decode cX8_hour 118 = .ok (.iinc 3 1, 3) := by decide +kernel
theorem dX8_hour_121 : decode cX8_hour 121 = .ok (.goto (-112), 3) := by decide +kernel
theorem dX8_hour_124 : decode cX8_hour 124 = .ok (.aload_n 1, 1) := by decide +kernel
theorem dX8_hour_125 : decode cX8_hour 125 = .ok (.iconst 3, 1) := by decide +kernel
theorem dX8_hour_126 : decode cX8_hour 126 = .ok (.dup2, 1) := by decide +kernel
theorem dX8_hour_127 : decode cX8_hour 127 = .ok (.iaload, 1) := by decide +kernel
theorem dX8_hour_128 : decode cX8_hour 128 = .ok (.iconst 1, 1) := by decide +kernel
theorem dX8_hour_129 : decode cX8_hour 129 = .ok (.iadd, 1) := by decide +kernel
theorem dX8_hour_130 : decode cX8_hour 130 = .ok (.iastore, 1) := by decide +kernel
theorem dX8_hour_131 : decode cX8_hour 131 = .ok (.iload_n 2, 1) := by decide +kernel
theorem dX8_hour_132 : decode cX8_hour 132 = .ok (.ireturn, 1) := by decide +kernel
theorem dX8_hoursOf_0 : decode cX8_hoursOf 0 = .ok (.iconst 0, 1) := by decide +kernel
theorem dX8_hoursOf_1 : decode cX8_hoursOf 1 = .ok (.istore_n 3, 1) := by decide +kernel
theorem dX8_hoursOf_2 : decode cX8_hoursOf 2 = .ok (.iload_n 3, 1) := by decide +kernel
theorem dX8_hoursOf_3 : decode cX8_hoursOf 3 = .ok (.iload_n 2, 1) := by decide +kernel
theorem dX8_hoursOf_4 : decode cX8_hoursOf 4 = .ok (.if_icmp .ge 16, 3) := by decide +kernel
theorem dX8_hoursOf_7 : decode cX8_hoursOf 7 = .ok (.aload_n 0, 1) := by decide +kernel
theorem dX8_hoursOf_8 : decode cX8_hoursOf 8 = .ok (.aload_n 1, 1) := by decide +kernel
theorem dX8_hoursOf_9 : decode cX8_hoursOf 9 = .ok (.invokevirtual 182, 3) := by decide +kernel
theorem dX8_hoursOf_12 : decode cX8_hoursOf 12 = .ok (.istore 4, 2) := by decide +kernel
theorem dX8_hoursOf_14 : decode cX8_hoursOf 14 = .ok (.iinc 3 1, 3) := by decide +kernel
theorem dX8_hoursOf_17 : decode cX8_hoursOf 17 = .ok (.goto (-15), 3) := by decide +kernel
theorem dX8_hoursOf_20 : decode cX8_hoursOf 20 = .ok (.return_, 1) := by decide +kernel
theorem dX8_posts_0 : decode cX8_posts 0 = .ok (.aload_n 0, 1) := by decide +kernel
theorem dX8_posts_1 : decode cX8_posts 1 = .ok (.iconst 5, 1) := by decide +kernel
theorem dX8_posts_2 : decode cX8_posts 2 = .ok (.iconst 3, 1) := by decide +kernel
theorem dX8_posts_3 : decode cX8_posts 3 = .ok (.iload_n 1, 1) := by decide +kernel
theorem dX8_posts_4 : decode cX8_posts 4 = .ok (.imul, 1) := by decide +kernel
theorem dX8_posts_5 : decode cX8_posts 5 = .ok (.iadd, 1) := by decide +kernel
theorem dX8_posts_6 : decode cX8_posts 6 = .ok (.iconst 1, 1) := by decide +kernel
theorem dX8_posts_7 : decode cX8_posts 7 = .ok (.iastore, 1) := by decide +kernel
theorem dX8_posts_8 : decode cX8_posts 8 = .ok (.aload_n 0, 1) := by decide +kernel
theorem dX8_posts_9 : decode cX8_posts 9 = .ok (.iconst 5, 1) := by decide +kernel
theorem dX8_posts_10 : decode cX8_posts 10 = .ok (.iconst 3, 1) := by decide +kernel
theorem dX8_posts_11 : decode cX8_posts 11 = .ok (.iload_n 1, 1) := by decide +kernel
theorem dX8_posts_12 : decode cX8_posts 12 = .ok (.imul, 1) := by decide +kernel
theorem dX8_posts_13 : decode cX8_posts 13 = .ok (.iadd, 1) := by decide +kernel
theorem dX8_posts_14 : decode cX8_posts 14 = .ok (.iconst 1, 1) := by decide +kernel
theorem dX8_posts_15 : decode cX8_posts 15 = .ok (.iadd, 1) := by decide +kernel
theorem dX8_posts_16 : decode cX8_posts 16 = .ok (.iload_n 2, 1) := by decide +kernel
theorem dX8_posts_17 : decode cX8_posts 17 = .ok (.iastore, 1) := by decide +kernel
theorem dX8_posts_18 : decode cX8_posts 18 = .ok (.aload_n 0, 1) := by decide +kernel
theorem dX8_posts_19 : decode cX8_posts 19 = .ok (.iconst 5, 1) := by decide +kernel
theorem dX8_posts_20 : decode cX8_posts 20 = .ok (.iconst 3, 1) := by decide +kernel
theorem dX8_posts_21 : decode cX8_posts 21 = .ok (.iload_n 1, 1) := by decide +kernel
theorem dX8_posts_22 : decode cX8_posts 22 = .ok (.imul, 1) := by decide +kernel
theorem dX8_posts_23 : decode cX8_posts 23 = .ok (.iadd, 1) := by decide +kernel
theorem dX8_posts_24 : decode cX8_posts 24 = .ok (.iconst 2, 1) := by decide +kernel
theorem dX8_posts_25 : decode cX8_posts 25 = .ok (.iadd, 1) := by decide +kernel
theorem dX8_posts_26 : decode cX8_posts 26 = .ok (.iload_n 3, 1) := by decide +kernel
theorem dX8_posts_27 : decode cX8_posts 27 = .ok (.iastore, 1) := by decide +kernel
theorem dX8_posts_28 : decode cX8_posts 28 = .ok (.return_, 1) := by decide +kernel
theorem dX8_outs_0 : decode cX8_outs 0 = .ok (.iconst 0, 1) := by decide +kernel
theorem dX8_outs_1 : decode cX8_outs 1 = .ok (.istore_n 1, 1) := by decide +kernel
theorem dX8_outs_2 : decode cX8_outs 2 = .ok (.iconst 0, 1) := by decide +kernel
theorem dX8_outs_3 : decode cX8_outs 3 = .ok (.istore_n 2, 1) := by decide +kernel
theorem dX8_outs_4 : decode cX8_outs 4 = .ok (.iload_n 2, 1) := by decide +kernel
theorem dX8_outs_5 : decode cX8_outs 5 = .ok (.iconst 4, 1) := by decide +kernel
theorem dX8_outs_6 : decode cX8_outs 6 = .ok (.if_icmp .ge 27, 3) := by decide +kernel
theorem dX8_outs_9 : decode cX8_outs 9 = .ok (.iload_n 1, 1) := by decide +kernel
theorem dX8_outs_10 : decode cX8_outs 10 = .ok (.aload_n 0, 1) := by decide +kernel
theorem dX8_outs_11 : decode cX8_outs 11 = .ok (.iload_n 2, 1) := by decide +kernel
theorem dX8_outs_12 : decode cX8_outs 12 = .ok (.invokestatic 164, 3) := by decide +kernel
theorem dX8_outs_15 : decode cX8_outs 15 = .ok (.ifCond .eq 9, 3) := by decide +kernel
theorem dX8_outs_18 : decode cX8_outs 18 = .ok (.iconst 1, 1) := by decide +kernel
theorem dX8_outs_19 : decode cX8_outs 19 = .ok (.iload_n 2, 1) := by decide +kernel
theorem dX8_outs_20 : decode cX8_outs 20 = .ok (.ishl, 1) := by decide +kernel
theorem dX8_outs_21 : decode cX8_outs 21 = .ok (.goto 4, 3) := by decide +kernel
theorem dX8_outs_24 : decode cX8_outs 24 = .ok (.iconst 0, 1) := by decide +kernel
theorem dX8_outs_25 : decode cX8_outs 25 = .ok (.ior, 1) := by decide +kernel
theorem dX8_outs_26 : decode cX8_outs 26 = .ok (.istore_n 1, 1) := by decide +kernel
theorem dX8_outs_27 : decode cX8_outs 27 = .ok (.iinc 2 1, 3) := by decide +kernel
theorem dX8_outs_30 : decode cX8_outs 30 = .ok (.goto (-26), 3) := by decide +kernel
theorem dX8_outs_33 : decode cX8_outs 33 = .ok (.iload_n 1, 1) := by decide +kernel
theorem dX8_outs_34 : decode cX8_outs 34 = .ok (.ireturn, 1) := by decide +kernel
theorem dX8_dones_0 : decode cX8_dones 0 = .ok (.iconst 0, 1) := by decide +kernel
theorem dX8_dones_1 : decode cX8_dones 1 = .ok (.istore_n 1, 1) := by decide +kernel
theorem dX8_dones_2 : decode cX8_dones 2 = .ok (.iconst 0, 1) := by decide +kernel
theorem dX8_dones_3 : decode cX8_dones 3 = .ok (.istore_n 2, 1) := by decide +kernel
theorem dX8_dones_4 : decode cX8_dones 4 = .ok (.iload_n 2, 1) := by decide +kernel
theorem dX8_dones_5 : decode cX8_dones 5 = .ok (.iconst 4, 1) := by decide +kernel
theorem dX8_dones_6 : decode cX8_dones 6 = .ok (.if_icmp .ge 27, 3) := by decide +kernel
theorem dX8_dones_9 : decode cX8_dones 9 = .ok (.iload_n 1, 1) := by decide +kernel
theorem dX8_dones_10 : decode cX8_dones 10 = .ok (.aload_n 0, 1) := by decide +kernel
theorem dX8_dones_11 : decode cX8_dones 11 = .ok (.iload_n 2, 1) := by decide +kernel
theorem dX8_dones_12 : decode cX8_dones 12 = .ok (.invokestatic 186, 3) := by decide +kernel
theorem dX8_dones_15 : decode cX8_dones 15 = .ok (.ifCond .eq 9, 3) := by decide +kernel
theorem dX8_dones_18 : decode cX8_dones 18 = .ok (.iconst 1, 1) := by decide +kernel
theorem dX8_dones_19 : decode cX8_dones 19 = .ok (.iload_n 2, 1) := by decide +kernel
theorem dX8_dones_20 : decode cX8_dones 20 = .ok (.ishl, 1) := by decide +kernel
theorem dX8_dones_21 : decode cX8_dones 21 = .ok (.goto 4, 3) := by decide +kernel
theorem dX8_dones_24 : decode cX8_dones 24 = .ok (.iconst 0, 1) := by decide +kernel
theorem dX8_dones_25 : decode cX8_dones 25 = .ok (.ior, 1) := by decide +kernel
theorem dX8_dones_26 : decode cX8_dones 26 = .ok (.istore_n 1, 1) := by decide +kernel
theorem dX8_dones_27 : decode cX8_dones 27 = .ok (.iinc 2 1, 3) := by decide +kernel
theorem dX8_dones_30 : decode cX8_dones 30 = .ok (.goto (-26), 3) := by decide +kernel
theorem dX8_dones_33 : decode cX8_dones 33 = .ok (.iload_n 1, 1) := by decide +kernel
theorem dX8_dones_34 : decode cX8_dones 34 = .ok (.ireturn, 1) := by decide +kernel
theorem dX8_layThen_0 : decode cX8_layThen 0 = .ok (.iconst 0, 1) := by decide +kernel
theorem dX8_layThen_1 : decode cX8_layThen 1 = .ok (.istore_n 1, 1) := by decide +kernel
theorem dX8_layThen_2 : decode cX8_layThen 2 = .ok (.iload_n 1, 1) := by decide +kernel
theorem dX8_layThen_3 : decode cX8_layThen 3 = .ok (.bipush 41, 2) := by decide +kernel
theorem dX8_layThen_5 : decode cX8_layThen 5 = .ok (.if_icmp .ge 21, 3) := by decide +kernel
theorem dX8_layThen_8 : decode cX8_layThen 8 = .ok (.aload_n 0, 1) := by decide +kernel
theorem dX8_layThen_9 : decode cX8_layThen 9 = .ok (.getfield 25, 3) := by decide +kernel
theorem dX8_layThen_12 : decode cX8_layThen 12 = .ok (.iload_n 1, 1) := by decide +kernel
theorem dX8_layThen_13 : decode cX8_layThen 13 = .ok (.aload_n 0, 1) := by decide +kernel
theorem dX8_layThen_14 : decode cX8_layThen 14 = .ok (.getfield 19, 3) := by decide +kernel
theorem dX8_layThen_17 : decode cX8_layThen 17 = .ok (.iload_n 1, 1) := by decide +kernel
theorem dX8_layThen_18 : decode cX8_layThen 18 = .ok (.iaload, 1) := by decide +kernel
theorem dX8_layThen_19 : decode cX8_layThen 19 = .ok (.iastore, 1) := by decide +kernel
theorem dX8_layThen_20 : decode cX8_layThen 20 = .ok (.iinc 1 1, 3) := by decide +kernel
theorem dX8_layThen_23 : decode cX8_layThen 23 = .ok (.goto (-21), 3) := by decide +kernel
theorem dX8_layThen_26 : decode cX8_layThen 26 = .ok (.return_, 1) := by decide +kernel
theorem dX8_doneBy_0 : decode cX8_doneBy 0 = .ok (.iconst 0, 1) := by decide +kernel
theorem dX8_doneBy_1 : decode cX8_doneBy 1 = .ok (.istore_n 3, 1) := by decide +kernel
theorem dX8_doneBy_2 : decode cX8_doneBy 2 = .ok (.iload_n 3, 1) := by decide +kernel
theorem dX8_doneBy_3 : decode cX8_doneBy 3 = .ok (.iload_n 2, 1) := by decide +kernel
theorem dX8_doneBy_4 : decode cX8_doneBy 4 = .ok (.if_icmp .gt 32, 3) := by decide +kernel
theorem dX8_doneBy_7 : decode cX8_doneBy 7 = .ok (.aload_n 0, 1) := by decide +kernel
theorem dX8_doneBy_8 : decode cX8_doneBy 8 = .ok (.getfield 25, 3) := by decide +kernel
theorem dX8_doneBy_11 : decode cX8_doneBy 11 = .ok (.iload_n 1, 1) := by decide +kernel
theorem dX8_doneBy_12 : decode cX8_doneBy 12 = .ok (.invokestatic 186, 3) := by decide +kernel
theorem dX8_doneBy_15 : decode cX8_doneBy 15 = .ok (.ifCond .eq 5, 3) := by decide +kernel
theorem dX8_doneBy_18 : decode cX8_doneBy 18 = .ok (.iload_n 3, 1) := by decide +kernel
theorem dX8_doneBy_19 : decode cX8_doneBy 19 = .ok (.ireturn, 1) := by decide +kernel
theorem dX8_doneBy_20 : decode cX8_doneBy 20 = .ok (.aload_n 0, 1) := by decide +kernel
theorem dX8_doneBy_21 : decode cX8_doneBy 21 = .ok (.aload_n 0, 1) := by decide +kernel
theorem dX8_doneBy_22 : decode cX8_doneBy 22 = .ok (.getfield 25, 3) := by decide +kernel
theorem dX8_doneBy_25 : decode cX8_doneBy 25 = .ok (.invokevirtual 182, 3) := by decide +kernel
theorem dX8_doneBy_28 : decode cX8_doneBy 28 = .ok (.istore 4, 2) := by decide +kernel
theorem dX8_doneBy_30 : decode cX8_doneBy 30 = .ok (.iinc 3 1, 3) := by decide +kernel
theorem dX8_doneBy_33 : decode cX8_doneBy 33 = .ok (.goto (-31), 3) := by decide +kernel
theorem dX8_doneBy_36 : decode cX8_doneBy 36 = .ok (.ldc 96, 2) := by decide +kernel
theorem dX8_doneBy_38 : decode cX8_doneBy 38 = .ok (.ireturn, 1) := by decide +kernel
theorem dX8_keep_0 : decode cX8_keep 0 = .ok (.aload_n 0, 1) := by decide +kernel
theorem dX8_keep_1 : decode cX8_keep 1 = .ok (.getfield 152, 3) := by decide +kernel
theorem dX8_keep_4 : decode cX8_keep 4 = .ok (.bipush 24, 2) := by decide +kernel
theorem dX8_keep_6 : decode cX8_keep 6 = .ok (.if_icmp .ne 43, 3) := by decide +kernel
theorem dX8_keep_9 : decode cX8_keep 9 = .ok (.iconst 0, 1) := by decide +kernel
theorem dX8_keep_10 : decode cX8_keep 10 = .ok (.istore_n 1, 1) := by decide +kernel
theorem dX8_keep_11 : decode cX8_keep 11 = .ok (.iload_n 1, 1) := by decide +kernel
theorem dX8_keep_12 : decode cX8_keep 12 = .ok (.sipush 943, 3) := by decide +kernel
theorem dX8_keep_15 : decode cX8_keep 15 = .ok (.if_icmp .ge 24, 3) := by decide +kernel
theorem dX8_keep_18 : decode cX8_keep 18 = .ok (.aload_n 0, 1) := by decide +kernel
theorem dX8_keep_19 : decode cX8_keep 19 = .ok (.getfield 28, 3) := by decide +kernel
theorem dX8_keep_22 : decode cX8_keep 22 = .ok (.iload_n 1, 1) := by decide +kernel
theorem dX8_keep_23 : decode cX8_keep 23 = .ok (.aload_n 0, 1) := by decide +kernel
theorem dX8_keep_24 : decode cX8_keep 24 = .ok (.getfield 28, 3) := by decide +kernel
theorem dX8_keep_27 : decode cX8_keep 27 = .ok (.iload_n 1, 1) := by decide +kernel
theorem dX8_keep_28 : decode cX8_keep 28 = .ok (.bipush 41, 2) := by decide +kernel
theorem dX8_keep_30 : decode cX8_keep 30 = .ok (.iadd, 1) := by decide +kernel
theorem dX8_keep_31 : decode cX8_keep 31 = .ok (.iaload, 1) := by decide +kernel
theorem dX8_keep_32 : decode cX8_keep 32 = .ok (.iastore, 1) := by decide +kernel
theorem dX8_keep_33 : decode cX8_keep 33 = .ok (.iinc 1 1, 3) := by decide +kernel
theorem dX8_keep_36 : decode cX8_keep 36 = .ok (.goto (-25), 3) := by decide +kernel
theorem dX8_keep_39 : decode cX8_keep 39 = .ok (.aload_n 0, 1) := by decide +kernel
theorem dX8_keep_40 : decode cX8_keep 40 = .ok (.dup, 1) := by decide +kernel
theorem dX8_keep_41 : decode cX8_keep 41 = .ok (.getfield 152, 3) := by decide +kernel
theorem dX8_keep_44 : decode cX8_keep 44 = .ok (.iconst 1, 1) := by decide +kernel
theorem dX8_keep_45 : decode cX8_keep 45 = .ok (.isub, 1) := by decide +kernel
theorem dX8_keep_46 : decode cX8_keep 46 = .ok (.putfield 152, 3) := by decide +kernel
theorem dX8_keep_49 : decode cX8_keep 49 = .ok (.iconst 0, 1) := by decide +kernel
theorem dX8_keep_50 : decode cX8_keep 50 = .ok (.istore_n 1, 1) := by decide +kernel
theorem dX8_keep_51 : decode cX8_keep 51 = .ok (.iload_n 1, 1) := by decide +kernel
theorem dX8_keep_52 : decode cX8_keep 52 = .ok (.bipush 41, 2) := by decide +kernel
theorem dX8_keep_54 : decode cX8_keep 54 = .ok (.if_icmp .ge 29, 3) := by decide +kernel
theorem dX8_keep_57 : decode cX8_keep 57 = .ok (.aload_n 0, 1) := by decide +kernel
theorem dX8_keep_58 : decode cX8_keep 58 = .ok (.getfield 28, 3) := by decide +kernel
theorem dX8_keep_61 : decode cX8_keep 61 = .ok (.bipush 41, 2) := by decide +kernel
theorem dX8_keep_63 : decode cX8_keep 63 = .ok (.aload_n 0, 1) := by decide +kernel
theorem dX8_keep_64 : decode cX8_keep 64 = .ok (.getfield 152, 3) := by decide +kernel
theorem dX8_keep_67 : decode cX8_keep 67 = .ok (.imul, 1) := by decide +kernel
theorem dX8_keep_68 : decode cX8_keep 68 = .ok (.iload_n 1, 1) := by decide +kernel
theorem dX8_keep_69 : decode cX8_keep 69 = .ok (.iadd, 1) := by decide +kernel
theorem dX8_keep_70 : decode cX8_keep 70 = .ok (.aload_n 0, 1) := by decide +kernel
theorem dX8_keep_71 : decode cX8_keep 71 = .ok (.getfield 19, 3) := by decide +kernel
theorem dX8_keep_74 : decode cX8_keep 74 = .ok (.iload_n 1, 1) := by decide +kernel
theorem dX8_keep_75 : decode cX8_keep 75 = .ok (.iaload, 1) := by decide +kernel
theorem dX8_keep_76 : decode cX8_keep 76 = .ok (.iastore, 1) := by decide +kernel
theorem dX8_keep_77 : decode cX8_keep 77 = .ok (.iinc 1 1, 3) := by decide +kernel
theorem dX8_keep_80 : decode cX8_keep 80 = .ok (.goto (-29), 3) := by decide +kernel
theorem dX8_keep_83 : decode cX8_keep 83 = .ok (.aload_n 0, 1) := by decide +kernel
theorem dX8_keep_84 : decode cX8_keep 84 = .ok (.dup, 1) := by decide +kernel
theorem dX8_keep_85 : decode cX8_keep 85 = .ok (.getfield 152, 3) := by decide +kernel
theorem dX8_keep_88 : decode cX8_keep 88 = .ok (.iconst 1, 1) := by decide +kernel
theorem dX8_keep_89 : decode cX8_keep 89 = .ok (.iadd, 1) := by decide +kernel
theorem dX8_keep_90 : decode cX8_keep 90 = .ok (.putfield 152, 3) := by decide +kernel
theorem dX8_keep_93 : decode cX8_keep 93 = .ok (.return_, 1) := by decide +kernel
theorem dX8_hours_0 : decode cX8_hours 0 = .ok (.aload_n 0, 1) := by decide +kernel
theorem dX8_hours_1 : decode cX8_hours 1 = .ok (.iconst 0, 1) := by decide +kernel
theorem dX8_hours_2 : decode cX8_hours 2 = .ok (.putfield 53, 3) := by decide +kernel
theorem dX8_hours_5 : decode cX8_hours 5 = .ok (.aload_n 0, 1) := by decide +kernel
theorem dX8_hours_6 : decode cX8_hours 6 = .ok (.invokevirtual 155, 3) := by decide +kernel
theorem dX8_hours_9 : decode cX8_hours 9 = .ok (.ifCond .ne 6, 3) := by decide +kernel
theorem dX8_hours_12 : decode cX8_hours 12 = .ok (.ldc 189, 2) := by decide +kernel
theorem dX8_hours_14 : decode cX8_hours 14 = .ok (.ireturn, 1) := by decide +kernel
theorem dX8_hours_15 : decode cX8_hours 15 = .ok (.iload_n 1, 1) := by decide +kernel
theorem dX8_hours_16 : decode cX8_hours 16 = .ok (.i2l, 1) := by decide +kernel
theorem dX8_hours_17 : decode cX8_hours 17 = .ok (.lconst 1, 1) := by decide +kernel
theorem dX8_hours_18 : decode cX8_hours 18 = .ok (.ldc2_w 190, 3) := by decide +kernel
theorem dX8_hours_21 : decode cX8_hours 21 = .ok (.invokestatic 63, 3) := by decide +kernel
theorem dX8_hours_24 : decode cX8_hours 24 = .ok (.ifCond .ne 6, 3) := by decide +kernel
theorem dX8_hours_27 : decode cX8_hours 27 = .ok (.ldc 73, 2) := by decide +kernel
theorem dX8_hours_29 : decode cX8_hours 29 = .ok (.ireturn, 1) := by decide +kernel
theorem dX8_hours_30 : decode cX8_hours 30 = .ok (.aload_n 0, 1) := by decide +kernel
theorem dX8_hours_31 : decode cX8_hours 31 = .ok (.getfield 19, 3) := by decide +kernel
theorem dX8_hours_34 : decode cX8_hours 34 = .ok (.iconst 3, 1) := by decide +kernel
theorem dX8_hours_35 : decode cX8_hours 35 = .ok (.iaload, 1) := by decide +kernel
theorem dX8_hours_36 : decode cX8_hours 36 = .ok (.iload_n 1, 1) := by decide +kernel
theorem dX8_hours_37 : decode cX8_hours 37 = .ok (.iadd, 1) := by decide +kernel
theorem dX8_hours_38 : decode cX8_hours 38 = .ok (.sipush 999, 3) := by decide +kernel
theorem dX8_hours_41 : decode cX8_hours 41 = .ok (.if_icmp .le 6, 3) := by decide +kernel
theorem dX8_hours_44 : decode cX8_hours 44 = .ok (.ldc 83, 2) := by decide +kernel
theorem dX8_hours_46 : decode cX8_hours 46 = .ok (.ireturn, 1) := by decide +kernel
theorem dX8_hours_47 : decode cX8_hours 47 = .ok (.iconst 0, 1) := by decide +kernel
theorem dX8_hours_48 : decode cX8_hours 48 = .ok (.istore_n 2, 1) := by decide +kernel
theorem dX8_hours_49 : decode cX8_hours 49 = .ok (.iload_n 2, 1) := by decide +kernel
theorem dX8_hours_50 : decode cX8_hours 50 = .ok (.iload_n 1, 1) := by decide +kernel
theorem dX8_hours_51 : decode cX8_hours 51 = .ok (.if_icmp .ge 22, 3) := by decide +kernel
theorem dX8_hours_54 : decode cX8_hours 54 = .ok (.aload_n 0, 1) := by decide +kernel
theorem dX8_hours_55 : decode cX8_hours 55 = .ok (.invokevirtual 192, 3) := by decide +kernel
theorem dX8_hours_58 : decode cX8_hours 58 = .ok (.aload_n 0, 1) := by decide +kernel
theorem dX8_hours_59 : decode cX8_hours 59 = .ok (.aload_n 0, 1) := by decide +kernel
theorem dX8_hours_60 : decode cX8_hours 60 = .ok (.getfield 19, 3) := by decide +kernel
theorem dX8_hours_63 : decode cX8_hours 63 = .ok (.invokevirtual 182, 3) := by decide +kernel
theorem dX8_hours_66 : decode cX8_hours 66 = .ok (.istore_n 3, 1) := by decide +kernel
theorem dX8_hours_67 : decode cX8_hours 67 = .ok (.iinc 2 1, 3) := by decide +kernel
theorem dX8_hours_70 : decode cX8_hours 70 = .ok (.goto (-21), 3) := by decide +kernel
theorem dX8_hours_73 : decode cX8_hours 73 = .ok (.aload_n 0, 1) := by decide +kernel
theorem dX8_hours_74 : decode cX8_hours 74 = .ok (.getfield 19, 3) := by decide +kernel
theorem dX8_hours_77 : decode cX8_hours 77 = .ok (.invokestatic 195, 3) := by decide +kernel
theorem dX8_hours_80 : decode cX8_hours 80 = .ok (.ireturn, 1) := by decide +kernel
theorem dX8_post_0 : decode cX8_post 0 = .ok (.aload_n 0, 1) := by decide +kernel
theorem dX8_post_1 : decode cX8_post 1 = .ok (.iconst 0, 1) := by decide +kernel
theorem dX8_post_2 : decode cX8_post 2 = .ok (.putfield 53, 3) := by decide +kernel
theorem dX8_post_5 : decode cX8_post 5 = .ok (.aload_n 0, 1) := by decide +kernel
theorem dX8_post_6 : decode cX8_post 6 = .ok (.iload_n 1, 1) := by decide +kernel
theorem dX8_post_7 : decode cX8_post 7 = .ok (.invokevirtual 198, 3) := by decide +kernel
theorem dX8_post_10 : decode cX8_post 10 = .ok (.ifCond .eq 19, 3) := by decide +kernel
theorem dX8_post_13 : decode cX8_post 13 = .ok (.aload_n 0, 1) := by decide +kernel
theorem dX8_post_14 : decode cX8_post 14 = .ok (.iload_n 2, 1) := by decide +kernel
theorem dX8_post_15 : decode cX8_post 15 = .ok (.invokevirtual 201, 3) := by decide +kernel
theorem dX8_post_18 : decode cX8_post 18 = .ok (.ifCond .eq 11, 3) := by decide +kernel
theorem dX8_post_21 : decode cX8_post 21 = .ok (.aload_n 0, 1) := by decide +kernel
theorem dX8_post_22 : decode cX8_post 22 = .ok (.iload_n 3, 1) := by decide +kernel
theorem dX8_post_23 : decode cX8_post 23 = .ok (.invokevirtual 201, 3) := by decide +kernel
theorem dX8_post_26 : decode cX8_post 26 = .ok (.ifCond .ne 6, 3) := by decide +kernel
theorem dX8_post_29 : decode cX8_post 29 = .ok (.ldc 73, 2) := by decide +kernel
theorem dX8_post_31 : decode cX8_post 31 = .ok (.ireturn, 1) := by decide +kernel
theorem dX8_post_32 : decode cX8_post 32 = .ok (.aload_n 0, 1) := by decide +kernel
theorem dX8_post_33 : decode cX8_post 33 = .ok (.invokevirtual 192, 3) := by decide +kernel
theorem dX8_post_36 : decode cX8_post 36 = .ok (.aload_n 0, 1) := by decide +kernel
theorem dX8_post_37 : decode cX8_post 37 = .ok (.getfield 19, 3) := by decide +kernel
theorem dX8_post_40 : decode cX8_post 40 = .ok (.iload_n 1, 1) := by decide +kernel
theorem dX8_post_41 : decode cX8_post 41 = .ok (.iload_n 2, 1) := by decide +kernel
theorem dX8_post_42 : decode cX8_post 42 = .ok (.iload_n 3, 1) := by decide +kernel
theorem dX8_post_43 : decode cX8_post 43 = .ok (.invokestatic 204, 3) := by decide +kernel
theorem dX8_post_46 : decode cX8_post 46 = .ok (.aload_n 0, 1) := by decide +kernel
theorem dX8_post_47 : decode cX8_post 47 = .ok (.getfield 19, 3) := by decide +kernel
theorem dX8_post_50 : decode cX8_post 50 = .ok (.invokestatic 208, 3) := by decide +kernel
theorem dX8_post_53 : decode cX8_post 53 = .ok (.ireturn, 1) := by decide +kernel
theorem dX8_callBack_0 : decode cX8_callBack 0 = .ok (.aload_n 0, 1) := by decide +kernel
theorem dX8_callBack_1 : decode cX8_callBack 1 = .ok (.iconst 0, 1) := by decide +kernel
theorem dX8_callBack_2 : decode cX8_callBack 2 = .ok (.putfield 53, 3) := by decide +kernel
theorem dX8_callBack_5 : decode cX8_callBack 5 = .ok (.aload_n 0, 1) := by decide +kernel
theorem dX8_callBack_6 : decode cX8_callBack 6 = .ok (.iload_n 1, 1) := by decide +kernel
theorem dX8_callBack_7 : decode cX8_callBack 7 = .ok (.invokevirtual 198, 3) := by decide +kernel
theorem dX8_callBack_10 : decode cX8_callBack 10 = .ok (.ifCond .ne 6, 3) := by decide +kernel
theorem dX8_callBack_13 : decode cX8_callBack 13 = .ok (.ldc 73, 2) := by decide +kernel
theorem dX8_callBack_15 : decode cX8_callBack 15 = .ok (.ireturn, 1) := by decide +kernel
theorem dX8_callBack_16 : decode cX8_callBack 16 = .ok (.aload_n 0, 1) := by decide +kernel
theorem dX8_callBack_17 : decode cX8_callBack 17 = .ok (.getfield 19, 3) := by decide +kernel
theorem dX8_callBack_20 : decode cX8_callBack 20 = .ok (.iload_n 1, 1) := by decide +kernel
theorem dX8_callBack_21 : decode cX8_callBack 21 = .ok (.invokestatic 164, 3) := by decide +kernel
theorem dX8_callBack_24 : decode cX8_callBack 24 = .ok (.ifCond .ne 6, 3) := by decide +kernel
theorem dX8_callBack_27 : decode cX8_callBack 27 = .ok (.ldc 189, 2) := by decide +kernel
theorem dX8_callBack_29 : decode cX8_callBack 29 = .ok (.ireturn, 1) := by decide +kernel
theorem dX8_callBack_30 : decode cX8_callBack 30 = .ok (.aload_n 0, 1) := by decide +kernel
theorem dX8_callBack_31 : decode cX8_callBack 31 = .ok (.invokevirtual 192, 3) := by decide +kernel
theorem dX8_callBack_34 : decode cX8_callBack 34 = .ok (.aload_n 0, 1) := by decide +kernel
theorem dX8_callBack_35 : decode cX8_callBack 35 = .ok (.getfield 19, 3) := by decide +kernel
theorem dX8_callBack_38 : decode cX8_callBack 38 = .ok (.iload_n 1, 1) := by decide +kernel
theorem dX8_callBack_39 : decode cX8_callBack 39 = .ok (.iconst 1, 1) := by decide +kernel
theorem dX8_callBack_40 : decode cX8_callBack 40 = .ok (.invokestatic 160, 3) := by decide +kernel
theorem dX8_callBack_43 : decode cX8_callBack 43 = .ok (.istore_n 2, 1) := by decide +kernel
theorem dX8_callBack_44 : decode cX8_callBack 44 = .ok (.iconst 0, 1) := by decide +kernel
theorem dX8_callBack_45 : decode cX8_callBack 45 = .ok (.istore_n 3, 1) := by decide +kernel
theorem dX8_callBack_46 : decode cX8_callBack 46 = .ok (.iload_n 3, 1) := by decide +kernel
theorem dX8_callBack_47 : decode cX8_callBack 47 = .ok (.iconst 3, 1) := by decide +kernel
theorem dX8_callBack_48 : decode cX8_callBack 48 = .ok (.if_icmp .ge 22, 3) := by decide +kernel
theorem dX8_callBack_51 : decode cX8_callBack 51 = .ok (.aload_n 0, 1) := by decide +kernel
theorem dX8_callBack_52 : decode cX8_callBack 52 = .ok (.getfield 19, 3) := by decide +kernel
theorem dX8_callBack_55 : decode cX8_callBack 55 = .ok (.iconst 5, 1) := by decide +kernel
theorem dX8_callBack_56 : decode cX8_callBack 56 = .ok (.iconst 3, 1) := by decide +kernel
theorem dX8_callBack_57 : decode cX8_callBack 57 = .ok (.iload_n 1, 1) := by decide +kernel
theorem dX8_callBack_58 : decode cX8_callBack 58 = .ok (.imul, 1) := by decide +kernel
theorem dX8_callBack_59 : decode cX8_callBack 59 = .ok (.iadd, 1) := by decide +kernel
theorem dX8_callBack_60 : decode cX8_callBack 60 = .ok (.iload_n 3, 1) := by decide +kernel
theorem dX8_callBack_61 : decode cX8_callBack 61 = .ok (.iadd, 1) := by decide +kernel
theorem dX8_callBack_62 : decode cX8_callBack 62 = .ok (.iconst 0, 1) := by decide +kernel
theorem dX8_callBack_63 : decode cX8_callBack 63 = .ok (.iastore, 1) := by decide +kernel
theorem dX8_callBack_64 : decode cX8_callBack 64 = .ok (.iinc 3 1, 3) := by decide +kernel
theorem dX8_callBack_67 : decode cX8_callBack 67 = .ok (.goto (-21), 3) := by decide +kernel
theorem dX8_callBack_70 : decode cX8_callBack 70 = .ok (.iload_n 2, 1) := by decide +kernel
theorem dX8_callBack_71 : decode cX8_callBack 71 = .ok (.ireturn, 1) := by decide +kernel
theorem dX8_begin_0 : decode cX8_begin 0 = .ok (.aload_n 0, 1) := by decide +kernel
theorem dX8_begin_1 : decode cX8_begin 1 = .ok (.iconst 0, 1) := by decide +kernel
theorem dX8_begin_2 : decode cX8_begin 2 = .ok (.putfield 53, 3) := by decide +kernel
theorem dX8_begin_5 : decode cX8_begin 5 = .ok (.aload_n 0, 1) := by decide +kernel
theorem dX8_begin_6 : decode cX8_begin 6 = .ok (.iload_n 1, 1) := by decide +kernel
theorem dX8_begin_7 : decode cX8_begin 7 = .ok (.invokevirtual 211, 3) := by decide +kernel
theorem dX8_begin_10 : decode cX8_begin 10 = .ok (.ifCond .eq 15, 3) := by decide +kernel
theorem dX8_begin_13 : decode cX8_begin 13 = .ok (.iload_n 2, 1) := by decide +kernel
theorem dX8_begin_14 : decode cX8_begin 14 = .ok (.i2l, 1) := by decide +kernel
theorem dX8_begin_15 : decode cX8_begin 15 = .ok (.lconst 0, 1) := by decide +kernel
theorem dX8_begin_16 : decode cX8_begin 16 = .ok (.ldc2_w 214, 3) := by decide +kernel
theorem dX8_begin_19 : decode cX8_begin 19 = .ok (.invokestatic 63, 3) := by decide +kernel
theorem dX8_begin_22 : decode cX8_begin 22 = .ok (.ifCond .ne 6, 3) := by decide +kernel
theorem dX8_begin_25 : decode cX8_begin 25 = .ok (.ldc 73, 2) := by decide +kernel
theorem dX8_begin_27 : decode cX8_begin 27 = .ok (.ireturn, 1) := by decide +kernel
theorem dX8_begin_28 : decode cX8_begin 28 = .ok (.aload_n 0, 1) := by decide +kernel
theorem dX8_begin_29 : decode cX8_begin 29 = .ok (.invokevirtual 192, 3) := by decide +kernel
theorem dX8_begin_32 : decode cX8_begin 32 = .ok (.aload_n 0, 1) := by decide +kernel
theorem dX8_begin_33 : decode cX8_begin 33 = .ok (.getfield 19, 3) := by decide +kernel
theorem dX8_begin_36 : decode cX8_begin 36 = .ok (.iload_n 1, 1) := by decide +kernel
theorem dX8_begin_37 : decode cX8_begin 37 = .ok (.iconst 3, 1) := by decide +kernel
theorem dX8_begin_38 : decode cX8_begin 38 = .ok (.invokestatic 168, 3) := by decide +kernel
theorem dX8_begin_41 : decode cX8_begin 41 = .ok (.istore_n 3, 1) := by decide +kernel
theorem dX8_begin_42 : decode cX8_begin 42 = .ok (.aload_n 0, 1) := by decide +kernel
theorem dX8_begin_43 : decode cX8_begin 43 = .ok (.getfield 19, 3) := by decide +kernel
theorem dX8_begin_46 : decode cX8_begin 46 = .ok (.bipush 17, 2) := by decide +kernel
theorem dX8_begin_48 : decode cX8_begin 48 = .ok (.iconst 4, 1) := by decide +kernel
theorem dX8_begin_49 : decode cX8_begin 49 = .ok (.iload_n 1, 1) := by decide +kernel
theorem dX8_begin_50 : decode cX8_begin 50 = .ok (.imul, 1) := by decide +kernel
theorem dX8_begin_51 : decode cX8_begin 51 = .ok (.iadd, 1) := by decide +kernel
theorem dX8_begin_52 : decode cX8_begin 52 = .ok (.iconst 3, 1) := by decide +kernel
theorem dX8_begin_53 : decode cX8_begin 53 = .ok (.iadd, 1) := by decide +kernel
theorem dX8_begin_54 : decode cX8_begin 54 = .ok (.iload_n 2, 1) := by decide +kernel
theorem dX8_begin_55 : decode cX8_begin 55 = .ok (.iastore, 1) := by decide +kernel
theorem dX8_begin_56 : decode cX8_begin 56 = .ok (.iload_n 3, 1) := by decide +kernel
theorem dX8_begin_57 : decode cX8_begin 57 = .ok (.ireturn, 1) := by decide +kernel
theorem dX8_stay_0 : decode cX8_stay 0 = .ok (.aload_n 0, 1) := by decide +kernel
theorem dX8_stay_1 : decode cX8_stay 1 = .ok (.iconst 0, 1) := by decide +kernel
theorem dX8_stay_2 : decode cX8_stay 2 = .ok (.putfield 53, 3) := by decide +kernel
theorem dX8_stay_5 : decode cX8_stay 5 = .ok (.aload_n 0, 1) := by decide +kernel
theorem dX8_stay_6 : decode cX8_stay 6 = .ok (.iload_n 1, 1) := by decide +kernel
theorem dX8_stay_7 : decode cX8_stay 7 = .ok (.invokevirtual 211, 3) := by decide +kernel
theorem dX8_stay_10 : decode cX8_stay 10 = .ok (.ifCond .eq 13, 3) := by decide +kernel
theorem dX8_stay_13 : decode cX8_stay 13 = .ok (.iload_n 2, 1) := by decide +kernel
theorem dX8_stay_14 : decode cX8_stay 14 = .ok (.i2l, 1) := by decide +kernel
theorem dX8_stay_15 : decode cX8_stay 15 = .ok (.lconst 0, 1) := by decide +kernel
theorem dX8_stay_16 : decode cX8_stay 16 = .ok (.lconst 1, 1) := by decide +kernel
theorem dX8_stay_17 : decode cX8_stay 17 = .ok (.invokestatic 63, 3) := by decide +kernel
theorem dX8_stay_20 : decode cX8_stay 20 = .ok (.ifCond .ne 6, 3) := by decide +kernel
theorem dX8_stay_23 : decode cX8_stay 23 = .ok (.ldc 73, 2) := by decide +kernel
theorem dX8_stay_25 : decode cX8_stay 25 = .ok (.ireturn, 1) := by decide +kernel
theorem dX8_stay_26 : decode cX8_stay 26 = .ok (.aload_n 0, 1) := by decide +kernel
theorem dX8_stay_27 : decode cX8_stay 27 = .ok (.getfield 19, 3) := by decide +kernel
theorem dX8_stay_30 : decode cX8_stay 30 = .ok (.iconst 4, 1) := by decide +kernel
theorem dX8_stay_31 : decode cX8_stay 31 = .ok (.iaload, 1) := by decide +kernel
theorem dX8_stay_32 : decode cX8_stay 32 = .ok (.iload_n 1, 1) := by decide +kernel
theorem dX8_stay_33 : decode cX8_stay 33 = .ok (.ishr, 1) := by decide +kernel
theorem dX8_stay_34 : decode cX8_stay 34 = .ok (.iconst 1, 1) := by decide +kernel
theorem dX8_stay_35 : decode cX8_stay 35 = .ok (.iand, 1) := by decide +kernel
theorem dX8_stay_36 : decode cX8_stay 36 = .ok (.iload_n 2, 1) := by decide +kernel
theorem dX8_stay_37 : decode cX8_stay 37 = .ok (.if_icmp .ne 6, 3) := by decide +kernel
theorem dX8_stay_40 : decode cX8_stay 40 = .ok (.ldc 189, 2) := by decide +kernel
theorem dX8_stay_42 : decode cX8_stay 42 = .ok (.ireturn, 1) := by decide +kernel
theorem dX8_stay_43 : decode cX8_stay 43 = .ok (.aload_n 0, 1) := by decide +kernel
theorem dX8_stay_44 : decode cX8_stay 44 = .ok (.invokevirtual 192, 3) := by decide +kernel
theorem dX8_stay_47 : decode cX8_stay 47 = .ok (.aload_n 0, 1) := by decide +kernel
theorem dX8_stay_48 : decode cX8_stay 48 = .ok (.getfield 19, 3) := by decide +kernel
theorem dX8_stay_51 : decode cX8_stay 51 = .ok (.iconst 4, 1) := by decide +kernel
theorem dX8_stay_52 : decode cX8_stay 52 = .ok (.dup2, 1) := by decide +kernel
theorem dX8_stay_53 : decode cX8_stay 53 = .ok (.iaload, 1) := by decide +kernel
theorem dX8_stay_54 : decode cX8_stay 54 = .ok (.iconst 1, 1) := by decide +kernel
theorem dX8_stay_55 : decode cX8_stay 55 = .ok (.iload_n 1, 1) := by decide +kernel
theorem dX8_stay_56 : decode cX8_stay 56 = .ok (.ishl, 1) := by decide +kernel
theorem dX8_stay_57 : decode cX8_stay 57 = .ok (.ixor, 1) := by decide +kernel
theorem dX8_stay_58 : decode cX8_stay 58 = .ok (.iastore, 1) := by decide +kernel
theorem dX8_stay_59 : decode cX8_stay 59 = .ok (.aload_n 0, 1) := by decide +kernel
theorem dX8_stay_60 : decode cX8_stay 60 = .ok (.getfield 19, 3) := by decide +kernel
theorem dX8_stay_63 : decode cX8_stay 63 = .ok (.iconst 4, 1) := by decide +kernel
theorem dX8_stay_64 : decode cX8_stay 64 = .ok (.iaload, 1) := by decide +kernel
theorem dX8_stay_65 : decode cX8_stay 65 = .ok (.ireturn, 1) := by decide +kernel
theorem dX8_undo_0 : decode cX8_undo 0 = .ok (.aload_n 0, 1) := by decide +kernel
theorem dX8_undo_1 : decode cX8_undo 1 = .ok (.iconst 0, 1) := by decide +kernel
theorem dX8_undo_2 : decode cX8_undo 2 = .ok (.putfield 53, 3) := by decide +kernel
theorem dX8_undo_5 : decode cX8_undo 5 = .ok (.aload_n 0, 1) := by decide +kernel
theorem dX8_undo_6 : decode cX8_undo 6 = .ok (.getfield 152, 3) := by decide +kernel
theorem dX8_undo_9 : decode cX8_undo 9 = .ok (.ifCond .ne 6, 3) := by decide +kernel
theorem dX8_undo_12 : decode cX8_undo 12 = .ok (.ldc 189, 2) := by decide +kernel
theorem dX8_undo_14 : decode cX8_undo 14 = .ok (.ireturn, 1) := by decide +kernel
theorem dX8_undo_15 : decode cX8_undo 15 = .ok (.aload_n 0, 1) := by decide +kernel
theorem dX8_undo_16 : decode cX8_undo 16 = .ok (.dup, 1) := by decide +kernel
theorem dX8_undo_17 : decode cX8_undo 17 = .ok (.getfield 152, 3) := by decide +kernel
theorem dX8_undo_20 : decode cX8_undo 20 = .ok (.iconst 1, 1) := by decide +kernel
theorem dX8_undo_21 : decode cX8_undo 21 = .ok (.isub, 1) := by decide +kernel
theorem dX8_undo_22 : decode cX8_undo 22 = .ok (.putfield 152, 3) := by decide +kernel
theorem dX8_undo_25 : decode cX8_undo 25 = .ok (.iconst 0, 1) := by decide +kernel
theorem dX8_undo_26 : decode cX8_undo 26 = .ok (.istore_n 1, 1) := by decide +kernel
theorem dX8_undo_27 : decode cX8_undo 27 = .ok (.iload_n 1, 1) := by decide +kernel
theorem dX8_undo_28 : decode cX8_undo 28 = .ok (.bipush 41, 2) := by decide +kernel
theorem dX8_undo_30 : decode cX8_undo 30 = .ok (.if_icmp .ge 29, 3) := by decide +kernel
theorem dX8_undo_33 : decode cX8_undo 33 = .ok (.aload_n 0, 1) := by decide +kernel
theorem dX8_undo_34 : decode cX8_undo 34 = .ok (.getfield 19, 3) := by decide +kernel
theorem dX8_undo_37 : decode cX8_undo 37 = .ok (.iload_n 1, 1) := by decide +kernel
theorem dX8_undo_38 : decode cX8_undo 38 = .ok (.aload_n 0, 1) := by decide +kernel
theorem dX8_undo_39 : decode cX8_undo 39 = .ok (.getfield 28, 3) := by decide +kernel
theorem dX8_undo_42 : decode cX8_undo 42 = .ok (.bipush 41, 2) := by decide +kernel
theorem dX8_undo_44 : decode cX8_undo 44 = .ok (.aload_n 0, 1) := by decide +kernel
theorem dX8_undo_45 : decode cX8_undo 45 = .ok (.getfield 152, 3) := by decide +kernel
theorem dX8_undo_48 : decode cX8_undo 48 = .ok (.imul, 1) := by decide +kernel
theorem dX8_undo_49 : decode cX8_undo 49 = .ok (.iload_n 1, 1) := by decide +kernel
theorem dX8_undo_50 : decode cX8_undo 50 = .ok (.iadd, 1) := by decide +kernel
theorem dX8_undo_51 : decode cX8_undo 51 = .ok (.iaload, 1) := by decide +kernel
theorem dX8_undo_52 : decode cX8_undo 52 = .ok (.iastore, 1) := by decide +kernel
theorem dX8_undo_53 : decode cX8_undo 53 = .ok (.iinc 1 1, 3) := by decide +kernel
theorem dX8_undo_56 : decode cX8_undo 56 = .ok (.goto (-29), 3) := by decide +kernel
theorem dX8_undo_59 : decode cX8_undo 59 = .ok (.aload_n 0, 1) := by decide +kernel
theorem dX8_undo_60 : decode cX8_undo 60 = .ok (.getfield 152, 3) := by decide +kernel
theorem dX8_undo_63 : decode cX8_undo 63 = .ok (.ireturn, 1) := by decide +kernel
theorem dX8_person_0 : decode cX8_person 0 = .ok (.aload_n 0, 1) := by decide +kernel
theorem dX8_person_1 : decode cX8_person 1 = .ok (.iconst 0, 1) := by decide +kernel
theorem dX8_person_2 : decode cX8_person 2 = .ok (.putfield 53, 3) := by decide +kernel
theorem dX8_person_5 : decode cX8_person 5 = .ok (.aload_n 0, 1) := by decide +kernel
theorem dX8_person_6 : decode cX8_person 6 = .ok (.iload_n 1, 1) := by decide +kernel
theorem dX8_person_7 : decode cX8_person 7 = .ok (.invokevirtual 211, 3) := by decide +kernel
theorem dX8_person_10 : decode cX8_person 10 = .ok (.ifCond .eq 15, 3) := by decide +kernel
theorem dX8_person_13 : decode cX8_person 13 = .ok (.iload_n 2, 1) := by decide +kernel
theorem dX8_person_14 : decode cX8_person 14 = .ok (.i2l, 1) := by decide +kernel
theorem dX8_person_15 : decode cX8_person 15 = .ok (.lconst 0, 1) := by decide +kernel
theorem dX8_person_16 : decode cX8_person 16 = .ok (.ldc2_w 216, 3) := by decide +kernel
theorem dX8_person_19 : decode cX8_person 19 = .ok (.invokestatic 63, 3) := by decide +kernel
theorem dX8_person_22 : decode cX8_person 22 = .ok (.ifCond .ne 6, 3) := by decide +kernel
theorem dX8_person_25 : decode cX8_person 25 = .ok (.ldc 73, 2) := by decide +kernel
theorem dX8_person_27 : decode cX8_person 27 = .ok (.ireturn, 1) := by decide +kernel
theorem dX8_person_28 : decode cX8_person 28 = .ok (.iload_n 2, 1) := by decide +kernel
theorem dX8_person_29 : decode cX8_person 29 = .ok (.iconst 3, 1) := by decide +kernel
theorem dX8_person_30 : decode cX8_person 30 = .ok (.if_icmp .ge 17, 3) := by decide +kernel
theorem dX8_person_33 : decode cX8_person 33 = .ok (.aload_n 0, 1) := by decide +kernel
theorem dX8_person_34 : decode cX8_person 34 = .ok (.getfield 19, 3) := by decide +kernel
theorem dX8_person_37 : decode cX8_person 37 = .ok (.iload_n 1, 1) := by decide +kernel
theorem dX8_person_38 : decode cX8_person 38 = .ok (.iconst 1, 1) := by decide +kernel
theorem dX8_person_39 : decode cX8_person 39 = .ok (.iload_n 2, 1) := by decide +kernel
theorem dX8_person_40 : decode cX8_person 40 = .ok (.iadd, 1) := by decide +kernel
theorem dX8_person_41 : decode cX8_person 41 = .ok (.invokestatic 168, 3) := by decide +kernel
theorem dX8_person_44 : decode cX8_person 44 = .ok (.goto 39, 3) := by decide +kernel
theorem dX8_person_47 : decode cX8_person 47 = .ok (.iload_n 2, 1) := by decide +kernel
theorem dX8_person_48 : decode cX8_person 48 = .ok (.iconst 5, 1) := by decide +kernel
theorem dX8_person_49 : decode cX8_person 49 = .ok (.if_icmp .ge 24, 3) := by decide +kernel
theorem dX8_person_52 : decode cX8_person 52 = .ok (.aload_n 0, 1) := by decide +kernel
theorem dX8_person_53 : decode cX8_person 53 = .ok (.getfield 19, 3) := by decide +kernel
theorem dX8_person_56 : decode cX8_person 56 = .ok (.iload_n 1, 1) := by decide +kernel
theorem dX8_person_57 : decode cX8_person 57 = .ok (.aload_n 0, 1) := by decide +kernel
theorem dX8_person_58 : decode cX8_person 58 = .ok (.getfield 19, 3) := by decide +kernel
theorem dX8_person_61 : decode cX8_person 61 = .ok (.iconst 3, 1) := by decide +kernel
theorem dX8_person_62 : decode cX8_person 62 = .ok (.iaload, 1) := by decide +kernel
theorem dX8_person_63 : decode cX8_person 63 = .ok (.iload_n 2, 1) := by decide +kernel
theorem dX8_person_64 : decode cX8_person 64 = .ok (.iadd, 1) := by decide +kernel
theorem dX8_person_65 : decode cX8_person 65 = .ok (.iconst 3, 1) := by decide +kernel
theorem dX8_person_66 : decode cX8_person 66 = .ok (.isub, 1) := by decide +kernel
theorem dX8_person_67 : decode cX8_person 67 = .ok (.invokestatic 175, 3) := by decide +kernel
theorem dX8_person_70 : decode cX8_person 70 = .ok (.goto 13, 3) := by decide +kernel
theorem dX8_person_73 : decode cX8_person 73 = .ok (.aload_n 0, 1) := by decide +kernel
theorem dX8_person_74 : decode cX8_person 74 = .ok (.getfield 19, 3) := by decide +kernel
theorem dX8_person_77 : decode cX8_person 77 = .ok (.iconst 4, 1) := by decide +kernel
theorem dX8_person_78 : decode cX8_person 78 = .ok (.iaload, 1) := by decide +kernel
theorem dX8_person_79 : decode cX8_person 79 = .ok (.iload_n 1, 1) := by decide +kernel
theorem dX8_person_80 : decode cX8_person 80 = .ok (.ishr, 1) := by decide +kernel
theorem dX8_person_81 : decode cX8_person 81 = .ok (.iconst 1, 1) := by decide +kernel
theorem dX8_person_82 : decode cX8_person 82 = .ok (.iand, 1) := by decide +kernel
theorem dX8_person_83 : decode cX8_person 83 = .ok (.ireturn, 1) := by decide +kernel
theorem dX8_letter_0 : decode cX8_letter 0 = .ok (.aload_n 0, 1) := by decide +kernel
theorem dX8_letter_1 : decode cX8_letter 1 = .ok (.iconst 0, 1) := by decide +kernel
theorem dX8_letter_2 : decode cX8_letter 2 = .ok (.putfield 53, 3) := by decide +kernel
theorem dX8_letter_5 : decode cX8_letter 5 = .ok (.aload_n 0, 1) := by decide +kernel
theorem dX8_letter_6 : decode cX8_letter 6 = .ok (.iload_n 1, 1) := by decide +kernel
theorem dX8_letter_7 : decode cX8_letter 7 = .ok (.invokevirtual 198, 3) := by decide +kernel
theorem dX8_letter_10 : decode cX8_letter 10 = .ok (.ifCond .eq 30, 3) := by decide +kernel
theorem dX8_letter_13 : decode cX8_letter 13 = .ok (.iload_n 2, 1) := by decide +kernel
theorem dX8_letter_14 : decode cX8_letter 14 = .ok (.i2l, 1) := by decide +kernel
theorem dX8_letter_15 : decode cX8_letter 15 = .ok (.lconst 0, 1) := by decide +kernel
theorem dX8_letter_16 : decode cX8_letter 16 = .ok (.ldc2_w 158, 3) := by decide +kernel
theorem dX8_letter_19 : decode cX8_letter 19 = .ok (.invokestatic 63, 3) := by decide +kernel
theorem dX8_letter_22 : decode cX8_letter 22 = .ok (.ifCond .eq 18, 3) := by decide +kernel
theorem dX8_letter_25 : decode cX8_letter 25 = .ok (.iload_n 2, 1) := by decide +kernel
theorem dX8_letter_26 : decode cX8_letter 26 = .ok (.ifCond .le 17, 3) := by decide +kernel
theorem dX8_letter_29 : decode cX8_letter 29 = .ok (.aload_n 0, 1) := by decide +kernel
theorem dX8_letter_30 : decode cX8_letter 30 = .ok (.getfield 19, 3) := by decide +kernel
theorem dX8_letter_33 : decode cX8_letter 33 = .ok (.iload_n 1, 1) := by decide +kernel
theorem dX8_letter_34 : decode cX8_letter 34 = .ok (.invokestatic 164, 3) := by decide +kernel
theorem dX8_letter_37 : decode cX8_letter 37 = .ok (.ifCond .ne 6, 3) := by decide +kernel
theorem dX8_letter_40 : decode cX8_letter 40 = .ok (.ldc 73, 2) := by decide +kernel
theorem dX8_letter_42 : decode cX8_letter 42 = .ok (.ireturn, 1) := by decide +kernel
theorem dX8_letter_43 : decode cX8_letter 43 = .ok (.aload_n 0, 1) := by decide +kernel
theorem dX8_letter_44 : decode cX8_letter 44 = .ok (.aload_n 0, 1) := by decide +kernel
theorem dX8_letter_45 : decode cX8_letter 45 = .ok (.getfield 19, 3) := by decide +kernel
theorem dX8_letter_48 : decode cX8_letter 48 = .ok (.invokevirtual 178, 3) := by decide +kernel
theorem dX8_letter_51 : decode cX8_letter 51 = .ok (.iload_n 2, 1) := by decide +kernel
theorem dX8_letter_52 : decode cX8_letter 52 = .ok (.iconst 3, 1) := by decide +kernel
theorem dX8_letter_53 : decode cX8_letter 53 = .ok (.if_icmp .ge 15, 3) := by decide +kernel
theorem dX8_letter_56 : decode cX8_letter 56 = .ok (.aload_n 0, 1) := by decide +kernel
theorem dX8_letter_57 : decode cX8_letter 57 = .ok (.getfield 19, 3) := by decide +kernel
theorem dX8_letter_60 : decode cX8_letter 60 = .ok (.iload_n 1, 1) := by decide +kernel
theorem dX8_letter_61 : decode cX8_letter 61 = .ok (.iload_n 2, 1) := by decide +kernel
theorem dX8_letter_62 : decode cX8_letter 62 = .ok (.invokestatic 160, 3) := by decide +kernel
theorem dX8_letter_65 : decode cX8_letter 65 = .ok (.goto 9, 3) := by decide +kernel
theorem dX8_letter_68 : decode cX8_letter 68 = .ok (.aload_n 0, 1) := by decide +kernel
theorem dX8_letter_69 : decode cX8_letter 69 = .ok (.getfield 34, 3) := by decide +kernel
theorem dX8_letter_72 : decode cX8_letter 72 = .ok (.iload_n 1, 1) := by decide +kernel
theorem dX8_letter_73 : decode cX8_letter 73 = .ok (.iaload, 1) := by decide +kernel
theorem dX8_letter_74 : decode cX8_letter 74 = .ok (.ireturn, 1) := by decide +kernel
theorem dX8_lane_0 : decode cX8_lane 0 = .ok (.aload_n 0, 1) := by decide +kernel
theorem dX8_lane_1 : decode cX8_lane 1 = .ok (.iconst 0, 1) := by decide +kernel
theorem dX8_lane_2 : decode cX8_lane 2 = .ok (.putfield 53, 3) := by decide +kernel
theorem dX8_lane_5 : decode cX8_lane 5 = .ok (.aload_n 0, 1) := by decide +kernel
theorem dX8_lane_6 : decode cX8_lane 6 = .ok (.iload_n 1, 1) := by decide +kernel
theorem dX8_lane_7 : decode cX8_lane 7 = .ok (.invokevirtual 201, 3) := by decide +kernel
theorem dX8_lane_10 : decode cX8_lane 10 = .ok (.ifCond .ne 6, 3) := by decide +kernel
theorem dX8_lane_13 : decode cX8_lane 13 = .ok (.ldc 73, 2) := by decide +kernel
theorem dX8_lane_15 : decode cX8_lane 15 = .ok (.ireturn, 1) := by decide +kernel
theorem dX8_lane_16 : decode cX8_lane 16 = .ok (.iconst 0, 1) := by decide +kernel
theorem dX8_lane_17 : decode cX8_lane 17 = .ok (.istore_n 2, 1) := by decide +kernel
theorem dX8_lane_18 : decode cX8_lane 18 = .ok (.iconst 0, 1) := by decide +kernel
theorem dX8_lane_19 : decode cX8_lane 19 = .ok (.istore_n 3, 1) := by decide +kernel
theorem dX8_lane_20 : decode cX8_lane 20 = .ok (.iload_n 3, 1) := by decide +kernel
theorem dX8_lane_21 : decode cX8_lane 21 = .ok (.aload_n 0, 1) := by decide +kernel
theorem dX8_lane_22 : decode cX8_lane 22 = .ok (.getfield 19, 3) := by decide +kernel
theorem dX8_lane_25 : decode cX8_lane 25 = .ok (.iconst 2, 1) := by decide +kernel
theorem dX8_lane_26 : decode cX8_lane 26 = .ok (.iaload, 1) := by decide +kernel
theorem dX8_lane_27 : decode cX8_lane 27 = .ok (.if_icmp .ge 37, 3) := by decide +kernel
theorem dX8_lane_30 : decode cX8_lane 30 = .ok (.iload_n 2, 1) := by decide +kernel
theorem dX8_lane_31 : decode cX8_lane 31 = .ok (.aload_n 0, 1) := by decide +kernel
theorem dX8_lane_32 : decode cX8_lane 32 = .ok (.getfield 19, 3) := by decide +kernel
theorem dX8_lane_35 : decode cX8_lane 35 = .ok (.iload_n 3, 1) := by decide +kernel
theorem dX8_lane_36 : decode cX8_lane 36 = .ok (.aload_n 0, 1) := by decide +kernel
theorem dX8_lane_37 : decode cX8_lane 37 = .ok (.getfield 19, 3) := by decide +kernel
theorem dX8_lane_40 : decode cX8_lane 40 = .ok (.iconst 3, 1) := by decide +kernel
theorem dX8_lane_41 : decode cX8_lane 41 = .ok (.iaload, 1) := by decide +kernel
theorem dX8_lane_42 : decode cX8_lane 42 = .ok (.invokestatic 175, 3) := by decide +kernel
theorem dX8_lane_45 : decode cX8_lane 45 = .ok (.iload_n 1, 1) := by decide +kernel
theorem dX8_lane_46 : decode cX8_lane 46 = .ok (.if_icmp .ne 9, 3) := by decide +kernel
theorem dX8_lane_49 : decode cX8_lane 49 = .ok (.iconst 1, 1) := by decide +kernel
theorem dX8_lane_50 : decode cX8_lane 50 = .ok (.iload_n 3, 1) := by decide +kernel
theorem dX8_lane_51 : decode cX8_lane 51 = .ok (.ishl, 1) := by decide +kernel
theorem dX8_lane_52 : decode cX8_lane 52 = .ok (.goto 4, 3) := by decide +kernel
theorem dX8_lane_55 : decode cX8_lane 55 = .ok (.iconst 0, 1) := by decide +kernel
theorem dX8_lane_56 : decode cX8_lane 56 = .ok (.ior, 1) := by decide +kernel
theorem dX8_lane_57 : decode cX8_lane 57 = .ok (.istore_n 2, 1) := by decide +kernel
theorem dX8_lane_58 : decode cX8_lane 58 = .ok (.iinc 3 1, 3) := by decide +kernel
theorem dX8_lane_61 : decode cX8_lane 61 = .ok (.goto (-41), 3) := by decide +kernel
theorem dX8_lane_64 : decode cX8_lane 64 = .ok (.iload_n 2, 1) := by decide +kernel
theorem dX8_lane_65 : decode cX8_lane 65 = .ok (.ireturn, 1) := by decide +kernel
theorem dX8_ahead_0 : decode cX8_ahead 0 = .ok (.aload_n 0, 1) := by decide +kernel
theorem dX8_ahead_1 : decode cX8_ahead 1 = .ok (.iconst 0, 1) := by decide +kernel
theorem dX8_ahead_2 : decode cX8_ahead 2 = .ok (.putfield 53, 3) := by decide +kernel
theorem dX8_ahead_5 : decode cX8_ahead 5 = .ok (.aload_n 0, 1) := by decide +kernel
theorem dX8_ahead_6 : decode cX8_ahead 6 = .ok (.iload_n 1, 1) := by decide +kernel
theorem dX8_ahead_7 : decode cX8_ahead 7 = .ok (.invokevirtual 211, 3) := by decide +kernel
theorem dX8_ahead_10 : decode cX8_ahead 10 = .ok (.ifCond .eq 34, 3) := by decide +kernel
theorem dX8_ahead_13 : decode cX8_ahead 13 = .ok (.iload_n 2, 1) := by decide +kernel
theorem dX8_ahead_14 : decode cX8_ahead 14 = .ok (.i2l, 1) := by decide +kernel
theorem dX8_ahead_15 : decode cX8_ahead 15 = .ok (.lconst 0, 1) := by decide +kernel
theorem dX8_ahead_16 : decode cX8_ahead 16 = .ok (.ldc2_w 218, 3) := by decide +kernel
theorem dX8_ahead_19 : decode cX8_ahead 19 = .ok (.invokestatic 63, 3) := by decide +kernel
theorem dX8_ahead_22 : decode cX8_ahead 22 = .ok (.ifCond .eq 22, 3) := by decide +kernel
theorem dX8_ahead_25 : decode cX8_ahead 25 = .ok (.aload_n 0, 1) := by decide +kernel
theorem dX8_ahead_26 : decode cX8_ahead 26 = .ok (.getfield 19, 3) := by decide +kernel
theorem dX8_ahead_29 : decode cX8_ahead 29 = .ok (.iload_n 1, 1) := by decide +kernel
theorem dX8_ahead_30 : decode cX8_ahead 30 = .ok (.aload_n 0, 1) := by decide +kernel
theorem dX8_ahead_31 : decode cX8_ahead 31 = .ok (.getfield 19, 3) := by decide +kernel
theorem dX8_ahead_34 : decode cX8_ahead 34 = .ok (.iconst 3, 1) := by decide +kernel
theorem dX8_ahead_35 : decode cX8_ahead 35 = .ok (.iaload, 1) := by decide +kernel
theorem dX8_ahead_36 : decode cX8_ahead 36 = .ok (.iload_n 2, 1) := by decide +kernel
theorem dX8_ahead_37 : decode cX8_ahead 37 = .ok (.iadd, 1) := by decide +kernel
theorem dX8_ahead_38 : decode cX8_ahead 38 = .ok (.invokestatic 175, 3) := by decide +kernel
theorem dX8_ahead_41 : decode cX8_ahead 41 = .ok (.goto 5, 3) := by decide +kernel
theorem dX8_ahead_44 : decode cX8_ahead 44 = .ok (.ldc 73, 2) := by decide +kernel
theorem dX8_ahead_46 : decode cX8_ahead 46 = .ok (.ireturn, 1) := by decide +kernel
theorem dX8_letterAhead_0 : decode cX8_letterAhead 0 = .ok (.aload_n 0, 1) := by decide +kernel
theorem dX8_letterAhead_1 : decode cX8_letterAhead 1 = .ok (.iconst 0, 1) := by decide +kernel
theorem dX8_letterAhead_2 : decode cX8_letterAhead 2 = .ok (.putfield 53, 3) := by decide +kernel
theorem dX8_letterAhead_5 : decode cX8_letterAhead 5 = .ok (.aload_n 0, 1) := by decide +kernel
theorem dX8_letterAhead_6 : decode cX8_letterAhead 6 = .ok (.iload_n 1, 1) := by decide +kernel
theorem dX8_letterAhead_7 : decode cX8_letterAhead 7 = .ok (.invokevirtual 198, 3) := by decide +kernel
theorem dX8_letterAhead_10 : decode cX8_letterAhead 10 = .ok (.ifCond .eq 15, 3) := by decide +kernel
theorem dX8_letterAhead_13 : decode cX8_letterAhead 13 = .ok (.iload_n 2, 1) := by decide +kernel
theorem dX8_letterAhead_14 : decode cX8_letterAhead 14 = .ok (.i2l, 1) := by decide +kernel
theorem dX8_letterAhead_15 : decode cX8_letterAhead 15 = .ok (.lconst 0, 1) := by decide +kernel
theorem dX8_letterAhead_16 : decode cX8_letterAhead 16 = .ok (.ldc2_w 218, 3) := by decide +kernel
theorem dX8_letterAhead_19 : decode cX8_letterAhead 19 = .ok (.invokestatic 63, 3) := by decide +kernel
theorem dX8_letterAhead_22 : decode cX8_letterAhead 22 = .ok (.ifCond .ne 6, 3) := by decide +kernel
theorem dX8_letterAhead_25 : decode cX8_letterAhead 25 = .ok (.ldc 73, 2) := by decide +kernel
theorem dX8_letterAhead_27 : decode cX8_letterAhead 27 = .ok (.ireturn, 1) := by decide +kernel
theorem dX8_letterAhead_28 : decode cX8_letterAhead 28 = .ok (.aload_n 0, 1) := by decide +kernel
theorem dX8_letterAhead_29 : decode cX8_letterAhead 29 = .ok (.getfield 19, 3) := by decide +kernel
theorem dX8_letterAhead_32 : decode cX8_letterAhead 32 = .ok (.iload_n 1, 1) := by decide +kernel
theorem dX8_letterAhead_33 : decode cX8_letterAhead 33 = .ok (.invokestatic 164, 3) := by decide +kernel
theorem dX8_letterAhead_36 : decode cX8_letterAhead 36 = .ok (.ifCond .ne 6, 3) := by decide +kernel
theorem dX8_letterAhead_39 : decode cX8_letterAhead 39 = .ok (.ldc 189, 2) := by decide +kernel
theorem dX8_letterAhead_41 : decode cX8_letterAhead 41 = .ok (.ireturn, 1) := by decide +kernel
theorem dX8_letterAhead_42 : decode cX8_letterAhead 42 = .ok (.aload_n 0, 1) := by decide +kernel
theorem dX8_letterAhead_43 : decode cX8_letterAhead 43 = .ok (.invokevirtual 220, 3) := by decide +kernel
theorem dX8_letterAhead_46 : decode cX8_letterAhead 46 = .ok (.aload_n 0, 1) := by decide +kernel
theorem dX8_letterAhead_47 : decode cX8_letterAhead 47 = .ok (.aload_n 0, 1) := by decide +kernel
theorem dX8_letterAhead_48 : decode cX8_letterAhead 48 = .ok (.getfield 25, 3) := by decide +kernel
theorem dX8_letterAhead_51 : decode cX8_letterAhead 51 = .ok (.iload_n 2, 1) := by decide +kernel
theorem dX8_letterAhead_52 : decode cX8_letterAhead 52 = .ok (.invokevirtual 223, 3) := by decide +kernel
theorem dX8_letterAhead_55 : decode cX8_letterAhead 55 = .ok (.aload_n 0, 1) := by decide +kernel
theorem dX8_letterAhead_56 : decode cX8_letterAhead 56 = .ok (.getfield 25, 3) := by decide +kernel
theorem dX8_letterAhead_59 : decode cX8_letterAhead 59 = .ok (.iload_n 1, 1) := by decide +kernel
theorem dX8_letterAhead_60 : decode cX8_letterAhead 60 = .ok (.iconst 1, 1) := by decide +kernel
theorem dX8_letterAhead_61 : decode cX8_letterAhead 61 = .ok (.invokestatic 160, 3) := by decide +kernel
theorem dX8_letterAhead_64 : decode cX8_letterAhead 64 = .ok (.ireturn, 1) := by decide +kernel
theorem dX8_arrives_0 : decode cX8_arrives 0 = .ok (.aload_n 0, 1) := by decide +kernel
theorem dX8_arrives_1 : decode cX8_arrives 1 = .ok (.iconst 0, 1) := by decide +kernel
theorem dX8_arrives_2 : decode cX8_arrives 2 = .ok (.putfield 53, 3) := by decide +kernel
theorem dX8_arrives_5 : decode cX8_arrives 5 = .ok (.aload_n 0, 1) := by decide +kernel
theorem dX8_arrives_6 : decode cX8_arrives 6 = .ok (.iload_n 1, 1) := by decide +kernel
theorem dX8_arrives_7 : decode cX8_arrives 7 = .ok (.invokevirtual 198, 3) := by decide +kernel
theorem dX8_arrives_10 : decode cX8_arrives 10 = .ok (.ifCond .ne 6, 3) := by decide +kernel
theorem dX8_arrives_13 : decode cX8_arrives 13 = .ok (.ldc 73, 2) := by decide +kernel
theorem dX8_arrives_15 : decode cX8_arrives 15 = .ok (.ireturn, 1) := by decide +kernel
theorem dX8_arrives_16 : decode cX8_arrives 16 = .ok (.aload_n 0, 1) := by decide +kernel
theorem dX8_arrives_17 : decode cX8_arrives 17 = .ok (.getfield 19, 3) := by decide +kernel
theorem dX8_arrives_20 : decode cX8_arrives 20 = .ok (.iload_n 1, 1) := by decide +kernel
theorem dX8_arrives_21 : decode cX8_arrives 21 = .ok (.invokestatic 164, 3) := by decide +kernel
theorem dX8_arrives_24 : decode cX8_arrives 24 = .ok (.ifCond .ne 6, 3) := by decide +kernel
theorem dX8_arrives_27 : decode cX8_arrives 27 = .ok (.ldc 189, 2) := by decide +kernel
theorem dX8_arrives_29 : decode cX8_arrives 29 = .ok (.ireturn, 1) := by decide +kernel
theorem dX8_arrives_30 : decode cX8_arrives 30 = .ok (.aload_n 0, 1) := by decide +kernel
theorem dX8_arrives_31 : decode cX8_arrives 31 = .ok (.invokevirtual 220, 3) := by decide +kernel
theorem dX8_arrives_34 : decode cX8_arrives 34 = .ok (.aload_n 0, 1) := by decide +kernel
theorem dX8_arrives_35 : decode cX8_arrives 35 = .ok (.iload_n 1, 1) := by decide +kernel
theorem dX8_arrives_36 : decode cX8_arrives 36 = .ok (.bipush 99, 2) := by decide +kernel
theorem dX8_arrives_38 : decode cX8_arrives 38 = .ok (.invokevirtual 227, 3) := by decide +kernel
theorem dX8_arrives_41 : decode cX8_arrives 41 = .ok (.ireturn, 1) := by decide +kernel
theorem dX8_carriers_0 : decode cX8_carriers 0 = .ok (.aload_n 0, 1) := by decide +kernel
theorem dX8_carriers_1 : decode cX8_carriers 1 = .ok (.iconst 0, 1) := by decide +kernel
theorem dX8_carriers_2 : decode cX8_carriers 2 = .ok (.putfield 53, 3) := by decide +kernel
theorem dX8_carriers_5 : decode cX8_carriers 5 = .ok (.aload_n 0, 1) := by decide +kernel
theorem dX8_carriers_6 : decode cX8_carriers 6 = .ok (.iload_n 1, 1) := by decide +kernel
theorem dX8_carriers_7 : decode cX8_carriers 7 = .ok (.invokevirtual 198, 3) := by decide +kernel
theorem dX8_carriers_10 : decode cX8_carriers 10 = .ok (.ifCond .eq 15, 3) := by decide +kernel
theorem dX8_carriers_13 : decode cX8_carriers 13 = .ok (.iload_n 2, 1) := by decide +kernel
theorem dX8_carriers_14 : decode cX8_carriers 14 = .ok (.i2l, 1) := by decide +kernel
theorem dX8_carriers_15 : decode cX8_carriers 15 = .ok (.lconst 1, 1) := by decide +kernel
theorem dX8_carriers_16 : decode cX8_carriers 16 = .ok (.ldc2_w 218, 3) := by decide +kernel
theorem dX8_carriers_19 : decode cX8_carriers 19 = .ok (.invokestatic 63, 3) := by decide +kernel
theorem dX8_carriers_22 : decode cX8_carriers 22 = .ok (.ifCond .ne 6, 3) := by decide +kernel
theorem dX8_carriers_25 : decode cX8_carriers 25 = .ok (.ldc 73, 2) := by decide +kernel
theorem dX8_carriers_27 : decode cX8_carriers 27 = .ok (.ireturn, 1) := by decide +kernel
theorem dX8_carriers_28 : decode cX8_carriers 28 = .ok (.aload_n 0, 1) := by decide +kernel
theorem dX8_carriers_29 : decode cX8_carriers 29 = .ok (.getfield 19, 3) := by decide +kernel
theorem dX8_carriers_32 : decode cX8_carriers 32 = .ok (.iload_n 1, 1) := by decide +kernel
theorem dX8_carriers_33 : decode cX8_carriers 33 = .ok (.invokestatic 164, 3) := by decide +kernel
theorem dX8_carriers_36 : decode cX8_carriers 36 = .ok (.ifCond .ne 6, 3) := by decide +kernel
theorem dX8_carriers_39 : decode cX8_carriers 39 = .ok (.ldc 189, 2) := by decide +kernel
theorem dX8_carriers_41 : decode cX8_carriers 41 = .ok (.ireturn, 1) := by decide +kernel
theorem dX8_carriers_42 : decode cX8_carriers 42 = .ok (.aload_n 0, 1) := by decide +kernel
theorem dX8_carriers_43 : decode cX8_carriers 43 = .ok (.invokevirtual 220, 3) := by decide +kernel
theorem dX8_carriers_46 : decode cX8_carriers 46 = .ok (.iconst 0, 1) := by decide +kernel
theorem dX8_carriers_47 : decode cX8_carriers 47 = .ok (.istore_n 3, 1) := by decide +kernel
theorem dX8_carriers_48 : decode cX8_carriers 48 = .ok (.iconst 0, 1) := by decide +kernel
theorem dX8_carriers_49 : decode cX8_carriers 49 = .ok (.istore 4, 2) := by decide +kernel
theorem dX8_carriers_51 : decode cX8_carriers 51 = .ok (.iload 4, 2) := by decide +kernel
theorem dX8_carriers_53 : decode cX8_carriers 53 = .ok (.iload_n 2, 1) := by decide +kernel
theorem dX8_carriers_54 : decode cX8_carriers 54 = .ok (.if_icmp .ge 45, 3) := by decide +kernel
theorem dX8_carriers_57 : decode cX8_carriers 57 = .ok (.aload_n 0, 1) := by decide +kernel
theorem dX8_carriers_58 : decode cX8_carriers 58 = .ok (.aload_n 0, 1) := by decide +kernel
theorem dX8_carriers_59 : decode cX8_carriers 59 = .ok (.getfield 25, 3) := by decide +kernel
theorem dX8_carriers_62 : decode cX8_carriers 62 = .ok (.invokevirtual 182, 3) := by decide +kernel
theorem dX8_carriers_65 : decode cX8_carriers 65 = .ok (.istore 5, 2) := by decide +kernel
theorem dX8_carriers_67 : decode cX8_carriers 67 = .ok (.iload_n 3, 1) := by decide +kernel
theorem dX8_carriers_68 : decode cX8_carriers 68 = .ok (.aload_n 0, 1) := by decide +kernel
theorem dX8_carriers_69 : decode cX8_carriers 69 = .ok (.getfield 34, 3) := by decide +kernel
theorem dX8_carriers_72 : decode cX8_carriers 72 = .ok (.iload_n 1, 1) := by decide +kernel
theorem dX8_carriers_73 : decode cX8_carriers 73 = .ok (.iaload, 1) := by decide +kernel
theorem dX8_carriers_74 : decode cX8_carriers 74 = .ok (.ldc 96, 2) := by decide +kernel
theorem dX8_carriers_76 : decode cX8_carriers 76 = .ok (.if_icmp .eq 14, 3) := by decide +kernel
theorem dX8_carriers_79 : decode cX8_carriers 79 = .ok (.iconst 1, 1) := by decide +kernel
theorem dX8_carriers_80 : decode cX8_carriers 80 = .ok (.aload_n 0, 1) := by decide +kernel
theorem dX8_carriers_81 : decode cX8_carriers 81 = .ok (.getfield 34, 3) := by decide +kernel
theorem dX8_carriers_84 : decode cX8_carriers 84 = .ok (.iload_n 1, 1) := by decide +kernel
theorem dX8_carriers_85 : decode cX8_carriers 85 = .ok (.iaload, 1) := by decide +kernel
theorem dX8_carriers_86 : decode cX8_carriers 86 = .ok (.ishl, 1) := by decide +kernel
theorem dX8_carriers_87 : decode cX8_carriers 87 = .ok (.goto 4, 3) := by decide +kernel
theorem dX8_carriers_90 : decode cX8_carriers 90 = .ok (.iconst 0, 1) := by decide +kernel
theorem dX8_carriers_91 : decode cX8_carriers 91 = .ok (.ior, 1) := by decide +kernel
theorem dX8_carriers_92 : decode cX8_carriers 92 = .ok (.istore_n 3, 1) := by decide +kernel
theorem dX8_carriers_93 : decode cX8_carriers 93 = .ok (.iinc 4 1, 3) := by decide +kernel
theorem dX8_carriers_96 : decode cX8_carriers 96 = .ok (.goto (-45), 3) := by decide +kernel
theorem dX8_carriers_99 : decode cX8_carriers 99 = .ok (.iload_n 3, 1) := by decide +kernel
theorem dX8_carriers_100 : decode cX8_carriers 100 = .ok (.ireturn, 1) := by decide +kernel
theorem dX8_bestHour_0 : decode cX8_bestHour 0 = .ok (.aload_n 0, 1) := by decide +kernel
theorem dX8_bestHour_1 : decode cX8_bestHour 1 = .ok (.iconst 0, 1) := by decide +kernel
theorem dX8_bestHour_2 : decode cX8_bestHour 2 = .ok (.putfield 53, 3) := by decide +kernel
theorem dX8_bestHour_5 : decode cX8_bestHour 5 = .ok (.aload_n 0, 1) := by decide +kernel
theorem dX8_bestHour_6 : decode cX8_bestHour 6 = .ok (.iload_n 1, 1) := by decide +kernel
theorem dX8_bestHour_7 : decode cX8_bestHour 7 = .ok (.invokevirtual 201, 3) := by decide +kernel
theorem dX8_bestHour_10 : decode cX8_bestHour 10 = .ok (.ifCond .eq 26, 3) := by decide +kernel
theorem dX8_bestHour_13 : decode cX8_bestHour 13 = .ok (.aload_n 0, 1) := by decide +kernel
theorem dX8_bestHour_14 : decode cX8_bestHour 14 = .ok (.iload_n 2, 1) := by decide +kernel
theorem dX8_bestHour_15 : decode cX8_bestHour 15 = .ok (.invokevirtual 201, 3) := by decide +kernel
theorem dX8_bestHour_18 : decode cX8_bestHour 18 = .ok (.ifCond .eq 18, 3) := by decide +kernel
theorem dX8_bestHour_21 : decode cX8_bestHour 21 = .ok (.iload_n 1, 1) := by decide +kernel
theorem dX8_bestHour_22 : decode cX8_bestHour 22 = .ok (.iload_n 2, 1) := by decide +kernel
theorem dX8_bestHour_23 : decode cX8_bestHour 23 = .ok (.if_icmp .eq 13, 3) := by decide +kernel
theorem dX8_bestHour_26 : decode cX8_bestHour 26 = .ok (.iload_n 3, 1) := by decide +kernel
theorem dX8_bestHour_27 : decode cX8_bestHour 27 = .ok (.i2l, 1) := by decide +kernel
theorem dX8_bestHour_28 : decode cX8_bestHour 28 = .ok (.lconst 0, 1) := by decide +kernel
theorem dX8_bestHour_29 : decode cX8_bestHour 29 = .ok (.lconst 1, 1) := by decide +kernel
theorem dX8_bestHour_30 : decode cX8_bestHour 30 = .ok (.invokestatic 63, 3) := by decide +kernel
theorem dX8_bestHour_33 : decode cX8_bestHour 33 = .ok (.ifCond .ne 6, 3) := by decide +kernel
theorem dX8_bestHour_36 : decode cX8_bestHour 36 = .ok (.ldc 73, 2) := by decide +kernel
theorem dX8_bestHour_38 : decode cX8_bestHour 38 = .ok (.ireturn, 1) := by decide +kernel
theorem dX8_bestHour_39 : decode cX8_bestHour 39 = .ok (.ldc 96, 2) := by decide +kernel
theorem dX8_bestHour_41 : decode cX8_bestHour 41 = .ok (.istore 4, 2) := by decide +kernel
theorem dX8_bestHour_43 : decode cX8_bestHour 43 = .ok (.ldc 96, 2) := by decide +kernel
theorem dX8_bestHour_45 : decode cX8_bestHour 45 = .ok (.istore 5, 2) := by decide +kernel
theorem dX8_bestHour_47 : decode cX8_bestHour 47 = .ok (.iconst 0, 1) := by decide +kernel
theorem dX8_bestHour_48 : decode cX8_bestHour 48 = .ok (.istore 6, 2) := by decide +kernel
theorem dX8_bestHour_50 : decode cX8_bestHour 50 = .ok (.iload 6, 2) := by decide +kernel
theorem dX8_bestHour_52 : decode cX8_bestHour 52 = .ok (.aload_n 0, 1) := by decide +kernel
theorem dX8_bestHour_53 : decode cX8_bestHour 53 = .ok (.getfield 19, 3) := by decide +kernel
theorem dX8_bestHour_56 : decode cX8_bestHour 56 = .ok (.iconst 1, 1) := by decide +kernel
theorem dX8_bestHour_57 : decode cX8_bestHour 57 = .ok (.iaload, 1) := by decide +kernel
theorem dX8_bestHour_58 : decode cX8_bestHour 58 = .ok (.if_icmp .ge 107, 3) := by decide +kernel
theorem dX8_bestHour_61 : decode cX8_bestHour 61 = .ok (.aload_n 0, 1) := by decide +kernel
theorem dX8_bestHour_62 : decode cX8_bestHour 62 = .ok (.invokevirtual 220, 3) := by decide +kernel
theorem dX8_bestHour_65 : decode cX8_bestHour 65 = .ok (.aload_n 0, 1) := by decide +kernel
theorem dX8_bestHour_66 : decode cX8_bestHour 66 = .ok (.aload_n 0, 1) := by decide +kernel
theorem dX8_bestHour_67 : decode cX8_bestHour 67 = .ok (.getfield 25, 3) := by decide +kernel
theorem dX8_bestHour_70 : decode cX8_bestHour 70 = .ok (.iload 6, 2) := by decide +kernel
theorem dX8_bestHour_72 : decode cX8_bestHour 72 = .ok (.invokevirtual 223, 3) := by decide +kernel
theorem dX8_bestHour_75 : decode cX8_bestHour 75 = .ok (.aload_n 0, 1) := by decide +kernel
theorem dX8_bestHour_76 : decode cX8_bestHour 76 = .ok (.getfield 25, 3) := by decide +kernel
theorem dX8_bestHour_79 : decode cX8_bestHour 79 = .ok (.iconst 3, 1) := by decide +kernel
theorem dX8_bestHour_80 : decode cX8_bestHour 80 = .ok (.iload_n 1, 1) := by decide +kernel
theorem dX8_bestHour_81 : decode cX8_bestHour 81 = .ok (.iload_n 2, 1) := by decide +kernel
theorem dX8_bestHour_82 : decode cX8_bestHour 82 = .ok (.invokestatic 204, 3) := by decide +kernel
theorem dX8_bestHour_85 : decode cX8_bestHour 85 = .ok (.aload_n 0, 1) := by decide +kernel
theorem dX8_bestHour_86 : decode cX8_bestHour 86 = .ok (.iconst 3, 1) := by decide +kernel
theorem dX8_bestHour_87 : decode cX8_bestHour 87 = .ok (.bipush 99, 2) := by decide +kernel
theorem dX8_bestHour_89 : decode cX8_bestHour 89 = .ok (.iload 6, 2) := by decide +kernel
theorem dX8_bestHour_91 : decode cX8_bestHour 91 = .ok (.isub, 1) := by decide +kernel
theorem dX8_bestHour_92 : decode cX8_bestHour 92 = .ok (.invokevirtual 227, 3) := by decide +kernel
theorem dX8_bestHour_95 : decode cX8_bestHour 95 = .ok (.istore 7, 2) := by decide +kernel
theorem dX8_bestHour_97 : decode cX8_bestHour 97 = .ok (.iload 7, 2) := by decide +kernel
theorem dX8_bestHour_99 : decode cX8_bestHour 99 = .ok (.ldc 96, 2) := by decide +kernel
theorem dX8_bestHour_101 : decode cX8_bestHour 101 = .ok (.if_icmp .eq 24, 3) := by decide +kernel
theorem dX8_bestHour_104 : decode cX8_bestHour 104 = .ok (.iload 4, 2) := by decide +kernel
theorem dX8_bestHour_106 : decode cX8_bestHour 106 = .ok (.ldc 96, 2) := by decide +kernel
theorem dX8_bestHour_108 : decode cX8_bestHour 108 = .ok (.if_icmp .eq 13, 3) := by decide +kernel
theorem dX8_bestHour_111 : decode cX8_bestHour 111 = .ok (.iload 6, 2) := by decide +kernel
theorem dX8_bestHour_113 : decode cX8_bestHour 113 = .ok (.iload 7, 2) := by decide +kernel
theorem dX8_bestHour_115 : decode cX8_bestHour 115 = .ok (.iadd, 1) := by decide +kernel
theorem dX8_bestHour_116 : decode cX8_bestHour 116 = .ok (.iload 5, 2) := by decide +kernel
theorem dX8_bestHour_118 : decode cX8_bestHour 118 = .ok (.if_icmp .gt 7, 3) := by decide +kernel
theorem dX8_bestHour_121 : decode cX8_bestHour 121 = .ok (.iconst 1, 1) := by decide +kernel
theorem dX8_bestHour_122 : decode cX8_bestHour 122 = .ok (.goto 4, 3) := by decide +kernel
theorem dX8_bestHour_125 : decode cX8_bestHour 125 = .ok (.iconst 0, 1) := by decide +kernel
theorem dX8_bestHour_126 : decode cX8_bestHour 126 = .ok (.istore 8, 2) := by decide +kernel
theorem dX8_bestHour_128 : decode cX8_bestHour 128 = .ok (.iload 8, 2) := by decide +kernel
theorem dX8_bestHour_130 : decode cX8_bestHour 130 = .ok (.ifCond .eq 8, 3) := by decide +kernel
theorem dX8_bestHour_133 : decode cX8_bestHour 133 = .ok (.iload 6, 2) := by decide +kernel
theorem dX8_bestHour_135 : decode cX8_bestHour 135 = .ok (.goto 5, 3) := by decide +kernel
theorem dX8_bestHour_138 : decode cX8_bestHour 138 = .ok (.iload 4, 2) := by decide +kernel
theorem dX8_bestHour_140 : decode cX8_bestHour 140 = .ok (.istore 4, 2) := by decide +kernel
theorem dX8_bestHour_142 : decode cX8_bestHour 142 = .ok (.iload 8, 2) := by decide +kernel
theorem dX8_bestHour_144 : decode cX8_bestHour 144 = .ok (.ifCond .eq 11, 3) := by decide +kernel
theorem dX8_bestHour_147 : decode cX8_bestHour 147 = .ok (.iload 6, 2) := by decide +kernel
theorem dX8_bestHour_149 : decode cX8_bestHour 149 = .ok (.iload 7, 2) := by decide +kernel
theorem dX8_bestHour_151 : decode cX8_bestHour 151 = .ok (.iadd, 1) := by decide +kernel
theorem dX8_bestHour_152 : decode cX8_bestHour 152 = .ok (.goto 5, 3) := by decide +kernel
theorem dX8_bestHour_155 : decode cX8_bestHour 155 = .ok (.iload 5, 2) := by decide +kernel
theorem dX8_bestHour_157 : decode cX8_bestHour 157 = .ok (.istore 5, 2) := by decide +kernel
theorem dX8_bestHour_159 : decode cX8_bestHour 159 = .ok (.iinc 6 1, 3) := by decide +kernel
theorem dX8_bestHour_162 : decode cX8_bestHour 162 = .ok (.goto (-112), 3) := by decide +kernel
theorem dX8_bestHour_165 : decode cX8_bestHour 165 = .ok (.iload_n 3, 1) := by decide +kernel
theorem dX8_bestHour_166 : decode cX8_bestHour 166 = .ok (.ifCond .ne 8, 3) := by decide +kernel
theorem dX8_bestHour_169 : decode cX8_bestHour 169 = .ok (.iload 4, 2) := by decide +kernel
theorem dX8_bestHour_171 : decode cX8_bestHour 171 = .ok (.goto 5, 3) := by decide +kernel
theorem dX8_bestHour_174 : decode cX8_bestHour 174 = .ok (.iload 5, 2) := by decide +kernel
theorem dX8_bestHour_176 : decode cX8_bestHour 176 = .ok (.ireturn, 1) := by decide +kernel
theorem dX8_spotsBy_0 : decode cX8_spotsBy 0 = .ok (.iconst 0, 1) := by decide +kernel
theorem dX8_spotsBy_1 : decode cX8_spotsBy 1 = .ok (.istore_n 3, 1) := by decide +kernel
theorem dX8_spotsBy_2 : decode cX8_spotsBy 2 = .ok (.iconst 0, 1) := by decide +kernel
theorem dX8_spotsBy_3 : decode cX8_spotsBy 3 = .ok (.istore 4, 2) := by decide +kernel
theorem dX8_spotsBy_5 : decode cX8_spotsBy 5 = .ok (.iload 4, 2) := by decide +kernel
theorem dX8_spotsBy_7 : decode cX8_spotsBy 7 = .ok (.aload_n 0, 1) := by decide +kernel
theorem dX8_spotsBy_8 : decode cX8_spotsBy 8 = .ok (.getfield 19, 3) := by decide +kernel
theorem dX8_spotsBy_11 : decode cX8_spotsBy 11 = .ok (.iconst 0, 1) := by decide +kernel
theorem dX8_spotsBy_12 : decode cX8_spotsBy 12 = .ok (.iaload, 1) := by decide +kernel
theorem dX8_spotsBy_13 : decode cX8_spotsBy 13 = .ok (.if_icmp .ge 46, 3) := by decide +kernel
theorem dX8_spotsBy_16 : decode cX8_spotsBy 16 = .ok (.aload_n 0, 1) := by decide +kernel
theorem dX8_spotsBy_17 : decode cX8_spotsBy 17 = .ok (.invokevirtual 220, 3) := by decide +kernel
theorem dX8_spotsBy_20 : decode cX8_spotsBy 20 = .ok (.aload_n 0, 1) := by decide +kernel
theorem dX8_spotsBy_21 : decode cX8_spotsBy 21 = .ok (.getfield 25, 3) := by decide +kernel
theorem dX8_spotsBy_24 : decode cX8_spotsBy 24 = .ok (.iconst 3, 1) := by decide +kernel
theorem dX8_spotsBy_25 : decode cX8_spotsBy 25 = .ok (.iload 4, 2) := by decide +kernel
theorem dX8_spotsBy_27 : decode cX8_spotsBy 27 = .ok (.iload_n 1, 1) := by decide +kernel
theorem dX8_spotsBy_28 : decode cX8_spotsBy 28 = .ok (.invokestatic 204, 3) := by decide +kernel
theorem dX8_spotsBy_31 : decode cX8_spotsBy 31 = .ok (.iload_n 3, 1) := by decide +kernel
theorem dX8_spotsBy_32 : decode cX8_spotsBy 32 = .ok (.aload_n 0, 1) := by decide +kernel
theorem dX8_spotsBy_33 : decode cX8_spotsBy 33 = .ok (.iconst 3, 1) := by decide +kernel
theorem dX8_spotsBy_34 : decode cX8_spotsBy 34 = .ok (.iload_n 2, 1) := by decide +kernel
theorem dX8_spotsBy_35 : decode cX8_spotsBy 35 = .ok (.invokevirtual 227, 3) := by decide +kernel
theorem dX8_spotsBy_38 : decode cX8_spotsBy 38 = .ok (.ldc 96, 2) := by decide +kernel
theorem dX8_spotsBy_40 : decode cX8_spotsBy 40 = .ok (.if_icmp .eq 10, 3) := by decide +kernel
theorem dX8_spotsBy_43 : decode cX8_spotsBy 43 = .ok (.iconst 1, 1) := by decide +kernel
theorem dX8_spotsBy_44 : decode cX8_spotsBy 44 = .ok (.iload 4, 2) := by decide +kernel
theorem dX8_spotsBy_46 : decode cX8_spotsBy 46 = .ok (.ishl, 1) := by decide +kernel
theorem dX8_spotsBy_47 : decode cX8_spotsBy 47 = .ok (.goto 4, 3) := by decide +kernel
theorem dX8_spotsBy_50 : decode cX8_spotsBy 50 = .ok (.iconst 0, 1) := by decide +kernel
theorem dX8_spotsBy_51 : decode cX8_spotsBy 51 = .ok (.ior, 1) := by decide +kernel
theorem dX8_spotsBy_52 : decode cX8_spotsBy 52 = .ok (.istore_n 3, 1) := by decide +kernel
theorem dX8_spotsBy_53 : decode cX8_spotsBy 53 = .ok (.iinc 4 1, 3) := by decide +kernel
theorem dX8_spotsBy_56 : decode cX8_spotsBy 56 = .ok (.goto (-51), 3) := by decide +kernel
theorem dX8_spotsBy_59 : decode cX8_spotsBy 59 = .ok (.iload_n 3, 1) := by decide +kernel
theorem dX8_spotsBy_60 : decode cX8_spotsBy 60 = .ok (.ireturn, 1) := by decide +kernel
theorem dX8_spots_0 : decode cX8_spots 0 = .ok (.aload_n 0, 1) := by decide +kernel
theorem dX8_spots_1 : decode cX8_spots 1 = .ok (.iconst 0, 1) := by decide +kernel
theorem dX8_spots_2 : decode cX8_spots 2 = .ok (.putfield 53, 3) := by decide +kernel
theorem dX8_spots_5 : decode cX8_spots 5 = .ok (.aload_n 0, 1) := by decide +kernel
theorem dX8_spots_6 : decode cX8_spots 6 = .ok (.iload_n 1, 1) := by decide +kernel
theorem dX8_spots_7 : decode cX8_spots 7 = .ok (.invokevirtual 201, 3) := by decide +kernel
theorem dX8_spots_10 : decode cX8_spots 10 = .ok (.ifCond .eq 24, 3) := by decide +kernel
theorem dX8_spots_13 : decode cX8_spots 13 = .ok (.iload_n 2, 1) := by decide +kernel
theorem dX8_spots_14 : decode cX8_spots 14 = .ok (.i2l, 1) := by decide +kernel
theorem dX8_spots_15 : decode cX8_spots 15 = .ok (.lconst 1, 1) := by decide +kernel
theorem dX8_spots_16 : decode cX8_spots 16 = .ok (.ldc2_w 218, 3) := by decide +kernel
theorem dX8_spots_19 : decode cX8_spots 19 = .ok (.invokestatic 63, 3) := by decide +kernel
theorem dX8_spots_22 : decode cX8_spots 22 = .ok (.ifCond .eq 12, 3) := by decide +kernel
theorem dX8_spots_25 : decode cX8_spots 25 = .ok (.aload_n 0, 1) := by decide +kernel
theorem dX8_spots_26 : decode cX8_spots 26 = .ok (.iload_n 1, 1) := by decide +kernel
theorem dX8_spots_27 : decode cX8_spots 27 = .ok (.iload_n 2, 1) := by decide +kernel
theorem dX8_spots_28 : decode cX8_spots 28 = .ok (.invokevirtual 230, 3) := by decide +kernel
theorem dX8_spots_31 : decode cX8_spots 31 = .ok (.goto 5, 3) := by decide +kernel
theorem dX8_spots_34 : decode cX8_spots 34 = .ok (.ldc 73, 2) := by decide +kernel
theorem dX8_spots_36 : decode cX8_spots 36 = .ok (.ireturn, 1) := by decide +kernel
theorem dX8_cutOff_0 : decode cX8_cutOff 0 = .ok (.aload_n 0, 1) := by decide +kernel
theorem dX8_cutOff_1 : decode cX8_cutOff 1 = .ok (.iconst 0, 1) := by decide +kernel
theorem dX8_cutOff_2 : decode cX8_cutOff 2 = .ok (.putfield 53, 3) := by decide +kernel
theorem dX8_cutOff_5 : decode cX8_cutOff 5 = .ok (.aload_n 0, 1) := by decide +kernel
theorem dX8_cutOff_6 : decode cX8_cutOff 6 = .ok (.invokevirtual 155, 3) := by decide +kernel
theorem dX8_cutOff_9 : decode cX8_cutOff 9 = .ok (.ifCond .ne 6, 3) := by decide +kernel
theorem dX8_cutOff_12 : decode cX8_cutOff 12 = .ok (.ldc 189, 2) := by decide +kernel
theorem dX8_cutOff_14 : decode cX8_cutOff 14 = .ok (.ireturn, 1) := by decide +kernel
theorem dX8_cutOff_15 : decode cX8_cutOff 15 = .ok (.iconst 0, 1) := by decide +kernel
theorem dX8_cutOff_16 : decode cX8_cutOff 16 = .ok (.istore_n 1, 1) := by decide +kernel
theorem dX8_cutOff_17 : decode cX8_cutOff 17 = .ok (.iconst 0, 1) := by decide +kernel
theorem dX8_cutOff_18 : decode cX8_cutOff 18 = .ok (.istore_n 2, 1) := by decide +kernel
theorem dX8_cutOff_19 : decode cX8_cutOff 19 = .ok (.iload_n 2, 1) := by decide +kernel
theorem dX8_cutOff_20 : decode cX8_cutOff 20 = .ok (.aload_n 0, 1) := by decide +kernel
theorem dX8_cutOff_21 : decode cX8_cutOff 21 = .ok (.getfield 19, 3) := by decide +kernel
theorem dX8_cutOff_24 : decode cX8_cutOff 24 = .ok (.iconst 0, 1) := by decide +kernel
theorem dX8_cutOff_25 : decode cX8_cutOff 25 = .ok (.iaload, 1) := by decide +kernel
theorem dX8_cutOff_26 : decode cX8_cutOff 26 = .ok (.if_icmp .ge 35, 3) := by decide +kernel
theorem dX8_cutOff_29 : decode cX8_cutOff 29 = .ok (.iload_n 1, 1) := by decide +kernel
theorem dX8_cutOff_30 : decode cX8_cutOff 30 = .ok (.aload_n 0, 1) := by decide +kernel
theorem dX8_cutOff_31 : decode cX8_cutOff 31 = .ok (.iload_n 2, 1) := by decide +kernel
theorem dX8_cutOff_32 : decode cX8_cutOff 32 = .ok (.bipush 99, 2) := by decide +kernel
theorem dX8_cutOff_34 : decode cX8_cutOff 34 = .ok (.invokevirtual 230, 3) := by decide +kernel
theorem dX8_cutOff_37 : decode cX8_cutOff 37 = .ok (.iconst 1, 1) := by decide +kernel
theorem dX8_cutOff_38 : decode cX8_cutOff 38 = .ok (.iload_n 2, 1) := by decide +kernel
theorem dX8_cutOff_39 : decode cX8_cutOff 39 = .ok (.ishl, 1) := by decide +kernel
theorem dX8_cutOff_40 : decode cX8_cutOff 40 = .ok (.iconst (-1), 1) := by decide +kernel
theorem dX8_cutOff_41 : decode cX8_cutOff 41 = .ok (.ixor, 1) := by decide +kernel
theorem dX8_cutOff_42 : decode cX8_cutOff 42 = .ok (.iand, 1) := by decide +kernel
theorem dX8_cutOff_43 : decode cX8_cutOff 43 = .ok (.ifCond .ne 9, 3) := by decide +kernel
theorem dX8_cutOff_46 : decode cX8_cutOff 46 = .ok (.iconst 1, 1) := by decide +kernel
theorem dX8_cutOff_47 : decode cX8_cutOff 47 = .ok (.iload_n 2, 1) := by decide +kernel
theorem dX8_cutOff_48 : decode cX8_cutOff 48 = .ok (.ishl, 1) := by decide +kernel
theorem dX8_cutOff_49 : decode cX8_cutOff 49 = .ok (.goto 4, 3) := by decide +kernel
theorem dX8_cutOff_52 : decode cX8_cutOff 52 = .ok (.iconst 0, 1) := by decide +kernel
theorem dX8_cutOff_53 : decode cX8_cutOff 53 = .ok (.ior, 1) := by decide +kernel
theorem dX8_cutOff_54 : decode cX8_cutOff 54 = .ok (.istore_n 1, 1) := by decide +kernel
theorem dX8_cutOff_55 : decode cX8_cutOff 55 = .ok (.iinc 2 1, 3) := by decide +kernel
theorem dX8_cutOff_58 : decode cX8_cutOff 58 = .ok (.goto (-39), 3) := by decide +kernel
theorem dX8_cutOff_61 : decode cX8_cutOff 61 = .ok (.iload_n 1, 1) := by decide +kernel
theorem dX8_cutOff_62 : decode cX8_cutOff 62 = .ok (.ireturn, 1) := by decide +kernel
theorem dX8_up_0 : decode cX8_up 0 = .ok (.iconst 1, 1) := by decide +kernel
theorem dX8_up_1 : decode cX8_up 1 = .ok (.aload_n 0, 1) := by decide +kernel
theorem dX8_up_2 : decode cX8_up 2 = .ok (.getfield 19, 3) := by decide +kernel
theorem dX8_up_5 : decode cX8_up 5 = .ok (.iconst 2, 1) := by decide +kernel
theorem dX8_up_6 : decode cX8_up 6 = .ok (.iaload, 1) := by decide +kernel
theorem dX8_up_7 : decode cX8_up 7 = .ok (.ishl, 1) := by decide +kernel
theorem dX8_up_8 : decode cX8_up 8 = .ok (.iconst 1, 1) := by decide +kernel
theorem dX8_up_9 : decode cX8_up 9 = .ok (.isub, 1) := by decide +kernel
theorem dX8_up_10 : decode cX8_up 10 = .ok (.aload_n 0, 1) := by decide +kernel
theorem dX8_up_11 : decode cX8_up 11 = .ok (.getfield 19, 3) := by decide +kernel
theorem dX8_up_14 : decode cX8_up 14 = .ok (.iconst 4, 1) := by decide +kernel
theorem dX8_up_15 : decode cX8_up 15 = .ok (.iaload, 1) := by decide +kernel
theorem dX8_up_16 : decode cX8_up 16 = .ok (.iconst (-1), 1) := by decide +kernel
theorem dX8_up_17 : decode cX8_up 17 = .ok (.ixor, 1) := by decide +kernel
theorem dX8_up_18 : decode cX8_up 18 = .ok (.iand, 1) := by decide +kernel
theorem dX8_up_19 : decode cX8_up 19 = .ok (.ireturn, 1) := by decide +kernel
theorem dX8_crew_0 : decode cX8_crew 0 = .ok (.aload_n 0, 1) := by decide +kernel
theorem dX8_crew_1 : decode cX8_crew 1 = .ok (.iconst 0, 1) := by decide +kernel
theorem dX8_crew_2 : decode cX8_crew 2 = .ok (.putfield 53, 3) := by decide +kernel
theorem dX8_crew_5 : decode cX8_crew 5 = .ok (.aload_n 0, 1) := by decide +kernel
theorem dX8_crew_6 : decode cX8_crew 6 = .ok (.iload_n 1, 1) := by decide +kernel
theorem dX8_crew_7 : decode cX8_crew 7 = .ok (.invokevirtual 198, 3) := by decide +kernel
theorem dX8_crew_10 : decode cX8_crew 10 = .ok (.ifCond .eq 25, 3) := by decide +kernel
theorem dX8_crew_13 : decode cX8_crew 13 = .ok (.iload_n 2, 1) := by decide +kernel
theorem dX8_crew_14 : decode cX8_crew 14 = .ok (.i2l, 1) := by decide +kernel
theorem dX8_crew_15 : decode cX8_crew 15 = .ok (.lconst 1, 1) := by decide +kernel
theorem dX8_crew_16 : decode cX8_crew 16 = .ok (.ldc2_w 218, 3) := by decide +kernel
theorem dX8_crew_19 : decode cX8_crew 19 = .ok (.invokestatic 63, 3) := by decide +kernel
theorem dX8_crew_22 : decode cX8_crew 22 = .ok (.ifCond .eq 13, 3) := by decide +kernel
theorem dX8_crew_25 : decode cX8_crew 25 = .ok (.iload_n 3, 1) := by decide +kernel
theorem dX8_crew_26 : decode cX8_crew 26 = .ok (.i2l, 1) := by decide +kernel
theorem dX8_crew_27 : decode cX8_crew 27 = .ok (.lconst 0, 1) := by decide +kernel
theorem dX8_crew_28 : decode cX8_crew 28 = .ok (.lconst 1, 1) := by decide +kernel
theorem dX8_crew_29 : decode cX8_crew 29 = .ok (.invokestatic 63, 3) := by decide +kernel
theorem dX8_crew_32 : decode cX8_crew 32 = .ok (.ifCond .ne 6, 3) := by decide +kernel
theorem dX8_crew_35 : decode cX8_crew 35 = .ok (.ldc 73, 2) := by decide +kernel
theorem dX8_crew_37 : decode cX8_crew 37 = .ok (.ireturn, 1) := by decide +kernel
theorem dX8_crew_38 : decode cX8_crew 38 = .ok (.aload_n 0, 1) := by decide +kernel
theorem dX8_crew_39 : decode cX8_crew 39 = .ok (.getfield 19, 3) := by decide +kernel
theorem dX8_crew_42 : decode cX8_crew 42 = .ok (.iload_n 1, 1) := by decide +kernel
theorem dX8_crew_43 : decode cX8_crew 43 = .ok (.invokestatic 164, 3) := by decide +kernel
theorem dX8_crew_46 : decode cX8_crew 46 = .ok (.ifCond .ne 6, 3) := by decide +kernel
theorem dX8_crew_49 : decode cX8_crew 49 = .ok (.ldc 189, 2) := by decide +kernel
theorem dX8_crew_51 : decode cX8_crew 51 = .ok (.ireturn, 1) := by decide +kernel
theorem dX8_crew_52 : decode cX8_crew 52 = .ok (.iconst 1, 1) := by decide +kernel
theorem dX8_crew_53 : decode cX8_crew 53 = .ok (.aload_n 0, 1) := by decide +kernel
theorem dX8_crew_54 : decode cX8_crew 54 = .ok (.getfield 19, 3) := by decide +kernel
theorem dX8_crew_57 : decode cX8_crew 57 = .ok (.iconst 2, 1) := by decide +kernel
theorem dX8_crew_58 : decode cX8_crew 58 = .ok (.iaload, 1) := by decide +kernel
theorem dX8_crew_59 : decode cX8_crew 59 = .ok (.ishl, 1) := by decide +kernel
theorem dX8_crew_60 : decode cX8_crew 60 = .ok (.iconst 1, 1) := by decide +kernel
theorem dX8_crew_61 : decode cX8_crew 61 = .ok (.isub, 1) := by decide +kernel
theorem dX8_crew_62 : decode cX8_crew 62 = .ok (.istore 4, 2) := by decide +kernel
theorem dX8_crew_64 : decode cX8_crew 64 = .ok (.ldc 96, 2) := by decide +kernel
theorem dX8_crew_66 : decode cX8_crew 66 = .ok (.istore 5, 2) := by decide +kernel
theorem dX8_crew_68 : decode cX8_crew 68 = .ok (.iconst 0, 1) := by decide +kernel
theorem dX8_crew_69 : decode cX8_crew 69 = .ok (.istore 6, 2) := by decide +kernel
theorem dX8_crew_71 : decode cX8_crew 71 = .ok (.iload 6, 2) := by decide +kernel
theorem dX8_crew_73 : decode cX8_crew 73 = .ok (.aload_n 0, 1) := by decide +kernel
theorem dX8_crew_74 : decode cX8_crew 74 = .ok (.invokevirtual 233, 3) := by decide +kernel
theorem dX8_crew_77 : decode cX8_crew 77 = .ok (.if_icmp .gt 78, 3) := by decide +kernel
theorem dX8_crew_80 : decode cX8_crew 80 = .ok (.iload 6, 2) := by decide +kernel
theorem dX8_crew_82 : decode cX8_crew 82 = .ok (.aload_n 0, 1) := by decide +kernel
theorem dX8_crew_83 : decode cX8_crew 83 = .ok (.invokevirtual 233, 3) := by decide +kernel
theorem dX8_crew_86 : decode cX8_crew 86 = .ok (.iconst (-1), 1) := by decide +kernel
theorem dX8_crew_87 : decode cX8_crew 87 = .ok (.ixor, 1) := by decide +kernel
theorem dX8_crew_88 : decode cX8_crew 88 = .ok (.iand, 1) := by decide +kernel
theorem dX8_crew_89 : decode cX8_crew 89 = .ok (.ifCond .ne 60, 3) := by decide +kernel
theorem dX8_crew_92 : decode cX8_crew 92 = .ok (.iload 5, 2) := by decide +kernel
theorem dX8_crew_94 : decode cX8_crew 94 = .ok (.ldc 96, 2) := by decide +kernel
theorem dX8_crew_96 : decode cX8_crew 96 = .ok (.if_icmp .eq 16, 3) := by decide +kernel
theorem dX8_crew_99 : decode cX8_crew 99 = .ok (.iload 6, 2) := by decide +kernel
theorem dX8_crew_101 : decode cX8_crew 101 = .ok (.invokestatic 237, 3) := by decide +kernel
theorem dX8_crew_104 : decode cX8_crew 104 = .ok (.iload 5, 2) := by decide +kernel
theorem dX8_crew_106 : decode cX8_crew 106 = .ok (.invokestatic 237, 3) := by decide +kernel
theorem dX8_crew_109 : decode cX8_crew 109 = .ok (.if_icmp .ge 40, 3) := by decide +kernel
theorem dX8_crew_112 : decode cX8_crew 112 = .ok (.aload_n 0, 1) := by decide +kernel
theorem dX8_crew_113 : decode cX8_crew 113 = .ok (.invokevirtual 220, 3) := by decide +kernel
theorem dX8_crew_116 : decode cX8_crew 116 = .ok (.aload_n 0, 1) := by decide +kernel
theorem dX8_crew_117 : decode cX8_crew 117 = .ok (.getfield 25, 3) := by decide +kernel
theorem dX8_crew_120 : decode cX8_crew 120 = .ok (.iconst 4, 1) := by decide +kernel
theorem dX8_crew_121 : decode cX8_crew 121 = .ok (.iload 4, 2) := by decide +kernel
theorem dX8_crew_123 : decode cX8_crew 123 = .ok (.iload 6, 2) := by decide +kernel
theorem dX8_crew_125 : decode cX8_crew 125 = .ok (.iconst (-1), 1) := by decide +kernel
theorem dX8_crew_126 : decode cX8_crew 126 = .ok (.ixor, 1) := by decide +kernel
theorem dX8_crew_127 : decode cX8_crew 127 = .ok (.iand, 1) := by decide +kernel
theorem dX8_crew_128 : decode cX8_crew 128 = .ok (.iastore, 1) := by decide +kernel
theorem dX8_crew_129 : decode cX8_crew 129 = .ok (.aload_n 0, 1) := by decide +kernel
theorem dX8_crew_130 : decode cX8_crew 130 = .ok (.iload_n 1, 1) := by decide +kernel
theorem dX8_crew_131 : decode cX8_crew 131 = .ok (.iload_n 2, 1) := by decide +kernel
theorem dX8_crew_132 : decode cX8_crew 132 = .ok (.invokevirtual 227, 3) := by decide +kernel
theorem dX8_crew_135 : decode cX8_crew 135 = .ok (.ldc 96, 2) := by decide +kernel
theorem dX8_crew_137 : decode cX8_crew 137 = .ok (.if_icmp .eq 8, 3) := by decide +kernel
theorem dX8_crew_140 : decode cX8_crew 140 = .ok (.iload 6, 2) := by decide +kernel
theorem dX8_crew_142 : decode cX8_crew 142 = .ok (.goto 5, 3) := by decide +kernel
theorem dX8_crew_145 : decode cX8_crew 145 = .ok (.iload 5, 2) := by decide +kernel
theorem dX8_crew_147 : decode cX8_crew 147 = .ok (.istore 5, 2) := by decide +kernel
theorem dX8_crew_149 : decode cX8_crew 149 = .ok (.iinc 6 1, 3) := by decide +kernel
theorem dX8_crew_152 : decode cX8_crew 152 = .ok (.goto (-81), 3) := by decide +kernel
theorem dX8_crew_155 : decode cX8_crew 155 = .ok (.iload 5, 2) := by decide +kernel
theorem dX8_crew_157 : decode cX8_crew 157 = .ok (.ldc 96, 2) := by decide +kernel
theorem dX8_crew_159 : decode cX8_crew 159 = .ok (.if_icmp .eq 8, 3) := by decide +kernel
theorem dX8_crew_162 : decode cX8_crew 162 = .ok (.iload_n 3, 1) := by decide +kernel
theorem dX8_crew_163 : decode cX8_crew 163 = .ok (.iconst 1, 1) := by decide +kernel
theorem dX8_crew_164 : decode cX8_crew 164 = .ok (.if_icmp .ne 8, 3) := by decide +kernel
theorem dX8_crew_167 : decode cX8_crew 167 = .ok (.iload 5, 2) := by decide +kernel
theorem dX8_crew_169 : decode cX8_crew 169 = .ok (.goto 8, 3) := by decide +kernel
theorem dX8_crew_172 : decode cX8_crew 172 = .ok (.iload 5, 2) := by decide +kernel
theorem dX8_crew_174 : decode cX8_crew 174 = .ok (.invokestatic 237, 3) := by decide +kernel
theorem dX8_crew_177 : decode cX8_crew 177 = .ok (.ireturn, 1) := by decide +kernel
theorem dX8_needed_0 : decode cX8_needed 0 = .ok (.aload_n 0, 1) := by decide +kernel
theorem dX8_needed_1 : decode cX8_needed 1 = .ok (.iconst 0, 1) := by decide +kernel
theorem dX8_needed_2 : decode cX8_needed 2 = .ok (.putfield 53, 3) := by decide +kernel
theorem dX8_needed_5 : decode cX8_needed 5 = .ok (.aload_n 0, 1) := by decide +kernel
theorem dX8_needed_6 : decode cX8_needed 6 = .ok (.iload_n 1, 1) := by decide +kernel
theorem dX8_needed_7 : decode cX8_needed 7 = .ok (.invokevirtual 198, 3) := by decide +kernel
theorem dX8_needed_10 : decode cX8_needed 10 = .ok (.ifCond .eq 15, 3) := by decide +kernel
theorem dX8_needed_13 : decode cX8_needed 13 = .ok (.iload_n 2, 1) := by decide +kernel
theorem dX8_needed_14 : decode cX8_needed 14 = .ok (.i2l, 1) := by decide +kernel
theorem dX8_needed_15 : decode cX8_needed 15 = .ok (.lconst 1, 1) := by decide +kernel
theorem dX8_needed_16 : decode cX8_needed 16 = .ok (.ldc2_w 218, 3) := by decide +kernel
theorem dX8_needed_19 : decode cX8_needed 19 = .ok (.invokestatic 63, 3) := by decide +kernel
theorem dX8_needed_22 : decode cX8_needed 22 = .ok (.ifCond .ne 6, 3) := by decide +kernel
theorem dX8_needed_25 : decode cX8_needed 25 = .ok (.ldc 73, 2) := by decide +kernel
theorem dX8_needed_27 : decode cX8_needed 27 = .ok (.ireturn, 1) := by decide +kernel
theorem dX8_needed_28 : decode cX8_needed 28 = .ok (.aload_n 0, 1) := by decide +kernel
theorem dX8_needed_29 : decode cX8_needed 29 = .ok (.getfield 19, 3) := by decide +kernel
theorem dX8_needed_32 : decode cX8_needed 32 = .ok (.iload_n 1, 1) := by decide +kernel
theorem dX8_needed_33 : decode cX8_needed 33 = .ok (.invokestatic 164, 3) := by decide +kernel
theorem dX8_needed_36 : decode cX8_needed 36 = .ok (.ifCond .ne 6, 3) := by decide +kernel
theorem dX8_needed_39 : decode cX8_needed 39 = .ok (.ldc 189, 2) := by decide +kernel
theorem dX8_needed_41 : decode cX8_needed 41 = .ok (.ireturn, 1) := by decide +kernel
theorem dX8_needed_42 : decode cX8_needed 42 = .ok (.aload_n 0, 1) := by decide +kernel
theorem dX8_needed_43 : decode cX8_needed 43 = .ok (.invokevirtual 220, 3) := by decide +kernel
theorem dX8_needed_46 : decode cX8_needed 46 = .ok (.aload_n 0, 1) := by decide +kernel
theorem dX8_needed_47 : decode cX8_needed 47 = .ok (.iload_n 1, 1) := by decide +kernel
theorem dX8_needed_48 : decode cX8_needed 48 = .ok (.iload_n 2, 1) := by decide +kernel
theorem dX8_needed_49 : decode cX8_needed 49 = .ok (.invokevirtual 227, 3) := by decide +kernel
theorem dX8_needed_52 : decode cX8_needed 52 = .ok (.ldc 96, 2) := by decide +kernel
theorem dX8_needed_54 : decode cX8_needed 54 = .ok (.if_icmp .ne 5, 3) := by decide +kernel
theorem dX8_needed_57 : decode cX8_needed 57 = .ok (.iconst 0, 1) := by decide +kernel
theorem dX8_needed_58 : decode cX8_needed 58 = .ok (.ireturn, 1) := by decide +kernel
theorem dX8_needed_59 : decode cX8_needed 59 = .ok (.iconst 0, 1) := by decide +kernel
theorem dX8_needed_60 : decode cX8_needed 60 = .ok (.istore_n 3, 1) := by decide +kernel
theorem dX8_needed_61 : decode cX8_needed 61 = .ok (.iconst 0, 1) := by decide +kernel
theorem dX8_needed_62 : decode cX8_needed 62 = .ok (.istore 4, 2) := by decide +kernel
theorem dX8_needed_64 : decode cX8_needed 64 = .ok (.iload 4, 2) := by decide +kernel
theorem dX8_needed_66 : decode cX8_needed 66 = .ok (.aload_n 0, 1) := by decide +kernel
theorem dX8_needed_67 : decode cX8_needed 67 = .ok (.getfield 19, 3) := by decide +kernel
theorem dX8_needed_70 : decode cX8_needed 70 = .ok (.iconst 2, 1) := by decide +kernel
theorem dX8_needed_71 : decode cX8_needed 71 = .ok (.iaload, 1) := by decide +kernel
theorem dX8_needed_72 : decode cX8_needed 72 = .ok (.if_icmp .ge 60, 3) := by decide +kernel
theorem dX8_needed_75 : decode cX8_needed 75 = .ok (.aload_n 0, 1) := by decide +kernel
theorem dX8_needed_76 : decode cX8_needed 76 = .ok (.invokevirtual 233, 3) := by decide +kernel
theorem dX8_needed_79 : decode cX8_needed 79 = .ok (.iload 4, 2) := by decide +kernel
theorem dX8_needed_81 : decode cX8_needed 81 = .ok (.invokestatic 171, 3) := by decide +kernel
theorem dX8_needed_84 : decode cX8_needed 84 = .ok (.ifCond .eq 42, 3) := by decide +kernel
theorem dX8_needed_87 : decode cX8_needed 87 = .ok (.aload_n 0, 1) := by decide +kernel
theorem dX8_needed_88 : decode cX8_needed 88 = .ok (.invokevirtual 220, 3) := by decide +kernel
theorem dX8_needed_91 : decode cX8_needed 91 = .ok (.aload_n 0, 1) := by decide +kernel
theorem dX8_needed_92 : decode cX8_needed 92 = .ok (.getfield 25, 3) := by decide +kernel
theorem dX8_needed_95 : decode cX8_needed 95 = .ok (.iconst 4, 1) := by decide +kernel
theorem dX8_needed_96 : decode cX8_needed 96 = .ok (.dup2, 1) := by decide +kernel
theorem dX8_needed_97 : decode cX8_needed 97 = .ok (.iaload, 1) := by decide +kernel
theorem dX8_needed_98 : decode cX8_needed 98 = .ok (.iconst 1, 1) := by decide +kernel
theorem dX8_needed_99 : decode cX8_needed 99 = .ok (.iload 4, 2) := by decide +kernel
theorem dX8_needed_101 : decode cX8_needed 101 = .ok (.ishl, 1) := by decide +kernel
theorem dX8_needed_102 : decode cX8_needed 102 = .ok (.ior, 1) := by decide +kernel
theorem dX8_needed_103 : decode cX8_needed 103 = .ok (.iastore, 1) := by decide +kernel
theorem dX8_needed_104 : decode cX8_needed 104 = .ok (.iload_n 3, 1) := by decide +kernel
theorem dX8_needed_105 : decode cX8_needed 105 = .ok (.aload_n 0, 1) := by decide +kernel
theorem dX8_needed_106 : decode cX8_needed 106 = .ok (.iload_n 1, 1) := by decide +kernel
theorem dX8_needed_107 : decode cX8_needed 107 = .ok (.iload_n 2, 1) := by decide +kernel
theorem dX8_needed_108 : decode cX8_needed 108 = .ok (.invokevirtual 227, 3) := by decide +kernel
theorem dX8_needed_111 : decode cX8_needed 111 = .ok (.ldc 96, 2) := by decide +kernel
theorem dX8_needed_113 : decode cX8_needed 113 = .ok (.if_icmp .ne 10, 3) := by decide +kernel
theorem dX8_needed_116 : decode cX8_needed 116 = .ok (.iconst 1, 1) := by decide +kernel
theorem dX8_needed_117 : decode cX8_needed 117 = .ok (.iload 4, 2) := by decide +kernel
theorem dX8_needed_119 : decode cX8_needed 119 = .ok (.ishl, 1) := by decide +kernel
theorem dX8_needed_120 : decode cX8_needed 120 = .ok (.goto 4, 3) := by decide +kernel
theorem dX8_needed_123 : decode cX8_needed 123 = .ok (.iconst 0, 1) := by decide +kernel
theorem dX8_needed_124 : decode cX8_needed 124 = .ok (.ior, 1) := by decide +kernel
theorem dX8_needed_125 : decode cX8_needed 125 = .ok (.istore_n 3, 1) := by decide +kernel
theorem dX8_needed_126 : decode cX8_needed 126 = .ok (.iinc 4 1, 3) := by decide +kernel
theorem dX8_needed_129 : decode cX8_needed 129 = .ok (.goto (-65), 3) := by decide +kernel
theorem dX8_needed_132 : decode cX8_needed 132 = .ok (.iload_n 3, 1) := by decide +kernel
theorem dX8_needed_133 : decode cX8_needed 133 = .ok (.ireturn, 1) := by decide +kernel
theorem dX8_meet_0 : decode cX8_meet 0 = .ok (.aload_n 0, 1) := by decide +kernel
theorem dX8_meet_1 : decode cX8_meet 1 = .ok (.iconst 0, 1) := by decide +kernel
theorem dX8_meet_2 : decode cX8_meet 2 = .ok (.putfield 53, 3) := by decide +kernel
theorem dX8_meet_5 : decode cX8_meet 5 = .ok (.aload_n 0, 1) := by decide +kernel
theorem dX8_meet_6 : decode cX8_meet 6 = .ok (.iload_n 1, 1) := by decide +kernel
theorem dX8_meet_7 : decode cX8_meet 7 = .ok (.invokevirtual 211, 3) := by decide +kernel
theorem dX8_meet_10 : decode cX8_meet 10 = .ok (.ifCond .eq 16, 3) := by decide +kernel
theorem dX8_meet_13 : decode cX8_meet 13 = .ok (.aload_n 0, 1) := by decide +kernel
theorem dX8_meet_14 : decode cX8_meet 14 = .ok (.iload_n 2, 1) := by decide +kernel
theorem dX8_meet_15 : decode cX8_meet 15 = .ok (.invokevirtual 211, 3) := by decide +kernel
theorem dX8_meet_18 : decode cX8_meet 18 = .ok (.ifCond .eq 8, 3) := by decide +kernel
theorem dX8_meet_21 : decode cX8_meet 21 = .ok (.iload_n 1, 1) := by decide +kernel
theorem dX8_meet_22 : decode cX8_meet 22 = .ok (.iload_n 2, 1) := by decide +kernel
theorem dX8_meet_23 : decode cX8_meet 23 = .ok (.if_icmp .ne 6, 3) := by decide +kernel
theorem dX8_meet_26 : decode cX8_meet 26 = .ok (.ldc 73, 2) := by decide +kernel
theorem dX8_meet_28 : decode cX8_meet 28 = .ok (.ireturn, 1) := by decide +kernel
theorem dX8_meet_29 : decode cX8_meet 29 = .ok (.iconst 0, 1) := by decide +kernel
theorem dX8_meet_30 : decode cX8_meet 30 = .ok (.istore_n 3, 1) := by decide +kernel
theorem dX8_meet_31 : decode cX8_meet 31 = .ok (.iload_n 3, 1) := by decide +kernel
theorem dX8_meet_32 : decode cX8_meet 32 = .ok (.bipush 99, 2) := by decide +kernel
theorem dX8_meet_34 : decode cX8_meet 34 = .ok (.if_icmp .gt 46, 3) := by decide +kernel
theorem dX8_meet_37 : decode cX8_meet 37 = .ok (.aload_n 0, 1) := by decide +kernel
theorem dX8_meet_38 : decode cX8_meet 38 = .ok (.getfield 19, 3) := by decide +kernel
theorem dX8_meet_41 : decode cX8_meet 41 = .ok (.iload_n 1, 1) := by decide +kernel
theorem dX8_meet_42 : decode cX8_meet 42 = .ok (.aload_n 0, 1) := by decide +kernel
theorem dX8_meet_43 : decode cX8_meet 43 = .ok (.getfield 19, 3) := by decide +kernel
theorem dX8_meet_46 : decode cX8_meet 46 = .ok (.iconst 3, 1) := by decide +kernel
theorem dX8_meet_47 : decode cX8_meet 47 = .ok (.iaload, 1) := by decide +kernel
theorem dX8_meet_48 : decode cX8_meet 48 = .ok (.iload_n 3, 1) := by decide +kernel
theorem dX8_meet_49 : decode cX8_meet 49 = .ok (.iadd, 1) := by decide +kernel
theorem dX8_meet_50 : decode cX8_meet 50 = .ok (.invokestatic 175, 3) := by decide +kernel
theorem dX8_meet_53 : decode cX8_meet 53 = .ok (.aload_n 0, 1) := by decide +kernel
theorem dX8_meet_54 : decode cX8_meet 54 = .ok (.getfield 19, 3) := by decide +kernel
theorem dX8_meet_57 : decode cX8_meet 57 = .ok (.iload_n 2, 1) := by decide +kernel
theorem dX8_meet_58 : decode cX8_meet 58 = .ok (.aload_n 0, 1) := by decide +kernel
theorem dX8_meet_59 : decode cX8_meet 59 = .ok (.getfield 19, 3) := by decide +kernel
theorem dX8_meet_62 : decode cX8_meet 62 = .ok (.iconst 3, 1) := by decide +kernel
theorem dX8_meet_63 : decode cX8_meet 63 = .ok (.iaload, 1) := by decide +kernel
theorem dX8_meet_64 : decode cX8_meet 64 = .ok (.iload_n 3, 1) := by decide +kernel
theorem dX8_meet_65 : decode cX8_meet 65 = .ok (.iadd, 1) := by decide +kernel
theorem dX8_meet_66 : decode cX8_meet 66 = .ok (.invokestatic 175, 3) := by decide +kernel
theorem dX8_meet_69 : decode cX8_meet 69 = .ok (.if_icmp .ne 5, 3) := by decide +kernel
theorem dX8_meet_72 : decode cX8_meet 72 = .ok (.iload_n 3, 1) := by decide +kernel
theorem dX8_meet_73 : decode cX8_meet 73 = .ok (.ireturn, 1) := by decide +kernel
theorem dX8_meet_74 : decode cX8_meet 74 = .ok (.iinc 3 1, 3) := by decide +kernel
theorem dX8_meet_77 : decode cX8_meet 77 = .ok (.goto (-46), 3) := by decide +kernel
theorem dX8_meet_80 : decode cX8_meet 80 = .ok (.ldc 96, 2) := by decide +kernel
theorem dX8_meet_82 : decode cX8_meet 82 = .ok (.ireturn, 1) := by decide +kernel
theorem dX8_answer_0 : decode cX8_answer 0 = .ok (.aload_n 0, 1) := by decide +kernel
theorem dX8_answer_1 : decode cX8_answer 1 = .ok (.iconst 0, 1) := by decide +kernel
theorem dX8_answer_2 : decode cX8_answer 2 = .ok (.putfield 53, 3) := by decide +kernel
theorem dX8_answer_5 : decode cX8_answer 5 = .ok (.aload_n 0, 1) := by decide +kernel
theorem dX8_answer_6 : decode cX8_answer 6 = .ok (.iload_n 1, 1) := by decide +kernel
theorem dX8_answer_7 : decode cX8_answer 7 = .ok (.invokevirtual 198, 3) := by decide +kernel
theorem dX8_answer_10 : decode cX8_answer 10 = .ok (.ifCond .ne 6, 3) := by decide +kernel
theorem dX8_answer_13 : decode cX8_answer 13 = .ok (.ldc 73, 2) := by decide +kernel
theorem dX8_answer_15 : decode cX8_answer 15 = .ok (.ireturn, 1) := by decide +kernel
theorem dX8_answer_16 : decode cX8_answer 16 = .ok (.aload_n 0, 1) := by decide +kernel
theorem dX8_answer_17 : decode cX8_answer 17 = .ok (.getfield 19, 3) := by decide +kernel
theorem dX8_answer_20 : decode cX8_answer 20 = .ok (.iload_n 1, 1) := by decide +kernel
theorem dX8_answer_21 : decode cX8_answer 21 = .ok (.invokestatic 164, 3) := by decide +kernel
theorem dX8_answer_24 : decode cX8_answer 24 = .ok (.ifCond .ne 6, 3) := by decide +kernel
theorem dX8_answer_27 : decode cX8_answer 27 = .ok (.ldc 189, 2) := by decide +kernel
theorem dX8_answer_29 : decode cX8_answer 29 = .ok (.ireturn, 1) := by decide +kernel
theorem dX8_answer_30 : decode cX8_answer 30 = .ok (.aload_n 0, 1) := by decide +kernel
theorem dX8_answer_31 : decode cX8_answer 31 = .ok (.invokevirtual 220, 3) := by decide +kernel
theorem dX8_answer_34 : decode cX8_answer 34 = .ok (.aload_n 0, 1) := by decide +kernel
theorem dX8_answer_35 : decode cX8_answer 35 = .ok (.iload_n 1, 1) := by decide +kernel
theorem dX8_answer_36 : decode cX8_answer 36 = .ok (.bipush 99, 2) := by decide +kernel
theorem dX8_answer_38 : decode cX8_answer 38 = .ok (.invokevirtual 227, 3) := by decide +kernel
theorem dX8_answer_41 : decode cX8_answer 41 = .ok (.istore_n 2, 1) := by decide +kernel
theorem dX8_answer_42 : decode cX8_answer 42 = .ok (.iload_n 2, 1) := by decide +kernel
theorem dX8_answer_43 : decode cX8_answer 43 = .ok (.ldc 96, 2) := by decide +kernel
theorem dX8_answer_45 : decode cX8_answer 45 = .ok (.if_icmp .ne 6, 3) := by decide +kernel
theorem dX8_answer_48 : decode cX8_answer 48 = .ok (.ldc 96, 2) := by decide +kernel
theorem dX8_answer_50 : decode cX8_answer 50 = .ok (.ireturn, 1) := by decide +kernel
theorem dX8_answer_51 : decode cX8_answer 51 = .ok (.aload_n 0, 1) := by decide +kernel
theorem dX8_answer_52 : decode cX8_answer 52 = .ok (.getfield 25, 3) := by decide +kernel
theorem dX8_answer_55 : decode cX8_answer 55 = .ok (.iconst 3, 1) := by decide +kernel
theorem dX8_answer_56 : decode cX8_answer 56 = .ok (.aload_n 0, 1) := by decide +kernel
theorem dX8_answer_57 : decode cX8_answer 57 = .ok (.getfield 19, 3) := by decide +kernel
theorem dX8_answer_60 : decode cX8_answer 60 = .ok (.iload_n 1, 1) := by decide +kernel
theorem dX8_answer_61 : decode cX8_answer 61 = .ok (.iconst 2, 1) := by decide +kernel
theorem dX8_answer_62 : decode cX8_answer 62 = .ok (.invokestatic 160, 3) := by decide +kernel
theorem dX8_answer_65 : decode cX8_answer 65 = .ok (.aload_n 0, 1) := by decide +kernel
theorem dX8_answer_66 : decode cX8_answer 66 = .ok (.getfield 19, 3) := by decide +kernel
theorem dX8_answer_69 : decode cX8_answer 69 = .ok (.iload_n 1, 1) := by decide +kernel
theorem dX8_answer_70 : decode cX8_answer 70 = .ok (.iconst 1, 1) := by decide +kernel
theorem dX8_answer_71 : decode cX8_answer 71 = .ok (.invokestatic 160, 3) := by decide +kernel
theorem dX8_answer_74 : decode cX8_answer 74 = .ok (.invokestatic 204, 3) := by decide +kernel
theorem dX8_answer_77 : decode cX8_answer 77 = .ok (.aload_n 0, 1) := by decide +kernel
theorem dX8_answer_78 : decode cX8_answer 78 = .ok (.iconst 3, 1) := by decide +kernel
theorem dX8_answer_79 : decode cX8_answer 79 = .ok (.bipush 99, 2) := by decide +kernel
theorem dX8_answer_81 : decode cX8_answer 81 = .ok (.invokevirtual 227, 3) := by decide +kernel
theorem dX8_answer_84 : decode cX8_answer 84 = .ok (.istore_n 3, 1) := by decide +kernel
theorem dX8_answer_85 : decode cX8_answer 85 = .ok (.iload_n 3, 1) := by decide +kernel
theorem dX8_answer_86 : decode cX8_answer 86 = .ok (.ldc 96, 2) := by decide +kernel
theorem dX8_answer_88 : decode cX8_answer 88 = .ok (.if_icmp .ne 8, 3) := by decide +kernel
theorem dX8_answer_91 : decode cX8_answer 91 = .ok (.ldc 96, 2) := by decide +kernel
theorem dX8_answer_93 : decode cX8_answer 93 = .ok (.goto 6, 3) := by decide +kernel
theorem dX8_answer_96 : decode cX8_answer 96 = .ok (.iload_n 2, 1) := by decide +kernel
theorem dX8_answer_97 : decode cX8_answer 97 = .ok (.iload_n 3, 1) := by decide +kernel
theorem dX8_answer_98 : decode cX8_answer 98 = .ok (.iadd, 1) := by decide +kernel
theorem dX8_answer_99 : decode cX8_answer 99 = .ok (.ireturn, 1) := by decide +kernel
theorem dX8_isSo_0 : decode cX8_isSo 0 = .ok (.iconst 1, 1) := by decide +kernel
theorem dX8_isSo_1 : decode cX8_isSo 1 = .ok (.istore 4, 2) := by decide +kernel
theorem dX8_isSo_3 : decode cX8_isSo 3 = .ok (.iconst 0, 1) := by decide +kernel
theorem dX8_isSo_4 : decode cX8_isSo 4 = .ok (.istore 5, 2) := by decide +kernel
theorem dX8_isSo_6 : decode cX8_isSo 6 = .ok (.iload 5, 2) := by decide +kernel
theorem dX8_isSo_8 : decode cX8_isSo 8 = .ok (.iload_n 3, 1) := by decide +kernel
theorem dX8_isSo_9 : decode cX8_isSo 9 = .ok (.if_icmp .ge 52, 3) := by decide +kernel
theorem dX8_isSo_12 : decode cX8_isSo 12 = .ok (.aload_n 0, 1) := by decide +kernel
theorem dX8_isSo_13 : decode cX8_isSo 13 = .ok (.aload_n 0, 1) := by decide +kernel
theorem dX8_isSo_14 : decode cX8_isSo 14 = .ok (.getfield 25, 3) := by decide +kernel
theorem dX8_isSo_17 : decode cX8_isSo 17 = .ok (.invokevirtual 182, 3) := by decide +kernel
theorem dX8_isSo_20 : decode cX8_isSo 20 = .ok (.istore 6, 2) := by decide +kernel
theorem dX8_isSo_22 : decode cX8_isSo 22 = .ok (.iload 4, 2) := by decide +kernel
theorem dX8_isSo_24 : decode cX8_isSo 24 = .ok (.ifCond .eq 28, 3) := by decide +kernel
theorem dX8_isSo_27 : decode cX8_isSo 27 = .ok (.aload_n 0, 1) := by decide +kernel
theorem dX8_isSo_28 : decode cX8_isSo 28 = .ok (.getfield 25, 3) := by decide +kernel
theorem dX8_isSo_31 : decode cX8_isSo 31 = .ok (.iload_n 1, 1) := by decide +kernel
theorem dX8_isSo_32 : decode cX8_isSo 32 = .ok (.iconst 1, 1) := by decide +kernel
theorem dX8_isSo_33 : decode cX8_isSo 33 = .ok (.invokestatic 160, 3) := by decide +kernel
theorem dX8_isSo_36 : decode cX8_isSo 36 = .ok (.aload_n 0, 1) := by decide +kernel
theorem dX8_isSo_37 : decode cX8_isSo 37 = .ok (.getfield 16, 3) := by decide +kernel
theorem dX8_isSo_40 : decode cX8_isSo 40 = .ok (.iload_n 2, 1) := by decide +kernel
theorem dX8_isSo_41 : decode cX8_isSo 41 = .ok (.iload 5, 2) := by decide +kernel
theorem dX8_isSo_43 : decode cX8_isSo 43 = .ok (.iadd, 1) := by decide +kernel
theorem dX8_isSo_44 : decode cX8_isSo 44 = .ok (.iaload, 1) := by decide +kernel
theorem dX8_isSo_45 : decode cX8_isSo 45 = .ok (.if_icmp .ne 7, 3) := by decide +kernel
theorem dX8_isSo_48 : decode cX8_isSo 48 = .ok (.iconst 1, 1) := by decide +kernel
theorem dX8_isSo_49 : decode cX8_isSo 49 = .ok (.goto 4, 3) := by decide +kernel
theorem dX8_isSo_52 : decode cX8_isSo 52 = .ok (.iconst 0, 1) := by decide +kernel
theorem dX8_isSo_53 : decode cX8_isSo 53 = .ok (.istore 4, 2) := by decide +kernel
theorem dX8_isSo_55 : decode cX8_isSo 55 = .ok (.iinc 5 1, 3) := by decide +kernel
theorem dX8_isSo_58 : decode cX8_isSo 58 = .ok (.goto (-52), 3) := by decide +kernel
theorem dX8_isSo_61 : decode cX8_isSo 61 = .ok (.iload 4, 2) := by decide +kernel
theorem dX8_isSo_63 : decode cX8_isSo 63 = .ok (.ireturn, 1) := by decide +kernel
theorem dX8_rowFound_0 : decode cX8_rowFound 0 = .ok (.aload_n 0, 1) := by decide +kernel
theorem dX8_rowFound_1 : decode cX8_rowFound 1 = .ok (.getfield 7, 3) := by decide +kernel
theorem dX8_rowFound_4 : decode cX8_rowFound 4 = .ok (.iload_n 1, 1) := by decide +kernel
theorem dX8_rowFound_5 : decode cX8_rowFound 5 = .ok (.iaload, 1) := by decide +kernel
theorem dX8_rowFound_6 : decode cX8_rowFound 6 = .ok (.ifCond .ge 9, 3) := by decide +kernel
theorem dX8_rowFound_9 : decode cX8_rowFound 9 = .ok (.aload_n 0, 1) := by decide +kernel
theorem dX8_rowFound_10 : decode cX8_rowFound 10 = .ok (.iconst 1, 1) := by decide +kernel
theorem dX8_rowFound_11 : decode cX8_rowFound 11 = .ok (.invokevirtual 74, 3) := by decide +kernel
theorem dX8_rowFound_14 : decode cX8_rowFound 14 = .ok (.ireturn, 1) := by decide +kernel
theorem dX8_rowFound_15 : decode cX8_rowFound 15 = .ok (.iload_n 2, 1) := by decide +kernel
theorem dX8_rowFound_16 : decode cX8_rowFound 16 = .ok (.ifCond .lt 19, 3) := by decide +kernel
theorem dX8_rowFound_19 : decode cX8_rowFound 19 = .ok (.iload_n 2, 1) := by decide +kernel
theorem dX8_rowFound_20 : decode cX8_rowFound 20 = .ok (.i2l, 1) := by decide +kernel
theorem dX8_rowFound_21 : decode cX8_rowFound 21 = .ok (.iload_n 3, 1) := by decide +kernel
theorem dX8_rowFound_22 : decode cX8_rowFound 22 = .ok (.i2l, 1) := by decide +kernel
theorem dX8_rowFound_23 : decode cX8_rowFound 23 = .ok (.ladd, 1) := by decide +kernel
theorem dX8_rowFound_24 : decode cX8_rowFound 24 = .ok (.aload_n 0, 1) := by decide +kernel
theorem dX8_rowFound_25 : decode cX8_rowFound 25 = .ok (.getfield 13, 3) := by decide +kernel
theorem dX8_rowFound_28 : decode cX8_rowFound 28 = .ok (.iload_n 1, 1) := by decide +kernel
theorem dX8_rowFound_29 : decode cX8_rowFound 29 = .ok (.iaload, 1) := by decide +kernel
theorem dX8_rowFound_30 : decode cX8_rowFound 30 = .ok (.i2l, 1) := by decide +kernel
theorem dX8_rowFound_31 : decode cX8_rowFound 31 = .ok (.lcmp, 1) := by decide +kernel
theorem dX8_rowFound_32 : decode cX8_rowFound 32 = .ok (.ifCond .le 9, 3) := by decide +kernel
theorem dX8_rowFound_35 : decode cX8_rowFound 35 = .ok (.aload_n 0, 1) := by decide +kernel
theorem dX8_rowFound_36 : decode cX8_rowFound 36 = .ok (.iconst 2, 1) := by decide +kernel
theorem dX8_rowFound_37 : decode cX8_rowFound 37 = .ok (.invokevirtual 74, 3) := by decide +kernel
theorem dX8_rowFound_40 : decode cX8_rowFound 40 = .ok (.ireturn, 1) := by decide +kernel
theorem dX8_rowFound_41 : decode cX8_rowFound 41 = .ok (.aload_n 0, 1) := by decide +kernel
theorem dX8_rowFound_42 : decode cX8_rowFound 42 = .ok (.iconst 0, 1) := by decide +kernel
theorem dX8_rowFound_43 : decode cX8_rowFound 43 = .ok (.putfield 57, 3) := by decide +kernel
theorem dX8_rowFound_46 : decode cX8_rowFound 46 = .ok (.iconst 0, 1) := by decide +kernel
theorem dX8_rowFound_47 : decode cX8_rowFound 47 = .ok (.ireturn, 1) := by decide +kernel
theorem dX8_who_0 : decode cX8_who 0 = .ok (.aload_n 0, 1) := by decide +kernel
theorem dX8_who_1 : decode cX8_who 1 = .ok (.iconst 0, 1) := by decide +kernel
theorem dX8_who_2 : decode cX8_who 2 = .ok (.putfield 53, 3) := by decide +kernel
theorem dX8_who_5 : decode cX8_who 5 = .ok (.aload_n 0, 1) := by decide +kernel
theorem dX8_who_6 : decode cX8_who 6 = .ok (.iload_n 1, 1) := by decide +kernel
theorem dX8_who_7 : decode cX8_who 7 = .ok (.invokevirtual 211, 3) := by decide +kernel
theorem dX8_who_10 : decode cX8_who 10 = .ok (.ifCond .eq 42, 3) := by decide +kernel
theorem dX8_who_13 : decode cX8_who 13 = .ok (.iload_n 2, 1) := by decide +kernel
theorem dX8_who_14 : decode cX8_who 14 = .ok (.i2l, 1) := by decide +kernel
theorem dX8_who_15 : decode cX8_who 15 = .ok (.lconst 0, 1) := by decide +kernel
theorem dX8_who_16 : decode cX8_who 16 = .ok (.lconst 1, 1) := by decide +kernel
theorem dX8_who_17 : decode cX8_who 17 = .ok (.invokestatic 63, 3) := by decide +kernel
theorem dX8_who_20 : decode cX8_who 20 = .ok (.ifCond .eq 32, 3) := by decide +kernel
theorem dX8_who_23 : decode cX8_who 23 = .ok (.aload_n 0, 1) := by decide +kernel
theorem dX8_who_24 : decode cX8_who 24 = .ok (.iload_n 3, 1) := by decide +kernel
theorem dX8_who_25 : decode cX8_who 25 = .ok (.invokevirtual 198, 3) := by decide +kernel
theorem dX8_who_28 : decode cX8_who 28 = .ok (.ifCond .eq 24, 3) := by decide +kernel
theorem dX8_who_31 : decode cX8_who 31 = .ok (.iload 4, 2) := by decide +kernel
theorem dX8_who_33 : decode cX8_who 33 = .ok (.invokestatic 67, 3) := by decide +kernel
theorem dX8_who_36 : decode cX8_who 36 = .ok (.ifCond .eq 16, 3) := by decide +kernel
theorem dX8_who_39 : decode cX8_who 39 = .ok (.iload 6, 2) := by decide +kernel
theorem dX8_who_41 : decode cX8_who 41 = .ok (.i2l, 1) := by decide +kernel
theorem dX8_who_42 : decode cX8_who 42 = .ok (.lconst 1, 1) := by decide +kernel
theorem dX8_who_43 : decode cX8_who 43 = .ok (.ldc2_w 240, 3) := by decide +kernel
theorem dX8_who_46 : decode cX8_who 46 = .ok (.invokestatic 63, 3) := by decide +kernel
theorem dX8_who_49 : decode cX8_who 49 = .ok (.ifCond .ne 6, 3) := by decide +kernel
theorem dX8_who_52 : decode cX8_who 52 = .ok (.ldc 73, 2) := by decide +kernel
theorem dX8_who_54 : decode cX8_who 54 = .ok (.ireturn, 1) := by decide +kernel
theorem dX8_who_55 : decode cX8_who 55 = .ok (.aload_n 0, 1) := by decide +kernel
theorem dX8_who_56 : decode cX8_who 56 = .ok (.getfield 19, 3) := by decide +kernel
theorem dX8_who_59 : decode cX8_who 59 = .ok (.iload_n 3, 1) := by decide +kernel
theorem dX8_who_60 : decode cX8_who 60 = .ok (.invokestatic 164, 3) := by decide +kernel
theorem dX8_who_63 : decode cX8_who 63 = .ok (.ifCond .ne 6, 3) := by decide +kernel
theorem dX8_who_66 : decode cX8_who 66 = .ok (.ldc 189, 2) := by decide +kernel
theorem dX8_who_68 : decode cX8_who 68 = .ok (.ireturn, 1) := by decide +kernel
theorem dX8_who_69 : decode cX8_who 69 = .ok (.aload_n 0, 1) := by decide +kernel
theorem dX8_who_70 : decode cX8_who 70 = .ok (.iload 4, 2) := by decide +kernel
theorem dX8_who_72 : decode cX8_who 72 = .ok (.iload 5, 2) := by decide +kernel
theorem dX8_who_74 : decode cX8_who 74 = .ok (.iload 6, 2) := by decide +kernel
theorem dX8_who_76 : decode cX8_who 76 = .ok (.invokevirtual 242, 3) := by decide +kernel
theorem dX8_who_79 : decode cX8_who 79 = .ok (.istore 7, 2) := by decide +kernel
theorem dX8_who_81 : decode cX8_who 81 = .ok (.iload 7, 2) := by decide +kernel
theorem dX8_who_83 : decode cX8_who 83 = .ok (.ifCond .eq 6, 3) := by decide +kernel
theorem dX8_who_86 : decode cX8_who 86 = .ok (.iload 7, 2) := by decide +kernel
theorem dX8_who_88 : decode cX8_who 88 = .ok (.ireturn, 1) := by decide +kernel
theorem dX8_who_89 : decode cX8_who 89 = .ok (.iconst 0, 1) := by decide +kernel
theorem dX8_who_90 : decode cX8_who 90 = .ok (.istore 8, 2) := by decide +kernel
theorem dX8_who_92 : decode cX8_who 92 = .ok (.iload_n 2, 1) := by decide +kernel
theorem dX8_who_93 : decode cX8_who 93 = .ok (.ifCond .ne 7, 3) := by decide +kernel
theorem dX8_who_96 : decode cX8_who 96 = .ok (.iconst 1, 1) := by decide +kernel
theorem dX8_who_97 : decode cX8_who 97 = .ok (.goto 4, 3) := by decide +kernel
theorem dX8_who_100 : decode cX8_who 100 = .ok (.iconst 0, 1) := by decide +kernel
theorem dX8_who_101 : decode cX8_who 101 = .ok (.istore 9, 2) := by decide +kernel
theorem dX8_who_103 : decode cX8_who 103 = .ok (.iload 9, 2) := by decide +kernel
theorem dX8_who_105 : decode cX8_who 105 = .ok (.iload_n 2, 1) := by decide +kernel
theorem dX8_who_106 : decode cX8_who 106 = .ok (.ifCond .ne 7, 3) := by decide +kernel
theorem dX8_who_109 : decode cX8_who 109 = .ok (.iconst 5, 1) := by decide +kernel
theorem dX8_who_110 : decode cX8_who 110 = .ok (.goto 5, 3) := by decide +kernel
theorem dX8_who_113 : decode cX8_who 113 = .ok (.bipush 23, 2) := by decide +kernel
theorem dX8_who_115 : decode cX8_who 115 = .ok (.if_icmp .gt 67, 3) := by decide +kernel
theorem dX8_who_118 : decode cX8_who 118 = .ok (.aload_n 0, 1) := by decide +kernel
theorem dX8_who_119 : decode cX8_who 119 = .ok (.invokevirtual 220, 3) := by decide +kernel
theorem dX8_who_122 : decode cX8_who 122 = .ok (.aload_n 0, 1) := by decide +kernel
theorem dX8_who_123 : decode cX8_who 123 = .ok (.getfield 25, 3) := by decide +kernel
theorem dX8_who_126 : decode cX8_who 126 = .ok (.bipush 17, 2) := by decide +kernel
theorem dX8_who_128 : decode cX8_who 128 = .ok (.iconst 4, 1) := by decide +kernel
theorem dX8_who_129 : decode cX8_who 129 = .ok (.iload_n 1, 1) := by decide +kernel
theorem dX8_who_130 : decode cX8_who 130 = .ok (.imul, 1) := by decide +kernel
theorem dX8_who_131 : decode cX8_who 131 = .ok (.iadd, 1) := by decide +kernel
theorem dX8_who_132 : decode cX8_who 132 = .ok (.iload_n 2, 1) := by decide +kernel
theorem dX8_who_133 : decode cX8_who 133 = .ok (.ifCond .ne 7, 3) := by decide +kernel
theorem dX8_who_136 : decode cX8_who 136 = .ok (.iconst 0, 1) := by decide +kernel
theorem dX8_who_137 : decode cX8_who 137 = .ok (.goto 4, 3) := by decide +kernel
theorem dX8_who_140 : decode cX8_who 140 = .ok (.iconst 3, 1) := by decide +kernel
theorem dX8_who_141 : decode cX8_who 141 = .ok (.iadd, 1) := by decide +kernel
theorem dX8_who_142 : decode cX8_who 142 = .ok (.iload 9, 2) := by decide +kernel
theorem dX8_who_144 : decode cX8_who 144 = .ok (.iastore, 1) := by decide +kernel
theorem dX8_who_145 : decode cX8_who 145 = .ok (.iload 8, 2) := by decide +kernel
theorem dX8_who_147 : decode cX8_who 147 = .ok (.aload_n 0, 1) := by decide +kernel
theorem dX8_who_148 : decode cX8_who 148 = .ok (.iload_n 3, 1) := by decide +kernel
theorem dX8_who_149 : decode cX8_who 149 = .ok (.bipush 40, 2) := by decide +kernel
theorem dX8_who_151 : decode cX8_who 151 = .ok (.iload 4, 2) := by decide +kernel
theorem dX8_who_153 : decode cX8_who 153 = .ok (.imul, 1) := by decide +kernel
theorem dX8_who_154 : decode cX8_who 154 = .ok (.iload 5, 2) := by decide +kernel
theorem dX8_who_156 : decode cX8_who 156 = .ok (.iadd, 1) := by decide +kernel
theorem dX8_who_157 : decode cX8_who 157 = .ok (.iload 6, 2) := by decide +kernel
theorem dX8_who_159 : decode cX8_who 159 = .ok (.invokevirtual 246, 3) := by decide +kernel
theorem dX8_who_162 : decode cX8_who 162 = .ok (.ifCond .eq 10, 3) := by decide +kernel
theorem dX8_who_165 : decode cX8_who 165 = .ok (.iconst 1, 1) := by decide +kernel
theorem dX8_who_166 : decode cX8_who 166 = .ok (.iload 9, 2) := by decide +kernel
theorem dX8_who_168 : decode cX8_who 168 = .ok (.ishl, 1) := by decide +kernel
theorem dX8_who_169 : decode cX8_who 169 = .ok (.goto 4, 3) := by decide +kernel
theorem dX8_who_172 : decode cX8_who 172 = .ok (.iconst 0, 1) := by decide +kernel
theorem dX8_who_173 : decode cX8_who 173 = .ok (.ior, 1) := by decide +kernel
theorem dX8_who_174 : decode cX8_who 174 = .ok (.istore 8, 2) := by decide +kernel
theorem dX8_who_176 : decode cX8_who 176 = .ok (.iinc 9 1, 3) := by decide +kernel
theorem dX8_who_179 : decode cX8_who 179 = .ok (.goto (-76), 3) := by decide +kernel
theorem dX8_who_182 : decode cX8_who 182 = .ok (.iload 8, 2) := by decide +kernel
theorem dX8_who_184 : decode cX8_who 184 = .ok (.ireturn, 1) := by decide +kernel
theorem dX8_missing_0 : decode cX8_missing 0 = .ok (.aload_n 0, 1) := by decide +kernel
theorem dX8_missing_1 : decode cX8_missing 1 = .ok (.iconst 0, 1) := by decide +kernel
theorem dX8_missing_2 : decode cX8_missing 2 = .ok (.putfield 53, 3) := by decide +kernel
theorem dX8_missing_5 : decode cX8_missing 5 = .ok (.aload_n 0, 1) := by decide +kernel
theorem dX8_missing_6 : decode cX8_missing 6 = .ok (.iload_n 1, 1) := by decide +kernel
theorem dX8_missing_7 : decode cX8_missing 7 = .ok (.invokevirtual 198, 3) := by decide +kernel
theorem dX8_missing_10 : decode cX8_missing 10 = .ok (.ifCond .eq 23, 3) := by decide +kernel
theorem dX8_missing_13 : decode cX8_missing 13 = .ok (.iload_n 2, 1) := by decide +kernel
theorem dX8_missing_14 : decode cX8_missing 14 = .ok (.invokestatic 67, 3) := by decide +kernel
theorem dX8_missing_17 : decode cX8_missing 17 = .ok (.ifCond .eq 16, 3) := by decide +kernel
theorem dX8_missing_20 : decode cX8_missing 20 = .ok (.iload 4, 2) := by decide +kernel
theorem dX8_missing_22 : decode cX8_missing 22 = .ok (.i2l, 1) := by decide +kernel
theorem dX8_missing_23 : decode cX8_missing 23 = .ok (.lconst 1, 1) := by decide +kernel
theorem dX8_missing_24 : decode cX8_missing 24 = .ok (.ldc2_w 240, 3) := by decide +kernel
theorem dX8_missing_27 : decode cX8_missing 27 = .ok (.invokestatic 63, 3) := by decide +kernel
theorem dX8_missing_30 : decode cX8_missing 30 = .ok (.ifCond .ne 6, 3) := by decide +kernel
theorem dX8_missing_33 : decode cX8_missing 33 = .ok (.ldc 73, 2) := by decide +kernel
theorem dX8_missing_35 : decode cX8_missing 35 = .ok (.ireturn, 1) := by decide +kernel
theorem dX8_missing_36 : decode cX8_missing 36 = .ok (.aload_n 0, 1) := by decide +kernel
theorem dX8_missing_37 : decode cX8_missing 37 = .ok (.getfield 19, 3) := by decide +kernel
theorem dX8_missing_40 : decode cX8_missing 40 = .ok (.iload_n 1, 1) := by decide +kernel
theorem dX8_missing_41 : decode cX8_missing 41 = .ok (.invokestatic 164, 3) := by decide +kernel
theorem dX8_missing_44 : decode cX8_missing 44 = .ok (.ifCond .ne 6, 3) := by decide +kernel
theorem dX8_missing_47 : decode cX8_missing 47 = .ok (.ldc 189, 2) := by decide +kernel
theorem dX8_missing_49 : decode cX8_missing 49 = .ok (.ireturn, 1) := by decide +kernel
theorem dX8_missing_50 : decode cX8_missing 50 = .ok (.aload_n 0, 1) := by decide +kernel
theorem dX8_missing_51 : decode cX8_missing 51 = .ok (.iload_n 2, 1) := by decide +kernel
theorem dX8_missing_52 : decode cX8_missing 52 = .ok (.iload_n 3, 1) := by decide +kernel
theorem dX8_missing_53 : decode cX8_missing 53 = .ok (.iload 4, 2) := by decide +kernel
theorem dX8_missing_55 : decode cX8_missing 55 = .ok (.invokevirtual 242, 3) := by decide +kernel
theorem dX8_missing_58 : decode cX8_missing 58 = .ok (.istore 5, 2) := by decide +kernel
theorem dX8_missing_60 : decode cX8_missing 60 = .ok (.iload 5, 2) := by decide +kernel
theorem dX8_missing_62 : decode cX8_missing 62 = .ok (.ifCond .eq 6, 3) := by decide +kernel
theorem dX8_missing_65 : decode cX8_missing 65 = .ok (.iload 5, 2) := by decide +kernel
theorem dX8_missing_67 : decode cX8_missing 67 = .ok (.ireturn, 1) := by decide +kernel
theorem dX8_missing_68 : decode cX8_missing 68 = .ok (.aload_n 0, 1) := by decide +kernel
theorem dX8_missing_69 : decode cX8_missing 69 = .ok (.invokevirtual 220, 3) := by decide +kernel
theorem dX8_missing_72 : decode cX8_missing 72 = .ok (.aload_n 0, 1) := by decide +kernel
theorem dX8_missing_73 : decode cX8_missing 73 = .ok (.iload_n 1, 1) := by decide +kernel
theorem dX8_missing_74 : decode cX8_missing 74 = .ok (.bipush 40, 2) := by decide +kernel
theorem dX8_missing_76 : decode cX8_missing 76 = .ok (.iload_n 2, 1) := by decide +kernel
theorem dX8_missing_77 : decode cX8_missing 77 = .ok (.imul, 1) := by decide +kernel
theorem dX8_missing_78 : decode cX8_missing 78 = .ok (.iload_n 3, 1) := by decide +kernel
theorem dX8_missing_79 : decode cX8_missing 79 = .ok (.iadd, 1) := by decide +kernel
theorem dX8_missing_80 : decode cX8_missing 80 = .ok (.iload 4, 2) := by decide +kernel
theorem dX8_missing_82 : decode cX8_missing 82 = .ok (.invokevirtual 246, 3) := by decide +kernel
theorem dX8_missing_85 : decode cX8_missing 85 = .ok (.ifCond .eq 8, 3) := by decide +kernel
theorem dX8_missing_88 : decode cX8_missing 88 = .ok (.bipush 64, 2) := by decide +kernel
theorem dX8_missing_90 : decode cX8_missing 90 = .ok (.goto 4, 3) := by decide +kernel
theorem dX8_missing_93 : decode cX8_missing 93 = .ok (.iconst 0, 1) := by decide +kernel
theorem dX8_missing_94 : decode cX8_missing 94 = .ok (.istore 6, 2) := by decide +kernel
theorem dX8_missing_96 : decode cX8_missing 96 = .ok (.iconst 0, 1) := by decide +kernel
theorem dX8_missing_97 : decode cX8_missing 97 = .ok (.istore 7, 2) := by decide +kernel
theorem dX8_missing_99 : decode cX8_missing 99 = .ok (.iload 7, 2) := by decide +kernel
theorem dX8_missing_101 : decode cX8_missing 101 = .ok (.aload_n 0, 1) := by decide +kernel
theorem dX8_missing_102 : decode cX8_missing 102 = .ok (.getfield 19, 3) := by decide +kernel
theorem dX8_missing_105 : decode cX8_missing 105 = .ok (.iconst 2, 1) := by decide +kernel
theorem dX8_missing_106 : decode cX8_missing 106 = .ok (.iaload, 1) := by decide +kernel
theorem dX8_missing_107 : decode cX8_missing 107 = .ok (.if_icmp .ge 67, 3) := by decide +kernel
theorem dX8_missing_110 : decode cX8_missing 110 = .ok (.aload_n 0, 1) := by decide +kernel
theorem dX8_missing_111 : decode cX8_missing 111 = .ok (.invokevirtual 233, 3) := by decide +kernel
theorem dX8_missing_114 : decode cX8_missing 114 = .ok (.iload 7, 2) := by decide +kernel
theorem dX8_missing_116 : decode cX8_missing 116 = .ok (.invokestatic 171, 3) := by decide +kernel
theorem dX8_missing_119 : decode cX8_missing 119 = .ok (.ifCond .eq 49, 3) := by decide +kernel
theorem dX8_missing_122 : decode cX8_missing 122 = .ok (.aload_n 0, 1) := by decide +kernel
theorem dX8_missing_123 : decode cX8_missing 123 = .ok (.invokevirtual 220, 3) := by decide +kernel
theorem dX8_missing_126 : decode cX8_missing 126 = .ok (.aload_n 0, 1) := by decide +kernel
theorem dX8_missing_127 : decode cX8_missing 127 = .ok (.getfield 25, 3) := by decide +kernel
theorem dX8_missing_130 : decode cX8_missing 130 = .ok (.iconst 4, 1) := by decide +kernel
theorem dX8_missing_131 : decode cX8_missing 131 = .ok (.dup2, 1) := by decide +kernel
theorem dX8_missing_132 : decode cX8_missing 132 = .ok (.iaload, 1) := by decide +kernel
theorem dX8_missing_133 : decode cX8_missing 133 = .ok (.iconst 1, 1) := by decide +kernel
theorem dX8_missing_134 : decode cX8_missing 134 = .ok (.iload 7, 2) := by decide +kernel
theorem dX8_missing_136 : decode cX8_missing 136 = .ok (.ishl, 1) := by decide +kernel
theorem dX8_missing_137 : decode cX8_missing 137 = .ok (.ior, 1) := by decide +kernel
theorem dX8_missing_138 : decode cX8_missing 138 = .ok (.iastore, 1) := by decide +kernel
theorem dX8_missing_139 : decode cX8_missing 139 = .ok (.iload 6, 2) := by decide +kernel
theorem dX8_missing_141 : decode cX8_missing 141 = .ok (.aload_n 0, 1) := by decide +kernel
theorem dX8_missing_142 : decode cX8_missing 142 = .ok (.iload_n 1, 1) := by decide +kernel
theorem dX8_missing_143 : decode cX8_missing 143 = .ok (.bipush 40, 2) := by decide +kernel
theorem dX8_missing_145 : decode cX8_missing 145 = .ok (.iload_n 2, 1) := by decide +kernel
theorem dX8_missing_146 : decode cX8_missing 146 = .ok (.imul, 1) := by decide +kernel
theorem dX8_missing_147 : decode cX8_missing 147 = .ok (.iload_n 3, 1) := by decide +kernel
theorem dX8_missing_148 : decode cX8_missing 148 = .ok (.iadd, 1) := by decide +kernel
theorem dX8_missing_149 : decode cX8_missing 149 = .ok (.iload 4, 2) := by decide +kernel
theorem dX8_missing_151 : decode cX8_missing 151 = .ok (.invokevirtual 246, 3) := by decide +kernel
theorem dX8_missing_154 : decode cX8_missing 154 = .ok (.ifCond .eq 10, 3) := by decide +kernel
theorem dX8_missing_157 : decode cX8_missing 157 = .ok (.iconst 1, 1) := by decide +kernel
theorem dX8_missing_158 : decode cX8_missing 158 = .ok (.iload 7, 2) := by decide +kernel
theorem dX8_missing_160 : decode cX8_missing 160 = .ok (.ishl, 1) := by decide +kernel
theorem dX8_missing_161 : decode cX8_missing 161 = .ok (.goto 4, 3) := by decide +kernel
theorem dX8_missing_164 : decode cX8_missing 164 = .ok (.iconst 0, 1) := by decide +kernel
theorem dX8_missing_165 : decode cX8_missing 165 = .ok (.ior, 1) := by decide +kernel
theorem dX8_missing_166 : decode cX8_missing 166 = .ok (.istore 6, 2) := by decide +kernel
theorem dX8_missing_168 : decode cX8_missing 168 = .ok (.iinc 7 1, 3) := by decide +kernel
theorem dX8_missing_171 : decode cX8_missing 171 = .ok (.goto (-72), 3) := by decide +kernel
theorem dX8_missing_174 : decode cX8_missing 174 = .ok (.iload 6, 2) := by decide +kernel
theorem dX8_missing_176 : decode cX8_missing 176 = .ok (.ireturn, 1) := by decide +kernel
theorem dX8_goals_0 : decode cX8_goals 0 = .ok (.aload_n 0, 1) := by decide +kernel
theorem dX8_goals_1 : decode cX8_goals 1 = .ok (.iconst 0, 1) := by decide +kernel
theorem dX8_goals_2 : decode cX8_goals 2 = .ok (.putfield 53, 3) := by decide +kernel
theorem dX8_goals_5 : decode cX8_goals 5 = .ok (.aload_n 0, 1) := by decide +kernel
theorem dX8_goals_6 : decode cX8_goals 6 = .ok (.iload_n 1, 1) := by decide +kernel
theorem dX8_goals_7 : decode cX8_goals 7 = .ok (.invokevirtual 198, 3) := by decide +kernel
theorem dX8_goals_10 : decode cX8_goals 10 = .ok (.ifCond .eq 23, 3) := by decide +kernel
theorem dX8_goals_13 : decode cX8_goals 13 = .ok (.iload_n 2, 1) := by decide +kernel
theorem dX8_goals_14 : decode cX8_goals 14 = .ok (.invokestatic 67, 3) := by decide +kernel
theorem dX8_goals_17 : decode cX8_goals 17 = .ok (.ifCond .eq 16, 3) := by decide +kernel
theorem dX8_goals_20 : decode cX8_goals 20 = .ok (.iload 4, 2) := by decide +kernel
theorem dX8_goals_22 : decode cX8_goals 22 = .ok (.i2l, 1) := by decide +kernel
theorem dX8_goals_23 : decode cX8_goals 23 = .ok (.lconst 1, 1) := by decide +kernel
theorem dX8_goals_24 : decode cX8_goals 24 = .ok (.ldc2_w 240, 3) := by decide +kernel
theorem dX8_goals_27 : decode cX8_goals 27 = .ok (.invokestatic 63, 3) := by decide +kernel
theorem dX8_goals_30 : decode cX8_goals 30 = .ok (.ifCond .ne 6, 3) := by decide +kernel
theorem dX8_goals_33 : decode cX8_goals 33 = .ok (.ldc 73, 2) := by decide +kernel
theorem dX8_goals_35 : decode cX8_goals 35 = .ok (.ireturn, 1) := by decide +kernel
theorem dX8_goals_36 : decode cX8_goals 36 = .ok (.aload_n 0, 1) := by decide +kernel
theorem dX8_goals_37 : decode cX8_goals 37 = .ok (.getfield 19, 3) := by decide +kernel
theorem dX8_goals_40 : decode cX8_goals 40 = .ok (.iload_n 1, 1) := by decide +kernel
theorem dX8_goals_41 : decode cX8_goals 41 = .ok (.invokestatic 164, 3) := by decide +kernel
theorem dX8_goals_44 : decode cX8_goals 44 = .ok (.ifCond .ne 6, 3) := by decide +kernel
theorem dX8_goals_47 : decode cX8_goals 47 = .ok (.ldc 189, 2) := by decide +kernel
theorem dX8_goals_49 : decode cX8_goals 49 = .ok (.ireturn, 1) := by decide +kernel
theorem dX8_goals_50 : decode cX8_goals 50 = .ok (.aload_n 0, 1) := by decide +kernel
theorem dX8_goals_51 : decode cX8_goals 51 = .ok (.iload_n 2, 1) := by decide +kernel
theorem dX8_goals_52 : decode cX8_goals 52 = .ok (.iload_n 3, 1) := by decide +kernel
theorem dX8_goals_53 : decode cX8_goals 53 = .ok (.iload 4, 2) := by decide +kernel
theorem dX8_goals_55 : decode cX8_goals 55 = .ok (.invokevirtual 242, 3) := by decide +kernel
theorem dX8_goals_58 : decode cX8_goals 58 = .ok (.istore 5, 2) := by decide +kernel
theorem dX8_goals_60 : decode cX8_goals 60 = .ok (.iload 5, 2) := by decide +kernel
theorem dX8_goals_62 : decode cX8_goals 62 = .ok (.ifCond .eq 6, 3) := by decide +kernel
theorem dX8_goals_65 : decode cX8_goals 65 = .ok (.iload 5, 2) := by decide +kernel
theorem dX8_goals_67 : decode cX8_goals 67 = .ok (.ireturn, 1) := by decide +kernel
theorem dX8_goals_68 : decode cX8_goals 68 = .ok (.iconst 0, 1) := by decide +kernel
theorem dX8_goals_69 : decode cX8_goals 69 = .ok (.istore 6, 2) := by decide +kernel
theorem dX8_goals_71 : decode cX8_goals 71 = .ok (.iconst 0, 1) := by decide +kernel
theorem dX8_goals_72 : decode cX8_goals 72 = .ok (.istore 7, 2) := by decide +kernel
theorem dX8_goals_74 : decode cX8_goals 74 = .ok (.iload 7, 2) := by decide +kernel
theorem dX8_goals_76 : decode cX8_goals 76 = .ok (.aload_n 0, 1) := by decide +kernel
theorem dX8_goals_77 : decode cX8_goals 77 = .ok (.getfield 19, 3) := by decide +kernel
theorem dX8_goals_80 : decode cX8_goals 80 = .ok (.iconst 0, 1) := by decide +kernel
theorem dX8_goals_81 : decode cX8_goals 81 = .ok (.iaload, 1) := by decide +kernel
theorem dX8_goals_82 : decode cX8_goals 82 = .ok (.if_icmp .ge 56, 3) := by decide +kernel
theorem dX8_goals_85 : decode cX8_goals 85 = .ok (.aload_n 0, 1) := by decide +kernel
theorem dX8_goals_86 : decode cX8_goals 86 = .ok (.invokevirtual 220, 3) := by decide +kernel
theorem dX8_goals_89 : decode cX8_goals 89 = .ok (.aload_n 0, 1) := by decide +kernel
theorem dX8_goals_90 : decode cX8_goals 90 = .ok (.getfield 25, 3) := by decide +kernel
theorem dX8_goals_93 : decode cX8_goals 93 = .ok (.iconst 5, 1) := by decide +kernel
theorem dX8_goals_94 : decode cX8_goals 94 = .ok (.iconst 3, 1) := by decide +kernel
theorem dX8_goals_95 : decode cX8_goals 95 = .ok (.iload_n 1, 1) := by decide +kernel
theorem dX8_goals_96 : decode cX8_goals 96 = .ok (.imul, 1) := by decide +kernel
theorem dX8_goals_97 : decode cX8_goals 97 = .ok (.iadd, 1) := by decide +kernel
theorem dX8_goals_98 : decode cX8_goals 98 = .ok (.iconst 2, 1) := by decide +kernel
theorem dX8_goals_99 : decode cX8_goals 99 = .ok (.iadd, 1) := by decide +kernel
theorem dX8_goals_100 : decode cX8_goals 100 = .ok (.iload 7, 2) := by decide +kernel
theorem dX8_goals_102 : decode cX8_goals 102 = .ok (.iastore, 1) := by decide +kernel
theorem dX8_goals_103 : decode cX8_goals 103 = .ok (.iload 6, 2) := by decide +kernel
theorem dX8_goals_105 : decode cX8_goals 105 = .ok (.aload_n 0, 1) := by decide +kernel
theorem dX8_goals_106 : decode cX8_goals 106 = .ok (.iload_n 1, 1) := by decide +kernel
theorem dX8_goals_107 : decode cX8_goals 107 = .ok (.bipush 40, 2) := by decide +kernel
theorem dX8_goals_109 : decode cX8_goals 109 = .ok (.iload_n 2, 1) := by decide +kernel
theorem dX8_goals_110 : decode cX8_goals 110 = .ok (.imul, 1) := by decide +kernel
theorem dX8_goals_111 : decode cX8_goals 111 = .ok (.iload_n 3, 1) := by decide +kernel
theorem dX8_goals_112 : decode cX8_goals 112 = .ok (.iadd, 1) := by decide +kernel
theorem dX8_goals_113 : decode cX8_goals 113 = .ok (.iload 4, 2) := by decide +kernel
theorem dX8_goals_115 : decode cX8_goals 115 = .ok (.invokevirtual 246, 3) := by decide +kernel
theorem dX8_goals_118 : decode cX8_goals 118 = .ok (.ifCond .eq 10, 3) := by decide +kernel
theorem dX8_goals_121 : decode cX8_goals 121 = .ok (.iconst 1, 1) := by decide +kernel
theorem dX8_goals_122 : decode cX8_goals 122 = .ok (.iload 7, 2) := by decide +kernel
theorem dX8_goals_124 : decode cX8_goals 124 = .ok (.ishl, 1) := by decide +kernel
theorem dX8_goals_125 : decode cX8_goals 125 = .ok (.goto 4, 3) := by decide +kernel
theorem dX8_goals_128 : decode cX8_goals 128 = .ok (.iconst 0, 1) := by decide +kernel
theorem dX8_goals_129 : decode cX8_goals 129 = .ok (.ior, 1) := by decide +kernel
theorem dX8_goals_130 : decode cX8_goals 130 = .ok (.istore 6, 2) := by decide +kernel
theorem dX8_goals_132 : decode cX8_goals 132 = .ok (.iinc 7 1, 3) := by decide +kernel
theorem dX8_goals_135 : decode cX8_goals 135 = .ok (.goto (-61), 3) := by decide +kernel
theorem dX8_goals_138 : decode cX8_goals 138 = .ok (.iload 6, 2) := by decide +kernel
theorem dX8_goals_140 : decode cX8_goals 140 = .ok (.ireturn, 1) := by decide +kernel
theorem dX8_busy_0 : decode cX8_busy 0 = .ok (.aload_n 0, 1) := by decide +kernel
theorem dX8_busy_1 : decode cX8_busy 1 = .ok (.iconst 0, 1) := by decide +kernel
theorem dX8_busy_2 : decode cX8_busy 2 = .ok (.putfield 53, 3) := by decide +kernel
theorem dX8_busy_5 : decode cX8_busy 5 = .ok (.aload_n 0, 1) := by decide +kernel
theorem dX8_busy_6 : decode cX8_busy 6 = .ok (.invokevirtual 155, 3) := by decide +kernel
theorem dX8_busy_9 : decode cX8_busy 9 = .ok (.ifCond .ne 6, 3) := by decide +kernel
theorem dX8_busy_12 : decode cX8_busy 12 = .ok (.ldc 189, 2) := by decide +kernel
theorem dX8_busy_14 : decode cX8_busy 14 = .ok (.ireturn, 1) := by decide +kernel
theorem dX8_busy_15 : decode cX8_busy 15 = .ok (.iload_n 1, 1) := by decide +kernel
theorem dX8_busy_16 : decode cX8_busy 16 = .ok (.i2l, 1) := by decide +kernel
theorem dX8_busy_17 : decode cX8_busy 17 = .ok (.lconst 1, 1) := by decide +kernel
theorem dX8_busy_18 : decode cX8_busy 18 = .ok (.ldc2_w 218, 3) := by decide +kernel
theorem dX8_busy_21 : decode cX8_busy 21 = .ok (.invokestatic 63, 3) := by decide +kernel
theorem dX8_busy_24 : decode cX8_busy 24 = .ok (.ifCond .eq 13, 3) := by decide +kernel
theorem dX8_busy_27 : decode cX8_busy 27 = .ok (.iload_n 2, 1) := by decide +kernel
theorem dX8_busy_28 : decode cX8_busy 28 = .ok (.i2l, 1) := by decide +kernel
theorem dX8_busy_29 : decode cX8_busy 29 = .ok (.lconst 0, 1) := by decide +kernel
theorem dX8_busy_30 : decode cX8_busy 30 = .ok (.lconst 1, 1) := by decide +kernel
theorem dX8_busy_31 : decode cX8_busy 31 = .ok (.invokestatic 63, 3) := by decide +kernel
theorem dX8_busy_34 : decode cX8_busy 34 = .ok (.ifCond .ne 6, 3) := by decide +kernel
theorem dX8_busy_37 : decode cX8_busy 37 = .ok (.ldc 73, 2) := by decide +kernel
theorem dX8_busy_39 : decode cX8_busy 39 = .ok (.ireturn, 1) := by decide +kernel
theorem dX8_busy_40 : decode cX8_busy 40 = .ok (.aload_n 0, 1) := by decide +kernel
theorem dX8_busy_41 : decode cX8_busy 41 = .ok (.invokevirtual 220, 3) := by decide +kernel
theorem dX8_busy_44 : decode cX8_busy 44 = .ok (.iconst 0, 1) := by decide +kernel
theorem dX8_busy_45 : decode cX8_busy 45 = .ok (.istore_n 3, 1) := by decide +kernel
theorem dX8_busy_46 : decode cX8_busy 46 = .ok (.iload_n 3, 1) := by decide +kernel
theorem dX8_busy_47 : decode cX8_busy 47 = .ok (.bipush 6, 2) := by decide +kernel
theorem dX8_busy_49 : decode cX8_busy 49 = .ok (.if_icmp .ge 16, 3) := by decide +kernel
theorem dX8_busy_52 : decode cX8_busy 52 = .ok (.aload_n 0, 1) := by decide +kernel
theorem dX8_busy_53 : decode cX8_busy 53 = .ok (.getfield 40, 3) := by decide +kernel
theorem dX8_busy_56 : decode cX8_busy 56 = .ok (.iload_n 3, 1) := by decide +kernel
theorem dX8_busy_57 : decode cX8_busy 57 = .ok (.iconst 0, 1) := by decide +kernel
theorem dX8_busy_58 : decode cX8_busy 58 = .ok (.iastore, 1) := by decide +kernel
theorem dX8_busy_59 : decode cX8_busy 59 = .ok (.iinc 3 1, 3) := by decide +kernel
theorem dX8_busy_62 : decode cX8_busy 62 = .ok (.goto (-16), 3) := by decide +kernel
theorem dX8_busy_65 : decode cX8_busy 65 = .ok (.iconst 0, 1) := by decide +kernel
theorem dX8_busy_66 : decode cX8_busy 66 = .ok (.istore_n 3, 1) := by decide +kernel
theorem dX8_busy_67 : decode cX8_busy 67 = .ok (.iload_n 3, 1) := by decide +kernel
theorem dX8_busy_68 : decode cX8_busy 68 = .ok (.iload_n 1, 1) := by decide +kernel
theorem dX8_busy_69 : decode cX8_busy 69 = .ok (.if_icmp .ge 52, 3) := by decide +kernel
theorem dX8_busy_72 : decode cX8_busy 72 = .ok (.aload_n 0, 1) := by decide +kernel
theorem dX8_busy_73 : decode cX8_busy 73 = .ok (.aload_n 0, 1) := by decide +kernel
theorem dX8_busy_74 : decode cX8_busy 74 = .ok (.getfield 25, 3) := by decide +kernel
theorem dX8_busy_77 : decode cX8_busy 77 = .ok (.invokevirtual 182, 3) := by decide +kernel
theorem dX8_busy_80 : decode cX8_busy 80 = .ok (.istore 4, 2) := by decide +kernel
theorem dX8_busy_82 : decode cX8_busy 82 = .ok (.iconst 0, 1) := by decide +kernel
theorem dX8_busy_83 : decode cX8_busy 83 = .ok (.istore 5, 2) := by decide +kernel
theorem dX8_busy_85 : decode cX8_busy 85 = .ok (.iload 5, 2) := by decide +kernel
theorem dX8_busy_87 : decode cX8_busy 87 = .ok (.bipush 6, 2) := by decide +kernel
theorem dX8_busy_89 : decode cX8_busy 89 = .ok (.if_icmp .ge 26, 3) := by decide +kernel
theorem dX8_busy_92 : decode cX8_busy 92 = .ok (.aload_n 0, 1) := by decide +kernel
theorem dX8_busy_93 : decode cX8_busy 93 = .ok (.getfield 40, 3) := by decide +kernel
theorem dX8_busy_96 : decode cX8_busy 96 = .ok (.iload 5, 2) := by decide +kernel
theorem dX8_busy_98 : decode cX8_busy 98 = .ok (.dup2, 1) := by decide +kernel
theorem dX8_busy_99 : decode cX8_busy 99 = .ok (.iaload, 1) := by decide +kernel
theorem dX8_busy_100 : decode cX8_busy 100 = .ok (.aload_n 0, 1) := by decide +kernel
theorem dX8_busy_101 : decode cX8_busy 101 = .ok (.getfield 37, 3) := by decide +kernel
theorem dX8_busy_104 : decode cX8_busy 104 = .ok (.iload 5, 2) := by decide +kernel
theorem dX8_busy_106 : decode cX8_busy 106 = .ok (.iaload, 1) := by decide +kernel
theorem dX8_busy_107 : decode cX8_busy 107 = .ok (.iadd, 1) := by decide +kernel
theorem dX8_busy_108 : decode cX8_busy 108 = .ok (.iastore, 1) := by decide +kernel
theorem dX8_busy_109 : decode cX8_busy 109 = .ok (.iinc 5 1, 3) := by decide +kernel
theorem dX8_busy_112 : decode cX8_busy 112 = .ok (.goto (-27), 3) := by decide +kernel
theorem dX8_busy_115 : decode cX8_busy 115 = .ok (.iinc 3 1, 3) := by decide +kernel
theorem dX8_busy_118 : decode cX8_busy 118 = .ok (.goto (-51), 3) := by decide +kernel
theorem dX8_busy_121 : decode cX8_busy 121 = .ok (.iconst 0, 1) := by decide +kernel
theorem dX8_busy_122 : decode cX8_busy 122 = .ok (.istore_n 3, 1) := by decide +kernel
theorem dX8_busy_123 : decode cX8_busy 123 = .ok (.iconst 1, 1) := by decide +kernel
theorem dX8_busy_124 : decode cX8_busy 124 = .ok (.istore 4, 2) := by decide +kernel
theorem dX8_busy_126 : decode cX8_busy 126 = .ok (.iload 4, 2) := by decide +kernel
theorem dX8_busy_128 : decode cX8_busy 128 = .ok (.bipush 6, 2) := by decide +kernel
theorem dX8_busy_130 : decode cX8_busy 130 = .ok (.if_icmp .ge 32, 3) := by decide +kernel
theorem dX8_busy_133 : decode cX8_busy 133 = .ok (.aload_n 0, 1) := by decide +kernel
theorem dX8_busy_134 : decode cX8_busy 134 = .ok (.getfield 40, 3) := by decide +kernel
theorem dX8_busy_137 : decode cX8_busy 137 = .ok (.iload 4, 2) := by decide +kernel
theorem dX8_busy_139 : decode cX8_busy 139 = .ok (.iaload, 1) := by decide +kernel
theorem dX8_busy_140 : decode cX8_busy 140 = .ok (.aload_n 0, 1) := by decide +kernel
theorem dX8_busy_141 : decode cX8_busy 141 = .ok (.getfield 40, 3) := by decide +kernel
theorem dX8_busy_144 : decode cX8_busy 144 = .ok (.iload_n 3, 1) := by decide +kernel
theorem dX8_busy_145 : decode cX8_busy 145 = .ok (.iaload, 1) := by decide +kernel
theorem dX8_busy_146 : decode cX8_busy 146 = .ok (.if_icmp .le 8, 3) := by decide +kernel
theorem dX8_busy_149 : decode cX8_busy 149 = .ok (.iload 4, 2) := by decide +kernel
theorem dX8_busy_151 : decode cX8_busy 151 = .ok (.goto 4, 3) := by decide +kernel
theorem dX8_busy_154 : decode cX8_busy 154 = .ok (.iload_n 3, 1) := by decide +kernel
theorem dX8_busy_155 : decode cX8_busy 155 = .ok (.istore_n 3, 1) := by decide +kernel
theorem dX8_busy_156 : decode cX8_busy 156 = .ok (.iinc 4 1, 3) := by decide +kernel
theorem dX8_busy_159 : decode cX8_busy 159 = .ok (.goto (-33), 3) := by decide +kernel
theorem dX8_busy_162 : decode cX8_busy 162 = .ok (.iload_n 2, 1) := by decide +kernel
theorem dX8_busy_163 : decode cX8_busy 163 = .ok (.ifCond .ne 7, 3) := by decide +kernel
theorem dX8_busy_166 : decode cX8_busy 166 = .ok (.iload_n 3, 1) := by decide +kernel
theorem dX8_busy_167 : decode cX8_busy 167 = .ok (.goto 9, 3) := by decide +kernel
theorem dX8_busy_170 : decode cX8_busy 170 = .ok (.aload_n 0, 1) := by decide +kernel
theorem dX8_busy_171 : decode cX8_busy 171 = .ok (.getfield 40, 3) := by decide +kernel
theorem dX8_busy_174 : decode cX8_busy 174 = .ok (.iload_n 3, 1) := by decide +kernel
theorem dX8_busy_175 : decode cX8_busy 175 = .ok (.iaload, 1) := by decide +kernel
theorem dX8_busy_176 : decode cX8_busy 176 = .ok (.ireturn, 1) := by decide +kernel
theorem dX8_sick_0 : decode cX8_sick 0 = .ok (.aload_n 0, 1) := by decide +kernel
theorem dX8_sick_1 : decode cX8_sick 1 = .ok (.iconst 0, 1) := by decide +kernel
theorem dX8_sick_2 : decode cX8_sick 2 = .ok (.putfield 53, 3) := by decide +kernel
theorem dX8_sick_5 : decode cX8_sick 5 = .ok (.aload_n 0, 1) := by decide +kernel
theorem dX8_sick_6 : decode cX8_sick 6 = .ok (.iload_n 1, 1) := by decide +kernel
theorem dX8_sick_7 : decode cX8_sick 7 = .ok (.invokevirtual 198, 3) := by decide +kernel
theorem dX8_sick_10 : decode cX8_sick 10 = .ok (.ifCond .eq 38, 3) := by decide +kernel
theorem dX8_sick_13 : decode cX8_sick 13 = .ok (.iload_n 2, 1) := by decide +kernel
theorem dX8_sick_14 : decode cX8_sick 14 = .ok (.i2l, 1) := by decide +kernel
theorem dX8_sick_15 : decode cX8_sick 15 = .ok (.lconst 0, 1) := by decide +kernel
theorem dX8_sick_16 : decode cX8_sick 16 = .ok (.ldc2_w 218, 3) := by decide +kernel
theorem dX8_sick_19 : decode cX8_sick 19 = .ok (.invokestatic 63, 3) := by decide +kernel
theorem dX8_sick_22 : decode cX8_sick 22 = .ok (.ifCond .eq 26, 3) := by decide +kernel
theorem dX8_sick_25 : decode cX8_sick 25 = .ok (.iload_n 3, 1) := by decide +kernel
theorem dX8_sick_26 : decode cX8_sick 26 = .ok (.i2l, 1) := by decide +kernel
theorem dX8_sick_27 : decode cX8_sick 27 = .ok (.lconst 0, 1) := by decide +kernel
theorem dX8_sick_28 : decode cX8_sick 28 = .ok (.ldc2_w 250, 3) := by decide +kernel
theorem dX8_sick_31 : decode cX8_sick 31 = .ok (.invokestatic 63, 3) := by decide +kernel
theorem dX8_sick_34 : decode cX8_sick 34 = .ok (.ifCond .eq 14, 3) := by decide +kernel
theorem dX8_sick_37 : decode cX8_sick 37 = .ok (.iload 4, 2) := by decide +kernel
theorem dX8_sick_39 : decode cX8_sick 39 = .ok (.i2l, 1) := by decide +kernel
theorem dX8_sick_40 : decode cX8_sick 40 = .ok (.lconst 0, 1) := by decide +kernel
theorem dX8_sick_41 : decode cX8_sick 41 = .ok (.lconst 1, 1) := by decide +kernel
theorem dX8_sick_42 : decode cX8_sick 42 = .ok (.invokestatic 63, 3) := by decide +kernel
theorem dX8_sick_45 : decode cX8_sick 45 = .ok (.ifCond .ne 7, 3) := by decide +kernel
theorem dX8_sick_48 : decode cX8_sick 48 = .ok (.ldc2_w 252, 3) := by decide +kernel
theorem dX8_sick_51 : decode cX8_sick 51 = .ok (.lreturn, 1) := by decide +kernel
theorem dX8_sick_52 : decode cX8_sick 52 = .ok (.aload_n 0, 1) := by decide +kernel
theorem dX8_sick_53 : decode cX8_sick 53 = .ok (.getfield 19, 3) := by decide +kernel
theorem dX8_sick_56 : decode cX8_sick 56 = .ok (.iload_n 1, 1) := by decide +kernel
theorem dX8_sick_57 : decode cX8_sick 57 = .ok (.invokestatic 164, 3) := by decide +kernel
theorem dX8_sick_60 : decode cX8_sick 60 = .ok (.ifCond .ne 7, 3) := by decide +kernel
theorem dX8_sick_63 : decode cX8_sick 63 = .ok (.ldc2_w 254, 3) := by decide +kernel
theorem dX8_sick_66 : decode cX8_sick 66 = .ok (.lreturn, 1) := by decide +kernel
theorem dX8_sick_67 : decode cX8_sick 67 = .ok (.aload_n 0, 1) := by decide +kernel
theorem dX8_sick_68 : decode cX8_sick 68 = .ok (.invokevirtual 233, 3) := by decide +kernel
theorem dX8_sick_71 : decode cX8_sick 71 = .ok (.istore 5, 2) := by decide +kernel
theorem dX8_sick_73 : decode cX8_sick 73 = .ok (.lconst 0, 1) := by decide +kernel
theorem dX8_sick_74 : decode cX8_sick 74 = .ok (.lstore 6, 2) := by decide +kernel
theorem dX8_sick_76 : decode cX8_sick 76 = .ok (.lconst 0, 1) := by decide +kernel
theorem dX8_sick_77 : decode cX8_sick 77 = .ok (.lstore 8, 2) := by decide +kernel
theorem dX8_sick_79 : decode cX8_sick 79 = .ok (.iconst 0, 1) := by decide +kernel
theorem dX8_sick_80 : decode cX8_sick 80 = .ok (.istore 10, 2) := by decide +kernel
theorem dX8_sick_82 : decode cX8_sick 82 = .ok (.iload 10, 2) := by decide +kernel
theorem dX8_sick_84 : decode cX8_sick 84 = .ok (.iload 5, 2) := by decide +kernel
theorem dX8_sick_86 : decode cX8_sick 86 = .ok (.if_icmp .gt 126, 3) := by decide +kernel
theorem dX8_sick_89 : decode cX8_sick 89 = .ok (.iload 10, 2) := by decide +kernel
theorem dX8_sick_91 : decode cX8_sick 91 = .ok (.iload 5, 2) := by decide +kernel
theorem dX8_sick_93 : decode cX8_sick 93 = .ok (.iconst (-1), 1) := by decide +kernel
theorem dX8_sick_94 : decode cX8_sick 94 = .ok (.ixor, 1) := by decide +kernel
theorem dX8_sick_95 : decode cX8_sick 95 = .ok (.iand, 1) := by decide +kernel
theorem dX8_sick_96 : decode cX8_sick 96 = .ok (.ifCond .ne 110, 3) := by decide +kernel
theorem dX8_sick_99 : decode cX8_sick 99 = .ok (.lconst 1, 1) := by decide +kernel
theorem dX8_sick_100 : decode cX8_sick 100 = .ok (.lstore 11, 2) := by decide +kernel
theorem dX8_sick_102 : decode cX8_sick 102 = .ok (.iconst 0, 1) := by decide +kernel
theorem dX8_sick_103 : decode cX8_sick 103 = .ok (.istore 13, 2) := by decide +kernel
theorem dX8_sick_105 : decode cX8_sick 105 = .ok (.iload 13, 2) := by decide +kernel
theorem dX8_sick_107 : decode cX8_sick 107 = .ok (.aload_n 0, 1) := by decide +kernel
theorem dX8_sick_108 : decode cX8_sick 108 = .ok (.getfield 19, 3) := by decide +kernel
theorem dX8_sick_111 : decode cX8_sick 111 = .ok (.iconst 2, 1) := by decide +kernel
theorem dX8_sick_112 : decode cX8_sick 112 = .ok (.iaload, 1) := by decide +kernel
theorem dX8_sick_113 : decode cX8_sick 113 = .ok (.if_icmp .ge 49, 3) := by decide +kernel
theorem dX8_sick_116 : decode cX8_sick 116 = .ok (.lload 11, 2) := by decide +kernel
theorem dX8_sick_118 : decode cX8_sick 118 = .ok (.iload 5, 2) := by decide +kernel
theorem dX8_sick_120 : decode cX8_sick 120 = .ok (.iload 13, 2) := by decide +kernel
theorem dX8_sick_122 : decode cX8_sick 122 = .ok (.invokestatic 171, 3) := by decide +kernel
theorem dX8_sick_125 : decode cX8_sick 125 = .ok (.ifCond .ne 7, 3) := by decide +kernel
theorem dX8_sick_128 : decode cX8_sick 128 = .ok (.lconst 1, 1) := by decide +kernel
theorem dX8_sick_129 : decode cX8_sick 129 = .ok (.goto 24, 3) := by decide +kernel
theorem dX8_sick_132 : decode cX8_sick 132 = .ok (.iload 10, 2) := by decide +kernel
theorem dX8_sick_134 : decode cX8_sick 134 = .ok (.iload 13, 2) := by decide +kernel
theorem dX8_sick_136 : decode cX8_sick 136 = .ok (.invokestatic 171, 3) := by decide +kernel
theorem dX8_sick_139 : decode cX8_sick 139 = .ok (.ifCond .eq 8, 3) := by decide +kernel
theorem dX8_sick_142 : decode cX8_sick 142 = .ok (.iload_n 3, 1) := by decide +kernel
theorem dX8_sick_143 : decode cX8_sick 143 = .ok (.i2l, 1) := by decide +kernel
theorem dX8_sick_144 : decode cX8_sick 144 = .ok (.goto 9, 3) := by decide +kernel
theorem dX8_sick_147 : decode cX8_sick 147 = .ok (.ldc2_w 250, 3) := by decide +kernel
theorem dX8_sick_150 : decode cX8_sick 150 = .ok (.iload_n 3, 1) := by decide +kernel
theorem dX8_sick_151 : decode cX8_sick 151 = .ok (.i2l, 1) := by decide +kernel
theorem dX8_sick_152 : decode cX8_sick 152 = .ok (.lsub, 1) := by decide +kernel
theorem dX8_sick_153 : decode cX8_sick 153 = .ok (.lmul, 1) := by decide +kernel
theorem dX8_sick_154 : decode cX8_sick 154 = .ok (.lstore 11, 2) := by decide +kernel
theorem dX8_sick_156 : decode cX8_sick 156 = .ok (.iinc 13 1, 3) := by decide +kernel
theorem dX8_sick_159 : decode cX8_sick 159 = .ok (.goto (-54), 3) := by decide +kernel
theorem dX8_sick_162 : decode cX8_sick 162 = .ok (.aload_n 0, 1) := by decide +kernel
theorem dX8_sick_163 : decode cX8_sick 163 = .ok (.invokevirtual 220, 3) := by decide +kernel
theorem dX8_sick_166 : decode cX8_sick 166 = .ok (.aload_n 0, 1) := by decide +kernel
theorem dX8_sick_167 : decode cX8_sick 167 = .ok (.getfield 25, 3) := by decide +kernel
theorem dX8_sick_170 : decode cX8_sick 170 = .ok (.iconst 4, 1) := by decide +kernel
theorem dX8_sick_171 : decode cX8_sick 171 = .ok (.dup2, 1) := by decide +kernel
theorem dX8_sick_172 : decode cX8_sick 172 = .ok (.iaload, 1) := by decide +kernel
theorem dX8_sick_173 : decode cX8_sick 173 = .ok (.iload 10, 2) := by decide +kernel
theorem dX8_sick_175 : decode cX8_sick 175 = .ok (.ior, 1) := by decide +kernel
theorem dX8_sick_176 : decode cX8_sick 176 = .ok (.iastore, 1) := by decide +kernel
theorem dX8_sick_177 : decode cX8_sick 177 = .ok (.lload 8, 2) := by decide +kernel
theorem dX8_sick_179 : decode cX8_sick 179 = .ok (.lload 11, 2) := by decide +kernel
theorem dX8_sick_181 : decode cX8_sick 181 = .ok (.ladd, 1) := by decide +kernel
theorem dX8_sick_182 : decode cX8_sick 182 = .ok (.lstore 8, 2) := by decide +kernel
theorem dX8_sick_184 : decode cX8_sick 184 = .ok (.lload 6, 2) := by decide +kernel
theorem dX8_sick_186 : decode cX8_sick 186 = .ok (.aload_n 0, 1) := by decide +kernel
theorem dX8_sick_187 : decode cX8_sick 187 = .ok (.iload_n 1, 1) := by decide +kernel
theorem dX8_sick_188 : decode cX8_sick 188 = .ok (.iload_n 2, 1) := by decide +kernel
theorem dX8_sick_189 : decode cX8_sick 189 = .ok (.invokevirtual 227, 3) := by decide +kernel
theorem dX8_sick_192 : decode cX8_sick 192 = .ok (.ldc 96, 2) := by decide +kernel
theorem dX8_sick_194 : decode cX8_sick 194 = .ok (.if_icmp .eq 8, 3) := by decide +kernel
theorem dX8_sick_197 : decode cX8_sick 197 = .ok (.lload 11, 2) := by decide +kernel
theorem dX8_sick_199 : decode cX8_sick 199 = .ok (.goto 4, 3) := by decide +kernel
theorem dX8_sick_202 : decode cX8_sick 202 = .ok (.lconst 0, 1) := by decide +kernel
theorem dX8_sick_203 : decode cX8_sick 203 = .ok (.ladd, 1) := by decide +kernel
theorem dX8_sick_204 : decode cX8_sick 204 = .ok (.lstore 6, 2) := by decide +kernel
theorem dX8_sick_206 : decode cX8_sick 206 = .ok (.iinc 10 1, 3) := by decide +kernel
theorem dX8_sick_209 : decode cX8_sick 209 = .ok (.goto (-127), 3) := by decide +kernel
theorem dX8_sick_212 : decode cX8_sick 212 = .ok (.lload 6, 2) := by decide +kernel
theorem dX8_sick_214 : decode cX8_sick 214 = .ok (.lstore 10, 2) := by decide +kernel
theorem dX8_sick_216 : decode cX8_sick 216 = .ok (.lload 8, 2) := by decide +kernel
theorem dX8_sick_218 : decode cX8_sick 218 = .ok (.lstore 12, 2) := by decide +kernel
theorem dX8_sick_220 : decode cX8_sick 220 = .ok (.lload 12, 2) := by decide +kernel
theorem dX8_sick_222 : decode cX8_sick 222 = .ok (.lconst 0, 1) := by decide +kernel
theorem dX8_sick_223 : decode cX8_sick 223 = .ok (.lcmp, 1) := by decide +kernel
theorem dX8_sick_224 : decode cX8_sick 224 = .ok (.ifCond .eq 21, 3) := by decide +kernel
theorem dX8_sick_227 : decode cX8_sick 227 = .ok (.lload 10, 2) := by decide +kernel
theorem dX8_sick_229 : decode cX8_sick 229 = .ok (.lload 12, 2) := by decide +kernel
theorem dX8_sick_231 : decode cX8_sick 231 = .ok (.lrem, 1) := by decide +kernel
theorem dX8_sick_232 : decode cX8_sick 232 = .ok (.lstore 14, 2) := by decide +kernel
theorem dX8_sick_234 : decode cX8_sick 234 = .ok (.lload 12, 2) := by decide +kernel
theorem dX8_sick_236 : decode cX8_sick 236 = .ok (.lstore 10, 2) := by decide +kernel
theorem dX8_sick_238 : decode cX8_sick 238 = .ok (.lload 14, 2) := by decide +kernel
theorem dX8_sick_240 : decode cX8_sick 240 = .ok (.lstore 12, 2) := by decide +kernel
theorem dX8_sick_242 : decode cX8_sick 242 = .ok (.goto (-22), 3) := by decide +kernel
theorem dX8_sick_245 : decode cX8_sick 245 = .ok (.iload 4, 2) := by decide +kernel
theorem dX8_sick_247 : decode cX8_sick 247 = .ok (.ifCond .ne 8, 3) := by decide +kernel
theorem dX8_sick_250 : decode cX8_sick 250 = .ok (.lload 6, 2) := by decide +kernel
theorem dX8_sick_252 : decode cX8_sick 252 = .ok (.goto 5, 3) := by decide +kernel
theorem dX8_sick_255 : decode cX8_sick 255 = .ok (.lload 8, 2) := by decide +kernel
theorem dX8_sick_257 : decode cX8_sick 257 = .ok (.lload 10, 2) := by decide +kernel
theorem dX8_sick_259 : decode cX8_sick 259 = .ok (.ldiv, 1) := by decide +kernel
theorem dX8_sick_260 : decode cX8_sick 260 = .ok (.lreturn, 1) := by decide +kernel
theorem dX8_drawn_0 : decode cX8_drawn 0 = .ok (.aload_n 0, 1) := by decide +kernel
theorem dX8_drawn_1 : decode cX8_drawn 1 = .ok (.iconst 0, 1) := by decide +kernel
theorem dX8_drawn_2 : decode cX8_drawn 2 = .ok (.putfield 53, 3) := by decide +kernel
theorem dX8_drawn_5 : decode cX8_drawn 5 = .ok (.aload_n 0, 1) := by decide +kernel
theorem dX8_drawn_6 : decode cX8_drawn 6 = .ok (.invokevirtual 155, 3) := by decide +kernel
theorem dX8_drawn_9 : decode cX8_drawn 9 = .ok (.ifCond .ne 6, 3) := by decide +kernel
theorem dX8_drawn_12 : decode cX8_drawn 12 = .ok (.ldc 189, 2) := by decide +kernel
theorem dX8_drawn_14 : decode cX8_drawn 14 = .ok (.ireturn, 1) := by decide +kernel
theorem dX8_drawn_15 : decode cX8_drawn 15 = .ok (.iload_n 1, 1) := by decide +kernel
theorem dX8_drawn_16 : decode cX8_drawn 16 = .ok (.i2l, 1) := by decide +kernel
theorem dX8_drawn_17 : decode cX8_drawn 17 = .ok (.lconst 0, 1) := by decide +kernel
theorem dX8_drawn_18 : decode cX8_drawn 18 = .ok (.ldc2_w 218, 3) := by decide +kernel
theorem dX8_drawn_21 : decode cX8_drawn 21 = .ok (.invokestatic 63, 3) := by decide +kernel
theorem dX8_drawn_24 : decode cX8_drawn 24 = .ok (.ifCond .eq 25, 3) := by decide +kernel
theorem dX8_drawn_27 : decode cX8_drawn 27 = .ok (.iload_n 2, 1) := by decide +kernel
theorem dX8_drawn_28 : decode cX8_drawn 28 = .ok (.i2l, 1) := by decide +kernel
theorem dX8_drawn_29 : decode cX8_drawn 29 = .ok (.lconst 1, 1) := by decide +kernel
theorem dX8_drawn_30 : decode cX8_drawn 30 = .ok (.ldc2_w 256, 3) := by decide +kernel
theorem dX8_drawn_33 : decode cX8_drawn 33 = .ok (.invokestatic 63, 3) := by decide +kernel
theorem dX8_drawn_36 : decode cX8_drawn 36 = .ok (.ifCond .eq 13, 3) := by decide +kernel
theorem dX8_drawn_39 : decode cX8_drawn 39 = .ok (.iload_n 3, 1) := by decide +kernel
theorem dX8_drawn_40 : decode cX8_drawn 40 = .ok (.i2l, 1) := by decide +kernel
theorem dX8_drawn_41 : decode cX8_drawn 41 = .ok (.lconst 0, 1) := by decide +kernel
theorem dX8_drawn_42 : decode cX8_drawn 42 = .ok (.lconst 1, 1) := by decide +kernel
theorem dX8_drawn_43 : decode cX8_drawn 43 = .ok (.invokestatic 63, 3) := by decide +kernel
theorem dX8_drawn_46 : decode cX8_drawn 46 = .ok (.ifCond .ne 6, 3) := by decide +kernel
theorem dX8_drawn_49 : decode cX8_drawn 49 = .ok (.ldc 73, 2) := by decide +kernel
theorem dX8_drawn_51 : decode cX8_drawn 51 = .ok (.ireturn, 1) := by decide +kernel
theorem dX8_drawn_52 : decode cX8_drawn 52 = .ok (.aload_n 0, 1) := by decide +kernel
theorem dX8_drawn_53 : decode cX8_drawn 53 = .ok (.invokevirtual 220, 3) := by decide +kernel
theorem dX8_drawn_56 : decode cX8_drawn 56 = .ok (.iload_n 2, 1) := by decide +kernel
theorem dX8_drawn_57 : decode cX8_drawn 57 = .ok (.i2l, 1) := by decide +kernel
theorem dX8_drawn_58 : decode cX8_drawn 58 = .ok (.lstore 4, 2) := by decide +kernel
theorem dX8_drawn_60 : decode cX8_drawn 60 = .ok (.iconst 0, 1) := by decide +kernel
theorem dX8_drawn_61 : decode cX8_drawn 61 = .ok (.istore 6, 2) := by decide +kernel
theorem dX8_drawn_63 : decode cX8_drawn 63 = .ok (.iconst 0, 1) := by decide +kernel
theorem dX8_drawn_64 : decode cX8_drawn 64 = .ok (.istore 7, 2) := by decide +kernel
theorem dX8_drawn_66 : decode cX8_drawn 66 = .ok (.iload 7, 2) := by decide +kernel
theorem dX8_drawn_68 : decode cX8_drawn 68 = .ok (.iload_n 1, 1) := by decide +kernel
theorem dX8_drawn_69 : decode cX8_drawn 69 = .ok (.if_icmp .ge 85, 3) := by decide +kernel
theorem dX8_drawn_72 : decode cX8_drawn 72 = .ok (.lload 4, 2) := by decide +kernel
theorem dX8_drawn_74 : decode cX8_drawn 74 = .ok (.ldc2_w 258, 3) := by decide +kernel
theorem dX8_drawn_77 : decode cX8_drawn 77 = .ok (.lmul, 1) := by decide +kernel
theorem dX8_drawn_78 : decode cX8_drawn 78 = .ok (.ldc2_w 260, 3) := by decide +kernel
theorem dX8_drawn_81 : decode cX8_drawn 81 = .ok (.lrem, 1) := by decide +kernel
theorem dX8_drawn_82 : decode cX8_drawn 82 = .ok (.lstore 4, 2) := by decide +kernel
theorem dX8_drawn_84 : decode cX8_drawn 84 = .ok (.lload 4, 2) := by decide +kernel
theorem dX8_drawn_86 : decode cX8_drawn 86 = .ok (.ldc2_w 216, 3) := by decide +kernel
theorem dX8_drawn_89 : decode cX8_drawn 89 = .ok (.lrem, 1) := by decide +kernel
theorem dX8_drawn_90 : decode cX8_drawn 90 = .ok (.lconst 0, 1) := by decide +kernel
theorem dX8_drawn_91 : decode cX8_drawn 91 = .ok (.lcmp, 1) := by decide +kernel
theorem dX8_drawn_92 : decode cX8_drawn 92 = .ok (.ifCond .ne 43, 3) := by decide +kernel
theorem dX8_drawn_95 : decode cX8_drawn 95 = .ok (.lload 4, 2) := by decide +kernel
theorem dX8_drawn_97 : decode cX8_drawn 97 = .ok (.aload_n 0, 1) := by decide +kernel
theorem dX8_drawn_98 : decode cX8_drawn 98 = .ok (.getfield 25, 3) := by decide +kernel
theorem dX8_drawn_101 : decode cX8_drawn 101 = .ok (.iconst 0, 1) := by decide +kernel
theorem dX8_drawn_102 : decode cX8_drawn 102 = .ok (.iaload, 1) := by decide +kernel
theorem dX8_drawn_103 : decode cX8_drawn 103 = .ok (.i2l, 1) := by decide +kernel
theorem dX8_drawn_104 : decode cX8_drawn 104 = .ok (.lrem, 1) := by decide +kernel
theorem dX8_drawn_105 : decode cX8_drawn 105 = .ok (.l2i, 1) := by decide +kernel
theorem dX8_drawn_106 : decode cX8_drawn 106 = .ok (.istore 8, 2) := by decide +kernel
theorem dX8_drawn_108 : decode cX8_drawn 108 = .ok (.aload_n 0, 1) := by decide +kernel
theorem dX8_drawn_109 : decode cX8_drawn 109 = .ok (.getfield 25, 3) := by decide +kernel
theorem dX8_drawn_112 : decode cX8_drawn 112 = .ok (.lload 4, 2) := by decide +kernel
theorem dX8_drawn_114 : decode cX8_drawn 114 = .ok (.ldc2_w 262, 3) := by decide +kernel
theorem dX8_drawn_117 : decode cX8_drawn 117 = .ok (.lrem, 1) := by decide +kernel
theorem dX8_drawn_118 : decode cX8_drawn 118 = .ok (.l2i, 1) := by decide +kernel
theorem dX8_drawn_119 : decode cX8_drawn 119 = .ok (.iload 8, 2) := by decide +kernel
theorem dX8_drawn_121 : decode cX8_drawn 121 = .ok (.aload_n 0, 1) := by decide +kernel
theorem dX8_drawn_122 : decode cX8_drawn 122 = .ok (.getfield 25, 3) := by decide +kernel
theorem dX8_drawn_125 : decode cX8_drawn 125 = .ok (.iconst 0, 1) := by decide +kernel
theorem dX8_drawn_126 : decode cX8_drawn 126 = .ok (.iaload, 1) := by decide +kernel
theorem dX8_drawn_127 : decode cX8_drawn 127 = .ok (.iconst 1, 1) := by decide +kernel
theorem dX8_drawn_128 : decode cX8_drawn 128 = .ok (.isub, 1) := by decide +kernel
theorem dX8_drawn_129 : decode cX8_drawn 129 = .ok (.iload 8, 2) := by decide +kernel
theorem dX8_drawn_131 : decode cX8_drawn 131 = .ok (.isub, 1) := by decide +kernel
theorem dX8_drawn_132 : decode cX8_drawn 132 = .ok (.invokestatic 204, 3) := by decide +kernel
theorem dX8_drawn_135 : decode cX8_drawn 135 = .ok (.iload 6, 2) := by decide +kernel
theorem dX8_drawn_137 : decode cX8_drawn 137 = .ok (.aload_n 0, 1) := by decide +kernel
theorem dX8_drawn_138 : decode cX8_drawn 138 = .ok (.aload_n 0, 1) := by decide +kernel
theorem dX8_drawn_139 : decode cX8_drawn 139 = .ok (.getfield 25, 3) := by decide +kernel
theorem dX8_drawn_142 : decode cX8_drawn 142 = .ok (.invokevirtual 182, 3) := by decide +kernel
theorem dX8_drawn_145 : decode cX8_drawn 145 = .ok (.iadd, 1) := by decide +kernel
theorem dX8_drawn_146 : decode cX8_drawn 146 = .ok (.istore 6, 2) := by decide +kernel
theorem dX8_drawn_148 : decode cX8_drawn 148 = .ok (.iinc 7 1, 3) := by decide +kernel
theorem dX8_drawn_151 : decode cX8_drawn 151 = .ok (.goto (-85), 3) := by decide +kernel
theorem dX8_drawn_154 : decode cX8_drawn 154 = .ok (.iload_n 3, 1) := by decide +kernel
theorem dX8_drawn_155 : decode cX8_drawn 155 = .ok (.ifCond .ne 16, 3) := by decide +kernel
theorem dX8_drawn_158 : decode cX8_drawn 158 = .ok (.aload_n 0, 1) := by decide +kernel
theorem dX8_drawn_159 : decode cX8_drawn 159 = .ok (.getfield 25, 3) := by decide +kernel
theorem dX8_drawn_162 : decode cX8_drawn 162 = .ok (.invokestatic 195, 3) := by decide +kernel
theorem dX8_drawn_165 : decode cX8_drawn 165 = .ok (.invokestatic 237, 3) := by decide +kernel
theorem dX8_drawn_168 : decode cX8_drawn 168 = .ok (.goto 5, 3) := by decide +kernel
theorem dX8_drawn_171 : decode cX8_drawn 171 = .ok (.iload 6, 2) := by decide +kernel
theorem dX8_drawn_173 : decode cX8_drawn 173 = .ok (.ireturn, 1) := by decide +kernel
theorem dX8_image_0 : decode cX8_image 0 = .ok (.aload_n 0, 1) := by decide +kernel
theorem dX8_image_1 : decode cX8_image 1 = .ok (.iconst 0, 1) := by decide +kernel
theorem dX8_image_2 : decode cX8_image 2 = .ok (.putfield 53, 3) := by decide +kernel
theorem dX8_image_5 : decode cX8_image 5 = .ok (.iload_n 1, 1) := by decide +kernel
theorem dX8_image_6 : decode cX8_image 6 = .ok (.i2l, 1) := by decide +kernel
theorem dX8_image_7 : decode cX8_image 7 = .ok (.lconst 0, 1) := by decide +kernel
theorem dX8_image_8 : decode cX8_image 8 = .ok (.lconst 1, 1) := by decide +kernel
theorem dX8_image_9 : decode cX8_image 9 = .ok (.invokestatic 63, 3) := by decide +kernel
theorem dX8_image_12 : decode cX8_image 12 = .ok (.ifCond .ne 6, 3) := by decide +kernel
theorem dX8_image_15 : decode cX8_image 15 = .ok (.ldc 73, 2) := by decide +kernel
theorem dX8_image_17 : decode cX8_image 17 = .ok (.ireturn, 1) := by decide +kernel
theorem dX8_image_18 : decode cX8_image 18 = .ok (.aload_n 0, 1) := by decide +kernel
theorem dX8_image_19 : decode cX8_image 19 = .ok (.invokevirtual 155, 3) := by decide +kernel
theorem dX8_image_22 : decode cX8_image 22 = .ok (.ifCond .ne 6, 3) := by decide +kernel
theorem dX8_image_25 : decode cX8_image 25 = .ok (.ldc 189, 2) := by decide +kernel
theorem dX8_image_27 : decode cX8_image 27 = .ok (.ireturn, 1) := by decide +kernel
theorem dX8_image_28 : decode cX8_image 28 = .ok (.iconst 0, 1) := by decide +kernel
theorem dX8_image_29 : decode cX8_image 29 = .ok (.istore_n 2, 1) := by decide +kernel
theorem dX8_image_30 : decode cX8_image 30 = .ok (.iload_n 2, 1) := by decide +kernel
theorem dX8_image_31 : decode cX8_image 31 = .ok (.bipush 41, 2) := by decide +kernel
theorem dX8_image_33 : decode cX8_image 33 = .ok (.if_icmp .ge 26, 3) := by decide +kernel
theorem dX8_image_36 : decode cX8_image 36 = .ok (.aload_n 0, 1) := by decide +kernel
theorem dX8_image_37 : decode cX8_image 37 = .ok (.getfield 47, 3) := by decide +kernel
theorem dX8_image_40 : decode cX8_image 40 = .ok (.bipush 41, 2) := by decide +kernel
theorem dX8_image_42 : decode cX8_image 42 = .ok (.iload_n 1, 1) := by decide +kernel
theorem dX8_image_43 : decode cX8_image 43 = .ok (.imul, 1) := by decide +kernel
theorem dX8_image_44 : decode cX8_image 44 = .ok (.iload_n 2, 1) := by decide +kernel
theorem dX8_image_45 : decode cX8_image 45 = .ok (.iadd, 1) := by decide +kernel
theorem dX8_image_46 : decode cX8_image 46 = .ok (.aload_n 0, 1) := by decide +kernel
theorem dX8_image_47 : decode cX8_image 47 = .ok (.getfield 19, 3) := by decide +kernel
theorem dX8_image_50 : decode cX8_image 50 = .ok (.iload_n 2, 1) := by decide +kernel
theorem dX8_image_51 : decode cX8_image 51 = .ok (.iaload, 1) := by decide +kernel
theorem dX8_image_52 : decode cX8_image 52 = .ok (.iastore, 1) := by decide +kernel
theorem dX8_image_53 : decode cX8_image 53 = .ok (.iinc 2 1, 3) := by decide +kernel
theorem dX8_image_56 : decode cX8_image 56 = .ok (.goto (-26), 3) := by decide +kernel
theorem dX8_image_59 : decode cX8_image 59 = .ok (.aload_n 0, 1) := by decide +kernel
theorem dX8_image_60 : decode cX8_image 60 = .ok (.getfield 43, 3) := by decide +kernel
theorem dX8_image_63 : decode cX8_image 63 = .ok (.iload_n 1, 1) := by decide +kernel
theorem dX8_image_64 : decode cX8_image 64 = .ok (.iconst 1, 1) := by decide +kernel
theorem dX8_image_65 : decode cX8_image 65 = .ok (.bastore, 1) := by decide +kernel
theorem dX8_image_66 : decode cX8_image 66 = .ok (.iconst 1, 1) := by decide +kernel
theorem dX8_image_67 : decode cX8_image 67 = .ok (.ireturn, 1) := by decide +kernel
theorem dX8_restore_0 : decode cX8_restore 0 = .ok (.aload_n 0, 1) := by decide +kernel
theorem dX8_restore_1 : decode cX8_restore 1 = .ok (.iconst 0, 1) := by decide +kernel
theorem dX8_restore_2 : decode cX8_restore 2 = .ok (.putfield 53, 3) := by decide +kernel
theorem dX8_restore_5 : decode cX8_restore 5 = .ok (.iload_n 1, 1) := by decide +kernel
theorem dX8_restore_6 : decode cX8_restore 6 = .ok (.i2l, 1) := by decide +kernel
theorem dX8_restore_7 : decode cX8_restore 7 = .ok (.lconst 0, 1) := by decide +kernel
theorem dX8_restore_8 : decode cX8_restore 8 = .ok (.lconst 1, 1) := by decide +kernel
theorem dX8_restore_9 : decode cX8_restore 9 = .ok (.invokestatic 63, 3) := by decide +kernel
theorem dX8_restore_12 : decode cX8_restore 12 = .ok (.ifCond .ne 6, 3) := by decide +kernel
theorem dX8_restore_15 : decode cX8_restore 15 = .ok (.ldc 73, 2) := by decide +kernel
theorem dX8_restore_17 : decode cX8_restore 17 = .ok (.ireturn, 1) := by decide +kernel
theorem dX8_restore_18 : decode cX8_restore 18 = .ok (.aload_n 0, 1) := by decide +kernel
theorem dX8_restore_19 : decode cX8_restore 19 = .ok (.getfield 43, 3) := by decide +kernel
theorem dX8_restore_22 : decode cX8_restore 22 = .ok (.iload_n 1, 1) := by decide +kernel
theorem dX8_restore_23 : decode cX8_restore 23 = .ok (.baload, 1) := by decide +kernel
theorem dX8_restore_24 : decode cX8_restore 24 = .ok (.ifCond .ne 6, 3) := by decide +kernel
theorem dX8_restore_27 : decode cX8_restore 27 = .ok (.ldc 189, 2) := by decide +kernel
theorem dX8_restore_29 : decode cX8_restore 29 = .ok (.ireturn, 1) := by decide +kernel
theorem dX8_restore_30 : decode cX8_restore 30 = .ok (.iconst 0, 1) := by decide +kernel
theorem dX8_restore_31 : decode cX8_restore 31 = .ok (.istore_n 2, 1) := by decide +kernel
theorem dX8_restore_32 : decode cX8_restore 32 = .ok (.iload_n 2, 1) := by decide +kernel
theorem dX8_restore_33 : decode cX8_restore 33 = .ok (.bipush 41, 2) := by decide +kernel
theorem dX8_restore_35 : decode cX8_restore 35 = .ok (.if_icmp .ge 26, 3) := by decide +kernel
theorem dX8_restore_38 : decode cX8_restore 38 = .ok (.aload_n 0, 1) := by decide +kernel
theorem dX8_restore_39 : decode cX8_restore 39 = .ok (.getfield 19, 3) := by decide +kernel
theorem dX8_restore_42 : decode cX8_restore 42 = .ok (.iload_n 2, 1) := by decide +kernel
theorem dX8_restore_43 : decode cX8_restore 43 = .ok (.aload_n 0, 1) := by decide +kernel
theorem dX8_restore_44 : decode cX8_restore 44 = .ok (.getfield 47, 3) := by decide +kernel
theorem dX8_restore_47 : decode cX8_restore 47 = .ok (.bipush 41, 2) := by decide +kernel
theorem dX8_restore_49 : decode cX8_restore 49 = .ok (.iload_n 1, 1) := by decide +kernel
theorem dX8_restore_50 : decode cX8_restore 50 = .ok (.imul, 1) := by decide +kernel
theorem dX8_restore_51 : decode cX8_restore 51 = .ok (.iload_n 2, 1) := by decide +kernel
theorem dX8_restore_52 : decode cX8_restore 52 = .ok (.iadd, 1) := by decide +kernel
theorem dX8_restore_53 : decode cX8_restore 53 = .ok (.iaload, 1) := by decide +kernel
theorem dX8_restore_54 : decode cX8_restore 54 = .ok (.iastore, 1) := by decide +kernel
theorem dX8_restore_55 : decode cX8_restore 55 = .ok (.iinc 2 1, 3) := by decide +kernel
theorem dX8_restore_58 : decode cX8_restore 58 = .ok (.goto (-26), 3) := by decide +kernel
theorem dX8_restore_61 : decode cX8_restore 61 = .ok (.aload_n 0, 1) := by decide +kernel
theorem dX8_restore_62 : decode cX8_restore 62 = .ok (.iconst 0, 1) := by decide +kernel
theorem dX8_restore_63 : decode cX8_restore 63 = .ok (.putfield 152, 3) := by decide +kernel
theorem dX8_restore_66 : decode cX8_restore 66 = .ok (.iconst 1, 1) := by decide +kernel
theorem dX8_restore_67 : decode cX8_restore 67 = .ok (.ireturn, 1) := by decide +kernel
theorem dX8_isOf_0 : decode cX8_isOf 0 = .ok (.iload_n 1, 1) := by decide +kernel
theorem dX8_isOf_1 : decode cX8_isOf 1 = .ok (.ifCond .eq 28, 3) := by decide +kernel
theorem dX8_isOf_4 : decode cX8_isOf 4 = .ok (.iload_n 0, 1) := by decide +kernel
theorem dX8_isOf_5 : decode cX8_isOf 5 = .ok (.iload_n 1, 1) := by decide +kernel
theorem dX8_isOf_6 : decode cX8_isOf 6 = .ok (.if_icmp .eq 23, 3) := by decide +kernel
theorem dX8_isOf_9 : decode cX8_isOf 9 = .ok (.iload_n 1, 1) := by decide +kernel
theorem dX8_isOf_10 : decode cX8_isOf 10 = .ok (.iconst 1, 1) := by decide +kernel
theorem dX8_isOf_11 : decode cX8_isOf 11 = .ok (.if_icmp .ne 8, 3) := by decide +kernel
theorem dX8_isOf_14 : decode cX8_isOf 14 = .ok (.iload_n 0, 1) := by decide +kernel
theorem dX8_isOf_15 : decode cX8_isOf 15 = .ok (.iconst 4, 1) := by decide +kernel
theorem dX8_isOf_16 : decode cX8_isOf 16 = .ok (.if_icmp .lt 13, 3) := by decide +kernel
theorem dX8_isOf_19 : decode cX8_isOf 19 = .ok (.iload_n 1, 1) := by decide +kernel
theorem dX8_isOf_20 : decode cX8_isOf 20 = .ok (.iconst 4, 1) := by decide +kernel
theorem dX8_isOf_21 : decode cX8_isOf 21 = .ok (.if_icmp .ne 12, 3) := by decide +kernel
theorem dX8_isOf_24 : decode cX8_isOf 24 = .ok (.iload_n 0, 1) := by decide +kernel
theorem dX8_isOf_25 : decode cX8_isOf 25 = .ok (.iconst 5, 1) := by decide +kernel
theorem dX8_isOf_26 : decode cX8_isOf 26 = .ok (.if_icmp .ne 7, 3) := by decide +kernel
theorem dX8_isOf_29 : decode cX8_isOf 29 = .ok (.iconst 1, 1) := by decide +kernel
theorem dX8_isOf_30 : decode cX8_isOf 30 = .ok (.goto 4, 3) := by decide +kernel
theorem dX8_isOf_33 : decode cX8_isOf 33 = .ok (.iconst 0, 1) := by decide +kernel
theorem dX8_isOf_34 : decode cX8_isOf 34 = .ok (.ireturn, 1) := by decide +kernel
theorem dX8_kind_0 : decode cX8_kind 0 = .ok (.aload_n 0, 1) := by decide +kernel
theorem dX8_kind_1 : decode cX8_kind 1 = .ok (.iconst 0, 1) := by decide +kernel
theorem dX8_kind_2 : decode cX8_kind 2 = .ok (.putfield 53, 3) := by decide +kernel
theorem dX8_kind_5 : decode cX8_kind 5 = .ok (.aload_n 0, 1) := by decide +kernel
theorem dX8_kind_6 : decode cX8_kind 6 = .ok (.iload_n 1, 1) := by decide +kernel
theorem dX8_kind_7 : decode cX8_kind 7 = .ok (.invokevirtual 211, 3) := by decide +kernel
theorem dX8_kind_10 : decode cX8_kind 10 = .ok (.ifCond .eq 15, 3) := by decide +kernel
theorem dX8_kind_13 : decode cX8_kind 13 = .ok (.aload_n 0, 1) := by decide +kernel
theorem dX8_kind_14 : decode cX8_kind 14 = .ok (.getfield 19, 3) := by decide +kernel
theorem dX8_kind_17 : decode cX8_kind 17 = .ok (.iload_n 1, 1) := by decide +kernel
theorem dX8_kind_18 : decode cX8_kind 18 = .ok (.iconst 0, 1) := by decide +kernel
theorem dX8_kind_19 : decode cX8_kind 19 = .ok (.invokestatic 168, 3) := by decide +kernel
theorem dX8_kind_22 : decode cX8_kind 22 = .ok (.goto 5, 3) := by decide +kernel
theorem dX8_kind_25 : decode cX8_kind 25 = .ok (.ldc 73, 2) := by decide +kernel
theorem dX8_kind_27 : decode cX8_kind 27 = .ok (.ireturn, 1) := by decide +kernel
theorem dX8_as_0 : decode cX8_as 0 = .ok (.aload_n 0, 1) := by decide +kernel
theorem dX8_as_1 : decode cX8_as 1 = .ok (.iconst 0, 1) := by decide +kernel
theorem dX8_as_2 : decode cX8_as 2 = .ok (.putfield 53, 3) := by decide +kernel
theorem dX8_as_5 : decode cX8_as 5 = .ok (.aload_n 0, 1) := by decide +kernel
theorem dX8_as_6 : decode cX8_as 6 = .ok (.iload_n 1, 1) := by decide +kernel
theorem dX8_as_7 : decode cX8_as 7 = .ok (.invokevirtual 211, 3) := by decide +kernel
theorem dX8_as_10 : decode cX8_as 10 = .ok (.ifCond .eq 15, 3) := by decide +kernel
theorem dX8_as_13 : decode cX8_as 13 = .ok (.iload_n 2, 1) := by decide +kernel
theorem dX8_as_14 : decode cX8_as 14 = .ok (.i2l, 1) := by decide +kernel
theorem dX8_as_15 : decode cX8_as 15 = .ok (.lconst 0, 1) := by decide +kernel
theorem dX8_as_16 : decode cX8_as 16 = .ok (.ldc2_w 216, 3) := by decide +kernel
theorem dX8_as_19 : decode cX8_as 19 = .ok (.invokestatic 63, 3) := by decide +kernel
theorem dX8_as_22 : decode cX8_as 22 = .ok (.ifCond .ne 6, 3) := by decide +kernel
theorem dX8_as_25 : decode cX8_as 25 = .ok (.ldc 73, 2) := by decide +kernel
theorem dX8_as_27 : decode cX8_as 27 = .ok (.ireturn, 1) := by decide +kernel
theorem dX8_as_28 : decode cX8_as 28 = .ok (.aload_n 0, 1) := by decide +kernel
theorem dX8_as_29 : decode cX8_as 29 = .ok (.iconst 0, 1) := by decide +kernel
theorem dX8_as_30 : decode cX8_as 30 = .ok (.putfield 57, 3) := by decide +kernel
theorem dX8_as_33 : decode cX8_as 33 = .ok (.aload_n 0, 1) := by decide +kernel
theorem dX8_as_34 : decode cX8_as 34 = .ok (.getfield 19, 3) := by decide +kernel
theorem dX8_as_37 : decode cX8_as 37 = .ok (.iload_n 1, 1) := by decide +kernel
theorem dX8_as_38 : decode cX8_as 38 = .ok (.iconst 0, 1) := by decide +kernel
theorem dX8_as_39 : decode cX8_as 39 = .ok (.invokestatic 168, 3) := by decide +kernel
theorem dX8_as_42 : decode cX8_as 42 = .ok (.iload_n 2, 1) := by decide +kernel
theorem dX8_as_43 : decode cX8_as 43 = .ok (.invokestatic 264, 3) := by decide +kernel
theorem dX8_as_46 : decode cX8_as 46 = .ok (.ifCond .eq 7, 3) := by decide +kernel
theorem dX8_as_49 : decode cX8_as 49 = .ok (.iload_n 1, 1) := by decide +kernel
theorem dX8_as_50 : decode cX8_as 50 = .ok (.goto 8, 3) := by decide +kernel
theorem dX8_as_53 : decode cX8_as 53 = .ok (.aload_n 0, 1) := by decide +kernel
theorem dX8_as_54 : decode cX8_as 54 = .ok (.iconst 3, 1) := by decide +kernel
theorem dX8_as_55 : decode cX8_as 55 = .ok (.invokevirtual 74, 3) := by decide +kernel
theorem dX8_as_58 : decode cX8_as 58 = .ok (.ireturn, 1) := by decide +kernel
theorem dX8_began_0 : decode cX8_began 0 = .ok (.aload_n 0, 1) := by decide +kernel
theorem dX8_began_1 : decode cX8_began 1 = .ok (.getfield 267, 3) := by decide +kernel
theorem dX8_began_4 : decode cX8_began 4 = .ok (.bipush 16, 2) := by decide +kernel
theorem dX8_began_6 : decode cX8_began 6 = .ok (.if_icmp .ge 23, 3) := by decide +kernel
theorem dX8_began_9 : decode cX8_began 9 = .ok (.aload_n 0, 1) := by decide +kernel
theorem dX8_began_10 : decode cX8_began 10 = .ok (.getfield 50, 3) := by decide +kernel
theorem dX8_began_13 : decode cX8_began 13 = .ok (.aload_n 0, 1) := by decide +kernel
theorem dX8_began_14 : decode cX8_began 14 = .ok (.getfield 267, 3) := by decide +kernel
theorem dX8_began_17 : decode cX8_began 17 = .ok (.iload_n 1, 1) := by decide +kernel
theorem dX8_began_18 : decode cX8_began 18 = .ok (.iastore, 1) := by decide +kernel
theorem dX8_began_19 : decode cX8_began 19 = .ok (.aload_n 0, 1) := by decide +kernel
theorem dX8_began_20 : decode cX8_began 20 = .ok (.dup, 1) := by decide +kernel
theorem dX8_began_21 : decode cX8_began 21 = .ok (.getfield 267, 3) := by decide +kernel
theorem dX8_began_24 : decode cX8_began 24 = .ok (.iconst 1, 1) := by decide +kernel
theorem dX8_began_25 : decode cX8_began 25 = .ok (.iadd, 1) := by decide +kernel
theorem dX8_began_26 : decode cX8_began 26 = .ok (.putfield 267, 3) := by decide +kernel
theorem dX8_began_29 : decode cX8_began 29 = .ok (.return_, 1) := by decide +kernel
theorem dX8_plainSize_0 : decode cX8_plainSize 0 = .ok (.aload_n 0, 1) := by decide +kernel
theorem dX8_plainSize_1 : decode cX8_plainSize 1 = .ok (.bipush 10, 2) := by decide +kernel
theorem dX8_plainSize_3 : decode cX8_plainSize 3 = .ok (.invokevirtual 270, 3) := by decide +kernel
theorem dX8_plainSize_6 : decode cX8_plainSize 6 = .ok (.aload_n 0, 1) := by decide +kernel
theorem dX8_plainSize_7 : decode cX8_plainSize 7 = .ok (.getfield 19, 3) := by decide +kernel
theorem dX8_plainSize_10 : decode cX8_plainSize 10 = .ok (.iload_n 1, 1) := by decide +kernel
theorem dX8_plainSize_11 : decode cX8_plainSize 11 = .ok (.iconst 3, 1) := by decide +kernel
theorem dX8_plainSize_12 : decode cX8_plainSize 12 = .ok (.invokestatic 168, 3) := by decide +kernel
theorem dX8_plainSize_15 : decode cX8_plainSize 15 = .ok (.ireturn, 1) := by decide +kernel
theorem dX8_maidSize_0 : decode cX8_maidSize 0 = .ok (.aload_n 0, 1) := by decide +kernel
theorem dX8_maidSize_1 : decode cX8_maidSize 1 = .ok (.getfield 19, 3) := by decide +kernel
theorem dX8_maidSize_4 : decode cX8_maidSize 4 = .ok (.iload_n 1, 1) := by decide +kernel
theorem dX8_maidSize_5 : decode cX8_maidSize 5 = .ok (.iconst 0, 1) := by decide +kernel
theorem dX8_maidSize_6 : decode cX8_maidSize 6 = .ok (.invokestatic 168, 3) := by decide +kernel
theorem dX8_maidSize_9 : decode cX8_maidSize 9 = .ok (.iconst 5, 1) := by decide +kernel
theorem dX8_maidSize_10 : decode cX8_maidSize 10 = .ok (.if_icmp .ne 7, 3) := by decide +kernel
theorem dX8_maidSize_13 : decode cX8_maidSize 13 = .ok (.iconst 1, 1) := by decide +kernel
theorem dX8_maidSize_14 : decode cX8_maidSize 14 = .ok (.goto 4, 3) := by decide +kernel
theorem dX8_maidSize_17 : decode cX8_maidSize 17 = .ok (.iconst 0, 1) := by decide +kernel
theorem dX8_maidSize_18 : decode cX8_maidSize 18 = .ok (.istore_n 2, 1) := by decide +kernel
theorem dX8_maidSize_19 : decode cX8_maidSize 19 = .ok (.iload_n 2, 1) := by decide +kernel
theorem dX8_maidSize_20 : decode cX8_maidSize 20 = .ok (.ifCond .eq 9, 3) := by decide +kernel
theorem dX8_maidSize_23 : decode cX8_maidSize 23 = .ok (.aload_n 0, 1) := by decide +kernel
theorem dX8_maidSize_24 : decode cX8_maidSize 24 = .ok (.bipush 14, 2) := by decide +kernel
theorem dX8_maidSize_26 : decode cX8_maidSize 26 = .ok (.invokevirtual 270, 3) := by decide +kernel
theorem dX8_maidSize_29 : decode cX8_maidSize 29 = .ok (.aload_n 0, 1) := by decide +kernel
theorem dX8_maidSize_30 : decode cX8_maidSize 30 = .ok (.bipush 13, 2) := by decide +kernel
theorem dX8_maidSize_32 : decode cX8_maidSize 32 = .ok (.invokevirtual 270, 3) := by decide +kernel
theorem dX8_maidSize_35 : decode cX8_maidSize 35 = .ok (.aload_n 0, 1) := by decide +kernel
theorem dX8_maidSize_36 : decode cX8_maidSize 36 = .ok (.iload_n 1, 1) := by decide +kernel
theorem dX8_maidSize_37 : decode cX8_maidSize 37 = .ok (.invokevirtual 273, 3) := by decide +kernel
theorem dX8_maidSize_40 : decode cX8_maidSize 40 = .ok (.bipush 100, 2) := by decide +kernel
theorem dX8_maidSize_42 : decode cX8_maidSize 42 = .ok (.isub, 1) := by decide +kernel
theorem dX8_maidSize_43 : decode cX8_maidSize 43 = .ok (.istore_n 3, 1) := by decide +kernel
theorem dX8_maidSize_44 : decode cX8_maidSize 44 = .ok (.iload_n 2, 1) := by decide +kernel
theorem dX8_maidSize_45 : decode cX8_maidSize 45 = .ok (.ifCond .eq 9, 3) := by decide +kernel
theorem dX8_maidSize_48 : decode cX8_maidSize 48 = .ok (.iconst 2, 1) := by decide +kernel
theorem dX8_maidSize_49 : decode cX8_maidSize 49 = .ok (.iload_n 3, 1) := by decide +kernel
theorem dX8_maidSize_50 : decode cX8_maidSize 50 = .ok (.imul, 1) := by decide +kernel
theorem dX8_maidSize_51 : decode cX8_maidSize 51 = .ok (.goto 4, 3) := by decide +kernel
theorem dX8_maidSize_54 : decode cX8_maidSize 54 = .ok (.iload_n 3, 1) := by decide +kernel
theorem dX8_maidSize_55 : decode cX8_maidSize 55 = .ok (.ireturn, 1) := by decide +kernel
theorem dX8_markOf_0 : decode cX8_markOf 0 = .ok (.aload_n 0, 1) := by decide +kernel
theorem dX8_markOf_1 : decode cX8_markOf 1 = .ok (.getfield 19, 3) := by decide +kernel
theorem dX8_markOf_4 : decode cX8_markOf 4 = .ok (.iload_n 1, 1) := by decide +kernel
theorem dX8_markOf_5 : decode cX8_markOf 5 = .ok (.iconst 0, 1) := by decide +kernel
theorem dX8_markOf_6 : decode cX8_markOf 6 = .ok (.invokestatic 168, 3) := by decide +kernel
theorem dX8_markOf_9 : decode cX8_markOf 9 = .ok (.istore_n 2, 1) := by decide +kernel
theorem dX8_markOf_10 : decode cX8_markOf 10 = .ok (.iload_n 2, 1) := by decide +kernel
theorem dX8_markOf_11 : decode cX8_markOf 11 = .ok (.iconst 4, 1) := by decide +kernel
theorem dX8_markOf_12 : decode cX8_markOf 12 = .ok (.if_icmp .lt 23, 3) := by decide +kernel
theorem dX8_markOf_15 : decode cX8_markOf 15 = .ok (.aload_n 0, 1) := by decide +kernel
theorem dX8_markOf_16 : decode cX8_markOf 16 = .ok (.bipush 23, 2) := by decide +kernel
theorem dX8_markOf_18 : decode cX8_markOf 18 = .ok (.invokevirtual 270, 3) := by decide +kernel
theorem dX8_markOf_21 : decode cX8_markOf 21 = .ok (.aload_n 0, 1) := by decide +kernel
theorem dX8_markOf_22 : decode cX8_markOf 22 = .ok (.bipush 20, 2) := by decide +kernel
theorem dX8_markOf_24 : decode cX8_markOf 24 = .ok (.invokevirtual 270, 3) := by decide +kernel
theorem dX8_markOf_27 : decode cX8_markOf 27 = .ok (.iload_n 1, 1) := by decide +kernel
theorem dX8_markOf_28 : decode cX8_markOf 28 = .ok (.aload_n 0, 1) := by decide +kernel
theorem dX8_markOf_29 : decode cX8_markOf 29 = .ok (.iload_n 1, 1) := by decide +kernel
theorem dX8_markOf_30 : decode cX8_markOf 30 = .ok (.invokevirtual 276, 3) := by decide +kernel
theorem dX8_markOf_33 : decode cX8_markOf 33 = .ok (.isub, 1) := by decide +kernel
theorem dX8_markOf_34 : decode cX8_markOf 34 = .ok (.ireturn, 1) := by decide +kernel
theorem dX8_markOf_35 : decode cX8_markOf 35 = .ok (.iload_n 2, 1) := by decide +kernel
theorem dX8_markOf_36 : decode cX8_markOf 36 = .ok (.iconst 1, 1) := by decide +kernel
theorem dX8_markOf_37 : decode cX8_markOf 37 = .ok (.if_icmp .eq 19, 3) := by decide +kernel
theorem dX8_markOf_40 : decode cX8_markOf 40 = .ok (.aload_n 0, 1) := by decide +kernel
theorem dX8_markOf_41 : decode cX8_markOf 41 = .ok (.iload_n 2, 1) := by decide +kernel
theorem dX8_markOf_42 : decode cX8_markOf 42 = .ok (.iconst 3, 1) := by decide +kernel
theorem dX8_markOf_43 : decode cX8_markOf 43 = .ok (.if_icmp .ne 8, 3) := by decide +kernel
theorem dX8_markOf_46 : decode cX8_markOf 46 = .ok (.bipush 22, 2) := by decide +kernel
theorem dX8_markOf_48 : decode cX8_markOf 48 = .ok (.goto 5, 3) := by decide +kernel
theorem dX8_markOf_51 : decode cX8_markOf 51 = .ok (.bipush 24, 2) := by decide +kernel
theorem dX8_markOf_53 : decode cX8_markOf 53 = .ok (.invokevirtual 270, 3) := by decide +kernel
theorem dX8_markOf_56 : decode cX8_markOf 56 = .ok (.aload_n 0, 1) := by decide +kernel
theorem dX8_markOf_57 : decode cX8_markOf 57 = .ok (.bipush 21, 2) := by decide +kernel
theorem dX8_markOf_59 : decode cX8_markOf 59 = .ok (.invokevirtual 270, 3) := by decide +kernel
theorem dX8_markOf_62 : decode cX8_markOf 62 = .ok (.aload_n 0, 1) := by decide +kernel
theorem dX8_markOf_63 : decode cX8_markOf 63 = .ok (.bipush 20, 2) := by decide +kernel
theorem dX8_markOf_65 : decode cX8_markOf 65 = .ok (.invokevirtual 270, 3) := by decide +kernel
theorem dX8_markOf_68 : decode cX8_markOf 68 = .ok (.iload_n 1, 1) := by decide +kernel
theorem dX8_markOf_69 : decode cX8_markOf 69 = .ok (.aload_n 0, 1) := by decide +kernel
theorem dX8_markOf_70 : decode cX8_markOf 70 = .ok (.getfield 19, 3) := by decide +kernel
theorem dX8_markOf_73 : decode cX8_markOf 73 = .ok (.iload_n 1, 1) := by decide +kernel
theorem dX8_markOf_74 : decode cX8_markOf 74 = .ok (.aload_n 0, 1) := by decide +kernel
theorem dX8_markOf_75 : decode cX8_markOf 75 = .ok (.getfield 19, 3) := by decide +kernel
theorem dX8_markOf_78 : decode cX8_markOf 78 = .ok (.iconst 3, 1) := by decide +kernel
theorem dX8_markOf_79 : decode cX8_markOf 79 = .ok (.iaload, 1) := by decide +kernel
theorem dX8_markOf_80 : decode cX8_markOf 80 = .ok (.invokestatic 175, 3) := by decide +kernel
theorem dX8_markOf_83 : decode cX8_markOf 83 = .ok (.iadd, 1) := by decide +kernel
theorem dX8_markOf_84 : decode cX8_markOf 84 = .ok (.istore_n 3, 1) := by decide +kernel
theorem dX8_markOf_85 : decode cX8_markOf 85 = .ok (.iload_n 2, 1) := by decide +kernel
theorem dX8_markOf_86 : decode cX8_markOf 86 = .ok (.iconst 1, 1) := by decide +kernel
theorem dX8_markOf_87 : decode cX8_markOf 87 = .ok (.if_icmp .ne 7, 3) := by decide +kernel
theorem dX8_markOf_90 : decode cX8_markOf 90 = .ok (.iload_n 3, 1) := by decide +kernel
theorem dX8_markOf_91 : decode cX8_markOf 91 = .ok (.goto 19, 3) := by decide +kernel
theorem dX8_markOf_94 : decode cX8_markOf 94 = .ok (.iload_n 2, 1) := by decide +kernel
theorem dX8_markOf_95 : decode cX8_markOf 95 = .ok (.iconst 3, 1) := by decide +kernel
theorem dX8_markOf_96 : decode cX8_markOf 96 = .ok (.if_icmp .ne 11, 3) := by decide +kernel
theorem dX8_markOf_99 : decode cX8_markOf 99 = .ok (.iload_n 3, 1) := by decide +kernel
theorem dX8_markOf_100 : decode cX8_markOf 100 = .ok (.sipush 1000, 3) := by decide +kernel
theorem dX8_markOf_103 : decode cX8_markOf 103 = .ok (.isub, 1) := by decide +kernel
theorem dX8_markOf_104 : decode cX8_markOf 104 = .ok (.goto 6, 3) := by decide +kernel
theorem dX8_markOf_107 : decode cX8_markOf 107 = .ok (.iconst 2, 1) := by decide +kernel
theorem dX8_markOf_108 : decode cX8_markOf 108 = .ok (.iload_n 3, 1) := by decide +kernel
theorem dX8_markOf_109 : decode cX8_markOf 109 = .ok (.imul, 1) := by decide +kernel
theorem dX8_markOf_110 : decode cX8_markOf 110 = .ok (.ireturn, 1) := by decide +kernel
theorem dX8_sizeOf_0 : decode cX8_sizeOf 0 = .ok (.aload_n 0, 1) := by decide +kernel
theorem dX8_sizeOf_1 : decode cX8_sizeOf 1 = .ok (.getfield 19, 3) := by decide +kernel
theorem dX8_sizeOf_4 : decode cX8_sizeOf 4 = .ok (.iload_n 1, 1) := by decide +kernel
theorem dX8_sizeOf_5 : decode cX8_sizeOf 5 = .ok (.iconst 0, 1) := by decide +kernel
theorem dX8_sizeOf_6 : decode cX8_sizeOf 6 = .ok (.invokestatic 168, 3) := by decide +kernel
theorem dX8_sizeOf_9 : decode cX8_sizeOf 9 = .ok (.istore_n 2, 1) := by decide +kernel
theorem dX8_sizeOf_10 : decode cX8_sizeOf 10 = .ok (.iload_n 2, 1) := by decide +kernel
theorem dX8_sizeOf_11 : decode cX8_sizeOf 11 = .ok (.iconst 4, 1) := by decide +kernel
theorem dX8_sizeOf_12 : decode cX8_sizeOf 12 = .ok (.if_icmp .lt 9, 3) := by decide +kernel
theorem dX8_sizeOf_15 : decode cX8_sizeOf 15 = .ok (.aload_n 0, 1) := by decide +kernel
theorem dX8_sizeOf_16 : decode cX8_sizeOf 16 = .ok (.iload_n 1, 1) := by decide +kernel
theorem dX8_sizeOf_17 : decode cX8_sizeOf 17 = .ok (.invokevirtual 276, 3) := by decide +kernel
theorem dX8_sizeOf_20 : decode cX8_sizeOf 20 = .ok (.ireturn, 1) := by decide +kernel
theorem dX8_sizeOf_21 : decode cX8_sizeOf 21 = .ok (.iload_n 2, 1) := by decide +kernel
theorem dX8_sizeOf_22 : decode cX8_sizeOf 22 = .ok (.iconst 2, 1) := by decide +kernel
theorem dX8_sizeOf_23 : decode cX8_sizeOf 23 = .ok (.if_icmp .ne 9, 3) := by decide +kernel
theorem dX8_sizeOf_26 : decode cX8_sizeOf 26 = .ok (.aload_n 0, 1) := by decide +kernel
theorem dX8_sizeOf_27 : decode cX8_sizeOf 27 = .ok (.bipush 12, 2) := by decide +kernel
theorem dX8_sizeOf_29 : decode cX8_sizeOf 29 = .ok (.invokevirtual 270, 3) := by decide +kernel
theorem dX8_sizeOf_32 : decode cX8_sizeOf 32 = .ok (.aload_n 0, 1) := by decide +kernel
theorem dX8_sizeOf_33 : decode cX8_sizeOf 33 = .ok (.bipush 11, 2) := by decide +kernel
theorem dX8_sizeOf_35 : decode cX8_sizeOf 35 = .ok (.invokevirtual 270, 3) := by decide +kernel
theorem dX8_sizeOf_38 : decode cX8_sizeOf 38 = .ok (.aload_n 0, 1) := by decide +kernel
theorem dX8_sizeOf_39 : decode cX8_sizeOf 39 = .ok (.iload_n 1, 1) := by decide +kernel
theorem dX8_sizeOf_40 : decode cX8_sizeOf 40 = .ok (.invokevirtual 273, 3) := by decide +kernel
theorem dX8_sizeOf_43 : decode cX8_sizeOf 43 = .ok (.istore_n 3, 1) := by decide +kernel
theorem dX8_sizeOf_44 : decode cX8_sizeOf 44 = .ok (.iload_n 3, 1) := by decide +kernel
theorem dX8_sizeOf_45 : decode cX8_sizeOf 45 = .ok (.aload_n 0, 1) := by decide +kernel
theorem dX8_sizeOf_46 : decode cX8_sizeOf 46 = .ok (.iload_n 1, 1) := by decide +kernel
theorem dX8_sizeOf_47 : decode cX8_sizeOf 47 = .ok (.invokevirtual 279, 3) := by decide +kernel
theorem dX8_sizeOf_50 : decode cX8_sizeOf 50 = .ok (.iadd, 1) := by decide +kernel
theorem dX8_sizeOf_51 : decode cX8_sizeOf 51 = .ok (.istore_n 3, 1) := by decide +kernel
theorem dX8_sizeOf_52 : decode cX8_sizeOf 52 = .ok (.iload_n 2, 1) := by decide +kernel
theorem dX8_sizeOf_53 : decode cX8_sizeOf 53 = .ok (.iconst 2, 1) := by decide +kernel
theorem dX8_sizeOf_54 : decode cX8_sizeOf 54 = .ok (.if_icmp .ne 8, 3) := by decide +kernel
theorem dX8_sizeOf_57 : decode cX8_sizeOf 57 = .ok (.iload_n 3, 1) := by decide +kernel
theorem dX8_sizeOf_58 : decode cX8_sizeOf 58 = .ok (.ineg, 1) := by decide +kernel
theorem dX8_sizeOf_59 : decode cX8_sizeOf 59 = .ok (.goto 4, 3) := by decide +kernel
theorem dX8_sizeOf_62 : decode cX8_sizeOf 62 = .ok (.iload_n 3, 1) := by decide +kernel
theorem dX8_sizeOf_63 : decode cX8_sizeOf 63 = .ok (.ireturn, 1) := by decide +kernel
theorem dX8_ask_0 : decode cX8_ask 0 = .ok (.aload_n 0, 1) := by decide +kernel
theorem dX8_ask_1 : decode cX8_ask 1 = .ok (.iconst 0, 1) := by decide +kernel
theorem dX8_ask_2 : decode cX8_ask 2 = .ok (.putfield 53, 3) := by decide +kernel
theorem dX8_ask_5 : decode cX8_ask 5 = .ok (.aload_n 0, 1) := by decide +kernel
theorem dX8_ask_6 : decode cX8_ask 6 = .ok (.iload_n 1, 1) := by decide +kernel
theorem dX8_ask_7 : decode cX8_ask 7 = .ok (.invokevirtual 211, 3) := by decide +kernel
theorem dX8_ask_10 : decode cX8_ask 10 = .ok (.ifCond .eq 13, 3) := by decide +kernel
theorem dX8_ask_13 : decode cX8_ask 13 = .ok (.iload_n 2, 1) := by decide +kernel
theorem dX8_ask_14 : decode cX8_ask 14 = .ok (.i2l, 1) := by decide +kernel
theorem dX8_ask_15 : decode cX8_ask 15 = .ok (.lconst 0, 1) := by decide +kernel
theorem dX8_ask_16 : decode cX8_ask 16 = .ok (.lconst 1, 1) := by decide +kernel
theorem dX8_ask_17 : decode cX8_ask 17 = .ok (.invokestatic 63, 3) := by decide +kernel
theorem dX8_ask_20 : decode cX8_ask 20 = .ok (.ifCond .ne 6, 3) := by decide +kernel
theorem dX8_ask_23 : decode cX8_ask 23 = .ok (.ldc 73, 2) := by decide +kernel
theorem dX8_ask_25 : decode cX8_ask 25 = .ok (.ireturn, 1) := by decide +kernel
theorem dX8_ask_26 : decode cX8_ask 26 = .ok (.aload_n 0, 1) := by decide +kernel
theorem dX8_ask_27 : decode cX8_ask 27 = .ok (.iconst 0, 1) := by decide +kernel
theorem dX8_ask_28 : decode cX8_ask 28 = .ok (.putfield 267, 3) := by decide +kernel
theorem dX8_ask_31 : decode cX8_ask 31 = .ok (.iload_n 2, 1) := by decide +kernel
theorem dX8_ask_32 : decode cX8_ask 32 = .ok (.ifCond .ne 11, 3) := by decide +kernel
theorem dX8_ask_35 : decode cX8_ask 35 = .ok (.aload_n 0, 1) := by decide +kernel
theorem dX8_ask_36 : decode cX8_ask 36 = .ok (.iload_n 1, 1) := by decide +kernel
theorem dX8_ask_37 : decode cX8_ask 37 = .ok (.invokevirtual 282, 3) := by decide +kernel
theorem dX8_ask_40 : decode cX8_ask 40 = .ok (.goto 8, 3) := by decide +kernel
theorem dX8_ask_43 : decode cX8_ask 43 = .ok (.aload_n 0, 1) := by decide +kernel
theorem dX8_ask_44 : decode cX8_ask 44 = .ok (.iload_n 1, 1) := by decide +kernel
theorem dX8_ask_45 : decode cX8_ask 45 = .ok (.invokevirtual 279, 3) := by decide +kernel
theorem dX8_ask_48 : decode cX8_ask 48 = .ok (.ireturn, 1) := by decide +kernel
theorem dX8_trace_0 : decode cX8_trace 0 = .ok (.aload_n 0, 1) := by decide +kernel
theorem dX8_trace_1 : decode cX8_trace 1 = .ok (.iconst 0, 1) := by decide +kernel
theorem dX8_trace_2 : decode cX8_trace 2 = .ok (.putfield 53, 3) := by decide +kernel
theorem dX8_trace_5 : decode cX8_trace 5 = .ok (.iload_n 1, 1) := by decide +kernel
theorem dX8_trace_6 : decode cX8_trace 6 = .ok (.i2l, 1) := by decide +kernel
theorem dX8_trace_7 : decode cX8_trace 7 = .ok (.lconst 0, 1) := by decide +kernel
theorem dX8_trace_8 : decode cX8_trace 8 = .ok (.aload_n 0, 1) := by decide +kernel
theorem dX8_trace_9 : decode cX8_trace 9 = .ok (.getfield 267, 3) := by decide +kernel
theorem dX8_trace_12 : decode cX8_trace 12 = .ok (.iconst 1, 1) := by decide +kernel
theorem dX8_trace_13 : decode cX8_trace 13 = .ok (.isub, 1) := by decide +kernel
theorem dX8_trace_14 : decode cX8_trace 14 = .ok (.i2l, 1) := by decide +kernel
theorem dX8_trace_15 : decode cX8_trace 15 = .ok (.invokestatic 63, 3) := by decide +kernel
theorem dX8_trace_18 : decode cX8_trace 18 = .ok (.ifCond .eq 12, 3) := by decide +kernel
theorem dX8_trace_21 : decode cX8_trace 21 = .ok (.aload_n 0, 1) := by decide +kernel
theorem dX8_trace_22 : decode cX8_trace 22 = .ok (.getfield 50, 3) := by decide +kernel
theorem dX8_trace_25 : decode cX8_trace 25 = .ok (.iload_n 1, 1) := by decide +kernel
theorem dX8_trace_26 : decode cX8_trace 26 = .ok (.iaload, 1) := by decide +kernel
theorem dX8_trace_27 : decode cX8_trace 27 = .ok (.goto 5, 3) := by decide +kernel
theorem dX8_trace_30 : decode cX8_trace 30 = .ok (.ldc 96, 2) := by decide +kernel
theorem dX8_trace_32 : decode cX8_trace 32 = .ok (.ireturn, 1) := by decide +kernel
theorem dX8_count_0 : decode cX8_count 0 = .ok (.aload_n 0, 1) := by decide +kernel
theorem dX8_count_1 : decode cX8_count 1 = .ok (.iconst 0, 1) := by decide +kernel
theorem dX8_count_2 : decode cX8_count 2 = .ok (.putfield 53, 3) := by decide +kernel
theorem dX8_count_5 : decode cX8_count 5 = .ok (.iconst 0, 1) := by decide +kernel
theorem dX8_count_6 : decode cX8_count 6 = .ok (.istore_n 2, 1) := by decide +kernel
theorem dX8_count_7 : decode cX8_count 7 = .ok (.iload_n 1, 1) := by decide +kernel
theorem dX8_count_8 : decode cX8_count 8 = .ok (.tableswitch 127 0 7 #[48, 81, 88, 95, 102, 110, 117, 122], 48) := by decide +kernel
theorem dX8_count_56 : decode cX8_count 56 = .ok (.iconst 0, 1) := by decide +kernel
theorem dX8_count_57 : decode cX8_count 57 = .ok (.istore_n 3, 1) := by decide +kernel
theorem dX8_count_58 : decode cX8_count 58 = .ok (.iload_n 3, 1) := by decide +kernel
theorem dX8_count_59 : decode cX8_count 59 = .ok (.bipush 8, 2) := by decide +kernel
theorem dX8_count_61 : decode cX8_count 61 = .ok (.if_icmp .ge 26, 3) := by decide +kernel
theorem dX8_count_64 : decode cX8_count 64 = .ok (.iload_n 2, 1) := by decide +kernel
theorem dX8_count_65 : decode cX8_count 65 = .ok (.aload_n 0, 1) := by decide +kernel
theorem dX8_count_66 : decode cX8_count 66 = .ok (.getfield 7, 3) := by decide +kernel
theorem dX8_count_69 : decode cX8_count 69 = .ok (.iload_n 3, 1) := by decide +kernel
theorem dX8_count_70 : decode cX8_count 70 = .ok (.iaload, 1) := by decide +kernel
theorem dX8_count_71 : decode cX8_count 71 = .ok (.ifCond .lt 7, 3) := by decide +kernel
theorem dX8_count_74 : decode cX8_count 74 = .ok (.iconst 1, 1) := by decide +kernel
theorem dX8_count_75 : decode cX8_count 75 = .ok (.goto 4, 3) := by decide +kernel
theorem dX8_count_78 : decode cX8_count 78 = .ok (.iconst 0, 1) := by decide +kernel
theorem dX8_count_79 : decode cX8_count 79 = .ok (.iadd, 1) := by decide +kernel
theorem dX8_count_80 : decode cX8_count 80 = .ok (.istore_n 2, 1) := by decide +kernel
theorem dX8_count_81 : decode cX8_count 81 = .ok (.iinc 3 1, 3) := by decide +kernel
theorem dX8_count_84 : decode cX8_count 84 = .ok (.goto (-26), 3) := by decide +kernel
theorem dX8_count_87 : decode cX8_count 87 = .ok (.iload_n 2, 1) := by decide +kernel
theorem dX8_count_88 : decode cX8_count 88 = .ok (.ireturn, 1) := by decide +kernel
theorem dX8_count_89 : decode cX8_count 89 = .ok (.aload_n 0, 1) := by decide +kernel
theorem dX8_count_90 : decode cX8_count 90 = .ok (.getfield 19, 3) := by decide +kernel
theorem dX8_count_93 : decode cX8_count 93 = .ok (.iconst 0, 1) := by decide +kernel
theorem dX8_count_94 : decode cX8_count 94 = .ok (.iaload, 1) := by decide +kernel
theorem dX8_count_95 : decode cX8_count 95 = .ok (.ireturn, 1) := by decide +kernel
theorem dX8_count_96 : decode cX8_count 96 = .ok (.aload_n 0, 1) := by decide +kernel
theorem dX8_count_97 : decode cX8_count 97 = .ok (.getfield 19, 3) := by decide +kernel
theorem dX8_count_100 : decode cX8_count 100 = .ok (.iconst 2, 1) := by decide +kernel
theorem dX8_count_101 : decode cX8_count 101 = .ok (.iaload, 1) := by decide +kernel
theorem dX8_count_102 : decode cX8_count 102 = .ok (.ireturn, 1) := by decide +kernel
theorem dX8_count_103 : decode cX8_count 103 = .ok (.aload_n 0, 1) := by decide +kernel
theorem dX8_count_104 : decode cX8_count 104 = .ok (.getfield 19, 3) := by decide +kernel
theorem dX8_count_107 : decode cX8_count 107 = .ok (.iconst 3, 1) := by decide +kernel
theorem dX8_count_108 : decode cX8_count 108 = .ok (.iaload, 1) := by decide +kernel
theorem dX8_count_109 : decode cX8_count 109 = .ok (.ireturn, 1) := by decide +kernel
theorem dX8_count_110 : decode cX8_count 110 = .ok (.aload_n 0, 1) := by decide +kernel
theorem dX8_count_111 : decode cX8_count 111 = .ok (.getfield 19, 3) := by decide +kernel
theorem dX8_count_114 : decode cX8_count 114 = .ok (.invokestatic 208, 3) := by decide +kernel
theorem dX8_count_117 : decode cX8_count 117 = .ok (.ireturn, 1) := by decide +kernel
theorem dX8_count_118 : decode cX8_count 118 = .ok (.aload_n 0, 1) := by decide +kernel
theorem dX8_count_119 : decode cX8_count 119 = .ok (.getfield 19, 3) := by decide +kernel
theorem dX8_count_122 : decode cX8_count 122 = .ok (.iconst 4, 1) := by decide +kernel
theorem dX8_count_123 : decode cX8_count 123 = .ok (.iaload, 1) := by decide +kernel
theorem dX8_count_124 : decode cX8_count 124 = .ok (.ireturn, 1) := by decide +kernel
theorem dX8_count_125 : decode cX8_count 125 = .ok (.aload_n 0, 1) := by decide +kernel
theorem dX8_count_126 : decode cX8_count 126 = .ok (.getfield 152, 3) := by decide +kernel
theorem dX8_count_129 : decode cX8_count 129 = .ok (.ireturn, 1) := by decide +kernel
theorem dX8_count_130 : decode cX8_count 130 = .ok (.aload_n 0, 1) := by decide +kernel
theorem dX8_count_131 : decode cX8_count 131 = .ok (.getfield 80, 3) := by decide +kernel
theorem dX8_count_134 : decode cX8_count 134 = .ok (.ireturn, 1) := by decide +kernel
theorem dX8_count_135 : decode cX8_count 135 = .ok (.ldc 73, 2) := by decide +kernel
theorem dX8_count_137 : decode cX8_count 137 = .ok (.ireturn, 1) := by decide +kernel
theorem dX8_status_0 : decode cX8_status 0 = .ok (.aload_n 0, 1) := by decide +kernel
theorem dX8_status_1 : decode cX8_status 1 = .ok (.iconst 0, 1) := by decide +kernel
theorem dX8_status_2 : decode cX8_status 2 = .ok (.putfield 53, 3) := by decide +kernel
theorem dX8_status_5 : decode cX8_status 5 = .ok (.aload_n 0, 1) := by decide +kernel
theorem dX8_status_6 : decode cX8_status 6 = .ok (.getfield 57, 3) := by decide +kernel
theorem dX8_status_9 : decode cX8_status 9 = .ok (.ireturn, 1) := by decide +kernel
