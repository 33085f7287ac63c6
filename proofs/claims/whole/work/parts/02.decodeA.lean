theorem dX0_init_0 : decode cX0_init 0 = .ok (.aload_n 0, 1) := by decide +kernel
theorem dX0_init_1 : decode cX0_init 1 = .ok (.invokespecial 3, 3) := by decide +kernel
theorem dX0_init_4 : decode cX0_init 4 = .ok (.aload_n 0, 1) := by decide +kernel
theorem dX0_init_5 : decode cX0_init 5 = .ok (.bipush 24, 2) := by decide +kernel
theorem dX0_init_7 : decode cX0_init 7 = .ok (.anewarray 9, 3) := by decide +kernel
theorem dX0_init_10 : decode cX0_init 10 = .ok (.putfield 11, 3) := by decide +kernel
theorem dX0_init_13 : decode cX0_init 13 = .ok (.iconst 0, 1) := by decide +kernel
theorem dX0_init_14 : decode cX0_init 14 = .ok (.istore_n 1, 1) := by decide +kernel
theorem dX0_init_15 : decode cX0_init 15 = .ok (.iload_n 1, 1) := by decide +kernel
theorem dX0_init_16 : decode cX0_init 16 = .ok (.bipush 24, 2) := by decide +kernel
theorem dX0_init_18 : decode cX0_init 18 = .ok (.if_icmp .ge 22, 3) := by decide +kernel
theorem dX0_init_21 : decode cX0_init 21 = .ok (.aload_n 0, 1) := by decide +kernel
theorem dX0_init_22 : decode cX0_init 22 = .ok (.getfield 11, 3) := by decide +kernel
theorem dX0_init_25 : decode cX0_init 25 = .ok (.iload_n 1, 1) := by decide +kernel
theorem dX0_init_26 : decode cX0_init 26 = .ok (.new 9, 3) := by decide +kernel
theorem dX0_init_29 : decode cX0_init 29 = .ok (.dup, 1) := by decide +kernel
theorem dX0_init_30 : decode cX0_init 30 = .ok (.invokespecial 17, 3) := by decide +kernel
theorem dX0_init_33 : decode cX0_init 33 = .ok (.aastore, 1) := by decide +kernel
theorem dX0_init_34 : decode cX0_init 34 = .ok (.iinc 1 1, 3) := by decide +kernel
theorem dX0_init_37 : decode cX0_init 37 = .ok (.goto (-22), 3) := by decide +kernel
theorem dX0_init_40 : decode cX0_init 40 = .ok (.return_, 1) := by decide +kernel
theorem dX0_size_0 : decode cX0_size 0 = .ok (.aload_n 0, 1) := by decide +kernel
theorem dX0_size_1 : decode cX0_size 1 = .ok (.getfield 18, 3) := by decide +kernel
theorem dX0_size_4 : decode cX0_size 4 = .ok (.ireturn, 1) := by decide +kernel
theorem dX0_forget_0 : decode cX0_forget 0 = .ok (.aload_n 0, 1) := by decide +kernel
theorem dX0_forget_1 : decode cX0_forget 1 = .ok (.iconst 0, 1) := by decide +kernel
theorem dX0_forget_2 : decode cX0_forget 2 = .ok (.putfield 22, 3) := by decide +kernel
theorem dX0_forget_5 : decode cX0_forget 5 = .ok (.aload_n 0, 1) := by decide +kernel
theorem dX0_forget_6 : decode cX0_forget 6 = .ok (.iconst 0, 1) := by decide +kernel
theorem dX0_forget_7 : decode cX0_forget 7 = .ok (.putfield 18, 3) := by decide +kernel
theorem dX0_forget_10 : decode cX0_forget 10 = .ok (.return_, 1) := by decide +kernel
theorem dX0_keep_0 : decode cX0_keep 0 = .ok (.aload_n 0, 1) := by decide +kernel
theorem dX0_keep_1 : decode cX0_keep 1 = .ok (.getfield 18, 3) := by decide +kernel
theorem dX0_keep_4 : decode cX0_keep 4 = .ok (.bipush 24, 2) := by decide +kernel
theorem dX0_keep_6 : decode cX0_keep 6 = .ok (.if_icmp .ne 26, 3) := by decide +kernel
theorem dX0_keep_9 : decode cX0_keep 9 = .ok (.aload_n 0, 1) := by decide +kernel
theorem dX0_keep_10 : decode cX0_keep 10 = .ok (.aload_n 0, 1) := by decide +kernel
theorem dX0_keep_11 : decode cX0_keep 11 = .ok (.getfield 22, 3) := by decide +kernel
theorem dX0_keep_14 : decode cX0_keep 14 = .ok (.iconst 1, 1) := by decide +kernel
theorem dX0_keep_15 : decode cX0_keep 15 = .ok (.iadd, 1) := by decide +kernel
theorem dX0_keep_16 : decode cX0_keep 16 = .ok (.bipush 24, 2) := by decide +kernel
theorem dX0_keep_18 : decode cX0_keep 18 = .ok (.irem, 1) := by decide +kernel
theorem dX0_keep_19 : decode cX0_keep 19 = .ok (.putfield 22, 3) := by decide +kernel
theorem dX0_keep_22 : decode cX0_keep 22 = .ok (.aload_n 0, 1) := by decide +kernel
theorem dX0_keep_23 : decode cX0_keep 23 = .ok (.dup, 1) := by decide +kernel
theorem dX0_keep_24 : decode cX0_keep 24 = .ok (.getfield 18, 3) := by decide +kernel
theorem dX0_keep_27 : decode cX0_keep 27 = .ok (.iconst 1, 1) := by decide +kernel
theorem dX0_keep_28 : decode cX0_keep 28 = .ok (.isub, 1) := by decide +kernel
theorem dX0_keep_29 : decode cX0_keep 29 = .ok (.putfield 18, 3) := by decide +kernel
theorem dX0_keep_32 : decode cX0_keep 32 = .ok (.aload_n 0, 1) := by decide +kernel
theorem dX0_keep_33 : decode cX0_keep 33 = .ok (.getfield 11, 3) := by decide +kernel
theorem dX0_keep_36 : decode cX0_keep 36 = .ok (.aload_n 0, 1) := by decide +kernel
theorem dX0_keep_37 : decode cX0_keep 37 = .ok (.getfield 22, 3) := by decide +kernel
theorem dX0_keep_40 : decode cX0_keep 40 = .ok (.aload_n 0, 1) := by decide +kernel
theorem dX0_keep_41 : decode cX0_keep 41 = .ok (.getfield 18, 3) := by decide +kernel
theorem dX0_keep_44 : decode cX0_keep 44 = .ok (.iadd, 1) := by decide +kernel
theorem dX0_keep_45 : decode cX0_keep 45 = .ok (.bipush 24, 2) := by decide +kernel
theorem dX0_keep_47 : decode cX0_keep 47 = .ok (.irem, 1) := by decide +kernel
theorem dX0_keep_48 : decode cX0_keep 48 = .ok (.aaload, 1) := by decide +kernel
theorem dX0_keep_49 : decode cX0_keep 49 = .ok (.aload_n 1, 1) := by decide +kernel
theorem dX0_keep_50 : decode cX0_keep 50 = .ok (.invokevirtual 25, 3) := by decide +kernel
theorem dX0_keep_53 : decode cX0_keep 53 = .ok (.aload_n 0, 1) := by decide +kernel
theorem dX0_keep_54 : decode cX0_keep 54 = .ok (.dup, 1) := by decide +kernel
theorem dX0_keep_55 : decode cX0_keep 55 = .ok (.getfield 18, 3) := by decide +kernel
theorem dX0_keep_58 : decode cX0_keep 58 = .ok (.iconst 1, 1) := by decide +kernel
theorem dX0_keep_59 : decode cX0_keep 59 = .ok (.iadd, 1) := by decide +kernel
theorem dX0_keep_60 : decode cX0_keep 60 = .ok (.putfield 18, 3) := by decide +kernel
theorem dX0_keep_63 : decode cX0_keep 63 = .ok (.return_, 1) := by decide +kernel
theorem dX0_takeBack_0 : decode cX0_takeBack 0 = .ok (.aload_n 0, 1) := by decide +kernel
theorem dX0_takeBack_1 : decode cX0_takeBack 1 = .ok (.getfield 18, 3) := by decide +kernel
theorem dX0_takeBack_4 : decode cX0_takeBack 4 = .ok (.ifCond .ne 5, 3) := by decide +kernel
theorem dX0_takeBack_7 : decode cX0_takeBack 7 = .ok (.iconst 0, 1) := by decide +kernel
theorem dX0_takeBack_8 : decode cX0_takeBack 8 = .ok (.ireturn, 1) := by decide +kernel
theorem dX0_takeBack_9 : decode cX0_takeBack 9 = .ok (.aload_n 0, 1) := by decide +kernel
theorem dX0_takeBack_10 : decode cX0_takeBack 10 = .ok (.dup, 1) := by decide +kernel
theorem dX0_takeBack_11 : decode cX0_takeBack 11 = .ok (.getfield 18, 3) := by decide +kernel
theorem dX0_takeBack_14 : decode cX0_takeBack 14 = .ok (.iconst 1, 1) := by decide +kernel
theorem dX0_takeBack_15 : decode cX0_takeBack 15 = .ok (.isub, 1) := by decide +kernel
theorem dX0_takeBack_16 : decode cX0_takeBack 16 = .ok (.putfield 18, 3) := by decide +kernel
theorem dX0_takeBack_19 : decode cX0_takeBack 19 = .ok (.aload_n 1, 1) := by decide +kernel
theorem dX0_takeBack_20 : decode cX0_takeBack 20 = .ok (.aload_n 0, 1) := by decide +kernel
theorem dX0_takeBack_21 : decode cX0_takeBack 21 = .ok (.getfield 11, 3) := by decide +kernel
theorem dX0_takeBack_24 : decode cX0_takeBack 24 = .ok (.aload_n 0, 1) := by decide +kernel
theorem dX0_takeBack_25 : decode cX0_takeBack 25 = .ok (.getfield 22, 3) := by decide +kernel
theorem dX0_takeBack_28 : decode cX0_takeBack 28 = .ok (.aload_n 0, 1) := by decide +kernel
theorem dX0_takeBack_29 : decode cX0_takeBack 29 = .ok (.getfield 18, 3) := by decide +kernel
theorem dX0_takeBack_32 : decode cX0_takeBack 32 = .ok (.iadd, 1) := by decide +kernel
theorem dX0_takeBack_33 : decode cX0_takeBack 33 = .ok (.bipush 24, 2) := by decide +kernel
theorem dX0_takeBack_35 : decode cX0_takeBack 35 = .ok (.irem, 1) := by decide +kernel
theorem dX0_takeBack_36 : decode cX0_takeBack 36 = .ok (.aaload, 1) := by decide +kernel
theorem dX0_takeBack_37 : decode cX0_takeBack 37 = .ok (.invokevirtual 25, 3) := by decide +kernel
theorem dX0_takeBack_40 : decode cX0_takeBack 40 = .ok (.iconst 1, 1) := by decide +kernel
theorem dX0_takeBack_41 : decode cX0_takeBack 41 = .ok (.ireturn, 1) := by decide +kernel
theorem dX1_init_0 : decode cX1_init 0 = .ok (.aload_n 0, 1) := by decide +kernel
theorem dX1_init_1 : decode cX1_init 1 = .ok (.invokespecial 3, 3) := by decide +kernel
theorem dX1_init_4 : decode cX1_init 4 = .ok (.aload_n 0, 1) := by decide +kernel
theorem dX1_init_5 : decode cX1_init 5 = .ok (.bipush 16, 2) := by decide +kernel
theorem dX1_init_7 : decode cX1_init 7 = .ok (.newarray .int, 2) := by decide +kernel
theorem dX1_init_9 : decode cX1_init 9 = .ok (.putfield 11, 3) := by decide +kernel
theorem dX1_init_12 : decode cX1_init 12 = .ok (.return_, 1) := by decide +kernel
theorem dX1_isOne_0 : decode cX1_isOne 0 = .ok (.iload_n 0, 1) := by decide +kernel
theorem dX1_isOne_1 : decode cX1_isOne 1 = .ok (.istore_n 2, 1) := by decide +kernel
theorem dX1_isOne_2 : decode cX1_isOne 2 = .ok (.iconst 0, 1) := by decide +kernel
theorem dX1_isOne_3 : decode cX1_isOne 3 = .ok (.istore_n 3, 1) := by decide +kernel
theorem dX1_isOne_4 : decode cX1_isOne 4 = .ok (.iload_n 3, 1) := by decide +kernel
theorem dX1_isOne_5 : decode cX1_isOne 5 = .ok (.bipush 6, 2) := by decide +kernel
theorem dX1_isOne_7 : decode cX1_isOne 7 = .ok (.if_icmp .ge 24, 3) := by decide +kernel
theorem dX1_isOne_10 : decode cX1_isOne 10 = .ok (.iload_n 2, 1) := by decide +kernel
theorem dX1_isOne_11 : decode cX1_isOne 11 = .ok (.iload_n 1, 1) := by decide +kernel
theorem dX1_isOne_12 : decode cX1_isOne 12 = .ok (.if_icmp .eq 19, 3) := by decide +kernel
theorem dX1_isOne_15 : decode cX1_isOne 15 = .ok (.iload_n 2, 1) := by decide +kernel
theorem dX1_isOne_16 : decode cX1_isOne 16 = .ok (.ifCond .eq 15, 3) := by decide +kernel
theorem dX1_isOne_19 : decode cX1_isOne 19 = .ok (.getstatic 15, 3) := by decide +kernel
theorem dX1_isOne_22 : decode cX1_isOne 22 = .ok (.iload_n 2, 1) := by decide +kernel
theorem dX1_isOne_23 : decode cX1_isOne 23 = .ok (.iaload, 1) := by decide +kernel
theorem dX1_isOne_24 : decode cX1_isOne 24 = .ok (.istore_n 2, 1) := by decide +kernel
theorem dX1_isOne_25 : decode cX1_isOne 25 = .ok (.iinc 3 1, 3) := by decide +kernel
theorem dX1_isOne_28 : decode cX1_isOne 28 = .ok (.goto (-24), 3) := by decide +kernel
theorem dX1_isOne_31 : decode cX1_isOne 31 = .ok (.iload_n 2, 1) := by decide +kernel
theorem dX1_isOne_32 : decode cX1_isOne 32 = .ok (.iload_n 1, 1) := by decide +kernel
theorem dX1_isOne_33 : decode cX1_isOne 33 = .ok (.if_icmp .ne 7, 3) := by decide +kernel
theorem dX1_isOne_36 : decode cX1_isOne 36 = .ok (.iconst 1, 1) := by decide +kernel
theorem dX1_isOne_37 : decode cX1_isOne 37 = .ok (.goto 4, 3) := by decide +kernel
theorem dX1_isOne_40 : decode cX1_isOne 40 = .ok (.iconst 0, 1) := by decide +kernel
theorem dX1_isOne_41 : decode cX1_isOne 41 = .ok (.ireturn, 1) := by decide +kernel
theorem dX1_traced_0 : decode cX1_traced 0 = .ok (.iload_n 1, 1) := by decide +kernel
theorem dX1_traced_1 : decode cX1_traced 1 = .ok (.ifCond .lt 20, 3) := by decide +kernel
theorem dX1_traced_4 : decode cX1_traced 4 = .ok (.iload_n 1, 1) := by decide +kernel
theorem dX1_traced_5 : decode cX1_traced 5 = .ok (.aload_n 0, 1) := by decide +kernel
theorem dX1_traced_6 : decode cX1_traced 6 = .ok (.getfield 18, 3) := by decide +kernel
theorem dX1_traced_9 : decode cX1_traced 9 = .ok (.if_icmp .ge 12, 3) := by decide +kernel
theorem dX1_traced_12 : decode cX1_traced 12 = .ok (.aload_n 0, 1) := by decide +kernel
theorem dX1_traced_13 : decode cX1_traced 13 = .ok (.getfield 11, 3) := by decide +kernel
theorem dX1_traced_16 : decode cX1_traced 16 = .ok (.iload_n 1, 1) := by decide +kernel
theorem dX1_traced_17 : decode cX1_traced 17 = .ok (.iaload, 1) := by decide +kernel
theorem dX1_traced_18 : decode cX1_traced 18 = .ok (.goto 5, 3) := by decide +kernel
theorem dX1_traced_21 : decode cX1_traced 21 = .ok (.ldc 22, 2) := by decide +kernel
theorem dX1_traced_23 : decode cX1_traced 23 = .ok (.ireturn, 1) := by decide +kernel
theorem dX1_put_0 : decode cX1_put 0 = .ok (.aload_n 0, 1) := by decide +kernel
theorem dX1_put_1 : decode cX1_put 1 = .ok (.iconst 0, 1) := by decide +kernel
theorem dX1_put_2 : decode cX1_put 2 = .ok (.putfield 18, 3) := by decide +kernel
theorem dX1_put_5 : decode cX1_put 5 = .ok (.aload_n 0, 1) := by decide +kernel
theorem dX1_put_6 : decode cX1_put 6 = .ok (.aload_n 1, 1) := by decide +kernel
theorem dX1_put_7 : decode cX1_put 7 = .ok (.iload_n 2, 1) := by decide +kernel
theorem dX1_put_8 : decode cX1_put 8 = .ok (.iload_n 3, 1) := by decide +kernel
theorem dX1_put_9 : decode cX1_put 9 = .ok (.iconst 0, 1) := by decide +kernel
theorem dX1_put_10 : decode cX1_put 10 = .ok (.invokevirtual 23, 3) := by decide +kernel
theorem dX1_put_13 : decode cX1_put 13 = .ok (.ireturn, 1) := by decide +kernel
theorem dX1_asked_0 : decode cX1_asked 0 = .ok (.iload_n 3, 1) := by decide +kernel
theorem dX1_asked_1 : decode cX1_asked 1 = .ok (.ifCond .ne 9, 3) := by decide +kernel
theorem dX1_asked_4 : decode cX1_asked 4 = .ok (.getstatic 27, 3) := by decide +kernel
theorem dX1_asked_7 : decode cX1_asked 7 = .ok (.goto 6, 3) := by decide +kernel
theorem dX1_asked_10 : decode cX1_asked 10 = .ok (.getstatic 30, 3) := by decide +kernel
theorem dX1_asked_13 : decode cX1_asked 13 = .ok (.astore 5, 2) := by decide +kernel
theorem dX1_asked_15 : decode cX1_asked 15 = .ok (.aload_n 1, 1) := by decide +kernel
theorem dX1_asked_16 : decode cX1_asked 16 = .ok (.getfield 33, 3) := by decide +kernel
theorem dX1_asked_19 : decode cX1_asked 19 = .ok (.iload_n 2, 1) := by decide +kernel
theorem dX1_asked_20 : decode cX1_asked 20 = .ok (.iaload, 1) := by decide +kernel
theorem dX1_asked_21 : decode cX1_asked 21 = .ok (.istore 6, 2) := by decide +kernel
theorem dX1_asked_23 : decode cX1_asked 23 = .ok (.iconst 0, 1) := by decide +kernel
theorem dX1_asked_24 : decode cX1_asked 24 = .ok (.istore 7, 2) := by decide +kernel
theorem dX1_asked_26 : decode cX1_asked 26 = .ok (.iload 7, 2) := by decide +kernel
theorem dX1_asked_28 : decode cX1_asked 28 = .ok (.bipush 6, 2) := by decide +kernel
theorem dX1_asked_30 : decode cX1_asked 30 = .ok (.if_icmp .ge 25, 3) := by decide +kernel
theorem dX1_asked_33 : decode cX1_asked 33 = .ok (.aload 5, 2) := by decide +kernel
theorem dX1_asked_35 : decode cX1_asked 35 = .ok (.iload 6, 2) := by decide +kernel
theorem dX1_asked_37 : decode cX1_asked 37 = .ok (.iaload, 1) := by decide +kernel
theorem dX1_asked_38 : decode cX1_asked 38 = .ok (.ifCond .ne 17, 3) := by decide +kernel
theorem dX1_asked_41 : decode cX1_asked 41 = .ok (.getstatic 15, 3) := by decide +kernel
theorem dX1_asked_44 : decode cX1_asked 44 = .ok (.iload 6, 2) := by decide +kernel
theorem dX1_asked_46 : decode cX1_asked 46 = .ok (.iaload, 1) := by decide +kernel
theorem dX1_asked_47 : decode cX1_asked 47 = .ok (.istore 6, 2) := by decide +kernel
theorem dX1_asked_49 : decode cX1_asked 49 = .ok (.iinc 7 1, 3) := by decide +kernel
theorem dX1_asked_52 : decode cX1_asked 52 = .ok (.goto (-26), 3) := by decide +kernel
theorem dX1_asked_55 : decode cX1_asked 55 = .ok (.aload_n 0, 1) := by decide +kernel
theorem dX1_asked_56 : decode cX1_asked 56 = .ok (.aload_n 1, 1) := by decide +kernel
theorem dX1_asked_57 : decode cX1_asked 57 = .ok (.iload_n 2, 1) := by decide +kernel
theorem dX1_asked_58 : decode cX1_asked 58 = .ok (.aload 5, 2) := by decide +kernel
theorem dX1_asked_60 : decode cX1_asked 60 = .ok (.iload 6, 2) := by decide +kernel
theorem dX1_asked_62 : decode cX1_asked 62 = .ok (.iaload, 1) := by decide +kernel
theorem dX1_asked_63 : decode cX1_asked 63 = .ok (.iload 4, 2) := by decide +kernel
theorem dX1_asked_65 : decode cX1_asked 65 = .ok (.iconst 1, 1) := by decide +kernel
theorem dX1_asked_66 : decode cX1_asked 66 = .ok (.iadd, 1) := by decide +kernel
theorem dX1_asked_67 : decode cX1_asked 67 = .ok (.invokevirtual 38, 3) := by decide +kernel
theorem dX1_asked_70 : decode cX1_asked 70 = .ok (.ireturn, 1) := by decide +kernel
theorem dX1_given_0 : decode cX1_given 0 = .ok (.iload 4, 2) := by decide +kernel
theorem dX1_given_2 : decode cX1_given 2 = .ok (.bipush 12, 2) := by decide +kernel
theorem dX1_given_4 : decode cX1_given 4 = .ok (.if_icmp .le 5, 3) := by decide +kernel
theorem dX1_given_7 : decode cX1_given 7 = .ok (.iconst 0, 1) := by decide +kernel
theorem dX1_given_8 : decode cX1_given 8 = .ok (.ireturn, 1) := by decide +kernel
theorem dX1_given_9 : decode cX1_given 9 = .ok (.aload_n 0, 1) := by decide +kernel
theorem dX1_given_10 : decode cX1_given 10 = .ok (.iload_n 3, 1) := by decide +kernel
theorem dX1_given_11 : decode cX1_given 11 = .ok (.invokevirtual 41, 3) := by decide +kernel
theorem dX1_given_14 : decode cX1_given 14 = .ok (.iload 4, 2) := by decide +kernel
theorem dX1_given_16 : decode cX1_given 16 = .ok (.iconst 1, 1) := by decide +kernel
theorem dX1_given_17 : decode cX1_given 17 = .ok (.iadd, 1) := by decide +kernel
theorem dX1_given_18 : decode cX1_given 18 = .ok (.istore 5, 2) := by decide +kernel
theorem dX1_given_20 : decode cX1_given 20 = .ok (.iload_n 3, 1) := by decide +kernel
theorem dX1_given_21 : decode cX1_given 21 = .ok (.tableswitch 211 10 24 #[75, 82, 103, 115, 129, 211, 211, 211, 211, 211, 142, 144, 162, 177, 198], 75) := by decide +kernel
theorem dX1_given_96 : decode cX1_given 96 = .ok (.aload_n 1, 1) := by decide +kernel
theorem dX1_given_97 : decode cX1_given 97 = .ok (.getfield 45, 3) := by decide +kernel
theorem dX1_given_100 : decode cX1_given 100 = .ok (.iload_n 2, 1) := by decide +kernel
theorem dX1_given_101 : decode cX1_given 101 = .ok (.iaload, 1) := by decide +kernel
theorem dX1_given_102 : decode cX1_given 102 = .ok (.ireturn, 1) := by decide +kernel
theorem dX1_given_103 : decode cX1_given 103 = .ok (.aload_n 0, 1) := by decide +kernel
theorem dX1_given_104 : decode cX1_given 104 = .ok (.aload_n 1, 1) := by decide +kernel
theorem dX1_given_105 : decode cX1_given 105 = .ok (.iload_n 2, 1) := by decide +kernel
theorem dX1_given_106 : decode cX1_given 106 = .ok (.bipush 10, 2) := by decide +kernel
theorem dX1_given_108 : decode cX1_given 108 = .ok (.iload 5, 2) := by decide +kernel
theorem dX1_given_110 : decode cX1_given 110 = .ok (.invokevirtual 38, 3) := by decide +kernel
theorem dX1_given_113 : decode cX1_given 113 = .ok (.aload_n 0, 1) := by decide +kernel
theorem dX1_given_114 : decode cX1_given 114 = .ok (.aload_n 1, 1) := by decide +kernel
theorem dX1_given_115 : decode cX1_given 115 = .ok (.iload_n 2, 1) := by decide +kernel
theorem dX1_given_116 : decode cX1_given 116 = .ok (.iconst 1, 1) := by decide +kernel
theorem dX1_given_117 : decode cX1_given 117 = .ok (.iload 5, 2) := by decide +kernel
theorem dX1_given_119 : decode cX1_given 119 = .ok (.invokevirtual 23, 3) := by decide +kernel
theorem dX1_given_122 : decode cX1_given 122 = .ok (.iadd, 1) := by decide +kernel
theorem dX1_given_123 : decode cX1_given 123 = .ok (.ireturn, 1) := by decide +kernel
theorem dX1_given_124 : decode cX1_given 124 = .ok (.aload_n 0, 1) := by decide +kernel
theorem dX1_given_125 : decode cX1_given 125 = .ok (.aload_n 1, 1) := by decide +kernel
theorem dX1_given_126 : decode cX1_given 126 = .ok (.iload_n 2, 1) := by decide +kernel
theorem dX1_given_127 : decode cX1_given 127 = .ok (.bipush 11, 2) := by decide +kernel
theorem dX1_given_129 : decode cX1_given 129 = .ok (.iload 5, 2) := by decide +kernel
theorem dX1_given_131 : decode cX1_given 131 = .ok (.invokevirtual 38, 3) := by decide +kernel
theorem dX1_given_134 : decode cX1_given 134 = .ok (.ineg, 1) := by decide +kernel
theorem dX1_given_135 : decode cX1_given 135 = .ok (.ireturn, 1) := by decide +kernel
theorem dX1_given_136 : decode cX1_given 136 = .ok (.aload_n 0, 1) := by decide +kernel
theorem dX1_given_137 : decode cX1_given 137 = .ok (.aload_n 1, 1) := by decide +kernel
theorem dX1_given_138 : decode cX1_given 138 = .ok (.iload_n 2, 1) := by decide +kernel
theorem dX1_given_139 : decode cX1_given 139 = .ok (.bipush 10, 2) := by decide +kernel
theorem dX1_given_141 : decode cX1_given 141 = .ok (.iload 5, 2) := by decide +kernel
theorem dX1_given_143 : decode cX1_given 143 = .ok (.invokevirtual 38, 3) := by decide +kernel
theorem dX1_given_146 : decode cX1_given 146 = .ok (.bipush 100, 2) := by decide +kernel
theorem dX1_given_148 : decode cX1_given 148 = .ok (.isub, 1) := by decide +kernel
theorem dX1_given_149 : decode cX1_given 149 = .ok (.ireturn, 1) := by decide +kernel
theorem dX1_given_150 : decode cX1_given 150 = .ok (.aload_n 0, 1) := by decide +kernel
theorem dX1_given_151 : decode cX1_given 151 = .ok (.aload_n 1, 1) := by decide +kernel
theorem dX1_given_152 : decode cX1_given 152 = .ok (.iload_n 2, 1) := by decide +kernel
theorem dX1_given_153 : decode cX1_given 153 = .ok (.bipush 13, 2) := by decide +kernel
theorem dX1_given_155 : decode cX1_given 155 = .ok (.iload 5, 2) := by decide +kernel
theorem dX1_given_157 : decode cX1_given 157 = .ok (.invokevirtual 38, 3) := by decide +kernel
theorem dX1_given_160 : decode cX1_given 160 = .ok (.iconst 2, 1) := by decide +kernel
theorem dX1_given_161 : decode cX1_given 161 = .ok (.imul, 1) := by decide +kernel
theorem dX1_given_162 : decode cX1_given 162 = .ok (.ireturn, 1) := by decide +kernel
theorem dX1_given_163 : decode cX1_given 163 = .ok (.iload_n 2, 1) := by decide +kernel
theorem dX1_given_164 : decode cX1_given 164 = .ok (.ireturn, 1) := by decide +kernel
theorem dX1_given_165 : decode cX1_given 165 = .ok (.aload_n 0, 1) := by decide +kernel
theorem dX1_given_166 : decode cX1_given 166 = .ok (.aload_n 1, 1) := by decide +kernel
theorem dX1_given_167 : decode cX1_given 167 = .ok (.iload_n 2, 1) := by decide +kernel
theorem dX1_given_168 : decode cX1_given 168 = .ok (.bipush 20, 2) := by decide +kernel
theorem dX1_given_170 : decode cX1_given 170 = .ok (.iload 5, 2) := by decide +kernel
theorem dX1_given_172 : decode cX1_given 172 = .ok (.invokevirtual 38, 3) := by decide +kernel
theorem dX1_given_175 : decode cX1_given 175 = .ok (.aload_n 1, 1) := by decide +kernel
theorem dX1_given_176 : decode cX1_given 176 = .ok (.iload_n 2, 1) := by decide +kernel
theorem dX1_given_177 : decode cX1_given 177 = .ok (.iconst 0, 1) := by decide +kernel
theorem dX1_given_178 : decode cX1_given 178 = .ok (.invokevirtual 48, 3) := by decide +kernel
theorem dX1_given_181 : decode cX1_given 181 = .ok (.iadd, 1) := by decide +kernel
theorem dX1_given_182 : decode cX1_given 182 = .ok (.ireturn, 1) := by decide +kernel
theorem dX1_given_183 : decode cX1_given 183 = .ok (.aload_n 0, 1) := by decide +kernel
theorem dX1_given_184 : decode cX1_given 184 = .ok (.aload_n 1, 1) := by decide +kernel
theorem dX1_given_185 : decode cX1_given 185 = .ok (.iload_n 2, 1) := by decide +kernel
theorem dX1_given_186 : decode cX1_given 186 = .ok (.bipush 21, 2) := by decide +kernel
theorem dX1_given_188 : decode cX1_given 188 = .ok (.iload 5, 2) := by decide +kernel
theorem dX1_given_190 : decode cX1_given 190 = .ok (.invokevirtual 38, 3) := by decide +kernel
theorem dX1_given_193 : decode cX1_given 193 = .ok (.sipush 1000, 3) := by decide +kernel
theorem dX1_given_196 : decode cX1_given 196 = .ok (.isub, 1) := by decide +kernel
theorem dX1_given_197 : decode cX1_given 197 = .ok (.ireturn, 1) := by decide +kernel
theorem dX1_given_198 : decode cX1_given 198 = .ok (.aload_n 0, 1) := by decide +kernel
theorem dX1_given_199 : decode cX1_given 199 = .ok (.aload_n 1, 1) := by decide +kernel
theorem dX1_given_200 : decode cX1_given 200 = .ok (.iload_n 2, 1) := by decide +kernel
theorem dX1_given_201 : decode cX1_given 201 = .ok (.bipush 20, 2) := by decide +kernel
theorem dX1_given_203 : decode cX1_given 203 = .ok (.iload 5, 2) := by decide +kernel
theorem dX1_given_205 : decode cX1_given 205 = .ok (.invokevirtual 38, 3) := by decide +kernel
theorem dX1_given_208 : decode cX1_given 208 = .ok (.aload_n 0, 1) := by decide +kernel
theorem dX1_given_209 : decode cX1_given 209 = .ok (.aload_n 1, 1) := by decide +kernel
theorem dX1_given_210 : decode cX1_given 210 = .ok (.iload_n 2, 1) := by decide +kernel
theorem dX1_given_211 : decode cX1_given 211 = .ok (.iconst 0, 1) := by decide +kernel
theorem dX1_given_212 : decode cX1_given 212 = .ok (.iload 5, 2) := by decide +kernel
theorem dX1_given_214 : decode cX1_given 214 = .ok (.invokevirtual 23, 3) := by decide +kernel
theorem dX1_given_217 : decode cX1_given 217 = .ok (.isub, 1) := by decide +kernel
theorem dX1_given_218 : decode cX1_given 218 = .ok (.ireturn, 1) := by decide +kernel
theorem dX1_given_219 : decode cX1_given 219 = .ok (.aload_n 0, 1) := by decide +kernel
theorem dX1_given_220 : decode cX1_given 220 = .ok (.aload_n 1, 1) := by decide +kernel
theorem dX1_given_221 : decode cX1_given 221 = .ok (.iload_n 2, 1) := by decide +kernel
theorem dX1_given_222 : decode cX1_given 222 = .ok (.bipush 21, 2) := by decide +kernel
theorem dX1_given_224 : decode cX1_given 224 = .ok (.iload 5, 2) := by decide +kernel
theorem dX1_given_226 : decode cX1_given 226 = .ok (.invokevirtual 38, 3) := by decide +kernel
theorem dX1_given_229 : decode cX1_given 229 = .ok (.iconst 2, 1) := by decide +kernel
theorem dX1_given_230 : decode cX1_given 230 = .ok (.imul, 1) := by decide +kernel
theorem dX1_given_231 : decode cX1_given 231 = .ok (.ireturn, 1) := by decide +kernel
theorem dX1_given_232 : decode cX1_given 232 = .ok (.iconst 0, 1) := by decide +kernel
theorem dX1_given_233 : decode cX1_given 233 = .ok (.ireturn, 1) := by decide +kernel
theorem dX1_leave_0 : decode cX1_leave 0 = .ok (.aload_n 0, 1) := by decide +kernel
theorem dX1_leave_1 : decode cX1_leave 1 = .ok (.getfield 18, 3) := by decide +kernel
theorem dX1_leave_4 : decode cX1_leave 4 = .ok (.bipush 16, 2) := by decide +kernel
theorem dX1_leave_6 : decode cX1_leave 6 = .ok (.if_icmp .ge 23, 3) := by decide +kernel
theorem dX1_leave_9 : decode cX1_leave 9 = .ok (.aload_n 0, 1) := by decide +kernel
theorem dX1_leave_10 : decode cX1_leave 10 = .ok (.getfield 11, 3) := by decide +kernel
theorem dX1_leave_13 : decode cX1_leave 13 = .ok (.aload_n 0, 1) := by decide +kernel
theorem dX1_leave_14 : decode cX1_leave 14 = .ok (.getfield 18, 3) := by decide +kernel
theorem dX1_leave_17 : decode cX1_leave 17 = .ok (.iload_n 1, 1) := by decide +kernel
theorem dX1_leave_18 : decode cX1_leave 18 = .ok (.iastore, 1) := by decide +kernel
theorem dX1_leave_19 : decode cX1_leave 19 = .ok (.aload_n 0, 1) := by decide +kernel
theorem dX1_leave_20 : decode cX1_leave 20 = .ok (.dup, 1) := by decide +kernel
theorem dX1_leave_21 : decode cX1_leave 21 = .ok (.getfield 18, 3) := by decide +kernel
theorem dX1_leave_24 : decode cX1_leave 24 = .ok (.iconst 1, 1) := by decide +kernel
theorem dX1_leave_25 : decode cX1_leave 25 = .ok (.iadd, 1) := by decide +kernel
theorem dX1_leave_26 : decode cX1_leave 26 = .ok (.putfield 18, 3) := by decide +kernel
theorem dX1_leave_29 : decode cX1_leave 29 = .ok (.return_, 1) := by decide +kernel
theorem dX2_init_0 : decode cX2_init 0 = .ok (.aload_n 0, 1) := by decide +kernel
theorem dX2_init_1 : decode cX2_init 1 = .ok (.invokespecial 3, 3) := by decide +kernel
theorem dX2_init_4 : decode cX2_init 4 = .ok (.aload_n 0, 1) := by decide +kernel
theorem dX2_init_5 : decode cX2_init 5 = .ok (.bipush 6, 2) := by decide +kernel
theorem dX2_init_7 : decode cX2_init 7 = .ok (.sipush 199, 3) := by decide +kernel
theorem dX2_init_10 : decode cX2_init 10 = .ok (.multianewarray 11 2, 4) := by decide +kernel
theorem dX2_init_14 : decode cX2_init 14 = .ok (.putfield 13, 3) := by decide +kernel
theorem dX2_init_17 : decode cX2_init 17 = .ok (.aload_n 0, 1) := by decide +kernel
theorem dX2_init_18 : decode cX2_init 18 = .ok (.sipush 198, 3) := by decide +kernel
theorem dX2_init_21 : decode cX2_init 21 = .ok (.newarray .int, 2) := by decide +kernel
theorem dX2_init_23 : decode cX2_init 23 = .ok (.putfield 16, 3) := by decide +kernel
theorem dX2_init_26 : decode cX2_init 26 = .ok (.aload_n 0, 1) := by decide +kernel
theorem dX2_init_27 : decode cX2_init 27 = .ok (.sipush 198, 3) := by decide +kernel
theorem dX2_init_30 : decode cX2_init 30 = .ok (.newarray .int, 2) := by decide +kernel
theorem dX2_init_32 : decode cX2_init 32 = .ok (.putfield 20, 3) := by decide +kernel
theorem dX2_init_35 : decode cX2_init 35 = .ok (.aload_n 0, 1) := by decide +kernel
theorem dX2_init_36 : decode cX2_init 36 = .ok (.iconst 4, 1) := by decide +kernel
theorem dX2_init_37 : decode cX2_init 37 = .ok (.newarray .int, 2) := by decide +kernel
theorem dX2_init_39 : decode cX2_init 39 = .ok (.putfield 23, 3) := by decide +kernel
theorem dX2_init_42 : decode cX2_init 42 = .ok (.return_, 1) := by decide +kernel
theorem dX2_foresee_0 : decode cX2_foresee 0 = .ok (.aload_n 0, 1) := by decide +kernel
theorem dX2_foresee_1 : decode cX2_foresee 1 = .ok (.aload_n 1, 1) := by decide +kernel
theorem dX2_foresee_2 : decode cX2_foresee 2 = .ok (.getfield 26, 3) := by decide +kernel
theorem dX2_foresee_5 : decode cX2_foresee 5 = .ok (.putfield 32, 3) := by decide +kernel
theorem dX2_foresee_8 : decode cX2_foresee 8 = .ok (.aload_n 0, 1) := by decide +kernel
theorem dX2_foresee_9 : decode cX2_foresee 9 = .ok (.iload_n 2, 1) := by decide +kernel
theorem dX2_foresee_10 : decode cX2_foresee 10 = .ok (.iconst 0, 1) := by decide +kernel
theorem dX2_foresee_11 : decode cX2_foresee 11 = .ok (.invokestatic 35, 3) := by decide +kernel
theorem dX2_foresee_14 : decode cX2_foresee 14 = .ok (.sipush 198, 3) := by decide +kernel
theorem dX2_foresee_17 : decode cX2_foresee 17 = .ok (.invokestatic 41, 3) := by decide +kernel
theorem dX2_foresee_20 : decode cX2_foresee 20 = .ok (.putfield 44, 3) := by decide +kernel
theorem dX2_foresee_23 : decode cX2_foresee 23 = .ok (.iconst 0, 1) := by decide +kernel
theorem dX2_foresee_24 : decode cX2_foresee 24 = .ok (.istore_n 3, 1) := by decide +kernel
theorem dX2_foresee_25 : decode cX2_foresee 25 = .ok (.iload_n 3, 1) := by decide +kernel
theorem dX2_foresee_26 : decode cX2_foresee 26 = .ok (.aload_n 0, 1) := by decide +kernel
theorem dX2_foresee_27 : decode cX2_foresee 27 = .ok (.getfield 44, 3) := by decide +kernel
theorem dX2_foresee_30 : decode cX2_foresee 30 = .ok (.if_icmp .ge 23, 3) := by decide +kernel
theorem dX2_foresee_33 : decode cX2_foresee 33 = .ok (.aload_n 0, 1) := by decide +kernel
theorem dX2_foresee_34 : decode cX2_foresee 34 = .ok (.getfield 16, 3) := by decide +kernel
theorem dX2_foresee_37 : decode cX2_foresee 37 = .ok (.iload_n 3, 1) := by decide +kernel
theorem dX2_foresee_38 : decode cX2_foresee 38 = .ok (.iconst 0, 1) := by decide +kernel
theorem dX2_foresee_39 : decode cX2_foresee 39 = .ok (.iastore, 1) := by decide +kernel
theorem dX2_foresee_40 : decode cX2_foresee 40 = .ok (.aload_n 0, 1) := by decide +kernel
theorem dX2_foresee_41 : decode cX2_foresee 41 = .ok (.getfield 20, 3) := by decide +kernel
theorem dX2_foresee_44 : decode cX2_foresee 44 = .ok (.iload_n 3, 1) := by decide +kernel
theorem dX2_foresee_45 : decode cX2_foresee 45 = .ok (.iconst 0, 1) := by decide +kernel
theorem dX2_foresee_46 : decode cX2_foresee 46 = .ok (.iastore, 1) := by decide +kernel
theorem dX2_foresee_47 : decode cX2_foresee 47 = .ok (.iinc 3 1, 3) := by decide +kernel
theorem dX2_foresee_50 : decode cX2_foresee 50 = .ok (.goto (-25), 3) := by decide +kernel
theorem dX2_foresee_53 : decode cX2_foresee 53 = .ok (.iconst 0, 1) := by decide +kernel
theorem dX2_foresee_54 : decode cX2_foresee 54 = .ok (.istore_n 3, 1) := by decide +kernel
theorem dX2_foresee_55 : decode cX2_foresee 55 = .ok (.iload_n 3, 1) := by decide +kernel
theorem dX2_foresee_56 : decode cX2_foresee 56 = .ok (.aload_n 1, 1) := by decide +kernel
theorem dX2_foresee_57 : decode cX2_foresee 57 = .ok (.getfield 47, 3) := by decide +kernel
theorem dX2_foresee_60 : decode cX2_foresee 60 = .ok (.if_icmp .ge 15, 3) := by decide +kernel
theorem dX2_foresee_63 : decode cX2_foresee 63 = .ok (.aload_n 0, 1) := by decide +kernel
theorem dX2_foresee_64 : decode cX2_foresee 64 = .ok (.aload_n 1, 1) := by decide +kernel
theorem dX2_foresee_65 : decode cX2_foresee 65 = .ok (.iload_n 3, 1) := by decide +kernel
theorem dX2_foresee_66 : decode cX2_foresee 66 = .ok (.invokevirtual 50, 3) := by decide +kernel
theorem dX2_foresee_69 : decode cX2_foresee 69 = .ok (.iinc 3 1, 3) := by decide +kernel
theorem dX2_foresee_72 : decode cX2_foresee 72 = .ok (.goto (-17), 3) := by decide +kernel
theorem dX2_foresee_75 : decode cX2_foresee 75 = .ok (.return_, 1) := by decide +kernel
theorem dX2_foreseeOne_0 : decode cX2_foreseeOne 0 = .ok (.aload_n 0, 1) := by decide +kernel
theorem dX2_foreseeOne_1 : decode cX2_foreseeOne 1 = .ok (.getfield 13, 3) := by decide +kernel
theorem dX2_foreseeOne_4 : decode cX2_foreseeOne 4 = .ok (.iload_n 2, 1) := by decide +kernel
theorem dX2_foreseeOne_5 : decode cX2_foreseeOne 5 = .ok (.aaload, 1) := by decide +kernel
theorem dX2_foreseeOne_6 : decode cX2_foreseeOne 6 = .ok (.iconst 0, 1) := by decide +kernel
theorem dX2_foreseeOne_7 : decode cX2_foreseeOne 7 = .ok (.aload_n 1, 1) := by decide +kernel
theorem dX2_foreseeOne_8 : decode cX2_foreseeOne 8 = .ok (.iload_n 2, 1) := by decide +kernel
theorem dX2_foreseeOne_9 : decode cX2_foreseeOne 9 = .ok (.aload_n 0, 1) := by decide +kernel
theorem dX2_foreseeOne_10 : decode cX2_foreseeOne 10 = .ok (.getfield 32, 3) := by decide +kernel
theorem dX2_foreseeOne_13 : decode cX2_foreseeOne 13 = .ok (.invokevirtual 54, 3) := by decide +kernel
theorem dX2_foreseeOne_16 : decode cX2_foreseeOne 16 = .ok (.iastore, 1) := by decide +kernel
theorem dX2_foreseeOne_17 : decode cX2_foreseeOne 17 = .ok (.iconst 0, 1) := by decide +kernel
theorem dX2_foreseeOne_18 : decode cX2_foreseeOne 18 = .ok (.istore_n 3, 1) := by decide +kernel
theorem dX2_foreseeOne_19 : decode cX2_foreseeOne 19 = .ok (.iload_n 3, 1) := by decide +kernel
theorem dX2_foreseeOne_20 : decode cX2_foreseeOne 20 = .ok (.aload_n 0, 1) := by decide +kernel
theorem dX2_foreseeOne_21 : decode cX2_foreseeOne 21 = .ok (.getfield 44, 3) := by decide +kernel
theorem dX2_foreseeOne_24 : decode cX2_foreseeOne 24 = .ok (.if_icmp .ge 94, 3) := by decide +kernel
theorem dX2_foreseeOne_27 : decode cX2_foreseeOne 27 = .ok (.aload_n 1, 1) := by decide +kernel
theorem dX2_foreseeOne_28 : decode cX2_foreseeOne 28 = .ok (.iload_n 2, 1) := by decide +kernel
theorem dX2_foreseeOne_29 : decode cX2_foreseeOne 29 = .ok (.aload_n 0, 1) := by decide +kernel
theorem dX2_foreseeOne_30 : decode cX2_foreseeOne 30 = .ok (.getfield 32, 3) := by decide +kernel
theorem dX2_foreseeOne_33 : decode cX2_foreseeOne 33 = .ok (.iload_n 3, 1) := by decide +kernel
theorem dX2_foreseeOne_34 : decode cX2_foreseeOne 34 = .ok (.iadd, 1) := by decide +kernel
theorem dX2_foreseeOne_35 : decode cX2_foreseeOne 35 = .ok (.iconst 1, 1) := by decide +kernel
theorem dX2_foreseeOne_36 : decode cX2_foreseeOne 36 = .ok (.iadd, 1) := by decide +kernel
theorem dX2_foreseeOne_37 : decode cX2_foreseeOne 37 = .ok (.invokevirtual 54, 3) := by decide +kernel
theorem dX2_foreseeOne_40 : decode cX2_foreseeOne 40 = .ok (.istore 4, 2) := by decide +kernel
theorem dX2_foreseeOne_42 : decode cX2_foreseeOne 42 = .ok (.aload_n 0, 1) := by decide +kernel
theorem dX2_foreseeOne_43 : decode cX2_foreseeOne 43 = .ok (.getfield 13, 3) := by decide +kernel
theorem dX2_foreseeOne_46 : decode cX2_foreseeOne 46 = .ok (.iload_n 2, 1) := by decide +kernel
theorem dX2_foreseeOne_47 : decode cX2_foreseeOne 47 = .ok (.aaload, 1) := by decide +kernel
theorem dX2_foreseeOne_48 : decode cX2_foreseeOne 48 = .ok (.iload_n 3, 1) := by decide +kernel
theorem dX2_foreseeOne_49 : decode cX2_foreseeOne 49 = .ok (.iconst 1, 1) := by decide +kernel
theorem dX2_foreseeOne_50 : decode cX2_foreseeOne 50 = .ok (.iadd, 1) := by decide +kernel
theorem dX2_foreseeOne_51 : decode cX2_foreseeOne 51 = .ok (.iload 4, 2) := by decide +kernel
theorem dX2_foreseeOne_53 : decode cX2_foreseeOne 53 = .ok (.iastore, 1) := by decide +kernel
theorem dX2_foreseeOne_54 : decode cX2_foreseeOne 54 = .ok (.aload_n 0, 1) := by decide +kernel
theorem dX2_foreseeOne_55 : decode cX2_foreseeOne 55 = .ok (.getfield 16, 3) := by decide +kernel
theorem dX2_foreseeOne_58 : decode cX2_foreseeOne 58 = .ok (.iload_n 3, 1) := by decide +kernel
theorem dX2_foreseeOne_59 : decode cX2_foreseeOne 59 = .ok (.dup2, 1) := by decide +kernel
theorem dX2_foreseeOne_60 : decode cX2_foreseeOne 60 = .ok (.iaload, 1) := by decide +kernel
theorem dX2_foreseeOne_61 : decode cX2_foreseeOne 61 = .ok (.iload 4, 2) := by decide +kernel
theorem dX2_foreseeOne_63 : decode cX2_foreseeOne 63 = .ok (.aload_n 0, 1) := by decide +kernel
theorem dX2_foreseeOne_64 : decode cX2_foreseeOne 64 = .ok (.getfield 13, 3) := by decide +kernel
theorem dX2_foreseeOne_67 : decode cX2_foreseeOne 67 = .ok (.iload_n 2, 1) := by decide +kernel
theorem dX2_foreseeOne_68 : decode cX2_foreseeOne 68 = .ok (.aaload, 1) := by decide +kernel
theorem dX2_foreseeOne_69 : decode cX2_foreseeOne 69 = .ok (.iload_n 3, 1) := by decide +kernel
theorem dX2_foreseeOne_70 : decode cX2_foreseeOne 70 = .ok (.iaload, 1) := by decide +kernel
theorem dX2_foreseeOne_71 : decode cX2_foreseeOne 71 = .ok (.if_icmp .le 9, 3) := by decide +kernel
theorem dX2_foreseeOne_74 : decode cX2_foreseeOne 74 = .ok (.iconst 1, 1) := by decide +kernel
theorem dX2_foreseeOne_75 : decode cX2_foreseeOne 75 = .ok (.iload_n 2, 1) := by decide +kernel
theorem dX2_foreseeOne_76 : decode cX2_foreseeOne 76 = .ok (.ishl, 1) := by decide +kernel
theorem dX2_foreseeOne_77 : decode cX2_foreseeOne 77 = .ok (.goto 4, 3) := by decide +kernel
theorem dX2_foreseeOne_80 : decode cX2_foreseeOne 80 = .ok (.iconst 0, 1) := by decide +kernel
theorem dX2_foreseeOne_81 : decode cX2_foreseeOne 81 = .ok (.ior, 1) := by decide +kernel
theorem dX2_foreseeOne_82 : decode cX2_foreseeOne 82 = .ok (.iastore, 1) := by decide +kernel
theorem dX2_foreseeOne_83 : decode cX2_foreseeOne 83 = .ok (.aload_n 0, 1) := by decide +kernel
theorem dX2_foreseeOne_84 : decode cX2_foreseeOne 84 = .ok (.getfield 20, 3) := by decide +kernel
theorem dX2_foreseeOne_87 : decode cX2_foreseeOne 87 = .ok (.iload_n 3, 1) := by decide +kernel
theorem dX2_foreseeOne_88 : decode cX2_foreseeOne 88 = .ok (.dup2, 1) := by decide +kernel
theorem dX2_foreseeOne_89 : decode cX2_foreseeOne 89 = .ok (.iaload, 1) := by decide +kernel
theorem dX2_foreseeOne_90 : decode cX2_foreseeOne 90 = .ok (.iload 4, 2) := by decide +kernel
theorem dX2_foreseeOne_92 : decode cX2_foreseeOne 92 = .ok (.aload_n 0, 1) := by decide +kernel
theorem dX2_foreseeOne_93 : decode cX2_foreseeOne 93 = .ok (.getfield 13, 3) := by decide +kernel
theorem dX2_foreseeOne_96 : decode cX2_foreseeOne 96 = .ok (.iload_n 2, 1) := by decide +kernel
theorem dX2_foreseeOne_97 : decode cX2_foreseeOne 97 = .ok (.aaload, 1) := by decide +kernel
theorem dX2_foreseeOne_98 : decode cX2_foreseeOne 98 = .ok (.iload_n 3, 1) := by decide +kernel
theorem dX2_foreseeOne_99 : decode cX2_foreseeOne 99 = .ok (.iaload, 1) := by decide +kernel
theorem dX2_foreseeOne_100 : decode cX2_foreseeOne 100 = .ok (.if_icmp .ge 9, 3) := by decide +kernel
theorem dX2_foreseeOne_103 : decode cX2_foreseeOne 103 = .ok (.iconst 1, 1) := by decide +kernel
theorem dX2_foreseeOne_104 : decode cX2_foreseeOne 104 = .ok (.iload_n 2, 1) := by decide +kernel
theorem dX2_foreseeOne_105 : decode cX2_foreseeOne 105 = .ok (.ishl, 1) := by decide +kernel
theorem dX2_foreseeOne_106 : decode cX2_foreseeOne 106 = .ok (.goto 4, 3) := by decide +kernel
theorem dX2_foreseeOne_109 : decode cX2_foreseeOne 109 = .ok (.iconst 0, 1) := by decide +kernel
theorem dX2_foreseeOne_110 : decode cX2_foreseeOne 110 = .ok (.ior, 1) := by decide +kernel
theorem dX2_foreseeOne_111 : decode cX2_foreseeOne 111 = .ok (.iastore, 1) := by decide +kernel
theorem dX2_foreseeOne_112 : decode cX2_foreseeOne 112 = .ok (.iinc 3 1, 3) := by decide +kernel
theorem dX2_foreseeOne_115 : decode cX2_foreseeOne 115 = .ok (.goto (-96), 3) := by decide +kernel
theorem dX2_foreseeOne_118 : decode cX2_foreseeOne 118 = .ok (.return_, 1) := by decide +kernel
theorem dX2_pass_0 : decode cX2_pass 0 = .ok (.aload_n 1, 1) := by decide +kernel
theorem dX2_pass_1 : decode cX2_pass 1 = .ok (.getfield 26, 3) := by decide +kernel
theorem dX2_pass_4 : decode cX2_pass 4 = .ok (.aload_n 0, 1) := by decide +kernel
theorem dX2_pass_5 : decode cX2_pass 5 = .ok (.getfield 32, 3) := by decide +kernel
theorem dX2_pass_8 : decode cX2_pass 8 = .ok (.isub, 1) := by decide +kernel
theorem dX2_pass_9 : decode cX2_pass 9 = .ok (.istore_n 2, 1) := by decide +kernel
theorem dX2_pass_10 : decode cX2_pass 10 = .ok (.iload_n 2, 1) := by decide +kernel
theorem dX2_pass_11 : decode cX2_pass 11 = .ok (.ifCond .lt 11, 3) := by decide +kernel
theorem dX2_pass_14 : decode cX2_pass 14 = .ok (.iload_n 2, 1) := by decide +kernel
theorem dX2_pass_15 : decode cX2_pass 15 = .ok (.aload_n 0, 1) := by decide +kernel
theorem dX2_pass_16 : decode cX2_pass 16 = .ok (.getfield 44, 3) := by decide +kernel
theorem dX2_pass_19 : decode cX2_pass 19 = .ok (.if_icmp .lt 4, 3) := by decide +kernel
theorem dX2_pass_22 : decode cX2_pass 22 = .ok (.return_, 1) := by decide +kernel
theorem dX2_pass_23 : decode cX2_pass 23 = .ok (.aload_n 0, 1) := by decide +kernel
theorem dX2_pass_24 : decode cX2_pass 24 = .ok (.iconst 0, 1) := by decide +kernel
theorem dX2_pass_25 : decode cX2_pass 25 = .ok (.putfield 57, 3) := by decide +kernel
theorem dX2_pass_28 : decode cX2_pass 28 = .ok (.aload_n 0, 1) := by decide +kernel
theorem dX2_pass_29 : decode cX2_pass 29 = .ok (.iconst 0, 1) := by decide +kernel
theorem dX2_pass_30 : decode cX2_pass 30 = .ok (.putfield 60, 3) := by decide +kernel
theorem dX2_pass_33 : decode cX2_pass 33 = .ok (.iconst 0, 1) := by decide +kernel
theorem dX2_pass_34 : decode cX2_pass 34 = .ok (.istore_n 3, 1) := by decide +kernel
theorem dX2_pass_35 : decode cX2_pass 35 = .ok (.iload_n 3, 1) := by decide +kernel
theorem dX2_pass_36 : decode cX2_pass 36 = .ok (.iconst 4, 1) := by decide +kernel
theorem dX2_pass_37 : decode cX2_pass 37 = .ok (.if_icmp .ge 40, 3) := by decide +kernel
theorem dX2_pass_40 : decode cX2_pass 40 = .ok (.aload_n 0, 1) := by decide +kernel
theorem dX2_pass_41 : decode cX2_pass 41 = .ok (.getfield 23, 3) := by decide +kernel
theorem dX2_pass_44 : decode cX2_pass 44 = .ok (.iload_n 3, 1) := by decide +kernel
theorem dX2_pass_45 : decode cX2_pass 45 = .ok (.aload_n 0, 1) := by decide +kernel
theorem dX2_pass_46 : decode cX2_pass 46 = .ok (.aload_n 1, 1) := by decide +kernel
theorem dX2_pass_47 : decode cX2_pass 47 = .ok (.iload_n 3, 1) := by decide +kernel
theorem dX2_pass_48 : decode cX2_pass 48 = .ok (.iload_n 2, 1) := by decide +kernel
theorem dX2_pass_49 : decode cX2_pass 49 = .ok (.invokevirtual 63, 3) := by decide +kernel
theorem dX2_pass_52 : decode cX2_pass 52 = .ok (.iastore, 1) := by decide +kernel
theorem dX2_pass_53 : decode cX2_pass 53 = .ok (.aload_n 0, 1) := by decide +kernel
theorem dX2_pass_54 : decode cX2_pass 54 = .ok (.getfield 23, 3) := by decide +kernel
theorem dX2_pass_57 : decode cX2_pass 57 = .ok (.iload_n 3, 1) := by decide +kernel
theorem dX2_pass_58 : decode cX2_pass 58 = .ok (.iaload, 1) := by decide +kernel
theorem dX2_pass_59 : decode cX2_pass 59 = .ok (.ldc 67, 2) := by decide +kernel
theorem dX2_pass_61 : decode cX2_pass 61 = .ok (.if_icmp .eq 10, 3) := by decide +kernel
theorem dX2_pass_64 : decode cX2_pass 64 = .ok (.aload_n 0, 1) := by decide +kernel
theorem dX2_pass_65 : decode cX2_pass 65 = .ok (.aload_n 1, 1) := by decide +kernel
theorem dX2_pass_66 : decode cX2_pass 66 = .ok (.iload_n 3, 1) := by decide +kernel
theorem dX2_pass_67 : decode cX2_pass 67 = .ok (.iload_n 2, 1) := by decide +kernel
theorem dX2_pass_68 : decode cX2_pass 68 = .ok (.invokevirtual 68, 3) := by decide +kernel
theorem dX2_pass_71 : decode cX2_pass 71 = .ok (.iinc 3 1, 3) := by decide +kernel
theorem dX2_pass_74 : decode cX2_pass 74 = .ok (.goto (-39), 3) := by decide +kernel
theorem dX2_pass_77 : decode cX2_pass 77 = .ok (.aload_n 1, 1) := by decide +kernel
theorem dX2_pass_78 : decode cX2_pass 78 = .ok (.dup, 1) := by decide +kernel
theorem dX2_pass_79 : decode cX2_pass 79 = .ok (.getfield 26, 3) := by decide +kernel
theorem dX2_pass_82 : decode cX2_pass 82 = .ok (.iconst 1, 1) := by decide +kernel
theorem dX2_pass_83 : decode cX2_pass 83 = .ok (.iadd, 1) := by decide +kernel
theorem dX2_pass_84 : decode cX2_pass 84 = .ok (.putfield 26, 3) := by decide +kernel
theorem dX2_pass_87 : decode cX2_pass 87 = .ok (.return_, 1) := by decide +kernel
theorem dX2_carrierOf_0 : decode cX2_carrierOf 0 = .ok (.aload_n 1, 1) := by decide +kernel
theorem dX2_carrierOf_1 : decode cX2_carrierOf 1 = .ok (.iload_n 2, 1) := by decide +kernel
theorem dX2_carrierOf_2 : decode cX2_carrierOf 2 = .ok (.invokevirtual 72, 3) := by decide +kernel
theorem dX2_carrierOf_5 : decode cX2_carrierOf 5 = .ok (.ifCond .ne 6, 3) := by decide +kernel
theorem dX2_carrierOf_8 : decode cX2_carrierOf 8 = .ok (.ldc 67, 2) := by decide +kernel
theorem dX2_carrierOf_10 : decode cX2_carrierOf 10 = .ok (.ireturn, 1) := by decide +kernel
theorem dX2_carrierOf_11 : decode cX2_carrierOf 11 = .ok (.aload_n 1, 1) := by decide +kernel
theorem dX2_carrierOf_12 : decode cX2_carrierOf 12 = .ok (.getfield 76, 3) := by decide +kernel
theorem dX2_carrierOf_15 : decode cX2_carrierOf 15 = .ok (.iload_n 2, 1) := by decide +kernel
theorem dX2_carrierOf_16 : decode cX2_carrierOf 16 = .ok (.iaload, 1) := by decide +kernel
theorem dX2_carrierOf_17 : decode cX2_carrierOf 17 = .ok (.aload_n 1, 1) := by decide +kernel
theorem dX2_carrierOf_18 : decode cX2_carrierOf 18 = .ok (.getfield 79, 3) := by decide +kernel
theorem dX2_carrierOf_21 : decode cX2_carrierOf 21 = .ok (.iload_n 2, 1) := by decide +kernel
theorem dX2_carrierOf_22 : decode cX2_carrierOf 22 = .ok (.iaload, 1) := by decide +kernel
theorem dX2_carrierOf_23 : decode cX2_carrierOf 23 = .ok (.if_icmp .le 12, 3) := by decide +kernel
theorem dX2_carrierOf_26 : decode cX2_carrierOf 26 = .ok (.aload_n 0, 1) := by decide +kernel
theorem dX2_carrierOf_27 : decode cX2_carrierOf 27 = .ok (.getfield 16, 3) := by decide +kernel
theorem dX2_carrierOf_30 : decode cX2_carrierOf 30 = .ok (.iload_n 3, 1) := by decide +kernel
theorem dX2_carrierOf_31 : decode cX2_carrierOf 31 = .ok (.iaload, 1) := by decide +kernel
theorem dX2_carrierOf_32 : decode cX2_carrierOf 32 = .ok (.goto 9, 3) := by decide +kernel
theorem dX2_carrierOf_35 : decode cX2_carrierOf 35 = .ok (.aload_n 0, 1) := by decide +kernel
theorem dX2_carrierOf_36 : decode cX2_carrierOf 36 = .ok (.getfield 20, 3) := by decide +kernel
theorem dX2_carrierOf_39 : decode cX2_carrierOf 39 = .ok (.iload_n 3, 1) := by decide +kernel
theorem dX2_carrierOf_40 : decode cX2_carrierOf 40 = .ok (.iaload, 1) := by decide +kernel
theorem dX2_carrierOf_41 : decode cX2_carrierOf 41 = .ok (.istore 4, 2) := by decide +kernel
theorem dX2_carrierOf_43 : decode cX2_carrierOf 43 = .ok (.iload 4, 2) := by decide +kernel
theorem dX2_carrierOf_45 : decode cX2_carrierOf 45 = .ok (.aload_n 1, 1) := by decide +kernel
theorem dX2_carrierOf_46 : decode cX2_carrierOf 46 = .ok (.getfield 82, 3) := by decide +kernel
theorem dX2_carrierOf_49 : decode cX2_carrierOf 49 = .ok (.iconst (-1), 1) := by decide +kernel
theorem dX2_carrierOf_50 : decode cX2_carrierOf 50 = .ok (.ixor, 1) := by decide +kernel
theorem dX2_carrierOf_51 : decode cX2_carrierOf 51 = .ok (.iand, 1) := by decide +kernel
theorem dX2_carrierOf_52 : decode cX2_carrierOf 52 = .ok (.aload_n 0, 1) := by decide +kernel
theorem dX2_carrierOf_53 : decode cX2_carrierOf 53 = .ok (.getfield 57, 3) := by decide +kernel
theorem dX2_carrierOf_56 : decode cX2_carrierOf 56 = .ok (.iconst (-1), 1) := by decide +kernel
theorem dX2_carrierOf_57 : decode cX2_carrierOf 57 = .ok (.ixor, 1) := by decide +kernel
theorem dX2_carrierOf_58 : decode cX2_carrierOf 58 = .ok (.iand, 1) := by decide +kernel
theorem dX2_carrierOf_59 : decode cX2_carrierOf 59 = .ok (.istore 5, 2) := by decide +kernel
theorem dX2_carrierOf_61 : decode cX2_carrierOf 61 = .ok (.iload 5, 2) := by decide +kernel
theorem dX2_carrierOf_63 : decode cX2_carrierOf 63 = .ok (.ifCond .ne 6, 3) := by decide +kernel
theorem dX2_carrierOf_66 : decode cX2_carrierOf 66 = .ok (.ldc 67, 2) := by decide +kernel
theorem dX2_carrierOf_68 : decode cX2_carrierOf 68 = .ok (.ireturn, 1) := by decide +kernel
theorem dX2_carrierOf_69 : decode cX2_carrierOf 69 = .ok (.iconst 0, 1) := by decide +kernel
theorem dX2_carrierOf_70 : decode cX2_carrierOf 70 = .ok (.istore 6, 2) := by decide +kernel
theorem dX2_carrierOf_72 : decode cX2_carrierOf 72 = .ok (.iload 6, 2) := by decide +kernel
theorem dX2_carrierOf_74 : decode cX2_carrierOf 74 = .ok (.aload_n 1, 1) := by decide +kernel
theorem dX2_carrierOf_75 : decode cX2_carrierOf 75 = .ok (.getfield 47, 3) := by decide +kernel
theorem dX2_carrierOf_78 : decode cX2_carrierOf 78 = .ok (.if_icmp .ge 41, 3) := by decide +kernel
theorem dX2_carrierOf_81 : decode cX2_carrierOf 81 = .ok (.iload 5, 2) := by decide +kernel
theorem dX2_carrierOf_83 : decode cX2_carrierOf 83 = .ok (.iload 6, 2) := by decide +kernel
theorem dX2_carrierOf_85 : decode cX2_carrierOf 85 = .ok (.ishr, 1) := by decide +kernel
theorem dX2_carrierOf_86 : decode cX2_carrierOf 86 = .ok (.iconst 1, 1) := by decide +kernel
theorem dX2_carrierOf_87 : decode cX2_carrierOf 87 = .ok (.iand, 1) := by decide +kernel
theorem dX2_carrierOf_88 : decode cX2_carrierOf 88 = .ok (.iconst 1, 1) := by decide +kernel
theorem dX2_carrierOf_89 : decode cX2_carrierOf 89 = .ok (.if_icmp .ne 24, 3) := by decide +kernel
theorem dX2_carrierOf_92 : decode cX2_carrierOf 92 = .ok (.aload_n 0, 1) := by decide +kernel
theorem dX2_carrierOf_93 : decode cX2_carrierOf 93 = .ok (.getfield 13, 3) := by decide +kernel
theorem dX2_carrierOf_96 : decode cX2_carrierOf 96 = .ok (.iload 6, 2) := by decide +kernel
theorem dX2_carrierOf_98 : decode cX2_carrierOf 98 = .ok (.aaload, 1) := by decide +kernel
theorem dX2_carrierOf_99 : decode cX2_carrierOf 99 = .ok (.iload_n 3, 1) := by decide +kernel
theorem dX2_carrierOf_100 : decode cX2_carrierOf 100 = .ok (.iaload, 1) := by decide +kernel
theorem dX2_carrierOf_101 : decode cX2_carrierOf 101 = .ok (.aload_n 1, 1) := by decide +kernel
theorem dX2_carrierOf_102 : decode cX2_carrierOf 102 = .ok (.getfield 79, 3) := by decide +kernel
theorem dX2_carrierOf_105 : decode cX2_carrierOf 105 = .ok (.iload_n 2, 1) := by decide +kernel
theorem dX2_carrierOf_106 : decode cX2_carrierOf 106 = .ok (.iaload, 1) := by decide +kernel
theorem dX2_carrierOf_107 : decode cX2_carrierOf 107 = .ok (.if_icmp .ne 6, 3) := by decide +kernel
theorem dX2_carrierOf_110 : decode cX2_carrierOf 110 = .ok (.iload 6, 2) := by decide +kernel
theorem dX2_carrierOf_112 : decode cX2_carrierOf 112 = .ok (.ireturn, 1) := by decide +kernel
theorem dX2_carrierOf_113 : decode cX2_carrierOf 113 = .ok (.iinc 6 1, 3) := by decide +kernel
theorem dX2_carrierOf_116 : decode cX2_carrierOf 116 = .ok (.goto (-44), 3) := by decide +kernel
theorem dX2_carrierOf_119 : decode cX2_carrierOf 119 = .ok (.ldc 67, 2) := by decide +kernel
theorem dX2_carrierOf_121 : decode cX2_carrierOf 121 = .ok (.ireturn, 1) := by decide +kernel
theorem dX2_carryOn_0 : decode cX2_carryOn 0 = .ok (.aload_n 0, 1) := by decide +kernel
theorem dX2_carryOn_1 : decode cX2_carryOn 1 = .ok (.getfield 23, 3) := by decide +kernel
theorem dX2_carryOn_4 : decode cX2_carryOn 4 = .ok (.iload_n 2, 1) := by decide +kernel
theorem dX2_carryOn_5 : decode cX2_carryOn 5 = .ok (.iaload, 1) := by decide +kernel
theorem dX2_carryOn_6 : decode cX2_carryOn 6 = .ok (.istore 4, 2) := by decide +kernel
theorem dX2_carryOn_8 : decode cX2_carryOn 8 = .ok (.aload_n 0, 1) := by decide +kernel
theorem dX2_carryOn_9 : decode cX2_carryOn 9 = .ok (.getfield 13, 3) := by decide +kernel
theorem dX2_carryOn_12 : decode cX2_carryOn 12 = .ok (.iload 4, 2) := by decide +kernel
theorem dX2_carryOn_14 : decode cX2_carryOn 14 = .ok (.aaload, 1) := by decide +kernel
theorem dX2_carryOn_15 : decode cX2_carryOn 15 = .ok (.iload_n 3, 1) := by decide +kernel
theorem dX2_carryOn_16 : decode cX2_carryOn 16 = .ok (.iconst 1, 1) := by decide +kernel
theorem dX2_carryOn_17 : decode cX2_carryOn 17 = .ok (.iadd, 1) := by decide +kernel
theorem dX2_carryOn_18 : decode cX2_carryOn 18 = .ok (.iaload, 1) := by decide +kernel
theorem dX2_carryOn_19 : decode cX2_carryOn 19 = .ok (.istore 5, 2) := by decide +kernel
theorem dX2_carryOn_21 : decode cX2_carryOn 21 = .ok (.aload_n 1, 1) := by decide +kernel
theorem dX2_carryOn_22 : decode cX2_carryOn 22 = .ok (.getfield 76, 3) := by decide +kernel
theorem dX2_carryOn_25 : decode cX2_carryOn 25 = .ok (.iload_n 2, 1) := by decide +kernel
theorem dX2_carryOn_26 : decode cX2_carryOn 26 = .ok (.iaload, 1) := by decide +kernel
theorem dX2_carryOn_27 : decode cX2_carryOn 27 = .ok (.aload_n 1, 1) := by decide +kernel
theorem dX2_carryOn_28 : decode cX2_carryOn 28 = .ok (.getfield 79, 3) := by decide +kernel
theorem dX2_carryOn_31 : decode cX2_carryOn 31 = .ok (.iload_n 2, 1) := by decide +kernel
theorem dX2_carryOn_32 : decode cX2_carryOn 32 = .ok (.iaload, 1) := by decide +kernel
theorem dX2_carryOn_33 : decode cX2_carryOn 33 = .ok (.if_icmp .le 7, 3) := by decide +kernel
theorem dX2_carryOn_36 : decode cX2_carryOn 36 = .ok (.iconst 1, 1) := by decide +kernel
theorem dX2_carryOn_37 : decode cX2_carryOn 37 = .ok (.goto 4, 3) := by decide +kernel
theorem dX2_carryOn_40 : decode cX2_carryOn 40 = .ok (.iconst 0, 1) := by decide +kernel
theorem dX2_carryOn_41 : decode cX2_carryOn 41 = .ok (.istore 6, 2) := by decide +kernel
theorem dX2_carryOn_43 : decode cX2_carryOn 43 = .ok (.aload_n 1, 1) := by decide +kernel
theorem dX2_carryOn_44 : decode cX2_carryOn 44 = .ok (.getfield 79, 3) := by decide +kernel
theorem dX2_carryOn_47 : decode cX2_carryOn 47 = .ok (.iload_n 2, 1) := by decide +kernel
theorem dX2_carryOn_48 : decode cX2_carryOn 48 = .ok (.iload 6, 2) := by decide +kernel
theorem dX2_carryOn_50 : decode cX2_carryOn 50 = .ok (.ifCond .eq 17, 3) := by decide +kernel
theorem dX2_carryOn_53 : decode cX2_carryOn 53 = .ok (.iload 5, 2) := by decide +kernel
theorem dX2_carryOn_55 : decode cX2_carryOn 55 = .ok (.aload_n 1, 1) := by decide +kernel
theorem dX2_carryOn_56 : decode cX2_carryOn 56 = .ok (.getfield 76, 3) := by decide +kernel
theorem dX2_carryOn_59 : decode cX2_carryOn 59 = .ok (.iload_n 2, 1) := by decide +kernel
theorem dX2_carryOn_60 : decode cX2_carryOn 60 = .ok (.iaload, 1) := by decide +kernel
theorem dX2_carryOn_61 : decode cX2_carryOn 61 = .ok (.invokestatic 41, 3) := by decide +kernel
theorem dX2_carryOn_64 : decode cX2_carryOn 64 = .ok (.goto 14, 3) := by decide +kernel
theorem dX2_carryOn_67 : decode cX2_carryOn 67 = .ok (.iload 5, 2) := by decide +kernel
theorem dX2_carryOn_69 : decode cX2_carryOn 69 = .ok (.aload_n 1, 1) := by decide +kernel
theorem dX2_carryOn_70 : decode cX2_carryOn 70 = .ok (.getfield 76, 3) := by decide +kernel
theorem dX2_carryOn_73 : decode cX2_carryOn 73 = .ok (.iload_n 2, 1) := by decide +kernel
theorem dX2_carryOn_74 : decode cX2_carryOn 74 = .ok (.iaload, 1) := by decide +kernel
theorem dX2_carryOn_75 : decode cX2_carryOn 75 = .ok (.invokestatic 35, 3) := by decide +kernel
theorem dX2_carryOn_78 : decode cX2_carryOn 78 = .ok (.iastore, 1) := by decide +kernel
theorem dX2_carryOn_79 : decode cX2_carryOn 79 = .ok (.aload_n 1, 1) := by decide +kernel
theorem dX2_carryOn_80 : decode cX2_carryOn 80 = .ok (.getfield 85, 3) := by decide +kernel
theorem dX2_carryOn_83 : decode cX2_carryOn 83 = .ok (.iload 4, 2) := by decide +kernel
theorem dX2_carryOn_85 : decode cX2_carryOn 85 = .ok (.iaload, 1) := by decide +kernel
theorem dX2_carryOn_86 : decode cX2_carryOn 86 = .ok (.iconst 2, 1) := by decide +kernel
theorem dX2_carryOn_87 : decode cX2_carryOn 87 = .ok (.if_icmp .ne 31, 3) := by decide +kernel
theorem dX2_carryOn_90 : decode cX2_carryOn 90 = .ok (.aload_n 0, 1) := by decide +kernel
theorem dX2_carryOn_91 : decode cX2_carryOn 91 = .ok (.getfield 60, 3) := by decide +kernel
theorem dX2_carryOn_94 : decode cX2_carryOn 94 = .ok (.iload 4, 2) := by decide +kernel
theorem dX2_carryOn_96 : decode cX2_carryOn 96 = .ok (.ishr, 1) := by decide +kernel
theorem dX2_carryOn_97 : decode cX2_carryOn 97 = .ok (.iconst 1, 1) := by decide +kernel
theorem dX2_carryOn_98 : decode cX2_carryOn 98 = .ok (.iand, 1) := by decide +kernel
theorem dX2_carryOn_99 : decode cX2_carryOn 99 = .ok (.ifCond .ne 19, 3) := by decide +kernel
theorem dX2_carryOn_102 : decode cX2_carryOn 102 = .ok (.aload_n 0, 1) := by decide +kernel
theorem dX2_carryOn_103 : decode cX2_carryOn 103 = .ok (.dup, 1) := by decide +kernel
theorem dX2_carryOn_104 : decode cX2_carryOn 104 = .ok (.getfield 60, 3) := by decide +kernel
theorem dX2_carryOn_107 : decode cX2_carryOn 107 = .ok (.iconst 1, 1) := by decide +kernel
theorem dX2_carryOn_108 : decode cX2_carryOn 108 = .ok (.iload 4, 2) := by decide +kernel
theorem dX2_carryOn_110 : decode cX2_carryOn 110 = .ok (.ishl, 1) := by decide +kernel
theorem dX2_carryOn_111 : decode cX2_carryOn 111 = .ok (.ior, 1) := by decide +kernel
theorem dX2_carryOn_112 : decode cX2_carryOn 112 = .ok (.putfield 60, 3) := by decide +kernel
theorem dX2_carryOn_115 : decode cX2_carryOn 115 = .ok (.goto 16, 3) := by decide +kernel
theorem dX2_carryOn_118 : decode cX2_carryOn 118 = .ok (.aload_n 0, 1) := by decide +kernel
theorem dX2_carryOn_119 : decode cX2_carryOn 119 = .ok (.dup, 1) := by decide +kernel
theorem dX2_carryOn_120 : decode cX2_carryOn 120 = .ok (.getfield 57, 3) := by decide +kernel
theorem dX2_carryOn_123 : decode cX2_carryOn 123 = .ok (.iconst 1, 1) := by decide +kernel
theorem dX2_carryOn_124 : decode cX2_carryOn 124 = .ok (.iload 4, 2) := by decide +kernel
theorem dX2_carryOn_126 : decode cX2_carryOn 126 = .ok (.ishl, 1) := by decide +kernel
theorem dX2_carryOn_127 : decode cX2_carryOn 127 = .ok (.ior, 1) := by decide +kernel
theorem dX2_carryOn_128 : decode cX2_carryOn 128 = .ok (.putfield 57, 3) := by decide +kernel
theorem dX2_carryOn_131 : decode cX2_carryOn 131 = .ok (.return_, 1) := by decide +kernel
theorem dX2_carrierThen_0 : decode cX2_carrierThen 0 = .ok (.aload_n 0, 1) := by decide +kernel
theorem dX2_carrierThen_1 : decode cX2_carrierThen 1 = .ok (.getfield 23, 3) := by decide +kernel
theorem dX2_carrierThen_4 : decode cX2_carrierThen 4 = .ok (.iload_n 1, 1) := by decide +kernel
theorem dX2_carrierThen_5 : decode cX2_carrierThen 5 = .ok (.iaload, 1) := by decide +kernel
theorem dX2_carrierThen_6 : decode cX2_carrierThen 6 = .ok (.ireturn, 1) := by decide +kernel
theorem dX3_init_0 : decode cX3_init 0 = .ok (.aload_n 0, 1) := by decide +kernel
theorem dX3_init_1 : decode cX3_init 1 = .ok (.invokespecial 3, 3) := by decide +kernel
theorem dX3_init_4 : decode cX3_init 4 = .ok (.aload_n 0, 1) := by decide +kernel
theorem dX3_init_5 : decode cX3_init 5 = .ok (.new 9, 3) := by decide +kernel
theorem dX3_init_8 : decode cX3_init 8 = .ok (.dup, 1) := by decide +kernel
theorem dX3_init_9 : decode cX3_init 9 = .ok (.invokespecial 11, 3) := by decide +kernel
theorem dX3_init_12 : decode cX3_init 12 = .ok (.putfield 12, 3) := by decide +kernel
theorem dX3_init_15 : decode cX3_init 15 = .ok (.aload_n 0, 1) := by decide +kernel
theorem dX3_init_16 : decode cX3_init 16 = .ok (.new 9, 3) := by decide +kernel
theorem dX3_init_19 : decode cX3_init 19 = .ok (.dup, 1) := by decide +kernel
theorem dX3_init_20 : decode cX3_init 20 = .ok (.invokespecial 11, 3) := by decide +kernel
theorem dX3_init_23 : decode cX3_init 23 = .ok (.putfield 18, 3) := by decide +kernel
theorem dX3_init_26 : decode cX3_init 26 = .ok (.aload_n 0, 1) := by decide +kernel
theorem dX3_init_27 : decode cX3_init 27 = .ok (.bipush 6, 2) := by decide +kernel
theorem dX3_init_29 : decode cX3_init 29 = .ok (.newarray .int, 2) := by decide +kernel
theorem dX3_init_31 : decode cX3_init 31 = .ok (.putfield 21, 3) := by decide +kernel
theorem dX3_init_34 : decode cX3_init 34 = .ok (.aload_n 0, 1) := by decide +kernel
theorem dX3_init_35 : decode cX3_init 35 = .ok (.bipush 12, 2) := by decide +kernel
theorem dX3_init_37 : decode cX3_init 37 = .ok (.newarray .int, 2) := by decide +kernel
theorem dX3_init_39 : decode cX3_init 39 = .ok (.putfield 25, 3) := by decide +kernel
theorem dX3_init_42 : decode cX3_init 42 = .ok (.aload_n 0, 1) := by decide +kernel
theorem dX3_init_43 : decode cX3_init 43 = .ok (.aload_n 1, 1) := by decide +kernel
theorem dX3_init_44 : decode cX3_init 44 = .ok (.putfield 28, 3) := by decide +kernel
theorem dX3_init_47 : decode cX3_init 47 = .ok (.return_, 1) := by decide +kernel
theorem dX3_prepare_0 : decode cX3_prepare 0 = .ok (.aload_n 0, 1) := by decide +kernel
theorem dX3_prepare_1 : decode cX3_prepare 1 = .ok (.getfield 12, 3) := by decide +kernel
theorem dX3_prepare_4 : decode cX3_prepare 4 = .ok (.aload_n 1, 1) := by decide +kernel
theorem dX3_prepare_5 : decode cX3_prepare 5 = .ok (.invokevirtual 32, 3) := by decide +kernel
theorem dX3_prepare_8 : decode cX3_prepare 8 = .ok (.aload_n 0, 1) := by decide +kernel
theorem dX3_prepare_9 : decode cX3_prepare 9 = .ok (.getfield 28, 3) := by decide +kernel
theorem dX3_prepare_12 : decode cX3_prepare 12 = .ok (.aload_n 1, 1) := by decide +kernel
theorem dX3_prepare_13 : decode cX3_prepare 13 = .ok (.iload_n 2, 1) := by decide +kernel
theorem dX3_prepare_14 : decode cX3_prepare 14 = .ok (.invokevirtual 36, 3) := by decide +kernel
theorem dX3_prepare_17 : decode cX3_prepare 17 = .ok (.return_, 1) := by decide +kernel
theorem dX3_goUntilThere_0 : decode cX3_goUntilThere 0 = .ok (.iconst 0, 1) := by decide +kernel
theorem dX3_goUntilThere_1 : decode cX3_goUntilThere 1 = .ok (.istore_n 3, 1) := by decide +kernel
theorem dX3_goUntilThere_2 : decode cX3_goUntilThere 2 = .ok (.iload_n 3, 1) := by decide +kernel
theorem dX3_goUntilThere_3 : decode cX3_goUntilThere 3 = .ok (.iload_n 2, 1) := by decide +kernel
theorem dX3_goUntilThere_4 : decode cX3_goUntilThere 4 = .ok (.if_icmp .gt 38, 3) := by decide +kernel
theorem dX3_goUntilThere_7 : decode cX3_goUntilThere 7 = .ok (.aload_n 0, 1) := by decide +kernel
theorem dX3_goUntilThere_8 : decode cX3_goUntilThere 8 = .ok (.getfield 12, 3) := by decide +kernel
theorem dX3_goUntilThere_11 : decode cX3_goUntilThere 11 = .ok (.iload_n 1, 1) := by decide +kernel
theorem dX3_goUntilThere_12 : decode cX3_goUntilThere 12 = .ok (.invokevirtual 42, 3) := by decide +kernel
theorem dX3_goUntilThere_15 : decode cX3_goUntilThere 15 = .ok (.ifCond .eq 5, 3) := by decide +kernel
theorem dX3_goUntilThere_18 : decode cX3_goUntilThere 18 = .ok (.iload_n 3, 1) := by decide +kernel
theorem dX3_goUntilThere_19 : decode cX3_goUntilThere 19 = .ok (.ireturn, 1) := by decide +kernel
theorem dX3_goUntilThere_20 : decode cX3_goUntilThere 20 = .ok (.iload_n 3, 1) := by decide +kernel
theorem dX3_goUntilThere_21 : decode cX3_goUntilThere 21 = .ok (.iload_n 2, 1) := by decide +kernel
theorem dX3_goUntilThere_22 : decode cX3_goUntilThere 22 = .ok (.if_icmp .ge 14, 3) := by decide +kernel
theorem dX3_goUntilThere_25 : decode cX3_goUntilThere 25 = .ok (.aload_n 0, 1) := by decide +kernel
theorem dX3_goUntilThere_26 : decode cX3_goUntilThere 26 = .ok (.getfield 28, 3) := by decide +kernel
theorem dX3_goUntilThere_29 : decode cX3_goUntilThere 29 = .ok (.aload_n 0, 1) := by decide +kernel
theorem dX3_goUntilThere_30 : decode cX3_goUntilThere 30 = .ok (.getfield 12, 3) := by decide +kernel
theorem dX3_goUntilThere_33 : decode cX3_goUntilThere 33 = .ok (.invokevirtual 46, 3) := by decide +kernel
theorem dX3_goUntilThere_36 : decode cX3_goUntilThere 36 = .ok (.iinc 3 1, 3) := by decide +kernel
theorem dX3_goUntilThere_39 : decode cX3_goUntilThere 39 = .ok (.goto (-37), 3) := by decide +kernel
theorem dX3_goUntilThere_42 : decode cX3_goUntilThere 42 = .ok (.ldc 49, 2) := by decide +kernel
theorem dX3_goUntilThere_44 : decode cX3_goUntilThere 44 = .ok (.ireturn, 1) := by decide +kernel
theorem dX3_nextCarrier_0 : decode cX3_nextCarrier 0 = .ok (.aload_n 0, 1) := by decide +kernel
theorem dX3_nextCarrier_1 : decode cX3_nextCarrier 1 = .ok (.aload_n 1, 1) := by decide +kernel
theorem dX3_nextCarrier_2 : decode cX3_nextCarrier 2 = .ok (.iconst 1, 1) := by decide +kernel
theorem dX3_nextCarrier_3 : decode cX3_nextCarrier 3 = .ok (.invokevirtual 50, 3) := by decide +kernel
theorem dX3_nextCarrier_6 : decode cX3_nextCarrier 6 = .ok (.aload_n 0, 1) := by decide +kernel
theorem dX3_nextCarrier_7 : decode cX3_nextCarrier 7 = .ok (.getfield 28, 3) := by decide +kernel
theorem dX3_nextCarrier_10 : decode cX3_nextCarrier 10 = .ok (.aload_n 0, 1) := by decide +kernel
theorem dX3_nextCarrier_11 : decode cX3_nextCarrier 11 = .ok (.getfield 12, 3) := by decide +kernel
theorem dX3_nextCarrier_14 : decode cX3_nextCarrier 14 = .ok (.invokevirtual 46, 3) := by decide +kernel
theorem dX3_nextCarrier_17 : decode cX3_nextCarrier 17 = .ok (.aload_n 0, 1) := by decide +kernel
theorem dX3_nextCarrier_18 : decode cX3_nextCarrier 18 = .ok (.getfield 28, 3) := by decide +kernel
theorem dX3_nextCarrier_21 : decode cX3_nextCarrier 21 = .ok (.iload_n 2, 1) := by decide +kernel
theorem dX3_nextCarrier_22 : decode cX3_nextCarrier 22 = .ok (.invokevirtual 53, 3) := by decide +kernel
theorem dX3_nextCarrier_25 : decode cX3_nextCarrier 25 = .ok (.ireturn, 1) := by decide +kernel
theorem dX3_placeBehind_0 : decode cX3_placeBehind 0 = .ok (.aload_n 0, 1) := by decide +kernel
theorem dX3_placeBehind_1 : decode cX3_placeBehind 1 = .ok (.aload_n 1, 1) := by decide +kernel
theorem dX3_placeBehind_2 : decode cX3_placeBehind 2 = .ok (.iload_n 3, 1) := by decide +kernel
theorem dX3_placeBehind_3 : decode cX3_placeBehind 3 = .ok (.invokevirtual 50, 3) := by decide +kernel
theorem dX3_placeBehind_6 : decode cX3_placeBehind 6 = .ok (.iconst 0, 1) := by decide +kernel
theorem dX3_placeBehind_7 : decode cX3_placeBehind 7 = .ok (.istore 4, 2) := by decide +kernel
theorem dX3_placeBehind_9 : decode cX3_placeBehind 9 = .ok (.iload 4, 2) := by decide +kernel
theorem dX3_placeBehind_11 : decode cX3_placeBehind 11 = .ok (.iload_n 3, 1) := by decide +kernel
theorem dX3_placeBehind_12 : decode cX3_placeBehind 12 = .ok (.if_icmp .ge 20, 3) := by decide +kernel
theorem dX3_placeBehind_15 : decode cX3_placeBehind 15 = .ok (.aload_n 0, 1) := by decide +kernel
theorem dX3_placeBehind_16 : decode cX3_placeBehind 16 = .ok (.getfield 28, 3) := by decide +kernel
theorem dX3_placeBehind_19 : decode cX3_placeBehind 19 = .ok (.aload_n 0, 1) := by decide +kernel
theorem dX3_placeBehind_20 : decode cX3_placeBehind 20 = .ok (.getfield 12, 3) := by decide +kernel
theorem dX3_placeBehind_23 : decode cX3_placeBehind 23 = .ok (.invokevirtual 46, 3) := by decide +kernel
theorem dX3_placeBehind_26 : decode cX3_placeBehind 26 = .ok (.iinc 4 1, 3) := by decide +kernel
theorem dX3_placeBehind_29 : decode cX3_placeBehind 29 = .ok (.goto (-20), 3) := by decide +kernel
theorem dX3_placeBehind_32 : decode cX3_placeBehind 32 = .ok (.aload_n 0, 1) := by decide +kernel
theorem dX3_placeBehind_33 : decode cX3_placeBehind 33 = .ok (.getfield 12, 3) := by decide +kernel
theorem dX3_placeBehind_36 : decode cX3_placeBehind 36 = .ok (.getfield 57, 3) := by decide +kernel
theorem dX3_placeBehind_39 : decode cX3_placeBehind 39 = .ok (.iload_n 2, 1) := by decide +kernel
theorem dX3_placeBehind_40 : decode cX3_placeBehind 40 = .ok (.iaload, 1) := by decide +kernel
theorem dX3_placeBehind_41 : decode cX3_placeBehind 41 = .ok (.ireturn, 1) := by decide +kernel
theorem dX3_arrival_0 : decode cX3_arrival 0 = .ok (.aload_n 0, 1) := by decide +kernel
theorem dX3_arrival_1 : decode cX3_arrival 1 = .ok (.aload_n 1, 1) := by decide +kernel
theorem dX3_arrival_2 : decode cX3_arrival 2 = .ok (.bipush 99, 2) := by decide +kernel
theorem dX3_arrival_4 : decode cX3_arrival 4 = .ok (.invokevirtual 50, 3) := by decide +kernel
theorem dX3_arrival_7 : decode cX3_arrival 7 = .ok (.aload_n 0, 1) := by decide +kernel
theorem dX3_arrival_8 : decode cX3_arrival 8 = .ok (.iload_n 2, 1) := by decide +kernel
theorem dX3_arrival_9 : decode cX3_arrival 9 = .ok (.bipush 99, 2) := by decide +kernel
theorem dX3_arrival_11 : decode cX3_arrival 11 = .ok (.invokevirtual 60, 3) := by decide +kernel
theorem dX3_arrival_14 : decode cX3_arrival 14 = .ok (.ireturn, 1) := by decide +kernel
theorem dX3_carriersOf_0 : decode cX3_carriersOf 0 = .ok (.aload_n 0, 1) := by decide +kernel
theorem dX3_carriersOf_1 : decode cX3_carriersOf 1 = .ok (.aload_n 1, 1) := by decide +kernel
theorem dX3_carriersOf_2 : decode cX3_carriersOf 2 = .ok (.iload_n 3, 1) := by decide +kernel
theorem dX3_carriersOf_3 : decode cX3_carriersOf 3 = .ok (.invokevirtual 50, 3) := by decide +kernel
theorem dX3_carriersOf_6 : decode cX3_carriersOf 6 = .ok (.iconst 0, 1) := by decide +kernel
theorem dX3_carriersOf_7 : decode cX3_carriersOf 7 = .ok (.istore 4, 2) := by decide +kernel
theorem dX3_carriersOf_9 : decode cX3_carriersOf 9 = .ok (.iconst 0, 1) := by decide +kernel
theorem dX3_carriersOf_10 : decode cX3_carriersOf 10 = .ok (.istore 5, 2) := by decide +kernel
theorem dX3_carriersOf_12 : decode cX3_carriersOf 12 = .ok (.iload 5, 2) := by decide +kernel
theorem dX3_carriersOf_14 : decode cX3_carriersOf 14 = .ok (.iload_n 3, 1) := by decide +kernel
theorem dX3_carriersOf_15 : decode cX3_carriersOf 15 = .ok (.if_icmp .ge 50, 3) := by decide +kernel
theorem dX3_carriersOf_18 : decode cX3_carriersOf 18 = .ok (.aload_n 0, 1) := by decide +kernel
theorem dX3_carriersOf_19 : decode cX3_carriersOf 19 = .ok (.getfield 28, 3) := by decide +kernel
theorem dX3_carriersOf_22 : decode cX3_carriersOf 22 = .ok (.aload_n 0, 1) := by decide +kernel
theorem dX3_carriersOf_23 : decode cX3_carriersOf 23 = .ok (.getfield 12, 3) := by decide +kernel
theorem dX3_carriersOf_26 : decode cX3_carriersOf 26 = .ok (.invokevirtual 46, 3) := by decide +kernel
theorem dX3_carriersOf_29 : decode cX3_carriersOf 29 = .ok (.aload_n 0, 1) := by decide +kernel
theorem dX3_carriersOf_30 : decode cX3_carriersOf 30 = .ok (.getfield 28, 3) := by decide +kernel
theorem dX3_carriersOf_33 : decode cX3_carriersOf 33 = .ok (.iload_n 2, 1) := by decide +kernel
theorem dX3_carriersOf_34 : decode cX3_carriersOf 34 = .ok (.invokevirtual 53, 3) := by decide +kernel
theorem dX3_carriersOf_37 : decode cX3_carriersOf 37 = .ok (.istore 6, 2) := by decide +kernel
theorem dX3_carriersOf_39 : decode cX3_carriersOf 39 = .ok (.iload 4, 2) := by decide +kernel
theorem dX3_carriersOf_41 : decode cX3_carriersOf 41 = .ok (.iload 6, 2) := by decide +kernel
theorem dX3_carriersOf_43 : decode cX3_carriersOf 43 = .ok (.ldc 49, 2) := by decide +kernel
theorem dX3_carriersOf_45 : decode cX3_carriersOf 45 = .ok (.if_icmp .eq 10, 3) := by decide +kernel
theorem dX3_carriersOf_48 : decode cX3_carriersOf 48 = .ok (.iconst 1, 1) := by decide +kernel
theorem dX3_carriersOf_49 : decode cX3_carriersOf 49 = .ok (.iload 6, 2) := by decide +kernel
theorem dX3_carriersOf_51 : decode cX3_carriersOf 51 = .ok (.ishl, 1) := by decide +kernel
theorem dX3_carriersOf_52 : decode cX3_carriersOf 52 = .ok (.goto 4, 3) := by decide +kernel
theorem dX3_carriersOf_55 : decode cX3_carriersOf 55 = .ok (.iconst 0, 1) := by decide +kernel
theorem dX3_carriersOf_56 : decode cX3_carriersOf 56 = .ok (.ior, 1) := by decide +kernel
theorem dX3_carriersOf_57 : decode cX3_carriersOf 57 = .ok (.istore 4, 2) := by decide +kernel
theorem dX3_carriersOf_59 : decode cX3_carriersOf 59 = .ok (.iinc 5 1, 3) := by decide +kernel
theorem dX3_carriersOf_62 : decode cX3_carriersOf 62 = .ok (.goto (-50), 3) := by decide +kernel
theorem dX3_carriersOf_65 : decode cX3_carriersOf 65 = .ok (.iload 4, 2) := by decide +kernel
theorem dX3_carriersOf_67 : decode cX3_carriersOf 67 = .ok (.ireturn, 1) := by decide +kernel
theorem dX3_soonest_0 : decode cX3_soonest 0 = .ok (.aload_n 0, 1) := by decide +kernel
theorem dX3_soonest_1 : decode cX3_soonest 1 = .ok (.aload_n 1, 1) := by decide +kernel
theorem dX3_soonest_2 : decode cX3_soonest 2 = .ok (.bipush 99, 2) := by decide +kernel
theorem dX3_soonest_4 : decode cX3_soonest 4 = .ok (.invokevirtual 50, 3) := by decide +kernel
theorem dX3_soonest_7 : decode cX3_soonest 7 = .ok (.aload_n 0, 1) := by decide +kernel
theorem dX3_soonest_8 : decode cX3_soonest 8 = .ok (.getfield 18, 3) := by decide +kernel
theorem dX3_soonest_11 : decode cX3_soonest 11 = .ok (.aload_n 1, 1) := by decide +kernel
theorem dX3_soonest_12 : decode cX3_soonest 12 = .ok (.invokevirtual 32, 3) := by decide +kernel
theorem dX3_soonest_15 : decode cX3_soonest 15 = .ok (.ldc 49, 2) := by decide +kernel
theorem dX3_soonest_17 : decode cX3_soonest 17 = .ok (.istore 5, 2) := by decide +kernel
theorem dX3_soonest_19 : decode cX3_soonest 19 = .ok (.bipush 99, 2) := by decide +kernel
theorem dX3_soonest_21 : decode cX3_soonest 21 = .ok (.istore 6, 2) := by decide +kernel
theorem dX3_soonest_23 : decode cX3_soonest 23 = .ok (.iconst 0, 1) := by decide +kernel
theorem dX3_soonest_24 : decode cX3_soonest 24 = .ok (.istore 7, 2) := by decide +kernel
theorem dX3_soonest_26 : decode cX3_soonest 26 = .ok (.iload 7, 2) := by decide +kernel
theorem dX3_soonest_28 : decode cX3_soonest 28 = .ok (.aload_n 1, 1) := by decide +kernel
theorem dX3_soonest_29 : decode cX3_soonest 29 = .ok (.getfield 64, 3) := by decide +kernel
theorem dX3_soonest_32 : decode cX3_soonest 32 = .ok (.if_icmp .ge 71, 3) := by decide +kernel
theorem dX3_soonest_35 : decode cX3_soonest 35 = .ok (.aload_n 0, 1) := by decide +kernel
theorem dX3_soonest_36 : decode cX3_soonest 36 = .ok (.getfield 12, 3) := by decide +kernel
theorem dX3_soonest_39 : decode cX3_soonest 39 = .ok (.aload_n 0, 1) := by decide +kernel
theorem dX3_soonest_40 : decode cX3_soonest 40 = .ok (.getfield 18, 3) := by decide +kernel
theorem dX3_soonest_43 : decode cX3_soonest 43 = .ok (.invokevirtual 68, 3) := by decide +kernel
theorem dX3_soonest_46 : decode cX3_soonest 46 = .ok (.aload_n 0, 1) := by decide +kernel
theorem dX3_soonest_47 : decode cX3_soonest 47 = .ok (.getfield 12, 3) := by decide +kernel
theorem dX3_soonest_50 : decode cX3_soonest 50 = .ok (.iconst 3, 1) := by decide +kernel
theorem dX3_soonest_51 : decode cX3_soonest 51 = .ok (.iload_n 2, 1) := by decide +kernel
theorem dX3_soonest_52 : decode cX3_soonest 52 = .ok (.iload_n 3, 1) := by decide +kernel
theorem dX3_soonest_53 : decode cX3_soonest 53 = .ok (.invokevirtual 71, 3) := by decide +kernel
theorem dX3_soonest_56 : decode cX3_soonest 56 = .ok (.aload_n 0, 1) := by decide +kernel
theorem dX3_soonest_57 : decode cX3_soonest 57 = .ok (.iconst 3, 1) := by decide +kernel
theorem dX3_soonest_58 : decode cX3_soonest 58 = .ok (.iload 6, 2) := by decide +kernel
theorem dX3_soonest_60 : decode cX3_soonest 60 = .ok (.iload 7, 2) := by decide +kernel
theorem dX3_soonest_62 : decode cX3_soonest 62 = .ok (.isub, 1) := by decide +kernel
theorem dX3_soonest_63 : decode cX3_soonest 63 = .ok (.invokevirtual 60, 3) := by decide +kernel
theorem dX3_soonest_66 : decode cX3_soonest 66 = .ok (.istore 8, 2) := by decide +kernel
theorem dX3_soonest_68 : decode cX3_soonest 68 = .ok (.iload 8, 2) := by decide +kernel
theorem dX3_soonest_70 : decode cX3_soonest 70 = .ok (.ldc 49, 2) := by decide +kernel
theorem dX3_soonest_72 : decode cX3_soonest 72 = .ok (.if_icmp .eq 14, 3) := by decide +kernel
theorem dX3_soonest_75 : decode cX3_soonest 75 = .ok (.iload 7, 2) := by decide +kernel
theorem dX3_soonest_77 : decode cX3_soonest 77 = .ok (.istore 5, 2) := by decide +kernel
theorem dX3_soonest_79 : decode cX3_soonest 79 = .ok (.iload 7, 2) := by decide +kernel
theorem dX3_soonest_81 : decode cX3_soonest 81 = .ok (.iload 8, 2) := by decide +kernel
theorem dX3_soonest_83 : decode cX3_soonest 83 = .ok (.iadd, 1) := by decide +kernel
theorem dX3_soonest_84 : decode cX3_soonest 84 = .ok (.istore 6, 2) := by decide +kernel
theorem dX3_soonest_86 : decode cX3_soonest 86 = .ok (.aload_n 0, 1) := by decide +kernel
theorem dX3_soonest_87 : decode cX3_soonest 87 = .ok (.getfield 28, 3) := by decide +kernel
theorem dX3_soonest_90 : decode cX3_soonest 90 = .ok (.aload_n 0, 1) := by decide +kernel
theorem dX3_soonest_91 : decode cX3_soonest 91 = .ok (.getfield 18, 3) := by decide +kernel
theorem dX3_soonest_94 : decode cX3_soonest 94 = .ok (.invokevirtual 46, 3) := by decide +kernel
theorem dX3_soonest_97 : decode cX3_soonest 97 = .ok (.iinc 7 1, 3) := by decide +kernel
theorem dX3_soonest_100 : decode cX3_soonest 100 = .ok (.goto (-74), 3) := by decide +kernel
theorem dX3_soonest_103 : decode cX3_soonest 103 = .ok (.iload 4, 2) := by decide +kernel
theorem dX3_soonest_105 : decode cX3_soonest 105 = .ok (.ifCond .eq 10, 3) := by decide +kernel
theorem dX3_soonest_108 : decode cX3_soonest 108 = .ok (.iload 5, 2) := by decide +kernel
theorem dX3_soonest_110 : decode cX3_soonest 110 = .ok (.ldc 49, 2) := by decide +kernel
theorem dX3_soonest_112 : decode cX3_soonest 112 = .ok (.if_icmp .ne 8, 3) := by decide +kernel
theorem dX3_soonest_115 : decode cX3_soonest 115 = .ok (.iload 5, 2) := by decide +kernel
theorem dX3_soonest_117 : decode cX3_soonest 117 = .ok (.goto 5, 3) := by decide +kernel
theorem dX3_soonest_120 : decode cX3_soonest 120 = .ok (.iload 6, 2) := by decide +kernel
theorem dX3_soonest_122 : decode cX3_soonest 122 = .ok (.ireturn, 1) := by decide +kernel
theorem dX3_reaches_0 : decode cX3_reaches 0 = .ok (.aload_n 0, 1) := by decide +kernel
theorem dX3_reaches_1 : decode cX3_reaches 1 = .ok (.getfield 12, 3) := by decide +kernel
theorem dX3_reaches_4 : decode cX3_reaches 4 = .ok (.aload_n 1, 1) := by decide +kernel
theorem dX3_reaches_5 : decode cX3_reaches 5 = .ok (.invokevirtual 68, 3) := by decide +kernel
theorem dX3_reaches_8 : decode cX3_reaches 8 = .ok (.aload_n 0, 1) := by decide +kernel
theorem dX3_reaches_9 : decode cX3_reaches 9 = .ok (.getfield 12, 3) := by decide +kernel
theorem dX3_reaches_12 : decode cX3_reaches 12 = .ok (.iconst 3, 1) := by decide +kernel
theorem dX3_reaches_13 : decode cX3_reaches 13 = .ok (.iload_n 2, 1) := by decide +kernel
theorem dX3_reaches_14 : decode cX3_reaches 14 = .ok (.iload_n 3, 1) := by decide +kernel
theorem dX3_reaches_15 : decode cX3_reaches 15 = .ok (.invokevirtual 71, 3) := by decide +kernel
theorem dX3_reaches_18 : decode cX3_reaches 18 = .ok (.aload_n 0, 1) := by decide +kernel
theorem dX3_reaches_19 : decode cX3_reaches 19 = .ok (.iconst 3, 1) := by decide +kernel
theorem dX3_reaches_20 : decode cX3_reaches 20 = .ok (.iload 4, 2) := by decide +kernel
theorem dX3_reaches_22 : decode cX3_reaches 22 = .ok (.invokevirtual 60, 3) := by decide +kernel
theorem dX3_reaches_25 : decode cX3_reaches 25 = .ok (.ldc 49, 2) := by decide +kernel
theorem dX3_reaches_27 : decode cX3_reaches 27 = .ok (.if_icmp .eq 7, 3) := by decide +kernel
theorem dX3_reaches_30 : decode cX3_reaches 30 = .ok (.iconst 1, 1) := by decide +kernel
theorem dX3_reaches_31 : decode cX3_reaches 31 = .ok (.goto 4, 3) := by decide +kernel
theorem dX3_reaches_34 : decode cX3_reaches 34 = .ok (.iconst 0, 1) := by decide +kernel
theorem dX3_reaches_35 : decode cX3_reaches 35 = .ok (.ireturn, 1) := by decide +kernel
theorem dX3_spotsFor_0 : decode cX3_spotsFor 0 = .ok (.aload_n 0, 1) := by decide +kernel
theorem dX3_spotsFor_1 : decode cX3_spotsFor 1 = .ok (.aload_n 1, 1) := by decide +kernel
theorem dX3_spotsFor_2 : decode cX3_spotsFor 2 = .ok (.iload_n 3, 1) := by decide +kernel
theorem dX3_spotsFor_3 : decode cX3_spotsFor 3 = .ok (.invokevirtual 50, 3) := by decide +kernel
theorem dX3_spotsFor_6 : decode cX3_spotsFor 6 = .ok (.iconst 0, 1) := by decide +kernel
theorem dX3_spotsFor_7 : decode cX3_spotsFor 7 = .ok (.istore 4, 2) := by decide +kernel
theorem dX3_spotsFor_9 : decode cX3_spotsFor 9 = .ok (.iconst 0, 1) := by decide +kernel
theorem dX3_spotsFor_10 : decode cX3_spotsFor 10 = .ok (.istore 5, 2) := by decide +kernel
theorem dX3_spotsFor_12 : decode cX3_spotsFor 12 = .ok (.iload 5, 2) := by decide +kernel
theorem dX3_spotsFor_14 : decode cX3_spotsFor 14 = .ok (.aload_n 1, 1) := by decide +kernel
theorem dX3_spotsFor_15 : decode cX3_spotsFor 15 = .ok (.getfield 75, 3) := by decide +kernel
theorem dX3_spotsFor_18 : decode cX3_spotsFor 18 = .ok (.if_icmp .ge 34, 3) := by decide +kernel
theorem dX3_spotsFor_21 : decode cX3_spotsFor 21 = .ok (.iload 4, 2) := by decide +kernel
theorem dX3_spotsFor_23 : decode cX3_spotsFor 23 = .ok (.aload_n 0, 1) := by decide +kernel
theorem dX3_spotsFor_24 : decode cX3_spotsFor 24 = .ok (.aload_n 1, 1) := by decide +kernel
theorem dX3_spotsFor_25 : decode cX3_spotsFor 25 = .ok (.iload 5, 2) := by decide +kernel
theorem dX3_spotsFor_27 : decode cX3_spotsFor 27 = .ok (.iload_n 2, 1) := by decide +kernel
theorem dX3_spotsFor_28 : decode cX3_spotsFor 28 = .ok (.iload_n 3, 1) := by decide +kernel
theorem dX3_spotsFor_29 : decode cX3_spotsFor 29 = .ok (.invokevirtual 78, 3) := by decide +kernel
theorem dX3_spotsFor_32 : decode cX3_spotsFor 32 = .ok (.ifCond .eq 10, 3) := by decide +kernel
theorem dX3_spotsFor_35 : decode cX3_spotsFor 35 = .ok (.iconst 1, 1) := by decide +kernel
theorem dX3_spotsFor_36 : decode cX3_spotsFor 36 = .ok (.iload 5, 2) := by decide +kernel
theorem dX3_spotsFor_38 : decode cX3_spotsFor 38 = .ok (.ishl, 1) := by decide +kernel
theorem dX3_spotsFor_39 : decode cX3_spotsFor 39 = .ok (.goto 4, 3) := by decide +kernel
theorem dX3_spotsFor_42 : decode cX3_spotsFor 42 = .ok (.iconst 0, 1) := by decide +kernel
theorem dX3_spotsFor_43 : decode cX3_spotsFor 43 = .ok (.ior, 1) := by decide +kernel
theorem dX3_spotsFor_44 : decode cX3_spotsFor 44 = .ok (.istore 4, 2) := by decide +kernel
theorem dX3_spotsFor_46 : decode cX3_spotsFor 46 = .ok (.iinc 5 1, 3) := by decide +kernel
theorem dX3_spotsFor_49 : decode cX3_spotsFor 49 = .ok (.goto (-37), 3) := by decide +kernel
theorem dX3_spotsFor_52 : decode cX3_spotsFor 52 = .ok (.iload 4, 2) := by decide +kernel
theorem dX3_spotsFor_54 : decode cX3_spotsFor 54 = .ok (.ireturn, 1) := by decide +kernel
theorem dX3_unreached_0 : decode cX3_unreached 0 = .ok (.aload_n 0, 1) := by decide +kernel
theorem dX3_unreached_1 : decode cX3_unreached 1 = .ok (.aload_n 1, 1) := by decide +kernel
theorem dX3_unreached_2 : decode cX3_unreached 2 = .ok (.bipush 99, 2) := by decide +kernel
theorem dX3_unreached_4 : decode cX3_unreached 4 = .ok (.invokevirtual 50, 3) := by decide +kernel
theorem dX3_unreached_7 : decode cX3_unreached 7 = .ok (.iconst 1, 1) := by decide +kernel
theorem dX3_unreached_8 : decode cX3_unreached 8 = .ok (.aload_n 1, 1) := by decide +kernel
theorem dX3_unreached_9 : decode cX3_unreached 9 = .ok (.getfield 75, 3) := by decide +kernel
theorem dX3_unreached_12 : decode cX3_unreached 12 = .ok (.ishl, 1) := by decide +kernel
theorem dX3_unreached_13 : decode cX3_unreached 13 = .ok (.iconst 1, 1) := by decide +kernel
theorem dX3_unreached_14 : decode cX3_unreached 14 = .ok (.isub, 1) := by decide +kernel
theorem dX3_unreached_15 : decode cX3_unreached 15 = .ok (.istore_n 2, 1) := by decide +kernel
theorem dX3_unreached_16 : decode cX3_unreached 16 = .ok (.iconst 0, 1) := by decide +kernel
theorem dX3_unreached_17 : decode cX3_unreached 17 = .ok (.istore_n 3, 1) := by decide +kernel
theorem dX3_unreached_18 : decode cX3_unreached 18 = .ok (.iload_n 3, 1) := by decide +kernel
theorem dX3_unreached_19 : decode cX3_unreached 19 = .ok (.aload_n 1, 1) := by decide +kernel
theorem dX3_unreached_20 : decode cX3_unreached 20 = .ok (.getfield 75, 3) := by decide +kernel
theorem dX3_unreached_23 : decode cX3_unreached 23 = .ok (.if_icmp .ge 67, 3) := by decide +kernel
theorem dX3_unreached_26 : decode cX3_unreached 26 = .ok (.iconst 0, 1) := by decide +kernel
theorem dX3_unreached_27 : decode cX3_unreached 27 = .ok (.istore 4, 2) := by decide +kernel
theorem dX3_unreached_29 : decode cX3_unreached 29 = .ok (.iload 4, 2) := by decide +kernel
theorem dX3_unreached_31 : decode cX3_unreached 31 = .ok (.aload_n 1, 1) := by decide +kernel
theorem dX3_unreached_32 : decode cX3_unreached 32 = .ok (.getfield 75, 3) := by decide +kernel
theorem dX3_unreached_35 : decode cX3_unreached 35 = .ok (.if_icmp .ge 49, 3) := by decide +kernel
theorem dX3_unreached_38 : decode cX3_unreached 38 = .ok (.iload_n 2, 1) := by decide +kernel
theorem dX3_unreached_39 : decode cX3_unreached 39 = .ok (.iload_n 3, 1) := by decide +kernel
theorem dX3_unreached_40 : decode cX3_unreached 40 = .ok (.ishr, 1) := by decide +kernel
theorem dX3_unreached_41 : decode cX3_unreached 41 = .ok (.iconst 1, 1) := by decide +kernel
theorem dX3_unreached_42 : decode cX3_unreached 42 = .ok (.iand, 1) := by decide +kernel
theorem dX3_unreached_43 : decode cX3_unreached 43 = .ok (.iconst 1, 1) := by decide +kernel
theorem dX3_unreached_44 : decode cX3_unreached 44 = .ok (.if_icmp .ne 40, 3) := by decide +kernel
theorem dX3_unreached_47 : decode cX3_unreached 47 = .ok (.iload_n 2, 1) := by decide +kernel
theorem dX3_unreached_48 : decode cX3_unreached 48 = .ok (.iload 4, 2) := by decide +kernel
theorem dX3_unreached_50 : decode cX3_unreached 50 = .ok (.iload_n 3, 1) := by decide +kernel
theorem dX3_unreached_51 : decode cX3_unreached 51 = .ok (.if_icmp .eq 24, 3) := by decide +kernel
theorem dX3_unreached_54 : decode cX3_unreached 54 = .ok (.aload_n 0, 1) := by decide +kernel
theorem dX3_unreached_55 : decode cX3_unreached 55 = .ok (.aload_n 1, 1) := by decide +kernel
theorem dX3_unreached_56 : decode cX3_unreached 56 = .ok (.iload 4, 2) := by decide +kernel
theorem dX3_unreached_58 : decode cX3_unreached 58 = .ok (.iload_n 3, 1) := by decide +kernel
theorem dX3_unreached_59 : decode cX3_unreached 59 = .ok (.bipush 99, 2) := by decide +kernel
theorem dX3_unreached_61 : decode cX3_unreached 61 = .ok (.invokevirtual 78, 3) := by decide +kernel
theorem dX3_unreached_64 : decode cX3_unreached 64 = .ok (.ifCond .eq 11, 3) := by decide +kernel
theorem dX3_unreached_67 : decode cX3_unreached 67 = .ok (.iconst 1, 1) := by decide +kernel
theorem dX3_unreached_68 : decode cX3_unreached 68 = .ok (.iload_n 3, 1) := by decide +kernel
theorem dX3_unreached_69 : decode cX3_unreached 69 = .ok (.ishl, 1) := by decide +kernel
theorem dX3_unreached_70 : decode cX3_unreached 70 = .ok (.iconst (-1), 1) := by decide +kernel
theorem dX3_unreached_71 : decode cX3_unreached 71 = .ok (.ixor, 1) := by decide +kernel
theorem dX3_unreached_72 : decode cX3_unreached 72 = .ok (.goto 4, 3) := by decide +kernel
theorem dX3_unreached_75 : decode cX3_unreached 75 = .ok (.iconst (-1), 1) := by decide +kernel
theorem dX3_unreached_76 : decode cX3_unreached 76 = .ok (.iand, 1) := by decide +kernel
theorem dX3_unreached_77 : decode cX3_unreached 77 = .ok (.istore_n 2, 1) := by decide +kernel
theorem dX3_unreached_78 : decode cX3_unreached 78 = .ok (.iinc 4 1, 3) := by decide +kernel
theorem dX3_unreached_81 : decode cX3_unreached 81 = .ok (.goto (-52), 3) := by decide +kernel
theorem dX3_unreached_84 : decode cX3_unreached 84 = .ok (.iinc 3 1, 3) := by decide +kernel
theorem dX3_unreached_87 : decode cX3_unreached 87 = .ok (.goto (-69), 3) := by decide +kernel
theorem dX3_unreached_90 : decode cX3_unreached 90 = .ok (.iload_n 2, 1) := by decide +kernel
theorem dX3_unreached_91 : decode cX3_unreached 91 = .ok (.ireturn, 1) := by decide +kernel
theorem dX3_isThereWith_0 : decode cX3_isThereWith 0 = .ok (.aload_n 0, 1) := by decide +kernel
theorem dX3_isThereWith_1 : decode cX3_isThereWith 1 = .ok (.getfield 12, 3) := by decide +kernel
theorem dX3_isThereWith_4 : decode cX3_isThereWith 4 = .ok (.aload_n 1, 1) := by decide +kernel
theorem dX3_isThereWith_5 : decode cX3_isThereWith 5 = .ok (.invokevirtual 68, 3) := by decide +kernel
theorem dX3_isThereWith_8 : decode cX3_isThereWith 8 = .ok (.aload_n 0, 1) := by decide +kernel
theorem dX3_isThereWith_9 : decode cX3_isThereWith 9 = .ok (.getfield 12, 3) := by decide +kernel
theorem dX3_isThereWith_12 : decode cX3_isThereWith 12 = .ok (.iload_n 2, 1) := by decide +kernel
theorem dX3_isThereWith_13 : decode cX3_isThereWith 13 = .ok (.putfield 82, 3) := by decide +kernel
theorem dX3_isThereWith_16 : decode cX3_isThereWith 16 = .ok (.aload_n 0, 1) := by decide +kernel
theorem dX3_isThereWith_17 : decode cX3_isThereWith 17 = .ok (.iload_n 3, 1) := by decide +kernel
theorem dX3_isThereWith_18 : decode cX3_isThereWith 18 = .ok (.iload 4, 2) := by decide +kernel
theorem dX3_isThereWith_20 : decode cX3_isThereWith 20 = .ok (.invokevirtual 60, 3) := by decide +kernel
theorem dX3_isThereWith_23 : decode cX3_isThereWith 23 = .ok (.ldc 49, 2) := by decide +kernel
theorem dX3_isThereWith_25 : decode cX3_isThereWith 25 = .ok (.if_icmp .eq 7, 3) := by decide +kernel
theorem dX3_isThereWith_28 : decode cX3_isThereWith 28 = .ok (.iconst 1, 1) := by decide +kernel
theorem dX3_isThereWith_29 : decode cX3_isThereWith 29 = .ok (.goto 4, 3) := by decide +kernel
theorem dX3_isThereWith_32 : decode cX3_isThereWith 32 = .ok (.iconst 0, 1) := by decide +kernel
theorem dX3_isThereWith_33 : decode cX3_isThereWith 33 = .ok (.ireturn, 1) := by decide +kernel
theorem dX3_fewest_0 : decode cX3_fewest 0 = .ok (.aload_n 0, 1) := by decide +kernel
theorem dX3_fewest_1 : decode cX3_fewest 1 = .ok (.aload_n 1, 1) := by decide +kernel
theorem dX3_fewest_2 : decode cX3_fewest 2 = .ok (.iload_n 3, 1) := by decide +kernel
theorem dX3_fewest_3 : decode cX3_fewest 3 = .ok (.invokevirtual 50, 3) := by decide +kernel
theorem dX3_fewest_6 : decode cX3_fewest 6 = .ok (.aload_n 1, 1) := by decide +kernel
theorem dX3_fewest_7 : decode cX3_fewest 7 = .ok (.invokevirtual 85, 3) := by decide +kernel
theorem dX3_fewest_10 : decode cX3_fewest 10 = .ok (.istore 5, 2) := by decide +kernel
theorem dX3_fewest_12 : decode cX3_fewest 12 = .ok (.ldc 49, 2) := by decide +kernel
theorem dX3_fewest_14 : decode cX3_fewest 14 = .ok (.istore 6, 2) := by decide +kernel
theorem dX3_fewest_16 : decode cX3_fewest 16 = .ok (.iconst 0, 1) := by decide +kernel
theorem dX3_fewest_17 : decode cX3_fewest 17 = .ok (.istore 7, 2) := by decide +kernel
theorem dX3_fewest_19 : decode cX3_fewest 19 = .ok (.iload 7, 2) := by decide +kernel
theorem dX3_fewest_21 : decode cX3_fewest 21 = .ok (.iload 5, 2) := by decide +kernel
theorem dX3_fewest_23 : decode cX3_fewest 23 = .ok (.if_icmp .gt 72, 3) := by decide +kernel
theorem dX3_fewest_26 : decode cX3_fewest 26 = .ok (.iload 6, 2) := by decide +kernel
theorem dX3_fewest_28 : decode cX3_fewest 28 = .ok (.ldc 49, 2) := by decide +kernel
theorem dX3_fewest_30 : decode cX3_fewest 30 = .ok (.if_icmp .eq 16, 3) := by decide +kernel
theorem dX3_fewest_33 : decode cX3_fewest 33 = .ok (.iload 7, 2) := by decide +kernel
theorem dX3_fewest_35 : decode cX3_fewest 35 = .ok (.invokestatic 89, 3) := by decide +kernel
theorem dX3_fewest_38 : decode cX3_fewest 38 = .ok (.iload 6, 2) := by decide +kernel
theorem dX3_fewest_40 : decode cX3_fewest 40 = .ok (.invokestatic 89, 3) := by decide +kernel
theorem dX3_fewest_43 : decode cX3_fewest 43 = .ok (.if_icmp .ge 7, 3) := by decide +kernel
theorem dX3_fewest_46 : decode cX3_fewest 46 = .ok (.iconst 1, 1) := by decide +kernel
theorem dX3_fewest_47 : decode cX3_fewest 47 = .ok (.goto 4, 3) := by decide +kernel
theorem dX3_fewest_50 : decode cX3_fewest 50 = .ok (.iconst 0, 1) := by decide +kernel
theorem dX3_fewest_51 : decode cX3_fewest 51 = .ok (.istore 8, 2) := by decide +kernel
theorem dX3_fewest_53 : decode cX3_fewest 53 = .ok (.iload 7, 2) := by decide +kernel
theorem dX3_fewest_55 : decode cX3_fewest 55 = .ok (.aload_n 1, 1) := by decide +kernel
theorem dX3_fewest_56 : decode cX3_fewest 56 = .ok (.getfield 82, 3) := by decide +kernel
theorem dX3_fewest_59 : decode cX3_fewest 59 = .ok (.iand, 1) := by decide +kernel
theorem dX3_fewest_60 : decode cX3_fewest 60 = .ok (.ifCond .ne 29, 3) := by decide +kernel
theorem dX3_fewest_63 : decode cX3_fewest 63 = .ok (.iload 8, 2) := by decide +kernel
theorem dX3_fewest_65 : decode cX3_fewest 65 = .ok (.ifCond .eq 24, 3) := by decide +kernel
theorem dX3_fewest_68 : decode cX3_fewest 68 = .ok (.aload_n 0, 1) := by decide +kernel
theorem dX3_fewest_69 : decode cX3_fewest 69 = .ok (.aload_n 1, 1) := by decide +kernel
theorem dX3_fewest_70 : decode cX3_fewest 70 = .ok (.iload 5, 2) := by decide +kernel
theorem dX3_fewest_72 : decode cX3_fewest 72 = .ok (.iload 7, 2) := by decide +kernel
theorem dX3_fewest_74 : decode cX3_fewest 74 = .ok (.iconst (-1), 1) := by decide +kernel
theorem dX3_fewest_75 : decode cX3_fewest 75 = .ok (.ixor, 1) := by decide +kernel
theorem dX3_fewest_76 : decode cX3_fewest 76 = .ok (.iand, 1) := by decide +kernel
theorem dX3_fewest_77 : decode cX3_fewest 77 = .ok (.iload_n 2, 1) := by decide +kernel
theorem dX3_fewest_78 : decode cX3_fewest 78 = .ok (.iload_n 3, 1) := by decide +kernel
theorem dX3_fewest_79 : decode cX3_fewest 79 = .ok (.invokevirtual 94, 3) := by decide +kernel
theorem dX3_fewest_82 : decode cX3_fewest 82 = .ok (.ifCond .eq 7, 3) := by decide +kernel
theorem dX3_fewest_85 : decode cX3_fewest 85 = .ok (.iload 7, 2) := by decide +kernel
theorem dX3_fewest_87 : decode cX3_fewest 87 = .ok (.istore 6, 2) := by decide +kernel
theorem dX3_fewest_89 : decode cX3_fewest 89 = .ok (.iinc 7 1, 3) := by decide +kernel
theorem dX3_fewest_92 : decode cX3_fewest 92 = .ok (.goto (-73), 3) := by decide +kernel
theorem dX3_fewest_95 : decode cX3_fewest 95 = .ok (.iload 4, 2) := by decide +kernel
theorem dX3_fewest_97 : decode cX3_fewest 97 = .ok (.ifCond .ne 18, 3) := by decide +kernel
theorem dX3_fewest_100 : decode cX3_fewest 100 = .ok (.iload 6, 2) := by decide +kernel
theorem dX3_fewest_102 : decode cX3_fewest 102 = .ok (.ldc 49, 2) := by decide +kernel
theorem dX3_fewest_104 : decode cX3_fewest 104 = .ok (.if_icmp .eq 11, 3) := by decide +kernel
theorem dX3_fewest_107 : decode cX3_fewest 107 = .ok (.iload 6, 2) := by decide +kernel
theorem dX3_fewest_109 : decode cX3_fewest 109 = .ok (.invokestatic 89, 3) := by decide +kernel
theorem dX3_fewest_112 : decode cX3_fewest 112 = .ok (.goto 5, 3) := by decide +kernel
theorem dX3_fewest_115 : decode cX3_fewest 115 = .ok (.iload 6, 2) := by decide +kernel
theorem dX3_fewest_117 : decode cX3_fewest 117 = .ok (.ireturn, 1) := by decide +kernel
theorem dX3_neededFor_0 : decode cX3_neededFor 0 = .ok (.aload_n 0, 1) := by decide +kernel
theorem dX3_neededFor_1 : decode cX3_neededFor 1 = .ok (.aload_n 1, 1) := by decide +kernel
theorem dX3_neededFor_2 : decode cX3_neededFor 2 = .ok (.iload_n 3, 1) := by decide +kernel
theorem dX3_neededFor_3 : decode cX3_neededFor 3 = .ok (.invokevirtual 50, 3) := by decide +kernel
theorem dX3_neededFor_6 : decode cX3_neededFor 6 = .ok (.aload_n 0, 1) := by decide +kernel
theorem dX3_neededFor_7 : decode cX3_neededFor 7 = .ok (.aload_n 1, 1) := by decide +kernel
theorem dX3_neededFor_8 : decode cX3_neededFor 8 = .ok (.aload_n 1, 1) := by decide +kernel
theorem dX3_neededFor_9 : decode cX3_neededFor 9 = .ok (.getfield 82, 3) := by decide +kernel
theorem dX3_neededFor_12 : decode cX3_neededFor 12 = .ok (.iload_n 2, 1) := by decide +kernel
theorem dX3_neededFor_13 : decode cX3_neededFor 13 = .ok (.iload_n 3, 1) := by decide +kernel
theorem dX3_neededFor_14 : decode cX3_neededFor 14 = .ok (.invokevirtual 94, 3) := by decide +kernel
theorem dX3_neededFor_17 : decode cX3_neededFor 17 = .ok (.ifCond .ne 5, 3) := by decide +kernel
theorem dX3_neededFor_20 : decode cX3_neededFor 20 = .ok (.iconst 0, 1) := by decide +kernel
theorem dX3_neededFor_21 : decode cX3_neededFor 21 = .ok (.ireturn, 1) := by decide +kernel
theorem dX3_neededFor_22 : decode cX3_neededFor 22 = .ok (.iconst 0, 1) := by decide +kernel
theorem dX3_neededFor_23 : decode cX3_neededFor 23 = .ok (.istore 4, 2) := by decide +kernel
theorem dX3_neededFor_25 : decode cX3_neededFor 25 = .ok (.iconst 0, 1) := by decide +kernel
theorem dX3_neededFor_26 : decode cX3_neededFor 26 = .ok (.istore 5, 2) := by decide +kernel
theorem dX3_neededFor_28 : decode cX3_neededFor 28 = .ok (.iload 5, 2) := by decide +kernel
theorem dX3_neededFor_30 : decode cX3_neededFor 30 = .ok (.aload_n 1, 1) := by decide +kernel
theorem dX3_neededFor_31 : decode cX3_neededFor 31 = .ok (.getfield 97, 3) := by decide +kernel
theorem dX3_neededFor_34 : decode cX3_neededFor 34 = .ok (.if_icmp .ge 46, 3) := by decide +kernel
theorem dX3_neededFor_37 : decode cX3_neededFor 37 = .ok (.aload_n 1, 1) := by decide +kernel
theorem dX3_neededFor_38 : decode cX3_neededFor 38 = .ok (.iload 5, 2) := by decide +kernel
theorem dX3_neededFor_40 : decode cX3_neededFor 40 = .ok (.invokevirtual 100, 3) := by decide +kernel
theorem dX3_neededFor_43 : decode cX3_neededFor 43 = .ok (.ifCond .ne 31, 3) := by decide +kernel
theorem dX3_neededFor_46 : decode cX3_neededFor 46 = .ok (.aload_n 0, 1) := by decide +kernel
theorem dX3_neededFor_47 : decode cX3_neededFor 47 = .ok (.aload_n 1, 1) := by decide +kernel
theorem dX3_neededFor_48 : decode cX3_neededFor 48 = .ok (.aload_n 1, 1) := by decide +kernel
theorem dX3_neededFor_49 : decode cX3_neededFor 49 = .ok (.getfield 82, 3) := by decide +kernel
theorem dX3_neededFor_52 : decode cX3_neededFor 52 = .ok (.iconst 1, 1) := by decide +kernel
theorem dX3_neededFor_53 : decode cX3_neededFor 53 = .ok (.iload 5, 2) := by decide +kernel
theorem dX3_neededFor_55 : decode cX3_neededFor 55 = .ok (.ishl, 1) := by decide +kernel
theorem dX3_neededFor_56 : decode cX3_neededFor 56 = .ok (.ior, 1) := by decide +kernel
theorem dX3_neededFor_57 : decode cX3_neededFor 57 = .ok (.iload_n 2, 1) := by decide +kernel
theorem dX3_neededFor_58 : decode cX3_neededFor 58 = .ok (.iload_n 3, 1) := by decide +kernel
theorem dX3_neededFor_59 : decode cX3_neededFor 59 = .ok (.invokevirtual 94, 3) := by decide +kernel
theorem dX3_neededFor_62 : decode cX3_neededFor 62 = .ok (.ifCond .ne 12, 3) := by decide +kernel
theorem dX3_neededFor_65 : decode cX3_neededFor 65 = .ok (.iload 4, 2) := by decide +kernel
theorem dX3_neededFor_67 : decode cX3_neededFor 67 = .ok (.iconst 1, 1) := by decide +kernel
theorem dX3_neededFor_68 : decode cX3_neededFor 68 = .ok (.iload 5, 2) := by decide +kernel
theorem dX3_neededFor_70 : decode cX3_neededFor 70 = .ok (.ishl, 1) := by decide +kernel
theorem dX3_neededFor_71 : decode cX3_neededFor 71 = .ok (.ior, 1) := by decide +kernel
theorem dX3_neededFor_72 : decode cX3_neededFor 72 = .ok (.istore 4, 2) := by decide +kernel
theorem dX3_neededFor_74 : decode cX3_neededFor 74 = .ok (.iinc 5 1, 3) := by decide +kernel
theorem dX3_neededFor_77 : decode cX3_neededFor 77 = .ok (.goto (-49), 3) := by decide +kernel
theorem dX3_neededFor_80 : decode cX3_neededFor 80 = .ok (.iload 4, 2) := by decide +kernel
theorem dX3_neededFor_82 : decode cX3_neededFor 82 = .ok (.ireturn, 1) := by decide +kernel
theorem dX3_meeting_0 : decode cX3_meeting 0 = .ok (.iconst 0, 1) := by decide +kernel
theorem dX3_meeting_1 : decode cX3_meeting 1 = .ok (.istore 4, 2) := by decide +kernel
theorem dX3_meeting_3 : decode cX3_meeting 3 = .ok (.iload 4, 2) := by decide +kernel
theorem dX3_meeting_5 : decode cX3_meeting 5 = .ok (.bipush 99, 2) := by decide +kernel
theorem dX3_meeting_7 : decode cX3_meeting 7 = .ok (.if_icmp .gt 29, 3) := by decide +kernel
theorem dX3_meeting_10 : decode cX3_meeting 10 = .ok (.aload_n 1, 1) := by decide +kernel
theorem dX3_meeting_11 : decode cX3_meeting 11 = .ok (.iload_n 2, 1) := by decide +kernel
theorem dX3_meeting_12 : decode cX3_meeting 12 = .ok (.iload 4, 2) := by decide +kernel
theorem dX3_meeting_14 : decode cX3_meeting 14 = .ok (.invokevirtual 103, 3) := by decide +kernel
theorem dX3_meeting_17 : decode cX3_meeting 17 = .ok (.aload_n 1, 1) := by decide +kernel
theorem dX3_meeting_18 : decode cX3_meeting 18 = .ok (.iload_n 3, 1) := by decide +kernel
theorem dX3_meeting_19 : decode cX3_meeting 19 = .ok (.iload 4, 2) := by decide +kernel
theorem dX3_meeting_21 : decode cX3_meeting 21 = .ok (.invokevirtual 103, 3) := by decide +kernel
theorem dX3_meeting_24 : decode cX3_meeting 24 = .ok (.if_icmp .ne 6, 3) := by decide +kernel
theorem dX3_meeting_27 : decode cX3_meeting 27 = .ok (.iload 4, 2) := by decide +kernel
theorem dX3_meeting_29 : decode cX3_meeting 29 = .ok (.ireturn, 1) := by decide +kernel
theorem dX3_meeting_30 : decode cX3_meeting 30 = .ok (.iinc 4 1, 3) := by decide +kernel
theorem dX3_meeting_33 : decode cX3_meeting 33 = .ok (.goto (-30), 3) := by decide +kernel
theorem dX3_meeting_36 : decode cX3_meeting 36 = .ok (.ldc 49, 2) := by decide +kernel
theorem dX3_meeting_38 : decode cX3_meeting 38 = .ok (.ireturn, 1) := by decide +kernel
theorem dX3_answerTo_0 : decode cX3_answerTo 0 = .ok (.aload_n 0, 1) := by decide +kernel
theorem dX3_answerTo_1 : decode cX3_answerTo 1 = .ok (.aload_n 1, 1) := by decide +kernel
theorem dX3_answerTo_2 : decode cX3_answerTo 2 = .ok (.sipush 198, 3) := by decide +kernel
theorem dX3_answerTo_5 : decode cX3_answerTo 5 = .ok (.invokevirtual 50, 3) := by decide +kernel
theorem dX3_answerTo_8 : decode cX3_answerTo 8 = .ok (.aload_n 0, 1) := by decide +kernel
theorem dX3_answerTo_9 : decode cX3_answerTo 9 = .ok (.iload_n 2, 1) := by decide +kernel
theorem dX3_answerTo_10 : decode cX3_answerTo 10 = .ok (.bipush 99, 2) := by decide +kernel
theorem dX3_answerTo_12 : decode cX3_answerTo 12 = .ok (.invokevirtual 60, 3) := by decide +kernel
theorem dX3_answerTo_15 : decode cX3_answerTo 15 = .ok (.istore_n 3, 1) := by decide +kernel
theorem dX3_answerTo_16 : decode cX3_answerTo 16 = .ok (.iload_n 3, 1) := by decide +kernel
theorem dX3_answerTo_17 : decode cX3_answerTo 17 = .ok (.ldc 49, 2) := by decide +kernel
theorem dX3_answerTo_19 : decode cX3_answerTo 19 = .ok (.if_icmp .ne 6, 3) := by decide +kernel
theorem dX3_answerTo_22 : decode cX3_answerTo 22 = .ok (.ldc 49, 2) := by decide +kernel
theorem dX3_answerTo_24 : decode cX3_answerTo 24 = .ok (.ireturn, 1) := by decide +kernel
theorem dX3_answerTo_25 : decode cX3_answerTo 25 = .ok (.aload_n 0, 1) := by decide +kernel
theorem dX3_answerTo_26 : decode cX3_answerTo 26 = .ok (.getfield 12, 3) := by decide +kernel
theorem dX3_answerTo_29 : decode cX3_answerTo 29 = .ok (.iconst 3, 1) := by decide +kernel
theorem dX3_answerTo_30 : decode cX3_answerTo 30 = .ok (.aload_n 1, 1) := by decide +kernel
theorem dX3_answerTo_31 : decode cX3_answerTo 31 = .ok (.getfield 106, 3) := by decide +kernel
theorem dX3_answerTo_34 : decode cX3_answerTo 34 = .ok (.iload_n 2, 1) := by decide +kernel
theorem dX3_answerTo_35 : decode cX3_answerTo 35 = .ok (.iaload, 1) := by decide +kernel
theorem dX3_answerTo_36 : decode cX3_answerTo 36 = .ok (.aload_n 1, 1) := by decide +kernel
theorem dX3_answerTo_37 : decode cX3_answerTo 37 = .ok (.getfield 57, 3) := by decide +kernel
theorem dX3_answerTo_40 : decode cX3_answerTo 40 = .ok (.iload_n 2, 1) := by decide +kernel
theorem dX3_answerTo_41 : decode cX3_answerTo 41 = .ok (.iaload, 1) := by decide +kernel
theorem dX3_answerTo_42 : decode cX3_answerTo 42 = .ok (.invokevirtual 71, 3) := by decide +kernel
theorem dX3_answerTo_45 : decode cX3_answerTo 45 = .ok (.aload_n 0, 1) := by decide +kernel
theorem dX3_answerTo_46 : decode cX3_answerTo 46 = .ok (.iconst 3, 1) := by decide +kernel
theorem dX3_answerTo_47 : decode cX3_answerTo 47 = .ok (.bipush 99, 2) := by decide +kernel
theorem dX3_answerTo_49 : decode cX3_answerTo 49 = .ok (.invokevirtual 60, 3) := by decide +kernel
theorem dX3_answerTo_52 : decode cX3_answerTo 52 = .ok (.istore 4, 2) := by decide +kernel
theorem dX3_answerTo_54 : decode cX3_answerTo 54 = .ok (.iload 4, 2) := by decide +kernel
theorem dX3_answerTo_56 : decode cX3_answerTo 56 = .ok (.ldc 49, 2) := by decide +kernel
theorem dX3_answerTo_58 : decode cX3_answerTo 58 = .ok (.if_icmp .ne 8, 3) := by decide +kernel
theorem dX3_answerTo_61 : decode cX3_answerTo 61 = .ok (.ldc 49, 2) := by decide +kernel
theorem dX3_answerTo_63 : decode cX3_answerTo 63 = .ok (.goto 7, 3) := by decide +kernel
theorem dX3_answerTo_66 : decode cX3_answerTo 66 = .ok (.iload_n 3, 1) := by decide +kernel
theorem dX3_answerTo_67 : decode cX3_answerTo 67 = .ok (.iload 4, 2) := by decide +kernel
theorem dX3_answerTo_69 : decode cX3_answerTo 69 = .ok (.iadd, 1) := by decide +kernel
theorem dX3_answerTo_70 : decode cX3_answerTo 70 = .ok (.ireturn, 1) := by decide +kernel
theorem dX3_hear_0 : decode cX3_hear 0 = .ok (.aload_n 0, 1) := by decide +kernel
theorem dX3_hear_1 : decode cX3_hear 1 = .ok (.iload 4, 2) := by decide +kernel
theorem dX3_hear_3 : decode cX3_hear 3 = .ok (.bipush 12, 2) := by decide +kernel
theorem dX3_hear_5 : decode cX3_hear 5 = .ok (.invokestatic 109, 3) := by decide +kernel
theorem dX3_hear_8 : decode cX3_hear 8 = .ok (.putfield 114, 3) := by decide +kernel
theorem dX3_hear_11 : decode cX3_hear 11 = .ok (.iconst 0, 1) := by decide +kernel
theorem dX3_hear_12 : decode cX3_hear 12 = .ok (.istore 5, 2) := by decide +kernel
theorem dX3_hear_14 : decode cX3_hear 14 = .ok (.iload 5, 2) := by decide +kernel
theorem dX3_hear_16 : decode cX3_hear 16 = .ok (.aload_n 0, 1) := by decide +kernel
theorem dX3_hear_17 : decode cX3_hear 17 = .ok (.getfield 114, 3) := by decide +kernel
theorem dX3_hear_20 : decode cX3_hear 20 = .ok (.if_icmp .ge 25, 3) := by decide +kernel
theorem dX3_hear_23 : decode cX3_hear 23 = .ok (.aload_n 0, 1) := by decide +kernel
theorem dX3_hear_24 : decode cX3_hear 24 = .ok (.getfield 25, 3) := by decide +kernel
theorem dX3_hear_27 : decode cX3_hear 27 = .ok (.iload 5, 2) := by decide +kernel
theorem dX3_hear_29 : decode cX3_hear 29 = .ok (.aload_n 1, 1) := by decide +kernel
theorem dX3_hear_30 : decode cX3_hear 30 = .ok (.iload_n 2, 1) := by decide +kernel
theorem dX3_hear_31 : decode cX3_hear 31 = .ok (.iload_n 3, 1) := by decide +kernel
theorem dX3_hear_32 : decode cX3_hear 32 = .ok (.iload 5, 2) := by decide +kernel
theorem dX3_hear_34 : decode cX3_hear 34 = .ok (.iadd, 1) := by decide +kernel
theorem dX3_hear_35 : decode cX3_hear 35 = .ok (.invokevirtual 117, 3) := by decide +kernel
theorem dX3_hear_38 : decode cX3_hear 38 = .ok (.iastore, 1) := by decide +kernel
theorem dX3_hear_39 : decode cX3_hear 39 = .ok (.iinc 5 1, 3) := by decide +kernel
theorem dX3_hear_42 : decode cX3_hear 42 = .ok (.goto (-28), 3) := by decide +kernel
theorem dX3_hear_45 : decode cX3_hear 45 = .ok (.return_, 1) := by decide +kernel
theorem dX3_fits_0 : decode cX3_fits 0 = .ok (.iconst 0, 1) := by decide +kernel
theorem dX3_fits_1 : decode cX3_fits 1 = .ok (.istore_n 2, 1) := by decide +kernel
theorem dX3_fits_2 : decode cX3_fits 2 = .ok (.iload_n 2, 1) := by decide +kernel
theorem dX3_fits_3 : decode cX3_fits 3 = .ok (.aload_n 0, 1) := by decide +kernel
theorem dX3_fits_4 : decode cX3_fits 4 = .ok (.getfield 114, 3) := by decide +kernel
theorem dX3_fits_7 : decode cX3_fits 7 = .ok (.if_icmp .ge 40, 3) := by decide +kernel
theorem dX3_fits_10 : decode cX3_fits 10 = .ok (.aload_n 0, 1) := by decide +kernel
theorem dX3_fits_11 : decode cX3_fits 11 = .ok (.getfield 28, 3) := by decide +kernel
theorem dX3_fits_14 : decode cX3_fits 14 = .ok (.aload_n 0, 1) := by decide +kernel
theorem dX3_fits_15 : decode cX3_fits 15 = .ok (.getfield 12, 3) := by decide +kernel
theorem dX3_fits_18 : decode cX3_fits 18 = .ok (.invokevirtual 46, 3) := by decide +kernel
theorem dX3_fits_21 : decode cX3_fits 21 = .ok (.aload_n 0, 1) := by decide +kernel
theorem dX3_fits_22 : decode cX3_fits 22 = .ok (.getfield 12, 3) := by decide +kernel
theorem dX3_fits_25 : decode cX3_fits 25 = .ok (.getfield 57, 3) := by decide +kernel
theorem dX3_fits_28 : decode cX3_fits 28 = .ok (.iload_n 1, 1) := by decide +kernel
theorem dX3_fits_29 : decode cX3_fits 29 = .ok (.iaload, 1) := by decide +kernel
theorem dX3_fits_30 : decode cX3_fits 30 = .ok (.aload_n 0, 1) := by decide +kernel
theorem dX3_fits_31 : decode cX3_fits 31 = .ok (.getfield 25, 3) := by decide +kernel
theorem dX3_fits_34 : decode cX3_fits 34 = .ok (.iload_n 2, 1) := by decide +kernel
theorem dX3_fits_35 : decode cX3_fits 35 = .ok (.iaload, 1) := by decide +kernel
theorem dX3_fits_36 : decode cX3_fits 36 = .ok (.if_icmp .eq 5, 3) := by decide +kernel
theorem dX3_fits_39 : decode cX3_fits 39 = .ok (.iconst 0, 1) := by decide +kernel
theorem dX3_fits_40 : decode cX3_fits 40 = .ok (.ireturn, 1) := by decide +kernel
theorem dX3_fits_41 : decode cX3_fits 41 = .ok (.iinc 2 1, 3) := by decide +kernel
theorem dX3_fits_44 : decode cX3_fits 44 = .ok (.goto (-42), 3) := by decide +kernel
theorem dX3_fits_47 : decode cX3_fits 47 = .ok (.iconst 1, 1) := by decide +kernel
theorem dX3_fits_48 : decode cX3_fits 48 = .ok (.ireturn, 1) := by decide +kernel
theorem dX3_kindsThatFit_0 : decode cX3_kindsThatFit 0 = .ok (.iconst 0, 1) := by decide +kernel
theorem dX3_kindsThatFit_1 : decode cX3_kindsThatFit 1 = .ok (.istore 4, 2) := by decide +kernel
theorem dX3_kindsThatFit_3 : decode cX3_kindsThatFit 3 = .ok (.aload_n 0, 1) := by decide +kernel
theorem dX3_kindsThatFit_4 : decode cX3_kindsThatFit 4 = .ok (.getfield 12, 3) := by decide +kernel
theorem dX3_kindsThatFit_7 : decode cX3_kindsThatFit 7 = .ok (.aload_n 1, 1) := by decide +kernel
theorem dX3_kindsThatFit_8 : decode cX3_kindsThatFit 8 = .ok (.invokevirtual 32, 3) := by decide +kernel
theorem dX3_kindsThatFit_11 : decode cX3_kindsThatFit 11 = .ok (.iconst 1, 1) := by decide +kernel
theorem dX3_kindsThatFit_12 : decode cX3_kindsThatFit 12 = .ok (.istore 5, 2) := by decide +kernel
theorem dX3_kindsThatFit_14 : decode cX3_kindsThatFit 14 = .ok (.iload 5, 2) := by decide +kernel
theorem dX3_kindsThatFit_16 : decode cX3_kindsThatFit 16 = .ok (.iconst 5, 1) := by decide +kernel
theorem dX3_kindsThatFit_17 : decode cX3_kindsThatFit 17 = .ok (.if_icmp .gt 64, 3) := by decide +kernel
theorem dX3_kindsThatFit_20 : decode cX3_kindsThatFit 20 = .ok (.aload_n 0, 1) := by decide +kernel
theorem dX3_kindsThatFit_21 : decode cX3_kindsThatFit 21 = .ok (.getfield 12, 3) := by decide +kernel
theorem dX3_kindsThatFit_24 : decode cX3_kindsThatFit 24 = .ok (.aload_n 1, 1) := by decide +kernel
theorem dX3_kindsThatFit_25 : decode cX3_kindsThatFit 25 = .ok (.invokevirtual 68, 3) := by decide +kernel
theorem dX3_kindsThatFit_28 : decode cX3_kindsThatFit 28 = .ok (.aload_n 0, 1) := by decide +kernel
theorem dX3_kindsThatFit_29 : decode cX3_kindsThatFit 29 = .ok (.getfield 12, 3) := by decide +kernel
theorem dX3_kindsThatFit_32 : decode cX3_kindsThatFit 32 = .ok (.getfield 122, 3) := by decide +kernel
theorem dX3_kindsThatFit_35 : decode cX3_kindsThatFit 35 = .ok (.iload_n 2, 1) := by decide +kernel
theorem dX3_kindsThatFit_36 : decode cX3_kindsThatFit 36 = .ok (.iload 5, 2) := by decide +kernel
theorem dX3_kindsThatFit_38 : decode cX3_kindsThatFit 38 = .ok (.iastore, 1) := by decide +kernel
theorem dX3_kindsThatFit_39 : decode cX3_kindsThatFit 39 = .ok (.aload_n 0, 1) := by decide +kernel
theorem dX3_kindsThatFit_40 : decode cX3_kindsThatFit 40 = .ok (.getfield 28, 3) := by decide +kernel
theorem dX3_kindsThatFit_43 : decode cX3_kindsThatFit 43 = .ok (.aload_n 0, 1) := by decide +kernel
theorem dX3_kindsThatFit_44 : decode cX3_kindsThatFit 44 = .ok (.getfield 12, 3) := by decide +kernel
theorem dX3_kindsThatFit_47 : decode cX3_kindsThatFit 47 = .ok (.aload_n 0, 1) := by decide +kernel
theorem dX3_kindsThatFit_48 : decode cX3_kindsThatFit 48 = .ok (.getfield 114, 3) := by decide +kernel
theorem dX3_kindsThatFit_51 : decode cX3_kindsThatFit 51 = .ok (.invokevirtual 36, 3) := by decide +kernel
theorem dX3_kindsThatFit_54 : decode cX3_kindsThatFit 54 = .ok (.iload 4, 2) := by decide +kernel
theorem dX3_kindsThatFit_56 : decode cX3_kindsThatFit 56 = .ok (.aload_n 0, 1) := by decide +kernel
theorem dX3_kindsThatFit_57 : decode cX3_kindsThatFit 57 = .ok (.iload_n 3, 1) := by decide +kernel
theorem dX3_kindsThatFit_58 : decode cX3_kindsThatFit 58 = .ok (.invokevirtual 125, 3) := by decide +kernel
theorem dX3_kindsThatFit_61 : decode cX3_kindsThatFit 61 = .ok (.ifCond .eq 10, 3) := by decide +kernel
theorem dX3_kindsThatFit_64 : decode cX3_kindsThatFit 64 = .ok (.iconst 1, 1) := by decide +kernel
theorem dX3_kindsThatFit_65 : decode cX3_kindsThatFit 65 = .ok (.iload 5, 2) := by decide +kernel
theorem dX3_kindsThatFit_67 : decode cX3_kindsThatFit 67 = .ok (.ishl, 1) := by decide +kernel
theorem dX3_kindsThatFit_68 : decode cX3_kindsThatFit 68 = .ok (.goto 4, 3) := by decide +kernel
theorem dX3_kindsThatFit_71 : decode cX3_kindsThatFit 71 = .ok (.iconst 0, 1) := by decide +kernel
theorem dX3_kindsThatFit_72 : decode cX3_kindsThatFit 72 = .ok (.ior, 1) := by decide +kernel
theorem dX3_kindsThatFit_73 : decode cX3_kindsThatFit 73 = .ok (.istore 4, 2) := by decide +kernel
theorem dX3_kindsThatFit_75 : decode cX3_kindsThatFit 75 = .ok (.iinc 5 1, 3) := by decide +kernel
theorem dX3_kindsThatFit_78 : decode cX3_kindsThatFit 78 = .ok (.goto (-64), 3) := by decide +kernel
theorem dX3_kindsThatFit_81 : decode cX3_kindsThatFit 81 = .ok (.iload 4, 2) := by decide +kernel
theorem dX3_kindsThatFit_83 : decode cX3_kindsThatFit 83 = .ok (.ireturn, 1) := by decide +kernel
theorem dX3_beginsThatFit_0 : decode cX3_beginsThatFit 0 = .ok (.iconst 0, 1) := by decide +kernel
theorem dX3_beginsThatFit_1 : decode cX3_beginsThatFit 1 = .ok (.istore 4, 2) := by decide +kernel
theorem dX3_beginsThatFit_3 : decode cX3_beginsThatFit 3 = .ok (.aload_n 0, 1) := by decide +kernel
theorem dX3_beginsThatFit_4 : decode cX3_beginsThatFit 4 = .ok (.getfield 12, 3) := by decide +kernel
theorem dX3_beginsThatFit_7 : decode cX3_beginsThatFit 7 = .ok (.aload_n 1, 1) := by decide +kernel
theorem dX3_beginsThatFit_8 : decode cX3_beginsThatFit 8 = .ok (.invokevirtual 32, 3) := by decide +kernel
theorem dX3_beginsThatFit_11 : decode cX3_beginsThatFit 11 = .ok (.iconst 0, 1) := by decide +kernel
theorem dX3_beginsThatFit_12 : decode cX3_beginsThatFit 12 = .ok (.istore 5, 2) := by decide +kernel
theorem dX3_beginsThatFit_14 : decode cX3_beginsThatFit 14 = .ok (.iload 5, 2) := by decide +kernel
theorem dX3_beginsThatFit_16 : decode cX3_beginsThatFit 16 = .ok (.bipush 23, 2) := by decide +kernel
theorem dX3_beginsThatFit_18 : decode cX3_beginsThatFit 18 = .ok (.if_icmp .gt 64, 3) := by decide +kernel
theorem dX3_beginsThatFit_21 : decode cX3_beginsThatFit 21 = .ok (.aload_n 0, 1) := by decide +kernel
theorem dX3_beginsThatFit_22 : decode cX3_beginsThatFit 22 = .ok (.getfield 12, 3) := by decide +kernel
theorem dX3_beginsThatFit_25 : decode cX3_beginsThatFit 25 = .ok (.aload_n 1, 1) := by decide +kernel
theorem dX3_beginsThatFit_26 : decode cX3_beginsThatFit 26 = .ok (.invokevirtual 68, 3) := by decide +kernel
theorem dX3_beginsThatFit_29 : decode cX3_beginsThatFit 29 = .ok (.aload_n 0, 1) := by decide +kernel
theorem dX3_beginsThatFit_30 : decode cX3_beginsThatFit 30 = .ok (.getfield 12, 3) := by decide +kernel
theorem dX3_beginsThatFit_33 : decode cX3_beginsThatFit 33 = .ok (.getfield 128, 3) := by decide +kernel
theorem dX3_beginsThatFit_36 : decode cX3_beginsThatFit 36 = .ok (.iload_n 2, 1) := by decide +kernel
theorem dX3_beginsThatFit_37 : decode cX3_beginsThatFit 37 = .ok (.iload 5, 2) := by decide +kernel
theorem dX3_beginsThatFit_39 : decode cX3_beginsThatFit 39 = .ok (.iastore, 1) := by decide +kernel
theorem dX3_beginsThatFit_40 : decode cX3_beginsThatFit 40 = .ok (.aload_n 0, 1) := by decide +kernel
theorem dX3_beginsThatFit_41 : decode cX3_beginsThatFit 41 = .ok (.getfield 28, 3) := by decide +kernel
theorem dX3_beginsThatFit_44 : decode cX3_beginsThatFit 44 = .ok (.aload_n 0, 1) := by decide +kernel
theorem dX3_beginsThatFit_45 : decode cX3_beginsThatFit 45 = .ok (.getfield 12, 3) := by decide +kernel
theorem dX3_beginsThatFit_48 : decode cX3_beginsThatFit 48 = .ok (.aload_n 0, 1) := by decide +kernel
theorem dX3_beginsThatFit_49 : decode cX3_beginsThatFit 49 = .ok (.getfield 114, 3) := by decide +kernel
theorem dX3_beginsThatFit_52 : decode cX3_beginsThatFit 52 = .ok (.invokevirtual 36, 3) := by decide +kernel
theorem dX3_beginsThatFit_55 : decode cX3_beginsThatFit 55 = .ok (.iload 4, 2) := by decide +kernel
theorem dX3_beginsThatFit_57 : decode cX3_beginsThatFit 57 = .ok (.aload_n 0, 1) := by decide +kernel
theorem dX3_beginsThatFit_58 : decode cX3_beginsThatFit 58 = .ok (.iload_n 3, 1) := by decide +kernel
theorem dX3_beginsThatFit_59 : decode cX3_beginsThatFit 59 = .ok (.invokevirtual 125, 3) := by decide +kernel
theorem dX3_beginsThatFit_62 : decode cX3_beginsThatFit 62 = .ok (.ifCond .eq 10, 3) := by decide +kernel
theorem dX3_beginsThatFit_65 : decode cX3_beginsThatFit 65 = .ok (.iconst 1, 1) := by decide +kernel
theorem dX3_beginsThatFit_66 : decode cX3_beginsThatFit 66 = .ok (.iload 5, 2) := by decide +kernel
theorem dX3_beginsThatFit_68 : decode cX3_beginsThatFit 68 = .ok (.ishl, 1) := by decide +kernel
theorem dX3_beginsThatFit_69 : decode cX3_beginsThatFit 69 = .ok (.goto 4, 3) := by decide +kernel
theorem dX3_beginsThatFit_72 : decode cX3_beginsThatFit 72 = .ok (.iconst 0, 1) := by decide +kernel
theorem dX3_beginsThatFit_73 : decode cX3_beginsThatFit 73 = .ok (.ior, 1) := by decide +kernel
theorem dX3_beginsThatFit_74 : decode cX3_beginsThatFit 74 = .ok (.istore 4, 2) := by decide +kernel
theorem dX3_beginsThatFit_76 : decode cX3_beginsThatFit 76 = .ok (.iinc 5 1, 3) := by decide +kernel
theorem dX3_beginsThatFit_79 : decode cX3_beginsThatFit 79 = .ok (.goto (-65), 3) := by decide +kernel
theorem dX3_beginsThatFit_82 : decode cX3_beginsThatFit 82 = .ok (.iload 4, 2) := by decide +kernel
theorem dX3_beginsThatFit_84 : decode cX3_beginsThatFit 84 = .ok (.ireturn, 1) := by decide +kernel
theorem dX3_absentThatFit_0 : decode cX3_absentThatFit 0 = .ok (.aload_n 0, 1) := by decide +kernel
theorem dX3_absentThatFit_1 : decode cX3_absentThatFit 1 = .ok (.aload_n 1, 1) := by decide +kernel
theorem dX3_absentThatFit_2 : decode cX3_absentThatFit 2 = .ok (.aload_n 0, 1) := by decide +kernel
theorem dX3_absentThatFit_3 : decode cX3_absentThatFit 3 = .ok (.getfield 114, 3) := by decide +kernel
theorem dX3_absentThatFit_6 : decode cX3_absentThatFit 6 = .ok (.invokevirtual 50, 3) := by decide +kernel
theorem dX3_absentThatFit_9 : decode cX3_absentThatFit 9 = .ok (.aload_n 0, 1) := by decide +kernel
theorem dX3_absentThatFit_10 : decode cX3_absentThatFit 10 = .ok (.iload_n 2, 1) := by decide +kernel
theorem dX3_absentThatFit_11 : decode cX3_absentThatFit 11 = .ok (.invokevirtual 125, 3) := by decide +kernel
theorem dX3_absentThatFit_14 : decode cX3_absentThatFit 14 = .ok (.ifCond .eq 8, 3) := by decide +kernel
theorem dX3_absentThatFit_17 : decode cX3_absentThatFit 17 = .ok (.bipush 64, 2) := by decide +kernel
theorem dX3_absentThatFit_19 : decode cX3_absentThatFit 19 = .ok (.goto 4, 3) := by decide +kernel
theorem dX3_absentThatFit_22 : decode cX3_absentThatFit 22 = .ok (.iconst 0, 1) := by decide +kernel
theorem dX3_absentThatFit_23 : decode cX3_absentThatFit 23 = .ok (.istore_n 3, 1) := by decide +kernel
theorem dX3_absentThatFit_24 : decode cX3_absentThatFit 24 = .ok (.iconst 0, 1) := by decide +kernel
theorem dX3_absentThatFit_25 : decode cX3_absentThatFit 25 = .ok (.istore 4, 2) := by decide +kernel
theorem dX3_absentThatFit_27 : decode cX3_absentThatFit 27 = .ok (.iload 4, 2) := by decide +kernel
theorem dX3_absentThatFit_29 : decode cX3_absentThatFit 29 = .ok (.aload_n 1, 1) := by decide +kernel
theorem dX3_absentThatFit_30 : decode cX3_absentThatFit 30 = .ok (.getfield 97, 3) := by decide +kernel
theorem dX3_absentThatFit_33 : decode cX3_absentThatFit 33 = .ok (.if_icmp .ge 57, 3) := by decide +kernel
theorem dX3_absentThatFit_36 : decode cX3_absentThatFit 36 = .ok (.aload_n 0, 1) := by decide +kernel
theorem dX3_absentThatFit_37 : decode cX3_absentThatFit 37 = .ok (.getfield 12, 3) := by decide +kernel
theorem dX3_absentThatFit_40 : decode cX3_absentThatFit 40 = .ok (.aload_n 1, 1) := by decide +kernel
theorem dX3_absentThatFit_41 : decode cX3_absentThatFit 41 = .ok (.invokevirtual 68, 3) := by decide +kernel
theorem dX3_absentThatFit_44 : decode cX3_absentThatFit 44 = .ok (.aload_n 0, 1) := by decide +kernel
theorem dX3_absentThatFit_45 : decode cX3_absentThatFit 45 = .ok (.getfield 12, 3) := by decide +kernel
theorem dX3_absentThatFit_48 : decode cX3_absentThatFit 48 = .ok (.aload_n 1, 1) := by decide +kernel
theorem dX3_absentThatFit_49 : decode cX3_absentThatFit 49 = .ok (.getfield 82, 3) := by decide +kernel
theorem dX3_absentThatFit_52 : decode cX3_absentThatFit 52 = .ok (.iconst 1, 1) := by decide +kernel
theorem dX3_absentThatFit_53 : decode cX3_absentThatFit 53 = .ok (.iload 4, 2) := by decide +kernel
theorem dX3_absentThatFit_55 : decode cX3_absentThatFit 55 = .ok (.ishl, 1) := by decide +kernel
theorem dX3_absentThatFit_56 : decode cX3_absentThatFit 56 = .ok (.ior, 1) := by decide +kernel
theorem dX3_absentThatFit_57 : decode cX3_absentThatFit 57 = .ok (.putfield 82, 3) := by decide +kernel
theorem dX3_absentThatFit_60 : decode cX3_absentThatFit 60 = .ok (.aload_n 1, 1) := by decide +kernel
theorem dX3_absentThatFit_61 : decode cX3_absentThatFit 61 = .ok (.iload 4, 2) := by decide +kernel
theorem dX3_absentThatFit_63 : decode cX3_absentThatFit 63 = .ok (.invokevirtual 100, 3) := by decide +kernel
theorem dX3_absentThatFit_66 : decode cX3_absentThatFit 66 = .ok (.ifCond .ne 18, 3) := by decide +kernel
theorem dX3_absentThatFit_69 : decode cX3_absentThatFit 69 = .ok (.aload_n 0, 1) := by decide +kernel
theorem dX3_absentThatFit_70 : decode cX3_absentThatFit 70 = .ok (.iload_n 2, 1) := by decide +kernel
theorem dX3_absentThatFit_71 : decode cX3_absentThatFit 71 = .ok (.invokevirtual 125, 3) := by decide +kernel
theorem dX3_absentThatFit_74 : decode cX3_absentThatFit 74 = .ok (.ifCond .eq 10, 3) := by decide +kernel
theorem dX3_absentThatFit_77 : decode cX3_absentThatFit 77 = .ok (.iload_n 3, 1) := by decide +kernel
theorem dX3_absentThatFit_78 : decode cX3_absentThatFit 78 = .ok (.iconst 1, 1) := by decide +kernel
theorem dX3_absentThatFit_79 : decode cX3_absentThatFit 79 = .ok (.iload 4, 2) := by decide +kernel
theorem dX3_absentThatFit_81 : decode cX3_absentThatFit 81 = .ok (.ishl, 1) := by decide +kernel
theorem dX3_absentThatFit_82 : decode cX3_absentThatFit 82 = .ok (.ior, 1) := by decide +kernel
theorem dX3_absentThatFit_83 : decode cX3_absentThatFit 83 = .ok (.istore_n 3, 1) := by decide +kernel
theorem dX3_absentThatFit_84 : decode cX3_absentThatFit 84 = .ok (.iinc 4 1, 3) := by decide +kernel
theorem dX3_absentThatFit_87 : decode cX3_absentThatFit 87 = .ok (.goto (-60), 3) := by decide +kernel
theorem dX3_absentThatFit_90 : decode cX3_absentThatFit 90 = .ok (.iload_n 3, 1) := by decide +kernel
theorem dX3_absentThatFit_91 : decode cX3_absentThatFit 91 = .ok (.ireturn, 1) := by decide +kernel
theorem dX3_goalsThatFit_0 : decode cX3_goalsThatFit 0 = .ok (.aload_n 0, 1) := by decide +kernel
theorem dX3_goalsThatFit_1 : decode cX3_goalsThatFit 1 = .ok (.aload_n 1, 1) := by decide +kernel
theorem dX3_goalsThatFit_2 : decode cX3_goalsThatFit 2 = .ok (.aload_n 0, 1) := by decide +kernel
theorem dX3_goalsThatFit_3 : decode cX3_goalsThatFit 3 = .ok (.getfield 114, 3) := by decide +kernel
theorem dX3_goalsThatFit_6 : decode cX3_goalsThatFit 6 = .ok (.invokevirtual 50, 3) := by decide +kernel
theorem dX3_goalsThatFit_9 : decode cX3_goalsThatFit 9 = .ok (.iconst 0, 1) := by decide +kernel
theorem dX3_goalsThatFit_10 : decode cX3_goalsThatFit 10 = .ok (.istore_n 3, 1) := by decide +kernel
theorem dX3_goalsThatFit_11 : decode cX3_goalsThatFit 11 = .ok (.iconst 0, 1) := by decide +kernel
theorem dX3_goalsThatFit_12 : decode cX3_goalsThatFit 12 = .ok (.istore 4, 2) := by decide +kernel
theorem dX3_goalsThatFit_14 : decode cX3_goalsThatFit 14 = .ok (.iload 4, 2) := by decide +kernel
theorem dX3_goalsThatFit_16 : decode cX3_goalsThatFit 16 = .ok (.aload_n 1, 1) := by decide +kernel
theorem dX3_goalsThatFit_17 : decode cX3_goalsThatFit 17 = .ok (.getfield 75, 3) := by decide +kernel
theorem dX3_goalsThatFit_20 : decode cX3_goalsThatFit 20 = .ok (.if_icmp .ge 47, 3) := by decide +kernel
theorem dX3_goalsThatFit_23 : decode cX3_goalsThatFit 23 = .ok (.aload_n 0, 1) := by decide +kernel
theorem dX3_goalsThatFit_24 : decode cX3_goalsThatFit 24 = .ok (.getfield 12, 3) := by decide +kernel
theorem dX3_goalsThatFit_27 : decode cX3_goalsThatFit 27 = .ok (.aload_n 1, 1) := by decide +kernel
theorem dX3_goalsThatFit_28 : decode cX3_goalsThatFit 28 = .ok (.invokevirtual 68, 3) := by decide +kernel
theorem dX3_goalsThatFit_31 : decode cX3_goalsThatFit 31 = .ok (.aload_n 0, 1) := by decide +kernel
theorem dX3_goalsThatFit_32 : decode cX3_goalsThatFit 32 = .ok (.getfield 12, 3) := by decide +kernel
theorem dX3_goalsThatFit_35 : decode cX3_goalsThatFit 35 = .ok (.getfield 106, 3) := by decide +kernel
theorem dX3_goalsThatFit_38 : decode cX3_goalsThatFit 38 = .ok (.iload_n 2, 1) := by decide +kernel
theorem dX3_goalsThatFit_39 : decode cX3_goalsThatFit 39 = .ok (.iload 4, 2) := by decide +kernel
theorem dX3_goalsThatFit_41 : decode cX3_goalsThatFit 41 = .ok (.iastore, 1) := by decide +kernel
theorem dX3_goalsThatFit_42 : decode cX3_goalsThatFit 42 = .ok (.iload_n 3, 1) := by decide +kernel
theorem dX3_goalsThatFit_43 : decode cX3_goalsThatFit 43 = .ok (.aload_n 0, 1) := by decide +kernel
theorem dX3_goalsThatFit_44 : decode cX3_goalsThatFit 44 = .ok (.iload_n 2, 1) := by decide +kernel
theorem dX3_goalsThatFit_45 : decode cX3_goalsThatFit 45 = .ok (.invokevirtual 125, 3) := by decide +kernel
theorem dX3_goalsThatFit_48 : decode cX3_goalsThatFit 48 = .ok (.ifCond .eq 10, 3) := by decide +kernel
theorem dX3_goalsThatFit_51 : decode cX3_goalsThatFit 51 = .ok (.iconst 1, 1) := by decide +kernel
theorem dX3_goalsThatFit_52 : decode cX3_goalsThatFit 52 = .ok (.iload 4, 2) := by decide +kernel
theorem dX3_goalsThatFit_54 : decode cX3_goalsThatFit 54 = .ok (.ishl, 1) := by decide +kernel
theorem dX3_goalsThatFit_55 : decode cX3_goalsThatFit 55 = .ok (.goto 4, 3) := by decide +kernel
theorem dX3_goalsThatFit_58 : decode cX3_goalsThatFit 58 = .ok (.iconst 0, 1) := by decide +kernel
theorem dX3_goalsThatFit_59 : decode cX3_goalsThatFit 59 = .ok (.ior, 1) := by decide +kernel
theorem dX3_goalsThatFit_60 : decode cX3_goalsThatFit 60 = .ok (.istore_n 3, 1) := by decide +kernel
theorem dX3_goalsThatFit_61 : decode cX3_goalsThatFit 61 = .ok (.iinc 4 1, 3) := by decide +kernel
theorem dX3_goalsThatFit_64 : decode cX3_goalsThatFit 64 = .ok (.goto (-50), 3) := by decide +kernel
theorem dX3_goalsThatFit_67 : decode cX3_goalsThatFit 67 = .ok (.iload_n 3, 1) := by decide +kernel
theorem dX3_goalsThatFit_68 : decode cX3_goalsThatFit 68 = .ok (.ireturn, 1) := by decide +kernel
theorem dX3_busiest_0 : decode cX3_busiest 0 = .ok (.aload_n 0, 1) := by decide +kernel
theorem dX3_busiest_1 : decode cX3_busiest 1 = .ok (.aload_n 1, 1) := by decide +kernel
theorem dX3_busiest_2 : decode cX3_busiest 2 = .ok (.iload_n 2, 1) := by decide +kernel
theorem dX3_busiest_3 : decode cX3_busiest 3 = .ok (.invokevirtual 50, 3) := by decide +kernel
theorem dX3_busiest_6 : decode cX3_busiest 6 = .ok (.iconst 0, 1) := by decide +kernel
theorem dX3_busiest_7 : decode cX3_busiest 7 = .ok (.istore 4, 2) := by decide +kernel
theorem dX3_busiest_9 : decode cX3_busiest 9 = .ok (.iload 4, 2) := by decide +kernel
theorem dX3_busiest_11 : decode cX3_busiest 11 = .ok (.bipush 6, 2) := by decide +kernel
theorem dX3_busiest_13 : decode cX3_busiest 13 = .ok (.if_icmp .ge 17, 3) := by decide +kernel
theorem dX3_busiest_16 : decode cX3_busiest 16 = .ok (.aload_n 0, 1) := by decide +kernel
theorem dX3_busiest_17 : decode cX3_busiest 17 = .ok (.getfield 21, 3) := by decide +kernel
theorem dX3_busiest_20 : decode cX3_busiest 20 = .ok (.iload 4, 2) := by decide +kernel
theorem dX3_busiest_22 : decode cX3_busiest 22 = .ok (.iconst 0, 1) := by decide +kernel
theorem dX3_busiest_23 : decode cX3_busiest 23 = .ok (.iastore, 1) := by decide +kernel
theorem dX3_busiest_24 : decode cX3_busiest 24 = .ok (.iinc 4 1, 3) := by decide +kernel
theorem dX3_busiest_27 : decode cX3_busiest 27 = .ok (.goto (-18), 3) := by decide +kernel
theorem dX3_busiest_30 : decode cX3_busiest 30 = .ok (.iconst 0, 1) := by decide +kernel
theorem dX3_busiest_31 : decode cX3_busiest 31 = .ok (.istore 4, 2) := by decide +kernel
theorem dX3_busiest_33 : decode cX3_busiest 33 = .ok (.iload 4, 2) := by decide +kernel
theorem dX3_busiest_35 : decode cX3_busiest 35 = .ok (.iload_n 2, 1) := by decide +kernel
theorem dX3_busiest_36 : decode cX3_busiest 36 = .ok (.if_icmp .ge 25, 3) := by decide +kernel
theorem dX3_busiest_39 : decode cX3_busiest 39 = .ok (.aload_n 0, 1) := by decide +kernel
theorem dX3_busiest_40 : decode cX3_busiest 40 = .ok (.getfield 28, 3) := by decide +kernel
theorem dX3_busiest_43 : decode cX3_busiest 43 = .ok (.aload_n 0, 1) := by decide +kernel
theorem dX3_busiest_44 : decode cX3_busiest 44 = .ok (.getfield 12, 3) := by decide +kernel
theorem dX3_busiest_47 : decode cX3_busiest 47 = .ok (.invokevirtual 46, 3) := by decide +kernel
theorem dX3_busiest_50 : decode cX3_busiest 50 = .ok (.aload_n 0, 1) := by decide +kernel
theorem dX3_busiest_51 : decode cX3_busiest 51 = .ok (.invokevirtual 131, 3) := by decide +kernel
theorem dX3_busiest_54 : decode cX3_busiest 54 = .ok (.pop, 1) := by decide +kernel
theorem dX3_busiest_55 : decode cX3_busiest 55 = .ok (.iinc 4 1, 3) := by decide +kernel
theorem dX3_busiest_58 : decode cX3_busiest 58 = .ok (.goto (-25), 3) := by decide +kernel
theorem dX3_busiest_61 : decode cX3_busiest 61 = .ok (.iconst 0, 1) := by decide +kernel
theorem dX3_busiest_62 : decode cX3_busiest 62 = .ok (.istore 4, 2) := by decide +kernel
theorem dX3_busiest_64 : decode cX3_busiest 64 = .ok (.iconst 1, 1) := by decide +kernel
theorem dX3_busiest_65 : decode cX3_busiest 65 = .ok (.istore 5, 2) := by decide +kernel
theorem dX3_busiest_67 : decode cX3_busiest 67 = .ok (.iload 5, 2) := by decide +kernel
theorem dX3_busiest_69 : decode cX3_busiest 69 = .ok (.aload_n 1, 1) := by decide +kernel
theorem dX3_busiest_70 : decode cX3_busiest 70 = .ok (.getfield 97, 3) := by decide +kernel
theorem dX3_busiest_73 : decode cX3_busiest 73 = .ok (.if_icmp .ge 35, 3) := by decide +kernel
theorem dX3_busiest_76 : decode cX3_busiest 76 = .ok (.aload_n 0, 1) := by decide +kernel
theorem dX3_busiest_77 : decode cX3_busiest 77 = .ok (.getfield 21, 3) := by decide +kernel
theorem dX3_busiest_80 : decode cX3_busiest 80 = .ok (.iload 5, 2) := by decide +kernel
theorem dX3_busiest_82 : decode cX3_busiest 82 = .ok (.iaload, 1) := by decide +kernel
theorem dX3_busiest_83 : decode cX3_busiest 83 = .ok (.aload_n 0, 1) := by decide +kernel
theorem dX3_busiest_84 : decode cX3_busiest 84 = .ok (.getfield 21, 3) := by decide +kernel
theorem dX3_busiest_87 : decode cX3_busiest 87 = .ok (.iload 4, 2) := by decide +kernel
theorem dX3_busiest_89 : decode cX3_busiest 89 = .ok (.iaload, 1) := by decide +kernel
theorem dX3_busiest_90 : decode cX3_busiest 90 = .ok (.if_icmp .le 8, 3) := by decide +kernel
theorem dX3_busiest_93 : decode cX3_busiest 93 = .ok (.iload 5, 2) := by decide +kernel
theorem dX3_busiest_95 : decode cX3_busiest 95 = .ok (.goto 5, 3) := by decide +kernel
theorem dX3_busiest_98 : decode cX3_busiest 98 = .ok (.iload 4, 2) := by decide +kernel
theorem dX3_busiest_100 : decode cX3_busiest 100 = .ok (.istore 4, 2) := by decide +kernel
theorem dX3_busiest_102 : decode cX3_busiest 102 = .ok (.iinc 5 1, 3) := by decide +kernel
theorem dX3_busiest_105 : decode cX3_busiest 105 = .ok (.goto (-38), 3) := by decide +kernel
theorem dX3_busiest_108 : decode cX3_busiest 108 = .ok (.iload_n 3, 1) := by decide +kernel
theorem dX3_busiest_109 : decode cX3_busiest 109 = .ok (.ifCond .ne 8, 3) := by decide +kernel
theorem dX3_busiest_112 : decode cX3_busiest 112 = .ok (.iload 4, 2) := by decide +kernel
theorem dX3_busiest_114 : decode cX3_busiest 114 = .ok (.goto 10, 3) := by decide +kernel
theorem dX3_busiest_117 : decode cX3_busiest 117 = .ok (.aload_n 0, 1) := by decide +kernel
theorem dX3_busiest_118 : decode cX3_busiest 118 = .ok (.getfield 21, 3) := by decide +kernel
theorem dX3_busiest_121 : decode cX3_busiest 121 = .ok (.iload 4, 2) := by decide +kernel
theorem dX3_busiest_123 : decode cX3_busiest 123 = .ok (.iaload, 1) := by decide +kernel
theorem dX3_busiest_124 : decode cX3_busiest 124 = .ok (.ireturn, 1) := by decide +kernel
theorem dX3_tally_0 : decode cX3_tally 0 = .ok (.iconst 0, 1) := by decide +kernel
theorem dX3_tally_1 : decode cX3_tally 1 = .ok (.istore_n 1, 1) := by decide +kernel
theorem dX3_tally_2 : decode cX3_tally 2 = .ok (.iconst 0, 1) := by decide +kernel
theorem dX3_tally_3 : decode cX3_tally 3 = .ok (.istore_n 2, 1) := by decide +kernel
theorem dX3_tally_4 : decode cX3_tally 4 = .ok (.iload_n 2, 1) := by decide +kernel
theorem dX3_tally_5 : decode cX3_tally 5 = .ok (.iconst 4, 1) := by decide +kernel
theorem dX3_tally_6 : decode cX3_tally 6 = .ok (.if_icmp .ge 37, 3) := by decide +kernel
theorem dX3_tally_9 : decode cX3_tally 9 = .ok (.aload_n 0, 1) := by decide +kernel
theorem dX3_tally_10 : decode cX3_tally 10 = .ok (.getfield 28, 3) := by decide +kernel
theorem dX3_tally_13 : decode cX3_tally 13 = .ok (.iload_n 2, 1) := by decide +kernel
theorem dX3_tally_14 : decode cX3_tally 14 = .ok (.invokevirtual 53, 3) := by decide +kernel
theorem dX3_tally_17 : decode cX3_tally 17 = .ok (.istore_n 3, 1) := by decide +kernel
theorem dX3_tally_18 : decode cX3_tally 18 = .ok (.iload_n 3, 1) := by decide +kernel
theorem dX3_tally_19 : decode cX3_tally 19 = .ok (.ldc 49, 2) := by decide +kernel
theorem dX3_tally_21 : decode cX3_tally 21 = .ok (.if_icmp .eq 16, 3) := by decide +kernel
theorem dX3_tally_24 : decode cX3_tally 24 = .ok (.aload_n 0, 1) := by decide +kernel
theorem dX3_tally_25 : decode cX3_tally 25 = .ok (.getfield 21, 3) := by decide +kernel
theorem dX3_tally_28 : decode cX3_tally 28 = .ok (.iload_n 3, 1) := by decide +kernel
theorem dX3_tally_29 : decode cX3_tally 29 = .ok (.dup2, 1) := by decide +kernel
theorem dX3_tally_30 : decode cX3_tally 30 = .ok (.iaload, 1) := by decide +kernel
theorem dX3_tally_31 : decode cX3_tally 31 = .ok (.iconst 1, 1) := by decide +kernel
theorem dX3_tally_32 : decode cX3_tally 32 = .ok (.iadd, 1) := by decide +kernel
theorem dX3_tally_33 : decode cX3_tally 33 = .ok (.iastore, 1) := by decide +kernel
theorem dX3_tally_34 : decode cX3_tally 34 = .ok (.iinc 1 1, 3) := by decide +kernel
theorem dX3_tally_37 : decode cX3_tally 37 = .ok (.iinc 2 1, 3) := by decide +kernel
theorem dX3_tally_40 : decode cX3_tally 40 = .ok (.goto (-36), 3) := by decide +kernel
theorem dX3_tally_43 : decode cX3_tally 43 = .ok (.iload_n 1, 1) := by decide +kernel
theorem dX3_tally_44 : decode cX3_tally 44 = .ok (.ireturn, 1) := by decide +kernel
theorem dX3_likelihood_0 : decode cX3_likelihood 0 = .ok (.aload_n 0, 1) := by decide +kernel
theorem dX3_likelihood_1 : decode cX3_likelihood 1 = .ok (.aload_n 1, 1) := by decide +kernel
theorem dX3_likelihood_2 : decode cX3_likelihood 2 = .ok (.iload_n 3, 1) := by decide +kernel
theorem dX3_likelihood_3 : decode cX3_likelihood 3 = .ok (.invokevirtual 50, 3) := by decide +kernel
theorem dX3_likelihood_6 : decode cX3_likelihood 6 = .ok (.aload_n 1, 1) := by decide +kernel
theorem dX3_likelihood_7 : decode cX3_likelihood 7 = .ok (.invokevirtual 85, 3) := by decide +kernel
theorem dX3_likelihood_10 : decode cX3_likelihood 10 = .ok (.istore 6, 2) := by decide +kernel
theorem dX3_likelihood_12 : decode cX3_likelihood 12 = .ok (.iload 6, 2) := by decide +kernel
theorem dX3_likelihood_14 : decode cX3_likelihood 14 = .ok (.aload_n 1, 1) := by decide +kernel
theorem dX3_likelihood_15 : decode cX3_likelihood 15 = .ok (.getfield 82, 3) := by decide +kernel
theorem dX3_likelihood_18 : decode cX3_likelihood 18 = .ok (.iconst (-1), 1) := by decide +kernel
theorem dX3_likelihood_19 : decode cX3_likelihood 19 = .ok (.ixor, 1) := by decide +kernel
theorem dX3_likelihood_20 : decode cX3_likelihood 20 = .ok (.iand, 1) := by decide +kernel
theorem dX3_likelihood_21 : decode cX3_likelihood 21 = .ok (.istore 7, 2) := by decide +kernel
theorem dX3_likelihood_23 : decode cX3_likelihood 23 = .ok (.lconst 0, 1) := by decide +kernel
theorem dX3_likelihood_24 : decode cX3_likelihood 24 = .ok (.lstore 8, 2) := by decide +kernel
theorem dX3_likelihood_26 : decode cX3_likelihood 26 = .ok (.iconst 0, 1) := by decide +kernel
theorem dX3_likelihood_27 : decode cX3_likelihood 27 = .ok (.istore 10, 2) := by decide +kernel
theorem dX3_likelihood_29 : decode cX3_likelihood 29 = .ok (.iload 10, 2) := by decide +kernel
theorem dX3_likelihood_31 : decode cX3_likelihood 31 = .ok (.iload 6, 2) := by decide +kernel
theorem dX3_likelihood_33 : decode cX3_likelihood 33 = .ok (.if_icmp .gt 83, 3) := by decide +kernel
theorem dX3_likelihood_36 : decode cX3_likelihood 36 = .ok (.iload 4, 2) := by decide +kernel
theorem dX3_likelihood_38 : decode cX3_likelihood 38 = .ok (.i2l, 1) := by decide +kernel
theorem dX3_likelihood_39 : decode cX3_likelihood 39 = .ok (.iload 10, 2) := by decide +kernel
theorem dX3_likelihood_41 : decode cX3_likelihood 41 = .ok (.invokestatic 89, 3) := by decide +kernel
theorem dX3_likelihood_44 : decode cX3_likelihood 44 = .ok (.invokestatic 134, 3) := by decide +kernel
theorem dX3_likelihood_47 : decode cX3_likelihood 47 = .ok (.bipush 10, 2) := by decide +kernel
theorem dX3_likelihood_49 : decode cX3_likelihood 49 = .ok (.iload 4, 2) := by decide +kernel
theorem dX3_likelihood_51 : decode cX3_likelihood 51 = .ok (.isub, 1) := by decide +kernel
theorem dX3_likelihood_52 : decode cX3_likelihood 52 = .ok (.i2l, 1) := by decide +kernel
theorem dX3_likelihood_53 : decode cX3_likelihood 53 = .ok (.iload 7, 2) := by decide +kernel
theorem dX3_likelihood_55 : decode cX3_likelihood 55 = .ok (.iload 10, 2) := by decide +kernel
theorem dX3_likelihood_57 : decode cX3_likelihood 57 = .ok (.iconst (-1), 1) := by decide +kernel
theorem dX3_likelihood_58 : decode cX3_likelihood 58 = .ok (.ixor, 1) := by decide +kernel
theorem dX3_likelihood_59 : decode cX3_likelihood 59 = .ok (.iand, 1) := by decide +kernel
theorem dX3_likelihood_60 : decode cX3_likelihood 60 = .ok (.invokestatic 89, 3) := by decide +kernel
theorem dX3_likelihood_63 : decode cX3_likelihood 63 = .ok (.invokestatic 134, 3) := by decide +kernel
theorem dX3_likelihood_66 : decode cX3_likelihood 66 = .ok (.lmul, 1) := by decide +kernel
theorem dX3_likelihood_67 : decode cX3_likelihood 67 = .ok (.lstore 11, 2) := by decide +kernel
theorem dX3_likelihood_69 : decode cX3_likelihood 69 = .ok (.iload 10, 2) := by decide +kernel
theorem dX3_likelihood_71 : decode cX3_likelihood 71 = .ok (.iload 7, 2) := by decide +kernel
theorem dX3_likelihood_73 : decode cX3_likelihood 73 = .ok (.iconst (-1), 1) := by decide +kernel
theorem dX3_likelihood_74 : decode cX3_likelihood 74 = .ok (.ixor, 1) := by decide +kernel
theorem dX3_likelihood_75 : decode cX3_likelihood 75 = .ok (.iand, 1) := by decide +kernel
theorem dX3_likelihood_76 : decode cX3_likelihood 76 = .ok (.ifCond .ne 34, 3) := by decide +kernel
theorem dX3_likelihood_79 : decode cX3_likelihood 79 = .ok (.lload 11, 2) := by decide +kernel
theorem dX3_likelihood_81 : decode cX3_likelihood 81 = .ok (.lconst 0, 1) := by decide +kernel
theorem dX3_likelihood_82 : decode cX3_likelihood 82 = .ok (.lcmp, 1) := by decide +kernel
theorem dX3_likelihood_83 : decode cX3_likelihood 83 = .ok (.ifCond .le 27, 3) := by decide +kernel
theorem dX3_likelihood_86 : decode cX3_likelihood 86 = .ok (.aload_n 0, 1) := by decide +kernel
theorem dX3_likelihood_87 : decode cX3_likelihood 87 = .ok (.aload_n 1, 1) := by decide +kernel
theorem dX3_likelihood_88 : decode cX3_likelihood 88 = .ok (.aload_n 1, 1) := by decide +kernel
theorem dX3_likelihood_89 : decode cX3_likelihood 89 = .ok (.getfield 82, 3) := by decide +kernel
theorem dX3_likelihood_92 : decode cX3_likelihood 92 = .ok (.iload 10, 2) := by decide +kernel
theorem dX3_likelihood_94 : decode cX3_likelihood 94 = .ok (.ior, 1) := by decide +kernel
theorem dX3_likelihood_95 : decode cX3_likelihood 95 = .ok (.iload_n 2, 1) := by decide +kernel
theorem dX3_likelihood_96 : decode cX3_likelihood 96 = .ok (.iload_n 3, 1) := by decide +kernel
theorem dX3_likelihood_97 : decode cX3_likelihood 97 = .ok (.invokevirtual 94, 3) := by decide +kernel
theorem dX3_likelihood_100 : decode cX3_likelihood 100 = .ok (.ifCond .eq 10, 3) := by decide +kernel
theorem dX3_likelihood_103 : decode cX3_likelihood 103 = .ok (.lload 8, 2) := by decide +kernel
theorem dX3_likelihood_105 : decode cX3_likelihood 105 = .ok (.lload 11, 2) := by decide +kernel
theorem dX3_likelihood_107 : decode cX3_likelihood 107 = .ok (.ladd, 1) := by decide +kernel
theorem dX3_likelihood_108 : decode cX3_likelihood 108 = .ok (.lstore 8, 2) := by decide +kernel
theorem dX3_likelihood_110 : decode cX3_likelihood 110 = .ok (.iinc 10 1, 3) := by decide +kernel
theorem dX3_likelihood_113 : decode cX3_likelihood 113 = .ok (.goto (-84), 3) := by decide +kernel
theorem dX3_likelihood_116 : decode cX3_likelihood 116 = .ok (.ldc2_w 138, 3) := by decide +kernel
theorem dX3_likelihood_119 : decode cX3_likelihood 119 = .ok (.iload 7, 2) := by decide +kernel
theorem dX3_likelihood_121 : decode cX3_likelihood 121 = .ok (.invokestatic 89, 3) := by decide +kernel
theorem dX3_likelihood_124 : decode cX3_likelihood 124 = .ok (.invokestatic 134, 3) := by decide +kernel
theorem dX3_likelihood_127 : decode cX3_likelihood 127 = .ok (.lstore 10, 2) := by decide +kernel
theorem dX3_likelihood_129 : decode cX3_likelihood 129 = .ok (.lload 8, 2) := by decide +kernel
theorem dX3_likelihood_131 : decode cX3_likelihood 131 = .ok (.lload 10, 2) := by decide +kernel
theorem dX3_likelihood_133 : decode cX3_likelihood 133 = .ok (.invokestatic 140, 3) := by decide +kernel
theorem dX3_likelihood_136 : decode cX3_likelihood 136 = .ok (.lconst 1, 1) := by decide +kernel
theorem dX3_likelihood_137 : decode cX3_likelihood 137 = .ok (.invokestatic 144, 3) := by decide +kernel
theorem dX3_likelihood_140 : decode cX3_likelihood 140 = .ok (.lstore 12, 2) := by decide +kernel
theorem dX3_likelihood_142 : decode cX3_likelihood 142 = .ok (.iload 5, 2) := by decide +kernel
theorem dX3_likelihood_144 : decode cX3_likelihood 144 = .ok (.ifCond .ne 8, 3) := by decide +kernel
theorem dX3_likelihood_147 : decode cX3_likelihood 147 = .ok (.lload 8, 2) := by decide +kernel
theorem dX3_likelihood_149 : decode cX3_likelihood 149 = .ok (.goto 5, 3) := by decide +kernel
theorem dX3_likelihood_152 : decode cX3_likelihood 152 = .ok (.lload 10, 2) := by decide +kernel
theorem dX3_likelihood_154 : decode cX3_likelihood 154 = .ok (.lload 12, 2) := by decide +kernel
theorem dX3_likelihood_156 : decode cX3_likelihood 156 = .ok (.ldiv, 1) := by decide +kernel
theorem dX3_likelihood_157 : decode cX3_likelihood 157 = .ok (.lreturn, 1) := by decide +kernel
theorem dX3_power_0 : decode cX3_power 0 = .ok (.lconst 1, 1) := by decide +kernel
theorem dX3_power_1 : decode cX3_power 1 = .ok (.lstore_n 3, 1) := by decide +kernel
theorem dX3_power_2 : decode cX3_power 2 = .ok (.iconst 0, 1) := by decide +kernel
theorem dX3_power_3 : decode cX3_power 3 = .ok (.istore 5, 2) := by decide +kernel
theorem dX3_power_5 : decode cX3_power 5 = .ok (.iload 5, 2) := by decide +kernel
theorem dX3_power_7 : decode cX3_power 7 = .ok (.iload_n 2, 1) := by decide +kernel
theorem dX3_power_8 : decode cX3_power 8 = .ok (.if_icmp .ge 13, 3) := by decide +kernel
theorem dX3_power_11 : decode cX3_power 11 = .ok (.lload_n 3, 1) := by decide +kernel
theorem dX3_power_12 : decode cX3_power 12 = .ok (.lload_n 0, 1) := by decide +kernel
theorem dX3_power_13 : decode cX3_power 13 = .ok (.lmul, 1) := by decide +kernel
theorem dX3_power_14 : decode cX3_power 14 = .ok (.lstore_n 3, 1) := by decide +kernel
theorem dX3_power_15 : decode cX3_power 15 = .ok (.iinc 5 1, 3) := by decide +kernel
theorem dX3_power_18 : decode cX3_power 18 = .ok (.goto (-13), 3) := by decide +kernel
theorem dX3_power_21 : decode cX3_power 21 = .ok (.lload_n 3, 1) := by decide +kernel
theorem dX3_power_22 : decode cX3_power 22 = .ok (.lreturn, 1) := by decide +kernel
theorem dX3_commonDivisor_0 : decode cX3_commonDivisor 0 = .ok (.lload_n 0, 1) := by decide +kernel
theorem dX3_commonDivisor_1 : decode cX3_commonDivisor 1 = .ok (.lstore 4, 2) := by decide +kernel
theorem dX3_commonDivisor_3 : decode cX3_commonDivisor 3 = .ok (.lload_n 2, 1) := by decide +kernel
theorem dX3_commonDivisor_4 : decode cX3_commonDivisor 4 = .ok (.lstore 6, 2) := by decide +kernel
theorem dX3_commonDivisor_6 : decode cX3_commonDivisor 6 = .ok (.iconst 0, 1) := by decide +kernel
theorem dX3_commonDivisor_7 : decode cX3_commonDivisor 7 = .ok (.istore 8, 2) := by decide +kernel
theorem dX3_commonDivisor_9 : decode cX3_commonDivisor 9 = .ok (.iload 8, 2) := by decide +kernel
theorem dX3_commonDivisor_11 : decode cX3_commonDivisor 11 = .ok (.bipush 64, 2) := by decide +kernel
theorem dX3_commonDivisor_13 : decode cX3_commonDivisor 13 = .ok (.if_icmp .ge 31, 3) := by decide +kernel
theorem dX3_commonDivisor_16 : decode cX3_commonDivisor 16 = .ok (.lload 4, 2) := by decide +kernel
theorem dX3_commonDivisor_18 : decode cX3_commonDivisor 18 = .ok (.lconst 0, 1) := by decide +kernel
theorem dX3_commonDivisor_19 : decode cX3_commonDivisor 19 = .ok (.lcmp, 1) := by decide +kernel
theorem dX3_commonDivisor_20 : decode cX3_commonDivisor 20 = .ok (.ifCond .eq 24, 3) := by decide +kernel
theorem dX3_commonDivisor_23 : decode cX3_commonDivisor 23 = .ok (.lload 6, 2) := by decide +kernel
theorem dX3_commonDivisor_25 : decode cX3_commonDivisor 25 = .ok (.lload 4, 2) := by decide +kernel
theorem dX3_commonDivisor_27 : decode cX3_commonDivisor 27 = .ok (.lrem, 1) := by decide +kernel
theorem dX3_commonDivisor_28 : decode cX3_commonDivisor 28 = .ok (.lstore 9, 2) := by decide +kernel
theorem dX3_commonDivisor_30 : decode cX3_commonDivisor 30 = .ok (.lload 4, 2) := by decide +kernel
theorem dX3_commonDivisor_32 : decode cX3_commonDivisor 32 = .ok (.lstore 6, 2) := by decide +kernel
theorem dX3_commonDivisor_34 : decode cX3_commonDivisor 34 = .ok (.lload 9, 2) := by decide +kernel
theorem dX3_commonDivisor_36 : decode cX3_commonDivisor 36 = .ok (.lstore 4, 2) := by decide +kernel
theorem dX3_commonDivisor_38 : decode cX3_commonDivisor 38 = .ok (.iinc 8 1, 3) := by decide +kernel
theorem dX3_commonDivisor_41 : decode cX3_commonDivisor 41 = .ok (.goto (-32), 3) := by decide +kernel
theorem dX3_commonDivisor_44 : decode cX3_commonDivisor 44 = .ok (.lload 6, 2) := by decide +kernel
theorem dX3_commonDivisor_46 : decode cX3_commonDivisor 46 = .ok (.lreturn, 1) := by decide +kernel
theorem dX3_weeks_0 : decode cX3_weeks 0 = .ok (.aload_n 0, 1) := by decide +kernel
theorem dX3_weeks_1 : decode cX3_weeks 1 = .ok (.aload_n 1, 1) := by decide +kernel
theorem dX3_weeks_2 : decode cX3_weeks 2 = .ok (.iload_n 2, 1) := by decide +kernel
theorem dX3_weeks_3 : decode cX3_weeks 3 = .ok (.invokevirtual 50, 3) := by decide +kernel
theorem dX3_weeks_6 : decode cX3_weeks 6 = .ok (.iload_n 3, 1) := by decide +kernel
theorem dX3_weeks_7 : decode cX3_weeks 7 = .ok (.i2l, 1) := by decide +kernel
theorem dX3_weeks_8 : decode cX3_weeks 8 = .ok (.lstore 5, 2) := by decide +kernel
theorem dX3_weeks_10 : decode cX3_weeks 10 = .ok (.iconst 0, 1) := by decide +kernel
theorem dX3_weeks_11 : decode cX3_weeks 11 = .ok (.istore 7, 2) := by decide +kernel
theorem dX3_weeks_13 : decode cX3_weeks 13 = .ok (.iconst 0, 1) := by decide +kernel
theorem dX3_weeks_14 : decode cX3_weeks 14 = .ok (.istore 8, 2) := by decide +kernel
theorem dX3_weeks_16 : decode cX3_weeks 16 = .ok (.iload 8, 2) := by decide +kernel
theorem dX3_weeks_18 : decode cX3_weeks 18 = .ok (.iload_n 2, 1) := by decide +kernel
theorem dX3_weeks_19 : decode cX3_weeks 19 = .ok (.if_icmp .ge 95, 3) := by decide +kernel
theorem dX3_weeks_22 : decode cX3_weeks 22 = .ok (.lload 5, 2) := by decide +kernel
theorem dX3_weeks_24 : decode cX3_weeks 24 = .ok (.ldc2_w 147, 3) := by decide +kernel
theorem dX3_weeks_27 : decode cX3_weeks 27 = .ok (.lmul, 1) := by decide +kernel
theorem dX3_weeks_28 : decode cX3_weeks 28 = .ok (.ldc2_w 149, 3) := by decide +kernel
theorem dX3_weeks_31 : decode cX3_weeks 31 = .ok (.lrem, 1) := by decide +kernel
theorem dX3_weeks_32 : decode cX3_weeks 32 = .ok (.lstore 5, 2) := by decide +kernel
theorem dX3_weeks_34 : decode cX3_weeks 34 = .ok (.lload 5, 2) := by decide +kernel
theorem dX3_weeks_36 : decode cX3_weeks 36 = .ok (.ldc2_w 151, 3) := by decide +kernel
theorem dX3_weeks_39 : decode cX3_weeks 39 = .ok (.lrem, 1) := by decide +kernel
theorem dX3_weeks_40 : decode cX3_weeks 40 = .ok (.lconst 0, 1) := by decide +kernel
theorem dX3_weeks_41 : decode cX3_weeks 41 = .ok (.lcmp, 1) := by decide +kernel
theorem dX3_weeks_42 : decode cX3_weeks 42 = .ok (.ifCond .ne 46, 3) := by decide +kernel
theorem dX3_weeks_45 : decode cX3_weeks 45 = .ok (.aload_n 1, 1) := by decide +kernel
theorem dX3_weeks_46 : decode cX3_weeks 46 = .ok (.getfield 75, 3) := by decide +kernel
theorem dX3_weeks_49 : decode cX3_weeks 49 = .ok (.ifCond .le 39, 3) := by decide +kernel
theorem dX3_weeks_52 : decode cX3_weeks 52 = .ok (.lload 5, 2) := by decide +kernel
theorem dX3_weeks_54 : decode cX3_weeks 54 = .ok (.aload_n 1, 1) := by decide +kernel
theorem dX3_weeks_55 : decode cX3_weeks 55 = .ok (.getfield 75, 3) := by decide +kernel
theorem dX3_weeks_58 : decode cX3_weeks 58 = .ok (.i2l, 1) := by decide +kernel
theorem dX3_weeks_59 : decode cX3_weeks 59 = .ok (.lrem, 1) := by decide +kernel
theorem dX3_weeks_60 : decode cX3_weeks 60 = .ok (.l2i, 1) := by decide +kernel
theorem dX3_weeks_61 : decode cX3_weeks 61 = .ok (.istore 9, 2) := by decide +kernel
theorem dX3_weeks_63 : decode cX3_weeks 63 = .ok (.aload_n 0, 1) := by decide +kernel
theorem dX3_weeks_64 : decode cX3_weeks 64 = .ok (.getfield 12, 3) := by decide +kernel
theorem dX3_weeks_67 : decode cX3_weeks 67 = .ok (.lload 5, 2) := by decide +kernel
theorem dX3_weeks_69 : decode cX3_weeks 69 = .ok (.ldc2_w 153, 3) := by decide +kernel
theorem dX3_weeks_72 : decode cX3_weeks 72 = .ok (.lrem, 1) := by decide +kernel
theorem dX3_weeks_73 : decode cX3_weeks 73 = .ok (.l2i, 1) := by decide +kernel
theorem dX3_weeks_74 : decode cX3_weeks 74 = .ok (.iload 9, 2) := by decide +kernel
theorem dX3_weeks_76 : decode cX3_weeks 76 = .ok (.aload_n 1, 1) := by decide +kernel
theorem dX3_weeks_77 : decode cX3_weeks 77 = .ok (.getfield 75, 3) := by decide +kernel
theorem dX3_weeks_80 : decode cX3_weeks 80 = .ok (.iconst 1, 1) := by decide +kernel
theorem dX3_weeks_81 : decode cX3_weeks 81 = .ok (.isub, 1) := by decide +kernel
theorem dX3_weeks_82 : decode cX3_weeks 82 = .ok (.iload 9, 2) := by decide +kernel
theorem dX3_weeks_84 : decode cX3_weeks 84 = .ok (.isub, 1) := by decide +kernel
theorem dX3_weeks_85 : decode cX3_weeks 85 = .ok (.invokevirtual 71, 3) := by decide +kernel
theorem dX3_weeks_88 : decode cX3_weeks 88 = .ok (.aload_n 0, 1) := by decide +kernel
theorem dX3_weeks_89 : decode cX3_weeks 89 = .ok (.getfield 28, 3) := by decide +kernel
theorem dX3_weeks_92 : decode cX3_weeks 92 = .ok (.aload_n 0, 1) := by decide +kernel
theorem dX3_weeks_93 : decode cX3_weeks 93 = .ok (.getfield 12, 3) := by decide +kernel
theorem dX3_weeks_96 : decode cX3_weeks 96 = .ok (.invokevirtual 46, 3) := by decide +kernel
theorem dX3_weeks_99 : decode cX3_weeks 99 = .ok (.iload 7, 2) := by decide +kernel
theorem dX3_weeks_101 : decode cX3_weeks 101 = .ok (.aload_n 0, 1) := by decide +kernel
theorem dX3_weeks_102 : decode cX3_weeks 102 = .ok (.invokevirtual 131, 3) := by decide +kernel
theorem dX3_weeks_105 : decode cX3_weeks 105 = .ok (.iadd, 1) := by decide +kernel
theorem dX3_weeks_106 : decode cX3_weeks 106 = .ok (.istore 7, 2) := by decide +kernel
theorem dX3_weeks_108 : decode cX3_weeks 108 = .ok (.iinc 8 1, 3) := by decide +kernel
theorem dX3_weeks_111 : decode cX3_weeks 111 = .ok (.goto (-95), 3) := by decide +kernel
theorem dX3_weeks_114 : decode cX3_weeks 114 = .ok (.iload 4, 2) := by decide +kernel
theorem dX3_weeks_116 : decode cX3_weeks 116 = .ok (.ifCond .ne 16, 3) := by decide +kernel
theorem dX3_weeks_119 : decode cX3_weeks 119 = .ok (.aload_n 0, 1) := by decide +kernel
theorem dX3_weeks_120 : decode cX3_weeks 120 = .ok (.getfield 12, 3) := by decide +kernel
theorem dX3_weeks_123 : decode cX3_weeks 123 = .ok (.invokevirtual 155, 3) := by decide +kernel
theorem dX3_weeks_126 : decode cX3_weeks 126 = .ok (.invokestatic 89, 3) := by decide +kernel
theorem dX3_weeks_129 : decode cX3_weeks 129 = .ok (.goto 5, 3) := by decide +kernel
theorem dX3_weeks_132 : decode cX3_weeks 132 = .ok (.iload 7, 2) := by decide +kernel
theorem dX3_weeks_134 : decode cX3_weeks 134 = .ok (.ireturn, 1) := by decide +kernel
theorem dX4_init_0 : decode cX4_init 0 = .ok (.aload_n 0, 1) := by decide +kernel
theorem dX4_init_1 : decode cX4_init 1 = .ok (.invokespecial 3, 3) := by decide +kernel
theorem dX4_init_4 : decode cX4_init 4 = .ok (.aload_n 0, 1) := by decide +kernel
theorem dX4_init_5 : decode cX4_init 5 = .ok (.bipush 8, 2) := by decide +kernel
theorem dX4_init_7 : decode cX4_init 7 = .ok (.bipush 40, 2) := by decide +kernel
theorem dX4_init_9 : decode cX4_init 9 = .ok (.multianewarray 11 2, 4) := by decide +kernel
theorem dX4_init_13 : decode cX4_init 13 = .ok (.putfield 13, 3) := by decide +kernel
theorem dX4_init_16 : decode cX4_init 16 = .ok (.aload_n 0, 1) := by decide +kernel
theorem dX4_init_17 : decode cX4_init 17 = .ok (.bipush 8, 2) := by decide +kernel
theorem dX4_init_19 : decode cX4_init 19 = .ok (.newarray .int, 2) := by decide +kernel
theorem dX4_init_21 : decode cX4_init 21 = .ok (.putfield 16, 3) := by decide +kernel
theorem dX4_init_24 : decode cX4_init 24 = .ok (.aload_n 0, 1) := by decide +kernel
theorem dX4_init_25 : decode cX4_init 25 = .ok (.bipush 8, 2) := by decide +kernel
theorem dX4_init_27 : decode cX4_init 27 = .ok (.newarray .int, 2) := by decide +kernel
theorem dX4_init_29 : decode cX4_init 29 = .ok (.putfield 20, 3) := by decide +kernel
theorem dX4_init_32 : decode cX4_init 32 = .ok (.iconst 0, 1) := by decide +kernel
theorem dX4_init_33 : decode cX4_init 33 = .ok (.istore_n 1, 1) := by decide +kernel
theorem dX4_init_34 : decode cX4_init 34 = .ok (.iload_n 1, 1) := by decide +kernel
theorem dX4_init_35 : decode cX4_init 35 = .ok (.bipush 8, 2) := by decide +kernel
theorem dX4_init_37 : decode cX4_init 37 = .ok (.if_icmp .ge 16, 3) := by decide +kernel
theorem dX4_init_40 : decode cX4_init 40 = .ok (.aload_n 0, 1) := by decide +kernel
theorem dX4_init_41 : decode cX4_init 41 = .ok (.getfield 16, 3) := by decide +kernel
theorem dX4_init_44 : decode cX4_init 44 = .ok (.iload_n 1, 1) := by decide +kernel
theorem dX4_init_45 : decode cX4_init 45 = .ok (.iconst (-1), 1) := by decide +kernel
theorem dX4_init_46 : decode cX4_init 46 = .ok (.iastore, 1) := by decide +kernel
theorem dX4_init_47 : decode cX4_init 47 = .ok (.iinc 1 1, 3) := by decide +kernel
theorem dX4_init_50 : decode cX4_init 50 = .ok (.goto (-16), 3) := by decide +kernel
theorem dX4_init_53 : decode cX4_init 53 = .ok (.return_, 1) := by decide +kernel
theorem dX4_isRow_0 : decode cX4_isRow 0 = .ok (.iload_n 0, 1) := by decide +kernel
theorem dX4_isRow_1 : decode cX4_isRow 1 = .ok (.ifCond .lt 13, 3) := by decide +kernel
theorem dX4_isRow_4 : decode cX4_isRow 4 = .ok (.iload_n 0, 1) := by decide +kernel
theorem dX4_isRow_5 : decode cX4_isRow 5 = .ok (.bipush 8, 2) := by decide +kernel
theorem dX4_isRow_7 : decode cX4_isRow 7 = .ok (.if_icmp .ge 7, 3) := by decide +kernel
theorem dX4_isRow_10 : decode cX4_isRow 10 = .ok (.iconst 1, 1) := by decide +kernel
theorem dX4_isRow_11 : decode cX4_isRow 11 = .ok (.goto 4, 3) := by decide +kernel
theorem dX4_isRow_14 : decode cX4_isRow 14 = .ok (.iconst 0, 1) := by decide +kernel
theorem dX4_isRow_15 : decode cX4_isRow 15 = .ok (.ireturn, 1) := by decide +kernel
theorem dX4_isThere_0 : decode cX4_isThere 0 = .ok (.aload_n 0, 1) := by decide +kernel
theorem dX4_isThere_1 : decode cX4_isThere 1 = .ok (.getfield 16, 3) := by decide +kernel
theorem dX4_isThere_4 : decode cX4_isThere 4 = .ok (.iload_n 1, 1) := by decide +kernel
theorem dX4_isThere_5 : decode cX4_isThere 5 = .ok (.iaload, 1) := by decide +kernel
theorem dX4_isThere_6 : decode cX4_isThere 6 = .ok (.iconst (-1), 1) := by decide +kernel
theorem dX4_isThere_7 : decode cX4_isThere 7 = .ok (.if_icmp .eq 7, 3) := by decide +kernel
theorem dX4_isThere_10 : decode cX4_isThere 10 = .ok (.iconst 1, 1) := by decide +kernel
theorem dX4_isThere_11 : decode cX4_isThere 11 = .ok (.goto 4, 3) := by decide +kernel
theorem dX4_isThere_14 : decode cX4_isThere 14 = .ok (.iconst 0, 1) := by decide +kernel
theorem dX4_isThere_15 : decode cX4_isThere 15 = .ok (.ireturn, 1) := by decide +kernel
theorem dX4_laneOf_0 : decode cX4_laneOf 0 = .ok (.aload_n 0, 1) := by decide +kernel
theorem dX4_laneOf_1 : decode cX4_laneOf 1 = .ok (.getfield 16, 3) := by decide +kernel
theorem dX4_laneOf_4 : decode cX4_laneOf 4 = .ok (.iload_n 1, 1) := by decide +kernel
theorem dX4_laneOf_5 : decode cX4_laneOf 5 = .ok (.iaload, 1) := by decide +kernel
theorem dX4_laneOf_6 : decode cX4_laneOf 6 = .ok (.ireturn, 1) := by decide +kernel
theorem dX4_lengthOf_0 : decode cX4_lengthOf 0 = .ok (.aload_n 0, 1) := by decide +kernel
theorem dX4_lengthOf_1 : decode cX4_lengthOf 1 = .ok (.getfield 20, 3) := by decide +kernel
theorem dX4_lengthOf_4 : decode cX4_lengthOf 4 = .ok (.iload_n 1, 1) := by decide +kernel
theorem dX4_lengthOf_5 : decode cX4_lengthOf 5 = .ok (.iaload, 1) := by decide +kernel
theorem dX4_lengthOf_6 : decode cX4_lengthOf 6 = .ok (.ireturn, 1) := by decide +kernel
theorem dX4_howMany_0 : decode cX4_howMany 0 = .ok (.iconst 0, 1) := by decide +kernel
theorem dX4_howMany_1 : decode cX4_howMany 1 = .ok (.istore_n 1, 1) := by decide +kernel
theorem dX4_howMany_2 : decode cX4_howMany 2 = .ok (.iconst 0, 1) := by decide +kernel
theorem dX4_howMany_3 : decode cX4_howMany 3 = .ok (.istore_n 2, 1) := by decide +kernel
theorem dX4_howMany_4 : decode cX4_howMany 4 = .ok (.iload_n 2, 1) := by decide +kernel
theorem dX4_howMany_5 : decode cX4_howMany 5 = .ok (.bipush 8, 2) := by decide +kernel
theorem dX4_howMany_7 : decode cX4_howMany 7 = .ok (.if_icmp .ge 25, 3) := by decide +kernel
theorem dX4_howMany_10 : decode cX4_howMany 10 = .ok (.iload_n 1, 1) := by decide +kernel
theorem dX4_howMany_11 : decode cX4_howMany 11 = .ok (.aload_n 0, 1) := by decide +kernel
theorem dX4_howMany_12 : decode cX4_howMany 12 = .ok (.iload_n 2, 1) := by decide +kernel
theorem dX4_howMany_13 : decode cX4_howMany 13 = .ok (.invokevirtual 23, 3) := by decide +kernel
theorem dX4_howMany_16 : decode cX4_howMany 16 = .ok (.ifCond .eq 7, 3) := by decide +kernel
theorem dX4_howMany_19 : decode cX4_howMany 19 = .ok (.iconst 1, 1) := by decide +kernel
theorem dX4_howMany_20 : decode cX4_howMany 20 = .ok (.goto 4, 3) := by decide +kernel
theorem dX4_howMany_23 : decode cX4_howMany 23 = .ok (.iconst 0, 1) := by decide +kernel
theorem dX4_howMany_24 : decode cX4_howMany 24 = .ok (.iadd, 1) := by decide +kernel
theorem dX4_howMany_25 : decode cX4_howMany 25 = .ok (.istore_n 1, 1) := by decide +kernel
theorem dX4_howMany_26 : decode cX4_howMany 26 = .ok (.iinc 2 1, 3) := by decide +kernel
theorem dX4_howMany_29 : decode cX4_howMany 29 = .ok (.goto (-25), 3) := by decide +kernel
theorem dX4_howMany_32 : decode cX4_howMany 32 = .ok (.iload_n 1, 1) := by decide +kernel
theorem dX4_howMany_33 : decode cX4_howMany 33 = .ok (.ireturn, 1) := by decide +kernel
theorem dX4_make_0 : decode cX4_make 0 = .ok (.aload_n 0, 1) := by decide +kernel
theorem dX4_make_1 : decode cX4_make 1 = .ok (.getfield 16, 3) := by decide +kernel
theorem dX4_make_4 : decode cX4_make 4 = .ok (.iload_n 1, 1) := by decide +kernel
theorem dX4_make_5 : decode cX4_make 5 = .ok (.iload_n 2, 1) := by decide +kernel
theorem dX4_make_6 : decode cX4_make 6 = .ok (.iastore, 1) := by decide +kernel
theorem dX4_make_7 : decode cX4_make 7 = .ok (.aload_n 0, 1) := by decide +kernel
theorem dX4_make_8 : decode cX4_make 8 = .ok (.getfield 20, 3) := by decide +kernel
theorem dX4_make_11 : decode cX4_make 11 = .ok (.iload_n 1, 1) := by decide +kernel
theorem dX4_make_12 : decode cX4_make 12 = .ok (.iload_n 3, 1) := by decide +kernel
theorem dX4_make_13 : decode cX4_make 13 = .ok (.iastore, 1) := by decide +kernel
theorem dX4_make_14 : decode cX4_make 14 = .ok (.iconst 0, 1) := by decide +kernel
theorem dX4_make_15 : decode cX4_make 15 = .ok (.istore 4, 2) := by decide +kernel
theorem dX4_make_17 : decode cX4_make 17 = .ok (.iload 4, 2) := by decide +kernel
theorem dX4_make_19 : decode cX4_make 19 = .ok (.bipush 40, 2) := by decide +kernel
theorem dX4_make_21 : decode cX4_make 21 = .ok (.if_icmp .ge 19, 3) := by decide +kernel
theorem dX4_make_24 : decode cX4_make 24 = .ok (.aload_n 0, 1) := by decide +kernel
theorem dX4_make_25 : decode cX4_make 25 = .ok (.getfield 13, 3) := by decide +kernel
theorem dX4_make_28 : decode cX4_make 28 = .ok (.iload_n 1, 1) := by decide +kernel
theorem dX4_make_29 : decode cX4_make 29 = .ok (.aaload, 1) := by decide +kernel
theorem dX4_make_30 : decode cX4_make 30 = .ok (.iload 4, 2) := by decide +kernel
theorem dX4_make_32 : decode cX4_make 32 = .ok (.iconst 0, 1) := by decide +kernel
theorem dX4_make_33 : decode cX4_make 33 = .ok (.iastore, 1) := by decide +kernel
theorem dX4_make_34 : decode cX4_make 34 = .ok (.iinc 4 1, 3) := by decide +kernel
theorem dX4_make_37 : decode cX4_make 37 = .ok (.goto (-20), 3) := by decide +kernel
theorem dX4_make_40 : decode cX4_make 40 = .ok (.return_, 1) := by decide +kernel
theorem dX4_lose_0 : decode cX4_lose 0 = .ok (.aload_n 0, 1) := by decide +kernel
theorem dX4_lose_1 : decode cX4_lose 1 = .ok (.getfield 16, 3) := by decide +kernel
theorem dX4_lose_4 : decode cX4_lose 4 = .ok (.iload_n 1, 1) := by decide +kernel
theorem dX4_lose_5 : decode cX4_lose 5 = .ok (.iconst (-1), 1) := by decide +kernel
theorem dX4_lose_6 : decode cX4_lose 6 = .ok (.iastore, 1) := by decide +kernel
theorem dX4_lose_7 : decode cX4_lose 7 = .ok (.aload_n 0, 1) := by decide +kernel
theorem dX4_lose_8 : decode cX4_lose 8 = .ok (.getfield 20, 3) := by decide +kernel
theorem dX4_lose_11 : decode cX4_lose 11 = .ok (.iload_n 1, 1) := by decide +kernel
theorem dX4_lose_12 : decode cX4_lose 12 = .ok (.iconst 0, 1) := by decide +kernel
theorem dX4_lose_13 : decode cX4_lose 13 = .ok (.iastore, 1) := by decide +kernel
theorem dX4_lose_14 : decode cX4_lose 14 = .ok (.return_, 1) := by decide +kernel
theorem dX4_hasPlaces_0 : decode cX4_hasPlaces 0 = .ok (.iload_n 2, 1) := by decide +kernel
theorem dX4_hasPlaces_1 : decode cX4_hasPlaces 1 = .ok (.ifCond .lt 23, 3) := by decide +kernel
theorem dX4_hasPlaces_4 : decode cX4_hasPlaces 4 = .ok (.iload_n 3, 1) := by decide +kernel
theorem dX4_hasPlaces_5 : decode cX4_hasPlaces 5 = .ok (.ifCond .lt 19, 3) := by decide +kernel
theorem dX4_hasPlaces_8 : decode cX4_hasPlaces 8 = .ok (.iload_n 2, 1) := by decide +kernel
theorem dX4_hasPlaces_9 : decode cX4_hasPlaces 9 = .ok (.aload_n 0, 1) := by decide +kernel
theorem dX4_hasPlaces_10 : decode cX4_hasPlaces 10 = .ok (.getfield 20, 3) := by decide +kernel
theorem dX4_hasPlaces_13 : decode cX4_hasPlaces 13 = .ok (.iload_n 1, 1) := by decide +kernel
theorem dX4_hasPlaces_14 : decode cX4_hasPlaces 14 = .ok (.iaload, 1) := by decide +kernel
theorem dX4_hasPlaces_15 : decode cX4_hasPlaces 15 = .ok (.iload_n 3, 1) := by decide +kernel
theorem dX4_hasPlaces_16 : decode cX4_hasPlaces 16 = .ok (.isub, 1) := by decide +kernel
theorem dX4_hasPlaces_17 : decode cX4_hasPlaces 17 = .ok (.if_icmp .gt 7, 3) := by decide +kernel
theorem dX4_hasPlaces_20 : decode cX4_hasPlaces 20 = .ok (.iconst 1, 1) := by decide +kernel
theorem dX4_hasPlaces_21 : decode cX4_hasPlaces 21 = .ok (.goto 4, 3) := by decide +kernel
theorem dX4_hasPlaces_24 : decode cX4_hasPlaces 24 = .ok (.iconst 0, 1) := by decide +kernel
theorem dX4_hasPlaces_25 : decode cX4_hasPlaces 25 = .ok (.ireturn, 1) := by decide +kernel
theorem dX4_findingOf_0 : decode cX4_findingOf 0 = .ok (.aload_n 0, 1) := by decide +kernel
theorem dX4_findingOf_1 : decode cX4_findingOf 1 = .ok (.iload_n 1, 1) := by decide +kernel
theorem dX4_findingOf_2 : decode cX4_findingOf 2 = .ok (.invokevirtual 23, 3) := by decide +kernel
theorem dX4_findingOf_5 : decode cX4_findingOf 5 = .ok (.ifCond .ne 5, 3) := by decide +kernel
theorem dX4_findingOf_8 : decode cX4_findingOf 8 = .ok (.iconst 1, 1) := by decide +kernel
theorem dX4_findingOf_9 : decode cX4_findingOf 9 = .ok (.ireturn, 1) := by decide +kernel
theorem dX4_findingOf_10 : decode cX4_findingOf 10 = .ok (.aload_n 0, 1) := by decide +kernel
theorem dX4_findingOf_11 : decode cX4_findingOf 11 = .ok (.iload_n 1, 1) := by decide +kernel
theorem dX4_findingOf_12 : decode cX4_findingOf 12 = .ok (.iload_n 2, 1) := by decide +kernel
theorem dX4_findingOf_13 : decode cX4_findingOf 13 = .ok (.iload_n 3, 1) := by decide +kernel
theorem dX4_findingOf_14 : decode cX4_findingOf 14 = .ok (.invokevirtual 27, 3) := by decide +kernel
theorem dX4_findingOf_17 : decode cX4_findingOf 17 = .ok (.ifCond .eq 7, 3) := by decide +kernel
theorem dX4_findingOf_20 : decode cX4_findingOf 20 = .ok (.iconst 0, 1) := by decide +kernel
theorem dX4_findingOf_21 : decode cX4_findingOf 21 = .ok (.goto 4, 3) := by decide +kernel
theorem dX4_findingOf_24 : decode cX4_findingOf 24 = .ok (.iconst 2, 1) := by decide +kernel
theorem dX4_findingOf_25 : decode cX4_findingOf 25 = .ok (.ireturn, 1) := by decide +kernel
theorem dX4_itemAt_0 : decode cX4_itemAt 0 = .ok (.aload_n 0, 1) := by decide +kernel
theorem dX4_itemAt_1 : decode cX4_itemAt 1 = .ok (.getfield 13, 3) := by decide +kernel
theorem dX4_itemAt_4 : decode cX4_itemAt 4 = .ok (.iload_n 1, 1) := by decide +kernel
theorem dX4_itemAt_5 : decode cX4_itemAt 5 = .ok (.aaload, 1) := by decide +kernel
theorem dX4_itemAt_6 : decode cX4_itemAt 6 = .ok (.iload_n 2, 1) := by decide +kernel
theorem dX4_itemAt_7 : decode cX4_itemAt 7 = .ok (.iaload, 1) := by decide +kernel
theorem dX4_itemAt_8 : decode cX4_itemAt 8 = .ok (.ireturn, 1) := by decide +kernel
theorem dX4_put_0 : decode cX4_put 0 = .ok (.aload_n 0, 1) := by decide +kernel
theorem dX4_put_1 : decode cX4_put 1 = .ok (.getfield 13, 3) := by decide +kernel
theorem dX4_put_4 : decode cX4_put 4 = .ok (.iload_n 1, 1) := by decide +kernel
theorem dX4_put_5 : decode cX4_put 5 = .ok (.aaload, 1) := by decide +kernel
theorem dX4_put_6 : decode cX4_put 6 = .ok (.iload_n 2, 1) := by decide +kernel
theorem dX4_put_7 : decode cX4_put 7 = .ok (.aload_n 0, 1) := by decide +kernel
theorem dX4_put_8 : decode cX4_put 8 = .ok (.getfield 16, 3) := by decide +kernel
theorem dX4_put_11 : decode cX4_put 11 = .ok (.iload_n 1, 1) := by decide +kernel
theorem dX4_put_12 : decode cX4_put 12 = .ok (.iaload, 1) := by decide +kernel
theorem dX4_put_13 : decode cX4_put 13 = .ok (.iload_n 3, 1) := by decide +kernel
theorem dX4_put_14 : decode cX4_put 14 = .ok (.invokestatic 31, 3) := by decide +kernel
theorem dX4_put_17 : decode cX4_put 17 = .ok (.iastore, 1) := by decide +kernel
theorem dX4_put_18 : decode cX4_put 18 = .ok (.aload_n 0, 1) := by decide +kernel
theorem dX4_put_19 : decode cX4_put 19 = .ok (.getfield 13, 3) := by decide +kernel
theorem dX4_put_22 : decode cX4_put 22 = .ok (.iload_n 1, 1) := by decide +kernel
theorem dX4_put_23 : decode cX4_put 23 = .ok (.aaload, 1) := by decide +kernel
theorem dX4_put_24 : decode cX4_put 24 = .ok (.iload_n 2, 1) := by decide +kernel
theorem dX4_put_25 : decode cX4_put 25 = .ok (.iaload, 1) := by decide +kernel
theorem dX4_put_26 : decode cX4_put 26 = .ok (.ireturn, 1) := by decide +kernel
theorem dX4_carryOver_0 : decode cX4_carryOver 0 = .ok (.aload_n 0, 1) := by decide +kernel
theorem dX4_carryOver_1 : decode cX4_carryOver 1 = .ok (.getfield 13, 3) := by decide +kernel
theorem dX4_carryOver_4 : decode cX4_carryOver 4 = .ok (.iload_n 1, 1) := by decide +kernel
theorem dX4_carryOver_5 : decode cX4_carryOver 5 = .ok (.aaload, 1) := by decide +kernel
theorem dX4_carryOver_6 : decode cX4_carryOver 6 = .ok (.iload_n 2, 1) := by decide +kernel
theorem dX4_carryOver_7 : decode cX4_carryOver 7 = .ok (.aload_n 0, 1) := by decide +kernel
theorem dX4_carryOver_8 : decode cX4_carryOver 8 = .ok (.getfield 13, 3) := by decide +kernel
theorem dX4_carryOver_11 : decode cX4_carryOver 11 = .ok (.iload_n 3, 1) := by decide +kernel
theorem dX4_carryOver_12 : decode cX4_carryOver 12 = .ok (.aaload, 1) := by decide +kernel
theorem dX4_carryOver_13 : decode cX4_carryOver 13 = .ok (.iload 4, 2) := by decide +kernel
theorem dX4_carryOver_15 : decode cX4_carryOver 15 = .ok (.iload 5, 2) := by decide +kernel
theorem dX4_carryOver_17 : decode cX4_carryOver 17 = .ok (.invokestatic 35, 3) := by decide +kernel
theorem dX4_carryOver_20 : decode cX4_carryOver 20 = .ok (.return_, 1) := by decide +kernel
theorem dX4_cut_0 : decode cX4_cut 0 = .ok (.iload_n 0, 1) := by decide +kernel
theorem dX4_cut_1 : decode cX4_cut 1 = .ok (.lookupswitch 33 #[(0, 27), (1, 30)], 27) := by decide +kernel
theorem dX4_cut_28 : decode cX4_cut 28 = .ok (.iload_n 1, 1) := by decide +kernel
theorem dX4_cut_29 : decode cX4_cut 29 = .ok (.i2b, 1) := by decide +kernel
theorem dX4_cut_30 : decode cX4_cut 30 = .ok (.ireturn, 1) := by decide +kernel
theorem dX4_cut_31 : decode cX4_cut 31 = .ok (.iload_n 1, 1) := by decide +kernel
theorem dX4_cut_32 : decode cX4_cut 32 = .ok (.i2s, 1) := by decide +kernel
theorem dX4_cut_33 : decode cX4_cut 33 = .ok (.ireturn, 1) := by decide +kernel
theorem dX4_cut_34 : decode cX4_cut 34 = .ok (.iload_n 1, 1) := by decide +kernel
theorem dX4_cut_35 : decode cX4_cut 35 = .ok (.ireturn, 1) := by decide +kernel
theorem dX5_init_0 : decode cX5_init 0 = .ok (.aload_n 0, 1) := by decide +kernel
theorem dX5_init_1 : decode cX5_init 1 = .ok (.invokespecial 3, 3) := by decide +kernel
theorem dX5_init_4 : decode cX5_init 4 = .ok (.aload_n 0, 1) := by decide +kernel
theorem dX5_init_5 : decode cX5_init 5 = .ok (.bipush 120, 2) := by decide +kernel
theorem dX5_init_7 : decode cX5_init 7 = .ok (.newarray .int, 2) := by decide +kernel
theorem dX5_init_9 : decode cX5_init 9 = .ok (.putfield 11, 3) := by decide +kernel
theorem dX5_init_12 : decode cX5_init 12 = .ok (.return_, 1) := by decide +kernel
theorem dX5_add_0 : decode cX5_add 0 = .ok (.aload_n 0, 1) := by decide +kernel
theorem dX5_add_1 : decode cX5_add 1 = .ok (.getfield 15, 3) := by decide +kernel
theorem dX5_add_4 : decode cX5_add 4 = .ok (.bipush 120, 2) := by decide +kernel
theorem dX5_add_6 : decode cX5_add 6 = .ok (.if_icmp .lt 5, 3) := by decide +kernel
theorem dX5_add_9 : decode cX5_add 9 = .ok (.iconst 0, 1) := by decide +kernel
theorem dX5_add_10 : decode cX5_add 10 = .ok (.ireturn, 1) := by decide +kernel
theorem dX5_add_11 : decode cX5_add 11 = .ok (.aload_n 0, 1) := by decide +kernel
theorem dX5_add_12 : decode cX5_add 12 = .ok (.getfield 11, 3) := by decide +kernel
theorem dX5_add_15 : decode cX5_add 15 = .ok (.aload_n 0, 1) := by decide +kernel
theorem dX5_add_16 : decode cX5_add 16 = .ok (.getfield 15, 3) := by decide +kernel
theorem dX5_add_19 : decode cX5_add 19 = .ok (.iload_n 1, 1) := by decide +kernel
theorem dX5_add_20 : decode cX5_add 20 = .ok (.iastore, 1) := by decide +kernel
theorem dX5_add_21 : decode cX5_add 21 = .ok (.aload_n 0, 1) := by decide +kernel
theorem dX5_add_22 : decode cX5_add 22 = .ok (.dup, 1) := by decide +kernel
theorem dX5_add_23 : decode cX5_add 23 = .ok (.getfield 15, 3) := by decide +kernel
theorem dX5_add_26 : decode cX5_add 26 = .ok (.iconst 1, 1) := by decide +kernel
theorem dX5_add_27 : decode cX5_add 27 = .ok (.iadd, 1) := by decide +kernel
theorem dX5_add_28 : decode cX5_add 28 = .ok (.putfield 15, 3) := by decide +kernel
theorem dX5_add_31 : decode cX5_add 31 = .ok (.iconst 1, 1) := by decide +kernel
theorem dX5_add_32 : decode cX5_add 32 = .ok (.ireturn, 1) := by decide +kernel
theorem dX5_length_0 : decode cX5_length 0 = .ok (.aload_n 0, 1) := by decide +kernel
theorem dX5_length_1 : decode cX5_length 1 = .ok (.getfield 15, 3) := by decide +kernel
theorem dX5_length_4 : decode cX5_length 4 = .ok (.ireturn, 1) := by decide +kernel
theorem dX5_clear_0 : decode cX5_clear 0 = .ok (.aload_n 0, 1) := by decide +kernel
theorem dX5_clear_1 : decode cX5_clear 1 = .ok (.iconst 0, 1) := by decide +kernel
theorem dX5_clear_2 : decode cX5_clear 2 = .ok (.putfield 15, 3) := by decide +kernel
theorem dX5_clear_5 : decode cX5_clear 5 = .ok (.return_, 1) := by decide +kernel
theorem dX5_faultPlace_0 : decode cX5_faultPlace 0 = .ok (.aload_n 0, 1) := by decide +kernel
theorem dX5_faultPlace_1 : decode cX5_faultPlace 1 = .ok (.getfield 19, 3) := by decide +kernel
theorem dX5_faultPlace_4 : decode cX5_faultPlace 4 = .ok (.ireturn, 1) := by decide +kernel
theorem dX5_read_0 : decode cX5_read 0 = .ok (.aload_n 0, 1) := by decide +kernel
theorem dX5_read_1 : decode cX5_read 1 = .ok (.iconst 0, 1) := by decide +kernel
theorem dX5_read_2 : decode cX5_read 2 = .ok (.putfield 22, 3) := by decide +kernel
theorem dX5_read_5 : decode cX5_read 5 = .ok (.aload_n 0, 1) := by decide +kernel
theorem dX5_read_6 : decode cX5_read 6 = .ok (.iconst 0, 1) := by decide +kernel
theorem dX5_read_7 : decode cX5_read 7 = .ok (.putfield 25, 3) := by decide +kernel
theorem dX5_read_10 : decode cX5_read 10 = .ok (.aload_n 1, 1) := by decide +kernel
theorem dX5_read_11 : decode cX5_read 11 = .ok (.invokevirtual 28, 3) := by decide +kernel
theorem dX5_read_14 : decode cX5_read 14 = .ok (.aload_n 0, 1) := by decide +kernel
theorem dX5_read_15 : decode cX5_read 15 = .ok (.bipush 116, 2) := by decide +kernel
theorem dX5_read_17 : decode cX5_read 17 = .ok (.invokevirtual 33, 3) := by decide +kernel
theorem dX5_read_20 : decode cX5_read 20 = .ok (.aload_n 1, 1) := by decide +kernel
theorem dX5_read_21 : decode cX5_read 21 = .ok (.aload_n 0, 1) := by decide +kernel
theorem dX5_read_22 : decode cX5_read 22 = .ok (.iconst 2, 1) := by decide +kernel
theorem dX5_read_23 : decode cX5_read 23 = .ok (.bipush 9, 2) := by decide +kernel
theorem dX5_read_25 : decode cX5_read 25 = .ok (.invokevirtual 37, 3) := by decide +kernel
theorem dX5_read_28 : decode cX5_read 28 = .ok (.putfield 41, 3) := by decide +kernel
theorem dX5_read_31 : decode cX5_read 31 = .ok (.aload_n 0, 1) := by decide +kernel
theorem dX5_read_32 : decode cX5_read 32 = .ok (.bipush 44, 2) := by decide +kernel
theorem dX5_read_34 : decode cX5_read 34 = .ok (.invokevirtual 33, 3) := by decide +kernel
theorem dX5_read_37 : decode cX5_read 37 = .ok (.aload_n 1, 1) := by decide +kernel
theorem dX5_read_38 : decode cX5_read 38 = .ok (.aload_n 0, 1) := by decide +kernel
theorem dX5_read_39 : decode cX5_read 39 = .ok (.iconst 4, 1) := by decide +kernel
theorem dX5_read_40 : decode cX5_read 40 = .ok (.bipush 24, 2) := by decide +kernel
theorem dX5_read_42 : decode cX5_read 42 = .ok (.invokevirtual 37, 3) := by decide +kernel
theorem dX5_read_45 : decode cX5_read 45 = .ok (.putfield 44, 3) := by decide +kernel
theorem dX5_read_48 : decode cX5_read 48 = .ok (.aload_n 0, 1) := by decide +kernel
theorem dX5_read_49 : decode cX5_read 49 = .ok (.bipush 59, 2) := by decide +kernel
theorem dX5_read_51 : decode cX5_read 51 = .ok (.invokevirtual 33, 3) := by decide +kernel
theorem dX5_read_54 : decode cX5_read 54 = .ok (.aload_n 0, 1) := by decide +kernel
theorem dX5_read_55 : decode cX5_read 55 = .ok (.aload_n 1, 1) := by decide +kernel
theorem dX5_read_56 : decode cX5_read 56 = .ok (.invokevirtual 47, 3) := by decide +kernel
theorem dX5_read_59 : decode cX5_read 59 = .ok (.iconst 1, 1) := by decide +kernel
theorem dX5_read_60 : decode cX5_read 60 = .ok (.istore_n 2, 1) := by decide +kernel
theorem dX5_read_61 : decode cX5_read 61 = .ok (.iload_n 2, 1) := by decide +kernel
theorem dX5_read_62 : decode cX5_read 62 = .ok (.bipush 6, 2) := by decide +kernel
theorem dX5_read_64 : decode cX5_read 64 = .ok (.if_icmp .gt 32, 3) := by decide +kernel
theorem dX5_read_67 : decode cX5_read 67 = .ok (.aload_n 0, 1) := by decide +kernel
theorem dX5_read_68 : decode cX5_read 68 = .ok (.getfield 25, 3) := by decide +kernel
theorem dX5_read_71 : decode cX5_read 71 = .ok (.ifCond .ne 25, 3) := by decide +kernel
theorem dX5_read_74 : decode cX5_read 74 = .ok (.aload_n 0, 1) := by decide +kernel
theorem dX5_read_75 : decode cX5_read 75 = .ok (.getfield 22, 3) := by decide +kernel
theorem dX5_read_78 : decode cX5_read 78 = .ok (.aload_n 0, 1) := by decide +kernel
theorem dX5_read_79 : decode cX5_read 79 = .ok (.getfield 15, 3) := by decide +kernel
theorem dX5_read_82 : decode cX5_read 82 = .ok (.if_icmp .ge 14, 3) := by decide +kernel
theorem dX5_read_85 : decode cX5_read 85 = .ok (.aload_n 0, 1) := by decide +kernel
theorem dX5_read_86 : decode cX5_read 86 = .ok (.aload_n 1, 1) := by decide +kernel
theorem dX5_read_87 : decode cX5_read 87 = .ok (.invokevirtual 47, 3) := by decide +kernel
theorem dX5_read_90 : decode cX5_read 90 = .ok (.iinc 2 1, 3) := by decide +kernel
theorem dX5_read_93 : decode cX5_read 93 = .ok (.goto (-32), 3) := by decide +kernel
theorem dX5_read_96 : decode cX5_read 96 = .ok (.aload_n 0, 1) := by decide +kernel
theorem dX5_read_97 : decode cX5_read 97 = .ok (.getfield 25, 3) := by decide +kernel
theorem dX5_read_100 : decode cX5_read 100 = .ok (.ireturn, 1) := by decide +kernel
theorem dX5_readPerson_0 : decode cX5_readPerson 0 = .ok (.aload_n 0, 1) := by decide +kernel
theorem dX5_readPerson_1 : decode cX5_readPerson 1 = .ok (.aload_n 1, 1) := by decide +kernel
theorem dX5_readPerson_2 : decode cX5_readPerson 2 = .ok (.getfield 51, 3) := by decide +kernel
theorem dX5_readPerson_5 : decode cX5_readPerson 5 = .ok (.invokevirtual 54, 3) := by decide +kernel
theorem dX5_readPerson_8 : decode cX5_readPerson 8 = .ok (.istore_n 2, 1) := by decide +kernel
theorem dX5_readPerson_9 : decode cX5_readPerson 9 = .ok (.aload_n 0, 1) := by decide +kernel
theorem dX5_readPerson_10 : decode cX5_readPerson 10 = .ok (.iconst 0, 1) := by decide +kernel
theorem dX5_readPerson_11 : decode cX5_readPerson 11 = .ok (.aload_n 1, 1) := by decide +kernel
theorem dX5_readPerson_12 : decode cX5_readPerson 12 = .ok (.getfield 41, 3) := by decide +kernel
theorem dX5_readPerson_15 : decode cX5_readPerson 15 = .ok (.iconst 1, 1) := by decide +kernel
theorem dX5_readPerson_16 : decode cX5_readPerson 16 = .ok (.isub, 1) := by decide +kernel
theorem dX5_readPerson_17 : decode cX5_readPerson 17 = .ok (.invokevirtual 37, 3) := by decide +kernel
theorem dX5_readPerson_20 : decode cX5_readPerson 20 = .ok (.istore_n 3, 1) := by decide +kernel
theorem dX5_readPerson_21 : decode cX5_readPerson 21 = .ok (.aload_n 0, 1) := by decide +kernel
theorem dX5_readPerson_22 : decode cX5_readPerson 22 = .ok (.bipush 44, 2) := by decide +kernel
theorem dX5_readPerson_24 : decode cX5_readPerson 24 = .ok (.invokevirtual 33, 3) := by decide +kernel
theorem dX5_readPerson_27 : decode cX5_readPerson 27 = .ok (.aload_n 0, 1) := by decide +kernel
theorem dX5_readPerson_28 : decode cX5_readPerson 28 = .ok (.iconst 0, 1) := by decide +kernel
theorem dX5_readPerson_29 : decode cX5_readPerson 29 = .ok (.aload_n 1, 1) := by decide +kernel
theorem dX5_readPerson_30 : decode cX5_readPerson 30 = .ok (.getfield 41, 3) := by decide +kernel
theorem dX5_readPerson_33 : decode cX5_readPerson 33 = .ok (.iconst 1, 1) := by decide +kernel
theorem dX5_readPerson_34 : decode cX5_readPerson 34 = .ok (.isub, 1) := by decide +kernel
theorem dX5_readPerson_35 : decode cX5_readPerson 35 = .ok (.invokevirtual 37, 3) := by decide +kernel
theorem dX5_readPerson_38 : decode cX5_readPerson 38 = .ok (.istore 4, 2) := by decide +kernel
theorem dX5_readPerson_40 : decode cX5_readPerson 40 = .ok (.aload_n 0, 1) := by decide +kernel
theorem dX5_readPerson_41 : decode cX5_readPerson 41 = .ok (.bipush 44, 2) := by decide +kernel
theorem dX5_readPerson_43 : decode cX5_readPerson 43 = .ok (.invokevirtual 33, 3) := by decide +kernel
theorem dX5_readPerson_46 : decode cX5_readPerson 46 = .ok (.aload_n 0, 1) := by decide +kernel
theorem dX5_readPerson_47 : decode cX5_readPerson 47 = .ok (.iconst 0, 1) := by decide +kernel
theorem dX5_readPerson_48 : decode cX5_readPerson 48 = .ok (.bipush 23, 2) := by decide +kernel
theorem dX5_readPerson_50 : decode cX5_readPerson 50 = .ok (.invokevirtual 37, 3) := by decide +kernel
theorem dX5_readPerson_53 : decode cX5_readPerson 53 = .ok (.istore 5, 2) := by decide +kernel
theorem dX5_readPerson_55 : decode cX5_readPerson 55 = .ok (.aload_n 0, 1) := by decide +kernel
theorem dX5_readPerson_56 : decode cX5_readPerson 56 = .ok (.bipush 59, 2) := by decide +kernel
theorem dX5_readPerson_58 : decode cX5_readPerson 58 = .ok (.invokevirtual 33, 3) := by decide +kernel
theorem dX5_readPerson_61 : decode cX5_readPerson 61 = .ok (.aload_n 0, 1) := by decide +kernel
theorem dX5_readPerson_62 : decode cX5_readPerson 62 = .ok (.getfield 25, 3) := by decide +kernel
theorem dX5_readPerson_65 : decode cX5_readPerson 65 = .ok (.ifCond .ne 13, 3) := by decide +kernel
theorem dX5_readPerson_68 : decode cX5_readPerson 68 = .ok (.aload_n 1, 1) := by decide +kernel
theorem dX5_readPerson_69 : decode cX5_readPerson 69 = .ok (.iload_n 2, 1) := by decide +kernel
theorem dX5_readPerson_70 : decode cX5_readPerson 70 = .ok (.iload_n 3, 1) := by decide +kernel
theorem dX5_readPerson_71 : decode cX5_readPerson 71 = .ok (.iload 4, 2) := by decide +kernel
theorem dX5_readPerson_73 : decode cX5_readPerson 73 = .ok (.iload 5, 2) := by decide +kernel
theorem dX5_readPerson_75 : decode cX5_readPerson 75 = .ok (.invokevirtual 58, 3) := by decide +kernel
theorem dX5_readPerson_78 : decode cX5_readPerson 78 = .ok (.return_, 1) := by decide +kernel
theorem dX5_readSort_0 : decode cX5_readSort 0 = .ok (.aload_n 0, 1) := by decide +kernel
theorem dX5_readSort_1 : decode cX5_readSort 1 = .ok (.getfield 22, 3) := by decide +kernel
theorem dX5_readSort_4 : decode cX5_readSort 4 = .ok (.aload_n 0, 1) := by decide +kernel
theorem dX5_readSort_5 : decode cX5_readSort 5 = .ok (.getfield 15, 3) := by decide +kernel
theorem dX5_readSort_8 : decode cX5_readSort 8 = .ok (.if_icmp .ge 18, 3) := by decide +kernel
theorem dX5_readSort_11 : decode cX5_readSort 11 = .ok (.aload_n 0, 1) := by decide +kernel
theorem dX5_readSort_12 : decode cX5_readSort 12 = .ok (.getfield 11, 3) := by decide +kernel
theorem dX5_readSort_15 : decode cX5_readSort 15 = .ok (.aload_n 0, 1) := by decide +kernel
theorem dX5_readSort_16 : decode cX5_readSort 16 = .ok (.getfield 22, 3) := by decide +kernel
theorem dX5_readSort_19 : decode cX5_readSort 19 = .ok (.iaload, 1) := by decide +kernel
theorem dX5_readSort_20 : decode cX5_readSort 20 = .ok (.invokestatic 62, 3) := by decide +kernel
theorem dX5_readSort_23 : decode cX5_readSort 23 = .ok (.goto 4, 3) := by decide +kernel
theorem dX5_readSort_26 : decode cX5_readSort 26 = .ok (.iconst 0, 1) := by decide +kernel
theorem dX5_readSort_27 : decode cX5_readSort 27 = .ok (.istore_n 2, 1) := by decide +kernel
theorem dX5_readSort_28 : decode cX5_readSort 28 = .ok (.iload_n 2, 1) := by decide +kernel
theorem dX5_readSort_29 : decode cX5_readSort 29 = .ok (.ifCond .ne 11, 3) := by decide +kernel
theorem dX5_readSort_32 : decode cX5_readSort 32 = .ok (.aload_n 0, 1) := by decide +kernel
theorem dX5_readSort_33 : decode cX5_readSort 33 = .ok (.iconst 1, 1) := by decide +kernel
theorem dX5_readSort_34 : decode cX5_readSort 34 = .ok (.invokevirtual 65, 3) := by decide +kernel
theorem dX5_readSort_37 : decode cX5_readSort 37 = .ok (.goto 14, 3) := by decide +kernel
theorem dX5_readSort_40 : decode cX5_readSort 40 = .ok (.iload_n 1, 1) := by decide +kernel
theorem dX5_readSort_41 : decode cX5_readSort 41 = .ok (.bipush 6, 2) := by decide +kernel
theorem dX5_readSort_43 : decode cX5_readSort 43 = .ok (.if_icmp .lt 8, 3) := by decide +kernel
theorem dX5_readSort_46 : decode cX5_readSort 46 = .ok (.aload_n 0, 1) := by decide +kernel
theorem dX5_readSort_47 : decode cX5_readSort 47 = .ok (.iconst 3, 1) := by decide +kernel
theorem dX5_readSort_48 : decode cX5_readSort 48 = .ok (.invokevirtual 65, 3) := by decide +kernel
theorem dX5_readSort_51 : decode cX5_readSort 51 = .ok (.aload_n 0, 1) := by decide +kernel
theorem dX5_readSort_52 : decode cX5_readSort 52 = .ok (.dup, 1) := by decide +kernel
theorem dX5_readSort_53 : decode cX5_readSort 53 = .ok (.getfield 22, 3) := by decide +kernel
theorem dX5_readSort_56 : decode cX5_readSort 56 = .ok (.iconst 1, 1) := by decide +kernel
theorem dX5_readSort_57 : decode cX5_readSort 57 = .ok (.iadd, 1) := by decide +kernel
theorem dX5_readSort_58 : decode cX5_readSort 58 = .ok (.putfield 22, 3) := by decide +kernel
theorem dX5_readSort_61 : decode cX5_readSort 61 = .ok (.iload_n 2, 1) := by decide +kernel
theorem dX5_readSort_62 : decode cX5_readSort 62 = .ok (.ireturn, 1) := by decide +kernel
theorem dX5_kindOf_0 : decode cX5_kindOf 0 = .ok (.iload_n 0, 1) := by decide +kernel
theorem dX5_kindOf_1 : decode cX5_kindOf 1 = .ok (.lookupswitch 61 #[(98, 59), (99, 53), (100, 55), (109, 57), (119, 51)], 51) := by decide +kernel
theorem dX5_kindOf_52 : decode cX5_kindOf 52 = .ok (.iconst 1, 1) := by decide +kernel
theorem dX5_kindOf_53 : decode cX5_kindOf 53 = .ok (.ireturn, 1) := by decide +kernel
theorem dX5_kindOf_54 : decode cX5_kindOf 54 = .ok (.iconst 2, 1) := by decide +kernel
theorem dX5_kindOf_55 : decode cX5_kindOf 55 = .ok (.ireturn, 1) := by decide +kernel
theorem dX5_kindOf_56 : decode cX5_kindOf 56 = .ok (.iconst 3, 1) := by decide +kernel
theorem dX5_kindOf_57 : decode cX5_kindOf 57 = .ok (.ireturn, 1) := by decide +kernel
theorem dX5_kindOf_58 : decode cX5_kindOf 58 = .ok (.iconst 4, 1) := by decide +kernel
theorem dX5_kindOf_59 : decode cX5_kindOf 59 = .ok (.ireturn, 1) := by decide +kernel
theorem dX5_kindOf_60 : decode cX5_kindOf 60 = .ok (.iconst 5, 1) := by decide +kernel
theorem dX5_kindOf_61 : decode cX5_kindOf 61 = .ok (.ireturn, 1) := by decide +kernel
theorem dX5_kindOf_62 : decode cX5_kindOf 62 = .ok (.iconst 0, 1) := by decide +kernel
theorem dX5_kindOf_63 : decode cX5_kindOf 63 = .ok (.ireturn, 1) := by decide +kernel
theorem dX5_readSign_0 : decode cX5_readSign 0 = .ok (.aload_n 0, 1) := by decide +kernel
theorem dX5_readSign_1 : decode cX5_readSign 1 = .ok (.getfield 22, 3) := by decide +kernel
theorem dX5_readSign_4 : decode cX5_readSign 4 = .ok (.aload_n 0, 1) := by decide +kernel
theorem dX5_readSign_5 : decode cX5_readSign 5 = .ok (.getfield 15, 3) := by decide +kernel
theorem dX5_readSign_8 : decode cX5_readSign 8 = .ok (.if_icmp .ge 16, 3) := by decide +kernel
theorem dX5_readSign_11 : decode cX5_readSign 11 = .ok (.aload_n 0, 1) := by decide +kernel
theorem dX5_readSign_12 : decode cX5_readSign 12 = .ok (.getfield 11, 3) := by decide +kernel
theorem dX5_readSign_15 : decode cX5_readSign 15 = .ok (.aload_n 0, 1) := by decide +kernel
theorem dX5_readSign_16 : decode cX5_readSign 16 = .ok (.getfield 22, 3) := by decide +kernel
theorem dX5_readSign_19 : decode cX5_readSign 19 = .ok (.iaload, 1) := by decide +kernel
theorem dX5_readSign_20 : decode cX5_readSign 20 = .ok (.iload_n 1, 1) := by decide +kernel
theorem dX5_readSign_21 : decode cX5_readSign 21 = .ok (.if_icmp .eq 8, 3) := by decide +kernel
theorem dX5_readSign_24 : decode cX5_readSign 24 = .ok (.aload_n 0, 1) := by decide +kernel
theorem dX5_readSign_25 : decode cX5_readSign 25 = .ok (.iconst 1, 1) := by decide +kernel
theorem dX5_readSign_26 : decode cX5_readSign 26 = .ok (.invokevirtual 65, 3) := by decide +kernel
theorem dX5_readSign_29 : decode cX5_readSign 29 = .ok (.aload_n 0, 1) := by decide +kernel
theorem dX5_readSign_30 : decode cX5_readSign 30 = .ok (.dup, 1) := by decide +kernel
theorem dX5_readSign_31 : decode cX5_readSign 31 = .ok (.getfield 22, 3) := by decide +kernel
theorem dX5_readSign_34 : decode cX5_readSign 34 = .ok (.iconst 1, 1) := by decide +kernel
theorem dX5_readSign_35 : decode cX5_readSign 35 = .ok (.iadd, 1) := by decide +kernel
theorem dX5_readSign_36 : decode cX5_readSign 36 = .ok (.putfield 22, 3) := by decide +kernel
theorem dX5_readSign_39 : decode cX5_readSign 39 = .ok (.return_, 1) := by decide +kernel
theorem dX5_readNumber_0 : decode cX5_readNumber 0 = .ok (.aload_n 0, 1) := by decide +kernel
theorem dX5_readNumber_1 : decode cX5_readNumber 1 = .ok (.getfield 22, 3) := by decide +kernel
theorem dX5_readNumber_4 : decode cX5_readNumber 4 = .ok (.istore_n 3, 1) := by decide +kernel
theorem dX5_readNumber_5 : decode cX5_readNumber 5 = .ok (.iconst 0, 1) := by decide +kernel
theorem dX5_readNumber_6 : decode cX5_readNumber 6 = .ok (.istore 4, 2) := by decide +kernel
theorem dX5_readNumber_8 : decode cX5_readNumber 8 = .ok (.iload_n 3, 1) := by decide +kernel
theorem dX5_readNumber_9 : decode cX5_readNumber 9 = .ok (.istore 5, 2) := by decide +kernel
theorem dX5_readNumber_11 : decode cX5_readNumber 11 = .ok (.iload 5, 2) := by decide +kernel
theorem dX5_readNumber_13 : decode cX5_readNumber 13 = .ok (.aload_n 0, 1) := by decide +kernel
theorem dX5_readNumber_14 : decode cX5_readNumber 14 = .ok (.getfield 15, 3) := by decide +kernel
theorem dX5_readNumber_17 : decode cX5_readNumber 17 = .ok (.if_icmp .ge 60, 3) := by decide +kernel
theorem dX5_readNumber_20 : decode cX5_readNumber 20 = .ok (.aload_n 0, 1) := by decide +kernel
theorem dX5_readNumber_21 : decode cX5_readNumber 21 = .ok (.getfield 11, 3) := by decide +kernel
theorem dX5_readNumber_24 : decode cX5_readNumber 24 = .ok (.iload 5, 2) := by decide +kernel
theorem dX5_readNumber_26 : decode cX5_readNumber 26 = .ok (.iaload, 1) := by decide +kernel
theorem dX5_readNumber_27 : decode cX5_readNumber 27 = .ok (.invokestatic 68, 3) := by decide +kernel
theorem dX5_readNumber_30 : decode cX5_readNumber 30 = .ok (.ifCond .eq 47, 3) := by decide +kernel
theorem dX5_readNumber_33 : decode cX5_readNumber 33 = .ok (.aload_n 0, 1) := by decide +kernel
theorem dX5_readNumber_34 : decode cX5_readNumber 34 = .ok (.getfield 22, 3) := by decide +kernel
theorem dX5_readNumber_37 : decode cX5_readNumber 37 = .ok (.iload_n 3, 1) := by decide +kernel
theorem dX5_readNumber_38 : decode cX5_readNumber 38 = .ok (.isub, 1) := by decide +kernel
theorem dX5_readNumber_39 : decode cX5_readNumber 39 = .ok (.iconst 2, 1) := by decide +kernel
theorem dX5_readNumber_40 : decode cX5_readNumber 40 = .ok (.if_icmp .gt 37, 3) := by decide +kernel
theorem dX5_readNumber_43 : decode cX5_readNumber 43 = .ok (.iload 4, 2) := by decide +kernel
theorem dX5_readNumber_45 : decode cX5_readNumber 45 = .ok (.bipush 10, 2) := by decide +kernel
theorem dX5_readNumber_47 : decode cX5_readNumber 47 = .ok (.imul, 1) := by decide +kernel
theorem dX5_readNumber_48 : decode cX5_readNumber 48 = .ok (.aload_n 0, 1) := by decide +kernel
theorem dX5_readNumber_49 : decode cX5_readNumber 49 = .ok (.getfield 11, 3) := by decide +kernel
theorem dX5_readNumber_52 : decode cX5_readNumber 52 = .ok (.iload 5, 2) := by decide +kernel
theorem dX5_readNumber_54 : decode cX5_readNumber 54 = .ok (.iaload, 1) := by decide +kernel
theorem dX5_readNumber_55 : decode cX5_readNumber 55 = .ok (.iadd, 1) := by decide +kernel
theorem dX5_readNumber_56 : decode cX5_readNumber 56 = .ok (.bipush 48, 2) := by decide +kernel
theorem dX5_readNumber_58 : decode cX5_readNumber 58 = .ok (.isub, 1) := by decide +kernel
theorem dX5_readNumber_59 : decode cX5_readNumber 59 = .ok (.istore 4, 2) := by decide +kernel
theorem dX5_readNumber_61 : decode cX5_readNumber 61 = .ok (.aload_n 0, 1) := by decide +kernel
theorem dX5_readNumber_62 : decode cX5_readNumber 62 = .ok (.dup, 1) := by decide +kernel
theorem dX5_readNumber_63 : decode cX5_readNumber 63 = .ok (.getfield 22, 3) := by decide +kernel
theorem dX5_readNumber_66 : decode cX5_readNumber 66 = .ok (.iconst 1, 1) := by decide +kernel
theorem dX5_readNumber_67 : decode cX5_readNumber 67 = .ok (.iadd, 1) := by decide +kernel
theorem dX5_readNumber_68 : decode cX5_readNumber 68 = .ok (.putfield 22, 3) := by decide +kernel
theorem dX5_readNumber_71 : decode cX5_readNumber 71 = .ok (.iinc 5 1, 3) := by decide +kernel
theorem dX5_readNumber_74 : decode cX5_readNumber 74 = .ok (.goto (-63), 3) := by decide +kernel
theorem dX5_readNumber_77 : decode cX5_readNumber 77 = .ok (.aload_n 0, 1) := by decide +kernel
theorem dX5_readNumber_78 : decode cX5_readNumber 78 = .ok (.getfield 22, 3) := by decide +kernel
theorem dX5_readNumber_81 : decode cX5_readNumber 81 = .ok (.iload_n 3, 1) := by decide +kernel
theorem dX5_readNumber_82 : decode cX5_readNumber 82 = .ok (.isub, 1) := by decide +kernel
theorem dX5_readNumber_83 : decode cX5_readNumber 83 = .ok (.istore 5, 2) := by decide +kernel
theorem dX5_readNumber_85 : decode cX5_readNumber 85 = .ok (.iload 5, 2) := by decide +kernel
theorem dX5_readNumber_87 : decode cX5_readNumber 87 = .ok (.ifCond .eq 9, 3) := by decide +kernel
theorem dX5_readNumber_90 : decode cX5_readNumber 90 = .ok (.iload 5, 2) := by decide +kernel
theorem dX5_readNumber_92 : decode cX5_readNumber 92 = .ok (.iconst 2, 1) := by decide +kernel
theorem dX5_readNumber_93 : decode cX5_readNumber 93 = .ok (.if_icmp .le 12, 3) := by decide +kernel
theorem dX5_readNumber_96 : decode cX5_readNumber 96 = .ok (.aload_n 0, 1) := by decide +kernel
theorem dX5_readNumber_97 : decode cX5_readNumber 97 = .ok (.iconst 1, 1) := by decide +kernel
theorem dX5_readNumber_98 : decode cX5_readNumber 98 = .ok (.iload_n 3, 1) := by decide +kernel
theorem dX5_readNumber_99 : decode cX5_readNumber 99 = .ok (.invokevirtual 72, 3) := by decide +kernel
theorem dX5_readNumber_102 : decode cX5_readNumber 102 = .ok (.goto 19, 3) := by decide +kernel
theorem dX5_readNumber_105 : decode cX5_readNumber 105 = .ok (.iload 4, 2) := by decide +kernel
theorem dX5_readNumber_107 : decode cX5_readNumber 107 = .ok (.iload_n 1, 1) := by decide +kernel
theorem dX5_readNumber_108 : decode cX5_readNumber 108 = .ok (.iload_n 2, 1) := by decide +kernel
theorem dX5_readNumber_109 : decode cX5_readNumber 109 = .ok (.invokestatic 76, 3) := by decide +kernel
theorem dX5_readNumber_112 : decode cX5_readNumber 112 = .ok (.ifCond .ne 9, 3) := by decide +kernel
theorem dX5_readNumber_115 : decode cX5_readNumber 115 = .ok (.aload_n 0, 1) := by decide +kernel
theorem dX5_readNumber_116 : decode cX5_readNumber 116 = .ok (.iconst 2, 1) := by decide +kernel
theorem dX5_readNumber_117 : decode cX5_readNumber 117 = .ok (.iload_n 3, 1) := by decide +kernel
theorem dX5_readNumber_118 : decode cX5_readNumber 118 = .ok (.invokevirtual 72, 3) := by decide +kernel
theorem dX5_readNumber_121 : decode cX5_readNumber 121 = .ok (.iload 4, 2) := by decide +kernel
theorem dX5_readNumber_123 : decode cX5_readNumber 123 = .ok (.ireturn, 1) := by decide +kernel
theorem dX5_isFigure_0 : decode cX5_isFigure 0 = .ok (.iload_n 0, 1) := by decide +kernel
theorem dX5_isFigure_1 : decode cX5_isFigure 1 = .ok (.bipush 48, 2) := by decide +kernel
theorem dX5_isFigure_3 : decode cX5_isFigure 3 = .ok (.if_icmp .lt 13, 3) := by decide +kernel
theorem dX5_isFigure_6 : decode cX5_isFigure 6 = .ok (.iload_n 0, 1) := by decide +kernel
theorem dX5_isFigure_7 : decode cX5_isFigure 7 = .ok (.bipush 57, 2) := by decide +kernel
theorem dX5_isFigure_9 : decode cX5_isFigure 9 = .ok (.if_icmp .gt 7, 3) := by decide +kernel
theorem dX5_isFigure_12 : decode cX5_isFigure 12 = .ok (.iconst 1, 1) := by decide +kernel
theorem dX5_isFigure_13 : decode cX5_isFigure 13 = .ok (.goto 4, 3) := by decide +kernel
theorem dX5_isFigure_16 : decode cX5_isFigure 16 = .ok (.iconst 0, 1) := by decide +kernel
theorem dX5_isFigure_17 : decode cX5_isFigure 17 = .ok (.ireturn, 1) := by decide +kernel
theorem dX5_fail_0 : decode cX5_fail 0 = .ok (.aload_n 0, 1) := by decide +kernel
theorem dX5_fail_1 : decode cX5_fail 1 = .ok (.iload_n 1, 1) := by decide +kernel
theorem dX5_fail_2 : decode cX5_fail 2 = .ok (.aload_n 0, 1) := by decide +kernel
theorem dX5_fail_3 : decode cX5_fail 3 = .ok (.getfield 22, 3) := by decide +kernel
theorem dX5_fail_6 : decode cX5_fail 6 = .ok (.invokevirtual 72, 3) := by decide +kernel
theorem dX5_fail_9 : decode cX5_fail 9 = .ok (.return_, 1) := by decide +kernel
theorem dX5_failAt_0 : decode cX5_failAt 0 = .ok (.aload_n 0, 1) := by decide +kernel
theorem dX5_failAt_1 : decode cX5_failAt 1 = .ok (.getfield 25, 3) := by decide +kernel
theorem dX5_failAt_4 : decode cX5_failAt 4 = .ok (.ifCond .ne 13, 3) := by decide +kernel
theorem dX5_failAt_7 : decode cX5_failAt 7 = .ok (.aload_n 0, 1) := by decide +kernel
theorem dX5_failAt_8 : decode cX5_failAt 8 = .ok (.iload_n 1, 1) := by decide +kernel
theorem dX5_failAt_9 : decode cX5_failAt 9 = .ok (.putfield 25, 3) := by decide +kernel
theorem dX5_failAt_12 : decode cX5_failAt 12 = .ok (.aload_n 0, 1) := by decide +kernel
theorem dX5_failAt_13 : decode cX5_failAt 13 = .ok (.iload_n 2, 1) := by decide +kernel
theorem dX5_failAt_14 : decode cX5_failAt 14 = .ok (.putfield 19, 3) := by decide +kernel
theorem dX5_failAt_17 : decode cX5_failAt 17 = .ok (.return_, 1) := by decide +kernel
theorem dX6_init_0 : decode cX6_init 0 = .ok (.aload_n 0, 1) := by decide +kernel
theorem dX6_init_1 : decode cX6_init 1 = .ok (.invokespecial 3, 3) := by decide +kernel
theorem dX6_init_4 : decode cX6_init 4 = .ok (.aload_n 0, 1) := by decide +kernel
theorem dX6_init_5 : decode cX6_init 5 = .ok (.bipush 6, 2) := by decide +kernel
theorem dX6_init_7 : decode cX6_init 7 = .ok (.newarray .int, 2) := by decide +kernel
theorem dX6_init_9 : decode cX6_init 9 = .ok (.putfield 9, 3) := by decide +kernel
theorem dX6_init_12 : decode cX6_init 12 = .ok (.aload_n 0, 1) := by decide +kernel
theorem dX6_init_13 : decode cX6_init 13 = .ok (.bipush 6, 2) := by decide +kernel
theorem dX6_init_15 : decode cX6_init 15 = .ok (.newarray .int, 2) := by decide +kernel
theorem dX6_init_17 : decode cX6_init 17 = .ok (.putfield 15, 3) := by decide +kernel
theorem dX6_init_20 : decode cX6_init 20 = .ok (.aload_n 0, 1) := by decide +kernel
theorem dX6_init_21 : decode cX6_init 21 = .ok (.bipush 6, 2) := by decide +kernel
theorem dX6_init_23 : decode cX6_init 23 = .ok (.newarray .int, 2) := by decide +kernel
theorem dX6_init_25 : decode cX6_init 25 = .ok (.putfield 18, 3) := by decide +kernel
theorem dX6_init_28 : decode cX6_init 28 = .ok (.aload_n 0, 1) := by decide +kernel
theorem dX6_init_29 : decode cX6_init 29 = .ok (.bipush 6, 2) := by decide +kernel
theorem dX6_init_31 : decode cX6_init 31 = .ok (.newarray .int, 2) := by decide +kernel
theorem dX6_init_33 : decode cX6_init 33 = .ok (.putfield 21, 3) := by decide +kernel
theorem dX6_init_36 : decode cX6_init 36 = .ok (.aload_n 0, 1) := by decide +kernel
theorem dX6_init_37 : decode cX6_init 37 = .ok (.iconst 4, 1) := by decide +kernel
theorem dX6_init_38 : decode cX6_init 38 = .ok (.newarray .int, 2) := by decide +kernel
theorem dX6_init_40 : decode cX6_init 40 = .ok (.putfield 24, 3) := by decide +kernel
theorem dX6_init_43 : decode cX6_init 43 = .ok (.aload_n 0, 1) := by decide +kernel
theorem dX6_init_44 : decode cX6_init 44 = .ok (.iconst 4, 1) := by decide +kernel
theorem dX6_init_45 : decode cX6_init 45 = .ok (.newarray .int, 2) := by decide +kernel
theorem dX6_init_47 : decode cX6_init 47 = .ok (.putfield 27, 3) := by decide +kernel
theorem dX6_init_50 : decode cX6_init 50 = .ok (.return_, 1) := by decide +kernel
theorem dX6_stands_0 : decode cX6_stands 0 = .ok (.aload_n 0, 1) := by decide +kernel
theorem dX6_stands_1 : decode cX6_stands 1 = .ok (.getfield 30, 3) := by decide +kernel
theorem dX6_stands_4 : decode cX6_stands 4 = .ok (.ifCond .le 7, 3) := by decide +kernel
theorem dX6_stands_7 : decode cX6_stands 7 = .ok (.iconst 1, 1) := by decide +kernel
theorem dX6_stands_8 : decode cX6_stands 8 = .ok (.goto 4, 3) := by decide +kernel
theorem dX6_stands_11 : decode cX6_stands 11 = .ok (.iconst 0, 1) := by decide +kernel
theorem dX6_stands_12 : decode cX6_stands 12 = .ok (.ireturn, 1) := by decide +kernel
theorem dX6_clear_0 : decode cX6_clear 0 = .ok (.aload_n 0, 1) := by decide +kernel
theorem dX6_clear_1 : decode cX6_clear 1 = .ok (.iconst 0, 1) := by decide +kernel
theorem dX6_clear_2 : decode cX6_clear 2 = .ok (.putfield 30, 3) := by decide +kernel
theorem dX6_clear_5 : decode cX6_clear 5 = .ok (.aload_n 0, 1) := by decide +kernel
theorem dX6_clear_6 : decode cX6_clear 6 = .ok (.iconst 0, 1) := by decide +kernel
theorem dX6_clear_7 : decode cX6_clear 7 = .ok (.putfield 34, 3) := by decide +kernel
theorem dX6_clear_10 : decode cX6_clear 10 = .ok (.aload_n 0, 1) := by decide +kernel
theorem dX6_clear_11 : decode cX6_clear 11 = .ok (.iconst 0, 1) := by decide +kernel
theorem dX6_clear_12 : decode cX6_clear 12 = .ok (.putfield 37, 3) := by decide +kernel
theorem dX6_clear_15 : decode cX6_clear 15 = .ok (.aload_n 0, 1) := by decide +kernel
theorem dX6_clear_16 : decode cX6_clear 16 = .ok (.iconst 0, 1) := by decide +kernel
theorem dX6_clear_17 : decode cX6_clear 17 = .ok (.putfield 40, 3) := by decide +kernel
theorem dX6_clear_20 : decode cX6_clear 20 = .ok (.aload_n 0, 1) := by decide +kernel
theorem dX6_clear_21 : decode cX6_clear 21 = .ok (.iconst 0, 1) := by decide +kernel
theorem dX6_clear_22 : decode cX6_clear 22 = .ok (.putfield 43, 3) := by decide +kernel
theorem dX6_clear_25 : decode cX6_clear 25 = .ok (.aload_n 0, 1) := by decide +kernel
theorem dX6_clear_26 : decode cX6_clear 26 = .ok (.iconst 0, 1) := by decide +kernel
theorem dX6_clear_27 : decode cX6_clear 27 = .ok (.putfield 46, 3) := by decide +kernel
theorem dX6_clear_30 : decode cX6_clear 30 = .ok (.return_, 1) := by decide +kernel
theorem dX6_take_0 : decode cX6_take 0 = .ok (.aload_n 0, 1) := by decide +kernel
theorem dX6_take_1 : decode cX6_take 1 = .ok (.aload_n 1, 1) := by decide +kernel
theorem dX6_take_2 : decode cX6_take 2 = .ok (.getfield 30, 3) := by decide +kernel
theorem dX6_take_5 : decode cX6_take 5 = .ok (.putfield 30, 3) := by decide +kernel
theorem dX6_take_8 : decode cX6_take 8 = .ok (.aload_n 0, 1) := by decide +kernel
theorem dX6_take_9 : decode cX6_take 9 = .ok (.aload_n 1, 1) := by decide +kernel
theorem dX6_take_10 : decode cX6_take 10 = .ok (.getfield 34, 3) := by decide +kernel
theorem dX6_take_13 : decode cX6_take 13 = .ok (.putfield 34, 3) := by decide +kernel
theorem dX6_take_16 : decode cX6_take 16 = .ok (.aload_n 0, 1) := by decide +kernel
theorem dX6_take_17 : decode cX6_take 17 = .ok (.aload_n 1, 1) := by decide +kernel
theorem dX6_take_18 : decode cX6_take 18 = .ok (.getfield 37, 3) := by decide +kernel
theorem dX6_take_21 : decode cX6_take 21 = .ok (.putfield 37, 3) := by decide +kernel
theorem dX6_take_24 : decode cX6_take 24 = .ok (.aload_n 0, 1) := by decide +kernel
theorem dX6_take_25 : decode cX6_take 25 = .ok (.aload_n 1, 1) := by decide +kernel
theorem dX6_take_26 : decode cX6_take 26 = .ok (.getfield 46, 3) := by decide +kernel
theorem dX6_take_29 : decode cX6_take 29 = .ok (.putfield 46, 3) := by decide +kernel
theorem dX6_take_32 : decode cX6_take 32 = .ok (.iconst 0, 1) := by decide +kernel
theorem dX6_take_33 : decode cX6_take 33 = .ok (.istore_n 2, 1) := by decide +kernel
theorem dX6_take_34 : decode cX6_take 34 = .ok (.iload_n 2, 1) := by decide +kernel
theorem dX6_take_35 : decode cX6_take 35 = .ok (.bipush 6, 2) := by decide +kernel
theorem dX6_take_37 : decode cX6_take 37 = .ok (.if_icmp .ge 57, 3) := by decide +kernel
theorem dX6_take_40 : decode cX6_take 40 = .ok (.aload_n 0, 1) := by decide +kernel
theorem dX6_take_41 : decode cX6_take 41 = .ok (.getfield 9, 3) := by decide +kernel
theorem dX6_take_44 : decode cX6_take 44 = .ok (.iload_n 2, 1) := by decide +kernel
theorem dX6_take_45 : decode cX6_take 45 = .ok (.aload_n 1, 1) := by decide +kernel
theorem dX6_take_46 : decode cX6_take 46 = .ok (.getfield 9, 3) := by decide +kernel
theorem dX6_take_49 : decode cX6_take 49 = .ok (.iload_n 2, 1) := by decide +kernel
theorem dX6_take_50 : decode cX6_take 50 = .ok (.iaload, 1) := by decide +kernel
theorem dX6_take_51 : decode cX6_take 51 = .ok (.iastore, 1) := by decide +kernel
theorem dX6_take_52 : decode cX6_take 52 = .ok (.aload_n 0, 1) := by decide +kernel
theorem dX6_take_53 : decode cX6_take 53 = .ok (.getfield 15, 3) := by decide +kernel
theorem dX6_take_56 : decode cX6_take 56 = .ok (.iload_n 2, 1) := by decide +kernel
theorem dX6_take_57 : decode cX6_take 57 = .ok (.aload_n 1, 1) := by decide +kernel
theorem dX6_take_58 : decode cX6_take 58 = .ok (.getfield 15, 3) := by decide +kernel
theorem dX6_take_61 : decode cX6_take 61 = .ok (.iload_n 2, 1) := by decide +kernel
theorem dX6_take_62 : decode cX6_take 62 = .ok (.iaload, 1) := by decide +kernel
theorem dX6_take_63 : decode cX6_take 63 = .ok (.iastore, 1) := by decide +kernel
theorem dX6_take_64 : decode cX6_take 64 = .ok (.aload_n 0, 1) := by decide +kernel
theorem dX6_take_65 : decode cX6_take 65 = .ok (.getfield 18, 3) := by decide +kernel
theorem dX6_take_68 : decode cX6_take 68 = .ok (.iload_n 2, 1) := by decide +kernel
theorem dX6_take_69 : decode cX6_take 69 = .ok (.aload_n 1, 1) := by decide +kernel
theorem dX6_take_70 : decode cX6_take 70 = .ok (.getfield 18, 3) := by decide +kernel
theorem dX6_take_73 : decode cX6_take 73 = .ok (.iload_n 2, 1) := by decide +kernel
theorem dX6_take_74 : decode cX6_take 74 = .ok (.iaload, 1) := by decide +kernel
theorem dX6_take_75 : decode cX6_take 75 = .ok (.iastore, 1) := by decide +kernel
theorem dX6_take_76 : decode cX6_take 76 = .ok (.aload_n 0, 1) := by decide +kernel
theorem dX6_take_77 : decode cX6_take 77 = .ok (.getfield 21, 3) := by decide +kernel
theorem dX6_take_80 : decode cX6_take 80 = .ok (.iload_n 2, 1) := by decide +kernel
theorem dX6_take_81 : decode cX6_take 81 = .ok (.aload_n 1, 1) := by decide +kernel
theorem dX6_take_82 : decode cX6_take 82 = .ok (.getfield 21, 3) := by decide +kernel
theorem dX6_take_85 : decode cX6_take 85 = .ok (.iload_n 2, 1) := by decide +kernel
theorem dX6_take_86 : decode cX6_take 86 = .ok (.iaload, 1) := by decide +kernel
theorem dX6_take_87 : decode cX6_take 87 = .ok (.iastore, 1) := by decide +kernel
theorem dX6_take_88 : decode cX6_take 88 = .ok (.iinc 2 1, 3) := by decide +kernel
theorem dX6_take_91 : decode cX6_take 91 = .ok (.goto (-57), 3) := by decide +kernel
theorem dX6_take_94 : decode cX6_take 94 = .ok (.aload_n 0, 1) := by decide +kernel
theorem dX6_take_95 : decode cX6_take 95 = .ok (.aload_n 1, 1) := by decide +kernel
theorem dX6_take_96 : decode cX6_take 96 = .ok (.invokevirtual 49, 3) := by decide +kernel
theorem dX6_take_99 : decode cX6_take 99 = .ok (.return_, 1) := by decide +kernel
theorem dX6_takeLetters_0 : decode cX6_takeLetters 0 = .ok (.aload_n 0, 1) := by decide +kernel
theorem dX6_takeLetters_1 : decode cX6_takeLetters 1 = .ok (.aload_n 1, 1) := by decide +kernel
theorem dX6_takeLetters_2 : decode cX6_takeLetters 2 = .ok (.getfield 40, 3) := by decide +kernel
theorem dX6_takeLetters_5 : decode cX6_takeLetters 5 = .ok (.putfield 40, 3) := by decide +kernel
theorem dX6_takeLetters_8 : decode cX6_takeLetters 8 = .ok (.aload_n 0, 1) := by decide +kernel
theorem dX6_takeLetters_9 : decode cX6_takeLetters 9 = .ok (.aload_n 1, 1) := by decide +kernel
theorem dX6_takeLetters_10 : decode cX6_takeLetters 10 = .ok (.getfield 43, 3) := by decide +kernel
theorem dX6_takeLetters_13 : decode cX6_takeLetters 13 = .ok (.putfield 43, 3) := by decide +kernel
theorem dX6_takeLetters_16 : decode cX6_takeLetters 16 = .ok (.iconst 0, 1) := by decide +kernel
theorem dX6_takeLetters_17 : decode cX6_takeLetters 17 = .ok (.istore_n 2, 1) := by decide +kernel
theorem dX6_takeLetters_18 : decode cX6_takeLetters 18 = .ok (.iload_n 2, 1) := by decide +kernel
theorem dX6_takeLetters_19 : decode cX6_takeLetters 19 = .ok (.iconst 4, 1) := by decide +kernel
theorem dX6_takeLetters_20 : decode cX6_takeLetters 20 = .ok (.if_icmp .ge 33, 3) := by decide +kernel
theorem dX6_takeLetters_23 : decode cX6_takeLetters 23 = .ok (.aload_n 0, 1) := by decide +kernel
theorem dX6_takeLetters_24 : decode cX6_takeLetters 24 = .ok (.getfield 24, 3) := by decide +kernel
theorem dX6_takeLetters_27 : decode cX6_takeLetters 27 = .ok (.iload_n 2, 1) := by decide +kernel
theorem dX6_takeLetters_28 : decode cX6_takeLetters 28 = .ok (.aload_n 1, 1) := by decide +kernel
theorem dX6_takeLetters_29 : decode cX6_takeLetters 29 = .ok (.getfield 24, 3) := by decide +kernel
theorem dX6_takeLetters_32 : decode cX6_takeLetters 32 = .ok (.iload_n 2, 1) := by decide +kernel
theorem dX6_takeLetters_33 : decode cX6_takeLetters 33 = .ok (.iaload, 1) := by decide +kernel
theorem dX6_takeLetters_34 : decode cX6_takeLetters 34 = .ok (.iastore, 1) := by decide +kernel
theorem dX6_takeLetters_35 : decode cX6_takeLetters 35 = .ok (.aload_n 0, 1) := by decide +kernel
theorem dX6_takeLetters_36 : decode cX6_takeLetters 36 = .ok (.getfield 27, 3) := by decide +kernel
theorem dX6_takeLetters_39 : decode cX6_takeLetters 39 = .ok (.iload_n 2, 1) := by decide +kernel
theorem dX6_takeLetters_40 : decode cX6_takeLetters 40 = .ok (.aload_n 1, 1) := by decide +kernel
theorem dX6_takeLetters_41 : decode cX6_takeLetters 41 = .ok (.getfield 27, 3) := by decide +kernel
theorem dX6_takeLetters_44 : decode cX6_takeLetters 44 = .ok (.iload_n 2, 1) := by decide +kernel
theorem dX6_takeLetters_45 : decode cX6_takeLetters 45 = .ok (.iaload, 1) := by decide +kernel
theorem dX6_takeLetters_46 : decode cX6_takeLetters 46 = .ok (.iastore, 1) := by decide +kernel
theorem dX6_takeLetters_47 : decode cX6_takeLetters 47 = .ok (.iinc 2 1, 3) := by decide +kernel
theorem dX6_takeLetters_50 : decode cX6_takeLetters 50 = .ok (.goto (-32), 3) := by decide +kernel
theorem dX6_takeLetters_53 : decode cX6_takeLetters 53 = .ok (.return_, 1) := by decide +kernel
theorem dX6_settle_0 : decode cX6_settle 0 = .ok (.aload_n 0, 1) := by decide +kernel
theorem dX6_settle_1 : decode cX6_settle 1 = .ok (.getfield 37, 3) := by decide +kernel
theorem dX6_settle_4 : decode cX6_settle 4 = .ok (.bipush 6, 2) := by decide +kernel
theorem dX6_settle_6 : decode cX6_settle 6 = .ok (.if_icmp .ge 54, 3) := by decide +kernel
theorem dX6_settle_9 : decode cX6_settle 9 = .ok (.aload_n 0, 1) := by decide +kernel
theorem dX6_settle_10 : decode cX6_settle 10 = .ok (.getfield 9, 3) := by decide +kernel
theorem dX6_settle_13 : decode cX6_settle 13 = .ok (.aload_n 0, 1) := by decide +kernel
theorem dX6_settle_14 : decode cX6_settle 14 = .ok (.getfield 37, 3) := by decide +kernel
theorem dX6_settle_17 : decode cX6_settle 17 = .ok (.iload_n 1, 1) := by decide +kernel
theorem dX6_settle_18 : decode cX6_settle 18 = .ok (.iastore, 1) := by decide +kernel
theorem dX6_settle_19 : decode cX6_settle 19 = .ok (.aload_n 0, 1) := by decide +kernel
theorem dX6_settle_20 : decode cX6_settle 20 = .ok (.getfield 15, 3) := by decide +kernel
theorem dX6_settle_23 : decode cX6_settle 23 = .ok (.aload_n 0, 1) := by decide +kernel
theorem dX6_settle_24 : decode cX6_settle 24 = .ok (.getfield 37, 3) := by decide +kernel
theorem dX6_settle_27 : decode cX6_settle 27 = .ok (.iload_n 2, 1) := by decide +kernel
theorem dX6_settle_28 : decode cX6_settle 28 = .ok (.iastore, 1) := by decide +kernel
theorem dX6_settle_29 : decode cX6_settle 29 = .ok (.aload_n 0, 1) := by decide +kernel
theorem dX6_settle_30 : decode cX6_settle 30 = .ok (.getfield 18, 3) := by decide +kernel
theorem dX6_settle_33 : decode cX6_settle 33 = .ok (.aload_n 0, 1) := by decide +kernel
theorem dX6_settle_34 : decode cX6_settle 34 = .ok (.getfield 37, 3) := by decide +kernel
theorem dX6_settle_37 : decode cX6_settle 37 = .ok (.iload_n 3, 1) := by decide +kernel
theorem dX6_settle_38 : decode cX6_settle 38 = .ok (.iastore, 1) := by decide +kernel
theorem dX6_settle_39 : decode cX6_settle 39 = .ok (.aload_n 0, 1) := by decide +kernel
theorem dX6_settle_40 : decode cX6_settle 40 = .ok (.getfield 21, 3) := by decide +kernel
theorem dX6_settle_43 : decode cX6_settle 43 = .ok (.aload_n 0, 1) := by decide +kernel
theorem dX6_settle_44 : decode cX6_settle 44 = .ok (.getfield 37, 3) := by decide +kernel
theorem dX6_settle_47 : decode cX6_settle 47 = .ok (.iload 4, 2) := by decide +kernel
theorem dX6_settle_49 : decode cX6_settle 49 = .ok (.iastore, 1) := by decide +kernel
theorem dX6_settle_50 : decode cX6_settle 50 = .ok (.aload_n 0, 1) := by decide +kernel
theorem dX6_settle_51 : decode cX6_settle 51 = .ok (.dup, 1) := by decide +kernel
theorem dX6_settle_52 : decode cX6_settle 52 = .ok (.getfield 37, 3) := by decide +kernel
theorem dX6_settle_55 : decode cX6_settle 55 = .ok (.iconst 1, 1) := by decide +kernel
theorem dX6_settle_56 : decode cX6_settle 56 = .ok (.iadd, 1) := by decide +kernel
theorem dX6_settle_57 : decode cX6_settle 57 = .ok (.putfield 37, 3) := by decide +kernel
theorem dX6_settle_60 : decode cX6_settle 60 = .ok (.return_, 1) := by decide +kernel
theorem dX6_putOut_0 : decode cX6_putOut 0 = .ok (.aload_n 0, 1) := by decide +kernel
theorem dX6_putOut_1 : decode cX6_putOut 1 = .ok (.dup, 1) := by decide +kernel
theorem dX6_putOut_2 : decode cX6_putOut 2 = .ok (.getfield 43, 3) := by decide +kernel
theorem dX6_putOut_5 : decode cX6_putOut 5 = .ok (.iconst 1, 1) := by decide +kernel
theorem dX6_putOut_6 : decode cX6_putOut 6 = .ok (.iload_n 1, 1) := by decide +kernel
theorem dX6_putOut_7 : decode cX6_putOut 7 = .ok (.ishl, 1) := by decide +kernel
theorem dX6_putOut_8 : decode cX6_putOut 8 = .ok (.ior, 1) := by decide +kernel
theorem dX6_putOut_9 : decode cX6_putOut 9 = .ok (.putfield 43, 3) := by decide +kernel
theorem dX6_putOut_12 : decode cX6_putOut 12 = .ok (.aload_n 0, 1) := by decide +kernel
theorem dX6_putOut_13 : decode cX6_putOut 13 = .ok (.getfield 24, 3) := by decide +kernel
theorem dX6_putOut_16 : decode cX6_putOut 16 = .ok (.iload_n 1, 1) := by decide +kernel
theorem dX6_putOut_17 : decode cX6_putOut 17 = .ok (.iload_n 2, 1) := by decide +kernel
theorem dX6_putOut_18 : decode cX6_putOut 18 = .ok (.iastore, 1) := by decide +kernel
theorem dX6_putOut_19 : decode cX6_putOut 19 = .ok (.aload_n 0, 1) := by decide +kernel
theorem dX6_putOut_20 : decode cX6_putOut 20 = .ok (.getfield 27, 3) := by decide +kernel
theorem dX6_putOut_23 : decode cX6_putOut 23 = .ok (.iload_n 1, 1) := by decide +kernel
theorem dX6_putOut_24 : decode cX6_putOut 24 = .ok (.iload_n 3, 1) := by decide +kernel
theorem dX6_putOut_25 : decode cX6_putOut 25 = .ok (.iastore, 1) := by decide +kernel
theorem dX6_putOut_26 : decode cX6_putOut 26 = .ok (.return_, 1) := by decide +kernel
theorem dX6_isOut_0 : decode cX6_isOut 0 = .ok (.aload_n 0, 1) := by decide +kernel
theorem dX6_isOut_1 : decode cX6_isOut 1 = .ok (.getfield 43, 3) := by decide +kernel
theorem dX6_isOut_4 : decode cX6_isOut 4 = .ok (.iload_n 1, 1) := by decide +kernel
theorem dX6_isOut_5 : decode cX6_isOut 5 = .ok (.ishr, 1) := by decide +kernel
theorem dX6_isOut_6 : decode cX6_isOut 6 = .ok (.iconst 1, 1) := by decide +kernel
theorem dX6_isOut_7 : decode cX6_isOut 7 = .ok (.iand, 1) := by decide +kernel
theorem dX6_isOut_8 : decode cX6_isOut 8 = .ok (.iconst 1, 1) := by decide +kernel
theorem dX6_isOut_9 : decode cX6_isOut 9 = .ok (.if_icmp .ne 7, 3) := by decide +kernel
theorem dX6_isOut_12 : decode cX6_isOut 12 = .ok (.iconst 1, 1) := by decide +kernel
theorem dX6_isOut_13 : decode cX6_isOut 13 = .ok (.goto 4, 3) := by decide +kernel
theorem dX6_isOut_16 : decode cX6_isOut 16 = .ok (.iconst 0, 1) := by decide +kernel
theorem dX6_isOut_17 : decode cX6_isOut 17 = .ok (.ireturn, 1) := by decide +kernel
theorem dX6_isThere_0 : decode cX6_isThere 0 = .ok (.aload_n 0, 1) := by decide +kernel
theorem dX6_isThere_1 : decode cX6_isThere 1 = .ok (.getfield 43, 3) := by decide +kernel
theorem dX6_isThere_4 : decode cX6_isThere 4 = .ok (.iload_n 1, 1) := by decide +kernel
theorem dX6_isThere_5 : decode cX6_isThere 5 = .ok (.ishr, 1) := by decide +kernel
theorem dX6_isThere_6 : decode cX6_isThere 6 = .ok (.iconst 1, 1) := by decide +kernel
theorem dX6_isThere_7 : decode cX6_isThere 7 = .ok (.iand, 1) := by decide +kernel
theorem dX6_isThere_8 : decode cX6_isThere 8 = .ok (.iconst 1, 1) := by decide +kernel
theorem dX6_isThere_9 : decode cX6_isThere 9 = .ok (.if_icmp .ne 22, 3) := by decide +kernel
theorem dX6_isThere_12 : decode cX6_isThere 12 = .ok (.aload_n 0, 1) := by decide +kernel
theorem dX6_isThere_13 : decode cX6_isThere 13 = .ok (.getfield 24, 3) := by decide +kernel
theorem dX6_isThere_16 : decode cX6_isThere 16 = .ok (.iload_n 1, 1) := by decide +kernel
theorem dX6_isThere_17 : decode cX6_isThere 17 = .ok (.iaload, 1) := by decide +kernel
theorem dX6_isThere_18 : decode cX6_isThere 18 = .ok (.aload_n 0, 1) := by decide +kernel
theorem dX6_isThere_19 : decode cX6_isThere 19 = .ok (.getfield 27, 3) := by decide +kernel
theorem dX6_isThere_22 : decode cX6_isThere 22 = .ok (.iload_n 1, 1) := by decide +kernel
theorem dX6_isThere_23 : decode cX6_isThere 23 = .ok (.iaload, 1) := by decide +kernel
theorem dX6_isThere_24 : decode cX6_isThere 24 = .ok (.if_icmp .ne 7, 3) := by decide +kernel
theorem dX6_isThere_27 : decode cX6_isThere 27 = .ok (.iconst 1, 1) := by decide +kernel
theorem dX6_isThere_28 : decode cX6_isThere 28 = .ok (.goto 4, 3) := by decide +kernel
theorem dX6_isThere_31 : decode cX6_isThere 31 = .ok (.iconst 0, 1) := by decide +kernel
theorem dX6_isThere_32 : decode cX6_isThere 32 = .ok (.ireturn, 1) := by decide +kernel
theorem dX6_isUnderWay_0 : decode cX6_isUnderWay 0 = .ok (.aload_n 0, 1) := by decide +kernel
theorem dX6_isUnderWay_1 : decode cX6_isUnderWay 1 = .ok (.getfield 43, 3) := by decide +kernel
theorem dX6_isUnderWay_4 : decode cX6_isUnderWay 4 = .ok (.iload_n 1, 1) := by decide +kernel
theorem dX6_isUnderWay_5 : decode cX6_isUnderWay 5 = .ok (.ishr, 1) := by decide +kernel
theorem dX6_isUnderWay_6 : decode cX6_isUnderWay 6 = .ok (.iconst 1, 1) := by decide +kernel
theorem dX6_isUnderWay_7 : decode cX6_isUnderWay 7 = .ok (.iand, 1) := by decide +kernel
theorem dX6_isUnderWay_8 : decode cX6_isUnderWay 8 = .ok (.iconst 1, 1) := by decide +kernel
theorem dX6_isUnderWay_9 : decode cX6_isUnderWay 9 = .ok (.if_icmp .ne 22, 3) := by decide +kernel
theorem dX6_isUnderWay_12 : decode cX6_isUnderWay 12 = .ok (.aload_n 0, 1) := by decide +kernel
theorem dX6_isUnderWay_13 : decode cX6_isUnderWay 13 = .ok (.getfield 24, 3) := by decide +kernel
theorem dX6_isUnderWay_16 : decode cX6_isUnderWay 16 = .ok (.iload_n 1, 1) := by decide +kernel
theorem dX6_isUnderWay_17 : decode cX6_isUnderWay 17 = .ok (.iaload, 1) := by decide +kernel
theorem dX6_isUnderWay_18 : decode cX6_isUnderWay 18 = .ok (.aload_n 0, 1) := by decide +kernel
theorem dX6_isUnderWay_19 : decode cX6_isUnderWay 19 = .ok (.getfield 27, 3) := by decide +kernel
theorem dX6_isUnderWay_22 : decode cX6_isUnderWay 22 = .ok (.iload_n 1, 1) := by decide +kernel
theorem dX6_isUnderWay_23 : decode cX6_isUnderWay 23 = .ok (.iaload, 1) := by decide +kernel
theorem dX6_isUnderWay_24 : decode cX6_isUnderWay 24 = .ok (.if_icmp .eq 7, 3) := by decide +kernel
theorem dX6_isUnderWay_27 : decode cX6_isUnderWay 27 = .ok (.iconst 1, 1) := by decide +kernel
theorem dX6_isUnderWay_28 : decode cX6_isUnderWay 28 = .ok (.goto 4, 3) := by decide +kernel
theorem dX6_isUnderWay_31 : decode cX6_isUnderWay 31 = .ok (.iconst 0, 1) := by decide +kernel
theorem dX6_isUnderWay_32 : decode cX6_isUnderWay 32 = .ok (.ireturn, 1) := by decide +kernel
theorem dX6_arrived_0 : decode cX6_arrived 0 = .ok (.iconst 0, 1) := by decide +kernel
theorem dX6_arrived_1 : decode cX6_arrived 1 = .ok (.istore_n 1, 1) := by decide +kernel
theorem dX6_arrived_2 : decode cX6_arrived 2 = .ok (.iconst 0, 1) := by decide +kernel
theorem dX6_arrived_3 : decode cX6_arrived 3 = .ok (.istore_n 2, 1) := by decide +kernel
theorem dX6_arrived_4 : decode cX6_arrived 4 = .ok (.iload_n 2, 1) := by decide +kernel
theorem dX6_arrived_5 : decode cX6_arrived 5 = .ok (.iconst 4, 1) := by decide +kernel
theorem dX6_arrived_6 : decode cX6_arrived 6 = .ok (.if_icmp .ge 27, 3) := by decide +kernel
theorem dX6_arrived_9 : decode cX6_arrived 9 = .ok (.iload_n 1, 1) := by decide +kernel
theorem dX6_arrived_10 : decode cX6_arrived 10 = .ok (.aload_n 0, 1) := by decide +kernel
theorem dX6_arrived_11 : decode cX6_arrived 11 = .ok (.iload_n 2, 1) := by decide +kernel
theorem dX6_arrived_12 : decode cX6_arrived 12 = .ok (.invokevirtual 53, 3) := by decide +kernel
theorem dX6_arrived_15 : decode cX6_arrived 15 = .ok (.ifCond .eq 9, 3) := by decide +kernel
theorem dX6_arrived_18 : decode cX6_arrived 18 = .ok (.iconst 1, 1) := by decide +kernel
theorem dX6_arrived_19 : decode cX6_arrived 19 = .ok (.iload_n 2, 1) := by decide +kernel
theorem dX6_arrived_20 : decode cX6_arrived 20 = .ok (.ishl, 1) := by decide +kernel
theorem dX6_arrived_21 : decode cX6_arrived 21 = .ok (.goto 4, 3) := by decide +kernel
theorem dX6_arrived_24 : decode cX6_arrived 24 = .ok (.iconst 0, 1) := by decide +kernel
theorem dX6_arrived_25 : decode cX6_arrived 25 = .ok (.ior, 1) := by decide +kernel
theorem dX6_arrived_26 : decode cX6_arrived 26 = .ok (.istore_n 1, 1) := by decide +kernel
theorem dX6_arrived_27 : decode cX6_arrived 27 = .ok (.iinc 2 1, 3) := by decide +kernel
theorem dX6_arrived_30 : decode cX6_arrived 30 = .ok (.goto (-26), 3) := by decide +kernel
theorem dX6_arrived_33 : decode cX6_arrived 33 = .ok (.iload_n 1, 1) := by decide +kernel
theorem dX6_arrived_34 : decode cX6_arrived 34 = .ok (.ireturn, 1) := by decide +kernel
theorem dX6_isHome_0 : decode cX6_isHome 0 = .ok (.aload_n 0, 1) := by decide +kernel
theorem dX6_isHome_1 : decode cX6_isHome 1 = .ok (.getfield 46, 3) := by decide +kernel
theorem dX6_isHome_4 : decode cX6_isHome 4 = .ok (.iload_n 1, 1) := by decide +kernel
theorem dX6_isHome_5 : decode cX6_isHome 5 = .ok (.ishr, 1) := by decide +kernel
theorem dX6_isHome_6 : decode cX6_isHome 6 = .ok (.iconst 1, 1) := by decide +kernel
theorem dX6_isHome_7 : decode cX6_isHome 7 = .ok (.iand, 1) := by decide +kernel
theorem dX6_isHome_8 : decode cX6_isHome 8 = .ok (.iconst 1, 1) := by decide +kernel
theorem dX6_isHome_9 : decode cX6_isHome 9 = .ok (.if_icmp .ne 7, 3) := by decide +kernel
theorem dX6_isHome_12 : decode cX6_isHome 12 = .ok (.iconst 1, 1) := by decide +kernel
theorem dX6_isHome_13 : decode cX6_isHome 13 = .ok (.goto 4, 3) := by decide +kernel
theorem dX6_isHome_16 : decode cX6_isHome 16 = .ok (.iconst 0, 1) := by decide +kernel
theorem dX6_isHome_17 : decode cX6_isHome 17 = .ok (.ireturn, 1) := by decide +kernel
theorem dX6_everybody_0 : decode cX6_everybody 0 = .ok (.iconst 1, 1) := by decide +kernel
theorem dX6_everybody_1 : decode cX6_everybody 1 = .ok (.aload_n 0, 1) := by decide +kernel
theorem dX6_everybody_2 : decode cX6_everybody 2 = .ok (.getfield 37, 3) := by decide +kernel
theorem dX6_everybody_5 : decode cX6_everybody 5 = .ok (.ishl, 1) := by decide +kernel
theorem dX6_everybody_6 : decode cX6_everybody 6 = .ok (.iconst 1, 1) := by decide +kernel
theorem dX6_everybody_7 : decode cX6_everybody 7 = .ok (.isub, 1) := by decide +kernel
theorem dX6_everybody_8 : decode cX6_everybody 8 = .ok (.ireturn, 1) := by decide +kernel
theorem dX6_whereIs_0 : decode cX6_whereIs 0 = .ok (.aload_n 0, 1) := by decide +kernel
theorem dX6_whereIs_1 : decode cX6_whereIs 1 = .ok (.iload_n 1, 1) := by decide +kernel
theorem dX6_whereIs_2 : decode cX6_whereIs 2 = .ok (.invokevirtual 57, 3) := by decide +kernel
theorem dX6_whereIs_5 : decode cX6_whereIs 5 = .ok (.ifCond .eq 12, 3) := by decide +kernel
theorem dX6_whereIs_8 : decode cX6_whereIs 8 = .ok (.aload_n 0, 1) := by decide +kernel
theorem dX6_whereIs_9 : decode cX6_whereIs 9 = .ok (.getfield 15, 3) := by decide +kernel
theorem dX6_whereIs_12 : decode cX6_whereIs 12 = .ok (.iload_n 1, 1) := by decide +kernel
theorem dX6_whereIs_13 : decode cX6_whereIs 13 = .ok (.iaload, 1) := by decide +kernel
theorem dX6_whereIs_14 : decode cX6_whereIs 14 = .ok (.goto 14, 3) := by decide +kernel
theorem dX6_whereIs_17 : decode cX6_whereIs 17 = .ok (.aload_n 0, 1) := by decide +kernel
theorem dX6_whereIs_18 : decode cX6_whereIs 18 = .ok (.iload_n 1, 1) := by decide +kernel
theorem dX6_whereIs_19 : decode cX6_whereIs 19 = .ok (.aload_n 0, 1) := by decide +kernel
theorem dX6_whereIs_20 : decode cX6_whereIs 20 = .ok (.getfield 40, 3) := by decide +kernel
theorem dX6_whereIs_23 : decode cX6_whereIs 23 = .ok (.iload_n 2, 1) := by decide +kernel
theorem dX6_whereIs_24 : decode cX6_whereIs 24 = .ok (.iadd, 1) := by decide +kernel
theorem dX6_whereIs_25 : decode cX6_whereIs 25 = .ok (.invokevirtual 60, 3) := by decide +kernel
theorem dX6_whereIs_28 : decode cX6_whereIs 28 = .ok (.ireturn, 1) := by decide +kernel
theorem dX6_peopleIn_0 : decode cX6_peopleIn 0 = .ok (.iconst 0, 1) := by decide +kernel
theorem dX6_peopleIn_1 : decode cX6_peopleIn 1 = .ok (.istore_n 2, 1) := by decide +kernel
theorem dX6_peopleIn_2 : decode cX6_peopleIn 2 = .ok (.iconst 0, 1) := by decide +kernel
theorem dX6_peopleIn_3 : decode cX6_peopleIn 3 = .ok (.istore_n 3, 1) := by decide +kernel
theorem dX6_peopleIn_4 : decode cX6_peopleIn 4 = .ok (.iload_n 3, 1) := by decide +kernel
theorem dX6_peopleIn_5 : decode cX6_peopleIn 5 = .ok (.aload_n 0, 1) := by decide +kernel
theorem dX6_peopleIn_6 : decode cX6_peopleIn 6 = .ok (.getfield 37, 3) := by decide +kernel
theorem dX6_peopleIn_9 : decode cX6_peopleIn 9 = .ok (.if_icmp .ge 29, 3) := by decide +kernel
theorem dX6_peopleIn_12 : decode cX6_peopleIn 12 = .ok (.iload_n 2, 1) := by decide +kernel
theorem dX6_peopleIn_13 : decode cX6_peopleIn 13 = .ok (.aload_n 0, 1) := by decide +kernel
theorem dX6_peopleIn_14 : decode cX6_peopleIn 14 = .ok (.iload_n 3, 1) := by decide +kernel
theorem dX6_peopleIn_15 : decode cX6_peopleIn 15 = .ok (.iconst 0, 1) := by decide +kernel
theorem dX6_peopleIn_16 : decode cX6_peopleIn 16 = .ok (.invokevirtual 64, 3) := by decide +kernel
theorem dX6_peopleIn_19 : decode cX6_peopleIn 19 = .ok (.iload_n 1, 1) := by decide +kernel
theorem dX6_peopleIn_20 : decode cX6_peopleIn 20 = .ok (.if_icmp .ne 9, 3) := by decide +kernel
theorem dX6_peopleIn_23 : decode cX6_peopleIn 23 = .ok (.iconst 1, 1) := by decide +kernel
theorem dX6_peopleIn_24 : decode cX6_peopleIn 24 = .ok (.iload_n 3, 1) := by decide +kernel
theorem dX6_peopleIn_25 : decode cX6_peopleIn 25 = .ok (.ishl, 1) := by decide +kernel
theorem dX6_peopleIn_26 : decode cX6_peopleIn 26 = .ok (.goto 4, 3) := by decide +kernel
theorem dX6_peopleIn_29 : decode cX6_peopleIn 29 = .ok (.iconst 0, 1) := by decide +kernel
theorem dX6_peopleIn_30 : decode cX6_peopleIn 30 = .ok (.ior, 1) := by decide +kernel
theorem dX6_peopleIn_31 : decode cX6_peopleIn 31 = .ok (.istore_n 2, 1) := by decide +kernel
theorem dX6_peopleIn_32 : decode cX6_peopleIn 32 = .ok (.iinc 3 1, 3) := by decide +kernel
theorem dX6_peopleIn_35 : decode cX6_peopleIn 35 = .ok (.goto (-31), 3) := by decide +kernel
theorem dX6_peopleIn_38 : decode cX6_peopleIn 38 = .ok (.iload_n 2, 1) := by decide +kernel
theorem dX6_peopleIn_39 : decode cX6_peopleIn 39 = .ok (.ireturn, 1) := by decide +kernel
theorem dX6_placeOnErrand_0 : decode cX6_placeOnErrand 0 = .ok (.aload_n 0, 1) := by decide +kernel
theorem dX6_placeOnErrand_1 : decode cX6_placeOnErrand 1 = .ok (.getfield 34, 3) := by decide +kernel
theorem dX6_placeOnErrand_4 : decode cX6_placeOnErrand 4 = .ok (.iconst 1, 1) := by decide +kernel
theorem dX6_placeOnErrand_5 : decode cX6_placeOnErrand 5 = .ok (.if_icmp .ge 10, 3) := by decide +kernel
theorem dX6_placeOnErrand_8 : decode cX6_placeOnErrand 8 = .ok (.aload_n 0, 1) := by decide +kernel
theorem dX6_placeOnErrand_9 : decode cX6_placeOnErrand 9 = .ok (.getfield 15, 3) := by decide +kernel
theorem dX6_placeOnErrand_12 : decode cX6_placeOnErrand 12 = .ok (.iload_n 1, 1) := by decide +kernel
theorem dX6_placeOnErrand_13 : decode cX6_placeOnErrand 13 = .ok (.iaload, 1) := by decide +kernel
theorem dX6_placeOnErrand_14 : decode cX6_placeOnErrand 14 = .ok (.ireturn, 1) := by decide +kernel
theorem dX6_placeOnErrand_15 : decode cX6_placeOnErrand 15 = .ok (.iload_n 2, 1) := by decide +kernel
theorem dX6_placeOnErrand_16 : decode cX6_placeOnErrand 16 = .ok (.aload_n 0, 1) := by decide +kernel
theorem dX6_placeOnErrand_17 : decode cX6_placeOnErrand 17 = .ok (.getfield 34, 3) := by decide +kernel
theorem dX6_placeOnErrand_20 : decode cX6_placeOnErrand 20 = .ok (.irem, 1) := by decide +kernel
theorem dX6_placeOnErrand_21 : decode cX6_placeOnErrand 21 = .ok (.aload_n 0, 1) := by decide +kernel
theorem dX6_placeOnErrand_22 : decode cX6_placeOnErrand 22 = .ok (.getfield 21, 3) := by decide +kernel
theorem dX6_placeOnErrand_25 : decode cX6_placeOnErrand 25 = .ok (.iload_n 1, 1) := by decide +kernel
theorem dX6_placeOnErrand_26 : decode cX6_placeOnErrand 26 = .ok (.iaload, 1) := by decide +kernel
theorem dX6_placeOnErrand_27 : decode cX6_placeOnErrand 27 = .ok (.isub, 1) := by decide +kernel
theorem dX6_placeOnErrand_28 : decode cX6_placeOnErrand 28 = .ok (.iconst 0, 1) := by decide +kernel
theorem dX6_placeOnErrand_29 : decode cX6_placeOnErrand 29 = .ok (.invokestatic 67, 3) := by decide +kernel
theorem dX6_placeOnErrand_32 : decode cX6_placeOnErrand 32 = .ok (.istore_n 3, 1) := by decide +kernel
theorem dX6_placeOnErrand_33 : decode cX6_placeOnErrand 33 = .ok (.iload_n 2, 1) := by decide +kernel
theorem dX6_placeOnErrand_34 : decode cX6_placeOnErrand 34 = .ok (.aload_n 0, 1) := by decide +kernel
theorem dX6_placeOnErrand_35 : decode cX6_placeOnErrand 35 = .ok (.getfield 34, 3) := by decide +kernel
theorem dX6_placeOnErrand_38 : decode cX6_placeOnErrand 38 = .ok (.idiv, 1) := by decide +kernel
theorem dX6_placeOnErrand_39 : decode cX6_placeOnErrand 39 = .ok (.iconst 2, 1) := by decide +kernel
theorem dX6_placeOnErrand_40 : decode cX6_placeOnErrand 40 = .ok (.irem, 1) := by decide +kernel
theorem dX6_placeOnErrand_41 : decode cX6_placeOnErrand 41 = .ok (.iconst 1, 1) := by decide +kernel
theorem dX6_placeOnErrand_42 : decode cX6_placeOnErrand 42 = .ok (.if_icmp .ne 7, 3) := by decide +kernel
theorem dX6_placeOnErrand_45 : decode cX6_placeOnErrand 45 = .ok (.iconst 1, 1) := by decide +kernel
theorem dX6_placeOnErrand_46 : decode cX6_placeOnErrand 46 = .ok (.goto 4, 3) := by decide +kernel
theorem dX6_placeOnErrand_49 : decode cX6_placeOnErrand 49 = .ok (.iconst 0, 1) := by decide +kernel
theorem dX6_placeOnErrand_50 : decode cX6_placeOnErrand 50 = .ok (.istore 4, 2) := by decide +kernel
theorem dX6_placeOnErrand_52 : decode cX6_placeOnErrand 52 = .ok (.aload_n 0, 1) := by decide +kernel
theorem dX6_placeOnErrand_53 : decode cX6_placeOnErrand 53 = .ok (.getfield 18, 3) := by decide +kernel
theorem dX6_placeOnErrand_56 : decode cX6_placeOnErrand 56 = .ok (.iload_n 1, 1) := by decide +kernel
theorem dX6_placeOnErrand_57 : decode cX6_placeOnErrand 57 = .ok (.iaload, 1) := by decide +kernel
theorem dX6_placeOnErrand_58 : decode cX6_placeOnErrand 58 = .ok (.aload_n 0, 1) := by decide +kernel
theorem dX6_placeOnErrand_59 : decode cX6_placeOnErrand 59 = .ok (.getfield 15, 3) := by decide +kernel
theorem dX6_placeOnErrand_62 : decode cX6_placeOnErrand 62 = .ok (.iload_n 1, 1) := by decide +kernel
theorem dX6_placeOnErrand_63 : decode cX6_placeOnErrand 63 = .ok (.iaload, 1) := by decide +kernel
theorem dX6_placeOnErrand_64 : decode cX6_placeOnErrand 64 = .ok (.isub, 1) := by decide +kernel
theorem dX6_placeOnErrand_65 : decode cX6_placeOnErrand 65 = .ok (.istore 5, 2) := by decide +kernel
theorem dX6_placeOnErrand_67 : decode cX6_placeOnErrand 67 = .ok (.aload_n 0, 1) := by decide +kernel
theorem dX6_placeOnErrand_68 : decode cX6_placeOnErrand 68 = .ok (.getfield 9, 3) := by decide +kernel
theorem dX6_placeOnErrand_71 : decode cX6_placeOnErrand 71 = .ok (.iload_n 1, 1) := by decide +kernel
theorem dX6_placeOnErrand_72 : decode cX6_placeOnErrand 72 = .ok (.iaload, 1) := by decide +kernel
theorem dX6_placeOnErrand_73 : decode cX6_placeOnErrand 73 = .ok (.iload_n 3, 1) := by decide +kernel
theorem dX6_placeOnErrand_74 : decode cX6_placeOnErrand 74 = .ok (.iload 4, 2) := by decide +kernel
theorem dX6_placeOnErrand_76 : decode cX6_placeOnErrand 76 = .ok (.invokestatic 72, 3) := by decide +kernel
theorem dX6_placeOnErrand_79 : decode cX6_placeOnErrand 79 = .ok (.iload 5, 2) := by decide +kernel
theorem dX6_placeOnErrand_81 : decode cX6_placeOnErrand 81 = .ok (.invokestatic 76, 3) := by decide +kernel
theorem dX6_placeOnErrand_84 : decode cX6_placeOnErrand 84 = .ok (.invokestatic 80, 3) := by decide +kernel
theorem dX6_placeOnErrand_87 : decode cX6_placeOnErrand 87 = .ok (.istore 6, 2) := by decide +kernel
theorem dX6_placeOnErrand_89 : decode cX6_placeOnErrand 89 = .ok (.iload 5, 2) := by decide +kernel
theorem dX6_placeOnErrand_91 : decode cX6_placeOnErrand 91 = .ok (.ifCond .ge 15, 3) := by decide +kernel
theorem dX6_placeOnErrand_94 : decode cX6_placeOnErrand 94 = .ok (.aload_n 0, 1) := by decide +kernel
theorem dX6_placeOnErrand_95 : decode cX6_placeOnErrand 95 = .ok (.getfield 15, 3) := by decide +kernel
theorem dX6_placeOnErrand_98 : decode cX6_placeOnErrand 98 = .ok (.iload_n 1, 1) := by decide +kernel
theorem dX6_placeOnErrand_99 : decode cX6_placeOnErrand 99 = .ok (.iaload, 1) := by decide +kernel
theorem dX6_placeOnErrand_100 : decode cX6_placeOnErrand 100 = .ok (.iload 6, 2) := by decide +kernel
theorem dX6_placeOnErrand_102 : decode cX6_placeOnErrand 102 = .ok (.isub, 1) := by decide +kernel
theorem dX6_placeOnErrand_103 : decode cX6_placeOnErrand 103 = .ok (.goto 12, 3) := by decide +kernel
theorem dX6_placeOnErrand_106 : decode cX6_placeOnErrand 106 = .ok (.aload_n 0, 1) := by decide +kernel
theorem dX6_placeOnErrand_107 : decode cX6_placeOnErrand 107 = .ok (.getfield 15, 3) := by decide +kernel
theorem dX6_placeOnErrand_110 : decode cX6_placeOnErrand 110 = .ok (.iload_n 1, 1) := by decide +kernel
theorem dX6_placeOnErrand_111 : decode cX6_placeOnErrand 111 = .ok (.iaload, 1) := by decide +kernel
theorem dX6_placeOnErrand_112 : decode cX6_placeOnErrand 112 = .ok (.iload 6, 2) := by decide +kernel
theorem dX6_placeOnErrand_114 : decode cX6_placeOnErrand 114 = .ok (.iadd, 1) := by decide +kernel
theorem dX6_placeOnErrand_115 : decode cX6_placeOnErrand 115 = .ok (.ireturn, 1) := by decide +kernel
theorem dX6_stepsOf_0 : decode cX6_stepsOf 0 = .ok (.iload_n 0, 1) := by decide +kernel
theorem dX6_stepsOf_1 : decode cX6_stepsOf 1 = .ok (.tableswitch 53 3 5 #[27, 31, 41], 27) := by decide +kernel
theorem dX6_stepsOf_28 : decode cX6_stepsOf 28 = .ok (.iload_n 1, 1) := by decide +kernel
theorem dX6_stepsOf_29 : decode cX6_stepsOf 29 = .ok (.iconst 2, 1) := by decide +kernel
theorem dX6_stepsOf_30 : decode cX6_stepsOf 30 = .ok (.idiv, 1) := by decide +kernel
theorem dX6_stepsOf_31 : decode cX6_stepsOf 31 = .ok (.ireturn, 1) := by decide +kernel
theorem dX6_stepsOf_32 : decode cX6_stepsOf 32 = .ok (.iload_n 2, 1) := by decide +kernel
theorem dX6_stepsOf_33 : decode cX6_stepsOf 33 = .ok (.ifCond .eq 7, 3) := by decide +kernel
theorem dX6_stepsOf_36 : decode cX6_stepsOf 36 = .ok (.iconst 0, 1) := by decide +kernel
theorem dX6_stepsOf_37 : decode cX6_stepsOf 37 = .ok (.goto 4, 3) := by decide +kernel
theorem dX6_stepsOf_40 : decode cX6_stepsOf 40 = .ok (.iload_n 1, 1) := by decide +kernel
theorem dX6_stepsOf_41 : decode cX6_stepsOf 41 = .ok (.ireturn, 1) := by decide +kernel
theorem dX6_stepsOf_42 : decode cX6_stepsOf 42 = .ok (.iload_n 2, 1) := by decide +kernel
theorem dX6_stepsOf_43 : decode cX6_stepsOf 43 = .ok (.ifCond .eq 7, 3) := by decide +kernel
theorem dX6_stepsOf_46 : decode cX6_stepsOf 46 = .ok (.iconst 0, 1) := by decide +kernel
theorem dX6_stepsOf_47 : decode cX6_stepsOf 47 = .ok (.goto 6, 3) := by decide +kernel
theorem dX6_stepsOf_50 : decode cX6_stepsOf 50 = .ok (.iconst 2, 1) := by decide +kernel
theorem dX6_stepsOf_51 : decode cX6_stepsOf 51 = .ok (.iload_n 1, 1) := by decide +kernel
theorem dX6_stepsOf_52 : decode cX6_stepsOf 52 = .ok (.imul, 1) := by decide +kernel
theorem dX6_stepsOf_53 : decode cX6_stepsOf 53 = .ok (.ireturn, 1) := by decide +kernel
theorem dX6_stepsOf_54 : decode cX6_stepsOf 54 = .ok (.iload_n 1, 1) := by decide +kernel
theorem dX6_stepsOf_55 : decode cX6_stepsOf 55 = .ok (.ireturn, 1) := by decide +kernel
theorem dX7_init_0 : decode cX7_init 0 = .ok (.aload_n 0, 1) := by decide +kernel
theorem dX7_init_1 : decode cX7_init 1 = .ok (.invokespecial 1, 3) := by decide +kernel
theorem dX7_init_4 : decode cX7_init 4 = .ok (.aload_n 0, 1) := by decide +kernel
theorem dX7_init_5 : decode cX7_init 5 = .ok (.new 7, 3) := by decide +kernel
theorem dX7_init_8 : decode cX7_init 8 = .ok (.dup, 1) := by decide +kernel
theorem dX7_init_9 : decode cX7_init 9 = .ok (.invokespecial 9, 3) := by decide +kernel
theorem dX7_init_12 : decode cX7_init 12 = .ok (.putfield 10, 3) := by decide +kernel
theorem dX7_init_15 : decode cX7_init 15 = .ok (.aload_n 0, 1) := by decide +kernel
theorem dX7_init_16 : decode cX7_init 16 = .ok (.new 16, 3) := by decide +kernel
theorem dX7_init_19 : decode cX7_init 19 = .ok (.dup, 1) := by decide +kernel
theorem dX7_init_20 : decode cX7_init 20 = .ok (.invokespecial 18, 3) := by decide +kernel
theorem dX7_init_23 : decode cX7_init 23 = .ok (.putfield 19, 3) := by decide +kernel
theorem dX7_init_26 : decode cX7_init 26 = .ok (.aload_n 0, 1) := by decide +kernel
theorem dX7_init_27 : decode cX7_init 27 = .ok (.new 23, 3) := by decide +kernel
theorem dX7_init_30 : decode cX7_init 30 = .ok (.dup, 1) := by decide +kernel
theorem dX7_init_31 : decode cX7_init 31 = .ok (.invokespecial 25, 3) := by decide +kernel
theorem dX7_init_34 : decode cX7_init 34 = .ok (.putfield 26, 3) := by decide +kernel
theorem dX7_init_37 : decode cX7_init 37 = .ok (.aload_n 0, 1) := by decide +kernel
theorem dX7_init_38 : decode cX7_init 38 = .ok (.new 23, 3) := by decide +kernel
theorem dX7_init_41 : decode cX7_init 41 = .ok (.dup, 1) := by decide +kernel
theorem dX7_init_42 : decode cX7_init 42 = .ok (.invokespecial 25, 3) := by decide +kernel
theorem dX7_init_45 : decode cX7_init 45 = .ok (.putfield 30, 3) := by decide +kernel
theorem dX7_init_48 : decode cX7_init 48 = .ok (.aload_n 0, 1) := by decide +kernel
theorem dX7_init_49 : decode cX7_init 49 = .ok (.new 33, 3) := by decide +kernel
theorem dX7_init_52 : decode cX7_init 52 = .ok (.dup, 1) := by decide +kernel
theorem dX7_init_53 : decode cX7_init 53 = .ok (.invokespecial 35, 3) := by decide +kernel
theorem dX7_init_56 : decode cX7_init 56 = .ok (.putfield 36, 3) := by decide +kernel
theorem dX7_init_59 : decode cX7_init 59 = .ok (.aload_n 0, 1) := by decide +kernel
theorem dX7_init_60 : decode cX7_init 60 = .ok (.new 40, 3) := by decide +kernel
theorem dX7_init_63 : decode cX7_init 63 = .ok (.dup, 1) := by decide +kernel
theorem dX7_init_64 : decode cX7_init 64 = .ok (.invokespecial 42, 3) := by decide +kernel
theorem dX7_init_67 : decode cX7_init 67 = .ok (.putfield 43, 3) := by decide +kernel
theorem dX7_init_70 : decode cX7_init 70 = .ok (.aload_n 0, 1) := by decide +kernel
theorem dX7_init_71 : decode cX7_init 71 = .ok (.new 47, 3) := by decide +kernel
theorem dX7_init_74 : decode cX7_init 74 = .ok (.dup, 1) := by decide +kernel
theorem dX7_init_75 : decode cX7_init 75 = .ok (.aload_n 0, 1) := by decide +kernel
theorem dX7_init_76 : decode cX7_init 76 = .ok (.getfield 43, 3) := by decide +kernel
theorem dX7_init_79 : decode cX7_init 79 = .ok (.invokespecial 49, 3) := by decide +kernel
theorem dX7_init_82 : decode cX7_init 82 = .ok (.putfield 52, 3) := by decide +kernel
theorem dX7_init_85 : decode cX7_init 85 = .ok (.aload_n 0, 1) := by decide +kernel
theorem dX7_init_86 : decode cX7_init 86 = .ok (.new 56, 3) := by decide +kernel
theorem dX7_init_89 : decode cX7_init 89 = .ok (.dup, 1) := by decide +kernel
theorem dX7_init_90 : decode cX7_init 90 = .ok (.invokespecial 58, 3) := by decide +kernel
theorem dX7_init_93 : decode cX7_init 93 = .ok (.putfield 59, 3) := by decide +kernel
theorem dX7_init_96 : decode cX7_init 96 = .ok (.aload_n 0, 1) := by decide +kernel
theorem dX7_init_97 : decode cX7_init 97 = .ok (.iconst 2, 1) := by decide +kernel
theorem dX7_init_98 : decode cX7_init 98 = .ok (.anewarray 23, 3) := by decide +kernel
theorem dX7_init_101 : decode cX7_init 101 = .ok (.putfield 63, 3) := by decide +kernel
theorem dX7_init_104 : decode cX7_init 104 = .ok (.iconst 0, 1) := by decide +kernel
theorem dX7_init_105 : decode cX7_init 105 = .ok (.istore_n 1, 1) := by decide +kernel
theorem dX7_init_106 : decode cX7_init 106 = .ok (.iload_n 1, 1) := by decide +kernel
theorem dX7_init_107 : decode cX7_init 107 = .ok (.iconst 2, 1) := by decide +kernel
theorem dX7_init_108 : decode cX7_init 108 = .ok (.if_icmp .ge 22, 3) := by decide +kernel
theorem dX7_init_111 : decode cX7_init 111 = .ok (.aload_n 0, 1) := by decide +kernel
theorem dX7_init_112 : decode cX7_init 112 = .ok (.getfield 63, 3) := by decide +kernel
theorem dX7_init_115 : decode cX7_init 115 = .ok (.iload_n 1, 1) := by decide +kernel
theorem dX7_init_116 : decode cX7_init 116 = .ok (.new 23, 3) := by decide +kernel
theorem dX7_init_119 : decode cX7_init 119 = .ok (.dup, 1) := by decide +kernel
theorem dX7_init_120 : decode cX7_init 120 = .ok (.invokespecial 25, 3) := by decide +kernel
theorem dX7_init_123 : decode cX7_init 123 = .ok (.aastore, 1) := by decide +kernel
theorem dX7_init_124 : decode cX7_init 124 = .ok (.iinc 1 1, 3) := by decide +kernel
theorem dX7_init_127 : decode cX7_init 127 = .ok (.goto (-21), 3) := by decide +kernel
theorem dX7_init_130 : decode cX7_init 130 = .ok (.return_, 1) := by decide +kernel
theorem dX7_row_0 : decode cX7_row 0 = .ok (.iload_n 1, 1) := by decide +kernel
theorem dX7_row_1 : decode cX7_row 1 = .ok (.invokestatic 67, 3) := by decide +kernel
theorem dX7_row_4 : decode cX7_row 4 = .ok (.ifCond .eq 18, 3) := by decide +kernel
theorem dX7_row_7 : decode cX7_row 7 = .ok (.iload_n 2, 1) := by decide +kernel
theorem dX7_row_8 : decode cX7_row 8 = .ok (.iconst 0, 1) := by decide +kernel
theorem dX7_row_9 : decode cX7_row 9 = .ok (.iconst 2, 1) := by decide +kernel
theorem dX7_row_10 : decode cX7_row 10 = .ok (.invokestatic 71, 3) := by decide +kernel
theorem dX7_row_13 : decode cX7_row 13 = .ok (.ifCond .eq 9, 3) := by decide +kernel
theorem dX7_row_16 : decode cX7_row 16 = .ok (.iload_n 3, 1) := by decide +kernel
theorem dX7_row_17 : decode cX7_row 17 = .ok (.bipush 40, 2) := by decide +kernel
theorem dX7_row_19 : decode cX7_row 19 = .ok (.if_icmp .le 6, 3) := by decide +kernel
theorem dX7_row_22 : decode cX7_row 22 = .ok (.ldc 75, 2) := by decide +kernel
theorem dX7_row_24 : decode cX7_row 24 = .ok (.ireturn, 1) := by decide +kernel
theorem dX7_row_25 : decode cX7_row 25 = .ok (.iload_n 3, 1) := by decide +kernel
theorem dX7_row_26 : decode cX7_row 26 = .ok (.ifCond .ge 9, 3) := by decide +kernel
theorem dX7_row_29 : decode cX7_row 29 = .ok (.aload_n 0, 1) := by decide +kernel
theorem dX7_row_30 : decode cX7_row 30 = .ok (.iconst 4, 1) := by decide +kernel
theorem dX7_row_31 : decode cX7_row 31 = .ok (.invokevirtual 76, 3) := by decide +kernel
theorem dX7_row_34 : decode cX7_row 34 = .ok (.ireturn, 1) := by decide +kernel
theorem dX7_row_35 : decode cX7_row 35 = .ok (.aload_n 0, 1) := by decide +kernel
theorem dX7_row_36 : decode cX7_row 36 = .ok (.getfield 10, 3) := by decide +kernel
theorem dX7_row_39 : decode cX7_row 39 = .ok (.iload_n 1, 1) := by decide +kernel
theorem dX7_row_40 : decode cX7_row 40 = .ok (.iload_n 2, 1) := by decide +kernel
theorem dX7_row_41 : decode cX7_row 41 = .ok (.iload_n 3, 1) := by decide +kernel
theorem dX7_row_42 : decode cX7_row 42 = .ok (.invokevirtual 80, 3) := by decide +kernel
theorem dX7_row_45 : decode cX7_row 45 = .ok (.aload_n 0, 1) := by decide +kernel
theorem dX7_row_46 : decode cX7_row 46 = .ok (.iload_n 3, 1) := by decide +kernel
theorem dX7_row_47 : decode cX7_row 47 = .ok (.invokevirtual 84, 3) := by decide +kernel
theorem dX7_row_50 : decode cX7_row 50 = .ok (.ireturn, 1) := by decide +kernel
theorem dX7_set_0 : decode cX7_set 0 = .ok (.iload_n 1, 1) := by decide +kernel
theorem dX7_set_1 : decode cX7_set 1 = .ok (.invokestatic 67, 3) := by decide +kernel
theorem dX7_set_4 : decode cX7_set 4 = .ok (.ifCond .ne 6, 3) := by decide +kernel
theorem dX7_set_7 : decode cX7_set 7 = .ok (.ldc 75, 2) := by decide +kernel
theorem dX7_set_9 : decode cX7_set 9 = .ok (.ireturn, 1) := by decide +kernel
theorem dX7_set_10 : decode cX7_set 10 = .ok (.aload_n 0, 1) := by decide +kernel
theorem dX7_set_11 : decode cX7_set 11 = .ok (.getfield 10, 3) := by decide +kernel
theorem dX7_set_14 : decode cX7_set 14 = .ok (.iload_n 1, 1) := by decide +kernel
theorem dX7_set_15 : decode cX7_set 15 = .ok (.iload_n 2, 1) := by decide +kernel
theorem dX7_set_16 : decode cX7_set 16 = .ok (.iconst 1, 1) := by decide +kernel
theorem dX7_set_17 : decode cX7_set 17 = .ok (.invokevirtual 87, 3) := by decide +kernel
theorem dX7_set_20 : decode cX7_set 20 = .ok (.istore 4, 2) := by decide +kernel
theorem dX7_set_22 : decode cX7_set 22 = .ok (.iload 4, 2) := by decide +kernel
theorem dX7_set_24 : decode cX7_set 24 = .ok (.ifCond .eq 12, 3) := by decide +kernel
theorem dX7_set_27 : decode cX7_set 27 = .ok (.aload_n 0, 1) := by decide +kernel
theorem dX7_set_28 : decode cX7_set 28 = .ok (.iload 4, 2) := by decide +kernel
theorem dX7_set_30 : decode cX7_set 30 = .ok (.invokevirtual 76, 3) := by decide +kernel
theorem dX7_set_33 : decode cX7_set 33 = .ok (.goto 17, 3) := by decide +kernel
theorem dX7_set_36 : decode cX7_set 36 = .ok (.aload_n 0, 1) := by decide +kernel
theorem dX7_set_37 : decode cX7_set 37 = .ok (.aload_n 0, 1) := by decide +kernel
theorem dX7_set_38 : decode cX7_set 38 = .ok (.getfield 10, 3) := by decide +kernel
theorem dX7_set_41 : decode cX7_set 41 = .ok (.iload_n 1, 1) := by decide +kernel
theorem dX7_set_42 : decode cX7_set 42 = .ok (.iload_n 2, 1) := by decide +kernel
theorem dX7_set_43 : decode cX7_set 43 = .ok (.iload_n 3, 1) := by decide +kernel
theorem dX7_set_44 : decode cX7_set 44 = .ok (.invokevirtual 91, 3) := by decide +kernel
theorem dX7_set_47 : decode cX7_set 47 = .ok (.invokevirtual 84, 3) := by decide +kernel
theorem dX7_set_50 : decode cX7_set 50 = .ok (.ireturn, 1) := by decide +kernel
theorem dX7_copy_0 : decode cX7_copy 0 = .ok (.iload_n 1, 1) := by decide +kernel
theorem dX7_copy_1 : decode cX7_copy 1 = .ok (.invokestatic 67, 3) := by decide +kernel
theorem dX7_copy_4 : decode cX7_copy 4 = .ok (.ifCond .eq 10, 3) := by decide +kernel
theorem dX7_copy_7 : decode cX7_copy 7 = .ok (.iload_n 3, 1) := by decide +kernel
theorem dX7_copy_8 : decode cX7_copy 8 = .ok (.invokestatic 67, 3) := by decide +kernel
theorem dX7_copy_11 : decode cX7_copy 11 = .ok (.ifCond .ne 6, 3) := by decide +kernel
theorem dX7_copy_14 : decode cX7_copy 14 = .ok (.ldc 75, 2) := by decide +kernel
theorem dX7_copy_16 : decode cX7_copy 16 = .ok (.ireturn, 1) := by decide +kernel
theorem dX7_copy_17 : decode cX7_copy 17 = .ok (.aload_n 0, 1) := by decide +kernel
theorem dX7_copy_18 : decode cX7_copy 18 = .ok (.getfield 10, 3) := by decide +kernel
theorem dX7_copy_21 : decode cX7_copy 21 = .ok (.iload_n 1, 1) := by decide +kernel
theorem dX7_copy_22 : decode cX7_copy 22 = .ok (.invokevirtual 94, 3) := by decide +kernel
theorem dX7_copy_25 : decode cX7_copy 25 = .ok (.ifCond .eq 14, 3) := by decide +kernel
theorem dX7_copy_28 : decode cX7_copy 28 = .ok (.aload_n 0, 1) := by decide +kernel
theorem dX7_copy_29 : decode cX7_copy 29 = .ok (.getfield 10, 3) := by decide +kernel
theorem dX7_copy_32 : decode cX7_copy 32 = .ok (.iload_n 3, 1) := by decide +kernel
theorem dX7_copy_33 : decode cX7_copy 33 = .ok (.invokevirtual 94, 3) := by decide +kernel
theorem dX7_copy_36 : decode cX7_copy 36 = .ok (.ifCond .ne 9, 3) := by decide +kernel
theorem dX7_copy_39 : decode cX7_copy 39 = .ok (.aload_n 0, 1) := by decide +kernel
theorem dX7_copy_40 : decode cX7_copy 40 = .ok (.iconst 1, 1) := by decide +kernel
theorem dX7_copy_41 : decode cX7_copy 41 = .ok (.invokevirtual 76, 3) := by decide +kernel
theorem dX7_copy_44 : decode cX7_copy 44 = .ok (.ireturn, 1) := by decide +kernel
theorem dX7_copy_45 : decode cX7_copy 45 = .ok (.aload_n 0, 1) := by decide +kernel
theorem dX7_copy_46 : decode cX7_copy 46 = .ok (.getfield 10, 3) := by decide +kernel
theorem dX7_copy_49 : decode cX7_copy 49 = .ok (.iload_n 1, 1) := by decide +kernel
theorem dX7_copy_50 : decode cX7_copy 50 = .ok (.invokevirtual 97, 3) := by decide +kernel
theorem dX7_copy_53 : decode cX7_copy 53 = .ok (.aload_n 0, 1) := by decide +kernel
theorem dX7_copy_54 : decode cX7_copy 54 = .ok (.getfield 10, 3) := by decide +kernel
theorem dX7_copy_57 : decode cX7_copy 57 = .ok (.iload_n 3, 1) := by decide +kernel
theorem dX7_copy_58 : decode cX7_copy 58 = .ok (.invokevirtual 97, 3) := by decide +kernel
theorem dX7_copy_61 : decode cX7_copy 61 = .ok (.if_icmp .eq 9, 3) := by decide +kernel
theorem dX7_copy_64 : decode cX7_copy 64 = .ok (.aload_n 0, 1) := by decide +kernel
theorem dX7_copy_65 : decode cX7_copy 65 = .ok (.iconst 5, 1) := by decide +kernel
theorem dX7_copy_66 : decode cX7_copy 66 = .ok (.invokevirtual 76, 3) := by decide +kernel
theorem dX7_copy_69 : decode cX7_copy 69 = .ok (.ireturn, 1) := by decide +kernel
theorem dX7_copy_70 : decode cX7_copy 70 = .ok (.aload_n 0, 1) := by decide +kernel
theorem dX7_copy_71 : decode cX7_copy 71 = .ok (.getfield 10, 3) := by decide +kernel
theorem dX7_copy_74 : decode cX7_copy 74 = .ok (.iload_n 1, 1) := by decide +kernel
theorem dX7_copy_75 : decode cX7_copy 75 = .ok (.iload_n 2, 1) := by decide +kernel
theorem dX7_copy_76 : decode cX7_copy 76 = .ok (.iload 5, 2) := by decide +kernel
theorem dX7_copy_78 : decode cX7_copy 78 = .ok (.invokevirtual 100, 3) := by decide +kernel
theorem dX7_copy_81 : decode cX7_copy 81 = .ok (.ifCond .eq 18, 3) := by decide +kernel
theorem dX7_copy_84 : decode cX7_copy 84 = .ok (.aload_n 0, 1) := by decide +kernel
theorem dX7_copy_85 : decode cX7_copy 85 = .ok (.getfield 10, 3) := by decide +kernel
theorem dX7_copy_88 : decode cX7_copy 88 = .ok (.iload_n 3, 1) := by decide +kernel
theorem dX7_copy_89 : decode cX7_copy 89 = .ok (.iload 4, 2) := by decide +kernel
theorem dX7_copy_91 : decode cX7_copy 91 = .ok (.iload 5, 2) := by decide +kernel
theorem dX7_copy_93 : decode cX7_copy 93 = .ok (.invokevirtual 100, 3) := by decide +kernel
theorem dX7_copy_96 : decode cX7_copy 96 = .ok (.ifCond .ne 9, 3) := by decide +kernel
theorem dX7_copy_99 : decode cX7_copy 99 = .ok (.aload_n 0, 1) := by decide +kernel
theorem dX7_copy_100 : decode cX7_copy 100 = .ok (.iconst 2, 1) := by decide +kernel
theorem dX7_copy_101 : decode cX7_copy 101 = .ok (.invokevirtual 76, 3) := by decide +kernel
theorem dX7_copy_104 : decode cX7_copy 104 = .ok (.ireturn, 1) := by decide +kernel
theorem dX7_copy_105 : decode cX7_copy 105 = .ok (.aload_n 0, 1) := by decide +kernel
theorem dX7_copy_106 : decode cX7_copy 106 = .ok (.getfield 10, 3) := by decide +kernel
theorem dX7_copy_109 : decode cX7_copy 109 = .ok (.iload_n 1, 1) := by decide +kernel
theorem dX7_copy_110 : decode cX7_copy 110 = .ok (.iload_n 2, 1) := by decide +kernel
theorem dX7_copy_111 : decode cX7_copy 111 = .ok (.iload_n 3, 1) := by decide +kernel
theorem dX7_copy_112 : decode cX7_copy 112 = .ok (.iload 4, 2) := by decide +kernel
theorem dX7_copy_114 : decode cX7_copy 114 = .ok (.iload 5, 2) := by decide +kernel
theorem dX7_copy_116 : decode cX7_copy 116 = .ok (.invokevirtual 103, 3) := by decide +kernel
theorem dX7_copy_119 : decode cX7_copy 119 = .ok (.aload_n 0, 1) := by decide +kernel
theorem dX7_copy_120 : decode cX7_copy 120 = .ok (.iload 5, 2) := by decide +kernel
theorem dX7_copy_122 : decode cX7_copy 122 = .ok (.invokevirtual 84, 3) := by decide +kernel
theorem dX7_copy_125 : decode cX7_copy 125 = .ok (.ireturn, 1) := by decide +kernel
theorem dX7_drop_0 : decode cX7_drop 0 = .ok (.iload_n 1, 1) := by decide +kernel
theorem dX7_drop_1 : decode cX7_drop 1 = .ok (.invokestatic 67, 3) := by decide +kernel
theorem dX7_drop_4 : decode cX7_drop 4 = .ok (.ifCond .ne 6, 3) := by decide +kernel
theorem dX7_drop_7 : decode cX7_drop 7 = .ok (.ldc 75, 2) := by decide +kernel
theorem dX7_drop_9 : decode cX7_drop 9 = .ok (.ireturn, 1) := by decide +kernel
theorem dX7_drop_10 : decode cX7_drop 10 = .ok (.aload_n 0, 1) := by decide +kernel
theorem dX7_drop_11 : decode cX7_drop 11 = .ok (.getfield 10, 3) := by decide +kernel
theorem dX7_drop_14 : decode cX7_drop 14 = .ok (.iload_n 1, 1) := by decide +kernel
theorem dX7_drop_15 : decode cX7_drop 15 = .ok (.invokevirtual 94, 3) := by decide +kernel
theorem dX7_drop_18 : decode cX7_drop 18 = .ok (.ifCond .ne 9, 3) := by decide +kernel
theorem dX7_drop_21 : decode cX7_drop 21 = .ok (.aload_n 0, 1) := by decide +kernel
theorem dX7_drop_22 : decode cX7_drop 22 = .ok (.iconst 1, 1) := by decide +kernel
theorem dX7_drop_23 : decode cX7_drop 23 = .ok (.invokevirtual 76, 3) := by decide +kernel
theorem dX7_drop_26 : decode cX7_drop 26 = .ok (.ireturn, 1) := by decide +kernel
theorem dX7_drop_27 : decode cX7_drop 27 = .ok (.aload_n 0, 1) := by decide +kernel
theorem dX7_drop_28 : decode cX7_drop 28 = .ok (.getfield 10, 3) := by decide +kernel
theorem dX7_drop_31 : decode cX7_drop 31 = .ok (.iload_n 1, 1) := by decide +kernel
theorem dX7_drop_32 : decode cX7_drop 32 = .ok (.invokevirtual 107, 3) := by decide +kernel
theorem dX7_drop_35 : decode cX7_drop 35 = .ok (.istore_n 2, 1) := by decide +kernel
theorem dX7_drop_36 : decode cX7_drop 36 = .ok (.aload_n 0, 1) := by decide +kernel
theorem dX7_drop_37 : decode cX7_drop 37 = .ok (.getfield 10, 3) := by decide +kernel
theorem dX7_drop_40 : decode cX7_drop 40 = .ok (.iload_n 1, 1) := by decide +kernel
theorem dX7_drop_41 : decode cX7_drop 41 = .ok (.invokevirtual 110, 3) := by decide +kernel
theorem dX7_drop_44 : decode cX7_drop 44 = .ok (.aload_n 0, 1) := by decide +kernel
theorem dX7_drop_45 : decode cX7_drop 45 = .ok (.iload_n 2, 1) := by decide +kernel
theorem dX7_drop_46 : decode cX7_drop 46 = .ok (.invokevirtual 84, 3) := by decide +kernel
theorem dX7_drop_49 : decode cX7_drop 49 = .ok (.ireturn, 1) := by decide +kernel
theorem dX7_feed_0 : decode cX7_feed 0 = .ok (.iload_n 1, 1) := by decide +kernel
theorem dX7_feed_1 : decode cX7_feed 1 = .ok (.iconst 0, 1) := by decide +kernel
theorem dX7_feed_2 : decode cX7_feed 2 = .ok (.sipush 255, 3) := by decide +kernel
theorem dX7_feed_5 : decode cX7_feed 5 = .ok (.invokestatic 71, 3) := by decide +kernel
theorem dX7_feed_8 : decode cX7_feed 8 = .ok (.ifCond .ne 6, 3) := by decide +kernel
theorem dX7_feed_11 : decode cX7_feed 11 = .ok (.ldc 75, 2) := by decide +kernel
theorem dX7_feed_13 : decode cX7_feed 13 = .ok (.ireturn, 1) := by decide +kernel
theorem dX7_feed_14 : decode cX7_feed 14 = .ok (.aload_n 0, 1) := by decide +kernel
theorem dX7_feed_15 : decode cX7_feed 15 = .ok (.getfield 19, 3) := by decide +kernel
theorem dX7_feed_18 : decode cX7_feed 18 = .ok (.iload_n 1, 1) := by decide +kernel
theorem dX7_feed_19 : decode cX7_feed 19 = .ok (.invokevirtual 114, 3) := by decide +kernel
theorem dX7_feed_22 : decode cX7_feed 22 = .ok (.ifCond .eq 13, 3) := by decide +kernel
theorem dX7_feed_25 : decode cX7_feed 25 = .ok (.aload_n 0, 1) := by decide +kernel
theorem dX7_feed_26 : decode cX7_feed 26 = .ok (.getfield 19, 3) := by decide +kernel
theorem dX7_feed_29 : decode cX7_feed 29 = .ok (.invokevirtual 117, 3) := by decide +kernel
theorem dX7_feed_32 : decode cX7_feed 32 = .ok (.goto 5, 3) := by decide +kernel
theorem dX7_feed_35 : decode cX7_feed 35 = .ok (.ldc 121, 2) := by decide +kernel
theorem dX7_feed_37 : decode cX7_feed 37 = .ok (.ireturn, 1) := by decide +kernel
theorem dX7_town_0 : decode cX7_town 0 = .ok (.aload_n 0, 1) := by decide +kernel
theorem dX7_town_1 : decode cX7_town 1 = .ok (.getfield 19, 3) := by decide +kernel
theorem dX7_town_4 : decode cX7_town 4 = .ok (.aload_n 0, 1) := by decide +kernel
theorem dX7_town_5 : decode cX7_town 5 = .ok (.getfield 30, 3) := by decide +kernel
theorem dX7_town_8 : decode cX7_town 8 = .ok (.invokevirtual 122, 3) := by decide +kernel
theorem dX7_town_11 : decode cX7_town 11 = .ok (.istore_n 1, 1) := by decide +kernel
theorem dX7_town_12 : decode cX7_town 12 = .ok (.aload_n 0, 1) := by decide +kernel
theorem dX7_town_13 : decode cX7_town 13 = .ok (.getfield 19, 3) := by decide +kernel
theorem dX7_town_16 : decode cX7_town 16 = .ok (.invokevirtual 126, 3) := by decide +kernel
theorem dX7_town_19 : decode cX7_town 19 = .ok (.iload_n 1, 1) := by decide +kernel
theorem dX7_town_20 : decode cX7_town 20 = .ok (.ifCond .eq 19, 3) := by decide +kernel
theorem dX7_town_23 : decode cX7_town 23 = .ok (.aload_n 0, 1) := by decide +kernel
theorem dX7_town_24 : decode cX7_town 24 = .ok (.iload_n 1, 1) := by decide +kernel
theorem dX7_town_25 : decode cX7_town 25 = .ok (.putfield 129, 3) := by decide +kernel
theorem dX7_town_28 : decode cX7_town 28 = .ok (.ldc 133, 2) := by decide +kernel
theorem dX7_town_30 : decode cX7_town 30 = .ok (.aload_n 0, 1) := by decide +kernel
theorem dX7_town_31 : decode cX7_town 31 = .ok (.getfield 19, 3) := by decide +kernel
theorem dX7_town_34 : decode cX7_town 34 = .ok (.invokevirtual 134, 3) := by decide +kernel
theorem dX7_town_37 : decode cX7_town 37 = .ok (.isub, 1) := by decide +kernel
theorem dX7_town_38 : decode cX7_town 38 = .ok (.ireturn, 1) := by decide +kernel
theorem dX7_town_39 : decode cX7_town 39 = .ok (.aload_n 0, 1) := by decide +kernel
theorem dX7_town_40 : decode cX7_town 40 = .ok (.getfield 26, 3) := by decide +kernel
theorem dX7_town_43 : decode cX7_town 43 = .ok (.aload_n 0, 1) := by decide +kernel
theorem dX7_town_44 : decode cX7_town 44 = .ok (.getfield 30, 3) := by decide +kernel
theorem dX7_town_47 : decode cX7_town 47 = .ok (.invokevirtual 137, 3) := by decide +kernel
theorem dX7_town_50 : decode cX7_town 50 = .ok (.aload_n 0, 1) := by decide +kernel
theorem dX7_town_51 : decode cX7_town 51 = .ok (.getfield 36, 3) := by decide +kernel
theorem dX7_town_54 : decode cX7_town 54 = .ok (.invokevirtual 141, 3) := by decide +kernel
theorem dX7_town_57 : decode cX7_town 57 = .ok (.aload_n 0, 1) := by decide +kernel
theorem dX7_town_58 : decode cX7_town 58 = .ok (.getfield 26, 3) := by decide +kernel
theorem dX7_town_61 : decode cX7_town 61 = .ok (.getfield 144, 3) := by decide +kernel
theorem dX7_town_64 : decode cX7_town 64 = .ok (.ireturn, 1) := by decide +kernel
theorem dX7_fault_0 : decode cX7_fault 0 = .ok (.aload_n 0, 1) := by decide +kernel
theorem dX7_fault_1 : decode cX7_fault 1 = .ok (.getfield 129, 3) := by decide +kernel
theorem dX7_fault_4 : decode cX7_fault 4 = .ok (.ireturn, 1) := by decide +kernel
theorem dX7_undo_0 : decode cX7_undo 0 = .ok (.aload_n 0, 1) := by decide +kernel
theorem dX7_undo_1 : decode cX7_undo 1 = .ok (.getfield 36, 3) := by decide +kernel
theorem dX7_undo_4 : decode cX7_undo 4 = .ok (.aload_n 0, 1) := by decide +kernel
theorem dX7_undo_5 : decode cX7_undo 5 = .ok (.getfield 26, 3) := by decide +kernel
theorem dX7_undo_8 : decode cX7_undo 8 = .ok (.invokevirtual 147, 3) := by decide +kernel
theorem dX7_undo_11 : decode cX7_undo 11 = .ok (.ifCond .eq 13, 3) := by decide +kernel
theorem dX7_undo_14 : decode cX7_undo 14 = .ok (.aload_n 0, 1) := by decide +kernel
theorem dX7_undo_15 : decode cX7_undo 15 = .ok (.getfield 36, 3) := by decide +kernel
theorem dX7_undo_18 : decode cX7_undo 18 = .ok (.invokevirtual 151, 3) := by decide +kernel
theorem dX7_undo_21 : decode cX7_undo 21 = .ok (.goto 5, 3) := by decide +kernel
theorem dX7_undo_24 : decode cX7_undo 24 = .ok (.ldc 154, 2) := by decide +kernel
theorem dX7_undo_26 : decode cX7_undo 26 = .ok (.ireturn, 1) := by decide +kernel
theorem dX7_hours_0 : decode cX7_hours 0 = .ok (.aload_n 0, 1) := by decide +kernel
theorem dX7_hours_1 : decode cX7_hours 1 = .ok (.getfield 26, 3) := by decide +kernel
theorem dX7_hours_4 : decode cX7_hours 4 = .ok (.invokevirtual 155, 3) := by decide +kernel
theorem dX7_hours_7 : decode cX7_hours 7 = .ok (.ifCond .ne 6, 3) := by decide +kernel
theorem dX7_hours_10 : decode cX7_hours 10 = .ok (.ldc 154, 2) := by decide +kernel
theorem dX7_hours_12 : decode cX7_hours 12 = .ok (.ireturn, 1) := by decide +kernel
theorem dX7_hours_13 : decode cX7_hours 13 = .ok (.iload_n 1, 1) := by decide +kernel
theorem dX7_hours_14 : decode cX7_hours 14 = .ok (.iconst 1, 1) := by decide +kernel
theorem dX7_hours_15 : decode cX7_hours 15 = .ok (.bipush 24, 2) := by decide +kernel
theorem dX7_hours_17 : decode cX7_hours 17 = .ok (.invokestatic 71, 3) := by decide +kernel
theorem dX7_hours_20 : decode cX7_hours 20 = .ok (.ifCond .ne 6, 3) := by decide +kernel
theorem dX7_hours_23 : decode cX7_hours 23 = .ok (.ldc 75, 2) := by decide +kernel
theorem dX7_hours_25 : decode cX7_hours 25 = .ok (.ireturn, 1) := by decide +kernel
theorem dX7_hours_26 : decode cX7_hours 26 = .ok (.aload_n 0, 1) := by decide +kernel
theorem dX7_hours_27 : decode cX7_hours 27 = .ok (.getfield 26, 3) := by decide +kernel
theorem dX7_hours_30 : decode cX7_hours 30 = .ok (.getfield 159, 3) := by decide +kernel
theorem dX7_hours_33 : decode cX7_hours 33 = .ok (.iload_n 1, 1) := by decide +kernel
theorem dX7_hours_34 : decode cX7_hours 34 = .ok (.iadd, 1) := by decide +kernel
theorem dX7_hours_35 : decode cX7_hours 35 = .ok (.sipush 999, 3) := by decide +kernel
theorem dX7_hours_38 : decode cX7_hours 38 = .ok (.if_icmp .le 6, 3) := by decide +kernel
theorem dX7_hours_41 : decode cX7_hours 41 = .ok (.ldc 121, 2) := by decide +kernel
theorem dX7_hours_43 : decode cX7_hours 43 = .ok (.ireturn, 1) := by decide +kernel
theorem dX7_hours_44 : decode cX7_hours 44 = .ok (.aload_n 0, 1) := by decide +kernel
theorem dX7_hours_45 : decode cX7_hours 45 = .ok (.getfield 43, 3) := by decide +kernel
theorem dX7_hours_48 : decode cX7_hours 48 = .ok (.aload_n 0, 1) := by decide +kernel
theorem dX7_hours_49 : decode cX7_hours 49 = .ok (.getfield 26, 3) := by decide +kernel
theorem dX7_hours_52 : decode cX7_hours 52 = .ok (.iload_n 1, 1) := by decide +kernel
theorem dX7_hours_53 : decode cX7_hours 53 = .ok (.invokevirtual 162, 3) := by decide +kernel
theorem dX7_hours_56 : decode cX7_hours 56 = .ok (.iconst 0, 1) := by decide +kernel
theorem dX7_hours_57 : decode cX7_hours 57 = .ok (.istore_n 2, 1) := by decide +kernel
theorem dX7_hours_58 : decode cX7_hours 58 = .ok (.iload_n 2, 1) := by decide +kernel
theorem dX7_hours_59 : decode cX7_hours 59 = .ok (.iload_n 1, 1) := by decide +kernel
theorem dX7_hours_60 : decode cX7_hours 60 = .ok (.if_icmp .ge 31, 3) := by decide +kernel
theorem dX7_hours_63 : decode cX7_hours 63 = .ok (.aload_n 0, 1) := by decide +kernel
theorem dX7_hours_64 : decode cX7_hours 64 = .ok (.getfield 36, 3) := by decide +kernel
theorem dX7_hours_67 : decode cX7_hours 67 = .ok (.aload_n 0, 1) := by decide +kernel
theorem dX7_hours_68 : decode cX7_hours 68 = .ok (.getfield 26, 3) := by decide +kernel
theorem dX7_hours_71 : decode cX7_hours 71 = .ok (.invokevirtual 166, 3) := by decide +kernel
theorem dX7_hours_74 : decode cX7_hours 74 = .ok (.aload_n 0, 1) := by decide +kernel
theorem dX7_hours_75 : decode cX7_hours 75 = .ok (.getfield 43, 3) := by decide +kernel
theorem dX7_hours_78 : decode cX7_hours 78 = .ok (.aload_n 0, 1) := by decide +kernel
theorem dX7_hours_79 : decode cX7_hours 79 = .ok (.getfield 26, 3) := by decide +kernel
theorem dX7_hours_82 : decode cX7_hours 82 = .ok (.invokevirtual 169, 3) := by decide +kernel
theorem dX7_hours_85 : decode cX7_hours 85 = .ok (.iinc 2 1, 3) := by decide +kernel
theorem dX7_hours_88 : decode cX7_hours 88 = .ok (.goto (-30), 3) := by decide +kernel
theorem dX7_hours_91 : decode cX7_hours 91 = .ok (.aload_n 0, 1) := by decide +kernel
theorem dX7_hours_92 : decode cX7_hours 92 = .ok (.getfield 26, 3) := by decide +kernel
theorem dX7_hours_95 : decode cX7_hours 95 = .ok (.invokevirtual 172, 3) := by decide +kernel
theorem dX7_hours_98 : decode cX7_hours 98 = .ok (.ireturn, 1) := by decide +kernel
theorem dX7_post_0 : decode cX7_post 0 = .ok (.aload_n 0, 1) := by decide +kernel
theorem dX7_post_1 : decode cX7_post 1 = .ok (.iload_n 1, 1) := by decide +kernel
theorem dX7_post_2 : decode cX7_post 2 = .ok (.invokevirtual 175, 3) := by decide +kernel
theorem dX7_post_5 : decode cX7_post 5 = .ok (.ifCond .eq 19, 3) := by decide +kernel
theorem dX7_post_8 : decode cX7_post 8 = .ok (.aload_n 0, 1) := by decide +kernel
theorem dX7_post_9 : decode cX7_post 9 = .ok (.iload_n 2, 1) := by decide +kernel
theorem dX7_post_10 : decode cX7_post 10 = .ok (.invokevirtual 178, 3) := by decide +kernel
theorem dX7_post_13 : decode cX7_post 13 = .ok (.ifCond .eq 11, 3) := by decide +kernel
theorem dX7_post_16 : decode cX7_post 16 = .ok (.aload_n 0, 1) := by decide +kernel
theorem dX7_post_17 : decode cX7_post 17 = .ok (.iload_n 3, 1) := by decide +kernel
theorem dX7_post_18 : decode cX7_post 18 = .ok (.invokevirtual 178, 3) := by decide +kernel
theorem dX7_post_21 : decode cX7_post 21 = .ok (.ifCond .ne 6, 3) := by decide +kernel
theorem dX7_post_24 : decode cX7_post 24 = .ok (.ldc 75, 2) := by decide +kernel
theorem dX7_post_26 : decode cX7_post 26 = .ok (.ireturn, 1) := by decide +kernel
theorem dX7_post_27 : decode cX7_post 27 = .ok (.aload_n 0, 1) := by decide +kernel
theorem dX7_post_28 : decode cX7_post 28 = .ok (.getfield 36, 3) := by decide +kernel
theorem dX7_post_31 : decode cX7_post 31 = .ok (.aload_n 0, 1) := by decide +kernel
theorem dX7_post_32 : decode cX7_post 32 = .ok (.getfield 26, 3) := by decide +kernel
theorem dX7_post_35 : decode cX7_post 35 = .ok (.invokevirtual 166, 3) := by decide +kernel
theorem dX7_post_38 : decode cX7_post 38 = .ok (.aload_n 0, 1) := by decide +kernel
theorem dX7_post_39 : decode cX7_post 39 = .ok (.getfield 26, 3) := by decide +kernel
theorem dX7_post_42 : decode cX7_post 42 = .ok (.iload_n 1, 1) := by decide +kernel
theorem dX7_post_43 : decode cX7_post 43 = .ok (.iload_n 2, 1) := by decide +kernel
theorem dX7_post_44 : decode cX7_post 44 = .ok (.iload_n 3, 1) := by decide +kernel
theorem dX7_post_45 : decode cX7_post 45 = .ok (.invokevirtual 181, 3) := by decide +kernel
theorem dX7_post_48 : decode cX7_post 48 = .ok (.aload_n 0, 1) := by decide +kernel
theorem dX7_post_49 : decode cX7_post 49 = .ok (.getfield 26, 3) := by decide +kernel
theorem dX7_post_52 : decode cX7_post 52 = .ok (.getfield 184, 3) := by decide +kernel
theorem dX7_post_55 : decode cX7_post 55 = .ok (.ireturn, 1) := by decide +kernel
theorem dX7_callBack_0 : decode cX7_callBack 0 = .ok (.aload_n 0, 1) := by decide +kernel
theorem dX7_callBack_1 : decode cX7_callBack 1 = .ok (.iload_n 1, 1) := by decide +kernel
theorem dX7_callBack_2 : decode cX7_callBack 2 = .ok (.iconst 1, 1) := by decide +kernel
theorem dX7_callBack_3 : decode cX7_callBack 3 = .ok (.invokevirtual 187, 3) := by decide +kernel
theorem dX7_callBack_6 : decode cX7_callBack 6 = .ok (.istore_n 2, 1) := by decide +kernel
theorem dX7_callBack_7 : decode cX7_callBack 7 = .ok (.iload_n 2, 1) := by decide +kernel
theorem dX7_callBack_8 : decode cX7_callBack 8 = .ok (.ifCond .eq 5, 3) := by decide +kernel
theorem dX7_callBack_11 : decode cX7_callBack 11 = .ok (.iload_n 2, 1) := by decide +kernel
theorem dX7_callBack_12 : decode cX7_callBack 12 = .ok (.ireturn, 1) := by decide +kernel
theorem dX7_callBack_13 : decode cX7_callBack 13 = .ok (.aload_n 0, 1) := by decide +kernel
theorem dX7_callBack_14 : decode cX7_callBack 14 = .ok (.getfield 36, 3) := by decide +kernel
theorem dX7_callBack_17 : decode cX7_callBack 17 = .ok (.aload_n 0, 1) := by decide +kernel
theorem dX7_callBack_18 : decode cX7_callBack 18 = .ok (.getfield 26, 3) := by decide +kernel
theorem dX7_callBack_21 : decode cX7_callBack 21 = .ok (.invokevirtual 166, 3) := by decide +kernel
theorem dX7_callBack_24 : decode cX7_callBack 24 = .ok (.aload_n 0, 1) := by decide +kernel
theorem dX7_callBack_25 : decode cX7_callBack 25 = .ok (.getfield 26, 3) := by decide +kernel
theorem dX7_callBack_28 : decode cX7_callBack 28 = .ok (.dup, 1) := by decide +kernel
theorem dX7_callBack_29 : decode cX7_callBack 29 = .ok (.getfield 184, 3) := by decide +kernel
theorem dX7_callBack_32 : decode cX7_callBack 32 = .ok (.iconst 1, 1) := by decide +kernel
theorem dX7_callBack_33 : decode cX7_callBack 33 = .ok (.iload_n 1, 1) := by decide +kernel
theorem dX7_callBack_34 : decode cX7_callBack 34 = .ok (.ishl, 1) := by decide +kernel
theorem dX7_callBack_35 : decode cX7_callBack 35 = .ok (.iconst (-1), 1) := by decide +kernel
theorem dX7_callBack_36 : decode cX7_callBack 36 = .ok (.ixor, 1) := by decide +kernel
theorem dX7_callBack_37 : decode cX7_callBack 37 = .ok (.iand, 1) := by decide +kernel
theorem dX7_callBack_38 : decode cX7_callBack 38 = .ok (.putfield 184, 3) := by decide +kernel
theorem dX7_callBack_41 : decode cX7_callBack 41 = .ok (.aload_n 0, 1) := by decide +kernel
theorem dX7_callBack_42 : decode cX7_callBack 42 = .ok (.getfield 26, 3) := by decide +kernel
theorem dX7_callBack_45 : decode cX7_callBack 45 = .ok (.getfield 191, 3) := by decide +kernel
theorem dX7_callBack_48 : decode cX7_callBack 48 = .ok (.iload_n 1, 1) := by decide +kernel
theorem dX7_callBack_49 : decode cX7_callBack 49 = .ok (.iaload, 1) := by decide +kernel
theorem dX7_callBack_50 : decode cX7_callBack 50 = .ok (.ireturn, 1) := by decide +kernel
theorem dX7_begin_0 : decode cX7_begin 0 = .ok (.aload_n 0, 1) := by decide +kernel
theorem dX7_begin_1 : decode cX7_begin 1 = .ok (.iload_n 1, 1) := by decide +kernel
theorem dX7_begin_2 : decode cX7_begin 2 = .ok (.invokevirtual 195, 3) := by decide +kernel
theorem dX7_begin_5 : decode cX7_begin 5 = .ok (.ifCond .eq 13, 3) := by decide +kernel
theorem dX7_begin_8 : decode cX7_begin 8 = .ok (.iload_n 2, 1) := by decide +kernel
theorem dX7_begin_9 : decode cX7_begin 9 = .ok (.iconst 0, 1) := by decide +kernel
theorem dX7_begin_10 : decode cX7_begin 10 = .ok (.bipush 23, 2) := by decide +kernel
theorem dX7_begin_12 : decode cX7_begin 12 = .ok (.invokestatic 71, 3) := by decide +kernel
theorem dX7_begin_15 : decode cX7_begin 15 = .ok (.ifCond .ne 6, 3) := by decide +kernel
theorem dX7_begin_18 : decode cX7_begin 18 = .ok (.ldc 75, 2) := by decide +kernel
theorem dX7_begin_20 : decode cX7_begin 20 = .ok (.ireturn, 1) := by decide +kernel
theorem dX7_begin_21 : decode cX7_begin 21 = .ok (.aload_n 0, 1) := by decide +kernel
theorem dX7_begin_22 : decode cX7_begin 22 = .ok (.getfield 26, 3) := by decide +kernel
theorem dX7_begin_25 : decode cX7_begin 25 = .ok (.getfield 198, 3) := by decide +kernel
theorem dX7_begin_28 : decode cX7_begin 28 = .ok (.iload_n 1, 1) := by decide +kernel
theorem dX7_begin_29 : decode cX7_begin 29 = .ok (.iaload, 1) := by decide +kernel
theorem dX7_begin_30 : decode cX7_begin 30 = .ok (.istore_n 3, 1) := by decide +kernel
theorem dX7_begin_31 : decode cX7_begin 31 = .ok (.aload_n 0, 1) := by decide +kernel
theorem dX7_begin_32 : decode cX7_begin 32 = .ok (.getfield 36, 3) := by decide +kernel
theorem dX7_begin_35 : decode cX7_begin 35 = .ok (.aload_n 0, 1) := by decide +kernel
theorem dX7_begin_36 : decode cX7_begin 36 = .ok (.getfield 26, 3) := by decide +kernel
theorem dX7_begin_39 : decode cX7_begin 39 = .ok (.invokevirtual 166, 3) := by decide +kernel
theorem dX7_begin_42 : decode cX7_begin 42 = .ok (.aload_n 0, 1) := by decide +kernel
theorem dX7_begin_43 : decode cX7_begin 43 = .ok (.getfield 26, 3) := by decide +kernel
theorem dX7_begin_46 : decode cX7_begin 46 = .ok (.getfield 198, 3) := by decide +kernel
theorem dX7_begin_49 : decode cX7_begin 49 = .ok (.iload_n 1, 1) := by decide +kernel
theorem dX7_begin_50 : decode cX7_begin 50 = .ok (.iload_n 2, 1) := by decide +kernel
theorem dX7_begin_51 : decode cX7_begin 51 = .ok (.iastore, 1) := by decide +kernel
theorem dX7_begin_52 : decode cX7_begin 52 = .ok (.iload_n 3, 1) := by decide +kernel
theorem dX7_begin_53 : decode cX7_begin 53 = .ok (.ireturn, 1) := by decide +kernel
theorem dX7_stay_0 : decode cX7_stay 0 = .ok (.aload_n 0, 1) := by decide +kernel
theorem dX7_stay_1 : decode cX7_stay 1 = .ok (.iload_n 1, 1) := by decide +kernel
theorem dX7_stay_2 : decode cX7_stay 2 = .ok (.invokevirtual 195, 3) := by decide +kernel
theorem dX7_stay_5 : decode cX7_stay 5 = .ok (.ifCond .eq 12, 3) := by decide +kernel
theorem dX7_stay_8 : decode cX7_stay 8 = .ok (.iload_n 2, 1) := by decide +kernel
theorem dX7_stay_9 : decode cX7_stay 9 = .ok (.iconst 0, 1) := by decide +kernel
theorem dX7_stay_10 : decode cX7_stay 10 = .ok (.iconst 1, 1) := by decide +kernel
theorem dX7_stay_11 : decode cX7_stay 11 = .ok (.invokestatic 71, 3) := by decide +kernel
theorem dX7_stay_14 : decode cX7_stay 14 = .ok (.ifCond .ne 6, 3) := by decide +kernel
theorem dX7_stay_17 : decode cX7_stay 17 = .ok (.ldc 75, 2) := by decide +kernel
theorem dX7_stay_19 : decode cX7_stay 19 = .ok (.ireturn, 1) := by decide +kernel
theorem dX7_stay_20 : decode cX7_stay 20 = .ok (.aload_n 0, 1) := by decide +kernel
theorem dX7_stay_21 : decode cX7_stay 21 = .ok (.getfield 26, 3) := by decide +kernel
theorem dX7_stay_24 : decode cX7_stay 24 = .ok (.iload_n 1, 1) := by decide +kernel
theorem dX7_stay_25 : decode cX7_stay 25 = .ok (.invokevirtual 201, 3) := by decide +kernel
theorem dX7_stay_28 : decode cX7_stay 28 = .ok (.iload_n 2, 1) := by decide +kernel
theorem dX7_stay_29 : decode cX7_stay 29 = .ok (.iconst 1, 1) := by decide +kernel
theorem dX7_stay_30 : decode cX7_stay 30 = .ok (.if_icmp .ne 7, 3) := by decide +kernel
theorem dX7_stay_33 : decode cX7_stay 33 = .ok (.iconst 1, 1) := by decide +kernel
theorem dX7_stay_34 : decode cX7_stay 34 = .ok (.goto 4, 3) := by decide +kernel
theorem dX7_stay_37 : decode cX7_stay 37 = .ok (.iconst 0, 1) := by decide +kernel
theorem dX7_stay_38 : decode cX7_stay 38 = .ok (.if_icmp .ne 6, 3) := by decide +kernel
theorem dX7_stay_41 : decode cX7_stay 41 = .ok (.ldc 154, 2) := by decide +kernel
theorem dX7_stay_43 : decode cX7_stay 43 = .ok (.ireturn, 1) := by decide +kernel
theorem dX7_stay_44 : decode cX7_stay 44 = .ok (.aload_n 0, 1) := by decide +kernel
theorem dX7_stay_45 : decode cX7_stay 45 = .ok (.getfield 36, 3) := by decide +kernel
theorem dX7_stay_48 : decode cX7_stay 48 = .ok (.aload_n 0, 1) := by decide +kernel
theorem dX7_stay_49 : decode cX7_stay 49 = .ok (.getfield 26, 3) := by decide +kernel
theorem dX7_stay_52 : decode cX7_stay 52 = .ok (.invokevirtual 166, 3) := by decide +kernel
theorem dX7_stay_55 : decode cX7_stay 55 = .ok (.aload_n 0, 1) := by decide +kernel
theorem dX7_stay_56 : decode cX7_stay 56 = .ok (.getfield 26, 3) := by decide +kernel
theorem dX7_stay_59 : decode cX7_stay 59 = .ok (.dup, 1) := by decide +kernel
theorem dX7_stay_60 : decode cX7_stay 60 = .ok (.getfield 204, 3) := by decide +kernel
theorem dX7_stay_63 : decode cX7_stay 63 = .ok (.iconst 1, 1) := by decide +kernel
theorem dX7_stay_64 : decode cX7_stay 64 = .ok (.iload_n 1, 1) := by decide +kernel
theorem dX7_stay_65 : decode cX7_stay 65 = .ok (.ishl, 1) := by decide +kernel
theorem dX7_stay_66 : decode cX7_stay 66 = .ok (.ixor, 1) := by decide +kernel
theorem dX7_stay_67 : decode cX7_stay 67 = .ok (.putfield 204, 3) := by decide +kernel
theorem dX7_stay_70 : decode cX7_stay 70 = .ok (.aload_n 0, 1) := by decide +kernel
theorem dX7_stay_71 : decode cX7_stay 71 = .ok (.getfield 26, 3) := by decide +kernel
theorem dX7_stay_74 : decode cX7_stay 74 = .ok (.getfield 204, 3) := by decide +kernel
theorem dX7_stay_77 : decode cX7_stay 77 = .ok (.ireturn, 1) := by decide +kernel
theorem dX7_person_0 : decode cX7_person 0 = .ok (.aload_n 0, 1) := by decide +kernel
theorem dX7_person_1 : decode cX7_person 1 = .ok (.iload_n 1, 1) := by decide +kernel
theorem dX7_person_2 : decode cX7_person 2 = .ok (.invokevirtual 195, 3) := by decide +kernel
theorem dX7_person_5 : decode cX7_person 5 = .ok (.ifCond .ne 6, 3) := by decide +kernel
theorem dX7_person_8 : decode cX7_person 8 = .ok (.ldc 75, 2) := by decide +kernel
theorem dX7_person_10 : decode cX7_person 10 = .ok (.ireturn, 1) := by decide +kernel
theorem dX7_person_11 : decode cX7_person 11 = .ok (.iload_n 2, 1) := by decide +kernel
theorem dX7_person_12 : decode cX7_person 12 = .ok (.tableswitch 107 0 5 #[40, 50, 60, 70, 80, 90], 40) := by decide +kernel
theorem dX7_person_52 : decode cX7_person 52 = .ok (.aload_n 0, 1) := by decide +kernel
theorem dX7_person_53 : decode cX7_person 53 = .ok (.getfield 26, 3) := by decide +kernel
theorem dX7_person_56 : decode cX7_person 56 = .ok (.getfield 207, 3) := by decide +kernel
theorem dX7_person_59 : decode cX7_person 59 = .ok (.iload_n 1, 1) := by decide +kernel
theorem dX7_person_60 : decode cX7_person 60 = .ok (.iaload, 1) := by decide +kernel
theorem dX7_person_61 : decode cX7_person 61 = .ok (.ireturn, 1) := by decide +kernel
theorem dX7_person_62 : decode cX7_person 62 = .ok (.aload_n 0, 1) := by decide +kernel
theorem dX7_person_63 : decode cX7_person 63 = .ok (.getfield 26, 3) := by decide +kernel
theorem dX7_person_66 : decode cX7_person 66 = .ok (.getfield 210, 3) := by decide +kernel
theorem dX7_person_69 : decode cX7_person 69 = .ok (.iload_n 1, 1) := by decide +kernel
theorem dX7_person_70 : decode cX7_person 70 = .ok (.iaload, 1) := by decide +kernel
theorem dX7_person_71 : decode cX7_person 71 = .ok (.ireturn, 1) := by decide +kernel
theorem dX7_person_72 : decode cX7_person 72 = .ok (.aload_n 0, 1) := by decide +kernel
theorem dX7_person_73 : decode cX7_person 73 = .ok (.getfield 26, 3) := by decide +kernel
theorem dX7_person_76 : decode cX7_person 76 = .ok (.getfield 198, 3) := by decide +kernel
theorem dX7_person_79 : decode cX7_person 79 = .ok (.iload_n 1, 1) := by decide +kernel
theorem dX7_person_80 : decode cX7_person 80 = .ok (.iaload, 1) := by decide +kernel
theorem dX7_person_81 : decode cX7_person 81 = .ok (.ireturn, 1) := by decide +kernel
theorem dX7_person_82 : decode cX7_person 82 = .ok (.aload_n 0, 1) := by decide +kernel
theorem dX7_person_83 : decode cX7_person 83 = .ok (.getfield 26, 3) := by decide +kernel
theorem dX7_person_86 : decode cX7_person 86 = .ok (.iload_n 1, 1) := by decide +kernel
theorem dX7_person_87 : decode cX7_person 87 = .ok (.iconst 0, 1) := by decide +kernel
theorem dX7_person_88 : decode cX7_person 88 = .ok (.invokevirtual 213, 3) := by decide +kernel
theorem dX7_person_91 : decode cX7_person 91 = .ok (.ireturn, 1) := by decide +kernel
theorem dX7_person_92 : decode cX7_person 92 = .ok (.aload_n 0, 1) := by decide +kernel
theorem dX7_person_93 : decode cX7_person 93 = .ok (.getfield 26, 3) := by decide +kernel
theorem dX7_person_96 : decode cX7_person 96 = .ok (.iload_n 1, 1) := by decide +kernel
theorem dX7_person_97 : decode cX7_person 97 = .ok (.iconst 1, 1) := by decide +kernel
theorem dX7_person_98 : decode cX7_person 98 = .ok (.invokevirtual 213, 3) := by decide +kernel
theorem dX7_person_101 : decode cX7_person 101 = .ok (.ireturn, 1) := by decide +kernel
theorem dX7_person_102 : decode cX7_person 102 = .ok (.aload_n 0, 1) := by decide +kernel
theorem dX7_person_103 : decode cX7_person 103 = .ok (.getfield 26, 3) := by decide +kernel
theorem dX7_person_106 : decode cX7_person 106 = .ok (.iload_n 1, 1) := by decide +kernel
theorem dX7_person_107 : decode cX7_person 107 = .ok (.invokevirtual 201, 3) := by decide +kernel
theorem dX7_person_110 : decode cX7_person 110 = .ok (.ifCond .eq 7, 3) := by decide +kernel
theorem dX7_person_113 : decode cX7_person 113 = .ok (.iconst 1, 1) := by decide +kernel
theorem dX7_person_114 : decode cX7_person 114 = .ok (.goto 4, 3) := by decide +kernel
theorem dX7_person_117 : decode cX7_person 117 = .ok (.iconst 0, 1) := by decide +kernel
theorem dX7_person_118 : decode cX7_person 118 = .ok (.ireturn, 1) := by decide +kernel
theorem dX7_person_119 : decode cX7_person 119 = .ok (.ldc 75, 2) := by decide +kernel
theorem dX7_person_121 : decode cX7_person 121 = .ok (.ireturn, 1) := by decide +kernel
theorem dX7_letter_0 : decode cX7_letter 0 = .ok (.aload_n 0, 1) := by decide +kernel
theorem dX7_letter_1 : decode cX7_letter 1 = .ok (.iload_n 1, 1) := by decide +kernel
theorem dX7_letter_2 : decode cX7_letter 2 = .ok (.invokevirtual 175, 3) := by decide +kernel
theorem dX7_letter_5 : decode cX7_letter 5 = .ok (.ifCond .ne 6, 3) := by decide +kernel
theorem dX7_letter_8 : decode cX7_letter 8 = .ok (.ldc 75, 2) := by decide +kernel
theorem dX7_letter_10 : decode cX7_letter 10 = .ok (.ireturn, 1) := by decide +kernel
theorem dX7_letter_11 : decode cX7_letter 11 = .ok (.iload_n 2, 1) := by decide +kernel
theorem dX7_letter_12 : decode cX7_letter 12 = .ok (.ifCond .ne 20, 3) := by decide +kernel
theorem dX7_letter_15 : decode cX7_letter 15 = .ok (.aload_n 0, 1) := by decide +kernel
theorem dX7_letter_16 : decode cX7_letter 16 = .ok (.getfield 26, 3) := by decide +kernel
theorem dX7_letter_19 : decode cX7_letter 19 = .ok (.iload_n 1, 1) := by decide +kernel
theorem dX7_letter_20 : decode cX7_letter 20 = .ok (.invokevirtual 217, 3) := by decide +kernel
theorem dX7_letter_23 : decode cX7_letter 23 = .ok (.ifCond .eq 7, 3) := by decide +kernel
theorem dX7_letter_26 : decode cX7_letter 26 = .ok (.iconst 1, 1) := by decide +kernel
theorem dX7_letter_27 : decode cX7_letter 27 = .ok (.goto 4, 3) := by decide +kernel
theorem dX7_letter_30 : decode cX7_letter 30 = .ok (.iconst 0, 1) := by decide +kernel
theorem dX7_letter_31 : decode cX7_letter 31 = .ok (.ireturn, 1) := by decide +kernel
theorem dX7_letter_32 : decode cX7_letter 32 = .ok (.aload_n 0, 1) := by decide +kernel
theorem dX7_letter_33 : decode cX7_letter 33 = .ok (.getfield 26, 3) := by decide +kernel
theorem dX7_letter_36 : decode cX7_letter 36 = .ok (.iload_n 1, 1) := by decide +kernel
theorem dX7_letter_37 : decode cX7_letter 37 = .ok (.invokevirtual 217, 3) := by decide +kernel
theorem dX7_letter_40 : decode cX7_letter 40 = .ok (.ifCond .ne 6, 3) := by decide +kernel
theorem dX7_letter_43 : decode cX7_letter 43 = .ok (.ldc 75, 2) := by decide +kernel
theorem dX7_letter_45 : decode cX7_letter 45 = .ok (.ireturn, 1) := by decide +kernel
theorem dX7_letter_46 : decode cX7_letter 46 = .ok (.iload_n 2, 1) := by decide +kernel
theorem dX7_letter_47 : decode cX7_letter 47 = .ok (.tableswitch 58 1 3 #[25, 35, 45], 25) := by decide +kernel
theorem dX7_letter_72 : decode cX7_letter 72 = .ok (.aload_n 0, 1) := by decide +kernel
theorem dX7_letter_73 : decode cX7_letter 73 = .ok (.getfield 26, 3) := by decide +kernel
theorem dX7_letter_76 : decode cX7_letter 76 = .ok (.getfield 191, 3) := by decide +kernel
theorem dX7_letter_79 : decode cX7_letter 79 = .ok (.iload_n 1, 1) := by decide +kernel
theorem dX7_letter_80 : decode cX7_letter 80 = .ok (.iaload, 1) := by decide +kernel
theorem dX7_letter_81 : decode cX7_letter 81 = .ok (.ireturn, 1) := by decide +kernel
theorem dX7_letter_82 : decode cX7_letter 82 = .ok (.aload_n 0, 1) := by decide +kernel
theorem dX7_letter_83 : decode cX7_letter 83 = .ok (.getfield 26, 3) := by decide +kernel
theorem dX7_letter_86 : decode cX7_letter 86 = .ok (.getfield 220, 3) := by decide +kernel
theorem dX7_letter_89 : decode cX7_letter 89 = .ok (.iload_n 1, 1) := by decide +kernel
theorem dX7_letter_90 : decode cX7_letter 90 = .ok (.iaload, 1) := by decide +kernel
theorem dX7_letter_91 : decode cX7_letter 91 = .ok (.ireturn, 1) := by decide +kernel
theorem dX7_letter_92 : decode cX7_letter 92 = .ok (.aload_n 0, 1) := by decide +kernel
theorem dX7_letter_93 : decode cX7_letter 93 = .ok (.getfield 52, 3) := by decide +kernel
theorem dX7_letter_96 : decode cX7_letter 96 = .ok (.aload_n 0, 1) := by decide +kernel
theorem dX7_letter_97 : decode cX7_letter 97 = .ok (.getfield 26, 3) := by decide +kernel
theorem dX7_letter_100 : decode cX7_letter 100 = .ok (.iload_n 1, 1) := by decide +kernel
theorem dX7_letter_101 : decode cX7_letter 101 = .ok (.invokevirtual 223, 3) := by decide +kernel
theorem dX7_letter_104 : decode cX7_letter 104 = .ok (.ireturn, 1) := by decide +kernel
theorem dX7_letter_105 : decode cX7_letter 105 = .ok (.ldc 75, 2) := by decide +kernel
theorem dX7_letter_107 : decode cX7_letter 107 = .ok (.ireturn, 1) := by decide +kernel
theorem dX7_lane_0 : decode cX7_lane 0 = .ok (.aload_n 0, 1) := by decide +kernel
theorem dX7_lane_1 : decode cX7_lane 1 = .ok (.iload_n 1, 1) := by decide +kernel
theorem dX7_lane_2 : decode cX7_lane 2 = .ok (.invokevirtual 178, 3) := by decide +kernel
theorem dX7_lane_5 : decode cX7_lane 5 = .ok (.ifCond .eq 14, 3) := by decide +kernel
theorem dX7_lane_8 : decode cX7_lane 8 = .ok (.aload_n 0, 1) := by decide +kernel
theorem dX7_lane_9 : decode cX7_lane 9 = .ok (.getfield 26, 3) := by decide +kernel
theorem dX7_lane_12 : decode cX7_lane 12 = .ok (.iload_n 1, 1) := by decide +kernel
theorem dX7_lane_13 : decode cX7_lane 13 = .ok (.invokevirtual 227, 3) := by decide +kernel
theorem dX7_lane_16 : decode cX7_lane 16 = .ok (.goto 5, 3) := by decide +kernel
theorem dX7_lane_19 : decode cX7_lane 19 = .ok (.ldc 75, 2) := by decide +kernel
theorem dX7_lane_21 : decode cX7_lane 21 = .ok (.ireturn, 1) := by decide +kernel
theorem dX7_ahead_0 : decode cX7_ahead 0 = .ok (.aload_n 0, 1) := by decide +kernel
theorem dX7_ahead_1 : decode cX7_ahead 1 = .ok (.iload_n 1, 1) := by decide +kernel
theorem dX7_ahead_2 : decode cX7_ahead 2 = .ok (.invokevirtual 195, 3) := by decide +kernel
theorem dX7_ahead_5 : decode cX7_ahead 5 = .ok (.ifCond .eq 13, 3) := by decide +kernel
theorem dX7_ahead_8 : decode cX7_ahead 8 = .ok (.iload_n 2, 1) := by decide +kernel
theorem dX7_ahead_9 : decode cX7_ahead 9 = .ok (.iconst 0, 1) := by decide +kernel
theorem dX7_ahead_10 : decode cX7_ahead 10 = .ok (.bipush 99, 2) := by decide +kernel
theorem dX7_ahead_12 : decode cX7_ahead 12 = .ok (.invokestatic 71, 3) := by decide +kernel
theorem dX7_ahead_15 : decode cX7_ahead 15 = .ok (.ifCond .ne 6, 3) := by decide +kernel
theorem dX7_ahead_18 : decode cX7_ahead 18 = .ok (.ldc 75, 2) := by decide +kernel
theorem dX7_ahead_20 : decode cX7_ahead 20 = .ok (.ireturn, 1) := by decide +kernel
theorem dX7_ahead_21 : decode cX7_ahead 21 = .ok (.aload_n 0, 1) := by decide +kernel
theorem dX7_ahead_22 : decode cX7_ahead 22 = .ok (.getfield 26, 3) := by decide +kernel
theorem dX7_ahead_25 : decode cX7_ahead 25 = .ok (.iload_n 1, 1) := by decide +kernel
theorem dX7_ahead_26 : decode cX7_ahead 26 = .ok (.iload_n 2, 1) := by decide +kernel
theorem dX7_ahead_27 : decode cX7_ahead 27 = .ok (.invokevirtual 213, 3) := by decide +kernel
theorem dX7_ahead_30 : decode cX7_ahead 30 = .ok (.ireturn, 1) := by decide +kernel
theorem dX7_letterAhead_0 : decode cX7_letterAhead 0 = .ok (.aload_n 0, 1) := by decide +kernel
theorem dX7_letterAhead_1 : decode cX7_letterAhead 1 = .ok (.iload_n 1, 1) := by decide +kernel
theorem dX7_letterAhead_2 : decode cX7_letterAhead 2 = .ok (.iload_n 2, 1) := by decide +kernel
theorem dX7_letterAhead_3 : decode cX7_letterAhead 3 = .ok (.iconst 0, 1) := by decide +kernel
theorem dX7_letterAhead_4 : decode cX7_letterAhead 4 = .ok (.bipush 99, 2) := by decide +kernel
theorem dX7_letterAhead_6 : decode cX7_letterAhead 6 = .ok (.invokestatic 71, 3) := by decide +kernel
theorem dX7_letterAhead_9 : decode cX7_letterAhead 9 = .ok (.invokevirtual 187, 3) := by decide +kernel
theorem dX7_letterAhead_12 : decode cX7_letterAhead 12 = .ok (.istore_n 3, 1) := by decide +kernel
theorem dX7_letterAhead_13 : decode cX7_letterAhead 13 = .ok (.iload_n 3, 1) := by decide +kernel
theorem dX7_letterAhead_14 : decode cX7_letterAhead 14 = .ok (.ifCond .eq 7, 3) := by decide +kernel
theorem dX7_letterAhead_17 : decode cX7_letterAhead 17 = .ok (.iload_n 3, 1) := by decide +kernel
theorem dX7_letterAhead_18 : decode cX7_letterAhead 18 = .ok (.goto 16, 3) := by decide +kernel
theorem dX7_letterAhead_21 : decode cX7_letterAhead 21 = .ok (.aload_n 0, 1) := by decide +kernel
theorem dX7_letterAhead_22 : decode cX7_letterAhead 22 = .ok (.getfield 52, 3) := by decide +kernel
theorem dX7_letterAhead_25 : decode cX7_letterAhead 25 = .ok (.aload_n 0, 1) := by decide +kernel
theorem dX7_letterAhead_26 : decode cX7_letterAhead 26 = .ok (.getfield 26, 3) := by decide +kernel
theorem dX7_letterAhead_29 : decode cX7_letterAhead 29 = .ok (.iload_n 1, 1) := by decide +kernel
theorem dX7_letterAhead_30 : decode cX7_letterAhead 30 = .ok (.iload_n 2, 1) := by decide +kernel
theorem dX7_letterAhead_31 : decode cX7_letterAhead 31 = .ok (.invokevirtual 230, 3) := by decide +kernel
theorem dX7_letterAhead_34 : decode cX7_letterAhead 34 = .ok (.ireturn, 1) := by decide +kernel
theorem dX7_arrives_0 : decode cX7_arrives 0 = .ok (.aload_n 0, 1) := by decide +kernel
theorem dX7_arrives_1 : decode cX7_arrives 1 = .ok (.iload_n 1, 1) := by decide +kernel
theorem dX7_arrives_2 : decode cX7_arrives 2 = .ok (.iconst 1, 1) := by decide +kernel
theorem dX7_arrives_3 : decode cX7_arrives 3 = .ok (.invokevirtual 187, 3) := by decide +kernel
theorem dX7_arrives_6 : decode cX7_arrives 6 = .ok (.istore_n 2, 1) := by decide +kernel
theorem dX7_arrives_7 : decode cX7_arrives 7 = .ok (.iload_n 2, 1) := by decide +kernel
theorem dX7_arrives_8 : decode cX7_arrives 8 = .ok (.ifCond .eq 7, 3) := by decide +kernel
theorem dX7_arrives_11 : decode cX7_arrives 11 = .ok (.iload_n 2, 1) := by decide +kernel
theorem dX7_arrives_12 : decode cX7_arrives 12 = .ok (.goto 15, 3) := by decide +kernel
theorem dX7_arrives_15 : decode cX7_arrives 15 = .ok (.aload_n 0, 1) := by decide +kernel
theorem dX7_arrives_16 : decode cX7_arrives 16 = .ok (.getfield 52, 3) := by decide +kernel
theorem dX7_arrives_19 : decode cX7_arrives 19 = .ok (.aload_n 0, 1) := by decide +kernel
theorem dX7_arrives_20 : decode cX7_arrives 20 = .ok (.getfield 26, 3) := by decide +kernel
theorem dX7_arrives_23 : decode cX7_arrives 23 = .ok (.iload_n 1, 1) := by decide +kernel
theorem dX7_arrives_24 : decode cX7_arrives 24 = .ok (.invokevirtual 234, 3) := by decide +kernel
theorem dX7_arrives_27 : decode cX7_arrives 27 = .ok (.ireturn, 1) := by decide +kernel
theorem dX7_carriers_0 : decode cX7_carriers 0 = .ok (.aload_n 0, 1) := by decide +kernel
theorem dX7_carriers_1 : decode cX7_carriers 1 = .ok (.iload_n 1, 1) := by decide +kernel
theorem dX7_carriers_2 : decode cX7_carriers 2 = .ok (.iload_n 2, 1) := by decide +kernel
theorem dX7_carriers_3 : decode cX7_carriers 3 = .ok (.invokestatic 237, 3) := by decide +kernel
theorem dX7_carriers_6 : decode cX7_carriers 6 = .ok (.invokevirtual 187, 3) := by decide +kernel
theorem dX7_carriers_9 : decode cX7_carriers 9 = .ok (.istore_n 3, 1) := by decide +kernel
theorem dX7_carriers_10 : decode cX7_carriers 10 = .ok (.iload_n 3, 1) := by decide +kernel
theorem dX7_carriers_11 : decode cX7_carriers 11 = .ok (.ifCond .eq 7, 3) := by decide +kernel
theorem dX7_carriers_14 : decode cX7_carriers 14 = .ok (.iload_n 3, 1) := by decide +kernel
theorem dX7_carriers_15 : decode cX7_carriers 15 = .ok (.goto 16, 3) := by decide +kernel
theorem dX7_carriers_18 : decode cX7_carriers 18 = .ok (.aload_n 0, 1) := by decide +kernel
theorem dX7_carriers_19 : decode cX7_carriers 19 = .ok (.getfield 52, 3) := by decide +kernel
theorem dX7_carriers_22 : decode cX7_carriers 22 = .ok (.aload_n 0, 1) := by decide +kernel
theorem dX7_carriers_23 : decode cX7_carriers 23 = .ok (.getfield 26, 3) := by decide +kernel
theorem dX7_carriers_26 : decode cX7_carriers 26 = .ok (.iload_n 1, 1) := by decide +kernel
theorem dX7_carriers_27 : decode cX7_carriers 27 = .ok (.iload_n 2, 1) := by decide +kernel
theorem dX7_carriers_28 : decode cX7_carriers 28 = .ok (.invokevirtual 240, 3) := by decide +kernel
theorem dX7_carriers_31 : decode cX7_carriers 31 = .ok (.ireturn, 1) := by decide +kernel
theorem dX7_bestHour_0 : decode cX7_bestHour 0 = .ok (.aload_n 0, 1) := by decide +kernel
theorem dX7_bestHour_1 : decode cX7_bestHour 1 = .ok (.iload_n 1, 1) := by decide +kernel
theorem dX7_bestHour_2 : decode cX7_bestHour 2 = .ok (.invokevirtual 178, 3) := by decide +kernel
theorem dX7_bestHour_5 : decode cX7_bestHour 5 = .ok (.ifCond .eq 25, 3) := by decide +kernel
theorem dX7_bestHour_8 : decode cX7_bestHour 8 = .ok (.aload_n 0, 1) := by decide +kernel
theorem dX7_bestHour_9 : decode cX7_bestHour 9 = .ok (.iload_n 2, 1) := by decide +kernel
theorem dX7_bestHour_10 : decode cX7_bestHour 10 = .ok (.invokevirtual 178, 3) := by decide +kernel
theorem dX7_bestHour_13 : decode cX7_bestHour 13 = .ok (.ifCond .eq 17, 3) := by decide +kernel
theorem dX7_bestHour_16 : decode cX7_bestHour 16 = .ok (.iload_n 1, 1) := by decide +kernel
theorem dX7_bestHour_17 : decode cX7_bestHour 17 = .ok (.iload_n 2, 1) := by decide +kernel
theorem dX7_bestHour_18 : decode cX7_bestHour 18 = .ok (.if_icmp .eq 12, 3) := by decide +kernel
theorem dX7_bestHour_21 : decode cX7_bestHour 21 = .ok (.iload_n 3, 1) := by decide +kernel
theorem dX7_bestHour_22 : decode cX7_bestHour 22 = .ok (.iconst 0, 1) := by decide +kernel
theorem dX7_bestHour_23 : decode cX7_bestHour 23 = .ok (.iconst 1, 1) := by decide +kernel
theorem dX7_bestHour_24 : decode cX7_bestHour 24 = .ok (.invokestatic 71, 3) := by decide +kernel
theorem dX7_bestHour_27 : decode cX7_bestHour 27 = .ok (.ifCond .ne 6, 3) := by decide +kernel
theorem dX7_bestHour_30 : decode cX7_bestHour 30 = .ok (.ldc 75, 2) := by decide +kernel
theorem dX7_bestHour_32 : decode cX7_bestHour 32 = .ok (.ireturn, 1) := by decide +kernel
theorem dX7_bestHour_33 : decode cX7_bestHour 33 = .ok (.aload_n 0, 1) := by decide +kernel
theorem dX7_bestHour_34 : decode cX7_bestHour 34 = .ok (.getfield 52, 3) := by decide +kernel
theorem dX7_bestHour_37 : decode cX7_bestHour 37 = .ok (.aload_n 0, 1) := by decide +kernel
theorem dX7_bestHour_38 : decode cX7_bestHour 38 = .ok (.getfield 26, 3) := by decide +kernel
theorem dX7_bestHour_41 : decode cX7_bestHour 41 = .ok (.iload_n 1, 1) := by decide +kernel
theorem dX7_bestHour_42 : decode cX7_bestHour 42 = .ok (.iload_n 2, 1) := by decide +kernel
theorem dX7_bestHour_43 : decode cX7_bestHour 43 = .ok (.iload_n 3, 1) := by decide +kernel
theorem dX7_bestHour_44 : decode cX7_bestHour 44 = .ok (.invokevirtual 243, 3) := by decide +kernel
theorem dX7_bestHour_47 : decode cX7_bestHour 47 = .ok (.ireturn, 1) := by decide +kernel
theorem dX7_spots_0 : decode cX7_spots 0 = .ok (.aload_n 0, 1) := by decide +kernel
theorem dX7_spots_1 : decode cX7_spots 1 = .ok (.iload_n 1, 1) := by decide +kernel
theorem dX7_spots_2 : decode cX7_spots 2 = .ok (.invokevirtual 178, 3) := by decide +kernel
theorem dX7_spots_5 : decode cX7_spots 5 = .ok (.ifCond .eq 10, 3) := by decide +kernel
theorem dX7_spots_8 : decode cX7_spots 8 = .ok (.iload_n 2, 1) := by decide +kernel
theorem dX7_spots_9 : decode cX7_spots 9 = .ok (.invokestatic 237, 3) := by decide +kernel
theorem dX7_spots_12 : decode cX7_spots 12 = .ok (.ifCond .ne 6, 3) := by decide +kernel
theorem dX7_spots_15 : decode cX7_spots 15 = .ok (.ldc 75, 2) := by decide +kernel
theorem dX7_spots_17 : decode cX7_spots 17 = .ok (.ireturn, 1) := by decide +kernel
theorem dX7_spots_18 : decode cX7_spots 18 = .ok (.aload_n 0, 1) := by decide +kernel
theorem dX7_spots_19 : decode cX7_spots 19 = .ok (.getfield 52, 3) := by decide +kernel
theorem dX7_spots_22 : decode cX7_spots 22 = .ok (.aload_n 0, 1) := by decide +kernel
theorem dX7_spots_23 : decode cX7_spots 23 = .ok (.getfield 26, 3) := by decide +kernel
theorem dX7_spots_26 : decode cX7_spots 26 = .ok (.iload_n 1, 1) := by decide +kernel
theorem dX7_spots_27 : decode cX7_spots 27 = .ok (.iload_n 2, 1) := by decide +kernel
theorem dX7_spots_28 : decode cX7_spots 28 = .ok (.invokevirtual 247, 3) := by decide +kernel
theorem dX7_spots_31 : decode cX7_spots 31 = .ok (.ireturn, 1) := by decide +kernel
theorem dX7_cutOff_0 : decode cX7_cutOff 0 = .ok (.aload_n 0, 1) := by decide +kernel
theorem dX7_cutOff_1 : decode cX7_cutOff 1 = .ok (.getfield 26, 3) := by decide +kernel
theorem dX7_cutOff_4 : decode cX7_cutOff 4 = .ok (.invokevirtual 155, 3) := by decide +kernel
theorem dX7_cutOff_7 : decode cX7_cutOff 7 = .ok (.ifCond .eq 17, 3) := by decide +kernel
theorem dX7_cutOff_10 : decode cX7_cutOff 10 = .ok (.aload_n 0, 1) := by decide +kernel
theorem dX7_cutOff_11 : decode cX7_cutOff 11 = .ok (.getfield 52, 3) := by decide +kernel
theorem dX7_cutOff_14 : decode cX7_cutOff 14 = .ok (.aload_n 0, 1) := by decide +kernel
theorem dX7_cutOff_15 : decode cX7_cutOff 15 = .ok (.getfield 26, 3) := by decide +kernel
theorem dX7_cutOff_18 : decode cX7_cutOff 18 = .ok (.invokevirtual 250, 3) := by decide +kernel
theorem dX7_cutOff_21 : decode cX7_cutOff 21 = .ok (.goto 5, 3) := by decide +kernel
theorem dX7_cutOff_24 : decode cX7_cutOff 24 = .ok (.ldc 154, 2) := by decide +kernel
theorem dX7_cutOff_26 : decode cX7_cutOff 26 = .ok (.ireturn, 1) := by decide +kernel
theorem dX7_crew_0 : decode cX7_crew 0 = .ok (.aload_n 0, 1) := by decide +kernel
theorem dX7_crew_1 : decode cX7_crew 1 = .ok (.iload_n 1, 1) := by decide +kernel
theorem dX7_crew_2 : decode cX7_crew 2 = .ok (.iload_n 2, 1) := by decide +kernel
theorem dX7_crew_3 : decode cX7_crew 3 = .ok (.invokestatic 237, 3) := by decide +kernel
theorem dX7_crew_6 : decode cX7_crew 6 = .ok (.ifCond .eq 16, 3) := by decide +kernel
theorem dX7_crew_9 : decode cX7_crew 9 = .ok (.iload_n 3, 1) := by decide +kernel
theorem dX7_crew_10 : decode cX7_crew 10 = .ok (.iconst 0, 1) := by decide +kernel
theorem dX7_crew_11 : decode cX7_crew 11 = .ok (.iconst 1, 1) := by decide +kernel
theorem dX7_crew_12 : decode cX7_crew 12 = .ok (.invokestatic 71, 3) := by decide +kernel
theorem dX7_crew_15 : decode cX7_crew 15 = .ok (.ifCond .eq 7, 3) := by decide +kernel
theorem dX7_crew_18 : decode cX7_crew 18 = .ok (.iconst 1, 1) := by decide +kernel
theorem dX7_crew_19 : decode cX7_crew 19 = .ok (.goto 4, 3) := by decide +kernel
theorem dX7_crew_22 : decode cX7_crew 22 = .ok (.iconst 0, 1) := by decide +kernel
theorem dX7_crew_23 : decode cX7_crew 23 = .ok (.invokevirtual 187, 3) := by decide +kernel
theorem dX7_crew_26 : decode cX7_crew 26 = .ok (.istore 4, 2) := by decide +kernel
theorem dX7_crew_28 : decode cX7_crew 28 = .ok (.iload 4, 2) := by decide +kernel
theorem dX7_crew_30 : decode cX7_crew 30 = .ok (.ifCond .eq 8, 3) := by decide +kernel
theorem dX7_crew_33 : decode cX7_crew 33 = .ok (.iload 4, 2) := by decide +kernel
theorem dX7_crew_35 : decode cX7_crew 35 = .ok (.goto 17, 3) := by decide +kernel
theorem dX7_crew_38 : decode cX7_crew 38 = .ok (.aload_n 0, 1) := by decide +kernel
theorem dX7_crew_39 : decode cX7_crew 39 = .ok (.getfield 52, 3) := by decide +kernel
theorem dX7_crew_42 : decode cX7_crew 42 = .ok (.aload_n 0, 1) := by decide +kernel
theorem dX7_crew_43 : decode cX7_crew 43 = .ok (.getfield 26, 3) := by decide +kernel
theorem dX7_crew_46 : decode cX7_crew 46 = .ok (.iload_n 1, 1) := by decide +kernel
theorem dX7_crew_47 : decode cX7_crew 47 = .ok (.iload_n 2, 1) := by decide +kernel
theorem dX7_crew_48 : decode cX7_crew 48 = .ok (.iload_n 3, 1) := by decide +kernel
theorem dX7_crew_49 : decode cX7_crew 49 = .ok (.invokevirtual 253, 3) := by decide +kernel
theorem dX7_crew_52 : decode cX7_crew 52 = .ok (.ireturn, 1) := by decide +kernel
theorem dX7_needed_0 : decode cX7_needed 0 = .ok (.aload_n 0, 1) := by decide +kernel
theorem dX7_needed_1 : decode cX7_needed 1 = .ok (.iload_n 1, 1) := by decide +kernel
theorem dX7_needed_2 : decode cX7_needed 2 = .ok (.iload_n 2, 1) := by decide +kernel
theorem dX7_needed_3 : decode cX7_needed 3 = .ok (.invokestatic 237, 3) := by decide +kernel
theorem dX7_needed_6 : decode cX7_needed 6 = .ok (.invokevirtual 187, 3) := by decide +kernel
theorem dX7_needed_9 : decode cX7_needed 9 = .ok (.istore_n 3, 1) := by decide +kernel
theorem dX7_needed_10 : decode cX7_needed 10 = .ok (.iload_n 3, 1) := by decide +kernel
theorem dX7_needed_11 : decode cX7_needed 11 = .ok (.ifCond .eq 7, 3) := by decide +kernel
theorem dX7_needed_14 : decode cX7_needed 14 = .ok (.iload_n 3, 1) := by decide +kernel
theorem dX7_needed_15 : decode cX7_needed 15 = .ok (.goto 16, 3) := by decide +kernel
theorem dX7_needed_18 : decode cX7_needed 18 = .ok (.aload_n 0, 1) := by decide +kernel
theorem dX7_needed_19 : decode cX7_needed 19 = .ok (.getfield 52, 3) := by decide +kernel
theorem dX7_needed_22 : decode cX7_needed 22 = .ok (.aload_n 0, 1) := by decide +kernel
theorem dX7_needed_23 : decode cX7_needed 23 = .ok (.getfield 26, 3) := by decide +kernel
theorem dX7_needed_26 : decode cX7_needed 26 = .ok (.iload_n 1, 1) := by decide +kernel
theorem dX7_needed_27 : decode cX7_needed 27 = .ok (.iload_n 2, 1) := by decide +kernel
theorem dX7_needed_28 : decode cX7_needed 28 = .ok (.invokevirtual 256, 3) := by decide +kernel
theorem dX7_needed_31 : decode cX7_needed 31 = .ok (.ireturn, 1) := by decide +kernel
theorem dX7_meet_0 : decode cX7_meet 0 = .ok (.aload_n 0, 1) := by decide +kernel
theorem dX7_meet_1 : decode cX7_meet 1 = .ok (.iload_n 1, 1) := by decide +kernel
theorem dX7_meet_2 : decode cX7_meet 2 = .ok (.invokevirtual 195, 3) := by decide +kernel
theorem dX7_meet_5 : decode cX7_meet 5 = .ok (.ifCond .eq 16, 3) := by decide +kernel
theorem dX7_meet_8 : decode cX7_meet 8 = .ok (.aload_n 0, 1) := by decide +kernel
theorem dX7_meet_9 : decode cX7_meet 9 = .ok (.iload_n 2, 1) := by decide +kernel
theorem dX7_meet_10 : decode cX7_meet 10 = .ok (.invokevirtual 195, 3) := by decide +kernel
theorem dX7_meet_13 : decode cX7_meet 13 = .ok (.ifCond .eq 8, 3) := by decide +kernel
theorem dX7_meet_16 : decode cX7_meet 16 = .ok (.iload_n 1, 1) := by decide +kernel
theorem dX7_meet_17 : decode cX7_meet 17 = .ok (.iload_n 2, 1) := by decide +kernel
theorem dX7_meet_18 : decode cX7_meet 18 = .ok (.if_icmp .ne 6, 3) := by decide +kernel
theorem dX7_meet_21 : decode cX7_meet 21 = .ok (.ldc 75, 2) := by decide +kernel
theorem dX7_meet_23 : decode cX7_meet 23 = .ok (.ireturn, 1) := by decide +kernel
theorem dX7_meet_24 : decode cX7_meet 24 = .ok (.aload_n 0, 1) := by decide +kernel
theorem dX7_meet_25 : decode cX7_meet 25 = .ok (.getfield 52, 3) := by decide +kernel
theorem dX7_meet_28 : decode cX7_meet 28 = .ok (.aload_n 0, 1) := by decide +kernel
theorem dX7_meet_29 : decode cX7_meet 29 = .ok (.getfield 26, 3) := by decide +kernel
theorem dX7_meet_32 : decode cX7_meet 32 = .ok (.iload_n 1, 1) := by decide +kernel
theorem dX7_meet_33 : decode cX7_meet 33 = .ok (.iload_n 2, 1) := by decide +kernel
theorem dX7_meet_34 : decode cX7_meet 34 = .ok (.invokevirtual 259, 3) := by decide +kernel
theorem dX7_meet_37 : decode cX7_meet 37 = .ok (.ireturn, 1) := by decide +kernel
theorem dX7_answer_0 : decode cX7_answer 0 = .ok (.aload_n 0, 1) := by decide +kernel
theorem dX7_answer_1 : decode cX7_answer 1 = .ok (.iload_n 1, 1) := by decide +kernel
theorem dX7_answer_2 : decode cX7_answer 2 = .ok (.iconst 1, 1) := by decide +kernel
theorem dX7_answer_3 : decode cX7_answer 3 = .ok (.invokevirtual 187, 3) := by decide +kernel
theorem dX7_answer_6 : decode cX7_answer 6 = .ok (.istore_n 2, 1) := by decide +kernel
theorem dX7_answer_7 : decode cX7_answer 7 = .ok (.iload_n 2, 1) := by decide +kernel
theorem dX7_answer_8 : decode cX7_answer 8 = .ok (.ifCond .eq 7, 3) := by decide +kernel
theorem dX7_answer_11 : decode cX7_answer 11 = .ok (.iload_n 2, 1) := by decide +kernel
theorem dX7_answer_12 : decode cX7_answer 12 = .ok (.goto 15, 3) := by decide +kernel
theorem dX7_answer_15 : decode cX7_answer 15 = .ok (.aload_n 0, 1) := by decide +kernel
theorem dX7_answer_16 : decode cX7_answer 16 = .ok (.getfield 52, 3) := by decide +kernel
theorem dX7_answer_19 : decode cX7_answer 19 = .ok (.aload_n 0, 1) := by decide +kernel
theorem dX7_answer_20 : decode cX7_answer 20 = .ok (.getfield 26, 3) := by decide +kernel
theorem dX7_answer_23 : decode cX7_answer 23 = .ok (.iload_n 1, 1) := by decide +kernel
theorem dX7_answer_24 : decode cX7_answer 24 = .ok (.invokevirtual 262, 3) := by decide +kernel
theorem dX7_answer_27 : decode cX7_answer 27 = .ok (.ireturn, 1) := by decide +kernel
theorem dX7_who_0 : decode cX7_who 0 = .ok (.aload_n 0, 1) := by decide +kernel
theorem dX7_who_1 : decode cX7_who 1 = .ok (.iload_n 1, 1) := by decide +kernel
theorem dX7_who_2 : decode cX7_who 2 = .ok (.invokevirtual 195, 3) := by decide +kernel
theorem dX7_who_5 : decode cX7_who 5 = .ok (.ifCond .eq 16, 3) := by decide +kernel
theorem dX7_who_8 : decode cX7_who 8 = .ok (.iload_n 2, 1) := by decide +kernel
theorem dX7_who_9 : decode cX7_who 9 = .ok (.iconst 0, 1) := by decide +kernel
theorem dX7_who_10 : decode cX7_who 10 = .ok (.iconst 1, 1) := by decide +kernel
theorem dX7_who_11 : decode cX7_who 11 = .ok (.invokestatic 71, 3) := by decide +kernel
theorem dX7_who_14 : decode cX7_who 14 = .ok (.ifCond .eq 7, 3) := by decide +kernel
theorem dX7_who_17 : decode cX7_who 17 = .ok (.iconst 1, 1) := by decide +kernel
theorem dX7_who_18 : decode cX7_who 18 = .ok (.goto 4, 3) := by decide +kernel
theorem dX7_who_21 : decode cX7_who 21 = .ok (.iconst 0, 1) := by decide +kernel
theorem dX7_who_22 : decode cX7_who 22 = .ok (.istore 7, 2) := by decide +kernel
theorem dX7_who_24 : decode cX7_who 24 = .ok (.aload_n 0, 1) := by decide +kernel
theorem dX7_who_25 : decode cX7_who 25 = .ok (.iload_n 3, 1) := by decide +kernel
theorem dX7_who_26 : decode cX7_who 26 = .ok (.iload 7, 2) := by decide +kernel
theorem dX7_who_28 : decode cX7_who 28 = .ok (.iload 4, 2) := by decide +kernel
theorem dX7_who_30 : decode cX7_who 30 = .ok (.iload 5, 2) := by decide +kernel
theorem dX7_who_32 : decode cX7_who 32 = .ok (.iload 6, 2) := by decide +kernel
theorem dX7_who_34 : decode cX7_who 34 = .ok (.invokevirtual 265, 3) := by decide +kernel
theorem dX7_who_37 : decode cX7_who 37 = .ok (.istore 8, 2) := by decide +kernel
theorem dX7_who_39 : decode cX7_who 39 = .ok (.iload 8, 2) := by decide +kernel
theorem dX7_who_41 : decode cX7_who 41 = .ok (.ifCond .eq 6, 3) := by decide +kernel
theorem dX7_who_44 : decode cX7_who 44 = .ok (.iload 8, 2) := by decide +kernel
theorem dX7_who_46 : decode cX7_who 46 = .ok (.ireturn, 1) := by decide +kernel
theorem dX7_who_47 : decode cX7_who 47 = .ok (.aload_n 0, 1) := by decide +kernel
theorem dX7_who_48 : decode cX7_who 48 = .ok (.iload_n 2, 1) := by decide +kernel
theorem dX7_who_49 : decode cX7_who 49 = .ok (.ifCond .ne 19, 3) := by decide +kernel
theorem dX7_who_52 : decode cX7_who 52 = .ok (.aload_n 0, 1) := by decide +kernel
theorem dX7_who_53 : decode cX7_who 53 = .ok (.getfield 52, 3) := by decide +kernel
theorem dX7_who_56 : decode cX7_who 56 = .ok (.aload_n 0, 1) := by decide +kernel
theorem dX7_who_57 : decode cX7_who 57 = .ok (.getfield 26, 3) := by decide +kernel
theorem dX7_who_60 : decode cX7_who 60 = .ok (.iload_n 1, 1) := by decide +kernel
theorem dX7_who_61 : decode cX7_who 61 = .ok (.iload_n 3, 1) := by decide +kernel
theorem dX7_who_62 : decode cX7_who 62 = .ok (.invokevirtual 269, 3) := by decide +kernel
theorem dX7_who_65 : decode cX7_who 65 = .ok (.goto 16, 3) := by decide +kernel
theorem dX7_who_68 : decode cX7_who 68 = .ok (.aload_n 0, 1) := by decide +kernel
theorem dX7_who_69 : decode cX7_who 69 = .ok (.getfield 52, 3) := by decide +kernel
theorem dX7_who_72 : decode cX7_who 72 = .ok (.aload_n 0, 1) := by decide +kernel
theorem dX7_who_73 : decode cX7_who 73 = .ok (.getfield 26, 3) := by decide +kernel
theorem dX7_who_76 : decode cX7_who 76 = .ok (.iload_n 1, 1) := by decide +kernel
theorem dX7_who_77 : decode cX7_who 77 = .ok (.iload_n 3, 1) := by decide +kernel
theorem dX7_who_78 : decode cX7_who 78 = .ok (.invokevirtual 272, 3) := by decide +kernel
theorem dX7_who_81 : decode cX7_who 81 = .ok (.invokevirtual 84, 3) := by decide +kernel
theorem dX7_who_84 : decode cX7_who 84 = .ok (.ireturn, 1) := by decide +kernel
theorem dX7_missing_0 : decode cX7_missing 0 = .ok (.aload_n 0, 1) := by decide +kernel
theorem dX7_missing_1 : decode cX7_missing 1 = .ok (.iload_n 1, 1) := by decide +kernel
theorem dX7_missing_2 : decode cX7_missing 2 = .ok (.iconst 1, 1) := by decide +kernel
theorem dX7_missing_3 : decode cX7_missing 3 = .ok (.iload_n 2, 1) := by decide +kernel
theorem dX7_missing_4 : decode cX7_missing 4 = .ok (.iload_n 3, 1) := by decide +kernel
theorem dX7_missing_5 : decode cX7_missing 5 = .ok (.iload 4, 2) := by decide +kernel
theorem dX7_missing_7 : decode cX7_missing 7 = .ok (.invokevirtual 265, 3) := by decide +kernel
theorem dX7_missing_10 : decode cX7_missing 10 = .ok (.istore 5, 2) := by decide +kernel
theorem dX7_missing_12 : decode cX7_missing 12 = .ok (.iload 5, 2) := by decide +kernel
theorem dX7_missing_14 : decode cX7_missing 14 = .ok (.ifCond .eq 8, 3) := by decide +kernel
theorem dX7_missing_17 : decode cX7_missing 17 = .ok (.iload 5, 2) := by decide +kernel
theorem dX7_missing_19 : decode cX7_missing 19 = .ok (.goto 19, 3) := by decide +kernel
theorem dX7_missing_22 : decode cX7_missing 22 = .ok (.aload_n 0, 1) := by decide +kernel
theorem dX7_missing_23 : decode cX7_missing 23 = .ok (.aload_n 0, 1) := by decide +kernel
theorem dX7_missing_24 : decode cX7_missing 24 = .ok (.getfield 52, 3) := by decide +kernel
theorem dX7_missing_27 : decode cX7_missing 27 = .ok (.aload_n 0, 1) := by decide +kernel
theorem dX7_missing_28 : decode cX7_missing 28 = .ok (.getfield 26, 3) := by decide +kernel
theorem dX7_missing_31 : decode cX7_missing 31 = .ok (.iload_n 1, 1) := by decide +kernel
theorem dX7_missing_32 : decode cX7_missing 32 = .ok (.invokevirtual 275, 3) := by decide +kernel
theorem dX7_missing_35 : decode cX7_missing 35 = .ok (.invokevirtual 84, 3) := by decide +kernel
theorem dX7_missing_38 : decode cX7_missing 38 = .ok (.ireturn, 1) := by decide +kernel
theorem dX7_goals_0 : decode cX7_goals 0 = .ok (.aload_n 0, 1) := by decide +kernel
theorem dX7_goals_1 : decode cX7_goals 1 = .ok (.iload_n 1, 1) := by decide +kernel
theorem dX7_goals_2 : decode cX7_goals 2 = .ok (.iconst 1, 1) := by decide +kernel
theorem dX7_goals_3 : decode cX7_goals 3 = .ok (.iload_n 2, 1) := by decide +kernel
theorem dX7_goals_4 : decode cX7_goals 4 = .ok (.iload_n 3, 1) := by decide +kernel
theorem dX7_goals_5 : decode cX7_goals 5 = .ok (.iload 4, 2) := by decide +kernel
theorem dX7_goals_7 : decode cX7_goals 7 = .ok (.invokevirtual 265, 3) := by decide +kernel
theorem dX7_goals_10 : decode cX7_goals 10 = .ok (.istore 5, 2) := by decide +kernel
theorem dX7_goals_12 : decode cX7_goals 12 = .ok (.iload 5, 2) := by decide +kernel
theorem dX7_goals_14 : decode cX7_goals 14 = .ok (.ifCond .eq 8, 3) := by decide +kernel
theorem dX7_goals_17 : decode cX7_goals 17 = .ok (.iload 5, 2) := by decide +kernel
theorem dX7_goals_19 : decode cX7_goals 19 = .ok (.goto 19, 3) := by decide +kernel
theorem dX7_goals_22 : decode cX7_goals 22 = .ok (.aload_n 0, 1) := by decide +kernel
theorem dX7_goals_23 : decode cX7_goals 23 = .ok (.aload_n 0, 1) := by decide +kernel
theorem dX7_goals_24 : decode cX7_goals 24 = .ok (.getfield 52, 3) := by decide +kernel
theorem dX7_goals_27 : decode cX7_goals 27 = .ok (.aload_n 0, 1) := by decide +kernel
theorem dX7_goals_28 : decode cX7_goals 28 = .ok (.getfield 26, 3) := by decide +kernel
theorem dX7_goals_31 : decode cX7_goals 31 = .ok (.iload_n 1, 1) := by decide +kernel
theorem dX7_goals_32 : decode cX7_goals 32 = .ok (.invokevirtual 278, 3) := by decide +kernel
theorem dX7_goals_35 : decode cX7_goals 35 = .ok (.invokevirtual 84, 3) := by decide +kernel
theorem dX7_goals_38 : decode cX7_goals 38 = .ok (.ireturn, 1) := by decide +kernel
theorem dX7_busy_0 : decode cX7_busy 0 = .ok (.aload_n 0, 1) := by decide +kernel
theorem dX7_busy_1 : decode cX7_busy 1 = .ok (.getfield 26, 3) := by decide +kernel
theorem dX7_busy_4 : decode cX7_busy 4 = .ok (.invokevirtual 155, 3) := by decide +kernel
theorem dX7_busy_7 : decode cX7_busy 7 = .ok (.ifCond .ne 6, 3) := by decide +kernel
theorem dX7_busy_10 : decode cX7_busy 10 = .ok (.ldc 154, 2) := by decide +kernel
theorem dX7_busy_12 : decode cX7_busy 12 = .ok (.ireturn, 1) := by decide +kernel
theorem dX7_busy_13 : decode cX7_busy 13 = .ok (.iload_n 1, 1) := by decide +kernel
theorem dX7_busy_14 : decode cX7_busy 14 = .ok (.invokestatic 237, 3) := by decide +kernel
theorem dX7_busy_17 : decode cX7_busy 17 = .ok (.ifCond .eq 12, 3) := by decide +kernel
theorem dX7_busy_20 : decode cX7_busy 20 = .ok (.iload_n 2, 1) := by decide +kernel
theorem dX7_busy_21 : decode cX7_busy 21 = .ok (.iconst 0, 1) := by decide +kernel
theorem dX7_busy_22 : decode cX7_busy 22 = .ok (.iconst 1, 1) := by decide +kernel
theorem dX7_busy_23 : decode cX7_busy 23 = .ok (.invokestatic 71, 3) := by decide +kernel
theorem dX7_busy_26 : decode cX7_busy 26 = .ok (.ifCond .ne 6, 3) := by decide +kernel
theorem dX7_busy_29 : decode cX7_busy 29 = .ok (.ldc 75, 2) := by decide +kernel
theorem dX7_busy_31 : decode cX7_busy 31 = .ok (.ireturn, 1) := by decide +kernel
theorem dX7_busy_32 : decode cX7_busy 32 = .ok (.aload_n 0, 1) := by decide +kernel
theorem dX7_busy_33 : decode cX7_busy 33 = .ok (.getfield 52, 3) := by decide +kernel
theorem dX7_busy_36 : decode cX7_busy 36 = .ok (.aload_n 0, 1) := by decide +kernel
theorem dX7_busy_37 : decode cX7_busy 37 = .ok (.getfield 26, 3) := by decide +kernel
theorem dX7_busy_40 : decode cX7_busy 40 = .ok (.iload_n 1, 1) := by decide +kernel
theorem dX7_busy_41 : decode cX7_busy 41 = .ok (.iload_n 2, 1) := by decide +kernel
theorem dX7_busy_42 : decode cX7_busy 42 = .ok (.invokevirtual 281, 3) := by decide +kernel
theorem dX7_busy_45 : decode cX7_busy 45 = .ok (.ireturn, 1) := by decide +kernel
theorem dX7_sick_0 : decode cX7_sick 0 = .ok (.iload_n 2, 1) := by decide +kernel
theorem dX7_sick_1 : decode cX7_sick 1 = .ok (.iconst 0, 1) := by decide +kernel
theorem dX7_sick_2 : decode cX7_sick 2 = .ok (.bipush 99, 2) := by decide +kernel
theorem dX7_sick_4 : decode cX7_sick 4 = .ok (.invokestatic 71, 3) := by decide +kernel
theorem dX7_sick_7 : decode cX7_sick 7 = .ok (.ifCond .eq 27, 3) := by decide +kernel
theorem dX7_sick_10 : decode cX7_sick 10 = .ok (.iload_n 3, 1) := by decide +kernel
theorem dX7_sick_11 : decode cX7_sick 11 = .ok (.iconst 0, 1) := by decide +kernel
theorem dX7_sick_12 : decode cX7_sick 12 = .ok (.bipush 10, 2) := by decide +kernel
theorem dX7_sick_14 : decode cX7_sick 14 = .ok (.invokestatic 71, 3) := by decide +kernel
theorem dX7_sick_17 : decode cX7_sick 17 = .ok (.ifCond .eq 17, 3) := by decide +kernel
theorem dX7_sick_20 : decode cX7_sick 20 = .ok (.iload 4, 2) := by decide +kernel
theorem dX7_sick_22 : decode cX7_sick 22 = .ok (.iconst 0, 1) := by decide +kernel
theorem dX7_sick_23 : decode cX7_sick 23 = .ok (.iconst 1, 1) := by decide +kernel
theorem dX7_sick_24 : decode cX7_sick 24 = .ok (.invokestatic 71, 3) := by decide +kernel
theorem dX7_sick_27 : decode cX7_sick 27 = .ok (.ifCond .eq 7, 3) := by decide +kernel
theorem dX7_sick_30 : decode cX7_sick 30 = .ok (.iconst 1, 1) := by decide +kernel
theorem dX7_sick_31 : decode cX7_sick 31 = .ok (.goto 4, 3) := by decide +kernel
theorem dX7_sick_34 : decode cX7_sick 34 = .ok (.iconst 0, 1) := by decide +kernel
theorem dX7_sick_35 : decode cX7_sick 35 = .ok (.istore 5, 2) := by decide +kernel
theorem dX7_sick_37 : decode cX7_sick 37 = .ok (.aload_n 0, 1) := by decide +kernel
theorem dX7_sick_38 : decode cX7_sick 38 = .ok (.iload_n 1, 1) := by decide +kernel
theorem dX7_sick_39 : decode cX7_sick 39 = .ok (.iload 5, 2) := by decide +kernel
theorem dX7_sick_41 : decode cX7_sick 41 = .ok (.invokevirtual 187, 3) := by decide +kernel
theorem dX7_sick_44 : decode cX7_sick 44 = .ok (.istore 6, 2) := by decide +kernel
theorem dX7_sick_46 : decode cX7_sick 46 = .ok (.iload 6, 2) := by decide +kernel
theorem dX7_sick_48 : decode cX7_sick 48 = .ok (.ifCond .eq 9, 3) := by decide +kernel
theorem dX7_sick_51 : decode cX7_sick 51 = .ok (.iload 6, 2) := by decide +kernel
theorem dX7_sick_53 : decode cX7_sick 53 = .ok (.i2l, 1) := by decide +kernel
theorem dX7_sick_54 : decode cX7_sick 54 = .ok (.goto 19, 3) := by decide +kernel
theorem dX7_sick_57 : decode cX7_sick 57 = .ok (.aload_n 0, 1) := by decide +kernel
theorem dX7_sick_58 : decode cX7_sick 58 = .ok (.getfield 52, 3) := by decide +kernel
theorem dX7_sick_61 : decode cX7_sick 61 = .ok (.aload_n 0, 1) := by decide +kernel
theorem dX7_sick_62 : decode cX7_sick 62 = .ok (.getfield 26, 3) := by decide +kernel
theorem dX7_sick_65 : decode cX7_sick 65 = .ok (.iload_n 1, 1) := by decide +kernel
theorem dX7_sick_66 : decode cX7_sick 66 = .ok (.iload_n 2, 1) := by decide +kernel
theorem dX7_sick_67 : decode cX7_sick 67 = .ok (.iload_n 3, 1) := by decide +kernel
theorem dX7_sick_68 : decode cX7_sick 68 = .ok (.iload 4, 2) := by decide +kernel
theorem dX7_sick_70 : decode cX7_sick 70 = .ok (.invokevirtual 284, 3) := by decide +kernel
theorem dX7_sick_73 : decode cX7_sick 73 = .ok (.lreturn, 1) := by decide +kernel
theorem dX7_drawn_0 : decode cX7_drawn 0 = .ok (.aload_n 0, 1) := by decide +kernel
theorem dX7_drawn_1 : decode cX7_drawn 1 = .ok (.getfield 26, 3) := by decide +kernel
theorem dX7_drawn_4 : decode cX7_drawn 4 = .ok (.invokevirtual 155, 3) := by decide +kernel
theorem dX7_drawn_7 : decode cX7_drawn 7 = .ok (.ifCond .ne 6, 3) := by decide +kernel
theorem dX7_drawn_10 : decode cX7_drawn 10 = .ok (.ldc 154, 2) := by decide +kernel
theorem dX7_drawn_12 : decode cX7_drawn 12 = .ok (.ireturn, 1) := by decide +kernel
theorem dX7_drawn_13 : decode cX7_drawn 13 = .ok (.iload_n 1, 1) := by decide +kernel
theorem dX7_drawn_14 : decode cX7_drawn 14 = .ok (.iconst 0, 1) := by decide +kernel
theorem dX7_drawn_15 : decode cX7_drawn 15 = .ok (.bipush 99, 2) := by decide +kernel
theorem dX7_drawn_17 : decode cX7_drawn 17 = .ok (.invokestatic 71, 3) := by decide +kernel
theorem dX7_drawn_20 : decode cX7_drawn 20 = .ok (.ifCond .eq 23, 3) := by decide +kernel
theorem dX7_drawn_23 : decode cX7_drawn 23 = .ok (.iload_n 2, 1) := by decide +kernel
theorem dX7_drawn_24 : decode cX7_drawn 24 = .ok (.iconst 1, 1) := by decide +kernel
theorem dX7_drawn_25 : decode cX7_drawn 25 = .ok (.ldc_w 288, 3) := by decide +kernel
theorem dX7_drawn_28 : decode cX7_drawn 28 = .ok (.invokestatic 71, 3) := by decide +kernel
theorem dX7_drawn_31 : decode cX7_drawn 31 = .ok (.ifCond .eq 12, 3) := by decide +kernel
theorem dX7_drawn_34 : decode cX7_drawn 34 = .ok (.iload_n 3, 1) := by decide +kernel
theorem dX7_drawn_35 : decode cX7_drawn 35 = .ok (.iconst 0, 1) := by decide +kernel
theorem dX7_drawn_36 : decode cX7_drawn 36 = .ok (.iconst 1, 1) := by decide +kernel
theorem dX7_drawn_37 : decode cX7_drawn 37 = .ok (.invokestatic 71, 3) := by decide +kernel
theorem dX7_drawn_40 : decode cX7_drawn 40 = .ok (.ifCond .ne 6, 3) := by decide +kernel
theorem dX7_drawn_43 : decode cX7_drawn 43 = .ok (.ldc 75, 2) := by decide +kernel
theorem dX7_drawn_45 : decode cX7_drawn 45 = .ok (.ireturn, 1) := by decide +kernel
theorem dX7_drawn_46 : decode cX7_drawn 46 = .ok (.aload_n 0, 1) := by decide +kernel
theorem dX7_drawn_47 : decode cX7_drawn 47 = .ok (.getfield 52, 3) := by decide +kernel
theorem dX7_drawn_50 : decode cX7_drawn 50 = .ok (.aload_n 0, 1) := by decide +kernel
theorem dX7_drawn_51 : decode cX7_drawn 51 = .ok (.getfield 26, 3) := by decide +kernel
theorem dX7_drawn_54 : decode cX7_drawn 54 = .ok (.iload_n 1, 1) := by decide +kernel
theorem dX7_drawn_55 : decode cX7_drawn 55 = .ok (.iload_n 2, 1) := by decide +kernel
theorem dX7_drawn_56 : decode cX7_drawn 56 = .ok (.iload_n 3, 1) := by decide +kernel
theorem dX7_drawn_57 : decode cX7_drawn 57 = .ok (.invokevirtual 289, 3) := by decide +kernel
theorem dX7_drawn_60 : decode cX7_drawn 60 = .ok (.ireturn, 1) := by decide +kernel
theorem dX7_image_0 : decode cX7_image 0 = .ok (.iload_n 1, 1) := by decide +kernel
theorem dX7_image_1 : decode cX7_image 1 = .ok (.iconst 0, 1) := by decide +kernel
theorem dX7_image_2 : decode cX7_image 2 = .ok (.iconst 1, 1) := by decide +kernel
theorem dX7_image_3 : decode cX7_image 3 = .ok (.invokestatic 71, 3) := by decide +kernel
theorem dX7_image_6 : decode cX7_image 6 = .ok (.ifCond .ne 6, 3) := by decide +kernel
theorem dX7_image_9 : decode cX7_image 9 = .ok (.ldc 75, 2) := by decide +kernel
theorem dX7_image_11 : decode cX7_image 11 = .ok (.ireturn, 1) := by decide +kernel
theorem dX7_image_12 : decode cX7_image 12 = .ok (.aload_n 0, 1) := by decide +kernel
theorem dX7_image_13 : decode cX7_image 13 = .ok (.getfield 26, 3) := by decide +kernel
theorem dX7_image_16 : decode cX7_image 16 = .ok (.invokevirtual 155, 3) := by decide +kernel
theorem dX7_image_19 : decode cX7_image 19 = .ok (.ifCond .ne 6, 3) := by decide +kernel
theorem dX7_image_22 : decode cX7_image 22 = .ok (.ldc 154, 2) := by decide +kernel
theorem dX7_image_24 : decode cX7_image 24 = .ok (.ireturn, 1) := by decide +kernel
theorem dX7_image_25 : decode cX7_image 25 = .ok (.aload_n 0, 1) := by decide +kernel
theorem dX7_image_26 : decode cX7_image 26 = .ok (.getfield 63, 3) := by decide +kernel
theorem dX7_image_29 : decode cX7_image 29 = .ok (.iload_n 1, 1) := by decide +kernel
theorem dX7_image_30 : decode cX7_image 30 = .ok (.aaload, 1) := by decide +kernel
theorem dX7_image_31 : decode cX7_image 31 = .ok (.aload_n 0, 1) := by decide +kernel
theorem dX7_image_32 : decode cX7_image 32 = .ok (.getfield 26, 3) := by decide +kernel
theorem dX7_image_35 : decode cX7_image 35 = .ok (.invokevirtual 137, 3) := by decide +kernel
theorem dX7_image_38 : decode cX7_image 38 = .ok (.iconst 1, 1) := by decide +kernel
theorem dX7_image_39 : decode cX7_image 39 = .ok (.ireturn, 1) := by decide +kernel
theorem dX7_restore_0 : decode cX7_restore 0 = .ok (.iload_n 1, 1) := by decide +kernel
theorem dX7_restore_1 : decode cX7_restore 1 = .ok (.iconst 0, 1) := by decide +kernel
theorem dX7_restore_2 : decode cX7_restore 2 = .ok (.iconst 1, 1) := by decide +kernel
theorem dX7_restore_3 : decode cX7_restore 3 = .ok (.invokestatic 71, 3) := by decide +kernel
theorem dX7_restore_6 : decode cX7_restore 6 = .ok (.ifCond .ne 6, 3) := by decide +kernel
theorem dX7_restore_9 : decode cX7_restore 9 = .ok (.ldc 75, 2) := by decide +kernel
theorem dX7_restore_11 : decode cX7_restore 11 = .ok (.ireturn, 1) := by decide +kernel
theorem dX7_restore_12 : decode cX7_restore 12 = .ok (.aload_n 0, 1) := by decide +kernel
theorem dX7_restore_13 : decode cX7_restore 13 = .ok (.getfield 63, 3) := by decide +kernel
theorem dX7_restore_16 : decode cX7_restore 16 = .ok (.iload_n 1, 1) := by decide +kernel
theorem dX7_restore_17 : decode cX7_restore 17 = .ok (.aaload, 1) := by decide +kernel
theorem dX7_restore_18 : decode cX7_restore 18 = .ok (.invokevirtual 155, 3) := by decide +kernel
theorem dX7_restore_21 : decode cX7_restore 21 = .ok (.ifCond .ne 6, 3) := by decide +kernel
theorem dX7_restore_24 : decode cX7_restore 24 = .ok (.ldc 154, 2) := by decide +kernel
theorem dX7_restore_26 : decode cX7_restore 26 = .ok (.ireturn, 1) := by decide +kernel
theorem dX7_restore_27 : decode cX7_restore 27 = .ok (.aload_n 0, 1) := by decide +kernel
theorem dX7_restore_28 : decode cX7_restore 28 = .ok (.getfield 26, 3) := by decide +kernel
theorem dX7_restore_31 : decode cX7_restore 31 = .ok (.aload_n 0, 1) := by decide +kernel
theorem dX7_restore_32 : decode cX7_restore 32 = .ok (.getfield 63, 3) := by decide +kernel
theorem dX7_restore_35 : decode cX7_restore 35 = .ok (.iload_n 1, 1) := by decide +kernel
theorem dX7_restore_36 : decode cX7_restore 36 = .ok (.aaload, 1) := by decide +kernel
theorem dX7_restore_37 : decode cX7_restore 37 = .ok (.invokevirtual 137, 3) := by decide +kernel
theorem dX7_restore_40 : decode cX7_restore 40 = .ok (.aload_n 0, 1) := by decide +kernel
theorem dX7_restore_41 : decode cX7_restore 41 = .ok (.getfield 36, 3) := by decide +kernel
theorem dX7_restore_44 : decode cX7_restore 44 = .ok (.invokevirtual 141, 3) := by decide +kernel
theorem dX7_restore_47 : decode cX7_restore 47 = .ok (.iconst 1, 1) := by decide +kernel
theorem dX7_restore_48 : decode cX7_restore 48 = .ok (.ireturn, 1) := by decide +kernel
theorem dX7_kind_0 : decode cX7_kind 0 = .ok (.aload_n 0, 1) := by decide +kernel
theorem dX7_kind_1 : decode cX7_kind 1 = .ok (.iload_n 1, 1) := by decide +kernel
theorem dX7_kind_2 : decode cX7_kind 2 = .ok (.invokevirtual 195, 3) := by decide +kernel
theorem dX7_kind_5 : decode cX7_kind 5 = .ok (.ifCond .eq 15, 3) := by decide +kernel
theorem dX7_kind_8 : decode cX7_kind 8 = .ok (.aload_n 0, 1) := by decide +kernel
theorem dX7_kind_9 : decode cX7_kind 9 = .ok (.getfield 26, 3) := by decide +kernel
theorem dX7_kind_12 : decode cX7_kind 12 = .ok (.getfield 292, 3) := by decide +kernel
theorem dX7_kind_15 : decode cX7_kind 15 = .ok (.iload_n 1, 1) := by decide +kernel
theorem dX7_kind_16 : decode cX7_kind 16 = .ok (.iaload, 1) := by decide +kernel
theorem dX7_kind_17 : decode cX7_kind 17 = .ok (.goto 5, 3) := by decide +kernel
theorem dX7_kind_20 : decode cX7_kind 20 = .ok (.ldc 75, 2) := by decide +kernel
theorem dX7_kind_22 : decode cX7_kind 22 = .ok (.ireturn, 1) := by decide +kernel
theorem dX7_as_0 : decode cX7_as 0 = .ok (.aload_n 0, 1) := by decide +kernel
theorem dX7_as_1 : decode cX7_as 1 = .ok (.iload_n 1, 1) := by decide +kernel
theorem dX7_as_2 : decode cX7_as 2 = .ok (.invokevirtual 195, 3) := by decide +kernel
theorem dX7_as_5 : decode cX7_as 5 = .ok (.ifCond .eq 12, 3) := by decide +kernel
theorem dX7_as_8 : decode cX7_as 8 = .ok (.iload_n 2, 1) := by decide +kernel
theorem dX7_as_9 : decode cX7_as 9 = .ok (.iconst 0, 1) := by decide +kernel
theorem dX7_as_10 : decode cX7_as 10 = .ok (.iconst 5, 1) := by decide +kernel
theorem dX7_as_11 : decode cX7_as 11 = .ok (.invokestatic 71, 3) := by decide +kernel
theorem dX7_as_14 : decode cX7_as 14 = .ok (.ifCond .ne 6, 3) := by decide +kernel
theorem dX7_as_17 : decode cX7_as 17 = .ok (.ldc 75, 2) := by decide +kernel
theorem dX7_as_19 : decode cX7_as 19 = .ok (.ireturn, 1) := by decide +kernel
theorem dX7_as_20 : decode cX7_as 20 = .ok (.aload_n 0, 1) := by decide +kernel
theorem dX7_as_21 : decode cX7_as 21 = .ok (.getfield 26, 3) := by decide +kernel
theorem dX7_as_24 : decode cX7_as 24 = .ok (.getfield 292, 3) := by decide +kernel
theorem dX7_as_27 : decode cX7_as 27 = .ok (.iload_n 1, 1) := by decide +kernel
theorem dX7_as_28 : decode cX7_as 28 = .ok (.iaload, 1) := by decide +kernel
theorem dX7_as_29 : decode cX7_as 29 = .ok (.iload_n 2, 1) := by decide +kernel
theorem dX7_as_30 : decode cX7_as 30 = .ok (.invokestatic 295, 3) := by decide +kernel
theorem dX7_as_33 : decode cX7_as 33 = .ok (.ifCond .eq 11, 3) := by decide +kernel
theorem dX7_as_36 : decode cX7_as 36 = .ok (.aload_n 0, 1) := by decide +kernel
theorem dX7_as_37 : decode cX7_as 37 = .ok (.iload_n 1, 1) := by decide +kernel
theorem dX7_as_38 : decode cX7_as 38 = .ok (.invokevirtual 84, 3) := by decide +kernel
theorem dX7_as_41 : decode cX7_as 41 = .ok (.goto 8, 3) := by decide +kernel
theorem dX7_as_44 : decode cX7_as 44 = .ok (.aload_n 0, 1) := by decide +kernel
theorem dX7_as_45 : decode cX7_as 45 = .ok (.iconst 3, 1) := by decide +kernel
theorem dX7_as_46 : decode cX7_as 46 = .ok (.invokevirtual 76, 3) := by decide +kernel
theorem dX7_as_49 : decode cX7_as 49 = .ok (.ireturn, 1) := by decide +kernel
theorem dX7_ask_0 : decode cX7_ask 0 = .ok (.aload_n 0, 1) := by decide +kernel
theorem dX7_ask_1 : decode cX7_ask 1 = .ok (.iload_n 1, 1) := by decide +kernel
theorem dX7_ask_2 : decode cX7_ask 2 = .ok (.invokevirtual 195, 3) := by decide +kernel
theorem dX7_ask_5 : decode cX7_ask 5 = .ok (.ifCond .eq 12, 3) := by decide +kernel
theorem dX7_ask_8 : decode cX7_ask 8 = .ok (.iload_n 2, 1) := by decide +kernel
theorem dX7_ask_9 : decode cX7_ask 9 = .ok (.iconst 0, 1) := by decide +kernel
theorem dX7_ask_10 : decode cX7_ask 10 = .ok (.iconst 1, 1) := by decide +kernel
theorem dX7_ask_11 : decode cX7_ask 11 = .ok (.invokestatic 71, 3) := by decide +kernel
theorem dX7_ask_14 : decode cX7_ask 14 = .ok (.ifCond .ne 6, 3) := by decide +kernel
theorem dX7_ask_17 : decode cX7_ask 17 = .ok (.ldc 75, 2) := by decide +kernel
theorem dX7_ask_19 : decode cX7_ask 19 = .ok (.ireturn, 1) := by decide +kernel
theorem dX7_ask_20 : decode cX7_ask 20 = .ok (.aload_n 0, 1) := by decide +kernel
theorem dX7_ask_21 : decode cX7_ask 21 = .ok (.getfield 59, 3) := by decide +kernel
theorem dX7_ask_24 : decode cX7_ask 24 = .ok (.aload_n 0, 1) := by decide +kernel
theorem dX7_ask_25 : decode cX7_ask 25 = .ok (.getfield 26, 3) := by decide +kernel
theorem dX7_ask_28 : decode cX7_ask 28 = .ok (.iload_n 1, 1) := by decide +kernel
theorem dX7_ask_29 : decode cX7_ask 29 = .ok (.iload_n 2, 1) := by decide +kernel
theorem dX7_ask_30 : decode cX7_ask 30 = .ok (.invokevirtual 299, 3) := by decide +kernel
theorem dX7_ask_33 : decode cX7_ask 33 = .ok (.ireturn, 1) := by decide +kernel
theorem dX7_trace_0 : decode cX7_trace 0 = .ok (.aload_n 0, 1) := by decide +kernel
theorem dX7_trace_1 : decode cX7_trace 1 = .ok (.getfield 59, 3) := by decide +kernel
theorem dX7_trace_4 : decode cX7_trace 4 = .ok (.iload_n 1, 1) := by decide +kernel
theorem dX7_trace_5 : decode cX7_trace 5 = .ok (.invokevirtual 301, 3) := by decide +kernel
theorem dX7_trace_8 : decode cX7_trace 8 = .ok (.ireturn, 1) := by decide +kernel
theorem dX7_count_0 : decode cX7_count 0 = .ok (.iload_n 1, 1) := by decide +kernel
theorem dX7_count_1 : decode cX7_count 1 = .ok (.tableswitch 111 0 7 #[47, 55, 63, 71, 79, 87, 95, 103], 47) := by decide +kernel
theorem dX7_count_48 : decode cX7_count 48 = .ok (.aload_n 0, 1) := by decide +kernel
theorem dX7_count_49 : decode cX7_count 49 = .ok (.getfield 10, 3) := by decide +kernel
theorem dX7_count_52 : decode cX7_count 52 = .ok (.invokevirtual 304, 3) := by decide +kernel
theorem dX7_count_55 : decode cX7_count 55 = .ok (.ireturn, 1) := by decide +kernel
theorem dX7_count_56 : decode cX7_count 56 = .ok (.aload_n 0, 1) := by decide +kernel
theorem dX7_count_57 : decode cX7_count 57 = .ok (.getfield 26, 3) := by decide +kernel
theorem dX7_count_60 : decode cX7_count 60 = .ok (.getfield 307, 3) := by decide +kernel
theorem dX7_count_63 : decode cX7_count 63 = .ok (.ireturn, 1) := by decide +kernel
theorem dX7_count_64 : decode cX7_count 64 = .ok (.aload_n 0, 1) := by decide +kernel
theorem dX7_count_65 : decode cX7_count 65 = .ok (.getfield 26, 3) := by decide +kernel
theorem dX7_count_68 : decode cX7_count 68 = .ok (.getfield 144, 3) := by decide +kernel
theorem dX7_count_71 : decode cX7_count 71 = .ok (.ireturn, 1) := by decide +kernel
theorem dX7_count_72 : decode cX7_count 72 = .ok (.aload_n 0, 1) := by decide +kernel
theorem dX7_count_73 : decode cX7_count 73 = .ok (.getfield 26, 3) := by decide +kernel
theorem dX7_count_76 : decode cX7_count 76 = .ok (.getfield 159, 3) := by decide +kernel
theorem dX7_count_79 : decode cX7_count 79 = .ok (.ireturn, 1) := by decide +kernel
theorem dX7_count_80 : decode cX7_count 80 = .ok (.aload_n 0, 1) := by decide +kernel
theorem dX7_count_81 : decode cX7_count 81 = .ok (.getfield 26, 3) := by decide +kernel
theorem dX7_count_84 : decode cX7_count 84 = .ok (.getfield 184, 3) := by decide +kernel
theorem dX7_count_87 : decode cX7_count 87 = .ok (.ireturn, 1) := by decide +kernel
theorem dX7_count_88 : decode cX7_count 88 = .ok (.aload_n 0, 1) := by decide +kernel
theorem dX7_count_89 : decode cX7_count 89 = .ok (.getfield 26, 3) := by decide +kernel
theorem dX7_count_92 : decode cX7_count 92 = .ok (.getfield 204, 3) := by decide +kernel
theorem dX7_count_95 : decode cX7_count 95 = .ok (.ireturn, 1) := by decide +kernel
theorem dX7_count_96 : decode cX7_count 96 = .ok (.aload_n 0, 1) := by decide +kernel
theorem dX7_count_97 : decode cX7_count 97 = .ok (.getfield 36, 3) := by decide +kernel
theorem dX7_count_100 : decode cX7_count 100 = .ok (.invokevirtual 151, 3) := by decide +kernel
theorem dX7_count_103 : decode cX7_count 103 = .ok (.ireturn, 1) := by decide +kernel
theorem dX7_count_104 : decode cX7_count 104 = .ok (.aload_n 0, 1) := by decide +kernel
theorem dX7_count_105 : decode cX7_count 105 = .ok (.getfield 19, 3) := by decide +kernel
theorem dX7_count_108 : decode cX7_count 108 = .ok (.invokevirtual 117, 3) := by decide +kernel
theorem dX7_count_111 : decode cX7_count 111 = .ok (.ireturn, 1) := by decide +kernel
theorem dX7_count_112 : decode cX7_count 112 = .ok (.ldc 75, 2) := by decide +kernel
theorem dX7_count_114 : decode cX7_count 114 = .ok (.ireturn, 1) := by decide +kernel
theorem dX7_status_0 : decode cX7_status 0 = .ok (.aload_n 0, 1) := by decide +kernel
theorem dX7_status_1 : decode cX7_status 1 = .ok (.getfield 310, 3) := by decide +kernel
theorem dX7_status_4 : decode cX7_status 4 = .ok (.ireturn, 1) := by decide +kernel
theorem dX7_within_0 : decode cX7_within 0 = .ok (.iload_n 0, 1) := by decide +kernel
theorem dX7_within_1 : decode cX7_within 1 = .ok (.iload_n 1, 1) := by decide +kernel
theorem dX7_within_2 : decode cX7_within 2 = .ok (.if_icmp .lt 12, 3) := by decide +kernel
theorem dX7_within_5 : decode cX7_within 5 = .ok (.iload_n 0, 1) := by decide +kernel
theorem dX7_within_6 : decode cX7_within 6 = .ok (.iload_n 2, 1) := by decide +kernel
theorem dX7_within_7 : decode cX7_within 7 = .ok (.if_icmp .gt 7, 3) := by decide +kernel
theorem dX7_within_10 : decode cX7_within 10 = .ok (.iconst 1, 1) := by decide +kernel
theorem dX7_within_11 : decode cX7_within 11 = .ok (.goto 4, 3) := by decide +kernel
theorem dX7_within_14 : decode cX7_within 14 = .ok (.iconst 0, 1) := by decide +kernel
theorem dX7_within_15 : decode cX7_within 15 = .ok (.ireturn, 1) := by decide +kernel
theorem dX7_isSpan_0 : decode cX7_isSpan 0 = .ok (.iload_n 0, 1) := by decide +kernel
theorem dX7_isSpan_1 : decode cX7_isSpan 1 = .ok (.iconst 1, 1) := by decide +kernel
theorem dX7_isSpan_2 : decode cX7_isSpan 2 = .ok (.bipush 99, 2) := by decide +kernel
theorem dX7_isSpan_4 : decode cX7_isSpan 4 = .ok (.invokestatic 71, 3) := by decide +kernel
theorem dX7_isSpan_7 : decode cX7_isSpan 7 = .ok (.ireturn, 1) := by decide +kernel
theorem dX7_isPerson_0 : decode cX7_isPerson 0 = .ok (.iload_n 1, 1) := by decide +kernel
theorem dX7_isPerson_1 : decode cX7_isPerson 1 = .ok (.ifCond .lt 18, 3) := by decide +kernel
theorem dX7_isPerson_4 : decode cX7_isPerson 4 = .ok (.iload_n 1, 1) := by decide +kernel
theorem dX7_isPerson_5 : decode cX7_isPerson 5 = .ok (.aload_n 0, 1) := by decide +kernel
theorem dX7_isPerson_6 : decode cX7_isPerson 6 = .ok (.getfield 26, 3) := by decide +kernel
theorem dX7_isPerson_9 : decode cX7_isPerson 9 = .ok (.getfield 144, 3) := by decide +kernel
theorem dX7_isPerson_12 : decode cX7_isPerson 12 = .ok (.if_icmp .ge 7, 3) := by decide +kernel
theorem dX7_isPerson_15 : decode cX7_isPerson 15 = .ok (.iconst 1, 1) := by decide +kernel
theorem dX7_isPerson_16 : decode cX7_isPerson 16 = .ok (.goto 4, 3) := by decide +kernel
theorem dX7_isPerson_19 : decode cX7_isPerson 19 = .ok (.iconst 0, 1) := by decide +kernel
theorem dX7_isPerson_20 : decode cX7_isPerson 20 = .ok (.ireturn, 1) := by decide +kernel
theorem dX7_isLane_0 : decode cX7_isLane 0 = .ok (.iload_n 1, 1) := by decide +kernel
theorem dX7_isLane_1 : decode cX7_isLane 1 = .ok (.ifCond .lt 18, 3) := by decide +kernel
theorem dX7_isLane_4 : decode cX7_isLane 4 = .ok (.iload_n 1, 1) := by decide +kernel
theorem dX7_isLane_5 : decode cX7_isLane 5 = .ok (.aload_n 0, 1) := by decide +kernel
theorem dX7_isLane_6 : decode cX7_isLane 6 = .ok (.getfield 26, 3) := by decide +kernel
theorem dX7_isLane_9 : decode cX7_isLane 9 = .ok (.getfield 307, 3) := by decide +kernel
theorem dX7_isLane_12 : decode cX7_isLane 12 = .ok (.if_icmp .ge 7, 3) := by decide +kernel
theorem dX7_isLane_15 : decode cX7_isLane 15 = .ok (.iconst 1, 1) := by decide +kernel
theorem dX7_isLane_16 : decode cX7_isLane 16 = .ok (.goto 4, 3) := by decide +kernel
theorem dX7_isLane_19 : decode cX7_isLane 19 = .ok (.iconst 0, 1) := by decide +kernel
theorem dX7_isLane_20 : decode cX7_isLane 20 = .ok (.ireturn, 1) := by decide +kernel
theorem dX7_isLetter_0 : decode cX7_isLetter 0 = .ok (.aload_n 0, 1) := by decide +kernel
theorem dX7_isLetter_1 : decode cX7_isLetter 1 = .ok (.getfield 26, 3) := by decide +kernel
theorem dX7_isLetter_4 : decode cX7_isLetter 4 = .ok (.invokevirtual 155, 3) := by decide +kernel
theorem dX7_isLetter_7 : decode cX7_isLetter 7 = .ok (.ifCond .eq 16, 3) := by decide +kernel
theorem dX7_isLetter_10 : decode cX7_isLetter 10 = .ok (.iload_n 1, 1) := by decide +kernel
theorem dX7_isLetter_11 : decode cX7_isLetter 11 = .ok (.iconst 0, 1) := by decide +kernel
theorem dX7_isLetter_12 : decode cX7_isLetter 12 = .ok (.iconst 3, 1) := by decide +kernel
theorem dX7_isLetter_13 : decode cX7_isLetter 13 = .ok (.invokestatic 71, 3) := by decide +kernel
theorem dX7_isLetter_16 : decode cX7_isLetter 16 = .ok (.ifCond .eq 7, 3) := by decide +kernel
theorem dX7_isLetter_19 : decode cX7_isLetter 19 = .ok (.iconst 1, 1) := by decide +kernel
theorem dX7_isLetter_20 : decode cX7_isLetter 20 = .ok (.goto 4, 3) := by decide +kernel
theorem dX7_isLetter_23 : decode cX7_isLetter 23 = .ok (.iconst 0, 1) := by decide +kernel
theorem dX7_isLetter_24 : decode cX7_isLetter 24 = .ok (.ireturn, 1) := by decide +kernel
theorem dX7_refusalOf_0 : decode cX7_refusalOf 0 = .ok (.iload_n 2, 1) := by decide +kernel
theorem dX7_refusalOf_1 : decode cX7_refusalOf 1 = .ok (.ifCond .eq 11, 3) := by decide +kernel
theorem dX7_refusalOf_4 : decode cX7_refusalOf 4 = .ok (.aload_n 0, 1) := by decide +kernel
theorem dX7_refusalOf_5 : decode cX7_refusalOf 5 = .ok (.iload_n 1, 1) := by decide +kernel
theorem dX7_refusalOf_6 : decode cX7_refusalOf 6 = .ok (.invokevirtual 175, 3) := by decide +kernel
theorem dX7_refusalOf_9 : decode cX7_refusalOf 9 = .ok (.ifCond .ne 6, 3) := by decide +kernel
theorem dX7_refusalOf_12 : decode cX7_refusalOf 12 = .ok (.ldc 75, 2) := by decide +kernel
theorem dX7_refusalOf_14 : decode cX7_refusalOf 14 = .ok (.ireturn, 1) := by decide +kernel
theorem dX7_refusalOf_15 : decode cX7_refusalOf 15 = .ok (.aload_n 0, 1) := by decide +kernel
theorem dX7_refusalOf_16 : decode cX7_refusalOf 16 = .ok (.getfield 26, 3) := by decide +kernel
theorem dX7_refusalOf_19 : decode cX7_refusalOf 19 = .ok (.iload_n 1, 1) := by decide +kernel
theorem dX7_refusalOf_20 : decode cX7_refusalOf 20 = .ok (.invokevirtual 217, 3) := by decide +kernel
theorem dX7_refusalOf_23 : decode cX7_refusalOf 23 = .ok (.ifCond .eq 7, 3) := by decide +kernel
theorem dX7_refusalOf_26 : decode cX7_refusalOf 26 = .ok (.iconst 0, 1) := by decide +kernel
theorem dX7_refusalOf_27 : decode cX7_refusalOf 27 = .ok (.goto 5, 3) := by decide +kernel
theorem dX7_refusalOf_30 : decode cX7_refusalOf 30 = .ok (.ldc 154, 2) := by decide +kernel
theorem dX7_refusalOf_32 : decode cX7_refusalOf 32 = .ok (.ireturn, 1) := by decide +kernel
theorem dX7_refusalOfTold_0 : decode cX7_refusalOfTold 0 = .ok (.aload_n 0, 1) := by decide +kernel
theorem dX7_refusalOfTold_1 : decode cX7_refusalOfTold 1 = .ok (.iload_n 1, 1) := by decide +kernel
theorem dX7_refusalOfTold_2 : decode cX7_refusalOfTold 2 = .ok (.iload_n 2, 1) := by decide +kernel
theorem dX7_refusalOfTold_3 : decode cX7_refusalOfTold 3 = .ok (.ifCond .eq 25, 3) := by decide +kernel
theorem dX7_refusalOfTold_6 : decode cX7_refusalOfTold 6 = .ok (.iload_n 3, 1) := by decide +kernel
theorem dX7_refusalOfTold_7 : decode cX7_refusalOfTold 7 = .ok (.invokestatic 67, 3) := by decide +kernel
theorem dX7_refusalOfTold_10 : decode cX7_refusalOfTold 10 = .ok (.ifCond .eq 18, 3) := by decide +kernel
theorem dX7_refusalOfTold_13 : decode cX7_refusalOfTold 13 = .ok (.iload 5, 2) := by decide +kernel
theorem dX7_refusalOfTold_15 : decode cX7_refusalOfTold 15 = .ok (.iconst 1, 1) := by decide +kernel
theorem dX7_refusalOfTold_16 : decode cX7_refusalOfTold 16 = .ok (.bipush 12, 2) := by decide +kernel
theorem dX7_refusalOfTold_18 : decode cX7_refusalOfTold 18 = .ok (.invokestatic 71, 3) := by decide +kernel
theorem dX7_refusalOfTold_21 : decode cX7_refusalOfTold 21 = .ok (.ifCond .eq 7, 3) := by decide +kernel
theorem dX7_refusalOfTold_24 : decode cX7_refusalOfTold 24 = .ok (.iconst 1, 1) := by decide +kernel
theorem dX7_refusalOfTold_25 : decode cX7_refusalOfTold 25 = .ok (.goto 4, 3) := by decide +kernel
theorem dX7_refusalOfTold_28 : decode cX7_refusalOfTold 28 = .ok (.iconst 0, 1) := by decide +kernel
theorem dX7_refusalOfTold_29 : decode cX7_refusalOfTold 29 = .ok (.invokevirtual 187, 3) := by decide +kernel
theorem dX7_refusalOfTold_32 : decode cX7_refusalOfTold 32 = .ok (.istore 6, 2) := by decide +kernel
theorem dX7_refusalOfTold_34 : decode cX7_refusalOfTold 34 = .ok (.iload 6, 2) := by decide +kernel
theorem dX7_refusalOfTold_36 : decode cX7_refusalOfTold 36 = .ok (.ifCond .eq 6, 3) := by decide +kernel
theorem dX7_refusalOfTold_39 : decode cX7_refusalOfTold 39 = .ok (.iload 6, 2) := by decide +kernel
theorem dX7_refusalOfTold_41 : decode cX7_refusalOfTold 41 = .ok (.ireturn, 1) := by decide +kernel
theorem dX7_refusalOfTold_42 : decode cX7_refusalOfTold 42 = .ok (.aload_n 0, 1) := by decide +kernel
theorem dX7_refusalOfTold_43 : decode cX7_refusalOfTold 43 = .ok (.getfield 10, 3) := by decide +kernel
theorem dX7_refusalOfTold_46 : decode cX7_refusalOfTold 46 = .ok (.iload_n 3, 1) := by decide +kernel
theorem dX7_refusalOfTold_47 : decode cX7_refusalOfTold 47 = .ok (.iload 4, 2) := by decide +kernel
theorem dX7_refusalOfTold_49 : decode cX7_refusalOfTold 49 = .ok (.iload 5, 2) := by decide +kernel
theorem dX7_refusalOfTold_51 : decode cX7_refusalOfTold 51 = .ok (.invokevirtual 87, 3) := by decide +kernel
theorem dX7_refusalOfTold_54 : decode cX7_refusalOfTold 54 = .ok (.istore 7, 2) := by decide +kernel
theorem dX7_refusalOfTold_56 : decode cX7_refusalOfTold 56 = .ok (.iload 7, 2) := by decide +kernel
theorem dX7_refusalOfTold_58 : decode cX7_refusalOfTold 58 = .ok (.ifCond .eq 10, 3) := by decide +kernel
theorem dX7_refusalOfTold_61 : decode cX7_refusalOfTold 61 = .ok (.aload_n 0, 1) := by decide +kernel
theorem dX7_refusalOfTold_62 : decode cX7_refusalOfTold 62 = .ok (.iload 7, 2) := by decide +kernel
theorem dX7_refusalOfTold_64 : decode cX7_refusalOfTold 64 = .ok (.invokevirtual 76, 3) := by decide +kernel
theorem dX7_refusalOfTold_67 : decode cX7_refusalOfTold 67 = .ok (.ireturn, 1) := by decide +kernel
theorem dX7_refusalOfTold_68 : decode cX7_refusalOfTold 68 = .ok (.aload_n 0, 1) := by decide +kernel
theorem dX7_refusalOfTold_69 : decode cX7_refusalOfTold 69 = .ok (.getfield 52, 3) := by decide +kernel
theorem dX7_refusalOfTold_72 : decode cX7_refusalOfTold 72 = .ok (.aload_n 0, 1) := by decide +kernel
theorem dX7_refusalOfTold_73 : decode cX7_refusalOfTold 73 = .ok (.getfield 10, 3) := by decide +kernel
theorem dX7_refusalOfTold_76 : decode cX7_refusalOfTold 76 = .ok (.iload_n 3, 1) := by decide +kernel
theorem dX7_refusalOfTold_77 : decode cX7_refusalOfTold 77 = .ok (.iload 4, 2) := by decide +kernel
theorem dX7_refusalOfTold_79 : decode cX7_refusalOfTold 79 = .ok (.iload 5, 2) := by decide +kernel
theorem dX7_refusalOfTold_81 : decode cX7_refusalOfTold 81 = .ok (.invokevirtual 313, 3) := by decide +kernel
theorem dX7_refusalOfTold_84 : decode cX7_refusalOfTold 84 = .ok (.iconst 0, 1) := by decide +kernel
theorem dX7_refusalOfTold_85 : decode cX7_refusalOfTold 85 = .ok (.ireturn, 1) := by decide +kernel
theorem dX7_found_0 : decode cX7_found 0 = .ok (.aload_n 0, 1) := by decide +kernel
theorem dX7_found_1 : decode cX7_found 1 = .ok (.iload_n 1, 1) := by decide +kernel
theorem dX7_found_2 : decode cX7_found 2 = .ok (.putfield 310, 3) := by decide +kernel
theorem dX7_found_5 : decode cX7_found 5 = .ok (.ldc_w 317, 3) := by decide +kernel
theorem dX7_found_8 : decode cX7_found 8 = .ok (.iload_n 1, 1) := by decide +kernel
theorem dX7_found_9 : decode cX7_found 9 = .ok (.isub, 1) := by decide +kernel
theorem dX7_found_10 : decode cX7_found 10 = .ok (.ireturn, 1) := by decide +kernel
theorem dX7_unfound_0 : decode cX7_unfound 0 = .ok (.aload_n 0, 1) := by decide +kernel
theorem dX7_unfound_1 : decode cX7_unfound 1 = .ok (.iconst 0, 1) := by decide +kernel
theorem dX7_unfound_2 : decode cX7_unfound 2 = .ok (.putfield 310, 3) := by decide +kernel
theorem dX7_unfound_5 : decode cX7_unfound 5 = .ok (.iload_n 1, 1) := by decide +kernel
theorem dX7_unfound_6 : decode cX7_unfound 6 = .ok (.ireturn, 1) := by decide +kernel
theorem dJ6_bitCount_0f7a4_0 : decode cJ6_bitCount_0f7a4 0 = .ok (.iload_n 0, 1) := by decide +kernel
theorem dJ6_bitCount_0f7a4_1 : decode cJ6_bitCount_0f7a4 1 = .ok (.iload_n 0, 1) := by decide +kernel
theorem dJ6_bitCount_0f7a4_2 : decode cJ6_bitCount_0f7a4 2 = .ok (.iconst 1, 1) := by decide +kernel
theorem dJ6_bitCount_0f7a4_3 : decode cJ6_bitCount_0f7a4 3 = .ok (.iushr, 1) := by decide +kernel
theorem dJ6_bitCount_0f7a4_4 : decode cJ6_bitCount_0f7a4 4 = .ok (.ldc_w 265, 3) := by decide +kernel
theorem dJ6_bitCount_0f7a4_7 : decode cJ6_bitCount_0f7a4 7 = .ok (.iand, 1) := by decide +kernel
theorem dJ6_bitCount_0f7a4_8 : decode cJ6_bitCount_0f7a4 8 = .ok (.isub, 1) := by decide +kernel
theorem dJ6_bitCount_0f7a4_9 : decode cJ6_bitCount_0f7a4 9 = .ok (.istore_n 0, 1) := by decide +kernel
theorem dJ6_bitCount_0f7a4_10 : decode cJ6_bitCount_0f7a4 10 = .ok (.iload_n 0, 1) := by decide +kernel
theorem dJ6_bitCount_0f7a4_11 : decode cJ6_bitCount_0f7a4 11 = .ok (.ldc_w 266, 3) := by decide +kernel
theorem dJ6_bitCount_0f7a4_14 : decode cJ6_bitCount_0f7a4 14 = .ok (.iand, 1) := by decide +kernel
theorem dJ6_bitCount_0f7a4_15 : decode cJ6_bitCount_0f7a4 15 = .ok (.iload_n 0, 1) := by decide +kernel
theorem dJ6_bitCount_0f7a4_16 : decode cJ6_bitCount_0f7a4 16 = .ok (.iconst 2, 1) := by decide +kernel
theorem dJ6_bitCount_0f7a4_17 : decode cJ6_bitCount_0f7a4 17 = .ok (.iushr, 1) := by decide +kernel
theorem dJ6_bitCount_0f7a4_18 : decode cJ6_bitCount_0f7a4 18 = .ok (.ldc_w 266, 3) := by decide +kernel
theorem dJ6_bitCount_0f7a4_21 : decode cJ6_bitCount_0f7a4 21 = .ok (.iand, 1) := by decide +kernel
theorem dJ6_bitCount_0f7a4_22 : decode cJ6_bitCount_0f7a4 22 = .ok (.iadd, 1) := by decide +kernel
theorem dJ6_bitCount_0f7a4_23 : decode cJ6_bitCount_0f7a4 23 = .ok (.istore_n 0, 1) := by decide +kernel
theorem dJ6_bitCount_0f7a4_24 : decode cJ6_bitCount_0f7a4 24 = .ok (.iload_n 0, 1) := by decide +kernel
theorem dJ6_bitCount_0f7a4_25 : decode cJ6_bitCount_0f7a4 25 = .ok (.iload_n 0, 1) := by decide +kernel
theorem dJ6_bitCount_0f7a4_26 : decode cJ6_bitCount_0f7a4 26 = .ok (.iconst 4, 1) := by decide +kernel
theorem dJ6_bitCount_0f7a4_27 : decode cJ6_bitCount_0f7a4 27 = .ok (.iushr, 1) := by decide +kernel
theorem dJ6_bitCount_0f7a4_28 : decode cJ6_bitCount_0f7a4 28 = .ok (.iadd, 1) := by decide +kernel
theorem dJ6_bitCount_0f7a4_29 : decode cJ6_bitCount_0f7a4 29 = .ok (.ldc_w 267, 3) := by decide +kernel
theorem dJ6_bitCount_0f7a4_32 : decode cJ6_bitCount_0f7a4 32 = .ok (.iand, 1) := by decide +kernel
theorem dJ6_bitCount_0f7a4_33 : decode cJ6_bitCount_0f7a4 33 = .ok (.istore_n 0, 1) := by decide +kernel
theorem dJ6_bitCount_0f7a4_34 : decode cJ6_bitCount_0f7a4 34 = .ok (.iload_n 0, 1) := by decide +kernel
theorem dJ6_bitCount_0f7a4_35 : decode cJ6_bitCount_0f7a4 35 = .ok (.iload_n 0, 1) := by decide +kernel
theorem dJ6_bitCount_0f7a4_36 : decode cJ6_bitCount_0f7a4 36 = .ok (.bipush 8, 2) := by decide +kernel
theorem dJ6_bitCount_0f7a4_38 : decode cJ6_bitCount_0f7a4 38 = .ok (.iushr, 1) := by decide +kernel
theorem dJ6_bitCount_0f7a4_39 : decode cJ6_bitCount_0f7a4 39 = .ok (.iadd, 1) := by decide +kernel
theorem dJ6_bitCount_0f7a4_40 : decode cJ6_bitCount_0f7a4 40 = .ok (.istore_n 0, 1) := by decide +kernel
theorem dJ6_bitCount_0f7a4_41 : decode cJ6_bitCount_0f7a4 41 = .ok (.iload_n 0, 1) := by decide +kernel
theorem dJ6_bitCount_0f7a4_42 : decode cJ6_bitCount_0f7a4 42 = .ok (.iload_n 0, 1) := by decide +kernel
theorem dJ6_bitCount_0f7a4_43 : decode cJ6_bitCount_0f7a4 43 = .ok (.bipush 16, 2) := by decide +kernel
theorem dJ6_bitCount_0f7a4_45 : decode cJ6_bitCount_0f7a4 45 = .ok (.iushr, 1) := by decide +kernel
theorem dJ6_bitCount_0f7a4_46 : decode cJ6_bitCount_0f7a4 46 = .ok (.iadd, 1) := by decide +kernel
theorem dJ6_bitCount_0f7a4_47 : decode cJ6_bitCount_0f7a4 47 = .ok (.istore_n 0, 1) := by decide +kernel
theorem dJ6_bitCount_0f7a4_48 : decode cJ6_bitCount_0f7a4 48 = .ok (.iload_n 0, 1) := by decide +kernel
theorem dJ6_bitCount_0f7a4_49 : decode cJ6_bitCount_0f7a4 49 = .ok (.bipush 63, 2) := by decide +kernel
theorem dJ6_bitCount_0f7a4_51 : decode cJ6_bitCount_0f7a4 51 = .ok (.iand, 1) := by decide +kernel
theorem dJ6_bitCount_0f7a4_52 : decode cJ6_bitCount_0f7a4 52 = .ok (.ireturn, 1) := by decide +kernel
theorem dJ9_abs_0f7a4_0 : decode cJ9_abs_0f7a4 0 = .ok (.iload_n 0, 1) := by decide +kernel
theorem dJ9_abs_0f7a4_1 : decode cJ9_abs_0f7a4 1 = .ok (.ifCond .ge 8, 3) := by decide +kernel
theorem dJ9_abs_0f7a4_4 : decode cJ9_abs_0f7a4 4 = .ok (.iload_n 0, 1) := by decide +kernel
theorem dJ9_abs_0f7a4_5 : decode cJ9_abs_0f7a4 5 = .ok (.ineg, 1) := by decide +kernel
theorem dJ9_abs_0f7a4_6 : decode cJ9_abs_0f7a4 6 = .ok (.goto 4, 3) := by decide +kernel
theorem dJ9_abs_0f7a4_9 : decode cJ9_abs_0f7a4 9 = .ok (.iload_n 0, 1) := by decide +kernel
theorem dJ9_abs_0f7a4_10 : decode cJ9_abs_0f7a4 10 = .ok (.ireturn, 1) := by decide +kernel
theorem dJ9_max_7cf53_0 : decode cJ9_max_7cf53 0 = .ok (.iload_n 0, 1) := by decide +kernel
theorem dJ9_max_7cf53_1 : decode cJ9_max_7cf53 1 = .ok (.iload_n 1, 1) := by decide +kernel
theorem dJ9_max_7cf53_2 : decode cJ9_max_7cf53 2 = .ok (.if_icmp .lt 7, 3) := by decide +kernel
theorem dJ9_max_7cf53_5 : decode cJ9_max_7cf53 5 = .ok (.iload_n 0, 1) := by decide +kernel
theorem dJ9_max_7cf53_6 : decode cJ9_max_7cf53 6 = .ok (.goto 4, 3) := by decide +kernel
theorem dJ9_max_7cf53_9 : decode cJ9_max_7cf53 9 = .ok (.iload_n 1, 1) := by decide +kernel
theorem dJ9_max_7cf53_10 : decode cJ9_max_7cf53 10 = .ok (.ireturn, 1) := by decide +kernel
theorem dJ9_max_f86c9_0 : decode cJ9_max_f86c9 0 = .ok (.lload_n 0, 1) := by decide +kernel
theorem dJ9_max_f86c9_1 : decode cJ9_max_f86c9 1 = .ok (.lload_n 2, 1) := by decide +kernel
theorem dJ9_max_f86c9_2 : decode cJ9_max_f86c9 2 = .ok (.lcmp, 1) := by decide +kernel
theorem dJ9_max_f86c9_3 : decode cJ9_max_f86c9 3 = .ok (.ifCond .lt 7, 3) := by decide +kernel
theorem dJ9_max_f86c9_6 : decode cJ9_max_f86c9 6 = .ok (.lload_n 0, 1) := by decide +kernel
theorem dJ9_max_f86c9_7 : decode cJ9_max_f86c9 7 = .ok (.goto 4, 3) := by decide +kernel
theorem dJ9_max_f86c9_10 : decode cJ9_max_f86c9 10 = .ok (.lload_n 2, 1) := by decide +kernel
theorem dJ9_max_f86c9_11 : decode cJ9_max_f86c9 11 = .ok (.lreturn, 1) := by decide +kernel
theorem dJ9_min_7cf53_0 : decode cJ9_min_7cf53 0 = .ok (.iload_n 0, 1) := by decide +kernel
theorem dJ9_min_7cf53_1 : decode cJ9_min_7cf53 1 = .ok (.iload_n 1, 1) := by decide +kernel
theorem dJ9_min_7cf53_2 : decode cJ9_min_7cf53 2 = .ok (.if_icmp .gt 7, 3) := by decide +kernel
theorem dJ9_min_7cf53_5 : decode cJ9_min_7cf53 5 = .ok (.iload_n 0, 1) := by decide +kernel
theorem dJ9_min_7cf53_6 : decode cJ9_min_7cf53 6 = .ok (.goto 4, 3) := by decide +kernel
theorem dJ9_min_7cf53_9 : decode cJ9_min_7cf53 9 = .ok (.iload_n 1, 1) := by decide +kernel
theorem dJ9_min_7cf53_10 : decode cJ9_min_7cf53 10 = .ok (.ireturn, 1) := by decide +kernel
