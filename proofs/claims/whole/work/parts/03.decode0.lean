theorem dX0_init_0 : decode cX0_init 0 = .ok (.aload_n 0, 1) := by decide +kernel
theorem dX0_init_1 : decode cX0_init 1 = .ok (.invokespecial 1, 3) := by decide +kernel
theorem dX0_init_4 : decode cX0_init 4 = .ok (.aload_n 0, 1) := by decide +kernel
theorem dX0_init_5 : decode cX0_init 5 = .ok (.bipush 24, 2) := by decide +kernel
theorem dX0_init_7 : decode cX0_init 7 = .ok (.newarray .int, 2) := by decide +kernel
theorem dX0_init_9 : decode cX0_init 9 = .ok (.putfield 9, 3) := by decide +kernel
theorem dX0_init_12 : decode cX0_init 12 = .ok (.aload_n 0, 1) := by decide +kernel
theorem dX0_init_13 : decode cX0_init 13 = .ok (.bipush 24, 2) := by decide +kernel
theorem dX0_init_15 : decode cX0_init 15 = .ok (.newarray .int, 2) := by decide +kernel
theorem dX0_init_17 : decode cX0_init 17 = .ok (.putfield 13, 3) := by decide +kernel
theorem dX0_init_20 : decode cX0_init 20 = .ok (.aload_n 0, 1) := by decide +kernel
theorem dX0_init_21 : decode cX0_init 21 = .ok (.bipush 24, 2) := by decide +kernel
theorem dX0_init_23 : decode cX0_init 23 = .ok (.newarray .int, 2) := by decide +kernel
theorem dX0_init_25 : decode cX0_init 25 = .ok (.putfield 16, 3) := by decide +kernel
theorem dX0_init_28 : decode cX0_init 28 = .ok (.return_, 1) := by decide +kernel
theorem dX0_keep_0 : decode cX0_keep 0 = .ok (.aload_n 0, 1) := by decide +kernel
theorem dX0_keep_1 : decode cX0_keep 1 = .ok (.getfield 19, 3) := by decide +kernel
theorem dX0_keep_4 : decode cX0_keep 4 = .ok (.bipush 24, 2) := by decide +kernel
theorem dX0_keep_6 : decode cX0_keep 6 = .ok (.if_icmp .ne 7, 3) := by decide +kernel
theorem dX0_keep_9 : decode cX0_keep 9 = .ok (.aload_n 0, 1) := by decide +kernel
theorem dX0_keep_10 : decode cX0_keep 10 = .ok (.invokevirtual 23, 3) := by decide +kernel
theorem dX0_keep_13 : decode cX0_keep 13 = .ok (.aload_n 0, 1) := by decide +kernel
theorem dX0_keep_14 : decode cX0_keep 14 = .ok (.getfield 9, 3) := by decide +kernel
theorem dX0_keep_17 : decode cX0_keep 17 = .ok (.aload_n 0, 1) := by decide +kernel
theorem dX0_keep_18 : decode cX0_keep 18 = .ok (.getfield 19, 3) := by decide +kernel
theorem dX0_keep_21 : decode cX0_keep 21 = .ok (.iload_n 1, 1) := by decide +kernel
theorem dX0_keep_22 : decode cX0_keep 22 = .ok (.iastore, 1) := by decide +kernel
theorem dX0_keep_23 : decode cX0_keep 23 = .ok (.aload_n 0, 1) := by decide +kernel
theorem dX0_keep_24 : decode cX0_keep 24 = .ok (.getfield 13, 3) := by decide +kernel
theorem dX0_keep_27 : decode cX0_keep 27 = .ok (.aload_n 0, 1) := by decide +kernel
theorem dX0_keep_28 : decode cX0_keep 28 = .ok (.getfield 19, 3) := by decide +kernel
theorem dX0_keep_31 : decode cX0_keep 31 = .ok (.iload_n 2, 1) := by decide +kernel
theorem dX0_keep_32 : decode cX0_keep 32 = .ok (.iastore, 1) := by decide +kernel
theorem dX0_keep_33 : decode cX0_keep 33 = .ok (.aload_n 0, 1) := by decide +kernel
theorem dX0_keep_34 : decode cX0_keep 34 = .ok (.getfield 16, 3) := by decide +kernel
theorem dX0_keep_37 : decode cX0_keep 37 = .ok (.aload_n 0, 1) := by decide +kernel
theorem dX0_keep_38 : decode cX0_keep 38 = .ok (.getfield 19, 3) := by decide +kernel
theorem dX0_keep_41 : decode cX0_keep 41 = .ok (.iload_n 3, 1) := by decide +kernel
theorem dX0_keep_42 : decode cX0_keep 42 = .ok (.iastore, 1) := by decide +kernel
theorem dX0_keep_43 : decode cX0_keep 43 = .ok (.aload_n 0, 1) := by decide +kernel
theorem dX0_keep_44 : decode cX0_keep 44 = .ok (.dup, 1) := by decide +kernel
theorem dX0_keep_45 : decode cX0_keep 45 = .ok (.getfield 19, 3) := by decide +kernel
theorem dX0_keep_48 : decode cX0_keep 48 = .ok (.iconst 1, 1) := by decide +kernel
theorem dX0_keep_49 : decode cX0_keep 49 = .ok (.iadd, 1) := by decide +kernel
theorem dX0_keep_50 : decode cX0_keep 50 = .ok (.putfield 19, 3) := by decide +kernel
theorem dX0_keep_53 : decode cX0_keep 53 = .ok (.return_, 1) := by decide +kernel
theorem dX0_forgetOldest_0 : decode cX0_forgetOldest 0 = .ok (.aload_n 0, 1) := by decide +kernel
theorem dX0_forgetOldest_1 : decode cX0_forgetOldest 1 = .ok (.bipush 23, 2) := by decide +kernel
theorem dX0_forgetOldest_3 : decode cX0_forgetOldest 3 = .ok (.putfield 19, 3) := by decide +kernel
theorem dX0_forgetOldest_6 : decode cX0_forgetOldest 6 = .ok (.aload_n 0, 1) := by decide +kernel
theorem dX0_forgetOldest_7 : decode cX0_forgetOldest 7 = .ok (.getfield 9, 3) := by decide +kernel
theorem dX0_forgetOldest_10 : decode cX0_forgetOldest 10 = .ok (.iconst 1, 1) := by decide +kernel
theorem dX0_forgetOldest_11 : decode cX0_forgetOldest 11 = .ok (.aload_n 0, 1) := by decide +kernel
theorem dX0_forgetOldest_12 : decode cX0_forgetOldest 12 = .ok (.getfield 9, 3) := by decide +kernel
theorem dX0_forgetOldest_15 : decode cX0_forgetOldest 15 = .ok (.iconst 0, 1) := by decide +kernel
theorem dX0_forgetOldest_16 : decode cX0_forgetOldest 16 = .ok (.aload_n 0, 1) := by decide +kernel
theorem dX0_forgetOldest_17 : decode cX0_forgetOldest 17 = .ok (.getfield 19, 3) := by decide +kernel
theorem dX0_forgetOldest_20 : decode cX0_forgetOldest 20 = .ok (.invokestatic 26, 3) := by decide +kernel
theorem dX0_forgetOldest_23 : decode cX0_forgetOldest 23 = .ok (.aload_n 0, 1) := by decide +kernel
theorem dX0_forgetOldest_24 : decode cX0_forgetOldest 24 = .ok (.getfield 13, 3) := by decide +kernel
theorem dX0_forgetOldest_27 : decode cX0_forgetOldest 27 = .ok (.iconst 1, 1) := by decide +kernel
theorem dX0_forgetOldest_28 : decode cX0_forgetOldest 28 = .ok (.aload_n 0, 1) := by decide +kernel
theorem dX0_forgetOldest_29 : decode cX0_forgetOldest 29 = .ok (.getfield 13, 3) := by decide +kernel
theorem dX0_forgetOldest_32 : decode cX0_forgetOldest 32 = .ok (.iconst 0, 1) := by decide +kernel
theorem dX0_forgetOldest_33 : decode cX0_forgetOldest 33 = .ok (.aload_n 0, 1) := by decide +kernel
theorem dX0_forgetOldest_34 : decode cX0_forgetOldest 34 = .ok (.getfield 19, 3) := by decide +kernel
theorem dX0_forgetOldest_37 : decode cX0_forgetOldest 37 = .ok (.invokestatic 26, 3) := by decide +kernel
theorem dX0_forgetOldest_40 : decode cX0_forgetOldest 40 = .ok (.aload_n 0, 1) := by decide +kernel
theorem dX0_forgetOldest_41 : decode cX0_forgetOldest 41 = .ok (.getfield 16, 3) := by decide +kernel
theorem dX0_forgetOldest_44 : decode cX0_forgetOldest 44 = .ok (.iconst 1, 1) := by decide +kernel
theorem dX0_forgetOldest_45 : decode cX0_forgetOldest 45 = .ok (.aload_n 0, 1) := by decide +kernel
theorem dX0_forgetOldest_46 : decode cX0_forgetOldest 46 = .ok (.getfield 16, 3) := by decide +kernel
theorem dX0_forgetOldest_49 : decode cX0_forgetOldest 49 = .ok (.iconst 0, 1) := by decide +kernel
theorem dX0_forgetOldest_50 : decode cX0_forgetOldest 50 = .ok (.aload_n 0, 1) := by decide +kernel
theorem dX0_forgetOldest_51 : decode cX0_forgetOldest 51 = .ok (.getfield 19, 3) := by decide +kernel
theorem dX0_forgetOldest_54 : decode cX0_forgetOldest 54 = .ok (.invokestatic 26, 3) := by decide +kernel
theorem dX0_forgetOldest_57 : decode cX0_forgetOldest 57 = .ok (.return_, 1) := by decide +kernel
theorem dX1_init_0 : decode cX1_init 0 = .ok (.aload_n 0, 1) := by decide +kernel
theorem dX1_init_1 : decode cX1_init 1 = .ok (.invokespecial 3, 3) := by decide +kernel
theorem dX1_init_4 : decode cX1_init 4 = .ok (.aload_n 0, 1) := by decide +kernel
theorem dX1_init_5 : decode cX1_init 5 = .ok (.bipush 16, 2) := by decide +kernel
theorem dX1_init_7 : decode cX1_init 7 = .ok (.newarray .int, 2) := by decide +kernel
theorem dX1_init_9 : decode cX1_init 9 = .ok (.putfield 11, 3) := by decide +kernel
theorem dX1_init_12 : decode cX1_init 12 = .ok (.aload_n 0, 1) := by decide +kernel
theorem dX1_init_13 : decode cX1_init 13 = .ok (.aload_n 1, 1) := by decide +kernel
theorem dX1_init_14 : decode cX1_init 14 = .ok (.putfield 15, 3) := by decide +kernel
theorem dX1_init_17 : decode cX1_init 17 = .ok (.return_, 1) := by decide +kernel
theorem dX1_sizeOf_0 : decode cX1_sizeOf 0 = .ok (.aload_n 0, 1) := by decide +kernel
theorem dX1_sizeOf_1 : decode cX1_sizeOf 1 = .ok (.getfield 15, 3) := by decide +kernel
theorem dX1_sizeOf_4 : decode cX1_sizeOf 4 = .ok (.getfield 19, 3) := by decide +kernel
theorem dX1_sizeOf_7 : decode cX1_sizeOf 7 = .ok (.iload_n 1, 1) := by decide +kernel
theorem dX1_sizeOf_8 : decode cX1_sizeOf 8 = .ok (.iaload, 1) := by decide +kernel
theorem dX1_sizeOf_9 : decode cX1_sizeOf 9 = .ok (.tableswitch 43 2 5 #[37, 43, 31, 31], 31) := by decide +kernel
theorem dX1_sizeOf_40 : decode cX1_sizeOf 40 = .ok (.aload_n 0, 1) := by decide +kernel
theorem dX1_sizeOf_41 : decode cX1_sizeOf 41 = .ok (.iload_n 1, 1) := by decide +kernel
theorem dX1_sizeOf_42 : decode cX1_sizeOf 42 = .ok (.invokevirtual 24, 3) := by decide +kernel
theorem dX1_sizeOf_45 : decode cX1_sizeOf 45 = .ok (.ireturn, 1) := by decide +kernel
theorem dX1_sizeOf_46 : decode cX1_sizeOf 46 = .ok (.aload_n 0, 1) := by decide +kernel
theorem dX1_sizeOf_47 : decode cX1_sizeOf 47 = .ok (.iload_n 1, 1) := by decide +kernel
theorem dX1_sizeOf_48 : decode cX1_sizeOf 48 = .ok (.invokevirtual 28, 3) := by decide +kernel
theorem dX1_sizeOf_51 : decode cX1_sizeOf 51 = .ok (.ireturn, 1) := by decide +kernel
theorem dX1_sizeOf_52 : decode cX1_sizeOf 52 = .ok (.aload_n 0, 1) := by decide +kernel
theorem dX1_sizeOf_53 : decode cX1_sizeOf 53 = .ok (.iload_n 1, 1) := by decide +kernel
theorem dX1_sizeOf_54 : decode cX1_sizeOf 54 = .ok (.invokevirtual 31, 3) := by decide +kernel
theorem dX1_sizeOf_57 : decode cX1_sizeOf 57 = .ok (.ireturn, 1) := by decide +kernel
theorem dX1_markOf_0 : decode cX1_markOf 0 = .ok (.aload_n 0, 1) := by decide +kernel
theorem dX1_markOf_1 : decode cX1_markOf 1 = .ok (.getfield 15, 3) := by decide +kernel
theorem dX1_markOf_4 : decode cX1_markOf 4 = .ok (.iload_n 1, 1) := by decide +kernel
theorem dX1_markOf_5 : decode cX1_markOf 5 = .ok (.iconst 4, 1) := by decide +kernel
theorem dX1_markOf_6 : decode cX1_markOf 6 = .ok (.invokevirtual 34, 3) := by decide +kernel
theorem dX1_markOf_9 : decode cX1_markOf 9 = .ok (.ifCond .eq 11, 3) := by decide +kernel
theorem dX1_markOf_12 : decode cX1_markOf 12 = .ok (.aload_n 0, 1) := by decide +kernel
theorem dX1_markOf_13 : decode cX1_markOf 13 = .ok (.iload_n 1, 1) := by decide +kernel
theorem dX1_markOf_14 : decode cX1_markOf 14 = .ok (.invokevirtual 38, 3) := by decide +kernel
theorem dX1_markOf_17 : decode cX1_markOf 17 = .ok (.goto 8, 3) := by decide +kernel
theorem dX1_markOf_20 : decode cX1_markOf 20 = .ok (.aload_n 0, 1) := by decide +kernel
theorem dX1_markOf_21 : decode cX1_markOf 21 = .ok (.iload_n 1, 1) := by decide +kernel
theorem dX1_markOf_22 : decode cX1_markOf 22 = .ok (.invokevirtual 41, 3) := by decide +kernel
theorem dX1_markOf_25 : decode cX1_markOf 25 = .ok (.ireturn, 1) := by decide +kernel
theorem dX1_sizeOfCall_0 : decode cX1_sizeOfCall 0 = .ok (.aload_n 0, 1) := by decide +kernel
theorem dX1_sizeOfCall_1 : decode cX1_sizeOfCall 1 = .ok (.getfield 15, 3) := by decide +kernel
theorem dX1_sizeOfCall_4 : decode cX1_sizeOfCall 4 = .ok (.iload_n 1, 1) := by decide +kernel
theorem dX1_sizeOfCall_5 : decode cX1_sizeOfCall 5 = .ok (.iconst 5, 1) := by decide +kernel
theorem dX1_sizeOfCall_6 : decode cX1_sizeOfCall 6 = .ok (.invokevirtual 34, 3) := by decide +kernel
theorem dX1_sizeOfCall_9 : decode cX1_sizeOfCall 9 = .ok (.ifCond .eq 11, 3) := by decide +kernel
theorem dX1_sizeOfCall_12 : decode cX1_sizeOfCall 12 = .ok (.aload_n 0, 1) := by decide +kernel
theorem dX1_sizeOfCall_13 : decode cX1_sizeOfCall 13 = .ok (.iload_n 1, 1) := by decide +kernel
theorem dX1_sizeOfCall_14 : decode cX1_sizeOfCall 14 = .ok (.invokevirtual 44, 3) := by decide +kernel
theorem dX1_sizeOfCall_17 : decode cX1_sizeOfCall 17 = .ok (.goto 8, 3) := by decide +kernel
theorem dX1_sizeOfCall_20 : decode cX1_sizeOfCall 20 = .ok (.aload_n 0, 1) := by decide +kernel
theorem dX1_sizeOfCall_21 : decode cX1_sizeOfCall 21 = .ok (.iload_n 1, 1) := by decide +kernel
theorem dX1_sizeOfCall_22 : decode cX1_sizeOfCall 22 = .ok (.invokevirtual 47, 3) := by decide +kernel
theorem dX1_sizeOfCall_25 : decode cX1_sizeOfCall 25 = .ok (.ireturn, 1) := by decide +kernel
theorem dX1_markOfLocal_0 : decode cX1_markOfLocal 0 = .ok (.aload_n 0, 1) := by decide +kernel
theorem dX1_markOfLocal_1 : decode cX1_markOfLocal 1 = .ok (.getfield 15, 3) := by decide +kernel
theorem dX1_markOfLocal_4 : decode cX1_markOfLocal 4 = .ok (.getfield 19, 3) := by decide +kernel
theorem dX1_markOfLocal_7 : decode cX1_markOfLocal 7 = .ok (.iload_n 1, 1) := by decide +kernel
theorem dX1_markOfLocal_8 : decode cX1_markOfLocal 8 = .ok (.iaload, 1) := by decide +kernel
theorem dX1_markOfLocal_9 : decode cX1_markOfLocal 9 = .ok (.lookupswitch 39 #[(2, 27), (3, 33)], 27) := by decide +kernel
theorem dX1_markOfLocal_36 : decode cX1_markOfLocal 36 = .ok (.aload_n 0, 1) := by decide +kernel
theorem dX1_markOfLocal_37 : decode cX1_markOfLocal 37 = .ok (.iload_n 1, 1) := by decide +kernel
theorem dX1_markOfLocal_38 : decode cX1_markOfLocal 38 = .ok (.invokevirtual 50, 3) := by decide +kernel
theorem dX1_markOfLocal_41 : decode cX1_markOfLocal 41 = .ok (.ireturn, 1) := by decide +kernel
theorem dX1_markOfLocal_42 : decode cX1_markOfLocal 42 = .ok (.aload_n 0, 1) := by decide +kernel
theorem dX1_markOfLocal_43 : decode cX1_markOfLocal 43 = .ok (.iload_n 1, 1) := by decide +kernel
theorem dX1_markOfLocal_44 : decode cX1_markOfLocal 44 = .ok (.invokevirtual 53, 3) := by decide +kernel
theorem dX1_markOfLocal_47 : decode cX1_markOfLocal 47 = .ok (.ireturn, 1) := by decide +kernel
theorem dX1_markOfLocal_48 : decode cX1_markOfLocal 48 = .ok (.aload_n 0, 1) := by decide +kernel
theorem dX1_markOfLocal_49 : decode cX1_markOfLocal 49 = .ok (.iload_n 1, 1) := by decide +kernel
theorem dX1_markOfLocal_50 : decode cX1_markOfLocal 50 = .ok (.invokevirtual 56, 3) := by decide +kernel
theorem dX1_markOfLocal_53 : decode cX1_markOfLocal 53 = .ok (.ireturn, 1) := by decide +kernel
theorem dX1_body10_0 : decode cX1_body10 0 = .ok (.aload_n 0, 1) := by decide +kernel
theorem dX1_body10_1 : decode cX1_body10 1 = .ok (.bipush 10, 2) := by decide +kernel
theorem dX1_body10_3 : decode cX1_body10 3 = .ok (.invokevirtual 59, 3) := by decide +kernel
theorem dX1_body10_6 : decode cX1_body10 6 = .ok (.aload_n 0, 1) := by decide +kernel
theorem dX1_body10_7 : decode cX1_body10 7 = .ok (.getfield 15, 3) := by decide +kernel
theorem dX1_body10_10 : decode cX1_body10 10 = .ok (.getfield 63, 3) := by decide +kernel
theorem dX1_body10_13 : decode cX1_body10 13 = .ok (.iload_n 1, 1) := by decide +kernel
theorem dX1_body10_14 : decode cX1_body10 14 = .ok (.iaload, 1) := by decide +kernel
theorem dX1_body10_15 : decode cX1_body10 15 = .ok (.ireturn, 1) := by decide +kernel
theorem dX1_body11_0 : decode cX1_body11 0 = .ok (.aload_n 0, 1) := by decide +kernel
theorem dX1_body11_1 : decode cX1_body11 1 = .ok (.bipush 11, 2) := by decide +kernel
theorem dX1_body11_3 : decode cX1_body11 3 = .ok (.invokevirtual 59, 3) := by decide +kernel
theorem dX1_body11_6 : decode cX1_body11 6 = .ok (.aload_n 0, 1) := by decide +kernel
theorem dX1_body11_7 : decode cX1_body11 7 = .ok (.iload_n 1, 1) := by decide +kernel
theorem dX1_body11_8 : decode cX1_body11 8 = .ok (.invokevirtual 66, 3) := by decide +kernel
theorem dX1_body11_11 : decode cX1_body11 11 = .ok (.istore_n 2, 1) := by decide +kernel
theorem dX1_body11_12 : decode cX1_body11 12 = .ok (.iload_n 2, 1) := by decide +kernel
theorem dX1_body11_13 : decode cX1_body11 13 = .ok (.aload_n 0, 1) := by decide +kernel
theorem dX1_body11_14 : decode cX1_body11 14 = .ok (.iload_n 1, 1) := by decide +kernel
theorem dX1_body11_15 : decode cX1_body11 15 = .ok (.invokevirtual 41, 3) := by decide +kernel
theorem dX1_body11_18 : decode cX1_body11 18 = .ok (.iadd, 1) := by decide +kernel
theorem dX1_body11_19 : decode cX1_body11 19 = .ok (.ireturn, 1) := by decide +kernel
theorem dX1_body12_0 : decode cX1_body12 0 = .ok (.aload_n 0, 1) := by decide +kernel
theorem dX1_body12_1 : decode cX1_body12 1 = .ok (.bipush 12, 2) := by decide +kernel
theorem dX1_body12_3 : decode cX1_body12 3 = .ok (.invokevirtual 59, 3) := by decide +kernel
theorem dX1_body12_6 : decode cX1_body12 6 = .ok (.aload_n 0, 1) := by decide +kernel
theorem dX1_body12_7 : decode cX1_body12 7 = .ok (.iload_n 1, 1) := by decide +kernel
theorem dX1_body12_8 : decode cX1_body12 8 = .ok (.invokevirtual 31, 3) := by decide +kernel
theorem dX1_body12_11 : decode cX1_body12 11 = .ok (.ineg, 1) := by decide +kernel
theorem dX1_body12_12 : decode cX1_body12 12 = .ok (.ireturn, 1) := by decide +kernel
theorem dX1_body13_0 : decode cX1_body13 0 = .ok (.aload_n 0, 1) := by decide +kernel
theorem dX1_body13_1 : decode cX1_body13 1 = .ok (.bipush 13, 2) := by decide +kernel
theorem dX1_body13_3 : decode cX1_body13 3 = .ok (.invokevirtual 59, 3) := by decide +kernel
theorem dX1_body13_6 : decode cX1_body13 6 = .ok (.aload_n 0, 1) := by decide +kernel
theorem dX1_body13_7 : decode cX1_body13 7 = .ok (.iload_n 1, 1) := by decide +kernel
theorem dX1_body13_8 : decode cX1_body13 8 = .ok (.invokevirtual 66, 3) := by decide +kernel
theorem dX1_body13_11 : decode cX1_body13 11 = .ok (.bipush 100, 2) := by decide +kernel
theorem dX1_body13_13 : decode cX1_body13 13 = .ok (.isub, 1) := by decide +kernel
theorem dX1_body13_14 : decode cX1_body13 14 = .ok (.ireturn, 1) := by decide +kernel
theorem dX1_body14_0 : decode cX1_body14 0 = .ok (.aload_n 0, 1) := by decide +kernel
theorem dX1_body14_1 : decode cX1_body14 1 = .ok (.bipush 14, 2) := by decide +kernel
theorem dX1_body14_3 : decode cX1_body14 3 = .ok (.invokevirtual 59, 3) := by decide +kernel
theorem dX1_body14_6 : decode cX1_body14 6 = .ok (.aload_n 0, 1) := by decide +kernel
theorem dX1_body14_7 : decode cX1_body14 7 = .ok (.iload_n 1, 1) := by decide +kernel
theorem dX1_body14_8 : decode cX1_body14 8 = .ok (.invokevirtual 47, 3) := by decide +kernel
theorem dX1_body14_11 : decode cX1_body14 11 = .ok (.iconst 2, 1) := by decide +kernel
theorem dX1_body14_12 : decode cX1_body14 12 = .ok (.imul, 1) := by decide +kernel
theorem dX1_body14_13 : decode cX1_body14 13 = .ok (.ireturn, 1) := by decide +kernel
theorem dX1_body21_0 : decode cX1_body21 0 = .ok (.aload_n 0, 1) := by decide +kernel
theorem dX1_body21_1 : decode cX1_body21 1 = .ok (.bipush 21, 2) := by decide +kernel
theorem dX1_body21_3 : decode cX1_body21 3 = .ok (.invokevirtual 59, 3) := by decide +kernel
theorem dX1_body21_6 : decode cX1_body21 6 = .ok (.aload_n 0, 1) := by decide +kernel
theorem dX1_body21_7 : decode cX1_body21 7 = .ok (.bipush 20, 2) := by decide +kernel
theorem dX1_body21_9 : decode cX1_body21 9 = .ok (.invokevirtual 59, 3) := by decide +kernel
theorem dX1_body21_12 : decode cX1_body21 12 = .ok (.iload_n 1, 1) := by decide +kernel
theorem dX1_body21_13 : decode cX1_body21 13 = .ok (.aload_n 0, 1) := by decide +kernel
theorem dX1_body21_14 : decode cX1_body21 14 = .ok (.getfield 15, 3) := by decide +kernel
theorem dX1_body21_17 : decode cX1_body21 17 = .ok (.getfield 69, 3) := by decide +kernel
theorem dX1_body21_20 : decode cX1_body21 20 = .ok (.iload_n 1, 1) := by decide +kernel
theorem dX1_body21_21 : decode cX1_body21 21 = .ok (.iaload, 1) := by decide +kernel
theorem dX1_body21_22 : decode cX1_body21 22 = .ok (.iadd, 1) := by decide +kernel
theorem dX1_body21_23 : decode cX1_body21 23 = .ok (.ireturn, 1) := by decide +kernel
theorem dX1_body22_0 : decode cX1_body22 0 = .ok (.aload_n 0, 1) := by decide +kernel
theorem dX1_body22_1 : decode cX1_body22 1 = .ok (.bipush 22, 2) := by decide +kernel
theorem dX1_body22_3 : decode cX1_body22 3 = .ok (.invokevirtual 59, 3) := by decide +kernel
theorem dX1_body22_6 : decode cX1_body22 6 = .ok (.aload_n 0, 1) := by decide +kernel
theorem dX1_body22_7 : decode cX1_body22 7 = .ok (.iload_n 1, 1) := by decide +kernel
theorem dX1_body22_8 : decode cX1_body22 8 = .ok (.invokevirtual 56, 3) := by decide +kernel
theorem dX1_body22_11 : decode cX1_body22 11 = .ok (.sipush 1000, 3) := by decide +kernel
theorem dX1_body22_14 : decode cX1_body22 14 = .ok (.isub, 1) := by decide +kernel
theorem dX1_body22_15 : decode cX1_body22 15 = .ok (.ireturn, 1) := by decide +kernel
theorem dX1_body23_0 : decode cX1_body23 0 = .ok (.aload_n 0, 1) := by decide +kernel
theorem dX1_body23_1 : decode cX1_body23 1 = .ok (.bipush 23, 2) := by decide +kernel
theorem dX1_body23_3 : decode cX1_body23 3 = .ok (.invokevirtual 59, 3) := by decide +kernel
theorem dX1_body23_6 : decode cX1_body23 6 = .ok (.aload_n 0, 1) := by decide +kernel
theorem dX1_body23_7 : decode cX1_body23 7 = .ok (.bipush 20, 2) := by decide +kernel
theorem dX1_body23_9 : decode cX1_body23 9 = .ok (.invokevirtual 59, 3) := by decide +kernel
theorem dX1_body23_12 : decode cX1_body23 12 = .ok (.iload_n 1, 1) := by decide +kernel
theorem dX1_body23_13 : decode cX1_body23 13 = .ok (.aload_n 0, 1) := by decide +kernel
theorem dX1_body23_14 : decode cX1_body23 14 = .ok (.iload_n 1, 1) := by decide +kernel
theorem dX1_body23_15 : decode cX1_body23 15 = .ok (.invokevirtual 24, 3) := by decide +kernel
theorem dX1_body23_18 : decode cX1_body23 18 = .ok (.isub, 1) := by decide +kernel
theorem dX1_body23_19 : decode cX1_body23 19 = .ok (.ireturn, 1) := by decide +kernel
theorem dX1_body24_0 : decode cX1_body24 0 = .ok (.aload_n 0, 1) := by decide +kernel
theorem dX1_body24_1 : decode cX1_body24 1 = .ok (.bipush 24, 2) := by decide +kernel
theorem dX1_body24_3 : decode cX1_body24 3 = .ok (.invokevirtual 59, 3) := by decide +kernel
theorem dX1_body24_6 : decode cX1_body24 6 = .ok (.aload_n 0, 1) := by decide +kernel
theorem dX1_body24_7 : decode cX1_body24 7 = .ok (.iload_n 1, 1) := by decide +kernel
theorem dX1_body24_8 : decode cX1_body24 8 = .ok (.invokevirtual 56, 3) := by decide +kernel
theorem dX1_body24_11 : decode cX1_body24 11 = .ok (.iconst 2, 1) := by decide +kernel
theorem dX1_body24_12 : decode cX1_body24 12 = .ok (.imul, 1) := by decide +kernel
theorem dX1_body24_13 : decode cX1_body24 13 = .ok (.ireturn, 1) := by decide +kernel
theorem dX1_begin_0 : decode cX1_begin 0 = .ok (.aload_n 0, 1) := by decide +kernel
theorem dX1_begin_1 : decode cX1_begin 1 = .ok (.getfield 72, 3) := by decide +kernel
theorem dX1_begin_4 : decode cX1_begin 4 = .ok (.bipush 16, 2) := by decide +kernel
theorem dX1_begin_6 : decode cX1_begin 6 = .ok (.if_icmp .ge 23, 3) := by decide +kernel
theorem dX1_begin_9 : decode cX1_begin 9 = .ok (.aload_n 0, 1) := by decide +kernel
theorem dX1_begin_10 : decode cX1_begin 10 = .ok (.getfield 11, 3) := by decide +kernel
theorem dX1_begin_13 : decode cX1_begin 13 = .ok (.aload_n 0, 1) := by decide +kernel
theorem dX1_begin_14 : decode cX1_begin 14 = .ok (.getfield 72, 3) := by decide +kernel
theorem dX1_begin_17 : decode cX1_begin 17 = .ok (.iload_n 1, 1) := by decide +kernel
theorem dX1_begin_18 : decode cX1_begin 18 = .ok (.iastore, 1) := by decide +kernel
theorem dX1_begin_19 : decode cX1_begin 19 = .ok (.aload_n 0, 1) := by decide +kernel
theorem dX1_begin_20 : decode cX1_begin 20 = .ok (.dup, 1) := by decide +kernel
theorem dX1_begin_21 : decode cX1_begin 21 = .ok (.getfield 72, 3) := by decide +kernel
theorem dX1_begin_24 : decode cX1_begin 24 = .ok (.iconst 1, 1) := by decide +kernel
theorem dX1_begin_25 : decode cX1_begin 25 = .ok (.iadd, 1) := by decide +kernel
theorem dX1_begin_26 : decode cX1_begin 26 = .ok (.putfield 72, 3) := by decide +kernel
theorem dX1_begin_29 : decode cX1_begin 29 = .ok (.return_, 1) := by decide +kernel
theorem dX2_init_0 : decode cX2_init 0 = .ok (.aload_n 0, 1) := by decide +kernel
theorem dX2_init_1 : decode cX2_init 1 = .ok (.invokespecial 3, 3) := by decide +kernel
theorem dX2_init_4 : decode cX2_init 4 = .ok (.aload_n 0, 1) := by decide +kernel
theorem dX2_init_5 : decode cX2_init 5 = .ok (.bipush 12, 2) := by decide +kernel
theorem dX2_init_7 : decode cX2_init 7 = .ok (.bipush 25, 2) := by decide +kernel
theorem dX2_init_9 : decode cX2_init 9 = .ok (.multianewarray 9 2, 4) := by decide +kernel
theorem dX2_init_13 : decode cX2_init 13 = .ok (.putfield 11, 3) := by decide +kernel
theorem dX2_init_16 : decode cX2_init 16 = .ok (.aload_n 0, 1) := by decide +kernel
theorem dX2_init_17 : decode cX2_init 17 = .ok (.bipush 8, 2) := by decide +kernel
theorem dX2_init_19 : decode cX2_init 19 = .ok (.bipush 25, 2) := by decide +kernel
theorem dX2_init_21 : decode cX2_init 21 = .ok (.multianewarray 9 2, 4) := by decide +kernel
theorem dX2_init_25 : decode cX2_init 25 = .ok (.putfield 16, 3) := by decide +kernel
theorem dX2_init_28 : decode cX2_init 28 = .ok (.aload_n 0, 1) := by decide +kernel
theorem dX2_init_29 : decode cX2_init 29 = .ok (.bipush 25, 2) := by decide +kernel
theorem dX2_init_31 : decode cX2_init 31 = .ok (.bipush 25, 2) := by decide +kernel
theorem dX2_init_33 : decode cX2_init 33 = .ok (.multianewarray 9 2, 4) := by decide +kernel
theorem dX2_init_37 : decode cX2_init 37 = .ok (.putfield 19, 3) := by decide +kernel
theorem dX2_init_40 : decode cX2_init 40 = .ok (.aload_n 0, 1) := by decide +kernel
theorem dX2_init_41 : decode cX2_init 41 = .ok (.bipush 25, 2) := by decide +kernel
theorem dX2_init_43 : decode cX2_init 43 = .ok (.newarray .int, 2) := by decide +kernel
theorem dX2_init_45 : decode cX2_init 45 = .ok (.putfield 22, 3) := by decide +kernel
theorem dX2_init_48 : decode cX2_init 48 = .ok (.aload_n 0, 1) := by decide +kernel
theorem dX2_init_49 : decode cX2_init 49 = .ok (.bipush 24, 2) := by decide +kernel
theorem dX2_init_51 : decode cX2_init 51 = .ok (.newarray .int, 2) := by decide +kernel
theorem dX2_init_53 : decode cX2_init 53 = .ok (.putfield 26, 3) := by decide +kernel
theorem dX2_init_56 : decode cX2_init 56 = .ok (.aload_n 0, 1) := by decide +kernel
theorem dX2_init_57 : decode cX2_init 57 = .ok (.aload_n 1, 1) := by decide +kernel
theorem dX2_init_58 : decode cX2_init 58 = .ok (.putfield 29, 3) := by decide +kernel
theorem dX2_init_61 : decode cX2_init 61 = .ok (.aload_n 0, 1) := by decide +kernel
theorem dX2_init_62 : decode cX2_init 62 = .ok (.getfield 19, 3) := by decide +kernel
theorem dX2_init_65 : decode cX2_init 65 = .ok (.iconst 0, 1) := by decide +kernel
theorem dX2_init_66 : decode cX2_init 66 = .ok (.aaload, 1) := by decide +kernel
theorem dX2_init_67 : decode cX2_init 67 = .ok (.iconst 0, 1) := by decide +kernel
theorem dX2_init_68 : decode cX2_init 68 = .ok (.lconst 1, 1) := by decide +kernel
theorem dX2_init_69 : decode cX2_init 69 = .ok (.lastore, 1) := by decide +kernel
theorem dX2_init_70 : decode cX2_init 70 = .ok (.return_, 1) := by decide +kernel
theorem dX2_manyOfPrice_0 : decode cX2_manyOfPrice 0 = .ok (.aload_n 0, 1) := by decide +kernel
theorem dX2_manyOfPrice_1 : decode cX2_manyOfPrice 1 = .ok (.invokevirtual 33, 3) := by decide +kernel
theorem dX2_manyOfPrice_4 : decode cX2_manyOfPrice 4 = .ok (.aload_n 0, 1) := by decide +kernel
theorem dX2_manyOfPrice_5 : decode cX2_manyOfPrice 5 = .ok (.getfield 16, 3) := by decide +kernel
theorem dX2_manyOfPrice_8 : decode cX2_manyOfPrice 8 = .ok (.iload_n 1, 1) := by decide +kernel
theorem dX2_manyOfPrice_9 : decode cX2_manyOfPrice 9 = .ok (.aaload, 1) := by decide +kernel
theorem dX2_manyOfPrice_10 : decode cX2_manyOfPrice 10 = .ok (.iload_n 2, 1) := by decide +kernel
theorem dX2_manyOfPrice_11 : decode cX2_manyOfPrice 11 = .ok (.laload, 1) := by decide +kernel
theorem dX2_manyOfPrice_12 : decode cX2_manyOfPrice 12 = .ok (.ldc2_w 36, 3) := by decide +kernel
theorem dX2_manyOfPrice_15 : decode cX2_manyOfPrice 15 = .ok (.invokestatic 38, 3) := by decide +kernel
theorem dX2_manyOfPrice_18 : decode cX2_manyOfPrice 18 = .ok (.l2i, 1) := by decide +kernel
theorem dX2_manyOfPrice_19 : decode cX2_manyOfPrice 19 = .ok (.ireturn, 1) := by decide +kernel
theorem dX2_size_0 : decode cX2_size 0 = .ok (.aload_n 0, 1) := by decide +kernel
theorem dX2_size_1 : decode cX2_size 1 = .ok (.iload_n 1, 1) := by decide +kernel
theorem dX2_size_2 : decode cX2_size 2 = .ok (.bipush 25, 2) := by decide +kernel
theorem dX2_size_4 : decode cX2_size 4 = .ok (.invokevirtual 44, 3) := by decide +kernel
theorem dX2_size_7 : decode cX2_size 7 = .ok (.ldc2_w 36, 3) := by decide +kernel
theorem dX2_size_10 : decode cX2_size 10 = .ok (.invokestatic 38, 3) := by decide +kernel
theorem dX2_size_13 : decode cX2_size 13 = .ok (.l2i, 1) := by decide +kernel
theorem dX2_size_14 : decode cX2_size 14 = .ok (.ireturn, 1) := by decide +kernel
theorem dX2_manyBelow_0 : decode cX2_manyBelow 0 = .ok (.aload_n 0, 1) := by decide +kernel
theorem dX2_manyBelow_1 : decode cX2_manyBelow 1 = .ok (.invokevirtual 33, 3) := by decide +kernel
theorem dX2_manyBelow_4 : decode cX2_manyBelow 4 = .ok (.lconst 0, 1) := by decide +kernel
theorem dX2_manyBelow_5 : decode cX2_manyBelow 5 = .ok (.lstore_n 3, 1) := by decide +kernel
theorem dX2_manyBelow_6 : decode cX2_manyBelow 6 = .ok (.iconst 1, 1) := by decide +kernel
theorem dX2_manyBelow_7 : decode cX2_manyBelow 7 = .ok (.istore 5, 2) := by decide +kernel
theorem dX2_manyBelow_9 : decode cX2_manyBelow 9 = .ok (.iload 5, 2) := by decide +kernel
theorem dX2_manyBelow_11 : decode cX2_manyBelow 11 = .ok (.iload_n 2, 1) := by decide +kernel
theorem dX2_manyBelow_12 : decode cX2_manyBelow 12 = .ok (.if_icmp .ge 21, 3) := by decide +kernel
theorem dX2_manyBelow_15 : decode cX2_manyBelow 15 = .ok (.lload_n 3, 1) := by decide +kernel
theorem dX2_manyBelow_16 : decode cX2_manyBelow 16 = .ok (.aload_n 0, 1) := by decide +kernel
theorem dX2_manyBelow_17 : decode cX2_manyBelow 17 = .ok (.getfield 16, 3) := by decide +kernel
theorem dX2_manyBelow_20 : decode cX2_manyBelow 20 = .ok (.iload_n 1, 1) := by decide +kernel
theorem dX2_manyBelow_21 : decode cX2_manyBelow 21 = .ok (.aaload, 1) := by decide +kernel
theorem dX2_manyBelow_22 : decode cX2_manyBelow 22 = .ok (.iload 5, 2) := by decide +kernel
theorem dX2_manyBelow_24 : decode cX2_manyBelow 24 = .ok (.laload, 1) := by decide +kernel
theorem dX2_manyBelow_25 : decode cX2_manyBelow 25 = .ok (.ladd, 1) := by decide +kernel
theorem dX2_manyBelow_26 : decode cX2_manyBelow 26 = .ok (.lstore_n 3, 1) := by decide +kernel
theorem dX2_manyBelow_27 : decode cX2_manyBelow 27 = .ok (.iinc 5 1, 3) := by decide +kernel
theorem dX2_manyBelow_30 : decode cX2_manyBelow 30 = .ok (.goto (-21), 3) := by decide +kernel
theorem dX2_manyBelow_33 : decode cX2_manyBelow 33 = .ok (.lload_n 3, 1) := by decide +kernel
theorem dX2_manyBelow_34 : decode cX2_manyBelow 34 = .ok (.lreturn, 1) := by decide +kernel
theorem dX2_findPlace_0 : decode cX2_findPlace 0 = .ok (.aload_n 0, 1) := by decide +kernel
theorem dX2_findPlace_1 : decode cX2_findPlace 1 = .ok (.invokevirtual 33, 3) := by decide +kernel
theorem dX2_findPlace_4 : decode cX2_findPlace 4 = .ok (.aload_n 0, 1) := by decide +kernel
theorem dX2_findPlace_5 : decode cX2_findPlace 5 = .ok (.iload_n 2, 1) := by decide +kernel
theorem dX2_findPlace_6 : decode cX2_findPlace 6 = .ok (.i2l, 1) := by decide +kernel
theorem dX2_findPlace_7 : decode cX2_findPlace 7 = .ok (.putfield 48, 3) := by decide +kernel
theorem dX2_findPlace_10 : decode cX2_findPlace 10 = .ok (.iconst 1, 1) := by decide +kernel
theorem dX2_findPlace_11 : decode cX2_findPlace 11 = .ok (.istore_n 3, 1) := by decide +kernel
theorem dX2_findPlace_12 : decode cX2_findPlace 12 = .ok (.iload_n 3, 1) := by decide +kernel
theorem dX2_findPlace_13 : decode cX2_findPlace 13 = .ok (.bipush 24, 2) := by decide +kernel
theorem dX2_findPlace_15 : decode cX2_findPlace 15 = .ok (.if_icmp .gt 44, 3) := by decide +kernel
theorem dX2_findPlace_18 : decode cX2_findPlace 18 = .ok (.aload_n 0, 1) := by decide +kernel
theorem dX2_findPlace_19 : decode cX2_findPlace 19 = .ok (.getfield 48, 3) := by decide +kernel
theorem dX2_findPlace_22 : decode cX2_findPlace 22 = .ok (.aload_n 0, 1) := by decide +kernel
theorem dX2_findPlace_23 : decode cX2_findPlace 23 = .ok (.getfield 16, 3) := by decide +kernel
theorem dX2_findPlace_26 : decode cX2_findPlace 26 = .ok (.iload_n 1, 1) := by decide +kernel
theorem dX2_findPlace_27 : decode cX2_findPlace 27 = .ok (.aaload, 1) := by decide +kernel
theorem dX2_findPlace_28 : decode cX2_findPlace 28 = .ok (.iload_n 3, 1) := by decide +kernel
theorem dX2_findPlace_29 : decode cX2_findPlace 29 = .ok (.laload, 1) := by decide +kernel
theorem dX2_findPlace_30 : decode cX2_findPlace 30 = .ok (.lcmp, 1) := by decide +kernel
theorem dX2_findPlace_31 : decode cX2_findPlace 31 = .ok (.ifCond .ge 5, 3) := by decide +kernel
theorem dX2_findPlace_34 : decode cX2_findPlace 34 = .ok (.iload_n 3, 1) := by decide +kernel
theorem dX2_findPlace_35 : decode cX2_findPlace 35 = .ok (.ireturn, 1) := by decide +kernel
theorem dX2_findPlace_36 : decode cX2_findPlace 36 = .ok (.aload_n 0, 1) := by decide +kernel
theorem dX2_findPlace_37 : decode cX2_findPlace 37 = .ok (.dup, 1) := by decide +kernel
theorem dX2_findPlace_38 : decode cX2_findPlace 38 = .ok (.getfield 48, 3) := by decide +kernel
theorem dX2_findPlace_41 : decode cX2_findPlace 41 = .ok (.aload_n 0, 1) := by decide +kernel
theorem dX2_findPlace_42 : decode cX2_findPlace 42 = .ok (.getfield 16, 3) := by decide +kernel
theorem dX2_findPlace_45 : decode cX2_findPlace 45 = .ok (.iload_n 1, 1) := by decide +kernel
theorem dX2_findPlace_46 : decode cX2_findPlace 46 = .ok (.aaload, 1) := by decide +kernel
theorem dX2_findPlace_47 : decode cX2_findPlace 47 = .ok (.iload_n 3, 1) := by decide +kernel
theorem dX2_findPlace_48 : decode cX2_findPlace 48 = .ok (.laload, 1) := by decide +kernel
theorem dX2_findPlace_49 : decode cX2_findPlace 49 = .ok (.lsub, 1) := by decide +kernel
theorem dX2_findPlace_50 : decode cX2_findPlace 50 = .ok (.putfield 48, 3) := by decide +kernel
theorem dX2_findPlace_53 : decode cX2_findPlace 53 = .ok (.iinc 3 1, 3) := by decide +kernel
theorem dX2_findPlace_56 : decode cX2_findPlace 56 = .ok (.goto (-44), 3) := by decide +kernel
theorem dX2_findPlace_59 : decode cX2_findPlace 59 = .ok (.ldc 52, 2) := by decide +kernel
theorem dX2_findPlace_61 : decode cX2_findPlace 61 = .ok (.ireturn, 1) := by decide +kernel
theorem dX2_spell_0 : decode cX2_spell 0 = .ok (.iload_n 2, 1) := by decide +kernel
theorem dX2_spell_1 : decode cX2_spell 1 = .ok (.istore_n 3, 1) := by decide +kernel
theorem dX2_spell_2 : decode cX2_spell 2 = .ok (.iconst 0, 1) := by decide +kernel
theorem dX2_spell_3 : decode cX2_spell 3 = .ok (.istore 4, 2) := by decide +kernel
theorem dX2_spell_5 : decode cX2_spell 5 = .ok (.aload_n 0, 1) := by decide +kernel
theorem dX2_spell_6 : decode cX2_spell 6 = .ok (.iconst 0, 1) := by decide +kernel
theorem dX2_spell_7 : decode cX2_spell 7 = .ok (.putfield 53, 3) := by decide +kernel
theorem dX2_spell_10 : decode cX2_spell 10 = .ok (.aload_n 0, 1) := by decide +kernel
theorem dX2_spell_11 : decode cX2_spell 11 = .ok (.iload_n 1, 1) := by decide +kernel
theorem dX2_spell_12 : decode cX2_spell 12 = .ok (.invokevirtual 57, 3) := by decide +kernel
theorem dX2_spell_15 : decode cX2_spell 15 = .ok (.iconst 0, 1) := by decide +kernel
theorem dX2_spell_16 : decode cX2_spell 16 = .ok (.istore 5, 2) := by decide +kernel
theorem dX2_spell_18 : decode cX2_spell 18 = .ok (.iload 5, 2) := by decide +kernel
theorem dX2_spell_20 : decode cX2_spell 20 = .ok (.bipush 24, 2) := by decide +kernel
theorem dX2_spell_22 : decode cX2_spell 22 = .ok (.if_icmp .ge 84, 3) := by decide +kernel
theorem dX2_spell_25 : decode cX2_spell 25 = .ok (.aload_n 0, 1) := by decide +kernel
theorem dX2_spell_26 : decode cX2_spell 26 = .ok (.getfield 53, 3) := by decide +kernel
theorem dX2_spell_29 : decode cX2_spell 29 = .ok (.ifCond .le 77, 3) := by decide +kernel
theorem dX2_spell_32 : decode cX2_spell 32 = .ok (.aload_n 0, 1) := by decide +kernel
theorem dX2_spell_33 : decode cX2_spell 33 = .ok (.dup, 1) := by decide +kernel
theorem dX2_spell_34 : decode cX2_spell 34 = .ok (.getfield 53, 3) := by decide +kernel
theorem dX2_spell_37 : decode cX2_spell 37 = .ok (.iconst 1, 1) := by decide +kernel
theorem dX2_spell_38 : decode cX2_spell 38 = .ok (.isub, 1) := by decide +kernel
theorem dX2_spell_39 : decode cX2_spell 39 = .ok (.putfield 53, 3) := by decide +kernel
theorem dX2_spell_42 : decode cX2_spell 42 = .ok (.aload_n 0, 1) := by decide +kernel
theorem dX2_spell_43 : decode cX2_spell 43 = .ok (.aload_n 0, 1) := by decide +kernel
theorem dX2_spell_44 : decode cX2_spell 44 = .ok (.getfield 22, 3) := by decide +kernel
theorem dX2_spell_47 : decode cX2_spell 47 = .ok (.aload_n 0, 1) := by decide +kernel
theorem dX2_spell_48 : decode cX2_spell 48 = .ok (.getfield 53, 3) := by decide +kernel
theorem dX2_spell_51 : decode cX2_spell 51 = .ok (.iaload, 1) := by decide +kernel
theorem dX2_spell_52 : decode cX2_spell 52 = .ok (.iload_n 3, 1) := by decide +kernel
theorem dX2_spell_53 : decode cX2_spell 53 = .ok (.invokevirtual 61, 3) := by decide +kernel
theorem dX2_spell_56 : decode cX2_spell 56 = .ok (.istore 6, 2) := by decide +kernel
theorem dX2_spell_58 : decode cX2_spell 58 = .ok (.iload 6, 2) := by decide +kernel
theorem dX2_spell_60 : decode cX2_spell 60 = .ok (.ifCond .ge 6, 3) := by decide +kernel
theorem dX2_spell_63 : decode cX2_spell 63 = .ok (.iload 4, 2) := by decide +kernel
theorem dX2_spell_65 : decode cX2_spell 65 = .ok (.ireturn, 1) := by decide +kernel
theorem dX2_spell_66 : decode cX2_spell 66 = .ok (.aload_n 0, 1) := by decide +kernel
theorem dX2_spell_67 : decode cX2_spell 67 = .ok (.getfield 26, 3) := by decide +kernel
theorem dX2_spell_70 : decode cX2_spell 70 = .ok (.iload 5, 2) := by decide +kernel
theorem dX2_spell_72 : decode cX2_spell 72 = .ok (.iload 6, 2) := by decide +kernel
theorem dX2_spell_74 : decode cX2_spell 74 = .ok (.iastore, 1) := by decide +kernel
theorem dX2_spell_75 : decode cX2_spell 75 = .ok (.iload 5, 2) := by decide +kernel
theorem dX2_spell_77 : decode cX2_spell 77 = .ok (.iconst 1, 1) := by decide +kernel
theorem dX2_spell_78 : decode cX2_spell 78 = .ok (.iadd, 1) := by decide +kernel
theorem dX2_spell_79 : decode cX2_spell 79 = .ok (.istore 4, 2) := by decide +kernel
theorem dX2_spell_81 : decode cX2_spell 81 = .ok (.iload_n 3, 1) := by decide +kernel
theorem dX2_spell_82 : decode cX2_spell 82 = .ok (.aload_n 0, 1) := by decide +kernel
theorem dX2_spell_83 : decode cX2_spell 83 = .ok (.getfield 29, 3) := by decide +kernel
theorem dX2_spell_86 : decode cX2_spell 86 = .ok (.iload 6, 2) := by decide +kernel
theorem dX2_spell_88 : decode cX2_spell 88 = .ok (.invokevirtual 65, 3) := by decide +kernel
theorem dX2_spell_91 : decode cX2_spell 91 = .ok (.isub, 1) := by decide +kernel
theorem dX2_spell_92 : decode cX2_spell 92 = .ok (.istore_n 3, 1) := by decide +kernel
theorem dX2_spell_93 : decode cX2_spell 93 = .ok (.aload_n 0, 1) := by decide +kernel
theorem dX2_spell_94 : decode cX2_spell 94 = .ok (.iload 6, 2) := by decide +kernel
theorem dX2_spell_96 : decode cX2_spell 96 = .ok (.iload_n 3, 1) := by decide +kernel
theorem dX2_spell_97 : decode cX2_spell 97 = .ok (.invokevirtual 71, 3) := by decide +kernel
theorem dX2_spell_100 : decode cX2_spell 100 = .ok (.iinc 5 1, 3) := by decide +kernel
theorem dX2_spell_103 : decode cX2_spell 103 = .ok (.goto (-85), 3) := by decide +kernel
theorem dX2_spell_106 : decode cX2_spell 106 = .ok (.iload 4, 2) := by decide +kernel
theorem dX2_spell_108 : decode cX2_spell 108 = .ok (.ireturn, 1) := by decide +kernel
theorem dX2_choose_0 : decode cX2_choose 0 = .ok (.iconst 0, 1) := by decide +kernel
theorem dX2_choose_1 : decode cX2_choose 1 = .ok (.istore_n 3, 1) := by decide +kernel
theorem dX2_choose_2 : decode cX2_choose 2 = .ok (.iload_n 3, 1) := by decide +kernel
theorem dX2_choose_3 : decode cX2_choose 3 = .ok (.aload_n 0, 1) := by decide +kernel
theorem dX2_choose_4 : decode cX2_choose 4 = .ok (.getfield 29, 3) := by decide +kernel
theorem dX2_choose_7 : decode cX2_choose 7 = .ok (.getfield 75, 3) := by decide +kernel
theorem dX2_choose_10 : decode cX2_choose 10 = .ok (.if_icmp .ge 41, 3) := by decide +kernel
theorem dX2_choose_13 : decode cX2_choose 13 = .ok (.aload_n 0, 1) := by decide +kernel
theorem dX2_choose_14 : decode cX2_choose 14 = .ok (.iload_n 3, 1) := by decide +kernel
theorem dX2_choose_15 : decode cX2_choose 15 = .ok (.iload_n 1, 1) := by decide +kernel
theorem dX2_choose_16 : decode cX2_choose 16 = .ok (.iload_n 2, 1) := by decide +kernel
theorem dX2_choose_17 : decode cX2_choose 17 = .ok (.invokevirtual 78, 3) := by decide +kernel
theorem dX2_choose_20 : decode cX2_choose 20 = .ok (.lstore 4, 2) := by decide +kernel
theorem dX2_choose_22 : decode cX2_choose 22 = .ok (.aload_n 0, 1) := by decide +kernel
theorem dX2_choose_23 : decode cX2_choose 23 = .ok (.getfield 48, 3) := by decide +kernel
theorem dX2_choose_26 : decode cX2_choose 26 = .ok (.lload 4, 2) := by decide +kernel
theorem dX2_choose_28 : decode cX2_choose 28 = .ok (.lcmp, 1) := by decide +kernel
theorem dX2_choose_29 : decode cX2_choose 29 = .ok (.ifCond .ge 5, 3) := by decide +kernel
theorem dX2_choose_32 : decode cX2_choose 32 = .ok (.iload_n 3, 1) := by decide +kernel
theorem dX2_choose_33 : decode cX2_choose 33 = .ok (.ireturn, 1) := by decide +kernel
theorem dX2_choose_34 : decode cX2_choose 34 = .ok (.aload_n 0, 1) := by decide +kernel
theorem dX2_choose_35 : decode cX2_choose 35 = .ok (.dup, 1) := by decide +kernel
theorem dX2_choose_36 : decode cX2_choose 36 = .ok (.getfield 48, 3) := by decide +kernel
theorem dX2_choose_39 : decode cX2_choose 39 = .ok (.lload 4, 2) := by decide +kernel
theorem dX2_choose_41 : decode cX2_choose 41 = .ok (.lsub, 1) := by decide +kernel
theorem dX2_choose_42 : decode cX2_choose 42 = .ok (.putfield 48, 3) := by decide +kernel
theorem dX2_choose_45 : decode cX2_choose 45 = .ok (.iinc 3 1, 3) := by decide +kernel
theorem dX2_choose_48 : decode cX2_choose 48 = .ok (.goto (-46), 3) := by decide +kernel
theorem dX2_choose_51 : decode cX2_choose 51 = .ok (.iconst (-1), 1) := by decide +kernel
theorem dX2_choose_52 : decode cX2_choose 52 = .ok (.ireturn, 1) := by decide +kernel
theorem dX2_placeOf_0 : decode cX2_placeOf 0 = .ok (.aload_n 0, 1) := by decide +kernel
theorem dX2_placeOf_1 : decode cX2_placeOf 1 = .ok (.iload_n 1, 1) := by decide +kernel
theorem dX2_placeOf_2 : decode cX2_placeOf 2 = .ok (.iload 4, 2) := by decide +kernel
theorem dX2_placeOf_4 : decode cX2_placeOf 4 = .ok (.invokevirtual 44, 3) := by decide +kernel
theorem dX2_placeOf_7 : decode cX2_placeOf 7 = .ok (.lstore 5, 2) := by decide +kernel
theorem dX2_placeOf_9 : decode cX2_placeOf 9 = .ok (.iload 4, 2) := by decide +kernel
theorem dX2_placeOf_11 : decode cX2_placeOf 11 = .ok (.istore 7, 2) := by decide +kernel
theorem dX2_placeOf_13 : decode cX2_placeOf 13 = .ok (.aload_n 0, 1) := by decide +kernel
theorem dX2_placeOf_14 : decode cX2_placeOf 14 = .ok (.iconst 0, 1) := by decide +kernel
theorem dX2_placeOf_15 : decode cX2_placeOf 15 = .ok (.putfield 53, 3) := by decide +kernel
theorem dX2_placeOf_18 : decode cX2_placeOf 18 = .ok (.aload_n 0, 1) := by decide +kernel
theorem dX2_placeOf_19 : decode cX2_placeOf 19 = .ok (.iload_n 1, 1) := by decide +kernel
theorem dX2_placeOf_20 : decode cX2_placeOf 20 = .ok (.invokevirtual 57, 3) := by decide +kernel
theorem dX2_placeOf_23 : decode cX2_placeOf 23 = .ok (.iconst 0, 1) := by decide +kernel
theorem dX2_placeOf_24 : decode cX2_placeOf 24 = .ok (.istore 8, 2) := by decide +kernel
theorem dX2_placeOf_26 : decode cX2_placeOf 26 = .ok (.iload 8, 2) := by decide +kernel
theorem dX2_placeOf_28 : decode cX2_placeOf 28 = .ok (.iload_n 3, 1) := by decide +kernel
theorem dX2_placeOf_29 : decode cX2_placeOf 29 = .ok (.if_icmp .ge 92, 3) := by decide +kernel
theorem dX2_placeOf_32 : decode cX2_placeOf 32 = .ok (.aload_n 0, 1) := by decide +kernel
theorem dX2_placeOf_33 : decode cX2_placeOf 33 = .ok (.getfield 53, 3) := by decide +kernel
theorem dX2_placeOf_36 : decode cX2_placeOf 36 = .ok (.ifCond .le 85, 3) := by decide +kernel
theorem dX2_placeOf_39 : decode cX2_placeOf 39 = .ok (.aload_n 0, 1) := by decide +kernel
theorem dX2_placeOf_40 : decode cX2_placeOf 40 = .ok (.dup, 1) := by decide +kernel
theorem dX2_placeOf_41 : decode cX2_placeOf 41 = .ok (.getfield 53, 3) := by decide +kernel
theorem dX2_placeOf_44 : decode cX2_placeOf 44 = .ok (.iconst 1, 1) := by decide +kernel
theorem dX2_placeOf_45 : decode cX2_placeOf 45 = .ok (.isub, 1) := by decide +kernel
theorem dX2_placeOf_46 : decode cX2_placeOf 46 = .ok (.putfield 53, 3) := by decide +kernel
theorem dX2_placeOf_49 : decode cX2_placeOf 49 = .ok (.iconst 0, 1) := by decide +kernel
theorem dX2_placeOf_50 : decode cX2_placeOf 50 = .ok (.istore 9, 2) := by decide +kernel
theorem dX2_placeOf_52 : decode cX2_placeOf 52 = .ok (.iload 9, 2) := by decide +kernel
theorem dX2_placeOf_54 : decode cX2_placeOf 54 = .ok (.aload_n 2, 1) := by decide +kernel
theorem dX2_placeOf_55 : decode cX2_placeOf 55 = .ok (.iload 8, 2) := by decide +kernel
theorem dX2_placeOf_57 : decode cX2_placeOf 57 = .ok (.iaload, 1) := by decide +kernel
theorem dX2_placeOf_58 : decode cX2_placeOf 58 = .ok (.if_icmp .ge 31, 3) := by decide +kernel
theorem dX2_placeOf_61 : decode cX2_placeOf 61 = .ok (.lload 5, 2) := by decide +kernel
theorem dX2_placeOf_63 : decode cX2_placeOf 63 = .ok (.aload_n 0, 1) := by decide +kernel
theorem dX2_placeOf_64 : decode cX2_placeOf 64 = .ok (.iload 9, 2) := by decide +kernel
theorem dX2_placeOf_66 : decode cX2_placeOf 66 = .ok (.aload_n 0, 1) := by decide +kernel
theorem dX2_placeOf_67 : decode cX2_placeOf 67 = .ok (.getfield 22, 3) := by decide +kernel
theorem dX2_placeOf_70 : decode cX2_placeOf 70 = .ok (.aload_n 0, 1) := by decide +kernel
theorem dX2_placeOf_71 : decode cX2_placeOf 71 = .ok (.getfield 53, 3) := by decide +kernel
theorem dX2_placeOf_74 : decode cX2_placeOf 74 = .ok (.iaload, 1) := by decide +kernel
theorem dX2_placeOf_75 : decode cX2_placeOf 75 = .ok (.iload 7, 2) := by decide +kernel
theorem dX2_placeOf_77 : decode cX2_placeOf 77 = .ok (.invokevirtual 78, 3) := by decide +kernel
theorem dX2_placeOf_80 : decode cX2_placeOf 80 = .ok (.ladd, 1) := by decide +kernel
theorem dX2_placeOf_81 : decode cX2_placeOf 81 = .ok (.lstore 5, 2) := by decide +kernel
theorem dX2_placeOf_83 : decode cX2_placeOf 83 = .ok (.iinc 9 1, 3) := by decide +kernel
theorem dX2_placeOf_86 : decode cX2_placeOf 86 = .ok (.goto (-34), 3) := by decide +kernel
theorem dX2_placeOf_89 : decode cX2_placeOf 89 = .ok (.iload 7, 2) := by decide +kernel
theorem dX2_placeOf_91 : decode cX2_placeOf 91 = .ok (.aload_n 0, 1) := by decide +kernel
theorem dX2_placeOf_92 : decode cX2_placeOf 92 = .ok (.getfield 29, 3) := by decide +kernel
theorem dX2_placeOf_95 : decode cX2_placeOf 95 = .ok (.aload_n 2, 1) := by decide +kernel
theorem dX2_placeOf_96 : decode cX2_placeOf 96 = .ok (.iload 8, 2) := by decide +kernel
theorem dX2_placeOf_98 : decode cX2_placeOf 98 = .ok (.iaload, 1) := by decide +kernel
theorem dX2_placeOf_99 : decode cX2_placeOf 99 = .ok (.invokevirtual 65, 3) := by decide +kernel
theorem dX2_placeOf_102 : decode cX2_placeOf 102 = .ok (.isub, 1) := by decide +kernel
theorem dX2_placeOf_103 : decode cX2_placeOf 103 = .ok (.istore 7, 2) := by decide +kernel
theorem dX2_placeOf_105 : decode cX2_placeOf 105 = .ok (.aload_n 0, 1) := by decide +kernel
theorem dX2_placeOf_106 : decode cX2_placeOf 106 = .ok (.aload_n 2, 1) := by decide +kernel
theorem dX2_placeOf_107 : decode cX2_placeOf 107 = .ok (.iload 8, 2) := by decide +kernel
theorem dX2_placeOf_109 : decode cX2_placeOf 109 = .ok (.iaload, 1) := by decide +kernel
theorem dX2_placeOf_110 : decode cX2_placeOf 110 = .ok (.iload 7, 2) := by decide +kernel
theorem dX2_placeOf_112 : decode cX2_placeOf 112 = .ok (.invokevirtual 71, 3) := by decide +kernel
theorem dX2_placeOf_115 : decode cX2_placeOf 115 = .ok (.iinc 8 1, 3) := by decide +kernel
theorem dX2_placeOf_118 : decode cX2_placeOf 118 = .ok (.goto (-92), 3) := by decide +kernel
theorem dX2_placeOf_121 : decode cX2_placeOf 121 = .ok (.lload 5, 2) := by decide +kernel
theorem dX2_placeOf_123 : decode cX2_placeOf 123 = .ok (.ldc2_w 36, 3) := by decide +kernel
theorem dX2_placeOf_126 : decode cX2_placeOf 126 = .ok (.lcmp, 1) := by decide +kernel
theorem dX2_placeOf_127 : decode cX2_placeOf 127 = .ok (.ifCond .ge 9, 3) := by decide +kernel
theorem dX2_placeOf_130 : decode cX2_placeOf 130 = .ok (.lload 5, 2) := by decide +kernel
theorem dX2_placeOf_132 : decode cX2_placeOf 132 = .ok (.l2i, 1) := by decide +kernel
theorem dX2_placeOf_133 : decode cX2_placeOf 133 = .ok (.goto 5, 3) := by decide +kernel
theorem dX2_placeOf_136 : decode cX2_placeOf 136 = .ok (.ldc 52, 2) := by decide +kernel
theorem dX2_placeOf_138 : decode cX2_placeOf 138 = .ok (.ireturn, 1) := by decide +kernel
theorem dX2_waysWith_0 : decode cX2_waysWith 0 = .ok (.aload_n 0, 1) := by decide +kernel
theorem dX2_waysWith_1 : decode cX2_waysWith 1 = .ok (.getfield 29, 3) := by decide +kernel
theorem dX2_waysWith_4 : decode cX2_waysWith 4 = .ok (.iload_n 1, 1) := by decide +kernel
theorem dX2_waysWith_5 : decode cX2_waysWith 5 = .ok (.invokevirtual 82, 3) := by decide +kernel
theorem dX2_waysWith_8 : decode cX2_waysWith 8 = .ok (.ifCond .ne 15, 3) := by decide +kernel
theorem dX2_waysWith_11 : decode cX2_waysWith 11 = .ok (.aload_n 0, 1) := by decide +kernel
theorem dX2_waysWith_12 : decode cX2_waysWith 12 = .ok (.getfield 29, 3) := by decide +kernel
theorem dX2_waysWith_15 : decode cX2_waysWith 15 = .ok (.iload_n 1, 1) := by decide +kernel
theorem dX2_waysWith_16 : decode cX2_waysWith 16 = .ok (.iload_n 2, 1) := by decide +kernel
theorem dX2_waysWith_17 : decode cX2_waysWith 17 = .ok (.invokevirtual 86, 3) := by decide +kernel
theorem dX2_waysWith_20 : decode cX2_waysWith 20 = .ok (.ifCond .ne 5, 3) := by decide +kernel
theorem dX2_waysWith_23 : decode cX2_waysWith 23 = .ok (.lconst 0, 1) := by decide +kernel
theorem dX2_waysWith_24 : decode cX2_waysWith 24 = .ok (.lreturn, 1) := by decide +kernel
theorem dX2_waysWith_25 : decode cX2_waysWith 25 = .ok (.aload_n 0, 1) := by decide +kernel
theorem dX2_waysWith_26 : decode cX2_waysWith 26 = .ok (.getfield 11, 3) := by decide +kernel
theorem dX2_waysWith_29 : decode cX2_waysWith 29 = .ok (.iload_n 1, 1) := by decide +kernel
theorem dX2_waysWith_30 : decode cX2_waysWith 30 = .ok (.aaload, 1) := by decide +kernel
theorem dX2_waysWith_31 : decode cX2_waysWith 31 = .ok (.aload_n 0, 1) := by decide +kernel
theorem dX2_waysWith_32 : decode cX2_waysWith 32 = .ok (.getfield 19, 3) := by decide +kernel
theorem dX2_waysWith_35 : decode cX2_waysWith 35 = .ok (.aload_n 0, 1) := by decide +kernel
theorem dX2_waysWith_36 : decode cX2_waysWith 36 = .ok (.getfield 53, 3) := by decide +kernel
theorem dX2_waysWith_39 : decode cX2_waysWith 39 = .ok (.aaload, 1) := by decide +kernel
theorem dX2_waysWith_40 : decode cX2_waysWith 40 = .ok (.iload_n 3, 1) := by decide +kernel
theorem dX2_waysWith_41 : decode cX2_waysWith 41 = .ok (.invokestatic 90, 3) := by decide +kernel
theorem dX2_waysWith_44 : decode cX2_waysWith 44 = .ok (.lreturn, 1) := by decide +kernel
theorem dX2_wantTaken_0 : decode cX2_wantTaken 0 = .ok (.aload_n 0, 1) := by decide +kernel
theorem dX2_wantTaken_1 : decode cX2_wantTaken 1 = .ok (.getfield 29, 3) := by decide +kernel
theorem dX2_wantTaken_4 : decode cX2_wantTaken 4 = .ok (.getfield 94, 3) := by decide +kernel
theorem dX2_wantTaken_7 : decode cX2_wantTaken 7 = .ok (.iload_n 1, 1) := by decide +kernel
theorem dX2_wantTaken_8 : decode cX2_wantTaken 8 = .ok (.iaload, 1) := by decide +kernel
theorem dX2_wantTaken_9 : decode cX2_wantTaken 9 = .ok (.iconst 1, 1) := by decide +kernel
theorem dX2_wantTaken_10 : decode cX2_wantTaken 10 = .ok (.if_icmp .le 21, 3) := by decide +kernel
theorem dX2_wantTaken_13 : decode cX2_wantTaken 13 = .ok (.aload_n 0, 1) := by decide +kernel
theorem dX2_wantTaken_14 : decode cX2_wantTaken 14 = .ok (.aload_n 0, 1) := by decide +kernel
theorem dX2_wantTaken_15 : decode cX2_wantTaken 15 = .ok (.getfield 29, 3) := by decide +kernel
theorem dX2_wantTaken_18 : decode cX2_wantTaken 18 = .ok (.getfield 97, 3) := by decide +kernel
theorem dX2_wantTaken_21 : decode cX2_wantTaken 21 = .ok (.iload_n 1, 1) := by decide +kernel
theorem dX2_wantTaken_22 : decode cX2_wantTaken 22 = .ok (.iaload, 1) := by decide +kernel
theorem dX2_wantTaken_23 : decode cX2_wantTaken 23 = .ok (.invokevirtual 57, 3) := by decide +kernel
theorem dX2_wantTaken_26 : decode cX2_wantTaken 26 = .ok (.aload_n 0, 1) := by decide +kernel
theorem dX2_wantTaken_27 : decode cX2_wantTaken 27 = .ok (.iload_n 2, 1) := by decide +kernel
theorem dX2_wantTaken_28 : decode cX2_wantTaken 28 = .ok (.invokevirtual 100, 3) := by decide +kernel
theorem dX2_wantTaken_31 : decode cX2_wantTaken 31 = .ok (.aload_n 0, 1) := by decide +kernel
theorem dX2_wantTaken_32 : decode cX2_wantTaken 32 = .ok (.getfield 29, 3) := by decide +kernel
theorem dX2_wantTaken_35 : decode cX2_wantTaken 35 = .ok (.getfield 94, 3) := by decide +kernel
theorem dX2_wantTaken_38 : decode cX2_wantTaken 38 = .ok (.iload_n 1, 1) := by decide +kernel
theorem dX2_wantTaken_39 : decode cX2_wantTaken 39 = .ok (.iaload, 1) := by decide +kernel
theorem dX2_wantTaken_40 : decode cX2_wantTaken 40 = .ok (.ifCond .le 16, 3) := by decide +kernel
theorem dX2_wantTaken_43 : decode cX2_wantTaken 43 = .ok (.aload_n 0, 1) := by decide +kernel
theorem dX2_wantTaken_44 : decode cX2_wantTaken 44 = .ok (.aload_n 0, 1) := by decide +kernel
theorem dX2_wantTaken_45 : decode cX2_wantTaken 45 = .ok (.getfield 29, 3) := by decide +kernel
theorem dX2_wantTaken_48 : decode cX2_wantTaken 48 = .ok (.getfield 103, 3) := by decide +kernel
theorem dX2_wantTaken_51 : decode cX2_wantTaken 51 = .ok (.iload_n 1, 1) := by decide +kernel
theorem dX2_wantTaken_52 : decode cX2_wantTaken 52 = .ok (.iaload, 1) := by decide +kernel
theorem dX2_wantTaken_53 : decode cX2_wantTaken 53 = .ok (.invokevirtual 57, 3) := by decide +kernel
theorem dX2_wantTaken_56 : decode cX2_wantTaken 56 = .ok (.return_, 1) := by decide +kernel
theorem dX2_want_0 : decode cX2_want 0 = .ok (.aload_n 0, 1) := by decide +kernel
theorem dX2_want_1 : decode cX2_want 1 = .ok (.getfield 53, 3) := by decide +kernel
theorem dX2_want_4 : decode cX2_want 4 = .ok (.bipush 24, 2) := by decide +kernel
theorem dX2_want_6 : decode cX2_want 6 = .ok (.if_icmp .ge 23, 3) := by decide +kernel
theorem dX2_want_9 : decode cX2_want 9 = .ok (.aload_n 0, 1) := by decide +kernel
theorem dX2_want_10 : decode cX2_want 10 = .ok (.getfield 22, 3) := by decide +kernel
theorem dX2_want_13 : decode cX2_want 13 = .ok (.aload_n 0, 1) := by decide +kernel
theorem dX2_want_14 : decode cX2_want 14 = .ok (.getfield 53, 3) := by decide +kernel
theorem dX2_want_17 : decode cX2_want 17 = .ok (.iload_n 1, 1) := by decide +kernel
theorem dX2_want_18 : decode cX2_want 18 = .ok (.iastore, 1) := by decide +kernel
theorem dX2_want_19 : decode cX2_want 19 = .ok (.aload_n 0, 1) := by decide +kernel
theorem dX2_want_20 : decode cX2_want 20 = .ok (.dup, 1) := by decide +kernel
theorem dX2_want_21 : decode cX2_want 21 = .ok (.getfield 53, 3) := by decide +kernel
theorem dX2_want_24 : decode cX2_want 24 = .ok (.iconst 1, 1) := by decide +kernel
theorem dX2_want_25 : decode cX2_want 25 = .ok (.iadd, 1) := by decide +kernel
theorem dX2_want_26 : decode cX2_want 26 = .ok (.putfield 53, 3) := by decide +kernel
theorem dX2_want_29 : decode cX2_want 29 = .ok (.return_, 1) := by decide +kernel
theorem dX2_fillRest_0 : decode cX2_fillRest 0 = .ok (.aload_n 0, 1) := by decide +kernel
theorem dX2_fillRest_1 : decode cX2_fillRest 1 = .ok (.getfield 16, 3) := by decide +kernel
theorem dX2_fillRest_4 : decode cX2_fillRest 4 = .ok (.aload_n 0, 1) := by decide +kernel
theorem dX2_fillRest_5 : decode cX2_fillRest 5 = .ok (.getfield 22, 3) := by decide +kernel
theorem dX2_fillRest_8 : decode cX2_fillRest 8 = .ok (.aload_n 0, 1) := by decide +kernel
theorem dX2_fillRest_9 : decode cX2_fillRest 9 = .ok (.getfield 53, 3) := by decide +kernel
theorem dX2_fillRest_12 : decode cX2_fillRest 12 = .ok (.iconst 1, 1) := by decide +kernel
theorem dX2_fillRest_13 : decode cX2_fillRest 13 = .ok (.isub, 1) := by decide +kernel
theorem dX2_fillRest_14 : decode cX2_fillRest 14 = .ok (.iaload, 1) := by decide +kernel
theorem dX2_fillRest_15 : decode cX2_fillRest 15 = .ok (.aaload, 1) := by decide +kernel
theorem dX2_fillRest_16 : decode cX2_fillRest 16 = .ok (.astore_n 2, 1) := by decide +kernel
theorem dX2_fillRest_17 : decode cX2_fillRest 17 = .ok (.iconst 0, 1) := by decide +kernel
theorem dX2_fillRest_18 : decode cX2_fillRest 18 = .ok (.istore_n 3, 1) := by decide +kernel
theorem dX2_fillRest_19 : decode cX2_fillRest 19 = .ok (.iload_n 3, 1) := by decide +kernel
theorem dX2_fillRest_20 : decode cX2_fillRest 20 = .ok (.iload_n 1, 1) := by decide +kernel
theorem dX2_fillRest_21 : decode cX2_fillRest 21 = .ok (.if_icmp .gt 36, 3) := by decide +kernel
theorem dX2_fillRest_24 : decode cX2_fillRest 24 = .ok (.aload_n 0, 1) := by decide +kernel
theorem dX2_fillRest_25 : decode cX2_fillRest 25 = .ok (.getfield 19, 3) := by decide +kernel
theorem dX2_fillRest_28 : decode cX2_fillRest 28 = .ok (.aload_n 0, 1) := by decide +kernel
theorem dX2_fillRest_29 : decode cX2_fillRest 29 = .ok (.getfield 53, 3) := by decide +kernel
theorem dX2_fillRest_32 : decode cX2_fillRest 32 = .ok (.aaload, 1) := by decide +kernel
theorem dX2_fillRest_33 : decode cX2_fillRest 33 = .ok (.iload_n 3, 1) := by decide +kernel
theorem dX2_fillRest_34 : decode cX2_fillRest 34 = .ok (.aload_n 2, 1) := by decide +kernel
theorem dX2_fillRest_35 : decode cX2_fillRest 35 = .ok (.aload_n 0, 1) := by decide +kernel
theorem dX2_fillRest_36 : decode cX2_fillRest 36 = .ok (.getfield 19, 3) := by decide +kernel
theorem dX2_fillRest_39 : decode cX2_fillRest 39 = .ok (.aload_n 0, 1) := by decide +kernel
theorem dX2_fillRest_40 : decode cX2_fillRest 40 = .ok (.getfield 53, 3) := by decide +kernel
theorem dX2_fillRest_43 : decode cX2_fillRest 43 = .ok (.iconst 1, 1) := by decide +kernel
theorem dX2_fillRest_44 : decode cX2_fillRest 44 = .ok (.isub, 1) := by decide +kernel
theorem dX2_fillRest_45 : decode cX2_fillRest 45 = .ok (.aaload, 1) := by decide +kernel
theorem dX2_fillRest_46 : decode cX2_fillRest 46 = .ok (.iload_n 3, 1) := by decide +kernel
theorem dX2_fillRest_47 : decode cX2_fillRest 47 = .ok (.invokestatic 90, 3) := by decide +kernel
theorem dX2_fillRest_50 : decode cX2_fillRest 50 = .ok (.lastore, 1) := by decide +kernel
theorem dX2_fillRest_51 : decode cX2_fillRest 51 = .ok (.iinc 3 1, 3) := by decide +kernel
theorem dX2_fillRest_54 : decode cX2_fillRest 54 = .ok (.goto (-35), 3) := by decide +kernel
theorem dX2_fillRest_57 : decode cX2_fillRest 57 = .ok (.return_, 1) := by decide +kernel
theorem dX2_countAll_0 : decode cX2_countAll 0 = .ok (.aload_n 0, 1) := by decide +kernel
theorem dX2_countAll_1 : decode cX2_countAll 1 = .ok (.getfield 106, 3) := by decide +kernel
theorem dX2_countAll_4 : decode cX2_countAll 4 = .ok (.ifCond .eq 4, 3) := by decide +kernel
theorem dX2_countAll_7 : decode cX2_countAll 7 = .ok (.return_, 1) := by decide +kernel
theorem dX2_countAll_8 : decode cX2_countAll 8 = .ok (.iconst 1, 1) := by decide +kernel
theorem dX2_countAll_9 : decode cX2_countAll 9 = .ok (.istore_n 1, 1) := by decide +kernel
theorem dX2_countAll_10 : decode cX2_countAll 10 = .ok (.iload_n 1, 1) := by decide +kernel
theorem dX2_countAll_11 : decode cX2_countAll 11 = .ok (.bipush 24, 2) := by decide +kernel
theorem dX2_countAll_13 : decode cX2_countAll 13 = .ok (.if_icmp .gt 14, 3) := by decide +kernel
theorem dX2_countAll_16 : decode cX2_countAll 16 = .ok (.aload_n 0, 1) := by decide +kernel
theorem dX2_countAll_17 : decode cX2_countAll 17 = .ok (.iload_n 1, 1) := by decide +kernel
theorem dX2_countAll_18 : decode cX2_countAll 18 = .ok (.invokevirtual 110, 3) := by decide +kernel
theorem dX2_countAll_21 : decode cX2_countAll 21 = .ok (.iinc 1 1, 3) := by decide +kernel
theorem dX2_countAll_24 : decode cX2_countAll 24 = .ok (.goto (-14), 3) := by decide +kernel
theorem dX2_countAll_27 : decode cX2_countAll 27 = .ok (.aload_n 0, 1) := by decide +kernel
theorem dX2_countAll_28 : decode cX2_countAll 28 = .ok (.iconst 1, 1) := by decide +kernel
theorem dX2_countAll_29 : decode cX2_countAll 29 = .ok (.putfield 106, 3) := by decide +kernel
theorem dX2_countAll_32 : decode cX2_countAll 32 = .ok (.return_, 1) := by decide +kernel
theorem dX2_countPrice_0 : decode cX2_countPrice 0 = .ok (.iconst 0, 1) := by decide +kernel
theorem dX2_countPrice_1 : decode cX2_countPrice 1 = .ok (.istore_n 2, 1) := by decide +kernel
theorem dX2_countPrice_2 : decode cX2_countPrice 2 = .ok (.iload_n 2, 1) := by decide +kernel
theorem dX2_countPrice_3 : decode cX2_countPrice 3 = .ok (.aload_n 0, 1) := by decide +kernel
theorem dX2_countPrice_4 : decode cX2_countPrice 4 = .ok (.getfield 29, 3) := by decide +kernel
theorem dX2_countPrice_7 : decode cX2_countPrice 7 = .ok (.getfield 113, 3) := by decide +kernel
theorem dX2_countPrice_10 : decode cX2_countPrice 10 = .ok (.if_icmp .ge 18, 3) := by decide +kernel
theorem dX2_countPrice_13 : decode cX2_countPrice 13 = .ok (.aload_n 0, 1) := by decide +kernel
theorem dX2_countPrice_14 : decode cX2_countPrice 14 = .ok (.getfield 16, 3) := by decide +kernel
theorem dX2_countPrice_17 : decode cX2_countPrice 17 = .ok (.iload_n 2, 1) := by decide +kernel
theorem dX2_countPrice_18 : decode cX2_countPrice 18 = .ok (.aaload, 1) := by decide +kernel
theorem dX2_countPrice_19 : decode cX2_countPrice 19 = .ok (.iload_n 1, 1) := by decide +kernel
theorem dX2_countPrice_20 : decode cX2_countPrice 20 = .ok (.lconst 0, 1) := by decide +kernel
theorem dX2_countPrice_21 : decode cX2_countPrice 21 = .ok (.lastore, 1) := by decide +kernel
theorem dX2_countPrice_22 : decode cX2_countPrice 22 = .ok (.iinc 2 1, 3) := by decide +kernel
theorem dX2_countPrice_25 : decode cX2_countPrice 25 = .ok (.goto (-23), 3) := by decide +kernel
theorem dX2_countPrice_28 : decode cX2_countPrice 28 = .ok (.iconst 0, 1) := by decide +kernel
theorem dX2_countPrice_29 : decode cX2_countPrice 29 = .ok (.istore_n 2, 1) := by decide +kernel
theorem dX2_countPrice_30 : decode cX2_countPrice 30 = .ok (.iload_n 2, 1) := by decide +kernel
theorem dX2_countPrice_31 : decode cX2_countPrice 31 = .ok (.aload_n 0, 1) := by decide +kernel
theorem dX2_countPrice_32 : decode cX2_countPrice 32 = .ok (.getfield 29, 3) := by decide +kernel
theorem dX2_countPrice_35 : decode cX2_countPrice 35 = .ok (.getfield 75, 3) := by decide +kernel
theorem dX2_countPrice_38 : decode cX2_countPrice 38 = .ok (.if_icmp .ge 69, 3) := by decide +kernel
theorem dX2_countPrice_41 : decode cX2_countPrice 41 = .ok (.aload_n 0, 1) := by decide +kernel
theorem dX2_countPrice_42 : decode cX2_countPrice 42 = .ok (.getfield 29, 3) := by decide +kernel
theorem dX2_countPrice_45 : decode cX2_countPrice 45 = .ok (.iload_n 2, 1) := by decide +kernel
theorem dX2_countPrice_46 : decode cX2_countPrice 46 = .ok (.invokevirtual 82, 3) := by decide +kernel
theorem dX2_countPrice_49 : decode cX2_countPrice 49 = .ok (.ifCond .eq 7, 3) := by decide +kernel
theorem dX2_countPrice_52 : decode cX2_countPrice 52 = .ok (.lconst 0, 1) := by decide +kernel
theorem dX2_countPrice_53 : decode cX2_countPrice 53 = .ok (.goto 9, 3) := by decide +kernel
theorem dX2_countPrice_56 : decode cX2_countPrice 56 = .ok (.aload_n 0, 1) := by decide +kernel
theorem dX2_countPrice_57 : decode cX2_countPrice 57 = .ok (.iload_n 2, 1) := by decide +kernel
theorem dX2_countPrice_58 : decode cX2_countPrice 58 = .ok (.iload_n 1, 1) := by decide +kernel
theorem dX2_countPrice_59 : decode cX2_countPrice 59 = .ok (.invokevirtual 116, 3) := by decide +kernel
theorem dX2_countPrice_62 : decode cX2_countPrice 62 = .ok (.lstore_n 3, 1) := by decide +kernel
theorem dX2_countPrice_63 : decode cX2_countPrice 63 = .ok (.aload_n 0, 1) := by decide +kernel
theorem dX2_countPrice_64 : decode cX2_countPrice 64 = .ok (.getfield 11, 3) := by decide +kernel
theorem dX2_countPrice_67 : decode cX2_countPrice 67 = .ok (.iload_n 2, 1) := by decide +kernel
theorem dX2_countPrice_68 : decode cX2_countPrice 68 = .ok (.aaload, 1) := by decide +kernel
theorem dX2_countPrice_69 : decode cX2_countPrice 69 = .ok (.iload_n 1, 1) := by decide +kernel
theorem dX2_countPrice_70 : decode cX2_countPrice 70 = .ok (.lload_n 3, 1) := by decide +kernel
theorem dX2_countPrice_71 : decode cX2_countPrice 71 = .ok (.lastore, 1) := by decide +kernel
theorem dX2_countPrice_72 : decode cX2_countPrice 72 = .ok (.lload_n 3, 1) := by decide +kernel
theorem dX2_countPrice_73 : decode cX2_countPrice 73 = .ok (.lconst 0, 1) := by decide +kernel
theorem dX2_countPrice_74 : decode cX2_countPrice 74 = .ok (.lcmp, 1) := by decide +kernel
theorem dX2_countPrice_75 : decode cX2_countPrice 75 = .ok (.ifCond .le 26, 3) := by decide +kernel
theorem dX2_countPrice_78 : decode cX2_countPrice 78 = .ok (.aload_n 0, 1) := by decide +kernel
theorem dX2_countPrice_79 : decode cX2_countPrice 79 = .ok (.aload_n 0, 1) := by decide +kernel
theorem dX2_countPrice_80 : decode cX2_countPrice 80 = .ok (.getfield 29, 3) := by decide +kernel
theorem dX2_countPrice_83 : decode cX2_countPrice 83 = .ok (.getfield 119, 3) := by decide +kernel
theorem dX2_countPrice_86 : decode cX2_countPrice 86 = .ok (.aload_n 0, 1) := by decide +kernel
theorem dX2_countPrice_87 : decode cX2_countPrice 87 = .ok (.getfield 29, 3) := by decide +kernel
theorem dX2_countPrice_90 : decode cX2_countPrice 90 = .ok (.getfield 122, 3) := by decide +kernel
theorem dX2_countPrice_93 : decode cX2_countPrice 93 = .ok (.iload_n 2, 1) := by decide +kernel
theorem dX2_countPrice_94 : decode cX2_countPrice 94 = .ok (.iaload, 1) := by decide +kernel
theorem dX2_countPrice_95 : decode cX2_countPrice 95 = .ok (.iaload, 1) := by decide +kernel
theorem dX2_countPrice_96 : decode cX2_countPrice 96 = .ok (.iload_n 1, 1) := by decide +kernel
theorem dX2_countPrice_97 : decode cX2_countPrice 97 = .ok (.lload_n 3, 1) := by decide +kernel
theorem dX2_countPrice_98 : decode cX2_countPrice 98 = .ok (.invokevirtual 125, 3) := by decide +kernel
theorem dX2_countPrice_101 : decode cX2_countPrice 101 = .ok (.iinc 2 1, 3) := by decide +kernel
theorem dX2_countPrice_104 : decode cX2_countPrice 104 = .ok (.goto (-74), 3) := by decide +kernel
theorem dX2_countPrice_107 : decode cX2_countPrice 107 = .ok (.return_, 1) := by decide +kernel
theorem dX2_addTo_0 : decode cX2_addTo 0 = .ok (.iconst 0, 1) := by decide +kernel
theorem dX2_addTo_1 : decode cX2_addTo 1 = .ok (.istore 5, 2) := by decide +kernel
theorem dX2_addTo_3 : decode cX2_addTo 3 = .ok (.iload 5, 2) := by decide +kernel
theorem dX2_addTo_5 : decode cX2_addTo 5 = .ok (.aload_n 0, 1) := by decide +kernel
theorem dX2_addTo_6 : decode cX2_addTo 6 = .ok (.getfield 29, 3) := by decide +kernel
theorem dX2_addTo_9 : decode cX2_addTo 9 = .ok (.getfield 113, 3) := by decide +kernel
theorem dX2_addTo_12 : decode cX2_addTo 12 = .ok (.if_icmp .ge 44, 3) := by decide +kernel
theorem dX2_addTo_15 : decode cX2_addTo 15 = .ok (.iload_n 1, 1) := by decide +kernel
theorem dX2_addTo_16 : decode cX2_addTo 16 = .ok (.iload 5, 2) := by decide +kernel
theorem dX2_addTo_18 : decode cX2_addTo 18 = .ok (.ishr, 1) := by decide +kernel
theorem dX2_addTo_19 : decode cX2_addTo 19 = .ok (.iconst 1, 1) := by decide +kernel
theorem dX2_addTo_20 : decode cX2_addTo 20 = .ok (.iand, 1) := by decide +kernel
theorem dX2_addTo_21 : decode cX2_addTo 21 = .ok (.ifCond .eq 29, 3) := by decide +kernel
theorem dX2_addTo_24 : decode cX2_addTo 24 = .ok (.aload_n 0, 1) := by decide +kernel
theorem dX2_addTo_25 : decode cX2_addTo 25 = .ok (.getfield 16, 3) := by decide +kernel
theorem dX2_addTo_28 : decode cX2_addTo 28 = .ok (.iload 5, 2) := by decide +kernel
theorem dX2_addTo_30 : decode cX2_addTo 30 = .ok (.aaload, 1) := by decide +kernel
theorem dX2_addTo_31 : decode cX2_addTo 31 = .ok (.iload_n 2, 1) := by decide +kernel
theorem dX2_addTo_32 : decode cX2_addTo 32 = .ok (.aload_n 0, 1) := by decide +kernel
theorem dX2_addTo_33 : decode cX2_addTo 33 = .ok (.getfield 16, 3) := by decide +kernel
theorem dX2_addTo_36 : decode cX2_addTo 36 = .ok (.iload 5, 2) := by decide +kernel
theorem dX2_addTo_38 : decode cX2_addTo 38 = .ok (.aaload, 1) := by decide +kernel
theorem dX2_addTo_39 : decode cX2_addTo 39 = .ok (.iload_n 2, 1) := by decide +kernel
theorem dX2_addTo_40 : decode cX2_addTo 40 = .ok (.laload, 1) := by decide +kernel
theorem dX2_addTo_41 : decode cX2_addTo 41 = .ok (.lload_n 3, 1) := by decide +kernel
theorem dX2_addTo_42 : decode cX2_addTo 42 = .ok (.ladd, 1) := by decide +kernel
theorem dX2_addTo_43 : decode cX2_addTo 43 = .ok (.ldc2_w 129, 3) := by decide +kernel
theorem dX2_addTo_46 : decode cX2_addTo 46 = .ok (.invokestatic 38, 3) := by decide +kernel
theorem dX2_addTo_49 : decode cX2_addTo 49 = .ok (.lastore, 1) := by decide +kernel
theorem dX2_addTo_50 : decode cX2_addTo 50 = .ok (.iinc 5 1, 3) := by decide +kernel
theorem dX2_addTo_53 : decode cX2_addTo 53 = .ok (.goto (-50), 3) := by decide +kernel
theorem dX2_addTo_56 : decode cX2_addTo 56 = .ok (.return_, 1) := by decide +kernel
theorem dX2_manyWith_0 : decode cX2_manyWith 0 = .ok (.iload_n 2, 1) := by decide +kernel
theorem dX2_manyWith_1 : decode cX2_manyWith 1 = .ok (.aload_n 0, 1) := by decide +kernel
theorem dX2_manyWith_2 : decode cX2_manyWith 2 = .ok (.getfield 29, 3) := by decide +kernel
theorem dX2_manyWith_5 : decode cX2_manyWith 5 = .ok (.iload_n 1, 1) := by decide +kernel
theorem dX2_manyWith_6 : decode cX2_manyWith 6 = .ok (.invokevirtual 65, 3) := by decide +kernel
theorem dX2_manyWith_9 : decode cX2_manyWith 9 = .ok (.isub, 1) := by decide +kernel
theorem dX2_manyWith_10 : decode cX2_manyWith 10 = .ok (.istore_n 3, 1) := by decide +kernel
theorem dX2_manyWith_11 : decode cX2_manyWith 11 = .ok (.iload_n 3, 1) := by decide +kernel
theorem dX2_manyWith_12 : decode cX2_manyWith 12 = .ok (.ifCond .ge 5, 3) := by decide +kernel
theorem dX2_manyWith_15 : decode cX2_manyWith 15 = .ok (.lconst 0, 1) := by decide +kernel
theorem dX2_manyWith_16 : decode cX2_manyWith 16 = .ok (.lreturn, 1) := by decide +kernel
theorem dX2_manyWith_17 : decode cX2_manyWith 17 = .ok (.aload_n 0, 1) := by decide +kernel
theorem dX2_manyWith_18 : decode cX2_manyWith 18 = .ok (.getfield 29, 3) := by decide +kernel
theorem dX2_manyWith_21 : decode cX2_manyWith 21 = .ok (.getfield 94, 3) := by decide +kernel
theorem dX2_manyWith_24 : decode cX2_manyWith 24 = .ok (.iload_n 1, 1) := by decide +kernel
theorem dX2_manyWith_25 : decode cX2_manyWith 25 = .ok (.iaload, 1) := by decide +kernel
theorem dX2_manyWith_26 : decode cX2_manyWith 26 = .ok (.lookupswitch 53 #[(0, 26), (1, 36)], 26) := by decide +kernel
theorem dX2_manyWith_52 : decode cX2_manyWith 52 = .ok (.iload_n 3, 1) := by decide +kernel
theorem dX2_manyWith_53 : decode cX2_manyWith 53 = .ok (.ifCond .ne 7, 3) := by decide +kernel
theorem dX2_manyWith_56 : decode cX2_manyWith 56 = .ok (.lconst 1, 1) := by decide +kernel
theorem dX2_manyWith_57 : decode cX2_manyWith 57 = .ok (.goto 4, 3) := by decide +kernel
theorem dX2_manyWith_60 : decode cX2_manyWith 60 = .ok (.lconst 0, 1) := by decide +kernel
theorem dX2_manyWith_61 : decode cX2_manyWith 61 = .ok (.lreturn, 1) := by decide +kernel
theorem dX2_manyWith_62 : decode cX2_manyWith 62 = .ok (.aload_n 0, 1) := by decide +kernel
theorem dX2_manyWith_63 : decode cX2_manyWith 63 = .ok (.getfield 16, 3) := by decide +kernel
theorem dX2_manyWith_66 : decode cX2_manyWith 66 = .ok (.aload_n 0, 1) := by decide +kernel
theorem dX2_manyWith_67 : decode cX2_manyWith 67 = .ok (.getfield 29, 3) := by decide +kernel
theorem dX2_manyWith_70 : decode cX2_manyWith 70 = .ok (.getfield 103, 3) := by decide +kernel
theorem dX2_manyWith_73 : decode cX2_manyWith 73 = .ok (.iload_n 1, 1) := by decide +kernel
theorem dX2_manyWith_74 : decode cX2_manyWith 74 = .ok (.iaload, 1) := by decide +kernel
theorem dX2_manyWith_75 : decode cX2_manyWith 75 = .ok (.aaload, 1) := by decide +kernel
theorem dX2_manyWith_76 : decode cX2_manyWith 76 = .ok (.iload_n 3, 1) := by decide +kernel
theorem dX2_manyWith_77 : decode cX2_manyWith 77 = .ok (.laload, 1) := by decide +kernel
theorem dX2_manyWith_78 : decode cX2_manyWith 78 = .ok (.lreturn, 1) := by decide +kernel
theorem dX2_manyWith_79 : decode cX2_manyWith 79 = .ok (.aload_n 0, 1) := by decide +kernel
theorem dX2_manyWith_80 : decode cX2_manyWith 80 = .ok (.getfield 16, 3) := by decide +kernel
theorem dX2_manyWith_83 : decode cX2_manyWith 83 = .ok (.aload_n 0, 1) := by decide +kernel
theorem dX2_manyWith_84 : decode cX2_manyWith 84 = .ok (.getfield 29, 3) := by decide +kernel
theorem dX2_manyWith_87 : decode cX2_manyWith 87 = .ok (.getfield 103, 3) := by decide +kernel
theorem dX2_manyWith_90 : decode cX2_manyWith 90 = .ok (.iload_n 1, 1) := by decide +kernel
theorem dX2_manyWith_91 : decode cX2_manyWith 91 = .ok (.iaload, 1) := by decide +kernel
theorem dX2_manyWith_92 : decode cX2_manyWith 92 = .ok (.aaload, 1) := by decide +kernel
theorem dX2_manyWith_93 : decode cX2_manyWith 93 = .ok (.aload_n 0, 1) := by decide +kernel
theorem dX2_manyWith_94 : decode cX2_manyWith 94 = .ok (.getfield 16, 3) := by decide +kernel
theorem dX2_manyWith_97 : decode cX2_manyWith 97 = .ok (.aload_n 0, 1) := by decide +kernel
theorem dX2_manyWith_98 : decode cX2_manyWith 98 = .ok (.getfield 29, 3) := by decide +kernel
theorem dX2_manyWith_101 : decode cX2_manyWith 101 = .ok (.getfield 97, 3) := by decide +kernel
theorem dX2_manyWith_104 : decode cX2_manyWith 104 = .ok (.iload_n 1, 1) := by decide +kernel
theorem dX2_manyWith_105 : decode cX2_manyWith 105 = .ok (.iaload, 1) := by decide +kernel
theorem dX2_manyWith_106 : decode cX2_manyWith 106 = .ok (.aaload, 1) := by decide +kernel
theorem dX2_manyWith_107 : decode cX2_manyWith 107 = .ok (.iload_n 3, 1) := by decide +kernel
theorem dX2_manyWith_108 : decode cX2_manyWith 108 = .ok (.invokestatic 90, 3) := by decide +kernel
theorem dX2_manyWith_111 : decode cX2_manyWith 111 = .ok (.lreturn, 1) := by decide +kernel
theorem dX2_ways_0 : decode cX2_ways 0 = .ok (.lconst 0, 1) := by decide +kernel
theorem dX2_ways_1 : decode cX2_ways 1 = .ok (.lstore_n 3, 1) := by decide +kernel
theorem dX2_ways_2 : decode cX2_ways 2 = .ok (.iconst 0, 1) := by decide +kernel
theorem dX2_ways_3 : decode cX2_ways 3 = .ok (.istore 5, 2) := by decide +kernel
theorem dX2_ways_5 : decode cX2_ways 5 = .ok (.iload 5, 2) := by decide +kernel
theorem dX2_ways_7 : decode cX2_ways 7 = .ok (.iload_n 2, 1) := by decide +kernel
theorem dX2_ways_8 : decode cX2_ways 8 = .ok (.if_icmp .gt 31, 3) := by decide +kernel
theorem dX2_ways_11 : decode cX2_ways 11 = .ok (.lload_n 3, 1) := by decide +kernel
theorem dX2_ways_12 : decode cX2_ways 12 = .ok (.ldc2_w 129, 3) := by decide +kernel
theorem dX2_ways_15 : decode cX2_ways 15 = .ok (.lcmp, 1) := by decide +kernel
theorem dX2_ways_16 : decode cX2_ways 16 = .ok (.ifCond .ge 23, 3) := by decide +kernel
theorem dX2_ways_19 : decode cX2_ways 19 = .ok (.lload_n 3, 1) := by decide +kernel
theorem dX2_ways_20 : decode cX2_ways 20 = .ok (.aload_n 0, 1) := by decide +kernel
theorem dX2_ways_21 : decode cX2_ways 21 = .ok (.iload 5, 2) := by decide +kernel
theorem dX2_ways_23 : decode cX2_ways 23 = .ok (.laload, 1) := by decide +kernel
theorem dX2_ways_24 : decode cX2_ways 24 = .ok (.aload_n 1, 1) := by decide +kernel
theorem dX2_ways_25 : decode cX2_ways 25 = .ok (.iload_n 2, 1) := by decide +kernel
theorem dX2_ways_26 : decode cX2_ways 26 = .ok (.iload 5, 2) := by decide +kernel
theorem dX2_ways_28 : decode cX2_ways 28 = .ok (.isub, 1) := by decide +kernel
theorem dX2_ways_29 : decode cX2_ways 29 = .ok (.laload, 1) := by decide +kernel
theorem dX2_ways_30 : decode cX2_ways 30 = .ok (.lmul, 1) := by decide +kernel
theorem dX2_ways_31 : decode cX2_ways 31 = .ok (.ladd, 1) := by decide +kernel
theorem dX2_ways_32 : decode cX2_ways 32 = .ok (.lstore_n 3, 1) := by decide +kernel
theorem dX2_ways_33 : decode cX2_ways 33 = .ok (.iinc 5 1, 3) := by decide +kernel
theorem dX2_ways_36 : decode cX2_ways 36 = .ok (.goto (-31), 3) := by decide +kernel
theorem dX2_ways_39 : decode cX2_ways 39 = .ok (.lload_n 3, 1) := by decide +kernel
theorem dX2_ways_40 : decode cX2_ways 40 = .ok (.ldc2_w 129, 3) := by decide +kernel
theorem dX2_ways_43 : decode cX2_ways 43 = .ok (.invokestatic 38, 3) := by decide +kernel
theorem dX2_ways_46 : decode cX2_ways 46 = .ok (.lreturn, 1) := by decide +kernel
theorem dX3_init_0 : decode cX3_init 0 = .ok (.aload_n 0, 1) := by decide +kernel
theorem dX3_init_1 : decode cX3_init 1 = .ok (.invokespecial 3, 3) := by decide +kernel
theorem dX3_init_4 : decode cX3_init 4 = .ok (.aload_n 0, 1) := by decide +kernel
theorem dX3_init_5 : decode cX3_init 5 = .ok (.bipush 8, 2) := by decide +kernel
theorem dX3_init_7 : decode cX3_init 7 = .ok (.newarray .int, 2) := by decide +kernel
theorem dX3_init_9 : decode cX3_init 9 = .ok (.putfield 9, 3) := by decide +kernel
theorem dX3_init_12 : decode cX3_init 12 = .ok (.aload_n 0, 1) := by decide +kernel
theorem dX3_init_13 : decode cX3_init 13 = .ok (.aload_n 1, 1) := by decide +kernel
theorem dX3_init_14 : decode cX3_init 14 = .ok (.putfield 15, 3) := by decide +kernel
theorem dX3_init_17 : decode cX3_init 17 = .ok (.return_, 1) := by decide +kernel
theorem dX3_leastListed_0 : decode cX3_leastListed 0 = .ok (.aload_n 0, 1) := by decide +kernel
theorem dX3_leastListed_1 : decode cX3_leastListed 1 = .ok (.iload_n 2, 1) := by decide +kernel
theorem dX3_leastListed_2 : decode cX3_leastListed 2 = .ok (.invokevirtual 19, 3) := by decide +kernel
theorem dX3_leastListed_5 : decode cX3_leastListed 5 = .ok (.aload_n 0, 1) := by decide +kernel
theorem dX3_leastListed_6 : decode cX3_leastListed 6 = .ok (.getfield 9, 3) := by decide +kernel
theorem dX3_leastListed_9 : decode cX3_leastListed 9 = .ok (.iload_n 1, 1) := by decide +kernel
theorem dX3_leastListed_10 : decode cX3_leastListed 10 = .ok (.iaload, 1) := by decide +kernel
theorem dX3_leastListed_11 : decode cX3_leastListed 11 = .ok (.bipush 24, 2) := by decide +kernel
theorem dX3_leastListed_13 : decode cX3_leastListed 13 = .ok (.if_icmp .gt 12, 3) := by decide +kernel
theorem dX3_leastListed_16 : decode cX3_leastListed 16 = .ok (.aload_n 0, 1) := by decide +kernel
theorem dX3_leastListed_17 : decode cX3_leastListed 17 = .ok (.getfield 9, 3) := by decide +kernel
theorem dX3_leastListed_20 : decode cX3_leastListed 20 = .ok (.iload_n 1, 1) := by decide +kernel
theorem dX3_leastListed_21 : decode cX3_leastListed 21 = .ok (.iaload, 1) := by decide +kernel
theorem dX3_leastListed_22 : decode cX3_leastListed 22 = .ok (.goto 5, 3) := by decide +kernel
theorem dX3_leastListed_25 : decode cX3_leastListed 25 = .ok (.ldc 23, 2) := by decide +kernel
theorem dX3_leastListed_27 : decode cX3_leastListed 27 = .ok (.ireturn, 1) := by decide +kernel
theorem dX3_typesHad_0 : decode cX3_typesHad 0 = .ok (.aload_n 0, 1) := by decide +kernel
theorem dX3_typesHad_1 : decode cX3_typesHad 1 = .ok (.iload_n 1, 1) := by decide +kernel
theorem dX3_typesHad_2 : decode cX3_typesHad 2 = .ok (.invokevirtual 19, 3) := by decide +kernel
theorem dX3_typesHad_5 : decode cX3_typesHad 5 = .ok (.iconst 0, 1) := by decide +kernel
theorem dX3_typesHad_6 : decode cX3_typesHad 6 = .ok (.istore_n 2, 1) := by decide +kernel
theorem dX3_typesHad_7 : decode cX3_typesHad 7 = .ok (.iconst 0, 1) := by decide +kernel
theorem dX3_typesHad_8 : decode cX3_typesHad 8 = .ok (.istore_n 3, 1) := by decide +kernel
theorem dX3_typesHad_9 : decode cX3_typesHad 9 = .ok (.iload_n 3, 1) := by decide +kernel
theorem dX3_typesHad_10 : decode cX3_typesHad 10 = .ok (.aload_n 0, 1) := by decide +kernel
theorem dX3_typesHad_11 : decode cX3_typesHad 11 = .ok (.getfield 15, 3) := by decide +kernel
theorem dX3_typesHad_14 : decode cX3_typesHad 14 = .ok (.getfield 24, 3) := by decide +kernel
theorem dX3_typesHad_17 : decode cX3_typesHad 17 = .ok (.if_icmp .ge 26, 3) := by decide +kernel
theorem dX3_typesHad_20 : decode cX3_typesHad 20 = .ok (.aload_n 0, 1) := by decide +kernel
theorem dX3_typesHad_21 : decode cX3_typesHad 21 = .ok (.getfield 9, 3) := by decide +kernel
theorem dX3_typesHad_24 : decode cX3_typesHad 24 = .ok (.iload_n 3, 1) := by decide +kernel
theorem dX3_typesHad_25 : decode cX3_typesHad 25 = .ok (.iaload, 1) := by decide +kernel
theorem dX3_typesHad_26 : decode cX3_typesHad 26 = .ok (.ldc 30, 2) := by decide +kernel
theorem dX3_typesHad_28 : decode cX3_typesHad 28 = .ok (.if_icmp .ge 9, 3) := by decide +kernel
theorem dX3_typesHad_31 : decode cX3_typesHad 31 = .ok (.iload_n 2, 1) := by decide +kernel
theorem dX3_typesHad_32 : decode cX3_typesHad 32 = .ok (.iconst 1, 1) := by decide +kernel
theorem dX3_typesHad_33 : decode cX3_typesHad 33 = .ok (.iload_n 3, 1) := by decide +kernel
theorem dX3_typesHad_34 : decode cX3_typesHad 34 = .ok (.ishl, 1) := by decide +kernel
theorem dX3_typesHad_35 : decode cX3_typesHad 35 = .ok (.ior, 1) := by decide +kernel
theorem dX3_typesHad_36 : decode cX3_typesHad 36 = .ok (.istore_n 2, 1) := by decide +kernel
theorem dX3_typesHad_37 : decode cX3_typesHad 37 = .ok (.iinc 3 1, 3) := by decide +kernel
theorem dX3_typesHad_40 : decode cX3_typesHad 40 = .ok (.goto (-31), 3) := by decide +kernel
theorem dX3_typesHad_43 : decode cX3_typesHad 43 = .ok (.iload_n 2, 1) := by decide +kernel
theorem dX3_typesHad_44 : decode cX3_typesHad 44 = .ok (.ireturn, 1) := by decide +kernel
theorem dX3_membersNeeded_0 : decode cX3_membersNeeded 0 = .ok (.aload_n 0, 1) := by decide +kernel
theorem dX3_membersNeeded_1 : decode cX3_membersNeeded 1 = .ok (.aload_n 0, 1) := by decide +kernel
theorem dX3_membersNeeded_2 : decode cX3_membersNeeded 2 = .ok (.getfield 15, 3) := by decide +kernel
theorem dX3_membersNeeded_5 : decode cX3_membersNeeded 5 = .ok (.getfield 31, 3) := by decide +kernel
theorem dX3_membersNeeded_8 : decode cX3_membersNeeded 8 = .ok (.invokevirtual 34, 3) := by decide +kernel
theorem dX3_membersNeeded_11 : decode cX3_membersNeeded 11 = .ok (.iload_n 1, 1) := by decide +kernel
theorem dX3_membersNeeded_12 : decode cX3_membersNeeded 12 = .ok (.ishr, 1) := by decide +kernel
theorem dX3_membersNeeded_13 : decode cX3_membersNeeded 13 = .ok (.iconst 1, 1) := by decide +kernel
theorem dX3_membersNeeded_14 : decode cX3_membersNeeded 14 = .ok (.iand, 1) := by decide +kernel
theorem dX3_membersNeeded_15 : decode cX3_membersNeeded 15 = .ok (.ifCond .ne 5, 3) := by decide +kernel
theorem dX3_membersNeeded_18 : decode cX3_membersNeeded 18 = .ok (.iconst 0, 1) := by decide +kernel
theorem dX3_membersNeeded_19 : decode cX3_membersNeeded 19 = .ok (.ireturn, 1) := by decide +kernel
theorem dX3_membersNeeded_20 : decode cX3_membersNeeded 20 = .ok (.iconst 0, 1) := by decide +kernel
theorem dX3_membersNeeded_21 : decode cX3_membersNeeded 21 = .ok (.istore_n 2, 1) := by decide +kernel
theorem dX3_membersNeeded_22 : decode cX3_membersNeeded 22 = .ok (.iconst 0, 1) := by decide +kernel
theorem dX3_membersNeeded_23 : decode cX3_membersNeeded 23 = .ok (.istore_n 3, 1) := by decide +kernel
theorem dX3_membersNeeded_24 : decode cX3_membersNeeded 24 = .ok (.iload_n 3, 1) := by decide +kernel
theorem dX3_membersNeeded_25 : decode cX3_membersNeeded 25 = .ok (.aload_n 0, 1) := by decide +kernel
theorem dX3_membersNeeded_26 : decode cX3_membersNeeded 26 = .ok (.getfield 15, 3) := by decide +kernel
theorem dX3_membersNeeded_29 : decode cX3_membersNeeded 29 = .ok (.getfield 38, 3) := by decide +kernel
theorem dX3_membersNeeded_32 : decode cX3_membersNeeded 32 = .ok (.if_icmp .ge 37, 3) := by decide +kernel
theorem dX3_membersNeeded_35 : decode cX3_membersNeeded 35 = .ok (.aload_n 0, 1) := by decide +kernel
theorem dX3_membersNeeded_36 : decode cX3_membersNeeded 36 = .ok (.aload_n 0, 1) := by decide +kernel
theorem dX3_membersNeeded_37 : decode cX3_membersNeeded 37 = .ok (.getfield 15, 3) := by decide +kernel
theorem dX3_membersNeeded_40 : decode cX3_membersNeeded 40 = .ok (.getfield 31, 3) := by decide +kernel
theorem dX3_membersNeeded_43 : decode cX3_membersNeeded 43 = .ok (.iconst 1, 1) := by decide +kernel
theorem dX3_membersNeeded_44 : decode cX3_membersNeeded 44 = .ok (.iload_n 3, 1) := by decide +kernel
theorem dX3_membersNeeded_45 : decode cX3_membersNeeded 45 = .ok (.ishl, 1) := by decide +kernel
theorem dX3_membersNeeded_46 : decode cX3_membersNeeded 46 = .ok (.ior, 1) := by decide +kernel
theorem dX3_membersNeeded_47 : decode cX3_membersNeeded 47 = .ok (.invokevirtual 34, 3) := by decide +kernel
theorem dX3_membersNeeded_50 : decode cX3_membersNeeded 50 = .ok (.iload_n 1, 1) := by decide +kernel
theorem dX3_membersNeeded_51 : decode cX3_membersNeeded 51 = .ok (.ishr, 1) := by decide +kernel
theorem dX3_membersNeeded_52 : decode cX3_membersNeeded 52 = .ok (.iconst 1, 1) := by decide +kernel
theorem dX3_membersNeeded_53 : decode cX3_membersNeeded 53 = .ok (.iand, 1) := by decide +kernel
theorem dX3_membersNeeded_54 : decode cX3_membersNeeded 54 = .ok (.ifCond .ne 9, 3) := by decide +kernel
theorem dX3_membersNeeded_57 : decode cX3_membersNeeded 57 = .ok (.iload_n 2, 1) := by decide +kernel
theorem dX3_membersNeeded_58 : decode cX3_membersNeeded 58 = .ok (.iconst 1, 1) := by decide +kernel
theorem dX3_membersNeeded_59 : decode cX3_membersNeeded 59 = .ok (.iload_n 3, 1) := by decide +kernel
theorem dX3_membersNeeded_60 : decode cX3_membersNeeded 60 = .ok (.ishl, 1) := by decide +kernel
theorem dX3_membersNeeded_61 : decode cX3_membersNeeded 61 = .ok (.ior, 1) := by decide +kernel
theorem dX3_membersNeeded_62 : decode cX3_membersNeeded 62 = .ok (.istore_n 2, 1) := by decide +kernel
theorem dX3_membersNeeded_63 : decode cX3_membersNeeded 63 = .ok (.iinc 3 1, 3) := by decide +kernel
theorem dX3_membersNeeded_66 : decode cX3_membersNeeded 66 = .ok (.goto (-42), 3) := by decide +kernel
theorem dX3_membersNeeded_69 : decode cX3_membersNeeded 69 = .ok (.iload_n 2, 1) := by decide +kernel
theorem dX3_membersNeeded_70 : decode cX3_membersNeeded 70 = .ok (.ireturn, 1) := by decide +kernel
theorem dX3_seek_0 : decode cX3_seek 0 = .ok (.aload_n 0, 1) := by decide +kernel
theorem dX3_seek_1 : decode cX3_seek 1 = .ok (.getfield 9, 3) := by decide +kernel
theorem dX3_seek_4 : decode cX3_seek 4 = .ok (.ldc 30, 2) := by decide +kernel
theorem dX3_seek_6 : decode cX3_seek 6 = .ok (.invokestatic 41, 3) := by decide +kernel
theorem dX3_seek_9 : decode cX3_seek 9 = .ok (.iconst 1, 1) := by decide +kernel
theorem dX3_seek_10 : decode cX3_seek 10 = .ok (.istore_n 2, 1) := by decide +kernel
theorem dX3_seek_11 : decode cX3_seek 11 = .ok (.iconst 0, 1) := by decide +kernel
theorem dX3_seek_12 : decode cX3_seek 12 = .ok (.istore_n 3, 1) := by decide +kernel
theorem dX3_seek_13 : decode cX3_seek 13 = .ok (.iload_n 3, 1) := by decide +kernel
theorem dX3_seek_14 : decode cX3_seek 14 = .ok (.bipush 8, 2) := by decide +kernel
theorem dX3_seek_16 : decode cX3_seek 16 = .ok (.if_icmp .gt 78, 3) := by decide +kernel
theorem dX3_seek_19 : decode cX3_seek 19 = .ok (.iload_n 2, 1) := by decide +kernel
theorem dX3_seek_20 : decode cX3_seek 20 = .ok (.ifCond .eq 74, 3) := by decide +kernel
theorem dX3_seek_23 : decode cX3_seek 23 = .ok (.iconst 0, 1) := by decide +kernel
theorem dX3_seek_24 : decode cX3_seek 24 = .ok (.istore_n 2, 1) := by decide +kernel
theorem dX3_seek_25 : decode cX3_seek 25 = .ok (.iconst 0, 1) := by decide +kernel
theorem dX3_seek_26 : decode cX3_seek 26 = .ok (.istore 4, 2) := by decide +kernel
theorem dX3_seek_28 : decode cX3_seek 28 = .ok (.iload 4, 2) := by decide +kernel
theorem dX3_seek_30 : decode cX3_seek 30 = .ok (.aload_n 0, 1) := by decide +kernel
theorem dX3_seek_31 : decode cX3_seek 31 = .ok (.getfield 15, 3) := by decide +kernel
theorem dX3_seek_34 : decode cX3_seek 34 = .ok (.getfield 38, 3) := by decide +kernel
theorem dX3_seek_37 : decode cX3_seek 37 = .ok (.if_icmp .ge 51, 3) := by decide +kernel
theorem dX3_seek_40 : decode cX3_seek 40 = .ok (.iload_n 1, 1) := by decide +kernel
theorem dX3_seek_41 : decode cX3_seek 41 = .ok (.iload 4, 2) := by decide +kernel
theorem dX3_seek_43 : decode cX3_seek 43 = .ok (.ishr, 1) := by decide +kernel
theorem dX3_seek_44 : decode cX3_seek 44 = .ok (.iconst 1, 1) := by decide +kernel
theorem dX3_seek_45 : decode cX3_seek 45 = .ok (.iand, 1) := by decide +kernel
theorem dX3_seek_46 : decode cX3_seek 46 = .ok (.ifCond .ne 36, 3) := by decide +kernel
theorem dX3_seek_49 : decode cX3_seek 49 = .ok (.aload_n 0, 1) := by decide +kernel
theorem dX3_seek_50 : decode cX3_seek 50 = .ok (.aload_n 0, 1) := by decide +kernel
theorem dX3_seek_51 : decode cX3_seek 51 = .ok (.getfield 15, 3) := by decide +kernel
theorem dX3_seek_54 : decode cX3_seek 54 = .ok (.getfield 47, 3) := by decide +kernel
theorem dX3_seek_57 : decode cX3_seek 57 = .ok (.aload_n 0, 1) := by decide +kernel
theorem dX3_seek_58 : decode cX3_seek 58 = .ok (.getfield 15, 3) := by decide +kernel
theorem dX3_seek_61 : decode cX3_seek 61 = .ok (.getfield 50, 3) := by decide +kernel
theorem dX3_seek_64 : decode cX3_seek 64 = .ok (.iload 4, 2) := by decide +kernel
theorem dX3_seek_66 : decode cX3_seek 66 = .ok (.iaload, 1) := by decide +kernel
theorem dX3_seek_67 : decode cX3_seek 67 = .ok (.iaload, 1) := by decide +kernel
theorem dX3_seek_68 : decode cX3_seek 68 = .ok (.aload_n 0, 1) := by decide +kernel
theorem dX3_seek_69 : decode cX3_seek 69 = .ok (.iload 4, 2) := by decide +kernel
theorem dX3_seek_71 : decode cX3_seek 71 = .ok (.invokevirtual 53, 3) := by decide +kernel
theorem dX3_seek_74 : decode cX3_seek 74 = .ok (.invokevirtual 56, 3) := by decide +kernel
theorem dX3_seek_77 : decode cX3_seek 77 = .ok (.ifCond .eq 5, 3) := by decide +kernel
theorem dX3_seek_80 : decode cX3_seek 80 = .ok (.iconst 1, 1) := by decide +kernel
theorem dX3_seek_81 : decode cX3_seek 81 = .ok (.istore_n 2, 1) := by decide +kernel
theorem dX3_seek_82 : decode cX3_seek 82 = .ok (.iinc 4 1, 3) := by decide +kernel
theorem dX3_seek_85 : decode cX3_seek 85 = .ok (.goto (-57), 3) := by decide +kernel
theorem dX3_seek_88 : decode cX3_seek 88 = .ok (.iinc 3 1, 3) := by decide +kernel
theorem dX3_seek_91 : decode cX3_seek 91 = .ok (.goto (-78), 3) := by decide +kernel
theorem dX3_seek_94 : decode cX3_seek 94 = .ok (.return_, 1) := by decide +kernel
theorem dX3_leastWith_0 : decode cX3_leastWith 0 = .ok (.aload_n 0, 1) := by decide +kernel
theorem dX3_leastWith_1 : decode cX3_leastWith 1 = .ok (.getfield 15, 3) := by decide +kernel
theorem dX3_leastWith_4 : decode cX3_leastWith 4 = .ok (.iload_n 1, 1) := by decide +kernel
theorem dX3_leastWith_5 : decode cX3_leastWith 5 = .ok (.invokevirtual 60, 3) := by decide +kernel
theorem dX3_leastWith_8 : decode cX3_leastWith 8 = .ok (.istore_n 2, 1) := by decide +kernel
theorem dX3_leastWith_9 : decode cX3_leastWith 9 = .ok (.aload_n 0, 1) := by decide +kernel
theorem dX3_leastWith_10 : decode cX3_leastWith 10 = .ok (.getfield 15, 3) := by decide +kernel
theorem dX3_leastWith_13 : decode cX3_leastWith 13 = .ok (.getfield 63, 3) := by decide +kernel
theorem dX3_leastWith_16 : decode cX3_leastWith 16 = .ok (.iload_n 1, 1) := by decide +kernel
theorem dX3_leastWith_17 : decode cX3_leastWith 17 = .ok (.iaload, 1) := by decide +kernel
theorem dX3_leastWith_18 : decode cX3_leastWith 18 = .ok (.ifCond .le 20, 3) := by decide +kernel
theorem dX3_leastWith_21 : decode cX3_leastWith 21 = .ok (.iload_n 2, 1) := by decide +kernel
theorem dX3_leastWith_22 : decode cX3_leastWith 22 = .ok (.aload_n 0, 1) := by decide +kernel
theorem dX3_leastWith_23 : decode cX3_leastWith 23 = .ok (.getfield 9, 3) := by decide +kernel
theorem dX3_leastWith_26 : decode cX3_leastWith 26 = .ok (.aload_n 0, 1) := by decide +kernel
theorem dX3_leastWith_27 : decode cX3_leastWith 27 = .ok (.getfield 15, 3) := by decide +kernel
theorem dX3_leastWith_30 : decode cX3_leastWith 30 = .ok (.getfield 66, 3) := by decide +kernel
theorem dX3_leastWith_33 : decode cX3_leastWith 33 = .ok (.iload_n 1, 1) := by decide +kernel
theorem dX3_leastWith_34 : decode cX3_leastWith 34 = .ok (.iaload, 1) := by decide +kernel
theorem dX3_leastWith_35 : decode cX3_leastWith 35 = .ok (.iaload, 1) := by decide +kernel
theorem dX3_leastWith_36 : decode cX3_leastWith 36 = .ok (.iadd, 1) := by decide +kernel
theorem dX3_leastWith_37 : decode cX3_leastWith 37 = .ok (.istore_n 2, 1) := by decide +kernel
theorem dX3_leastWith_38 : decode cX3_leastWith 38 = .ok (.aload_n 0, 1) := by decide +kernel
theorem dX3_leastWith_39 : decode cX3_leastWith 39 = .ok (.getfield 15, 3) := by decide +kernel
theorem dX3_leastWith_42 : decode cX3_leastWith 42 = .ok (.getfield 63, 3) := by decide +kernel
theorem dX3_leastWith_45 : decode cX3_leastWith 45 = .ok (.iload_n 1, 1) := by decide +kernel
theorem dX3_leastWith_46 : decode cX3_leastWith 46 = .ok (.iaload, 1) := by decide +kernel
theorem dX3_leastWith_47 : decode cX3_leastWith 47 = .ok (.iconst 1, 1) := by decide +kernel
theorem dX3_leastWith_48 : decode cX3_leastWith 48 = .ok (.if_icmp .le 20, 3) := by decide +kernel
theorem dX3_leastWith_51 : decode cX3_leastWith 51 = .ok (.iload_n 2, 1) := by decide +kernel
theorem dX3_leastWith_52 : decode cX3_leastWith 52 = .ok (.aload_n 0, 1) := by decide +kernel
theorem dX3_leastWith_53 : decode cX3_leastWith 53 = .ok (.getfield 9, 3) := by decide +kernel
theorem dX3_leastWith_56 : decode cX3_leastWith 56 = .ok (.aload_n 0, 1) := by decide +kernel
theorem dX3_leastWith_57 : decode cX3_leastWith 57 = .ok (.getfield 15, 3) := by decide +kernel
theorem dX3_leastWith_60 : decode cX3_leastWith 60 = .ok (.getfield 69, 3) := by decide +kernel
theorem dX3_leastWith_63 : decode cX3_leastWith 63 = .ok (.iload_n 1, 1) := by decide +kernel
theorem dX3_leastWith_64 : decode cX3_leastWith 64 = .ok (.iaload, 1) := by decide +kernel
theorem dX3_leastWith_65 : decode cX3_leastWith 65 = .ok (.iaload, 1) := by decide +kernel
theorem dX3_leastWith_66 : decode cX3_leastWith 66 = .ok (.iadd, 1) := by decide +kernel
theorem dX3_leastWith_67 : decode cX3_leastWith 67 = .ok (.istore_n 2, 1) := by decide +kernel
theorem dX3_leastWith_68 : decode cX3_leastWith 68 = .ok (.iload_n 2, 1) := by decide +kernel
theorem dX3_leastWith_69 : decode cX3_leastWith 69 = .ok (.ireturn, 1) := by decide +kernel
theorem dX3_lower_0 : decode cX3_lower 0 = .ok (.iconst 0, 1) := by decide +kernel
theorem dX3_lower_1 : decode cX3_lower 1 = .ok (.istore_n 3, 1) := by decide +kernel
theorem dX3_lower_2 : decode cX3_lower 2 = .ok (.iconst 0, 1) := by decide +kernel
theorem dX3_lower_3 : decode cX3_lower 3 = .ok (.istore 4, 2) := by decide +kernel
theorem dX3_lower_5 : decode cX3_lower 5 = .ok (.iload 4, 2) := by decide +kernel
theorem dX3_lower_7 : decode cX3_lower 7 = .ok (.aload_n 0, 1) := by decide +kernel
theorem dX3_lower_8 : decode cX3_lower 8 = .ok (.getfield 15, 3) := by decide +kernel
theorem dX3_lower_11 : decode cX3_lower 11 = .ok (.getfield 24, 3) := by decide +kernel
theorem dX3_lower_14 : decode cX3_lower 14 = .ok (.if_icmp .ge 39, 3) := by decide +kernel
theorem dX3_lower_17 : decode cX3_lower 17 = .ok (.iload_n 1, 1) := by decide +kernel
theorem dX3_lower_18 : decode cX3_lower 18 = .ok (.iload 4, 2) := by decide +kernel
theorem dX3_lower_20 : decode cX3_lower 20 = .ok (.ishr, 1) := by decide +kernel
theorem dX3_lower_21 : decode cX3_lower 21 = .ok (.iconst 1, 1) := by decide +kernel
theorem dX3_lower_22 : decode cX3_lower 22 = .ok (.iand, 1) := by decide +kernel
theorem dX3_lower_23 : decode cX3_lower 23 = .ok (.ifCond .eq 24, 3) := by decide +kernel
theorem dX3_lower_26 : decode cX3_lower 26 = .ok (.iload_n 2, 1) := by decide +kernel
theorem dX3_lower_27 : decode cX3_lower 27 = .ok (.aload_n 0, 1) := by decide +kernel
theorem dX3_lower_28 : decode cX3_lower 28 = .ok (.getfield 9, 3) := by decide +kernel
theorem dX3_lower_31 : decode cX3_lower 31 = .ok (.iload 4, 2) := by decide +kernel
theorem dX3_lower_33 : decode cX3_lower 33 = .ok (.iaload, 1) := by decide +kernel
theorem dX3_lower_34 : decode cX3_lower 34 = .ok (.if_icmp .ge 13, 3) := by decide +kernel
theorem dX3_lower_37 : decode cX3_lower 37 = .ok (.aload_n 0, 1) := by decide +kernel
theorem dX3_lower_38 : decode cX3_lower 38 = .ok (.getfield 9, 3) := by decide +kernel
theorem dX3_lower_41 : decode cX3_lower 41 = .ok (.iload 4, 2) := by decide +kernel
theorem dX3_lower_43 : decode cX3_lower 43 = .ok (.iload_n 2, 1) := by decide +kernel
theorem dX3_lower_44 : decode cX3_lower 44 = .ok (.iastore, 1) := by decide +kernel
theorem dX3_lower_45 : decode cX3_lower 45 = .ok (.iconst 1, 1) := by decide +kernel
theorem dX3_lower_46 : decode cX3_lower 46 = .ok (.istore_n 3, 1) := by decide +kernel
theorem dX3_lower_47 : decode cX3_lower 47 = .ok (.iinc 4 1, 3) := by decide +kernel
theorem dX3_lower_50 : decode cX3_lower 50 = .ok (.goto (-45), 3) := by decide +kernel
theorem dX3_lower_53 : decode cX3_lower 53 = .ok (.iload_n 3, 1) := by decide +kernel
theorem dX3_lower_54 : decode cX3_lower 54 = .ok (.ireturn, 1) := by decide +kernel
theorem dX4_init_0 : decode cX4_init 0 = .ok (.aload_n 0, 1) := by decide +kernel
theorem dX4_init_1 : decode cX4_init 1 = .ok (.invokespecial 3, 3) := by decide +kernel
theorem dX4_init_4 : decode cX4_init 4 = .ok (.aload_n 0, 1) := by decide +kernel
theorem dX4_init_5 : decode cX4_init 5 = .ok (.sipush 140, 3) := by decide +kernel
theorem dX4_init_8 : decode cX4_init 8 = .ok (.newarray .int, 2) := by decide +kernel
theorem dX4_init_10 : decode cX4_init 10 = .ok (.putfield 11, 3) := by decide +kernel
theorem dX4_init_13 : decode cX4_init 13 = .ok (.aload_n 0, 1) := by decide +kernel
theorem dX4_init_14 : decode cX4_init 14 = .ok (.new 15, 3) := by decide +kernel
theorem dX4_init_17 : decode cX4_init 17 = .ok (.dup, 1) := by decide +kernel
theorem dX4_init_18 : decode cX4_init 18 = .ok (.invokespecial 17, 3) := by decide +kernel
theorem dX4_init_21 : decode cX4_init 21 = .ok (.putfield 18, 3) := by decide +kernel
theorem dX4_init_24 : decode cX4_init 24 = .ok (.return_, 1) := by decide +kernel
theorem dX4_isFull_0 : decode cX4_isFull 0 = .ok (.aload_n 0, 1) := by decide +kernel
theorem dX4_isFull_1 : decode cX4_isFull 1 = .ok (.getfield 22, 3) := by decide +kernel
theorem dX4_isFull_4 : decode cX4_isFull 4 = .ok (.sipush 140, 3) := by decide +kernel
theorem dX4_isFull_7 : decode cX4_isFull 7 = .ok (.if_icmp .lt 7, 3) := by decide +kernel
theorem dX4_isFull_10 : decode cX4_isFull 10 = .ok (.iconst 1, 1) := by decide +kernel
theorem dX4_isFull_11 : decode cX4_isFull 11 = .ok (.goto 4, 3) := by decide +kernel
theorem dX4_isFull_14 : decode cX4_isFull 14 = .ok (.iconst 0, 1) := by decide +kernel
theorem dX4_isFull_15 : decode cX4_isFull 15 = .ok (.ireturn, 1) := by decide +kernel
theorem dX4_append_0 : decode cX4_append 0 = .ok (.aload_n 0, 1) := by decide +kernel
theorem dX4_append_1 : decode cX4_append 1 = .ok (.getfield 11, 3) := by decide +kernel
theorem dX4_append_4 : decode cX4_append 4 = .ok (.aload_n 0, 1) := by decide +kernel
theorem dX4_append_5 : decode cX4_append 5 = .ok (.getfield 22, 3) := by decide +kernel
theorem dX4_append_8 : decode cX4_append 8 = .ok (.iload_n 1, 1) := by decide +kernel
theorem dX4_append_9 : decode cX4_append 9 = .ok (.iastore, 1) := by decide +kernel
theorem dX4_append_10 : decode cX4_append 10 = .ok (.aload_n 0, 1) := by decide +kernel
theorem dX4_append_11 : decode cX4_append 11 = .ok (.dup, 1) := by decide +kernel
theorem dX4_append_12 : decode cX4_append 12 = .ok (.getfield 22, 3) := by decide +kernel
theorem dX4_append_15 : decode cX4_append 15 = .ok (.iconst 1, 1) := by decide +kernel
theorem dX4_append_16 : decode cX4_append 16 = .ok (.iadd, 1) := by decide +kernel
theorem dX4_append_17 : decode cX4_append 17 = .ok (.putfield 22, 3) := by decide +kernel
theorem dX4_append_20 : decode cX4_append 20 = .ok (.aload_n 0, 1) := by decide +kernel
theorem dX4_append_21 : decode cX4_append 21 = .ok (.getfield 22, 3) := by decide +kernel
theorem dX4_append_24 : decode cX4_append 24 = .ok (.ireturn, 1) := by decide +kernel
theorem dX4_emptyTape_0 : decode cX4_emptyTape 0 = .ok (.aload_n 0, 1) := by decide +kernel
theorem dX4_emptyTape_1 : decode cX4_emptyTape 1 = .ok (.iconst 0, 1) := by decide +kernel
theorem dX4_emptyTape_2 : decode cX4_emptyTape 2 = .ok (.putfield 22, 3) := by decide +kernel
theorem dX4_emptyTape_5 : decode cX4_emptyTape 5 = .ok (.return_, 1) := by decide +kernel
theorem dX4_readTape_0 : decode cX4_readTape 0 = .ok (.aload_n 0, 1) := by decide +kernel
theorem dX4_readTape_1 : decode cX4_readTape 1 = .ok (.iconst 0, 1) := by decide +kernel
theorem dX4_readTape_2 : decode cX4_readTape 2 = .ok (.putfield 26, 3) := by decide +kernel
theorem dX4_readTape_5 : decode cX4_readTape 5 = .ok (.aload_n 0, 1) := by decide +kernel
theorem dX4_readTape_6 : decode cX4_readTape 6 = .ok (.iconst 0, 1) := by decide +kernel
theorem dX4_readTape_7 : decode cX4_readTape 7 = .ok (.putfield 29, 3) := by decide +kernel
theorem dX4_readTape_10 : decode cX4_readTape 10 = .ok (.aload_n 0, 1) := by decide +kernel
theorem dX4_readTape_11 : decode cX4_readTape 11 = .ok (.getfield 18, 3) := by decide +kernel
theorem dX4_readTape_14 : decode cX4_readTape 14 = .ok (.iconst 0, 1) := by decide +kernel
theorem dX4_readTape_15 : decode cX4_readTape 15 = .ok (.putfield 32, 3) := by decide +kernel
theorem dX4_readTape_18 : decode cX4_readTape 18 = .ok (.aload_n 0, 1) := by decide +kernel
theorem dX4_readTape_19 : decode cX4_readTape 19 = .ok (.getfield 18, 3) := by decide +kernel
theorem dX4_readTape_22 : decode cX4_readTape 22 = .ok (.iconst 0, 1) := by decide +kernel
theorem dX4_readTape_23 : decode cX4_readTape 23 = .ok (.putfield 35, 3) := by decide +kernel
theorem dX4_readTape_26 : decode cX4_readTape 26 = .ok (.aload_n 0, 1) := by decide +kernel
theorem dX4_readTape_27 : decode cX4_readTape 27 = .ok (.getfield 18, 3) := by decide +kernel
theorem dX4_readTape_30 : decode cX4_readTape 30 = .ok (.iconst 0, 1) := by decide +kernel
theorem dX4_readTape_31 : decode cX4_readTape 31 = .ok (.putfield 38, 3) := by decide +kernel
theorem dX4_readTape_34 : decode cX4_readTape 34 = .ok (.aload_n 0, 1) := by decide +kernel
theorem dX4_readTape_35 : decode cX4_readTape 35 = .ok (.invokevirtual 41, 3) := by decide +kernel
theorem dX4_readTape_38 : decode cX4_readTape 38 = .ok (.ifCond .eq 21, 3) := by decide +kernel
theorem dX4_readTape_41 : decode cX4_readTape 41 = .ok (.aload_n 0, 1) := by decide +kernel
theorem dX4_readTape_42 : decode cX4_readTape 42 = .ok (.invokevirtual 45, 3) := by decide +kernel
theorem dX4_readTape_45 : decode cX4_readTape 45 = .ok (.ifCond .eq 14, 3) := by decide +kernel
theorem dX4_readTape_48 : decode cX4_readTape 48 = .ok (.aload_n 0, 1) := by decide +kernel
theorem dX4_readTape_49 : decode cX4_readTape 49 = .ok (.invokevirtual 48, 3) := by decide +kernel
theorem dX4_readTape_52 : decode cX4_readTape 52 = .ok (.ifCond .eq 7, 3) := by decide +kernel
theorem dX4_readTape_55 : decode cX4_readTape 55 = .ok (.iconst 1, 1) := by decide +kernel
theorem dX4_readTape_56 : decode cX4_readTape 56 = .ok (.goto 4, 3) := by decide +kernel
theorem dX4_readTape_59 : decode cX4_readTape 59 = .ok (.iconst 0, 1) := by decide +kernel
theorem dX4_readTape_60 : decode cX4_readTape 60 = .ok (.ireturn, 1) := by decide +kernel
theorem dX4_readLaw_0 : decode cX4_readLaw 0 = .ok (.aload_n 0, 1) := by decide +kernel
theorem dX4_readLaw_1 : decode cX4_readLaw 1 = .ok (.bipush 119, 2) := by decide +kernel
theorem dX4_readLaw_3 : decode cX4_readLaw 3 = .ok (.invokevirtual 51, 3) := by decide +kernel
theorem dX4_readLaw_6 : decode cX4_readLaw 6 = .ok (.ifCond .ne 5, 3) := by decide +kernel
theorem dX4_readLaw_9 : decode cX4_readLaw 9 = .ok (.iconst 0, 1) := by decide +kernel
theorem dX4_readLaw_10 : decode cX4_readLaw 10 = .ok (.ireturn, 1) := by decide +kernel
theorem dX4_readLaw_11 : decode cX4_readLaw 11 = .ok (.aload_n 0, 1) := by decide +kernel
theorem dX4_readLaw_12 : decode cX4_readLaw 12 = .ok (.iconst 1, 1) := by decide +kernel
theorem dX4_readLaw_13 : decode cX4_readLaw 13 = .ok (.bipush 8, 2) := by decide +kernel
theorem dX4_readLaw_15 : decode cX4_readLaw 15 = .ok (.invokevirtual 55, 3) := by decide +kernel
theorem dX4_readLaw_18 : decode cX4_readLaw 18 = .ok (.istore_n 1, 1) := by decide +kernel
theorem dX4_readLaw_19 : decode cX4_readLaw 19 = .ok (.aload_n 0, 1) := by decide +kernel
theorem dX4_readLaw_20 : decode cX4_readLaw 20 = .ok (.getfield 18, 3) := by decide +kernel
theorem dX4_readLaw_23 : decode cX4_readLaw 23 = .ok (.iload_n 1, 1) := by decide +kernel
theorem dX4_readLaw_24 : decode cX4_readLaw 24 = .ok (.iconst 0, 1) := by decide +kernel
theorem dX4_readLaw_25 : decode cX4_readLaw 25 = .ok (.invokestatic 59, 3) := by decide +kernel
theorem dX4_readLaw_28 : decode cX4_readLaw 28 = .ok (.putfield 32, 3) := by decide +kernel
theorem dX4_readLaw_31 : decode cX4_readLaw 31 = .ok (.iload_n 1, 1) := by decide +kernel
theorem dX4_readLaw_32 : decode cX4_readLaw 32 = .ok (.ifCond .lt 16, 3) := by decide +kernel
theorem dX4_readLaw_35 : decode cX4_readLaw 35 = .ok (.aload_n 0, 1) := by decide +kernel
theorem dX4_readLaw_36 : decode cX4_readLaw 36 = .ok (.bipush 59, 2) := by decide +kernel
theorem dX4_readLaw_38 : decode cX4_readLaw 38 = .ok (.invokevirtual 51, 3) := by decide +kernel
theorem dX4_readLaw_41 : decode cX4_readLaw 41 = .ok (.ifCond .eq 7, 3) := by decide +kernel
theorem dX4_readLaw_44 : decode cX4_readLaw 44 = .ok (.iconst 1, 1) := by decide +kernel
theorem dX4_readLaw_45 : decode cX4_readLaw 45 = .ok (.goto 4, 3) := by decide +kernel
theorem dX4_readLaw_48 : decode cX4_readLaw 48 = .ok (.iconst 0, 1) := by decide +kernel
theorem dX4_readLaw_49 : decode cX4_readLaw 49 = .ok (.ireturn, 1) := by decide +kernel
theorem dX4_readTypes_0 : decode cX4_readTypes 0 = .ok (.iconst 0, 1) := by decide +kernel
theorem dX4_readTypes_1 : decode cX4_readTypes 1 = .ok (.istore_n 1, 1) := by decide +kernel
theorem dX4_readTypes_2 : decode cX4_readTypes 2 = .ok (.iload_n 1, 1) := by decide +kernel
theorem dX4_readTypes_3 : decode cX4_readTypes 3 = .ok (.aload_n 0, 1) := by decide +kernel
theorem dX4_readTypes_4 : decode cX4_readTypes 4 = .ok (.getfield 18, 3) := by decide +kernel
theorem dX4_readTypes_7 : decode cX4_readTypes 7 = .ok (.getfield 32, 3) := by decide +kernel
theorem dX4_readTypes_10 : decode cX4_readTypes 10 = .ok (.if_icmp .ge 52, 3) := by decide +kernel
theorem dX4_readTypes_13 : decode cX4_readTypes 13 = .ok (.aload_n 0, 1) := by decide +kernel
theorem dX4_readTypes_14 : decode cX4_readTypes 14 = .ok (.bipush 117, 2) := by decide +kernel
theorem dX4_readTypes_16 : decode cX4_readTypes 16 = .ok (.invokevirtual 51, 3) := by decide +kernel
theorem dX4_readTypes_19 : decode cX4_readTypes 19 = .ok (.ifCond .ne 5, 3) := by decide +kernel
theorem dX4_readTypes_22 : decode cX4_readTypes 22 = .ok (.iconst 0, 1) := by decide +kernel
theorem dX4_readTypes_23 : decode cX4_readTypes 23 = .ok (.ireturn, 1) := by decide +kernel
theorem dX4_readTypes_24 : decode cX4_readTypes 24 = .ok (.aload_n 0, 1) := by decide +kernel
theorem dX4_readTypes_25 : decode cX4_readTypes 25 = .ok (.iconst 0, 1) := by decide +kernel
theorem dX4_readTypes_26 : decode cX4_readTypes 26 = .ok (.iload_n 1, 1) := by decide +kernel
theorem dX4_readTypes_27 : decode cX4_readTypes 27 = .ok (.invokevirtual 55, 3) := by decide +kernel
theorem dX4_readTypes_30 : decode cX4_readTypes 30 = .ok (.istore_n 2, 1) := by decide +kernel
theorem dX4_readTypes_31 : decode cX4_readTypes 31 = .ok (.iload_n 2, 1) := by decide +kernel
theorem dX4_readTypes_32 : decode cX4_readTypes 32 = .ok (.ifCond .lt 12, 3) := by decide +kernel
theorem dX4_readTypes_35 : decode cX4_readTypes 35 = .ok (.aload_n 0, 1) := by decide +kernel
theorem dX4_readTypes_36 : decode cX4_readTypes 36 = .ok (.bipush 59, 2) := by decide +kernel
theorem dX4_readTypes_38 : decode cX4_readTypes 38 = .ok (.invokevirtual 51, 3) := by decide +kernel
theorem dX4_readTypes_41 : decode cX4_readTypes 41 = .ok (.ifCond .ne 5, 3) := by decide +kernel
theorem dX4_readTypes_44 : decode cX4_readTypes 44 = .ok (.iconst 0, 1) := by decide +kernel
theorem dX4_readTypes_45 : decode cX4_readTypes 45 = .ok (.ireturn, 1) := by decide +kernel
theorem dX4_readTypes_46 : decode cX4_readTypes 46 = .ok (.aload_n 0, 1) := by decide +kernel
theorem dX4_readTypes_47 : decode cX4_readTypes 47 = .ok (.getfield 18, 3) := by decide +kernel
theorem dX4_readTypes_50 : decode cX4_readTypes 50 = .ok (.getfield 64, 3) := by decide +kernel
theorem dX4_readTypes_53 : decode cX4_readTypes 53 = .ok (.iload_n 1, 1) := by decide +kernel
theorem dX4_readTypes_54 : decode cX4_readTypes 54 = .ok (.iload_n 2, 1) := by decide +kernel
theorem dX4_readTypes_55 : decode cX4_readTypes 55 = .ok (.iastore, 1) := by decide +kernel
theorem dX4_readTypes_56 : decode cX4_readTypes 56 = .ok (.iinc 1 1, 3) := by decide +kernel
theorem dX4_readTypes_59 : decode cX4_readTypes 59 = .ok (.goto (-57), 3) := by decide +kernel
theorem dX4_readTypes_62 : decode cX4_readTypes 62 = .ok (.aload_n 0, 1) := by decide +kernel
theorem dX4_readTypes_63 : decode cX4_readTypes 63 = .ok (.getfield 18, 3) := by decide +kernel
