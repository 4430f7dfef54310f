theorem dX9_layWays_152 : decode cX9_layWays 152 = .ok (.iinc 3 1, 3) := by decide +kernel
theorem dX9_layWays_155 : decode cX9_layWays 155 = .ok (.goto (-123), 3) := by decide +kernel
theorem dX9_layWays_158 : decode cX9_layWays 158 = .ok (.iinc 2 1, 3) := by decide +kernel
theorem dX9_layWays_161 : decode cX9_layWays 161 = .ok (.goto (-137), 3) := by decide +kernel
theorem dX9_layWays_164 : decode cX9_layWays 164 = .ok (.return_, 1) := by decide +kernel
theorem dX9_toldOf_0 : decode cX9_toldOf 0 = .ok (.lload_n 1, 1) := by decide +kernel
theorem dX9_toldOf_1 : decode cX9_toldOf 1 = .ok (.ldc2_w 173, 3) := by decide +kernel
theorem dX9_toldOf_4 : decode cX9_toldOf 4 = .ok (.lcmp, 1) := by decide +kernel
theorem dX9_toldOf_5 : decode cX9_toldOf 5 = .ok (.ifCond .le 8, 3) := by decide +kernel
theorem dX9_toldOf_8 : decode cX9_toldOf 8 = .ok (.ldc 175, 2) := by decide +kernel
theorem dX9_toldOf_10 : decode cX9_toldOf 10 = .ok (.goto 5, 3) := by decide +kernel
theorem dX9_toldOf_13 : decode cX9_toldOf 13 = .ok (.lload_n 1, 1) := by decide +kernel
theorem dX9_toldOf_14 : decode cX9_toldOf 14 = .ok (.l2i, 1) := by decide +kernel
theorem dX9_toldOf_15 : decode cX9_toldOf 15 = .ok (.ireturn, 1) := by decide +kernel
theorem dX9_many_0 : decode cX9_many 0 = .ok (.aload_n 0, 1) := by decide +kernel
theorem dX9_many_1 : decode cX9_many 1 = .ok (.iload_n 1, 1) := by decide +kernel
theorem dX9_many_2 : decode cX9_many 2 = .ok (.invokevirtual 143, 3) := by decide +kernel
theorem dX9_many_5 : decode cX9_many 5 = .ok (.ifCond .eq 15, 3) := by decide +kernel
theorem dX9_many_8 : decode cX9_many 8 = .ok (.iload_n 2, 1) := by decide +kernel
theorem dX9_many_9 : decode cX9_many 9 = .ok (.i2l, 1) := by decide +kernel
theorem dX9_many_10 : decode cX9_many 10 = .ok (.lconst 1, 1) := by decide +kernel
theorem dX9_many_11 : decode cX9_many 11 = .ok (.ldc2_w 176, 3) := by decide +kernel
theorem dX9_many_14 : decode cX9_many 14 = .ok (.invokestatic 48, 3) := by decide +kernel
theorem dX9_many_17 : decode cX9_many 17 = .ok (.ifCond .ne 6, 3) := by decide +kernel
theorem dX9_many_20 : decode cX9_many 20 = .ok (.ldc 65, 2) := by decide +kernel
theorem dX9_many_22 : decode cX9_many 22 = .ok (.ireturn, 1) := by decide +kernel
theorem dX9_many_23 : decode cX9_many 23 = .ok (.aload_n 0, 1) := by decide +kernel
theorem dX9_many_24 : decode cX9_many 24 = .ok (.aload_n 0, 1) := by decide +kernel
theorem dX9_many_25 : decode cX9_many 25 = .ok (.getfield 7, 3) := by decide +kernel
theorem dX9_many_28 : decode cX9_many 28 = .ok (.iconst 2, 1) := by decide +kernel
theorem dX9_many_29 : decode cX9_many 29 = .ok (.iaload, 1) := by decide +kernel
theorem dX9_many_30 : decode cX9_many 30 = .ok (.invokevirtual 178, 3) := by decide +kernel
theorem dX9_many_33 : decode cX9_many 33 = .ok (.aload_n 0, 1) := by decide +kernel
theorem dX9_many_34 : decode cX9_many 34 = .ok (.aload_n 0, 1) := by decide +kernel
theorem dX9_many_35 : decode cX9_many 35 = .ok (.getfield 28, 3) := by decide +kernel
theorem dX9_many_38 : decode cX9_many 38 = .ok (.bipush 25, 2) := by decide +kernel
theorem dX9_many_40 : decode cX9_many 40 = .ok (.iload_n 1, 1) := by decide +kernel
theorem dX9_many_41 : decode cX9_many 41 = .ok (.imul, 1) := by decide +kernel
theorem dX9_many_42 : decode cX9_many 42 = .ok (.iload_n 2, 1) := by decide +kernel
theorem dX9_many_43 : decode cX9_many 43 = .ok (.iadd, 1) := by decide +kernel
theorem dX9_many_44 : decode cX9_many 44 = .ok (.laload, 1) := by decide +kernel
theorem dX9_many_45 : decode cX9_many 45 = .ok (.invokevirtual 182, 3) := by decide +kernel
theorem dX9_many_48 : decode cX9_many 48 = .ok (.ireturn, 1) := by decide +kernel
theorem dX9_cheapestOf_0 : decode cX9_cheapestOf 0 = .ok (.iconst 1, 1) := by decide +kernel
theorem dX9_cheapestOf_1 : decode cX9_cheapestOf 1 = .ok (.istore_n 2, 1) := by decide +kernel
theorem dX9_cheapestOf_2 : decode cX9_cheapestOf 2 = .ok (.iload_n 2, 1) := by decide +kernel
theorem dX9_cheapestOf_3 : decode cX9_cheapestOf 3 = .ok (.bipush 24, 2) := by decide +kernel
theorem dX9_cheapestOf_5 : decode cX9_cheapestOf 5 = .ok (.if_icmp .gt 27, 3) := by decide +kernel
theorem dX9_cheapestOf_8 : decode cX9_cheapestOf 8 = .ok (.aload_n 0, 1) := by decide +kernel
theorem dX9_cheapestOf_9 : decode cX9_cheapestOf 9 = .ok (.getfield 28, 3) := by decide +kernel
theorem dX9_cheapestOf_12 : decode cX9_cheapestOf 12 = .ok (.bipush 25, 2) := by decide +kernel
theorem dX9_cheapestOf_14 : decode cX9_cheapestOf 14 = .ok (.iload_n 1, 1) := by decide +kernel
theorem dX9_cheapestOf_15 : decode cX9_cheapestOf 15 = .ok (.imul, 1) := by decide +kernel
theorem dX9_cheapestOf_16 : decode cX9_cheapestOf 16 = .ok (.iload_n 2, 1) := by decide +kernel
theorem dX9_cheapestOf_17 : decode cX9_cheapestOf 17 = .ok (.iadd, 1) := by decide +kernel
theorem dX9_cheapestOf_18 : decode cX9_cheapestOf 18 = .ok (.laload, 1) := by decide +kernel
theorem dX9_cheapestOf_19 : decode cX9_cheapestOf 19 = .ok (.lconst 0, 1) := by decide +kernel
theorem dX9_cheapestOf_20 : decode cX9_cheapestOf 20 = .ok (.lcmp, 1) := by decide +kernel
theorem dX9_cheapestOf_21 : decode cX9_cheapestOf 21 = .ok (.ifCond .le 5, 3) := by decide +kernel
theorem dX9_cheapestOf_24 : decode cX9_cheapestOf 24 = .ok (.iload_n 2, 1) := by decide +kernel
theorem dX9_cheapestOf_25 : decode cX9_cheapestOf 25 = .ok (.ireturn, 1) := by decide +kernel
theorem dX9_cheapestOf_26 : decode cX9_cheapestOf 26 = .ok (.iinc 2 1, 3) := by decide +kernel
theorem dX9_cheapestOf_29 : decode cX9_cheapestOf 29 = .ok (.goto (-27), 3) := by decide +kernel
theorem dX9_cheapestOf_32 : decode cX9_cheapestOf 32 = .ok (.ldc 149, 2) := by decide +kernel
theorem dX9_cheapestOf_34 : decode cX9_cheapestOf 34 = .ok (.ireturn, 1) := by decide +kernel
theorem dX9_cheapest_0 : decode cX9_cheapest 0 = .ok (.aload_n 0, 1) := by decide +kernel
theorem dX9_cheapest_1 : decode cX9_cheapest 1 = .ok (.iload_n 1, 1) := by decide +kernel
theorem dX9_cheapest_2 : decode cX9_cheapest 2 = .ok (.invokevirtual 143, 3) := by decide +kernel
theorem dX9_cheapest_5 : decode cX9_cheapest 5 = .ok (.ifCond .ne 6, 3) := by decide +kernel
theorem dX9_cheapest_8 : decode cX9_cheapest 8 = .ok (.ldc 65, 2) := by decide +kernel
theorem dX9_cheapest_10 : decode cX9_cheapest 10 = .ok (.ireturn, 1) := by decide +kernel
theorem dX9_cheapest_11 : decode cX9_cheapest 11 = .ok (.aload_n 0, 1) := by decide +kernel
theorem dX9_cheapest_12 : decode cX9_cheapest 12 = .ok (.aload_n 0, 1) := by decide +kernel
theorem dX9_cheapest_13 : decode cX9_cheapest 13 = .ok (.getfield 7, 3) := by decide +kernel
theorem dX9_cheapest_16 : decode cX9_cheapest 16 = .ok (.iconst 2, 1) := by decide +kernel
theorem dX9_cheapest_17 : decode cX9_cheapest 17 = .ok (.iaload, 1) := by decide +kernel
theorem dX9_cheapest_18 : decode cX9_cheapest 18 = .ok (.invokevirtual 178, 3) := by decide +kernel
theorem dX9_cheapest_21 : decode cX9_cheapest 21 = .ok (.aload_n 0, 1) := by decide +kernel
theorem dX9_cheapest_22 : decode cX9_cheapest 22 = .ok (.iload_n 1, 1) := by decide +kernel
theorem dX9_cheapest_23 : decode cX9_cheapest 23 = .ok (.invokevirtual 186, 3) := by decide +kernel
theorem dX9_cheapest_26 : decode cX9_cheapest 26 = .ok (.ireturn, 1) := by decide +kernel
theorem dX9_await0_0 : decode cX9_await0 0 = .ok (.aload_n 0, 1) := by decide +kernel
theorem dX9_await0_1 : decode cX9_await0 1 = .ok (.getfield 32, 3) := by decide +kernel
theorem dX9_await0_4 : decode cX9_await0 4 = .ok (.aload_n 0, 1) := by decide +kernel
theorem dX9_await0_5 : decode cX9_await0 5 = .ok (.getfield 189, 3) := by decide +kernel
theorem dX9_await0_8 : decode cX9_await0 8 = .ok (.iload_n 1, 1) := by decide +kernel
theorem dX9_await0_9 : decode cX9_await0 9 = .ok (.iastore, 1) := by decide +kernel
theorem dX9_await0_10 : decode cX9_await0 10 = .ok (.aload_n 0, 1) := by decide +kernel
theorem dX9_await0_11 : decode cX9_await0 11 = .ok (.dup, 1) := by decide +kernel
theorem dX9_await0_12 : decode cX9_await0 12 = .ok (.getfield 189, 3) := by decide +kernel
theorem dX9_await0_15 : decode cX9_await0 15 = .ok (.iconst 1, 1) := by decide +kernel
theorem dX9_await0_16 : decode cX9_await0 16 = .ok (.iadd, 1) := by decide +kernel
theorem dX9_await0_17 : decode cX9_await0 17 = .ok (.putfield 189, 3) := by decide +kernel
theorem dX9_await0_20 : decode cX9_await0 20 = .ok (.iconst 0, 1) := by decide +kernel
theorem dX9_await0_21 : decode cX9_await0 21 = .ok (.istore_n 2, 1) := by decide +kernel
theorem dX9_await0_22 : decode cX9_await0 22 = .ok (.iload_n 2, 1) := by decide +kernel
theorem dX9_await0_23 : decode cX9_await0 23 = .ok (.bipush 24, 2) := by decide +kernel
theorem dX9_await0_25 : decode cX9_await0 25 = .ok (.if_icmp .gt 82, 3) := by decide +kernel
theorem dX9_await0_28 : decode cX9_await0 28 = .ok (.lconst 0, 1) := by decide +kernel
theorem dX9_await0_29 : decode cX9_await0 29 = .ok (.lstore_n 3, 1) := by decide +kernel
theorem dX9_await0_30 : decode cX9_await0 30 = .ok (.iconst 1, 1) := by decide +kernel
theorem dX9_await0_31 : decode cX9_await0 31 = .ok (.istore 5, 2) := by decide +kernel
theorem dX9_await0_33 : decode cX9_await0 33 = .ok (.iload 5, 2) := by decide +kernel
theorem dX9_await0_35 : decode cX9_await0 35 = .ok (.iload_n 2, 1) := by decide +kernel
theorem dX9_await0_36 : decode cX9_await0 36 = .ok (.if_icmp .gt 50, 3) := by decide +kernel
theorem dX9_await0_39 : decode cX9_await0 39 = .ok (.lload_n 3, 1) := by decide +kernel
theorem dX9_await0_40 : decode cX9_await0 40 = .ok (.aload_n 0, 1) := by decide +kernel
theorem dX9_await0_41 : decode cX9_await0 41 = .ok (.getfield 28, 3) := by decide +kernel
theorem dX9_await0_44 : decode cX9_await0 44 = .ok (.bipush 25, 2) := by decide +kernel
theorem dX9_await0_46 : decode cX9_await0 46 = .ok (.iload_n 1, 1) := by decide +kernel
theorem dX9_await0_47 : decode cX9_await0 47 = .ok (.imul, 1) := by decide +kernel
theorem dX9_await0_48 : decode cX9_await0 48 = .ok (.iload 5, 2) := by decide +kernel
theorem dX9_await0_50 : decode cX9_await0 50 = .ok (.iadd, 1) := by decide +kernel
theorem dX9_await0_51 : decode cX9_await0 51 = .ok (.laload, 1) := by decide +kernel
theorem dX9_await0_52 : decode cX9_await0 52 = .ok (.aload_n 0, 1) := by decide +kernel
theorem dX9_await0_53 : decode cX9_await0 53 = .ok (.getfield 35, 3) := by decide +kernel
theorem dX9_await0_56 : decode cX9_await0 56 = .ok (.bipush 25, 2) := by decide +kernel
theorem dX9_await0_58 : decode cX9_await0 58 = .ok (.aload_n 0, 1) := by decide +kernel
theorem dX9_await0_59 : decode cX9_await0 59 = .ok (.getfield 189, 3) := by decide +kernel
theorem dX9_await0_62 : decode cX9_await0 62 = .ok (.iconst 1, 1) := by decide +kernel
theorem dX9_await0_63 : decode cX9_await0 63 = .ok (.isub, 1) := by decide +kernel
theorem dX9_await0_64 : decode cX9_await0 64 = .ok (.imul, 1) := by decide +kernel
theorem dX9_await0_65 : decode cX9_await0 65 = .ok (.iload_n 2, 1) := by decide +kernel
theorem dX9_await0_66 : decode cX9_await0 66 = .ok (.iadd, 1) := by decide +kernel
theorem dX9_await0_67 : decode cX9_await0 67 = .ok (.iload 5, 2) := by decide +kernel
theorem dX9_await0_69 : decode cX9_await0 69 = .ok (.isub, 1) := by decide +kernel
theorem dX9_await0_70 : decode cX9_await0 70 = .ok (.laload, 1) := by decide +kernel
theorem dX9_await0_71 : decode cX9_await0 71 = .ok (.lmul, 1) := by decide +kernel
theorem dX9_await0_72 : decode cX9_await0 72 = .ok (.invokestatic 162, 3) := by decide +kernel
theorem dX9_await0_75 : decode cX9_await0 75 = .ok (.ladd, 1) := by decide +kernel
theorem dX9_await0_76 : decode cX9_await0 76 = .ok (.invokestatic 162, 3) := by decide +kernel
theorem dX9_await0_79 : decode cX9_await0 79 = .ok (.lstore_n 3, 1) := by decide +kernel
theorem dX9_await0_80 : decode cX9_await0 80 = .ok (.iinc 5 1, 3) := by decide +kernel
theorem dX9_await0_83 : decode cX9_await0 83 = .ok (.goto (-50), 3) := by decide +kernel
theorem dX9_await0_86 : decode cX9_await0 86 = .ok (.aload_n 0, 1) := by decide +kernel
theorem dX9_await0_87 : decode cX9_await0 87 = .ok (.getfield 35, 3) := by decide +kernel
theorem dX9_await0_90 : decode cX9_await0 90 = .ok (.bipush 25, 2) := by decide +kernel
theorem dX9_await0_92 : decode cX9_await0 92 = .ok (.aload_n 0, 1) := by decide +kernel
theorem dX9_await0_93 : decode cX9_await0 93 = .ok (.getfield 189, 3) := by decide +kernel
theorem dX9_await0_96 : decode cX9_await0 96 = .ok (.imul, 1) := by decide +kernel
theorem dX9_await0_97 : decode cX9_await0 97 = .ok (.iload_n 2, 1) := by decide +kernel
theorem dX9_await0_98 : decode cX9_await0 98 = .ok (.iadd, 1) := by decide +kernel
theorem dX9_await0_99 : decode cX9_await0 99 = .ok (.lload_n 3, 1) := by decide +kernel
theorem dX9_await0_100 : decode cX9_await0 100 = .ok (.lastore, 1) := by decide +kernel
theorem dX9_await0_101 : decode cX9_await0 101 = .ok (.iinc 2 1, 3) := by decide +kernel
theorem dX9_await0_104 : decode cX9_await0 104 = .ok (.goto (-82), 3) := by decide +kernel
theorem dX9_await0_107 : decode cX9_await0 107 = .ok (.return_, 1) := by decide +kernel
theorem dX9_awaitsFirst_0 : decode cX9_awaitsFirst 0 = .ok (.aload_n 0, 1) := by decide +kernel
theorem dX9_awaitsFirst_1 : decode cX9_awaitsFirst 1 = .ok (.iconst 0, 1) := by decide +kernel
theorem dX9_awaitsFirst_2 : decode cX9_awaitsFirst 2 = .ok (.putfield 189, 3) := by decide +kernel
theorem dX9_awaitsFirst_5 : decode cX9_awaitsFirst 5 = .ok (.iconst 0, 1) := by decide +kernel
theorem dX9_awaitsFirst_6 : decode cX9_awaitsFirst 6 = .ok (.istore_n 2, 1) := by decide +kernel
theorem dX9_awaitsFirst_7 : decode cX9_awaitsFirst 7 = .ok (.iload_n 2, 1) := by decide +kernel
theorem dX9_awaitsFirst_8 : decode cX9_awaitsFirst 8 = .ok (.bipush 24, 2) := by decide +kernel
theorem dX9_awaitsFirst_10 : decode cX9_awaitsFirst 10 = .ok (.if_icmp .gt 24, 3) := by decide +kernel
theorem dX9_awaitsFirst_13 : decode cX9_awaitsFirst 13 = .ok (.aload_n 0, 1) := by decide +kernel
theorem dX9_awaitsFirst_14 : decode cX9_awaitsFirst 14 = .ok (.getfield 35, 3) := by decide +kernel
theorem dX9_awaitsFirst_17 : decode cX9_awaitsFirst 17 = .ok (.iload_n 2, 1) := by decide +kernel
theorem dX9_awaitsFirst_18 : decode cX9_awaitsFirst 18 = .ok (.iload_n 2, 1) := by decide +kernel
theorem dX9_awaitsFirst_19 : decode cX9_awaitsFirst 19 = .ok (.ifCond .ne 7, 3) := by decide +kernel
theorem dX9_awaitsFirst_22 : decode cX9_awaitsFirst 22 = .ok (.lconst 1, 1) := by decide +kernel
theorem dX9_awaitsFirst_23 : decode cX9_awaitsFirst 23 = .ok (.goto 4, 3) := by decide +kernel
theorem dX9_awaitsFirst_26 : decode cX9_awaitsFirst 26 = .ok (.lconst 0, 1) := by decide +kernel
theorem dX9_awaitsFirst_27 : decode cX9_awaitsFirst 27 = .ok (.lastore, 1) := by decide +kernel
theorem dX9_awaitsFirst_28 : decode cX9_awaitsFirst 28 = .ok (.iinc 2 1, 3) := by decide +kernel
theorem dX9_awaitsFirst_31 : decode cX9_awaitsFirst 31 = .ok (.goto (-24), 3) := by decide +kernel
theorem dX9_awaitsFirst_34 : decode cX9_awaitsFirst 34 = .ok (.aload_n 0, 1) := by decide +kernel
theorem dX9_awaitsFirst_35 : decode cX9_awaitsFirst 35 = .ok (.iload_n 1, 1) := by decide +kernel
theorem dX9_awaitsFirst_36 : decode cX9_awaitsFirst 36 = .ok (.invokevirtual 192, 3) := by decide +kernel
theorem dX9_awaitsFirst_39 : decode cX9_awaitsFirst 39 = .ok (.return_, 1) := by decide +kernel
theorem dX9_gives_0 : decode cX9_gives 0 = .ok (.aload_n 0, 1) := by decide +kernel
theorem dX9_gives_1 : decode cX9_gives 1 = .ok (.dup, 1) := by decide +kernel
theorem dX9_gives_2 : decode cX9_gives 2 = .ok (.getfield 189, 3) := by decide +kernel
theorem dX9_gives_5 : decode cX9_gives 5 = .ok (.iconst 1, 1) := by decide +kernel
theorem dX9_gives_6 : decode cX9_gives 6 = .ok (.isub, 1) := by decide +kernel
theorem dX9_gives_7 : decode cX9_gives 7 = .ok (.putfield 189, 3) := by decide +kernel
theorem dX9_gives_10 : decode cX9_gives 10 = .ok (.aload_n 0, 1) := by decide +kernel
theorem dX9_gives_11 : decode cX9_gives 11 = .ok (.getfield 7, 3) := by decide +kernel
theorem dX9_gives_14 : decode cX9_gives 14 = .ok (.bipush 47, 2) := by decide +kernel
theorem dX9_gives_16 : decode cX9_gives 16 = .ok (.iload_n 1, 1) := by decide +kernel
theorem dX9_gives_17 : decode cX9_gives 17 = .ok (.iadd, 1) := by decide +kernel
theorem dX9_gives_18 : decode cX9_gives 18 = .ok (.iaload, 1) := by decide +kernel
theorem dX9_gives_19 : decode cX9_gives 19 = .ok (.iconst 1, 1) := by decide +kernel
theorem dX9_gives_20 : decode cX9_gives 20 = .ok (.isub, 1) := by decide +kernel
theorem dX9_gives_21 : decode cX9_gives 21 = .ok (.istore_n 2, 1) := by decide +kernel
theorem dX9_gives_22 : decode cX9_gives 22 = .ok (.iload_n 2, 1) := by decide +kernel
theorem dX9_gives_23 : decode cX9_gives 23 = .ok (.ifCond .lt 27, 3) := by decide +kernel
theorem dX9_gives_26 : decode cX9_gives 26 = .ok (.aload_n 0, 1) := by decide +kernel
theorem dX9_gives_27 : decode cX9_gives 27 = .ok (.aload_n 0, 1) := by decide +kernel
theorem dX9_gives_28 : decode cX9_gives 28 = .ok (.getfield 7, 3) := by decide +kernel
theorem dX9_gives_31 : decode cX9_gives 31 = .ok (.bipush 59, 2) := by decide +kernel
theorem dX9_gives_33 : decode cX9_gives 33 = .ok (.bipush 12, 2) := by decide +kernel
theorem dX9_gives_35 : decode cX9_gives 35 = .ok (.iload_n 2, 1) := by decide +kernel
theorem dX9_gives_36 : decode cX9_gives 36 = .ok (.imul, 1) := by decide +kernel
theorem dX9_gives_37 : decode cX9_gives 37 = .ok (.iadd, 1) := by decide +kernel
theorem dX9_gives_38 : decode cX9_gives 38 = .ok (.iload_n 1, 1) := by decide +kernel
theorem dX9_gives_39 : decode cX9_gives 39 = .ok (.iadd, 1) := by decide +kernel
theorem dX9_gives_40 : decode cX9_gives 40 = .ok (.iaload, 1) := by decide +kernel
theorem dX9_gives_41 : decode cX9_gives 41 = .ok (.invokevirtual 192, 3) := by decide +kernel
theorem dX9_gives_44 : decode cX9_gives 44 = .ok (.iinc 2 (-1), 3) := by decide +kernel
theorem dX9_gives_47 : decode cX9_gives 47 = .ok (.goto (-25), 3) := by decide +kernel
theorem dX9_gives_50 : decode cX9_gives 50 = .ok (.return_, 1) := by decide +kernel
theorem dX9_goesOn_0 : decode cX9_goesOn 0 = .ok (.iload_n 2, 1) := by decide +kernel
theorem dX9_goesOn_1 : decode cX9_goesOn 1 = .ok (.aload_n 0, 1) := by decide +kernel
theorem dX9_goesOn_2 : decode cX9_goesOn 2 = .ok (.iload_n 1, 1) := by decide +kernel
theorem dX9_goesOn_3 : decode cX9_goesOn 3 = .ok (.invokevirtual 146, 3) := by decide +kernel
theorem dX9_goesOn_6 : decode cX9_goesOn 6 = .ok (.isub, 1) := by decide +kernel
theorem dX9_goesOn_7 : decode cX9_goesOn 7 = .ok (.istore_n 3, 1) := by decide +kernel
theorem dX9_goesOn_8 : decode cX9_goesOn 8 = .ok (.aload_n 0, 1) := by decide +kernel
theorem dX9_goesOn_9 : decode cX9_goesOn 9 = .ok (.getfield 32, 3) := by decide +kernel
theorem dX9_goesOn_12 : decode cX9_goesOn 12 = .ok (.aload_n 0, 1) := by decide +kernel
theorem dX9_goesOn_13 : decode cX9_goesOn 13 = .ok (.getfield 189, 3) := by decide +kernel
theorem dX9_goesOn_16 : decode cX9_goesOn 16 = .ok (.iconst 1, 1) := by decide +kernel
theorem dX9_goesOn_17 : decode cX9_goesOn 17 = .ok (.isub, 1) := by decide +kernel
theorem dX9_goesOn_18 : decode cX9_goesOn 18 = .ok (.iaload, 1) := by decide +kernel
theorem dX9_goesOn_19 : decode cX9_goesOn 19 = .ok (.istore 4, 2) := by decide +kernel
theorem dX9_goesOn_21 : decode cX9_goesOn 21 = .ok (.iload_n 3, 1) := by decide +kernel
theorem dX9_goesOn_22 : decode cX9_goesOn 22 = .ok (.ifCond .lt 34, 3) := by decide +kernel
theorem dX9_goesOn_25 : decode cX9_goesOn 25 = .ok (.aload_n 0, 1) := by decide +kernel
theorem dX9_goesOn_26 : decode cX9_goesOn 26 = .ok (.getfield 7, 3) := by decide +kernel
theorem dX9_goesOn_29 : decode cX9_goesOn 29 = .ok (.iconst 2, 1) := by decide +kernel
theorem dX9_goesOn_30 : decode cX9_goesOn 30 = .ok (.iaload, 1) := by decide +kernel
theorem dX9_goesOn_31 : decode cX9_goesOn 31 = .ok (.iload_n 1, 1) := by decide +kernel
theorem dX9_goesOn_32 : decode cX9_goesOn 32 = .ok (.invokestatic 166, 3) := by decide +kernel
theorem dX9_goesOn_35 : decode cX9_goesOn 35 = .ok (.ifCond .ne 21, 3) := by decide +kernel
theorem dX9_goesOn_38 : decode cX9_goesOn 38 = .ok (.aload_n 0, 1) := by decide +kernel
theorem dX9_goesOn_39 : decode cX9_goesOn 39 = .ok (.aload_n 0, 1) := by decide +kernel
theorem dX9_goesOn_40 : decode cX9_goesOn 40 = .ok (.getfield 7, 3) := by decide +kernel
theorem dX9_goesOn_43 : decode cX9_goesOn 43 = .ok (.bipush 23, 2) := by decide +kernel
theorem dX9_goesOn_45 : decode cX9_goesOn 45 = .ok (.iload_n 1, 1) := by decide +kernel
theorem dX9_goesOn_46 : decode cX9_goesOn 46 = .ok (.iadd, 1) := by decide +kernel
theorem dX9_goesOn_47 : decode cX9_goesOn 47 = .ok (.iaload, 1) := by decide +kernel
theorem dX9_goesOn_48 : decode cX9_goesOn 48 = .ok (.iload 4, 2) := by decide +kernel
theorem dX9_goesOn_50 : decode cX9_goesOn 50 = .ok (.invokevirtual 150, 3) := by decide +kernel
theorem dX9_goesOn_53 : decode cX9_goesOn 53 = .ok (.ifCond .ne 5, 3) := by decide +kernel
theorem dX9_goesOn_56 : decode cX9_goesOn 56 = .ok (.lconst 0, 1) := by decide +kernel
theorem dX9_goesOn_57 : decode cX9_goesOn 57 = .ok (.lreturn, 1) := by decide +kernel
theorem dX9_goesOn_58 : decode cX9_goesOn 58 = .ok (.aload_n 0, 1) := by decide +kernel
theorem dX9_goesOn_59 : decode cX9_goesOn 59 = .ok (.iload_n 1, 1) := by decide +kernel
theorem dX9_goesOn_60 : decode cX9_goesOn 60 = .ok (.invokevirtual 195, 3) := by decide +kernel
theorem dX9_goesOn_63 : decode cX9_goesOn 63 = .ok (.aload_n 0, 1) := by decide +kernel
theorem dX9_goesOn_64 : decode cX9_goesOn 64 = .ok (.getfield 35, 3) := by decide +kernel
theorem dX9_goesOn_67 : decode cX9_goesOn 67 = .ok (.bipush 25, 2) := by decide +kernel
theorem dX9_goesOn_69 : decode cX9_goesOn 69 = .ok (.aload_n 0, 1) := by decide +kernel
theorem dX9_goesOn_70 : decode cX9_goesOn 70 = .ok (.getfield 189, 3) := by decide +kernel
theorem dX9_goesOn_73 : decode cX9_goesOn 73 = .ok (.imul, 1) := by decide +kernel
theorem dX9_goesOn_74 : decode cX9_goesOn 74 = .ok (.iload_n 3, 1) := by decide +kernel
theorem dX9_goesOn_75 : decode cX9_goesOn 75 = .ok (.iadd, 1) := by decide +kernel
theorem dX9_goesOn_76 : decode cX9_goesOn 76 = .ok (.laload, 1) := by decide +kernel
theorem dX9_goesOn_77 : decode cX9_goesOn 77 = .ok (.lstore 5, 2) := by decide +kernel
theorem dX9_goesOn_79 : decode cX9_goesOn 79 = .ok (.aload_n 0, 1) := by decide +kernel
theorem dX9_goesOn_80 : decode cX9_goesOn 80 = .ok (.dup, 1) := by decide +kernel
theorem dX9_goesOn_81 : decode cX9_goesOn 81 = .ok (.getfield 189, 3) := by decide +kernel
theorem dX9_goesOn_84 : decode cX9_goesOn 84 = .ok (.aload_n 0, 1) := by decide +kernel
theorem dX9_goesOn_85 : decode cX9_goesOn 85 = .ok (.getfield 7, 3) := by decide +kernel
theorem dX9_goesOn_88 : decode cX9_goesOn 88 = .ok (.bipush 47, 2) := by decide +kernel
theorem dX9_goesOn_90 : decode cX9_goesOn 90 = .ok (.iload_n 1, 1) := by decide +kernel
theorem dX9_goesOn_91 : decode cX9_goesOn 91 = .ok (.iadd, 1) := by decide +kernel
theorem dX9_goesOn_92 : decode cX9_goesOn 92 = .ok (.iaload, 1) := by decide +kernel
theorem dX9_goesOn_93 : decode cX9_goesOn 93 = .ok (.isub, 1) := by decide +kernel
theorem dX9_goesOn_94 : decode cX9_goesOn 94 = .ok (.putfield 189, 3) := by decide +kernel
theorem dX9_goesOn_97 : decode cX9_goesOn 97 = .ok (.aload_n 0, 1) := by decide +kernel
theorem dX9_goesOn_98 : decode cX9_goesOn 98 = .ok (.iload 4, 2) := by decide +kernel
theorem dX9_goesOn_100 : decode cX9_goesOn 100 = .ok (.invokevirtual 192, 3) := by decide +kernel
theorem dX9_goesOn_103 : decode cX9_goesOn 103 = .ok (.lload 5, 2) := by decide +kernel
theorem dX9_goesOn_105 : decode cX9_goesOn 105 = .ok (.lreturn, 1) := by decide +kernel
theorem dX9_laysCode_0 : decode cX9_laysCode 0 = .ok (.iload_n 2, 1) := by decide +kernel
theorem dX9_laysCode_1 : decode cX9_laysCode 1 = .ok (.i2l, 1) := by decide +kernel
theorem dX9_laysCode_2 : decode cX9_laysCode 2 = .ok (.lstore_n 3, 1) := by decide +kernel
theorem dX9_laysCode_3 : decode cX9_laysCode 3 = .ok (.iconst 1, 1) := by decide +kernel
theorem dX9_laysCode_4 : decode cX9_laysCode 4 = .ok (.istore 5, 2) := by decide +kernel
theorem dX9_laysCode_6 : decode cX9_laysCode 6 = .ok (.iload 5, 2) := by decide +kernel
theorem dX9_laysCode_8 : decode cX9_laysCode 8 = .ok (.bipush 24, 2) := by decide +kernel
theorem dX9_laysCode_10 : decode cX9_laysCode 10 = .ok (.if_icmp .gt 41, 3) := by decide +kernel
theorem dX9_laysCode_13 : decode cX9_laysCode 13 = .ok (.lload_n 3, 1) := by decide +kernel
theorem dX9_laysCode_14 : decode cX9_laysCode 14 = .ok (.aload_n 0, 1) := by decide +kernel
theorem dX9_laysCode_15 : decode cX9_laysCode 15 = .ok (.getfield 28, 3) := by decide +kernel
theorem dX9_laysCode_18 : decode cX9_laysCode 18 = .ok (.bipush 25, 2) := by decide +kernel
theorem dX9_laysCode_20 : decode cX9_laysCode 20 = .ok (.iload_n 1, 1) := by decide +kernel
theorem dX9_laysCode_21 : decode cX9_laysCode 21 = .ok (.imul, 1) := by decide +kernel
theorem dX9_laysCode_22 : decode cX9_laysCode 22 = .ok (.iload 5, 2) := by decide +kernel
theorem dX9_laysCode_24 : decode cX9_laysCode 24 = .ok (.iadd, 1) := by decide +kernel
theorem dX9_laysCode_25 : decode cX9_laysCode 25 = .ok (.laload, 1) := by decide +kernel
theorem dX9_laysCode_26 : decode cX9_laysCode 26 = .ok (.lcmp, 1) := by decide +kernel
theorem dX9_laysCode_27 : decode cX9_laysCode 27 = .ok (.ifCond .lt 24, 3) := by decide +kernel
theorem dX9_laysCode_30 : decode cX9_laysCode 30 = .ok (.lload_n 3, 1) := by decide +kernel
theorem dX9_laysCode_31 : decode cX9_laysCode 31 = .ok (.aload_n 0, 1) := by decide +kernel
theorem dX9_laysCode_32 : decode cX9_laysCode 32 = .ok (.getfield 28, 3) := by decide +kernel
theorem dX9_laysCode_35 : decode cX9_laysCode 35 = .ok (.bipush 25, 2) := by decide +kernel
theorem dX9_laysCode_37 : decode cX9_laysCode 37 = .ok (.iload_n 1, 1) := by decide +kernel
theorem dX9_laysCode_38 : decode cX9_laysCode 38 = .ok (.imul, 1) := by decide +kernel
theorem dX9_laysCode_39 : decode cX9_laysCode 39 = .ok (.iload 5, 2) := by decide +kernel
theorem dX9_laysCode_41 : decode cX9_laysCode 41 = .ok (.iadd, 1) := by decide +kernel
theorem dX9_laysCode_42 : decode cX9_laysCode 42 = .ok (.laload, 1) := by decide +kernel
theorem dX9_laysCode_43 : decode cX9_laysCode 43 = .ok (.lsub, 1) := by decide +kernel
theorem dX9_laysCode_44 : decode cX9_laysCode 44 = .ok (.lstore_n 3, 1) := by decide +kernel
theorem dX9_laysCode_45 : decode cX9_laysCode 45 = .ok (.iinc 5 1, 3) := by decide +kernel
theorem dX9_laysCode_48 : decode cX9_laysCode 48 = .ok (.goto (-42), 3) := by decide +kernel
theorem dX9_laysCode_51 : decode cX9_laysCode 51 = .ok (.aload_n 0, 1) := by decide +kernel
theorem dX9_laysCode_52 : decode cX9_laysCode 52 = .ok (.iconst 0, 1) := by decide +kernel
theorem dX9_laysCode_53 : decode cX9_laysCode 53 = .ok (.putfield 198, 3) := by decide +kernel
theorem dX9_laysCode_56 : decode cX9_laysCode 56 = .ok (.aload_n 0, 1) := by decide +kernel
theorem dX9_laysCode_57 : decode cX9_laysCode 57 = .ok (.iload 5, 2) := by decide +kernel
theorem dX9_laysCode_59 : decode cX9_laysCode 59 = .ok (.putfield 201, 3) := by decide +kernel
theorem dX9_laysCode_62 : decode cX9_laysCode 62 = .ok (.iload 5, 2) := by decide +kernel
theorem dX9_laysCode_64 : decode cX9_laysCode 64 = .ok (.bipush 24, 2) := by decide +kernel
theorem dX9_laysCode_66 : decode cX9_laysCode 66 = .ok (.if_icmp .le 5, 3) := by decide +kernel
theorem dX9_laysCode_69 : decode cX9_laysCode 69 = .ok (.iconst 0, 1) := by decide +kernel
theorem dX9_laysCode_70 : decode cX9_laysCode 70 = .ok (.ireturn, 1) := by decide +kernel
theorem dX9_laysCode_71 : decode cX9_laysCode 71 = .ok (.aload_n 0, 1) := by decide +kernel
theorem dX9_laysCode_72 : decode cX9_laysCode 72 = .ok (.iload_n 1, 1) := by decide +kernel
theorem dX9_laysCode_73 : decode cX9_laysCode 73 = .ok (.invokevirtual 204, 3) := by decide +kernel
theorem dX9_laysCode_76 : decode cX9_laysCode 76 = .ok (.iload 5, 2) := by decide +kernel
theorem dX9_laysCode_78 : decode cX9_laysCode 78 = .ok (.istore 6, 2) := by decide +kernel
theorem dX9_laysCode_80 : decode cX9_laysCode 80 = .ok (.aload_n 0, 1) := by decide +kernel
theorem dX9_laysCode_81 : decode cX9_laysCode 81 = .ok (.getfield 189, 3) := by decide +kernel
theorem dX9_laysCode_84 : decode cX9_laysCode 84 = .ok (.ifCond .le 85, 3) := by decide +kernel
theorem dX9_laysCode_87 : decode cX9_laysCode 87 = .ok (.iconst 0, 1) := by decide +kernel
theorem dX9_laysCode_88 : decode cX9_laysCode 88 = .ok (.istore 7, 2) := by decide +kernel
theorem dX9_laysCode_90 : decode cX9_laysCode 90 = .ok (.aload_n 0, 1) := by decide +kernel
theorem dX9_laysCode_91 : decode cX9_laysCode 91 = .ok (.iload 7, 2) := by decide +kernel
theorem dX9_laysCode_93 : decode cX9_laysCode 93 = .ok (.iload 6, 2) := by decide +kernel
theorem dX9_laysCode_95 : decode cX9_laysCode 95 = .ok (.invokevirtual 207, 3) := by decide +kernel
theorem dX9_laysCode_98 : decode cX9_laysCode 98 = .ok (.lstore 8, 2) := by decide +kernel
theorem dX9_laysCode_100 : decode cX9_laysCode 100 = .ok (.lload_n 3, 1) := by decide +kernel
theorem dX9_laysCode_101 : decode cX9_laysCode 101 = .ok (.lload 8, 2) := by decide +kernel
theorem dX9_laysCode_103 : decode cX9_laysCode 103 = .ok (.lcmp, 1) := by decide +kernel
theorem dX9_laysCode_104 : decode cX9_laysCode 104 = .ok (.ifCond .lt 24, 3) := by decide +kernel
theorem dX9_laysCode_107 : decode cX9_laysCode 107 = .ok (.lload_n 3, 1) := by decide +kernel
theorem dX9_laysCode_108 : decode cX9_laysCode 108 = .ok (.lload 8, 2) := by decide +kernel
theorem dX9_laysCode_110 : decode cX9_laysCode 110 = .ok (.lsub, 1) := by decide +kernel
theorem dX9_laysCode_111 : decode cX9_laysCode 111 = .ok (.lstore_n 3, 1) := by decide +kernel
theorem dX9_laysCode_112 : decode cX9_laysCode 112 = .ok (.iinc 7 1, 3) := by decide +kernel
theorem dX9_laysCode_115 : decode cX9_laysCode 115 = .ok (.aload_n 0, 1) := by decide +kernel
theorem dX9_laysCode_116 : decode cX9_laysCode 116 = .ok (.iload 7, 2) := by decide +kernel
theorem dX9_laysCode_118 : decode cX9_laysCode 118 = .ok (.iload 6, 2) := by decide +kernel
theorem dX9_laysCode_120 : decode cX9_laysCode 120 = .ok (.invokevirtual 207, 3) := by decide +kernel
theorem dX9_laysCode_123 : decode cX9_laysCode 123 = .ok (.lstore 8, 2) := by decide +kernel
theorem dX9_laysCode_125 : decode cX9_laysCode 125 = .ok (.goto (-25), 3) := by decide +kernel
theorem dX9_laysCode_128 : decode cX9_laysCode 128 = .ok (.aload_n 0, 1) := by decide +kernel
theorem dX9_laysCode_129 : decode cX9_laysCode 129 = .ok (.getfield 38, 3) := by decide +kernel
theorem dX9_laysCode_132 : decode cX9_laysCode 132 = .ok (.aload_n 0, 1) := by decide +kernel
theorem dX9_laysCode_133 : decode cX9_laysCode 133 = .ok (.getfield 198, 3) := by decide +kernel
theorem dX9_laysCode_136 : decode cX9_laysCode 136 = .ok (.iload 7, 2) := by decide +kernel
theorem dX9_laysCode_138 : decode cX9_laysCode 138 = .ok (.iastore, 1) := by decide +kernel
theorem dX9_laysCode_139 : decode cX9_laysCode 139 = .ok (.aload_n 0, 1) := by decide +kernel
theorem dX9_laysCode_140 : decode cX9_laysCode 140 = .ok (.dup, 1) := by decide +kernel
theorem dX9_laysCode_141 : decode cX9_laysCode 141 = .ok (.getfield 198, 3) := by decide +kernel
theorem dX9_laysCode_144 : decode cX9_laysCode 144 = .ok (.iconst 1, 1) := by decide +kernel
theorem dX9_laysCode_145 : decode cX9_laysCode 145 = .ok (.iadd, 1) := by decide +kernel
theorem dX9_laysCode_146 : decode cX9_laysCode 146 = .ok (.putfield 198, 3) := by decide +kernel
theorem dX9_laysCode_149 : decode cX9_laysCode 149 = .ok (.iload 6, 2) := by decide +kernel
theorem dX9_laysCode_151 : decode cX9_laysCode 151 = .ok (.aload_n 0, 1) := by decide +kernel
theorem dX9_laysCode_152 : decode cX9_laysCode 152 = .ok (.iload 7, 2) := by decide +kernel
theorem dX9_laysCode_154 : decode cX9_laysCode 154 = .ok (.invokevirtual 146, 3) := by decide +kernel
theorem dX9_laysCode_157 : decode cX9_laysCode 157 = .ok (.isub, 1) := by decide +kernel
theorem dX9_laysCode_158 : decode cX9_laysCode 158 = .ok (.istore 6, 2) := by decide +kernel
theorem dX9_laysCode_160 : decode cX9_laysCode 160 = .ok (.aload_n 0, 1) := by decide +kernel
theorem dX9_laysCode_161 : decode cX9_laysCode 161 = .ok (.iload 7, 2) := by decide +kernel
theorem dX9_laysCode_163 : decode cX9_laysCode 163 = .ok (.invokevirtual 195, 3) := by decide +kernel
theorem dX9_laysCode_166 : decode cX9_laysCode 166 = .ok (.goto (-86), 3) := by decide +kernel
theorem dX9_laysCode_169 : decode cX9_laysCode 169 = .ok (.iconst 1, 1) := by decide +kernel
theorem dX9_laysCode_170 : decode cX9_laysCode 170 = .ok (.ireturn, 1) := by decide +kernel
theorem dX9_listed_0 : decode cX9_listed 0 = .ok (.aload_n 0, 1) := by decide +kernel
theorem dX9_listed_1 : decode cX9_listed 1 = .ok (.iload_n 1, 1) := by decide +kernel
theorem dX9_listed_2 : decode cX9_listed 2 = .ok (.invokevirtual 143, 3) := by decide +kernel
theorem dX9_listed_5 : decode cX9_listed 5 = .ok (.ifCond .eq 20, 3) := by decide +kernel
theorem dX9_listed_8 : decode cX9_listed 8 = .ok (.iload_n 2, 1) := by decide +kernel
theorem dX9_listed_9 : decode cX9_listed 9 = .ok (.i2l, 1) := by decide +kernel
theorem dX9_listed_10 : decode cX9_listed 10 = .ok (.lconst 0, 1) := by decide +kernel
theorem dX9_listed_11 : decode cX9_listed 11 = .ok (.ldc2_w 210, 3) := by decide +kernel
theorem dX9_listed_14 : decode cX9_listed 14 = .ok (.invokestatic 48, 3) := by decide +kernel
theorem dX9_listed_17 : decode cX9_listed 17 = .ok (.ifCond .eq 8, 3) := by decide +kernel
theorem dX9_listed_20 : decode cX9_listed 20 = .ok (.iload_n 3, 1) := by decide +kernel
theorem dX9_listed_21 : decode cX9_listed 21 = .ok (.iconst (-1), 1) := by decide +kernel
theorem dX9_listed_22 : decode cX9_listed 22 = .ok (.if_icmp .ge 6, 3) := by decide +kernel
theorem dX9_listed_25 : decode cX9_listed 25 = .ok (.ldc 65, 2) := by decide +kernel
theorem dX9_listed_27 : decode cX9_listed 27 = .ok (.ireturn, 1) := by decide +kernel
theorem dX9_listed_28 : decode cX9_listed 28 = .ok (.aload_n 0, 1) := by decide +kernel
theorem dX9_listed_29 : decode cX9_listed 29 = .ok (.aload_n 0, 1) := by decide +kernel
theorem dX9_listed_30 : decode cX9_listed 30 = .ok (.getfield 7, 3) := by decide +kernel
theorem dX9_listed_33 : decode cX9_listed 33 = .ok (.iconst 2, 1) := by decide +kernel
theorem dX9_listed_34 : decode cX9_listed 34 = .ok (.iaload, 1) := by decide +kernel
theorem dX9_listed_35 : decode cX9_listed 35 = .ok (.invokevirtual 178, 3) := by decide +kernel
theorem dX9_listed_38 : decode cX9_listed 38 = .ok (.aload_n 0, 1) := by decide +kernel
theorem dX9_listed_39 : decode cX9_listed 39 = .ok (.iload_n 1, 1) := by decide +kernel
theorem dX9_listed_40 : decode cX9_listed 40 = .ok (.iload_n 2, 1) := by decide +kernel
theorem dX9_listed_41 : decode cX9_listed 41 = .ok (.invokevirtual 212, 3) := by decide +kernel
theorem dX9_listed_44 : decode cX9_listed 44 = .ok (.ifCond .ne 6, 3) := by decide +kernel
theorem dX9_listed_47 : decode cX9_listed 47 = .ok (.ldc 149, 2) := by decide +kernel
theorem dX9_listed_49 : decode cX9_listed 49 = .ok (.ireturn, 1) := by decide +kernel
theorem dX9_listed_50 : decode cX9_listed 50 = .ok (.iload_n 3, 1) := by decide +kernel
theorem dX9_listed_51 : decode cX9_listed 51 = .ok (.iconst (-1), 1) := by decide +kernel
theorem dX9_listed_52 : decode cX9_listed 52 = .ok (.if_icmp .ne 10, 3) := by decide +kernel
theorem dX9_listed_55 : decode cX9_listed 55 = .ok (.aload_n 0, 1) := by decide +kernel
theorem dX9_listed_56 : decode cX9_listed 56 = .ok (.getfield 201, 3) := by decide +kernel
theorem dX9_listed_59 : decode cX9_listed 59 = .ok (.goto 22, 3) := by decide +kernel
theorem dX9_listed_62 : decode cX9_listed 62 = .ok (.iload_n 3, 1) := by decide +kernel
theorem dX9_listed_63 : decode cX9_listed 63 = .ok (.aload_n 0, 1) := by decide +kernel
theorem dX9_listed_64 : decode cX9_listed 64 = .ok (.getfield 198, 3) := by decide +kernel
theorem dX9_listed_67 : decode cX9_listed 67 = .ok (.if_icmp .ge 12, 3) := by decide +kernel
theorem dX9_listed_70 : decode cX9_listed 70 = .ok (.aload_n 0, 1) := by decide +kernel
theorem dX9_listed_71 : decode cX9_listed 71 = .ok (.getfield 38, 3) := by decide +kernel
theorem dX9_listed_74 : decode cX9_listed 74 = .ok (.iload_n 3, 1) := by decide +kernel
theorem dX9_listed_75 : decode cX9_listed 75 = .ok (.iaload, 1) := by decide +kernel
theorem dX9_listed_76 : decode cX9_listed 76 = .ok (.goto 5, 3) := by decide +kernel
theorem dX9_listed_79 : decode cX9_listed 79 = .ok (.ldc 149, 2) := by decide +kernel
theorem dX9_listed_81 : decode cX9_listed 81 = .ok (.ireturn, 1) := by decide +kernel
theorem dX9_isWhole_0 : decode cX9_isWhole 0 = .ok (.iconst 0, 1) := by decide +kernel
theorem dX9_isWhole_1 : decode cX9_isWhole 1 = .ok (.istore_n 3, 1) := by decide +kernel
theorem dX9_isWhole_2 : decode cX9_isWhole 2 = .ok (.iconst 1, 1) := by decide +kernel
theorem dX9_isWhole_3 : decode cX9_isWhole 3 = .ok (.istore 4, 2) := by decide +kernel
theorem dX9_isWhole_5 : decode cX9_isWhole 5 = .ok (.aload_n 0, 1) := by decide +kernel
theorem dX9_isWhole_6 : decode cX9_isWhole 6 = .ok (.iconst 0, 1) := by decide +kernel
theorem dX9_isWhole_7 : decode cX9_isWhole 7 = .ok (.putfield 201, 3) := by decide +kernel
theorem dX9_isWhole_10 : decode cX9_isWhole 10 = .ok (.iconst 0, 1) := by decide +kernel
theorem dX9_isWhole_11 : decode cX9_isWhole 11 = .ok (.istore 5, 2) := by decide +kernel
theorem dX9_isWhole_13 : decode cX9_isWhole 13 = .ok (.iload 5, 2) := by decide +kernel
theorem dX9_isWhole_15 : decode cX9_isWhole 15 = .ok (.iload_n 2, 1) := by decide +kernel
theorem dX9_isWhole_16 : decode cX9_isWhole 16 = .ok (.if_icmp .ge 172, 3) := by decide +kernel
theorem dX9_isWhole_19 : decode cX9_isWhole 19 = .ok (.iload 4, 2) := by decide +kernel
theorem dX9_isWhole_21 : decode cX9_isWhole 21 = .ok (.ifCond .eq 167, 3) := by decide +kernel
theorem dX9_isWhole_24 : decode cX9_isWhole 24 = .ok (.aload_n 0, 1) := by decide +kernel
theorem dX9_isWhole_25 : decode cX9_isWhole 25 = .ok (.getfield 22, 3) := by decide +kernel
theorem dX9_isWhole_28 : decode cX9_isWhole 28 = .ok (.iload_n 1, 1) := by decide +kernel
theorem dX9_isWhole_29 : decode cX9_isWhole 29 = .ok (.iload 5, 2) := by decide +kernel
theorem dX9_isWhole_31 : decode cX9_isWhole 31 = .ok (.iadd, 1) := by decide +kernel
theorem dX9_isWhole_32 : decode cX9_isWhole 32 = .ok (.iaload, 1) := by decide +kernel
theorem dX9_isWhole_33 : decode cX9_isWhole 33 = .ok (.istore 6, 2) := by decide +kernel
theorem dX9_isWhole_35 : decode cX9_isWhole 35 = .ok (.aload_n 0, 1) := by decide +kernel
theorem dX9_isWhole_36 : decode cX9_isWhole 36 = .ok (.iload 6, 2) := by decide +kernel
theorem dX9_isWhole_38 : decode cX9_isWhole 38 = .ok (.invokevirtual 134, 3) := by decide +kernel
theorem dX9_isWhole_41 : decode cX9_isWhole 41 = .ok (.ifCond .eq 55, 3) := by decide +kernel
theorem dX9_isWhole_44 : decode cX9_isWhole 44 = .ok (.aload_n 0, 1) := by decide +kernel
theorem dX9_isWhole_45 : decode cX9_isWhole 45 = .ok (.getfield 7, 3) := by decide +kernel
theorem dX9_isWhole_48 : decode cX9_isWhole 48 = .ok (.iconst 2, 1) := by decide +kernel
theorem dX9_isWhole_49 : decode cX9_isWhole 49 = .ok (.iaload, 1) := by decide +kernel
theorem dX9_isWhole_50 : decode cX9_isWhole 50 = .ok (.iload 6, 2) := by decide +kernel
theorem dX9_isWhole_52 : decode cX9_isWhole 52 = .ok (.invokestatic 166, 3) := by decide +kernel
theorem dX9_isWhole_55 : decode cX9_isWhole 55 = .ok (.ifCond .ne 41, 3) := by decide +kernel
theorem dX9_isWhole_58 : decode cX9_isWhole 58 = .ok (.iload 5, 2) := by decide +kernel
theorem dX9_isWhole_60 : decode cX9_isWhole 60 = .ok (.ifCond .eq 32, 3) := by decide +kernel
theorem dX9_isWhole_63 : decode cX9_isWhole 63 = .ok (.iload_n 3, 1) := by decide +kernel
theorem dX9_isWhole_64 : decode cX9_isWhole 64 = .ok (.ifCond .le 32, 3) := by decide +kernel
theorem dX9_isWhole_67 : decode cX9_isWhole 67 = .ok (.aload_n 0, 1) := by decide +kernel
theorem dX9_isWhole_68 : decode cX9_isWhole 68 = .ok (.aload_n 0, 1) := by decide +kernel
theorem dX9_isWhole_69 : decode cX9_isWhole 69 = .ok (.getfield 7, 3) := by decide +kernel
theorem dX9_isWhole_72 : decode cX9_isWhole 72 = .ok (.bipush 23, 2) := by decide +kernel
theorem dX9_isWhole_74 : decode cX9_isWhole 74 = .ok (.iload 6, 2) := by decide +kernel
theorem dX9_isWhole_76 : decode cX9_isWhole 76 = .ok (.iadd, 1) := by decide +kernel
theorem dX9_isWhole_77 : decode cX9_isWhole 77 = .ok (.iaload, 1) := by decide +kernel
theorem dX9_isWhole_78 : decode cX9_isWhole 78 = .ok (.aload_n 0, 1) := by decide +kernel
theorem dX9_isWhole_79 : decode cX9_isWhole 79 = .ok (.getfield 32, 3) := by decide +kernel
theorem dX9_isWhole_82 : decode cX9_isWhole 82 = .ok (.iload_n 3, 1) := by decide +kernel
theorem dX9_isWhole_83 : decode cX9_isWhole 83 = .ok (.iconst 1, 1) := by decide +kernel
theorem dX9_isWhole_84 : decode cX9_isWhole 84 = .ok (.isub, 1) := by decide +kernel
theorem dX9_isWhole_85 : decode cX9_isWhole 85 = .ok (.iaload, 1) := by decide +kernel
theorem dX9_isWhole_86 : decode cX9_isWhole 86 = .ok (.invokevirtual 150, 3) := by decide +kernel
theorem dX9_isWhole_89 : decode cX9_isWhole 89 = .ok (.ifCond .eq 7, 3) := by decide +kernel
theorem dX9_isWhole_92 : decode cX9_isWhole 92 = .ok (.iconst 1, 1) := by decide +kernel
theorem dX9_isWhole_93 : decode cX9_isWhole 93 = .ok (.goto 4, 3) := by decide +kernel
theorem dX9_isWhole_96 : decode cX9_isWhole 96 = .ok (.iconst 0, 1) := by decide +kernel
theorem dX9_isWhole_97 : decode cX9_isWhole 97 = .ok (.istore 4, 2) := by decide +kernel
theorem dX9_isWhole_99 : decode cX9_isWhole 99 = .ok (.iload 4, 2) := by decide +kernel
theorem dX9_isWhole_101 : decode cX9_isWhole 101 = .ok (.ifCond .eq 81, 3) := by decide +kernel
theorem dX9_isWhole_104 : decode cX9_isWhole 104 = .ok (.iload_n 3, 1) := by decide +kernel
theorem dX9_isWhole_105 : decode cX9_isWhole 105 = .ok (.iload 5, 2) := by decide +kernel
theorem dX9_isWhole_107 : decode cX9_isWhole 107 = .ok (.ifCond .ne 7, 3) := by decide +kernel
theorem dX9_isWhole_110 : decode cX9_isWhole 110 = .ok (.iconst 0, 1) := by decide +kernel
theorem dX9_isWhole_111 : decode cX9_isWhole 111 = .ok (.goto 4, 3) := by decide +kernel
theorem dX9_isWhole_114 : decode cX9_isWhole 114 = .ok (.iconst 1, 1) := by decide +kernel
theorem dX9_isWhole_115 : decode cX9_isWhole 115 = .ok (.isub, 1) := by decide +kernel
theorem dX9_isWhole_116 : decode cX9_isWhole 116 = .ok (.istore_n 3, 1) := by decide +kernel
theorem dX9_isWhole_117 : decode cX9_isWhole 117 = .ok (.aload_n 0, 1) := by decide +kernel
theorem dX9_isWhole_118 : decode cX9_isWhole 118 = .ok (.dup, 1) := by decide +kernel
theorem dX9_isWhole_119 : decode cX9_isWhole 119 = .ok (.getfield 201, 3) := by decide +kernel
theorem dX9_isWhole_122 : decode cX9_isWhole 122 = .ok (.aload_n 0, 1) := by decide +kernel
theorem dX9_isWhole_123 : decode cX9_isWhole 123 = .ok (.iload 6, 2) := by decide +kernel
theorem dX9_isWhole_125 : decode cX9_isWhole 125 = .ok (.invokevirtual 146, 3) := by decide +kernel
theorem dX9_isWhole_128 : decode cX9_isWhole 128 = .ok (.iadd, 1) := by decide +kernel
theorem dX9_isWhole_129 : decode cX9_isWhole 129 = .ok (.putfield 201, 3) := by decide +kernel
theorem dX9_isWhole_132 : decode cX9_isWhole 132 = .ok (.aload_n 0, 1) := by decide +kernel
theorem dX9_isWhole_133 : decode cX9_isWhole 133 = .ok (.getfield 7, 3) := by decide +kernel
theorem dX9_isWhole_136 : decode cX9_isWhole 136 = .ok (.bipush 47, 2) := by decide +kernel
theorem dX9_isWhole_138 : decode cX9_isWhole 138 = .ok (.iload 6, 2) := by decide +kernel
theorem dX9_isWhole_140 : decode cX9_isWhole 140 = .ok (.iadd, 1) := by decide +kernel
theorem dX9_isWhole_141 : decode cX9_isWhole 141 = .ok (.iaload, 1) := by decide +kernel
theorem dX9_isWhole_142 : decode cX9_isWhole 142 = .ok (.iconst 1, 1) := by decide +kernel
theorem dX9_isWhole_143 : decode cX9_isWhole 143 = .ok (.isub, 1) := by decide +kernel
theorem dX9_isWhole_144 : decode cX9_isWhole 144 = .ok (.istore 7, 2) := by decide +kernel
theorem dX9_isWhole_146 : decode cX9_isWhole 146 = .ok (.iload 7, 2) := by decide +kernel
theorem dX9_isWhole_148 : decode cX9_isWhole 148 = .ok (.ifCond .lt 34, 3) := by decide +kernel
theorem dX9_isWhole_151 : decode cX9_isWhole 151 = .ok (.aload_n 0, 1) := by decide +kernel
theorem dX9_isWhole_152 : decode cX9_isWhole 152 = .ok (.getfield 32, 3) := by decide +kernel
theorem dX9_isWhole_155 : decode cX9_isWhole 155 = .ok (.iload_n 3, 1) := by decide +kernel
theorem dX9_isWhole_156 : decode cX9_isWhole 156 = .ok (.aload_n 0, 1) := by decide +kernel
theorem dX9_isWhole_157 : decode cX9_isWhole 157 = .ok (.getfield 7, 3) := by decide +kernel
theorem dX9_isWhole_160 : decode cX9_isWhole 160 = .ok (.bipush 59, 2) := by decide +kernel
theorem dX9_isWhole_162 : decode cX9_isWhole 162 = .ok (.bipush 12, 2) := by decide +kernel
theorem dX9_isWhole_164 : decode cX9_isWhole 164 = .ok (.iload 7, 2) := by decide +kernel
theorem dX9_isWhole_166 : decode cX9_isWhole 166 = .ok (.imul, 1) := by decide +kernel
theorem dX9_isWhole_167 : decode cX9_isWhole 167 = .ok (.iadd, 1) := by decide +kernel
theorem dX9_isWhole_168 : decode cX9_isWhole 168 = .ok (.iload 6, 2) := by decide +kernel
theorem dX9_isWhole_170 : decode cX9_isWhole 170 = .ok (.iadd, 1) := by decide +kernel
theorem dX9_isWhole_171 : decode cX9_isWhole 171 = .ok (.iaload, 1) := by decide +kernel
theorem dX9_isWhole_172 : decode cX9_isWhole 172 = .ok (.iastore, 1) := by decide +kernel
theorem dX9_isWhole_173 : decode cX9_isWhole 173 = .ok (.iinc 3 1, 3) := by decide +kernel
theorem dX9_isWhole_176 : decode cX9_isWhole 176 = .ok (.iinc 7 (-1), 3) := by decide +kernel
theorem dX9_isWhole_179 : decode cX9_isWhole 179 = .ok (.goto (-33), 3) := by decide +kernel
theorem dX9_isWhole_182 : decode cX9_isWhole 182 = .ok (.iinc 5 1, 3) := by decide +kernel
theorem dX9_isWhole_185 : decode cX9_isWhole 185 = .ok (.goto (-172), 3) := by decide +kernel
theorem dX9_isWhole_188 : decode cX9_isWhole 188 = .ok (.iload 4, 2) := by decide +kernel
theorem dX9_isWhole_190 : decode cX9_isWhole 190 = .ok (.ifCond .eq 11, 3) := by decide +kernel
theorem dX9_isWhole_193 : decode cX9_isWhole 193 = .ok (.iload_n 3, 1) := by decide +kernel
theorem dX9_isWhole_194 : decode cX9_isWhole 194 = .ok (.ifCond .ne 7, 3) := by decide +kernel
theorem dX9_isWhole_197 : decode cX9_isWhole 197 = .ok (.iconst 1, 1) := by decide +kernel
theorem dX9_isWhole_198 : decode cX9_isWhole 198 = .ok (.goto 4, 3) := by decide +kernel
theorem dX9_isWhole_201 : decode cX9_isWhole 201 = .ok (.iconst 0, 1) := by decide +kernel
theorem dX9_isWhole_202 : decode cX9_isWhole 202 = .ok (.ireturn, 1) := by decide +kernel
theorem dX9_word_0 : decode cX9_word 0 = .ok (.iload_n 1, 1) := by decide +kernel
theorem dX9_word_1 : decode cX9_word 1 = .ok (.invokestatic 59, 3) := by decide +kernel
theorem dX9_word_4 : decode cX9_word 4 = .ok (.ifCond .eq 26, 3) := by decide +kernel
theorem dX9_word_7 : decode cX9_word 7 = .ok (.iload_n 3, 1) := by decide +kernel
theorem dX9_word_8 : decode cX9_word 8 = .ok (.i2l, 1) := by decide +kernel
theorem dX9_word_9 : decode cX9_word 9 = .ok (.lconst 1, 1) := by decide +kernel
theorem dX9_word_10 : decode cX9_word 10 = .ok (.ldc2_w 176, 3) := by decide +kernel
theorem dX9_word_13 : decode cX9_word 13 = .ok (.invokestatic 48, 3) := by decide +kernel
theorem dX9_word_16 : decode cX9_word 16 = .ok (.ifCond .eq 14, 3) := by decide +kernel
theorem dX9_word_19 : decode cX9_word 19 = .ok (.iload 4, 2) := by decide +kernel
theorem dX9_word_21 : decode cX9_word 21 = .ok (.i2l, 1) := by decide +kernel
theorem dX9_word_22 : decode cX9_word 22 = .ok (.lconst 0, 1) := by decide +kernel
theorem dX9_word_23 : decode cX9_word 23 = .ok (.lconst 1, 1) := by decide +kernel
theorem dX9_word_24 : decode cX9_word 24 = .ok (.invokestatic 48, 3) := by decide +kernel
theorem dX9_word_27 : decode cX9_word 27 = .ok (.ifCond .ne 6, 3) := by decide +kernel
theorem dX9_word_30 : decode cX9_word 30 = .ok (.ldc 65, 2) := by decide +kernel
theorem dX9_word_32 : decode cX9_word 32 = .ok (.ireturn, 1) := by decide +kernel
theorem dX9_word_33 : decode cX9_word 33 = .ok (.aload_n 0, 1) := by decide +kernel
theorem dX9_word_34 : decode cX9_word 34 = .ok (.invokevirtual 215, 3) := by decide +kernel
theorem dX9_word_37 : decode cX9_word 37 = .ok (.ifCond .ne 6, 3) := by decide +kernel
theorem dX9_word_40 : decode cX9_word 40 = .ok (.ldc 137, 2) := by decide +kernel
theorem dX9_word_42 : decode cX9_word 42 = .ok (.ireturn, 1) := by decide +kernel
theorem dX9_word_43 : decode cX9_word 43 = .ok (.aload_n 0, 1) := by decide +kernel
theorem dX9_word_44 : decode cX9_word 44 = .ok (.iload_n 1, 1) := by decide +kernel
theorem dX9_word_45 : decode cX9_word 45 = .ok (.iload_n 2, 1) := by decide +kernel
theorem dX9_word_46 : decode cX9_word 46 = .ok (.iload_n 3, 1) := by decide +kernel
theorem dX9_word_47 : decode cX9_word 47 = .ok (.invokevirtual 70, 3) := by decide +kernel
theorem dX9_word_50 : decode cX9_word 50 = .ok (.istore 5, 2) := by decide +kernel
theorem dX9_word_52 : decode cX9_word 52 = .ok (.iload 5, 2) := by decide +kernel
theorem dX9_word_54 : decode cX9_word 54 = .ok (.ifCond .le 10, 3) := by decide +kernel
theorem dX9_word_57 : decode cX9_word 57 = .ok (.aload_n 0, 1) := by decide +kernel
theorem dX9_word_58 : decode cX9_word 58 = .ok (.iload 5, 2) := by decide +kernel
theorem dX9_word_60 : decode cX9_word 60 = .ok (.invokevirtual 66, 3) := by decide +kernel
theorem dX9_word_63 : decode cX9_word 63 = .ok (.ireturn, 1) := by decide +kernel
theorem dX9_word_64 : decode cX9_word 64 = .ok (.aload_n 0, 1) := by decide +kernel
theorem dX9_word_65 : decode cX9_word 65 = .ok (.iconst 0, 1) := by decide +kernel
theorem dX9_word_66 : decode cX9_word 66 = .ok (.putfield 54, 3) := by decide +kernel
theorem dX9_word_69 : decode cX9_word 69 = .ok (.aload_n 0, 1) := by decide +kernel
theorem dX9_word_70 : decode cX9_word 70 = .ok (.bipush 40, 2) := by decide +kernel
theorem dX9_word_72 : decode cX9_word 72 = .ok (.iload_n 1, 1) := by decide +kernel
theorem dX9_word_73 : decode cX9_word 73 = .ok (.imul, 1) := by decide +kernel
theorem dX9_word_74 : decode cX9_word 74 = .ok (.iload_n 2, 1) := by decide +kernel
theorem dX9_word_75 : decode cX9_word 75 = .ok (.iadd, 1) := by decide +kernel
theorem dX9_word_76 : decode cX9_word 76 = .ok (.iload_n 3, 1) := by decide +kernel
theorem dX9_word_77 : decode cX9_word 77 = .ok (.invokevirtual 218, 3) := by decide +kernel
theorem dX9_word_80 : decode cX9_word 80 = .ok (.ifCond .ne 6, 3) := by decide +kernel
theorem dX9_word_83 : decode cX9_word 83 = .ok (.ldc 149, 2) := by decide +kernel
theorem dX9_word_85 : decode cX9_word 85 = .ok (.ireturn, 1) := by decide +kernel
theorem dX9_word_86 : decode cX9_word 86 = .ok (.iload 4, 2) := by decide +kernel
theorem dX9_word_88 : decode cX9_word 88 = .ok (.ifCond .ne 25, 3) := by decide +kernel
theorem dX9_word_91 : decode cX9_word 91 = .ok (.aload_n 0, 1) := by decide +kernel
theorem dX9_word_92 : decode cX9_word 92 = .ok (.getfield 7, 3) := by decide +kernel
theorem dX9_word_95 : decode cX9_word 95 = .ok (.bipush 23, 2) := by decide +kernel
theorem dX9_word_97 : decode cX9_word 97 = .ok (.aload_n 0, 1) := by decide +kernel
theorem dX9_word_98 : decode cX9_word 98 = .ok (.getfield 22, 3) := by decide +kernel
theorem dX9_word_101 : decode cX9_word 101 = .ok (.bipush 40, 2) := by decide +kernel
theorem dX9_word_103 : decode cX9_word 103 = .ok (.iload_n 1, 1) := by decide +kernel
theorem dX9_word_104 : decode cX9_word 104 = .ok (.imul, 1) := by decide +kernel
theorem dX9_word_105 : decode cX9_word 105 = .ok (.iload_n 2, 1) := by decide +kernel
theorem dX9_word_106 : decode cX9_word 106 = .ok (.iadd, 1) := by decide +kernel
theorem dX9_word_107 : decode cX9_word 107 = .ok (.iaload, 1) := by decide +kernel
theorem dX9_word_108 : decode cX9_word 108 = .ok (.iadd, 1) := by decide +kernel
theorem dX9_word_109 : decode cX9_word 109 = .ok (.iaload, 1) := by decide +kernel
theorem dX9_word_110 : decode cX9_word 110 = .ok (.goto 7, 3) := by decide +kernel
theorem dX9_word_113 : decode cX9_word 113 = .ok (.aload_n 0, 1) := by decide +kernel
theorem dX9_word_114 : decode cX9_word 114 = .ok (.getfield 201, 3) := by decide +kernel
theorem dX9_word_117 : decode cX9_word 117 = .ok (.ireturn, 1) := by decide +kernel
theorem dX9_placeOf_0 : decode cX9_placeOf 0 = .ok (.lconst 0, 1) := by decide +kernel
theorem dX9_placeOf_1 : decode cX9_placeOf 1 = .ok (.lstore 4, 2) := by decide +kernel
theorem dX9_placeOf_3 : decode cX9_placeOf 3 = .ok (.iconst 1, 1) := by decide +kernel
theorem dX9_placeOf_4 : decode cX9_placeOf 4 = .ok (.istore 6, 2) := by decide +kernel
theorem dX9_placeOf_6 : decode cX9_placeOf 6 = .ok (.iload 6, 2) := by decide +kernel
theorem dX9_placeOf_8 : decode cX9_placeOf 8 = .ok (.aload_n 0, 1) := by decide +kernel
theorem dX9_placeOf_9 : decode cX9_placeOf 9 = .ok (.getfield 201, 3) := by decide +kernel
theorem dX9_placeOf_12 : decode cX9_placeOf 12 = .ok (.if_icmp .ge 29, 3) := by decide +kernel
theorem dX9_placeOf_15 : decode cX9_placeOf 15 = .ok (.lload 4, 2) := by decide +kernel
theorem dX9_placeOf_17 : decode cX9_placeOf 17 = .ok (.aload_n 0, 1) := by decide +kernel
theorem dX9_placeOf_18 : decode cX9_placeOf 18 = .ok (.getfield 28, 3) := by decide +kernel
theorem dX9_placeOf_21 : decode cX9_placeOf 21 = .ok (.bipush 25, 2) := by decide +kernel
theorem dX9_placeOf_23 : decode cX9_placeOf 23 = .ok (.iload_n 1, 1) := by decide +kernel
theorem dX9_placeOf_24 : decode cX9_placeOf 24 = .ok (.imul, 1) := by decide +kernel
theorem dX9_placeOf_25 : decode cX9_placeOf 25 = .ok (.iload 6, 2) := by decide +kernel
theorem dX9_placeOf_27 : decode cX9_placeOf 27 = .ok (.iadd, 1) := by decide +kernel
theorem dX9_placeOf_28 : decode cX9_placeOf 28 = .ok (.laload, 1) := by decide +kernel
theorem dX9_placeOf_29 : decode cX9_placeOf 29 = .ok (.ladd, 1) := by decide +kernel
theorem dX9_placeOf_30 : decode cX9_placeOf 30 = .ok (.invokestatic 162, 3) := by decide +kernel
theorem dX9_placeOf_33 : decode cX9_placeOf 33 = .ok (.lstore 4, 2) := by decide +kernel
theorem dX9_placeOf_35 : decode cX9_placeOf 35 = .ok (.iinc 6 1, 3) := by decide +kernel
theorem dX9_placeOf_38 : decode cX9_placeOf 38 = .ok (.goto (-32), 3) := by decide +kernel
theorem dX9_placeOf_41 : decode cX9_placeOf 41 = .ok (.aload_n 0, 1) := by decide +kernel
theorem dX9_placeOf_42 : decode cX9_placeOf 42 = .ok (.getfield 201, 3) := by decide +kernel
theorem dX9_placeOf_45 : decode cX9_placeOf 45 = .ok (.istore 6, 2) := by decide +kernel
theorem dX9_placeOf_47 : decode cX9_placeOf 47 = .ok (.aload_n 0, 1) := by decide +kernel
theorem dX9_placeOf_48 : decode cX9_placeOf 48 = .ok (.iload_n 1, 1) := by decide +kernel
theorem dX9_placeOf_49 : decode cX9_placeOf 49 = .ok (.invokevirtual 204, 3) := by decide +kernel
theorem dX9_placeOf_52 : decode cX9_placeOf 52 = .ok (.iconst 0, 1) := by decide +kernel
theorem dX9_placeOf_53 : decode cX9_placeOf 53 = .ok (.istore 7, 2) := by decide +kernel
theorem dX9_placeOf_55 : decode cX9_placeOf 55 = .ok (.iload 7, 2) := by decide +kernel
theorem dX9_placeOf_57 : decode cX9_placeOf 57 = .ok (.iload_n 3, 1) := by decide +kernel
theorem dX9_placeOf_58 : decode cX9_placeOf 58 = .ok (.if_icmp .ge 69, 3) := by decide +kernel
theorem dX9_placeOf_61 : decode cX9_placeOf 61 = .ok (.aload_n 0, 1) := by decide +kernel
theorem dX9_placeOf_62 : decode cX9_placeOf 62 = .ok (.getfield 22, 3) := by decide +kernel
theorem dX9_placeOf_65 : decode cX9_placeOf 65 = .ok (.iload_n 2, 1) := by decide +kernel
theorem dX9_placeOf_66 : decode cX9_placeOf 66 = .ok (.iload 7, 2) := by decide +kernel
theorem dX9_placeOf_68 : decode cX9_placeOf 68 = .ok (.iadd, 1) := by decide +kernel
theorem dX9_placeOf_69 : decode cX9_placeOf 69 = .ok (.iaload, 1) := by decide +kernel
theorem dX9_placeOf_70 : decode cX9_placeOf 70 = .ok (.istore 8, 2) := by decide +kernel
theorem dX9_placeOf_72 : decode cX9_placeOf 72 = .ok (.iconst 0, 1) := by decide +kernel
theorem dX9_placeOf_73 : decode cX9_placeOf 73 = .ok (.istore 9, 2) := by decide +kernel
theorem dX9_placeOf_75 : decode cX9_placeOf 75 = .ok (.iload 9, 2) := by decide +kernel
theorem dX9_placeOf_77 : decode cX9_placeOf 77 = .ok (.iload 8, 2) := by decide +kernel
theorem dX9_placeOf_79 : decode cX9_placeOf 79 = .ok (.if_icmp .ge 25, 3) := by decide +kernel
theorem dX9_placeOf_82 : decode cX9_placeOf 82 = .ok (.lload 4, 2) := by decide +kernel
theorem dX9_placeOf_84 : decode cX9_placeOf 84 = .ok (.aload_n 0, 1) := by decide +kernel
theorem dX9_placeOf_85 : decode cX9_placeOf 85 = .ok (.iload 9, 2) := by decide +kernel
theorem dX9_placeOf_87 : decode cX9_placeOf 87 = .ok (.iload 6, 2) := by decide +kernel
theorem dX9_placeOf_89 : decode cX9_placeOf 89 = .ok (.invokevirtual 207, 3) := by decide +kernel
theorem dX9_placeOf_92 : decode cX9_placeOf 92 = .ok (.ladd, 1) := by decide +kernel
theorem dX9_placeOf_93 : decode cX9_placeOf 93 = .ok (.invokestatic 162, 3) := by decide +kernel
theorem dX9_placeOf_96 : decode cX9_placeOf 96 = .ok (.lstore 4, 2) := by decide +kernel
theorem dX9_placeOf_98 : decode cX9_placeOf 98 = .ok (.iinc 9 1, 3) := by decide +kernel
theorem dX9_placeOf_101 : decode cX9_placeOf 101 = .ok (.goto (-26), 3) := by decide +kernel
theorem dX9_placeOf_104 : decode cX9_placeOf 104 = .ok (.iload 6, 2) := by decide +kernel
theorem dX9_placeOf_106 : decode cX9_placeOf 106 = .ok (.aload_n 0, 1) := by decide +kernel
theorem dX9_placeOf_107 : decode cX9_placeOf 107 = .ok (.iload 8, 2) := by decide +kernel
theorem dX9_placeOf_109 : decode cX9_placeOf 109 = .ok (.invokevirtual 146, 3) := by decide +kernel
theorem dX9_placeOf_112 : decode cX9_placeOf 112 = .ok (.isub, 1) := by decide +kernel
theorem dX9_placeOf_113 : decode cX9_placeOf 113 = .ok (.istore 6, 2) := by decide +kernel
theorem dX9_placeOf_115 : decode cX9_placeOf 115 = .ok (.aload_n 0, 1) := by decide +kernel
theorem dX9_placeOf_116 : decode cX9_placeOf 116 = .ok (.iload 8, 2) := by decide +kernel
theorem dX9_placeOf_118 : decode cX9_placeOf 118 = .ok (.invokevirtual 195, 3) := by decide +kernel
theorem dX9_placeOf_121 : decode cX9_placeOf 121 = .ok (.iinc 7 1, 3) := by decide +kernel
theorem dX9_placeOf_124 : decode cX9_placeOf 124 = .ok (.goto (-69), 3) := by decide +kernel
theorem dX9_placeOf_127 : decode cX9_placeOf 127 = .ok (.lload 4, 2) := by decide +kernel
theorem dX9_placeOf_129 : decode cX9_placeOf 129 = .ok (.lreturn, 1) := by decide +kernel
theorem dX9_place_0 : decode cX9_place 0 = .ok (.aload_n 0, 1) := by decide +kernel
theorem dX9_place_1 : decode cX9_place 1 = .ok (.iload_n 1, 1) := by decide +kernel
theorem dX9_place_2 : decode cX9_place 2 = .ok (.invokevirtual 143, 3) := by decide +kernel
theorem dX9_place_5 : decode cX9_place 5 = .ok (.ifCond .eq 22, 3) := by decide +kernel
theorem dX9_place_8 : decode cX9_place 8 = .ok (.iload_n 2, 1) := by decide +kernel
theorem dX9_place_9 : decode cX9_place 9 = .ok (.invokestatic 59, 3) := by decide +kernel
theorem dX9_place_12 : decode cX9_place 12 = .ok (.ifCond .eq 15, 3) := by decide +kernel
theorem dX9_place_15 : decode cX9_place 15 = .ok (.iload_n 3, 1) := by decide +kernel
theorem dX9_place_16 : decode cX9_place 16 = .ok (.i2l, 1) := by decide +kernel
theorem dX9_place_17 : decode cX9_place 17 = .ok (.lconst 1, 1) := by decide +kernel
theorem dX9_place_18 : decode cX9_place 18 = .ok (.ldc2_w 176, 3) := by decide +kernel
theorem dX9_place_21 : decode cX9_place 21 = .ok (.invokestatic 48, 3) := by decide +kernel
theorem dX9_place_24 : decode cX9_place 24 = .ok (.ifCond .ne 6, 3) := by decide +kernel
theorem dX9_place_27 : decode cX9_place 27 = .ok (.ldc 65, 2) := by decide +kernel
theorem dX9_place_29 : decode cX9_place 29 = .ok (.ireturn, 1) := by decide +kernel
theorem dX9_place_30 : decode cX9_place 30 = .ok (.aload_n 0, 1) := by decide +kernel
theorem dX9_place_31 : decode cX9_place 31 = .ok (.iload_n 2, 1) := by decide +kernel
theorem dX9_place_32 : decode cX9_place 32 = .ok (.iconst 0, 1) := by decide +kernel
theorem dX9_place_33 : decode cX9_place 33 = .ok (.iload_n 3, 1) := by decide +kernel
theorem dX9_place_34 : decode cX9_place 34 = .ok (.invokevirtual 70, 3) := by decide +kernel
theorem dX9_place_37 : decode cX9_place 37 = .ok (.istore 4, 2) := by decide +kernel
theorem dX9_place_39 : decode cX9_place 39 = .ok (.iload 4, 2) := by decide +kernel
theorem dX9_place_41 : decode cX9_place 41 = .ok (.ifCond .le 10, 3) := by decide +kernel
theorem dX9_place_44 : decode cX9_place 44 = .ok (.aload_n 0, 1) := by decide +kernel
theorem dX9_place_45 : decode cX9_place 45 = .ok (.iload 4, 2) := by decide +kernel
theorem dX9_place_47 : decode cX9_place 47 = .ok (.invokevirtual 66, 3) := by decide +kernel
theorem dX9_place_50 : decode cX9_place 50 = .ok (.ireturn, 1) := by decide +kernel
theorem dX9_place_51 : decode cX9_place 51 = .ok (.aload_n 0, 1) := by decide +kernel
theorem dX9_place_52 : decode cX9_place 52 = .ok (.iconst 0, 1) := by decide +kernel
theorem dX9_place_53 : decode cX9_place 53 = .ok (.putfield 54, 3) := by decide +kernel
theorem dX9_place_56 : decode cX9_place 56 = .ok (.bipush 40, 2) := by decide +kernel
theorem dX9_place_58 : decode cX9_place 58 = .ok (.iload_n 2, 1) := by decide +kernel
theorem dX9_place_59 : decode cX9_place 59 = .ok (.imul, 1) := by decide +kernel
theorem dX9_place_60 : decode cX9_place 60 = .ok (.istore 5, 2) := by decide +kernel
theorem dX9_place_62 : decode cX9_place 62 = .ok (.aload_n 0, 1) := by decide +kernel
theorem dX9_place_63 : decode cX9_place 63 = .ok (.iload 5, 2) := by decide +kernel
theorem dX9_place_65 : decode cX9_place 65 = .ok (.iload_n 3, 1) := by decide +kernel
theorem dX9_place_66 : decode cX9_place 66 = .ok (.invokevirtual 218, 3) := by decide +kernel
theorem dX9_place_69 : decode cX9_place 69 = .ok (.ifCond .eq 35, 3) := by decide +kernel
theorem dX9_place_72 : decode cX9_place 72 = .ok (.aload_n 0, 1) := by decide +kernel
theorem dX9_place_73 : decode cX9_place 73 = .ok (.getfield 201, 3) := by decide +kernel
theorem dX9_place_76 : decode cX9_place 76 = .ok (.bipush 24, 2) := by decide +kernel
theorem dX9_place_78 : decode cX9_place 78 = .ok (.if_icmp .gt 26, 3) := by decide +kernel
theorem dX9_place_81 : decode cX9_place 81 = .ok (.aload_n 0, 1) := by decide +kernel
theorem dX9_place_82 : decode cX9_place 82 = .ok (.aload_n 0, 1) := by decide +kernel
theorem dX9_place_83 : decode cX9_place 83 = .ok (.getfield 7, 3) := by decide +kernel
theorem dX9_place_86 : decode cX9_place 86 = .ok (.bipush 23, 2) := by decide +kernel
theorem dX9_place_88 : decode cX9_place 88 = .ok (.aload_n 0, 1) := by decide +kernel
theorem dX9_place_89 : decode cX9_place 89 = .ok (.getfield 22, 3) := by decide +kernel
theorem dX9_place_92 : decode cX9_place 92 = .ok (.iload 5, 2) := by decide +kernel
theorem dX9_place_94 : decode cX9_place 94 = .ok (.iaload, 1) := by decide +kernel
theorem dX9_place_95 : decode cX9_place 95 = .ok (.iadd, 1) := by decide +kernel
theorem dX9_place_96 : decode cX9_place 96 = .ok (.iaload, 1) := by decide +kernel
theorem dX9_place_97 : decode cX9_place 97 = .ok (.iload_n 1, 1) := by decide +kernel
theorem dX9_place_98 : decode cX9_place 98 = .ok (.invokevirtual 150, 3) := by decide +kernel
theorem dX9_place_101 : decode cX9_place 101 = .ok (.ifCond .ne 6, 3) := by decide +kernel
theorem dX9_place_104 : decode cX9_place 104 = .ok (.ldc 149, 2) := by decide +kernel
theorem dX9_place_106 : decode cX9_place 106 = .ok (.ireturn, 1) := by decide +kernel
theorem dX9_place_107 : decode cX9_place 107 = .ok (.aload_n 0, 1) := by decide +kernel
theorem dX9_place_108 : decode cX9_place 108 = .ok (.aload_n 0, 1) := by decide +kernel
theorem dX9_place_109 : decode cX9_place 109 = .ok (.getfield 7, 3) := by decide +kernel
theorem dX9_place_112 : decode cX9_place 112 = .ok (.iconst 2, 1) := by decide +kernel
theorem dX9_place_113 : decode cX9_place 113 = .ok (.iaload, 1) := by decide +kernel
theorem dX9_place_114 : decode cX9_place 114 = .ok (.invokevirtual 178, 3) := by decide +kernel
theorem dX9_place_117 : decode cX9_place 117 = .ok (.aload_n 0, 1) := by decide +kernel
theorem dX9_place_118 : decode cX9_place 118 = .ok (.iload_n 1, 1) := by decide +kernel
theorem dX9_place_119 : decode cX9_place 119 = .ok (.iload 5, 2) := by decide +kernel
theorem dX9_place_121 : decode cX9_place 121 = .ok (.iload_n 3, 1) := by decide +kernel
theorem dX9_place_122 : decode cX9_place 122 = .ok (.invokevirtual 221, 3) := by decide +kernel
theorem dX9_place_125 : decode cX9_place 125 = .ok (.lstore 6, 2) := by decide +kernel
theorem dX9_place_127 : decode cX9_place 127 = .ok (.lload 6, 2) := by decide +kernel
theorem dX9_place_129 : decode cX9_place 129 = .ok (.ldc2_w 173, 3) := by decide +kernel
theorem dX9_place_132 : decode cX9_place 132 = .ok (.lcmp, 1) := by decide +kernel
theorem dX9_place_133 : decode cX9_place 133 = .ok (.ifCond .lt 8, 3) := by decide +kernel
theorem dX9_place_136 : decode cX9_place 136 = .ok (.ldc 149, 2) := by decide +kernel
theorem dX9_place_138 : decode cX9_place 138 = .ok (.goto 6, 3) := by decide +kernel
theorem dX9_place_141 : decode cX9_place 141 = .ok (.lload 6, 2) := by decide +kernel
theorem dX9_place_143 : decode cX9_place 143 = .ok (.l2i, 1) := by decide +kernel
theorem dX9_place_144 : decode cX9_place 144 = .ok (.ireturn, 1) := by decide +kernel
theorem dX9_hadBy_0 : decode cX9_hadBy 0 = .ok (.iconst 0, 1) := by decide +kernel
theorem dX9_hadBy_1 : decode cX9_hadBy 1 = .ok (.istore_n 2, 1) := by decide +kernel
theorem dX9_hadBy_2 : decode cX9_hadBy 2 = .ok (.iconst 1, 1) := by decide +kernel
theorem dX9_hadBy_3 : decode cX9_hadBy 3 = .ok (.istore_n 3, 1) := by decide +kernel
theorem dX9_hadBy_4 : decode cX9_hadBy 4 = .ok (.iload_n 3, 1) := by decide +kernel
theorem dX9_hadBy_5 : decode cX9_hadBy 5 = .ok (.ifCond .eq 143, 3) := by decide +kernel
theorem dX9_hadBy_8 : decode cX9_hadBy 8 = .ok (.iload_n 2, 1) := by decide +kernel
theorem dX9_hadBy_9 : decode cX9_hadBy 9 = .ok (.istore 4, 2) := by decide +kernel
theorem dX9_hadBy_11 : decode cX9_hadBy 11 = .ok (.iconst 0, 1) := by decide +kernel
theorem dX9_hadBy_12 : decode cX9_hadBy 12 = .ok (.istore 5, 2) := by decide +kernel
theorem dX9_hadBy_14 : decode cX9_hadBy 14 = .ok (.iload 5, 2) := by decide +kernel
theorem dX9_hadBy_16 : decode cX9_hadBy 16 = .ok (.aload_n 0, 1) := by decide +kernel
theorem dX9_hadBy_17 : decode cX9_hadBy 17 = .ok (.getfield 7, 3) := by decide +kernel
theorem dX9_hadBy_20 : decode cX9_hadBy 20 = .ok (.iconst 1, 1) := by decide +kernel
theorem dX9_hadBy_21 : decode cX9_hadBy 21 = .ok (.iaload, 1) := by decide +kernel
theorem dX9_hadBy_22 : decode cX9_hadBy 22 = .ok (.if_icmp .ge 111, 3) := by decide +kernel
theorem dX9_hadBy_25 : decode cX9_hadBy 25 = .ok (.iload_n 1, 1) := by decide +kernel
theorem dX9_hadBy_26 : decode cX9_hadBy 26 = .ok (.iload 5, 2) := by decide +kernel
theorem dX9_hadBy_28 : decode cX9_hadBy 28 = .ok (.invokestatic 166, 3) := by decide +kernel
theorem dX9_hadBy_31 : decode cX9_hadBy 31 = .ok (.ifCond .ne 7, 3) := by decide +kernel
theorem dX9_hadBy_34 : decode cX9_hadBy 34 = .ok (.iconst 1, 1) := by decide +kernel
theorem dX9_hadBy_35 : decode cX9_hadBy 35 = .ok (.goto 4, 3) := by decide +kernel
theorem dX9_hadBy_38 : decode cX9_hadBy 38 = .ok (.iconst 0, 1) := by decide +kernel
theorem dX9_hadBy_39 : decode cX9_hadBy 39 = .ok (.istore 6, 2) := by decide +kernel
theorem dX9_hadBy_41 : decode cX9_hadBy 41 = .ok (.iconst 0, 1) := by decide +kernel
theorem dX9_hadBy_42 : decode cX9_hadBy 42 = .ok (.istore 7, 2) := by decide +kernel
theorem dX9_hadBy_44 : decode cX9_hadBy 44 = .ok (.iload 7, 2) := by decide +kernel
theorem dX9_hadBy_46 : decode cX9_hadBy 46 = .ok (.aload_n 0, 1) := by decide +kernel
theorem dX9_hadBy_47 : decode cX9_hadBy 47 = .ok (.getfield 7, 3) := by decide +kernel
theorem dX9_hadBy_50 : decode cX9_hadBy 50 = .ok (.bipush 47, 2) := by decide +kernel
theorem dX9_hadBy_52 : decode cX9_hadBy 52 = .ok (.iload 5, 2) := by decide +kernel
theorem dX9_hadBy_54 : decode cX9_hadBy 54 = .ok (.iadd, 1) := by decide +kernel
theorem dX9_hadBy_55 : decode cX9_hadBy 55 = .ok (.iaload, 1) := by decide +kernel
theorem dX9_hadBy_56 : decode cX9_hadBy 56 = .ok (.if_icmp .ge 44, 3) := by decide +kernel
theorem dX9_hadBy_59 : decode cX9_hadBy 59 = .ok (.iload 6, 2) := by decide +kernel
theorem dX9_hadBy_61 : decode cX9_hadBy 61 = .ok (.ifCond .eq 30, 3) := by decide +kernel
theorem dX9_hadBy_64 : decode cX9_hadBy 64 = .ok (.iload_n 2, 1) := by decide +kernel
theorem dX9_hadBy_65 : decode cX9_hadBy 65 = .ok (.aload_n 0, 1) := by decide +kernel
theorem dX9_hadBy_66 : decode cX9_hadBy 66 = .ok (.getfield 7, 3) := by decide +kernel
theorem dX9_hadBy_69 : decode cX9_hadBy 69 = .ok (.bipush 59, 2) := by decide +kernel
theorem dX9_hadBy_71 : decode cX9_hadBy 71 = .ok (.bipush 12, 2) := by decide +kernel
theorem dX9_hadBy_73 : decode cX9_hadBy 73 = .ok (.iload 7, 2) := by decide +kernel
theorem dX9_hadBy_75 : decode cX9_hadBy 75 = .ok (.imul, 1) := by decide +kernel
theorem dX9_hadBy_76 : decode cX9_hadBy 76 = .ok (.iadd, 1) := by decide +kernel
theorem dX9_hadBy_77 : decode cX9_hadBy 77 = .ok (.iload 5, 2) := by decide +kernel
theorem dX9_hadBy_79 : decode cX9_hadBy 79 = .ok (.iadd, 1) := by decide +kernel
theorem dX9_hadBy_80 : decode cX9_hadBy 80 = .ok (.iaload, 1) := by decide +kernel
theorem dX9_hadBy_81 : decode cX9_hadBy 81 = .ok (.invokestatic 166, 3) := by decide +kernel
theorem dX9_hadBy_84 : decode cX9_hadBy 84 = .ok (.ifCond .eq 7, 3) := by decide +kernel
theorem dX9_hadBy_87 : decode cX9_hadBy 87 = .ok (.iconst 1, 1) := by decide +kernel
theorem dX9_hadBy_88 : decode cX9_hadBy 88 = .ok (.goto 4, 3) := by decide +kernel
theorem dX9_hadBy_91 : decode cX9_hadBy 91 = .ok (.iconst 0, 1) := by decide +kernel
theorem dX9_hadBy_92 : decode cX9_hadBy 92 = .ok (.istore 6, 2) := by decide +kernel
theorem dX9_hadBy_94 : decode cX9_hadBy 94 = .ok (.iinc 7 1, 3) := by decide +kernel
theorem dX9_hadBy_97 : decode cX9_hadBy 97 = .ok (.goto (-53), 3) := by decide +kernel
theorem dX9_hadBy_100 : decode cX9_hadBy 100 = .ok (.iload_n 2, 1) := by decide +kernel
theorem dX9_hadBy_101 : decode cX9_hadBy 101 = .ok (.iload 6, 2) := by decide +kernel
theorem dX9_hadBy_103 : decode cX9_hadBy 103 = .ok (.ifCond .eq 21, 3) := by decide +kernel
theorem dX9_hadBy_106 : decode cX9_hadBy 106 = .ok (.aload_n 0, 1) := by decide +kernel
theorem dX9_hadBy_107 : decode cX9_hadBy 107 = .ok (.aload_n 0, 1) := by decide +kernel
theorem dX9_hadBy_108 : decode cX9_hadBy 108 = .ok (.getfield 7, 3) := by decide +kernel
theorem dX9_hadBy_111 : decode cX9_hadBy 111 = .ok (.bipush 23, 2) := by decide +kernel
theorem dX9_hadBy_113 : decode cX9_hadBy 113 = .ok (.iload 5, 2) := by decide +kernel
theorem dX9_hadBy_115 : decode cX9_hadBy 115 = .ok (.iadd, 1) := by decide +kernel
theorem dX9_hadBy_116 : decode cX9_hadBy 116 = .ok (.iaload, 1) := by decide +kernel
theorem dX9_hadBy_117 : decode cX9_hadBy 117 = .ok (.iconst 0, 1) := by decide +kernel
theorem dX9_hadBy_118 : decode cX9_hadBy 118 = .ok (.invokevirtual 153, 3) := by decide +kernel
theorem dX9_hadBy_121 : decode cX9_hadBy 121 = .ok (.goto 4, 3) := by decide +kernel
theorem dX9_hadBy_124 : decode cX9_hadBy 124 = .ok (.iconst 0, 1) := by decide +kernel
theorem dX9_hadBy_125 : decode cX9_hadBy 125 = .ok (.ior, 1) := by decide +kernel
theorem dX9_hadBy_126 : decode cX9_hadBy 126 = .ok (.istore_n 2, 1) := by decide +kernel
theorem dX9_hadBy_127 : decode cX9_hadBy 127 = .ok (.iinc 5 1, 3) := by decide +kernel
theorem dX9_hadBy_130 : decode cX9_hadBy 130 = .ok (.goto (-116), 3) := by decide +kernel
theorem dX9_hadBy_133 : decode cX9_hadBy 133 = .ok (.iload_n 2, 1) := by decide +kernel
theorem dX9_hadBy_134 : decode cX9_hadBy 134 = .ok (.iload 4, 2) := by decide +kernel
theorem dX9_hadBy_136 : decode cX9_hadBy 136 = .ok (.if_icmp .eq 7, 3) := by decide +kernel
theorem dX9_hadBy_139 : decode cX9_hadBy 139 = .ok (.iconst 1, 1) := by decide +kernel
theorem dX9_hadBy_140 : decode cX9_hadBy 140 = .ok (.goto 4, 3) := by decide +kernel
theorem dX9_hadBy_143 : decode cX9_hadBy 143 = .ok (.iconst 0, 1) := by decide +kernel
theorem dX9_hadBy_144 : decode cX9_hadBy 144 = .ok (.istore_n 3, 1) := by decide +kernel
theorem dX9_hadBy_145 : decode cX9_hadBy 145 = .ok (.goto (-141), 3) := by decide +kernel
theorem dX9_hadBy_148 : decode cX9_hadBy 148 = .ok (.iload_n 2, 1) := by decide +kernel
theorem dX9_hadBy_149 : decode cX9_hadBy 149 = .ok (.ireturn, 1) := by decide +kernel
theorem dX9_had_0 : decode cX9_had 0 = .ok (.aload_n 0, 1) := by decide +kernel
theorem dX9_had_1 : decode cX9_had 1 = .ok (.invokevirtual 215, 3) := by decide +kernel
theorem dX9_had_4 : decode cX9_had 4 = .ok (.ifCond .eq 16, 3) := by decide +kernel
theorem dX9_had_7 : decode cX9_had 7 = .ok (.aload_n 0, 1) := by decide +kernel
theorem dX9_had_8 : decode cX9_had 8 = .ok (.aload_n 0, 1) := by decide +kernel
theorem dX9_had_9 : decode cX9_had 9 = .ok (.getfield 7, 3) := by decide +kernel
theorem dX9_had_12 : decode cX9_had 12 = .ok (.iconst 2, 1) := by decide +kernel
theorem dX9_had_13 : decode cX9_had 13 = .ok (.iaload, 1) := by decide +kernel
theorem dX9_had_14 : decode cX9_had 14 = .ok (.invokevirtual 225, 3) := by decide +kernel
theorem dX9_had_17 : decode cX9_had 17 = .ok (.goto 5, 3) := by decide +kernel
theorem dX9_had_20 : decode cX9_had 20 = .ok (.ldc 137, 2) := by decide +kernel
theorem dX9_had_22 : decode cX9_had 22 = .ok (.ireturn, 1) := by decide +kernel
theorem dX9_needed_0 : decode cX9_needed 0 = .ok (.aload_n 0, 1) := by decide +kernel
theorem dX9_needed_1 : decode cX9_needed 1 = .ok (.iload_n 1, 1) := by decide +kernel
theorem dX9_needed_2 : decode cX9_needed 2 = .ok (.invokevirtual 143, 3) := by decide +kernel
theorem dX9_needed_5 : decode cX9_needed 5 = .ok (.ifCond .ne 6, 3) := by decide +kernel
theorem dX9_needed_8 : decode cX9_needed 8 = .ok (.ldc 65, 2) := by decide +kernel
theorem dX9_needed_10 : decode cX9_needed 10 = .ok (.ireturn, 1) := by decide +kernel
theorem dX9_needed_11 : decode cX9_needed 11 = .ok (.iconst 0, 1) := by decide +kernel
theorem dX9_needed_12 : decode cX9_needed 12 = .ok (.istore_n 2, 1) := by decide +kernel
theorem dX9_needed_13 : decode cX9_needed 13 = .ok (.iconst 0, 1) := by decide +kernel
theorem dX9_needed_14 : decode cX9_needed 14 = .ok (.istore_n 3, 1) := by decide +kernel
theorem dX9_needed_15 : decode cX9_needed 15 = .ok (.iload_n 3, 1) := by decide +kernel
theorem dX9_needed_16 : decode cX9_needed 16 = .ok (.aload_n 0, 1) := by decide +kernel
theorem dX9_needed_17 : decode cX9_needed 17 = .ok (.getfield 7, 3) := by decide +kernel
theorem dX9_needed_20 : decode cX9_needed 20 = .ok (.iconst 1, 1) := by decide +kernel
theorem dX9_needed_21 : decode cX9_needed 21 = .ok (.iaload, 1) := by decide +kernel
theorem dX9_needed_22 : decode cX9_needed 22 = .ok (.if_icmp .ge 57, 3) := by decide +kernel
theorem dX9_needed_25 : decode cX9_needed 25 = .ok (.aload_n 0, 1) := by decide +kernel
theorem dX9_needed_26 : decode cX9_needed 26 = .ok (.aload_n 0, 1) := by decide +kernel
theorem dX9_needed_27 : decode cX9_needed 27 = .ok (.getfield 7, 3) := by decide +kernel
theorem dX9_needed_30 : decode cX9_needed 30 = .ok (.iconst 2, 1) := by decide +kernel
theorem dX9_needed_31 : decode cX9_needed 31 = .ok (.iaload, 1) := by decide +kernel
theorem dX9_needed_32 : decode cX9_needed 32 = .ok (.invokevirtual 225, 3) := by decide +kernel
theorem dX9_needed_35 : decode cX9_needed 35 = .ok (.iload_n 1, 1) := by decide +kernel
theorem dX9_needed_36 : decode cX9_needed 36 = .ok (.invokestatic 166, 3) := by decide +kernel
theorem dX9_needed_39 : decode cX9_needed 39 = .ok (.ifCond .eq 40, 3) := by decide +kernel
theorem dX9_needed_42 : decode cX9_needed 42 = .ok (.iload_n 2, 1) := by decide +kernel
theorem dX9_needed_43 : decode cX9_needed 43 = .ok (.aload_n 0, 1) := by decide +kernel
theorem dX9_needed_44 : decode cX9_needed 44 = .ok (.aload_n 0, 1) := by decide +kernel
theorem dX9_needed_45 : decode cX9_needed 45 = .ok (.getfield 7, 3) := by decide +kernel
theorem dX9_needed_48 : decode cX9_needed 48 = .ok (.iconst 2, 1) := by decide +kernel
theorem dX9_needed_49 : decode cX9_needed 49 = .ok (.iaload, 1) := by decide +kernel
theorem dX9_needed_50 : decode cX9_needed 50 = .ok (.iconst 1, 1) := by decide +kernel
theorem dX9_needed_51 : decode cX9_needed 51 = .ok (.iload_n 3, 1) := by decide +kernel
theorem dX9_needed_52 : decode cX9_needed 52 = .ok (.ishl, 1) := by decide +kernel
theorem dX9_needed_53 : decode cX9_needed 53 = .ok (.ior, 1) := by decide +kernel
theorem dX9_needed_54 : decode cX9_needed 54 = .ok (.invokevirtual 225, 3) := by decide +kernel
theorem dX9_needed_57 : decode cX9_needed 57 = .ok (.iload_n 1, 1) := by decide +kernel
theorem dX9_needed_58 : decode cX9_needed 58 = .ok (.invokestatic 166, 3) := by decide +kernel
theorem dX9_needed_61 : decode cX9_needed 61 = .ok (.ifCond .eq 7, 3) := by decide +kernel
theorem dX9_needed_64 : decode cX9_needed 64 = .ok (.iconst 0, 1) := by decide +kernel
theorem dX9_needed_65 : decode cX9_needed 65 = .ok (.goto 6, 3) := by decide +kernel
theorem dX9_needed_68 : decode cX9_needed 68 = .ok (.iconst 1, 1) := by decide +kernel
theorem dX9_needed_69 : decode cX9_needed 69 = .ok (.iload_n 3, 1) := by decide +kernel
theorem dX9_needed_70 : decode cX9_needed 70 = .ok (.ishl, 1) := by decide +kernel
theorem dX9_needed_71 : decode cX9_needed 71 = .ok (.ior, 1) := by decide +kernel
theorem dX9_needed_72 : decode cX9_needed 72 = .ok (.istore_n 2, 1) := by decide +kernel
theorem dX9_needed_73 : decode cX9_needed 73 = .ok (.iinc 3 1, 3) := by decide +kernel
theorem dX9_needed_76 : decode cX9_needed 76 = .ok (.goto (-61), 3) := by decide +kernel
theorem dX9_needed_79 : decode cX9_needed 79 = .ok (.iload_n 2, 1) := by decide +kernel
theorem dX9_needed_80 : decode cX9_needed 80 = .ok (.ireturn, 1) := by decide +kernel
theorem dX9_without_0 : decode cX9_without 0 = .ok (.aload_n 0, 1) := by decide +kernel
theorem dX9_without_1 : decode cX9_without 1 = .ok (.iload_n 1, 1) := by decide +kernel
theorem dX9_without_2 : decode cX9_without 2 = .ok (.invokevirtual 143, 3) := by decide +kernel
theorem dX9_without_5 : decode cX9_without 5 = .ok (.ifCond .eq 11, 3) := by decide +kernel
theorem dX9_without_8 : decode cX9_without 8 = .ok (.aload_n 0, 1) := by decide +kernel
theorem dX9_without_9 : decode cX9_without 9 = .ok (.iload_n 2, 1) := by decide +kernel
theorem dX9_without_10 : decode cX9_without 10 = .ok (.invokevirtual 134, 3) := by decide +kernel
theorem dX9_without_13 : decode cX9_without 13 = .ok (.ifCond .ne 6, 3) := by decide +kernel
theorem dX9_without_16 : decode cX9_without 16 = .ok (.ldc 65, 2) := by decide +kernel
theorem dX9_without_18 : decode cX9_without 18 = .ok (.ireturn, 1) := by decide +kernel
theorem dX9_without_19 : decode cX9_without 19 = .ok (.aload_n 0, 1) := by decide +kernel
theorem dX9_without_20 : decode cX9_without 20 = .ok (.aload_n 0, 1) := by decide +kernel
theorem dX9_without_21 : decode cX9_without 21 = .ok (.getfield 7, 3) := by decide +kernel
theorem dX9_without_24 : decode cX9_without 24 = .ok (.iconst 2, 1) := by decide +kernel
theorem dX9_without_25 : decode cX9_without 25 = .ok (.iaload, 1) := by decide +kernel
theorem dX9_without_26 : decode cX9_without 26 = .ok (.iconst 1, 1) := by decide +kernel
theorem dX9_without_27 : decode cX9_without 27 = .ok (.iload_n 2, 1) := by decide +kernel
theorem dX9_without_28 : decode cX9_without 28 = .ok (.ishl, 1) := by decide +kernel
theorem dX9_without_29 : decode cX9_without 29 = .ok (.ior, 1) := by decide +kernel
theorem dX9_without_30 : decode cX9_without 30 = .ok (.invokevirtual 178, 3) := by decide +kernel
theorem dX9_without_33 : decode cX9_without 33 = .ok (.aload_n 0, 1) := by decide +kernel
theorem dX9_without_34 : decode cX9_without 34 = .ok (.iload_n 1, 1) := by decide +kernel
theorem dX9_without_35 : decode cX9_without 35 = .ok (.invokevirtual 186, 3) := by decide +kernel
theorem dX9_without_38 : decode cX9_without 38 = .ok (.ireturn, 1) := by decide +kernel
theorem dX9_share_0 : decode cX9_share 0 = .ok (.aload_n 0, 1) := by decide +kernel
theorem dX9_share_1 : decode cX9_share 1 = .ok (.iload_n 1, 1) := by decide +kernel
theorem dX9_share_2 : decode cX9_share 2 = .ok (.invokevirtual 134, 3) := by decide +kernel
theorem dX9_share_5 : decode cX9_share 5 = .ok (.ifCond .eq 15, 3) := by decide +kernel
theorem dX9_share_8 : decode cX9_share 8 = .ok (.iload_n 2, 1) := by decide +kernel
theorem dX9_share_9 : decode cX9_share 9 = .ok (.i2l, 1) := by decide +kernel
theorem dX9_share_10 : decode cX9_share 10 = .ok (.lconst 0, 1) := by decide +kernel
theorem dX9_share_11 : decode cX9_share 11 = .ok (.ldc2_w 228, 3) := by decide +kernel
theorem dX9_share_14 : decode cX9_share 14 = .ok (.invokestatic 48, 3) := by decide +kernel
theorem dX9_share_17 : decode cX9_share 17 = .ok (.ifCond .ne 6, 3) := by decide +kernel
theorem dX9_share_20 : decode cX9_share 20 = .ok (.ldc 65, 2) := by decide +kernel
theorem dX9_share_22 : decode cX9_share 22 = .ok (.ireturn, 1) := by decide +kernel
theorem dX9_share_23 : decode cX9_share 23 = .ok (.aload_n 0, 1) := by decide +kernel
theorem dX9_share_24 : decode cX9_share 24 = .ok (.getfield 7, 3) := by decide +kernel
theorem dX9_share_27 : decode cX9_share 27 = .ok (.iconst 2, 1) := by decide +kernel
theorem dX9_share_28 : decode cX9_share 28 = .ok (.iaload, 1) := by decide +kernel
theorem dX9_share_29 : decode cX9_share 29 = .ok (.iload_n 1, 1) := by decide +kernel
theorem dX9_share_30 : decode cX9_share 30 = .ok (.invokestatic 166, 3) := by decide +kernel
theorem dX9_share_33 : decode cX9_share 33 = .ok (.ifCond .eq 5, 3) := by decide +kernel
theorem dX9_share_36 : decode cX9_share 36 = .ok (.iconst 0, 1) := by decide +kernel
theorem dX9_share_37 : decode cX9_share 37 = .ok (.ireturn, 1) := by decide +kernel
theorem dX9_share_38 : decode cX9_share 38 = .ok (.iconst 0, 1) := by decide +kernel
theorem dX9_share_39 : decode cX9_share 39 = .ok (.istore_n 3, 1) := by decide +kernel
theorem dX9_share_40 : decode cX9_share 40 = .ok (.iconst 0, 1) := by decide +kernel
theorem dX9_share_41 : decode cX9_share 41 = .ok (.istore 4, 2) := by decide +kernel
theorem dX9_share_43 : decode cX9_share 43 = .ok (.iload 4, 2) := by decide +kernel
theorem dX9_share_45 : decode cX9_share 45 = .ok (.aload_n 0, 1) := by decide +kernel
theorem dX9_share_46 : decode cX9_share 46 = .ok (.getfield 7, 3) := by decide +kernel
theorem dX9_share_49 : decode cX9_share 49 = .ok (.iconst 1, 1) := by decide +kernel
theorem dX9_share_50 : decode cX9_share 50 = .ok (.iaload, 1) := by decide +kernel
theorem dX9_share_51 : decode cX9_share 51 = .ok (.if_icmp .ge 36, 3) := by decide +kernel
theorem dX9_share_54 : decode cX9_share 54 = .ok (.iload_n 3, 1) := by decide +kernel
theorem dX9_share_55 : decode cX9_share 55 = .ok (.aload_n 0, 1) := by decide +kernel
theorem dX9_share_56 : decode cX9_share 56 = .ok (.getfield 7, 3) := by decide +kernel
theorem dX9_share_59 : decode cX9_share 59 = .ok (.iconst 2, 1) := by decide +kernel
theorem dX9_share_60 : decode cX9_share 60 = .ok (.iaload, 1) := by decide +kernel
theorem dX9_share_61 : decode cX9_share 61 = .ok (.iload 4, 2) := by decide +kernel
theorem dX9_share_63 : decode cX9_share 63 = .ok (.invokestatic 166, 3) := by decide +kernel
theorem dX9_share_66 : decode cX9_share 66 = .ok (.ifCond .eq 7, 3) := by decide +kernel
theorem dX9_share_69 : decode cX9_share 69 = .ok (.iconst 0, 1) := by decide +kernel
theorem dX9_share_70 : decode cX9_share 70 = .ok (.goto 9, 3) := by decide +kernel
theorem dX9_share_73 : decode cX9_share 73 = .ok (.aload_n 0, 1) := by decide +kernel
theorem dX9_share_74 : decode cX9_share 74 = .ok (.iload 4, 2) := by decide +kernel
theorem dX9_share_76 : decode cX9_share 76 = .ok (.invokevirtual 146, 3) := by decide +kernel
theorem dX9_share_79 : decode cX9_share 79 = .ok (.iadd, 1) := by decide +kernel
theorem dX9_share_80 : decode cX9_share 80 = .ok (.istore_n 3, 1) := by decide +kernel
theorem dX9_share_81 : decode cX9_share 81 = .ok (.iinc 4 1, 3) := by decide +kernel
theorem dX9_share_84 : decode cX9_share 84 = .ok (.goto (-41), 3) := by decide +kernel
theorem dX9_share_87 : decode cX9_share 87 = .ok (.iload_n 2, 1) := by decide +kernel
theorem dX9_share_88 : decode cX9_share 88 = .ok (.istore 4, 2) := by decide +kernel
theorem dX9_share_90 : decode cX9_share 90 = .ok (.iconst 0, 1) := by decide +kernel
theorem dX9_share_91 : decode cX9_share 91 = .ok (.istore 5, 2) := by decide +kernel
theorem dX9_share_93 : decode cX9_share 93 = .ok (.iconst 0, 1) := by decide +kernel
theorem dX9_share_94 : decode cX9_share 94 = .ok (.istore 6, 2) := by decide +kernel
theorem dX9_share_96 : decode cX9_share 96 = .ok (.iload 6, 2) := by decide +kernel
theorem dX9_share_98 : decode cX9_share 98 = .ok (.aload_n 0, 1) := by decide +kernel
theorem dX9_share_99 : decode cX9_share 99 = .ok (.getfield 7, 3) := by decide +kernel
theorem dX9_share_102 : decode cX9_share 102 = .ok (.iconst 1, 1) := by decide +kernel
theorem dX9_share_103 : decode cX9_share 103 = .ok (.iaload, 1) := by decide +kernel
theorem dX9_share_104 : decode cX9_share 104 = .ok (.if_icmp .ge 72, 3) := by decide +kernel
theorem dX9_share_107 : decode cX9_share 107 = .ok (.iload 4, 2) := by decide +kernel
theorem dX9_share_109 : decode cX9_share 109 = .ok (.aload_n 0, 1) := by decide +kernel
theorem dX9_share_110 : decode cX9_share 110 = .ok (.getfield 7, 3) := by decide +kernel
theorem dX9_share_113 : decode cX9_share 113 = .ok (.iconst 2, 1) := by decide +kernel
theorem dX9_share_114 : decode cX9_share 114 = .ok (.iaload, 1) := by decide +kernel
theorem dX9_share_115 : decode cX9_share 115 = .ok (.iload 6, 2) := by decide +kernel
theorem dX9_share_117 : decode cX9_share 117 = .ok (.invokestatic 166, 3) := by decide +kernel
theorem dX9_share_120 : decode cX9_share 120 = .ok (.ifCond .eq 7, 3) := by decide +kernel
theorem dX9_share_123 : decode cX9_share 123 = .ok (.iconst 0, 1) := by decide +kernel
theorem dX9_share_124 : decode cX9_share 124 = .ok (.goto 13, 3) := by decide +kernel
theorem dX9_share_127 : decode cX9_share 127 = .ok (.iload_n 2, 1) := by decide +kernel
theorem dX9_share_128 : decode cX9_share 128 = .ok (.aload_n 0, 1) := by decide +kernel
theorem dX9_share_129 : decode cX9_share 129 = .ok (.iload 6, 2) := by decide +kernel
theorem dX9_share_131 : decode cX9_share 131 = .ok (.invokevirtual 146, 3) := by decide +kernel
theorem dX9_share_134 : decode cX9_share 134 = .ok (.imul, 1) := by decide +kernel
theorem dX9_share_135 : decode cX9_share 135 = .ok (.iload_n 3, 1) := by decide +kernel
theorem dX9_share_136 : decode cX9_share 136 = .ok (.idiv, 1) := by decide +kernel
theorem dX9_share_137 : decode cX9_share 137 = .ok (.isub, 1) := by decide +kernel
theorem dX9_share_138 : decode cX9_share 138 = .ok (.istore 4, 2) := by decide +kernel
theorem dX9_share_140 : decode cX9_share 140 = .ok (.iload 5, 2) := by decide +kernel
theorem dX9_share_142 : decode cX9_share 142 = .ok (.iload 6, 2) := by decide +kernel
theorem dX9_share_144 : decode cX9_share 144 = .ok (.iload_n 1, 1) := by decide +kernel
theorem dX9_share_145 : decode cX9_share 145 = .ok (.if_icmp .ge 21, 3) := by decide +kernel
theorem dX9_share_148 : decode cX9_share 148 = .ok (.aload_n 0, 1) := by decide +kernel
theorem dX9_share_149 : decode cX9_share 149 = .ok (.getfield 7, 3) := by decide +kernel
theorem dX9_share_152 : decode cX9_share 152 = .ok (.iconst 2, 1) := by decide +kernel
theorem dX9_share_153 : decode cX9_share 153 = .ok (.iaload, 1) := by decide +kernel
theorem dX9_share_154 : decode cX9_share 154 = .ok (.iload 6, 2) := by decide +kernel
theorem dX9_share_156 : decode cX9_share 156 = .ok (.invokestatic 166, 3) := by decide +kernel
theorem dX9_share_159 : decode cX9_share 159 = .ok (.ifCond .ne 7, 3) := by decide +kernel
theorem dX9_share_162 : decode cX9_share 162 = .ok (.iconst 1, 1) := by decide +kernel
theorem dX9_share_163 : decode cX9_share 163 = .ok (.goto 4, 3) := by decide +kernel
theorem dX9_share_166 : decode cX9_share 166 = .ok (.iconst 0, 1) := by decide +kernel
theorem dX9_share_167 : decode cX9_share 167 = .ok (.iadd, 1) := by decide +kernel
theorem dX9_share_168 : decode cX9_share 168 = .ok (.istore 5, 2) := by decide +kernel
theorem dX9_share_170 : decode cX9_share 170 = .ok (.iinc 6 1, 3) := by decide +kernel
theorem dX9_share_173 : decode cX9_share 173 = .ok (.goto (-77), 3) := by decide +kernel
theorem dX9_share_176 : decode cX9_share 176 = .ok (.iload_n 2, 1) := by decide +kernel
theorem dX9_share_177 : decode cX9_share 177 = .ok (.aload_n 0, 1) := by decide +kernel
theorem dX9_share_178 : decode cX9_share 178 = .ok (.iload_n 1, 1) := by decide +kernel
theorem dX9_share_179 : decode cX9_share 179 = .ok (.invokevirtual 146, 3) := by decide +kernel
theorem dX9_share_182 : decode cX9_share 182 = .ok (.imul, 1) := by decide +kernel
theorem dX9_share_183 : decode cX9_share 183 = .ok (.iload_n 3, 1) := by decide +kernel
theorem dX9_share_184 : decode cX9_share 184 = .ok (.idiv, 1) := by decide +kernel
theorem dX9_share_185 : decode cX9_share 185 = .ok (.iload 5, 2) := by decide +kernel
theorem dX9_share_187 : decode cX9_share 187 = .ok (.iload 4, 2) := by decide +kernel
theorem dX9_share_189 : decode cX9_share 189 = .ok (.if_icmp .ge 7, 3) := by decide +kernel
theorem dX9_share_192 : decode cX9_share 192 = .ok (.iconst 1, 1) := by decide +kernel
theorem dX9_share_193 : decode cX9_share 193 = .ok (.goto 4, 3) := by decide +kernel
theorem dX9_share_196 : decode cX9_share 196 = .ok (.iconst 0, 1) := by decide +kernel
theorem dX9_share_197 : decode cX9_share 197 = .ok (.iadd, 1) := by decide +kernel
theorem dX9_share_198 : decode cX9_share 198 = .ok (.ireturn, 1) := by decide +kernel
theorem dX9_drawn_0 : decode cX9_drawn 0 = .ok (.aload_n 0, 1) := by decide +kernel
theorem dX9_drawn_1 : decode cX9_drawn 1 = .ok (.iload_n 1, 1) := by decide +kernel
theorem dX9_drawn_2 : decode cX9_drawn 2 = .ok (.invokevirtual 143, 3) := by decide +kernel
theorem dX9_drawn_5 : decode cX9_drawn 5 = .ok (.ifCond .eq 38, 3) := by decide +kernel
theorem dX9_drawn_8 : decode cX9_drawn 8 = .ok (.iload_n 2, 1) := by decide +kernel
theorem dX9_drawn_9 : decode cX9_drawn 9 = .ok (.i2l, 1) := by decide +kernel
theorem dX9_drawn_10 : decode cX9_drawn 10 = .ok (.lconst 1, 1) := by decide +kernel
theorem dX9_drawn_11 : decode cX9_drawn 11 = .ok (.ldc2_w 230, 3) := by decide +kernel
theorem dX9_drawn_14 : decode cX9_drawn 14 = .ok (.invokestatic 48, 3) := by decide +kernel
theorem dX9_drawn_17 : decode cX9_drawn 17 = .ok (.ifCond .eq 26, 3) := by decide +kernel
theorem dX9_drawn_20 : decode cX9_drawn 20 = .ok (.iload_n 3, 1) := by decide +kernel
theorem dX9_drawn_21 : decode cX9_drawn 21 = .ok (.i2l, 1) := by decide +kernel
theorem dX9_drawn_22 : decode cX9_drawn 22 = .ok (.lconst 1, 1) := by decide +kernel
theorem dX9_drawn_23 : decode cX9_drawn 23 = .ok (.ldc2_w 232, 3) := by decide +kernel
theorem dX9_drawn_26 : decode cX9_drawn 26 = .ok (.invokestatic 48, 3) := by decide +kernel
theorem dX9_drawn_29 : decode cX9_drawn 29 = .ok (.ifCond .eq 14, 3) := by decide +kernel
theorem dX9_drawn_32 : decode cX9_drawn 32 = .ok (.iload 4, 2) := by decide +kernel
theorem dX9_drawn_34 : decode cX9_drawn 34 = .ok (.i2l, 1) := by decide +kernel
theorem dX9_drawn_35 : decode cX9_drawn 35 = .ok (.lconst 0, 1) := by decide +kernel
theorem dX9_drawn_36 : decode cX9_drawn 36 = .ok (.lconst 1, 1) := by decide +kernel
theorem dX9_drawn_37 : decode cX9_drawn 37 = .ok (.invokestatic 48, 3) := by decide +kernel
theorem dX9_drawn_40 : decode cX9_drawn 40 = .ok (.ifCond .ne 6, 3) := by decide +kernel
theorem dX9_drawn_43 : decode cX9_drawn 43 = .ok (.ldc 65, 2) := by decide +kernel
theorem dX9_drawn_45 : decode cX9_drawn 45 = .ok (.ireturn, 1) := by decide +kernel
theorem dX9_drawn_46 : decode cX9_drawn 46 = .ok (.aload_n 0, 1) := by decide +kernel
theorem dX9_drawn_47 : decode cX9_drawn 47 = .ok (.aload_n 0, 1) := by decide +kernel
theorem dX9_drawn_48 : decode cX9_drawn 48 = .ok (.getfield 7, 3) := by decide +kernel
theorem dX9_drawn_51 : decode cX9_drawn 51 = .ok (.iconst 2, 1) := by decide +kernel
theorem dX9_drawn_52 : decode cX9_drawn 52 = .ok (.iaload, 1) := by decide +kernel
theorem dX9_drawn_53 : decode cX9_drawn 53 = .ok (.invokevirtual 178, 3) := by decide +kernel
theorem dX9_drawn_56 : decode cX9_drawn 56 = .ok (.lconst 0, 1) := by decide +kernel
theorem dX9_drawn_57 : decode cX9_drawn 57 = .ok (.lstore 5, 2) := by decide +kernel
theorem dX9_drawn_59 : decode cX9_drawn 59 = .ok (.iconst 1, 1) := by decide +kernel
theorem dX9_drawn_60 : decode cX9_drawn 60 = .ok (.istore 7, 2) := by decide +kernel
theorem dX9_drawn_62 : decode cX9_drawn 62 = .ok (.iload 7, 2) := by decide +kernel
theorem dX9_drawn_64 : decode cX9_drawn 64 = .ok (.bipush 24, 2) := by decide +kernel
theorem dX9_drawn_66 : decode cX9_drawn 66 = .ok (.if_icmp .gt 29, 3) := by decide +kernel
theorem dX9_drawn_69 : decode cX9_drawn 69 = .ok (.lload 5, 2) := by decide +kernel
theorem dX9_drawn_71 : decode cX9_drawn 71 = .ok (.aload_n 0, 1) := by decide +kernel
theorem dX9_drawn_72 : decode cX9_drawn 72 = .ok (.getfield 28, 3) := by decide +kernel
theorem dX9_drawn_75 : decode cX9_drawn 75 = .ok (.bipush 25, 2) := by decide +kernel
theorem dX9_drawn_77 : decode cX9_drawn 77 = .ok (.iload_n 1, 1) := by decide +kernel
theorem dX9_drawn_78 : decode cX9_drawn 78 = .ok (.imul, 1) := by decide +kernel
theorem dX9_drawn_79 : decode cX9_drawn 79 = .ok (.iload 7, 2) := by decide +kernel
theorem dX9_drawn_81 : decode cX9_drawn 81 = .ok (.iadd, 1) := by decide +kernel
theorem dX9_drawn_82 : decode cX9_drawn 82 = .ok (.laload, 1) := by decide +kernel
theorem dX9_drawn_83 : decode cX9_drawn 83 = .ok (.ladd, 1) := by decide +kernel
theorem dX9_drawn_84 : decode cX9_drawn 84 = .ok (.invokestatic 162, 3) := by decide +kernel
theorem dX9_drawn_87 : decode cX9_drawn 87 = .ok (.lstore 5, 2) := by decide +kernel
theorem dX9_drawn_89 : decode cX9_drawn 89 = .ok (.iinc 7 1, 3) := by decide +kernel
theorem dX9_drawn_92 : decode cX9_drawn 92 = .ok (.goto (-30), 3) := by decide +kernel
theorem dX9_drawn_95 : decode cX9_drawn 95 = .ok (.lload 5, 2) := by decide +kernel
theorem dX9_drawn_97 : decode cX9_drawn 97 = .ok (.lconst 0, 1) := by decide +kernel
theorem dX9_drawn_98 : decode cX9_drawn 98 = .ok (.lcmp, 1) := by decide +kernel
theorem dX9_drawn_99 : decode cX9_drawn 99 = .ok (.ifCond .ne 6, 3) := by decide +kernel
theorem dX9_drawn_102 : decode cX9_drawn 102 = .ok (.ldc 137, 2) := by decide +kernel
theorem dX9_drawn_104 : decode cX9_drawn 104 = .ok (.ireturn, 1) := by decide +kernel
theorem dX9_drawn_105 : decode cX9_drawn 105 = .ok (.aload_n 0, 1) := by decide +kernel
theorem dX9_drawn_106 : decode cX9_drawn 106 = .ok (.lload 5, 2) := by decide +kernel
theorem dX9_drawn_108 : decode cX9_drawn 108 = .ok (.invokevirtual 182, 3) := by decide +kernel
theorem dX9_drawn_111 : decode cX9_drawn 111 = .ok (.istore 7, 2) := by decide +kernel
theorem dX9_drawn_113 : decode cX9_drawn 113 = .ok (.iload_n 3, 1) := by decide +kernel
theorem dX9_drawn_114 : decode cX9_drawn 114 = .ok (.i2l, 1) := by decide +kernel
theorem dX9_drawn_115 : decode cX9_drawn 115 = .ok (.lstore 8, 2) := by decide +kernel
theorem dX9_drawn_117 : decode cX9_drawn 117 = .ok (.iconst 0, 1) := by decide +kernel
theorem dX9_drawn_118 : decode cX9_drawn 118 = .ok (.istore 10, 2) := by decide +kernel
theorem dX9_drawn_120 : decode cX9_drawn 120 = .ok (.iconst 0, 1) := by decide +kernel
theorem dX9_drawn_121 : decode cX9_drawn 121 = .ok (.istore 11, 2) := by decide +kernel
theorem dX9_drawn_123 : decode cX9_drawn 123 = .ok (.iload 11, 2) := by decide +kernel
theorem dX9_drawn_125 : decode cX9_drawn 125 = .ok (.iload_n 2, 1) := by decide +kernel
theorem dX9_drawn_126 : decode cX9_drawn 126 = .ok (.if_icmp .ge 65, 3) := by decide +kernel
theorem dX9_drawn_129 : decode cX9_drawn 129 = .ok (.lload 8, 2) := by decide +kernel
theorem dX9_drawn_131 : decode cX9_drawn 131 = .ok (.ldc2_w 234, 3) := by decide +kernel
theorem dX9_drawn_134 : decode cX9_drawn 134 = .ok (.lmul, 1) := by decide +kernel
theorem dX9_drawn_135 : decode cX9_drawn 135 = .ok (.ldc2_w 236, 3) := by decide +kernel
theorem dX9_drawn_138 : decode cX9_drawn 138 = .ok (.lrem, 1) := by decide +kernel
theorem dX9_drawn_139 : decode cX9_drawn 139 = .ok (.lstore 8, 2) := by decide +kernel
theorem dX9_drawn_141 : decode cX9_drawn 141 = .ok (.aload_n 0, 1) := by decide +kernel
theorem dX9_drawn_142 : decode cX9_drawn 142 = .ok (.iload_n 1, 1) := by decide +kernel
theorem dX9_drawn_143 : decode cX9_drawn 143 = .ok (.lload 8, 2) := by decide +kernel
theorem dX9_drawn_145 : decode cX9_drawn 145 = .ok (.iload 7, 2) := by decide +kernel
theorem dX9_drawn_147 : decode cX9_drawn 147 = .ok (.i2l, 1) := by decide +kernel
theorem dX9_drawn_148 : decode cX9_drawn 148 = .ok (.lrem, 1) := by decide +kernel
theorem dX9_drawn_149 : decode cX9_drawn 149 = .ok (.l2i, 1) := by decide +kernel
theorem dX9_drawn_150 : decode cX9_drawn 150 = .ok (.invokevirtual 212, 3) := by decide +kernel
theorem dX9_drawn_153 : decode cX9_drawn 153 = .ok (.istore 12, 2) := by decide +kernel
theorem dX9_drawn_155 : decode cX9_drawn 155 = .ok (.iload 10, 2) := by decide +kernel
theorem dX9_drawn_157 : decode cX9_drawn 157 = .ok (.iload 12, 2) := by decide +kernel
theorem dX9_drawn_159 : decode cX9_drawn 159 = .ok (.ifCond .ne 7, 3) := by decide +kernel
theorem dX9_drawn_162 : decode cX9_drawn 162 = .ok (.iconst 0, 1) := by decide +kernel
theorem dX9_drawn_163 : decode cX9_drawn 163 = .ok (.goto 19, 3) := by decide +kernel
theorem dX9_drawn_166 : decode cX9_drawn 166 = .ok (.iload 4, 2) := by decide +kernel
theorem dX9_drawn_168 : decode cX9_drawn 168 = .ok (.ifCond .ne 10, 3) := by decide +kernel
theorem dX9_drawn_171 : decode cX9_drawn 171 = .ok (.aload_n 0, 1) := by decide +kernel
theorem dX9_drawn_172 : decode cX9_drawn 172 = .ok (.getfield 201, 3) := by decide +kernel
theorem dX9_drawn_175 : decode cX9_drawn 175 = .ok (.goto 7, 3) := by decide +kernel
theorem dX9_drawn_178 : decode cX9_drawn 178 = .ok (.aload_n 0, 1) := by decide +kernel
theorem dX9_drawn_179 : decode cX9_drawn 179 = .ok (.getfield 198, 3) := by decide +kernel
theorem dX9_drawn_182 : decode cX9_drawn 182 = .ok (.iadd, 1) := by decide +kernel
theorem dX9_drawn_183 : decode cX9_drawn 183 = .ok (.istore 10, 2) := by decide +kernel
theorem dX9_drawn_185 : decode cX9_drawn 185 = .ok (.iinc 11 1, 3) := by decide +kernel
theorem dX9_drawn_188 : decode cX9_drawn 188 = .ok (.goto (-65), 3) := by decide +kernel
theorem dX9_drawn_191 : decode cX9_drawn 191 = .ok (.iload 10, 2) := by decide +kernel
theorem dX9_drawn_193 : decode cX9_drawn 193 = .ok (.ireturn, 1) := by decide +kernel
theorem dX9_image_0 : decode cX9_image 0 = .ok (.iload_n 1, 1) := by decide +kernel
theorem dX9_image_1 : decode cX9_image 1 = .ok (.i2l, 1) := by decide +kernel
theorem dX9_image_2 : decode cX9_image 2 = .ok (.lconst 0, 1) := by decide +kernel
theorem dX9_image_3 : decode cX9_image 3 = .ok (.lconst 1, 1) := by decide +kernel
theorem dX9_image_4 : decode cX9_image 4 = .ok (.invokestatic 48, 3) := by decide +kernel
theorem dX9_image_7 : decode cX9_image 7 = .ok (.ifCond .ne 6, 3) := by decide +kernel
theorem dX9_image_10 : decode cX9_image 10 = .ok (.ldc 65, 2) := by decide +kernel
theorem dX9_image_12 : decode cX9_image 12 = .ok (.ireturn, 1) := by decide +kernel
theorem dX9_image_13 : decode cX9_image 13 = .ok (.aload_n 0, 1) := by decide +kernel
theorem dX9_image_14 : decode cX9_image 14 = .ok (.invokevirtual 215, 3) := by decide +kernel
theorem dX9_image_17 : decode cX9_image 17 = .ok (.ifCond .ne 6, 3) := by decide +kernel
theorem dX9_image_20 : decode cX9_image 20 = .ok (.ldc 137, 2) := by decide +kernel
theorem dX9_image_22 : decode cX9_image 22 = .ok (.ireturn, 1) := by decide +kernel
theorem dX9_image_23 : decode cX9_image 23 = .ok (.aload_n 0, 1) := by decide +kernel
theorem dX9_image_24 : decode cX9_image 24 = .ok (.iconst 0, 1) := by decide +kernel
theorem dX9_image_25 : decode cX9_image 25 = .ok (.sipush 166, 3) := by decide +kernel
theorem dX9_image_28 : decode cX9_image 28 = .ok (.bipush 83, 2) := by decide +kernel
theorem dX9_image_30 : decode cX9_image 30 = .ok (.iload_n 1, 1) := by decide +kernel
theorem dX9_image_31 : decode cX9_image 31 = .ok (.imul, 1) := by decide +kernel
theorem dX9_image_32 : decode cX9_image 32 = .ok (.iadd, 1) := by decide +kernel
theorem dX9_image_33 : decode cX9_image 33 = .ok (.invokevirtual 127, 3) := by decide +kernel
theorem dX9_image_36 : decode cX9_image 36 = .ok (.aload_n 0, 1) := by decide +kernel
theorem dX9_image_37 : decode cX9_image 37 = .ok (.getfield 41, 3) := by decide +kernel
theorem dX9_image_40 : decode cX9_image 40 = .ok (.iload_n 1, 1) := by decide +kernel
theorem dX9_image_41 : decode cX9_image 41 = .ok (.iconst 1, 1) := by decide +kernel
theorem dX9_image_42 : decode cX9_image 42 = .ok (.bastore, 1) := by decide +kernel
theorem dX9_image_43 : decode cX9_image 43 = .ok (.iconst 1, 1) := by decide +kernel
theorem dX9_image_44 : decode cX9_image 44 = .ok (.ireturn, 1) := by decide +kernel
theorem dX9_restore_0 : decode cX9_restore 0 = .ok (.iload_n 1, 1) := by decide +kernel
theorem dX9_restore_1 : decode cX9_restore 1 = .ok (.i2l, 1) := by decide +kernel
theorem dX9_restore_2 : decode cX9_restore 2 = .ok (.lconst 0, 1) := by decide +kernel
theorem dX9_restore_3 : decode cX9_restore 3 = .ok (.lconst 1, 1) := by decide +kernel
theorem dX9_restore_4 : decode cX9_restore 4 = .ok (.invokestatic 48, 3) := by decide +kernel
theorem dX9_restore_7 : decode cX9_restore 7 = .ok (.ifCond .ne 6, 3) := by decide +kernel
theorem dX9_restore_10 : decode cX9_restore 10 = .ok (.ldc 65, 2) := by decide +kernel
theorem dX9_restore_12 : decode cX9_restore 12 = .ok (.ireturn, 1) := by decide +kernel
theorem dX9_restore_13 : decode cX9_restore 13 = .ok (.aload_n 0, 1) := by decide +kernel
theorem dX9_restore_14 : decode cX9_restore 14 = .ok (.getfield 41, 3) := by decide +kernel
theorem dX9_restore_17 : decode cX9_restore 17 = .ok (.iload_n 1, 1) := by decide +kernel
theorem dX9_restore_18 : decode cX9_restore 18 = .ok (.baload, 1) := by decide +kernel
theorem dX9_restore_19 : decode cX9_restore 19 = .ok (.ifCond .ne 6, 3) := by decide +kernel
theorem dX9_restore_22 : decode cX9_restore 22 = .ok (.ldc 137, 2) := by decide +kernel
theorem dX9_restore_24 : decode cX9_restore 24 = .ok (.ireturn, 1) := by decide +kernel
theorem dX9_restore_25 : decode cX9_restore 25 = .ok (.aload_n 0, 1) := by decide +kernel
theorem dX9_restore_26 : decode cX9_restore 26 = .ok (.sipush 166, 3) := by decide +kernel
theorem dX9_restore_29 : decode cX9_restore 29 = .ok (.bipush 83, 2) := by decide +kernel
theorem dX9_restore_31 : decode cX9_restore 31 = .ok (.iload_n 1, 1) := by decide +kernel
theorem dX9_restore_32 : decode cX9_restore 32 = .ok (.imul, 1) := by decide +kernel
theorem dX9_restore_33 : decode cX9_restore 33 = .ok (.iadd, 1) := by decide +kernel
theorem dX9_restore_34 : decode cX9_restore 34 = .ok (.iconst 0, 1) := by decide +kernel
theorem dX9_restore_35 : decode cX9_restore 35 = .ok (.invokevirtual 127, 3) := by decide +kernel
theorem dX9_restore_38 : decode cX9_restore 38 = .ok (.aload_n 0, 1) := by decide +kernel
theorem dX9_restore_39 : decode cX9_restore 39 = .ok (.iconst 0, 1) := by decide +kernel
theorem dX9_restore_40 : decode cX9_restore 40 = .ok (.putfield 131, 3) := by decide +kernel
theorem dX9_restore_43 : decode cX9_restore 43 = .ok (.iconst 1, 1) := by decide +kernel
theorem dX9_restore_44 : decode cX9_restore 44 = .ok (.ireturn, 1) := by decide +kernel
theorem dX9_kind_0 : decode cX9_kind 0 = .ok (.aload_n 0, 1) := by decide +kernel
theorem dX9_kind_1 : decode cX9_kind 1 = .ok (.iload_n 1, 1) := by decide +kernel
theorem dX9_kind_2 : decode cX9_kind 2 = .ok (.invokevirtual 134, 3) := by decide +kernel
theorem dX9_kind_5 : decode cX9_kind 5 = .ok (.ifCond .eq 15, 3) := by decide +kernel
theorem dX9_kind_8 : decode cX9_kind 8 = .ok (.aload_n 0, 1) := by decide +kernel
theorem dX9_kind_9 : decode cX9_kind 9 = .ok (.getfield 7, 3) := by decide +kernel
theorem dX9_kind_12 : decode cX9_kind 12 = .ok (.bipush 11, 2) := by decide +kernel
theorem dX9_kind_14 : decode cX9_kind 14 = .ok (.iload_n 1, 1) := by decide +kernel
theorem dX9_kind_15 : decode cX9_kind 15 = .ok (.iadd, 1) := by decide +kernel
theorem dX9_kind_16 : decode cX9_kind 16 = .ok (.iaload, 1) := by decide +kernel
theorem dX9_kind_17 : decode cX9_kind 17 = .ok (.goto 5, 3) := by decide +kernel
theorem dX9_kind_20 : decode cX9_kind 20 = .ok (.ldc 65, 2) := by decide +kernel
theorem dX9_kind_22 : decode cX9_kind 22 = .ok (.ireturn, 1) := by decide +kernel
theorem dX9_isA_0 : decode cX9_isA 0 = .ok (.iload_n 1, 1) := by decide +kernel
theorem dX9_isA_1 : decode cX9_isA 1 = .ok (.ifCond .eq 33, 3) := by decide +kernel
theorem dX9_isA_4 : decode cX9_isA 4 = .ok (.iload_n 1, 1) := by decide +kernel
theorem dX9_isA_5 : decode cX9_isA 5 = .ok (.iload_n 0, 1) := by decide +kernel
theorem dX9_isA_6 : decode cX9_isA 6 = .ok (.if_icmp .eq 28, 3) := by decide +kernel
theorem dX9_isA_9 : decode cX9_isA 9 = .ok (.iload_n 1, 1) := by decide +kernel
theorem dX9_isA_10 : decode cX9_isA 10 = .ok (.iconst 1, 1) := by decide +kernel
theorem dX9_isA_11 : decode cX9_isA 11 = .ok (.if_icmp .ne 13, 3) := by decide +kernel
theorem dX9_isA_14 : decode cX9_isA 14 = .ok (.iload_n 0, 1) := by decide +kernel
theorem dX9_isA_15 : decode cX9_isA 15 = .ok (.iconst 2, 1) := by decide +kernel
theorem dX9_isA_16 : decode cX9_isA 16 = .ok (.if_icmp .eq 18, 3) := by decide +kernel
theorem dX9_isA_19 : decode cX9_isA 19 = .ok (.iload_n 0, 1) := by decide +kernel
theorem dX9_isA_20 : decode cX9_isA 20 = .ok (.iconst 3, 1) := by decide +kernel
