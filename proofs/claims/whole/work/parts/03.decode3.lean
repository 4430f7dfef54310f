theorem dX9_set_12 : decode cX9_set 12 = .ok (.iload_n 2, 1) := by decide +kernel
theorem dX9_set_13 : decode cX9_set 13 = .ok (.iconst 1, 1) := by decide +kernel
theorem dX9_set_14 : decode cX9_set 14 = .ok (.invokevirtual 70, 3) := by decide +kernel
theorem dX9_set_17 : decode cX9_set 17 = .ok (.istore 4, 2) := by decide +kernel
theorem dX9_set_19 : decode cX9_set 19 = .ok (.iload 4, 2) := by decide +kernel
theorem dX9_set_21 : decode cX9_set 21 = .ok (.ifCond .le 10, 3) := by decide +kernel
theorem dX9_set_24 : decode cX9_set 24 = .ok (.aload_n 0, 1) := by decide +kernel
theorem dX9_set_25 : decode cX9_set 25 = .ok (.iload 4, 2) := by decide +kernel
theorem dX9_set_27 : decode cX9_set 27 = .ok (.invokevirtual 66, 3) := by decide +kernel
theorem dX9_set_30 : decode cX9_set 30 = .ok (.ireturn, 1) := by decide +kernel
theorem dX9_set_31 : decode cX9_set 31 = .ok (.aload_n 0, 1) := by decide +kernel
theorem dX9_set_32 : decode cX9_set 32 = .ok (.iconst 0, 1) := by decide +kernel
theorem dX9_set_33 : decode cX9_set 33 = .ok (.putfield 54, 3) := by decide +kernel
theorem dX9_set_36 : decode cX9_set 36 = .ok (.aload_n 0, 1) := by decide +kernel
theorem dX9_set_37 : decode cX9_set 37 = .ok (.getfield 22, 3) := by decide +kernel
theorem dX9_set_40 : decode cX9_set 40 = .ok (.bipush 40, 2) := by decide +kernel
theorem dX9_set_42 : decode cX9_set 42 = .ok (.iload_n 1, 1) := by decide +kernel
theorem dX9_set_43 : decode cX9_set 43 = .ok (.imul, 1) := by decide +kernel
theorem dX9_set_44 : decode cX9_set 44 = .ok (.iload_n 2, 1) := by decide +kernel
theorem dX9_set_45 : decode cX9_set 45 = .ok (.iadd, 1) := by decide +kernel
theorem dX9_set_46 : decode cX9_set 46 = .ok (.aload_n 0, 1) := by decide +kernel
theorem dX9_set_47 : decode cX9_set 47 = .ok (.getfield 19, 3) := by decide +kernel
theorem dX9_set_50 : decode cX9_set 50 = .ok (.iload_n 1, 1) := by decide +kernel
theorem dX9_set_51 : decode cX9_set 51 = .ok (.iaload, 1) := by decide +kernel
theorem dX9_set_52 : decode cX9_set 52 = .ok (.ifCond .ne 8, 3) := by decide +kernel
theorem dX9_set_55 : decode cX9_set 55 = .ok (.iload_n 3, 1) := by decide +kernel
theorem dX9_set_56 : decode cX9_set 56 = .ok (.i2b, 1) := by decide +kernel
theorem dX9_set_57 : decode cX9_set 57 = .ok (.goto 19, 3) := by decide +kernel
theorem dX9_set_60 : decode cX9_set 60 = .ok (.aload_n 0, 1) := by decide +kernel
theorem dX9_set_61 : decode cX9_set 61 = .ok (.getfield 19, 3) := by decide +kernel
theorem dX9_set_64 : decode cX9_set 64 = .ok (.iload_n 1, 1) := by decide +kernel
theorem dX9_set_65 : decode cX9_set 65 = .ok (.iaload, 1) := by decide +kernel
theorem dX9_set_66 : decode cX9_set 66 = .ok (.iconst 1, 1) := by decide +kernel
theorem dX9_set_67 : decode cX9_set 67 = .ok (.if_icmp .ne 8, 3) := by decide +kernel
theorem dX9_set_70 : decode cX9_set 70 = .ok (.iload_n 3, 1) := by decide +kernel
theorem dX9_set_71 : decode cX9_set 71 = .ok (.i2s, 1) := by decide +kernel
theorem dX9_set_72 : decode cX9_set 72 = .ok (.goto 4, 3) := by decide +kernel
theorem dX9_set_75 : decode cX9_set 75 = .ok (.iload_n 3, 1) := by decide +kernel
theorem dX9_set_76 : decode cX9_set 76 = .ok (.iastore, 1) := by decide +kernel
theorem dX9_set_77 : decode cX9_set 77 = .ok (.aload_n 0, 1) := by decide +kernel
theorem dX9_set_78 : decode cX9_set 78 = .ok (.getfield 22, 3) := by decide +kernel
theorem dX9_set_81 : decode cX9_set 81 = .ok (.bipush 40, 2) := by decide +kernel
theorem dX9_set_83 : decode cX9_set 83 = .ok (.iload_n 1, 1) := by decide +kernel
theorem dX9_set_84 : decode cX9_set 84 = .ok (.imul, 1) := by decide +kernel
theorem dX9_set_85 : decode cX9_set 85 = .ok (.iload_n 2, 1) := by decide +kernel
theorem dX9_set_86 : decode cX9_set 86 = .ok (.iadd, 1) := by decide +kernel
theorem dX9_set_87 : decode cX9_set 87 = .ok (.iaload, 1) := by decide +kernel
theorem dX9_set_88 : decode cX9_set 88 = .ok (.ireturn, 1) := by decide +kernel
theorem dX9_copy_0 : decode cX9_copy 0 = .ok (.iload_n 1, 1) := by decide +kernel
theorem dX9_copy_1 : decode cX9_copy 1 = .ok (.invokestatic 59, 3) := by decide +kernel
theorem dX9_copy_4 : decode cX9_copy 4 = .ok (.ifCond .eq 10, 3) := by decide +kernel
theorem dX9_copy_7 : decode cX9_copy 7 = .ok (.iload_n 3, 1) := by decide +kernel
theorem dX9_copy_8 : decode cX9_copy 8 = .ok (.invokestatic 59, 3) := by decide +kernel
theorem dX9_copy_11 : decode cX9_copy 11 = .ok (.ifCond .ne 6, 3) := by decide +kernel
theorem dX9_copy_14 : decode cX9_copy 14 = .ok (.ldc 65, 2) := by decide +kernel
theorem dX9_copy_16 : decode cX9_copy 16 = .ok (.ireturn, 1) := by decide +kernel
theorem dX9_copy_17 : decode cX9_copy 17 = .ok (.aload_n 0, 1) := by decide +kernel
theorem dX9_copy_18 : decode cX9_copy 18 = .ok (.getfield 16, 3) := by decide +kernel
theorem dX9_copy_21 : decode cX9_copy 21 = .ok (.iload_n 1, 1) := by decide +kernel
theorem dX9_copy_22 : decode cX9_copy 22 = .ok (.iaload, 1) := by decide +kernel
theorem dX9_copy_23 : decode cX9_copy 23 = .ok (.ifCond .lt 12, 3) := by decide +kernel
theorem dX9_copy_26 : decode cX9_copy 26 = .ok (.aload_n 0, 1) := by decide +kernel
theorem dX9_copy_27 : decode cX9_copy 27 = .ok (.getfield 16, 3) := by decide +kernel
theorem dX9_copy_30 : decode cX9_copy 30 = .ok (.iload_n 3, 1) := by decide +kernel
theorem dX9_copy_31 : decode cX9_copy 31 = .ok (.iaload, 1) := by decide +kernel
theorem dX9_copy_32 : decode cX9_copy 32 = .ok (.ifCond .ge 9, 3) := by decide +kernel
theorem dX9_copy_35 : decode cX9_copy 35 = .ok (.aload_n 0, 1) := by decide +kernel
theorem dX9_copy_36 : decode cX9_copy 36 = .ok (.iconst 1, 1) := by decide +kernel
theorem dX9_copy_37 : decode cX9_copy 37 = .ok (.invokevirtual 66, 3) := by decide +kernel
theorem dX9_copy_40 : decode cX9_copy 40 = .ok (.ireturn, 1) := by decide +kernel
theorem dX9_copy_41 : decode cX9_copy 41 = .ok (.aload_n 0, 1) := by decide +kernel
theorem dX9_copy_42 : decode cX9_copy 42 = .ok (.getfield 19, 3) := by decide +kernel
theorem dX9_copy_45 : decode cX9_copy 45 = .ok (.iload_n 1, 1) := by decide +kernel
theorem dX9_copy_46 : decode cX9_copy 46 = .ok (.iaload, 1) := by decide +kernel
theorem dX9_copy_47 : decode cX9_copy 47 = .ok (.aload_n 0, 1) := by decide +kernel
theorem dX9_copy_48 : decode cX9_copy 48 = .ok (.getfield 19, 3) := by decide +kernel
theorem dX9_copy_51 : decode cX9_copy 51 = .ok (.iload_n 3, 1) := by decide +kernel
theorem dX9_copy_52 : decode cX9_copy 52 = .ok (.iaload, 1) := by decide +kernel
theorem dX9_copy_53 : decode cX9_copy 53 = .ok (.if_icmp .eq 9, 3) := by decide +kernel
theorem dX9_copy_56 : decode cX9_copy 56 = .ok (.aload_n 0, 1) := by decide +kernel
theorem dX9_copy_57 : decode cX9_copy 57 = .ok (.iconst 5, 1) := by decide +kernel
theorem dX9_copy_58 : decode cX9_copy 58 = .ok (.invokevirtual 66, 3) := by decide +kernel
theorem dX9_copy_61 : decode cX9_copy 61 = .ok (.ireturn, 1) := by decide +kernel
theorem dX9_copy_62 : decode cX9_copy 62 = .ok (.aload_n 0, 1) := by decide +kernel
theorem dX9_copy_63 : decode cX9_copy 63 = .ok (.iload_n 1, 1) := by decide +kernel
theorem dX9_copy_64 : decode cX9_copy 64 = .ok (.iload_n 2, 1) := by decide +kernel
theorem dX9_copy_65 : decode cX9_copy 65 = .ok (.iload 5, 2) := by decide +kernel
theorem dX9_copy_67 : decode cX9_copy 67 = .ok (.invokevirtual 70, 3) := by decide +kernel
theorem dX9_copy_70 : decode cX9_copy 70 = .ok (.ifCond .gt 15, 3) := by decide +kernel
theorem dX9_copy_73 : decode cX9_copy 73 = .ok (.aload_n 0, 1) := by decide +kernel
theorem dX9_copy_74 : decode cX9_copy 74 = .ok (.iload_n 3, 1) := by decide +kernel
theorem dX9_copy_75 : decode cX9_copy 75 = .ok (.iload 4, 2) := by decide +kernel
theorem dX9_copy_77 : decode cX9_copy 77 = .ok (.iload 5, 2) := by decide +kernel
theorem dX9_copy_79 : decode cX9_copy 79 = .ok (.invokevirtual 70, 3) := by decide +kernel
theorem dX9_copy_82 : decode cX9_copy 82 = .ok (.ifCond .le 9, 3) := by decide +kernel
theorem dX9_copy_85 : decode cX9_copy 85 = .ok (.aload_n 0, 1) := by decide +kernel
theorem dX9_copy_86 : decode cX9_copy 86 = .ok (.iconst 2, 1) := by decide +kernel
theorem dX9_copy_87 : decode cX9_copy 87 = .ok (.invokevirtual 66, 3) := by decide +kernel
theorem dX9_copy_90 : decode cX9_copy 90 = .ok (.ireturn, 1) := by decide +kernel
theorem dX9_copy_91 : decode cX9_copy 91 = .ok (.aload_n 0, 1) := by decide +kernel
theorem dX9_copy_92 : decode cX9_copy 92 = .ok (.iconst 0, 1) := by decide +kernel
theorem dX9_copy_93 : decode cX9_copy 93 = .ok (.putfield 54, 3) := by decide +kernel
theorem dX9_copy_96 : decode cX9_copy 96 = .ok (.iconst 0, 1) := by decide +kernel
theorem dX9_copy_97 : decode cX9_copy 97 = .ok (.istore 6, 2) := by decide +kernel
theorem dX9_copy_99 : decode cX9_copy 99 = .ok (.iload 6, 2) := by decide +kernel
theorem dX9_copy_101 : decode cX9_copy 101 = .ok (.iload 5, 2) := by decide +kernel
theorem dX9_copy_103 : decode cX9_copy 103 = .ok (.if_icmp .ge 30, 3) := by decide +kernel
theorem dX9_copy_106 : decode cX9_copy 106 = .ok (.aload_n 0, 1) := by decide +kernel
theorem dX9_copy_107 : decode cX9_copy 107 = .ok (.getfield 25, 3) := by decide +kernel
theorem dX9_copy_110 : decode cX9_copy 110 = .ok (.iload 6, 2) := by decide +kernel
theorem dX9_copy_112 : decode cX9_copy 112 = .ok (.aload_n 0, 1) := by decide +kernel
theorem dX9_copy_113 : decode cX9_copy 113 = .ok (.getfield 22, 3) := by decide +kernel
theorem dX9_copy_116 : decode cX9_copy 116 = .ok (.bipush 40, 2) := by decide +kernel
theorem dX9_copy_118 : decode cX9_copy 118 = .ok (.iload_n 1, 1) := by decide +kernel
theorem dX9_copy_119 : decode cX9_copy 119 = .ok (.imul, 1) := by decide +kernel
theorem dX9_copy_120 : decode cX9_copy 120 = .ok (.iload_n 2, 1) := by decide +kernel
theorem dX9_copy_121 : decode cX9_copy 121 = .ok (.iadd, 1) := by decide +kernel
theorem dX9_copy_122 : decode cX9_copy 122 = .ok (.iload 6, 2) := by decide +kernel
theorem dX9_copy_124 : decode cX9_copy 124 = .ok (.iadd, 1) := by decide +kernel
theorem dX9_copy_125 : decode cX9_copy 125 = .ok (.iaload, 1) := by decide +kernel
theorem dX9_copy_126 : decode cX9_copy 126 = .ok (.iastore, 1) := by decide +kernel
theorem dX9_copy_127 : decode cX9_copy 127 = .ok (.iinc 6 1, 3) := by decide +kernel
theorem dX9_copy_130 : decode cX9_copy 130 = .ok (.goto (-31), 3) := by decide +kernel
theorem dX9_copy_133 : decode cX9_copy 133 = .ok (.iconst 0, 1) := by decide +kernel
theorem dX9_copy_134 : decode cX9_copy 134 = .ok (.istore 6, 2) := by decide +kernel
theorem dX9_copy_136 : decode cX9_copy 136 = .ok (.iload 6, 2) := by decide +kernel
theorem dX9_copy_138 : decode cX9_copy 138 = .ok (.iload 5, 2) := by decide +kernel
theorem dX9_copy_140 : decode cX9_copy 140 = .ok (.if_icmp .ge 31, 3) := by decide +kernel
theorem dX9_copy_143 : decode cX9_copy 143 = .ok (.aload_n 0, 1) := by decide +kernel
theorem dX9_copy_144 : decode cX9_copy 144 = .ok (.getfield 22, 3) := by decide +kernel
theorem dX9_copy_147 : decode cX9_copy 147 = .ok (.bipush 40, 2) := by decide +kernel
theorem dX9_copy_149 : decode cX9_copy 149 = .ok (.iload_n 3, 1) := by decide +kernel
theorem dX9_copy_150 : decode cX9_copy 150 = .ok (.imul, 1) := by decide +kernel
theorem dX9_copy_151 : decode cX9_copy 151 = .ok (.iload 4, 2) := by decide +kernel
theorem dX9_copy_153 : decode cX9_copy 153 = .ok (.iadd, 1) := by decide +kernel
theorem dX9_copy_154 : decode cX9_copy 154 = .ok (.iload 6, 2) := by decide +kernel
theorem dX9_copy_156 : decode cX9_copy 156 = .ok (.iadd, 1) := by decide +kernel
theorem dX9_copy_157 : decode cX9_copy 157 = .ok (.aload_n 0, 1) := by decide +kernel
theorem dX9_copy_158 : decode cX9_copy 158 = .ok (.getfield 25, 3) := by decide +kernel
theorem dX9_copy_161 : decode cX9_copy 161 = .ok (.iload 6, 2) := by decide +kernel
theorem dX9_copy_163 : decode cX9_copy 163 = .ok (.iaload, 1) := by decide +kernel
theorem dX9_copy_164 : decode cX9_copy 164 = .ok (.iastore, 1) := by decide +kernel
theorem dX9_copy_165 : decode cX9_copy 165 = .ok (.iinc 6 1, 3) := by decide +kernel
theorem dX9_copy_168 : decode cX9_copy 168 = .ok (.goto (-32), 3) := by decide +kernel
theorem dX9_copy_171 : decode cX9_copy 171 = .ok (.iload 5, 2) := by decide +kernel
theorem dX9_copy_173 : decode cX9_copy 173 = .ok (.ireturn, 1) := by decide +kernel
theorem dX9_drop_0 : decode cX9_drop 0 = .ok (.iload_n 1, 1) := by decide +kernel
theorem dX9_drop_1 : decode cX9_drop 1 = .ok (.invokestatic 59, 3) := by decide +kernel
theorem dX9_drop_4 : decode cX9_drop 4 = .ok (.ifCond .ne 6, 3) := by decide +kernel
theorem dX9_drop_7 : decode cX9_drop 7 = .ok (.ldc 65, 2) := by decide +kernel
theorem dX9_drop_9 : decode cX9_drop 9 = .ok (.ireturn, 1) := by decide +kernel
theorem dX9_drop_10 : decode cX9_drop 10 = .ok (.aload_n 0, 1) := by decide +kernel
theorem dX9_drop_11 : decode cX9_drop 11 = .ok (.getfield 16, 3) := by decide +kernel
theorem dX9_drop_14 : decode cX9_drop 14 = .ok (.iload_n 1, 1) := by decide +kernel
theorem dX9_drop_15 : decode cX9_drop 15 = .ok (.iaload, 1) := by decide +kernel
theorem dX9_drop_16 : decode cX9_drop 16 = .ok (.ifCond .ge 9, 3) := by decide +kernel
theorem dX9_drop_19 : decode cX9_drop 19 = .ok (.aload_n 0, 1) := by decide +kernel
theorem dX9_drop_20 : decode cX9_drop 20 = .ok (.iconst 1, 1) := by decide +kernel
theorem dX9_drop_21 : decode cX9_drop 21 = .ok (.invokevirtual 66, 3) := by decide +kernel
theorem dX9_drop_24 : decode cX9_drop 24 = .ok (.ireturn, 1) := by decide +kernel
theorem dX9_drop_25 : decode cX9_drop 25 = .ok (.aload_n 0, 1) := by decide +kernel
theorem dX9_drop_26 : decode cX9_drop 26 = .ok (.iconst 0, 1) := by decide +kernel
theorem dX9_drop_27 : decode cX9_drop 27 = .ok (.putfield 54, 3) := by decide +kernel
theorem dX9_drop_30 : decode cX9_drop 30 = .ok (.aload_n 0, 1) := by decide +kernel
theorem dX9_drop_31 : decode cX9_drop 31 = .ok (.getfield 16, 3) := by decide +kernel
theorem dX9_drop_34 : decode cX9_drop 34 = .ok (.iload_n 1, 1) := by decide +kernel
theorem dX9_drop_35 : decode cX9_drop 35 = .ok (.iaload, 1) := by decide +kernel
theorem dX9_drop_36 : decode cX9_drop 36 = .ok (.istore_n 2, 1) := by decide +kernel
theorem dX9_drop_37 : decode cX9_drop 37 = .ok (.aload_n 0, 1) := by decide +kernel
theorem dX9_drop_38 : decode cX9_drop 38 = .ok (.getfield 16, 3) := by decide +kernel
theorem dX9_drop_41 : decode cX9_drop 41 = .ok (.iload_n 1, 1) := by decide +kernel
theorem dX9_drop_42 : decode cX9_drop 42 = .ok (.iconst (-1), 1) := by decide +kernel
theorem dX9_drop_43 : decode cX9_drop 43 = .ok (.iastore, 1) := by decide +kernel
theorem dX9_drop_44 : decode cX9_drop 44 = .ok (.iload_n 2, 1) := by decide +kernel
theorem dX9_drop_45 : decode cX9_drop 45 = .ok (.ireturn, 1) := by decide +kernel
theorem dX9_feed_0 : decode cX9_feed 0 = .ok (.iload_n 1, 1) := by decide +kernel
theorem dX9_feed_1 : decode cX9_feed 1 = .ok (.i2l, 1) := by decide +kernel
theorem dX9_feed_2 : decode cX9_feed 2 = .ok (.lconst 0, 1) := by decide +kernel
theorem dX9_feed_3 : decode cX9_feed 3 = .ok (.ldc2_w 74, 3) := by decide +kernel
theorem dX9_feed_6 : decode cX9_feed 6 = .ok (.invokestatic 48, 3) := by decide +kernel
theorem dX9_feed_9 : decode cX9_feed 9 = .ok (.ifCond .ne 6, 3) := by decide +kernel
theorem dX9_feed_12 : decode cX9_feed 12 = .ok (.ldc 65, 2) := by decide +kernel
theorem dX9_feed_14 : decode cX9_feed 14 = .ok (.ireturn, 1) := by decide +kernel
theorem dX9_feed_15 : decode cX9_feed 15 = .ok (.aload_n 0, 1) := by decide +kernel
theorem dX9_feed_16 : decode cX9_feed 16 = .ok (.getfield 76, 3) := by decide +kernel
theorem dX9_feed_19 : decode cX9_feed 19 = .ok (.sipush 140, 3) := by decide +kernel
theorem dX9_feed_22 : decode cX9_feed 22 = .ok (.if_icmp .ne 6, 3) := by decide +kernel
theorem dX9_feed_25 : decode cX9_feed 25 = .ok (.ldc 79, 2) := by decide +kernel
theorem dX9_feed_27 : decode cX9_feed 27 = .ok (.ireturn, 1) := by decide +kernel
theorem dX9_feed_28 : decode cX9_feed 28 = .ok (.aload_n 0, 1) := by decide +kernel
theorem dX9_feed_29 : decode cX9_feed 29 = .ok (.getfield 13, 3) := by decide +kernel
theorem dX9_feed_32 : decode cX9_feed 32 = .ok (.aload_n 0, 1) := by decide +kernel
theorem dX9_feed_33 : decode cX9_feed 33 = .ok (.getfield 76, 3) := by decide +kernel
theorem dX9_feed_36 : decode cX9_feed 36 = .ok (.iload_n 1, 1) := by decide +kernel
theorem dX9_feed_37 : decode cX9_feed 37 = .ok (.iastore, 1) := by decide +kernel
theorem dX9_feed_38 : decode cX9_feed 38 = .ok (.aload_n 0, 1) := by decide +kernel
theorem dX9_feed_39 : decode cX9_feed 39 = .ok (.dup, 1) := by decide +kernel
theorem dX9_feed_40 : decode cX9_feed 40 = .ok (.getfield 76, 3) := by decide +kernel
theorem dX9_feed_43 : decode cX9_feed 43 = .ok (.iconst 1, 1) := by decide +kernel
theorem dX9_feed_44 : decode cX9_feed 44 = .ok (.iadd, 1) := by decide +kernel
theorem dX9_feed_45 : decode cX9_feed 45 = .ok (.putfield 76, 3) := by decide +kernel
theorem dX9_feed_48 : decode cX9_feed 48 = .ok (.aload_n 0, 1) := by decide +kernel
theorem dX9_feed_49 : decode cX9_feed 49 = .ok (.getfield 76, 3) := by decide +kernel
theorem dX9_feed_52 : decode cX9_feed 52 = .ok (.ireturn, 1) := by decide +kernel
theorem dX9_here_0 : decode cX9_here 0 = .ok (.aload_n 0, 1) := by decide +kernel
theorem dX9_here_1 : decode cX9_here 1 = .ok (.getfield 80, 3) := by decide +kernel
theorem dX9_here_4 : decode cX9_here 4 = .ok (.aload_n 0, 1) := by decide +kernel
theorem dX9_here_5 : decode cX9_here 5 = .ok (.getfield 76, 3) := by decide +kernel
theorem dX9_here_8 : decode cX9_here 8 = .ok (.if_icmp .ge 15, 3) := by decide +kernel
theorem dX9_here_11 : decode cX9_here 11 = .ok (.aload_n 0, 1) := by decide +kernel
theorem dX9_here_12 : decode cX9_here 12 = .ok (.getfield 13, 3) := by decide +kernel
theorem dX9_here_15 : decode cX9_here 15 = .ok (.aload_n 0, 1) := by decide +kernel
theorem dX9_here_16 : decode cX9_here 16 = .ok (.getfield 80, 3) := by decide +kernel
theorem dX9_here_19 : decode cX9_here 19 = .ok (.iaload, 1) := by decide +kernel
theorem dX9_here_20 : decode cX9_here 20 = .ok (.goto 4, 3) := by decide +kernel
theorem dX9_here_23 : decode cX9_here 23 = .ok (.iconst (-1), 1) := by decide +kernel
theorem dX9_here_24 : decode cX9_here 24 = .ok (.ireturn, 1) := by decide +kernel
theorem dX9_fails_0 : decode cX9_fails 0 = .ok (.aload_n 0, 1) := by decide +kernel
theorem dX9_fails_1 : decode cX9_fails 1 = .ok (.iload_n 1, 1) := by decide +kernel
theorem dX9_fails_2 : decode cX9_fails 2 = .ok (.putfield 83, 3) := by decide +kernel
theorem dX9_fails_5 : decode cX9_fails 5 = .ok (.aload_n 0, 1) := by decide +kernel
theorem dX9_fails_6 : decode cX9_fails 6 = .ok (.iload_n 2, 1) := by decide +kernel
theorem dX9_fails_7 : decode cX9_fails 7 = .ok (.putfield 86, 3) := by decide +kernel
theorem dX9_fails_10 : decode cX9_fails 10 = .ok (.iconst 0, 1) := by decide +kernel
theorem dX9_fails_11 : decode cX9_fails 11 = .ok (.ireturn, 1) := by decide +kernel
theorem dX9_takes_0 : decode cX9_takes 0 = .ok (.aload_n 0, 1) := by decide +kernel
theorem dX9_takes_1 : decode cX9_takes 1 = .ok (.invokevirtual 89, 3) := by decide +kernel
theorem dX9_takes_4 : decode cX9_takes 4 = .ok (.iload_n 1, 1) := by decide +kernel
theorem dX9_takes_5 : decode cX9_takes 5 = .ok (.if_icmp .eq 13, 3) := by decide +kernel
theorem dX9_takes_8 : decode cX9_takes 8 = .ok (.aload_n 0, 1) := by decide +kernel
theorem dX9_takes_9 : decode cX9_takes 9 = .ok (.iconst 1, 1) := by decide +kernel
theorem dX9_takes_10 : decode cX9_takes 10 = .ok (.aload_n 0, 1) := by decide +kernel
theorem dX9_takes_11 : decode cX9_takes 11 = .ok (.getfield 80, 3) := by decide +kernel
theorem dX9_takes_14 : decode cX9_takes 14 = .ok (.invokevirtual 93, 3) := by decide +kernel
theorem dX9_takes_17 : decode cX9_takes 17 = .ok (.ireturn, 1) := by decide +kernel
theorem dX9_takes_18 : decode cX9_takes 18 = .ok (.aload_n 0, 1) := by decide +kernel
theorem dX9_takes_19 : decode cX9_takes 19 = .ok (.dup, 1) := by decide +kernel
theorem dX9_takes_20 : decode cX9_takes 20 = .ok (.getfield 80, 3) := by decide +kernel
theorem dX9_takes_23 : decode cX9_takes 23 = .ok (.iconst 1, 1) := by decide +kernel
theorem dX9_takes_24 : decode cX9_takes 24 = .ok (.iadd, 1) := by decide +kernel
theorem dX9_takes_25 : decode cX9_takes 25 = .ok (.putfield 80, 3) := by decide +kernel
theorem dX9_takes_28 : decode cX9_takes 28 = .ok (.iconst 1, 1) := by decide +kernel
theorem dX9_takes_29 : decode cX9_takes 29 = .ok (.ireturn, 1) := by decide +kernel
theorem dX9_takesNumber_0 : decode cX9_takesNumber 0 = .ok (.aload_n 0, 1) := by decide +kernel
theorem dX9_takesNumber_1 : decode cX9_takesNumber 1 = .ok (.getfield 80, 3) := by decide +kernel
theorem dX9_takesNumber_4 : decode cX9_takesNumber 4 = .ok (.istore_n 3, 1) := by decide +kernel
theorem dX9_takesNumber_5 : decode cX9_takesNumber 5 = .ok (.aload_n 0, 1) := by decide +kernel
theorem dX9_takesNumber_6 : decode cX9_takesNumber 6 = .ok (.iconst 0, 1) := by decide +kernel
theorem dX9_takesNumber_7 : decode cX9_takesNumber 7 = .ok (.putfield 97, 3) := by decide +kernel
theorem dX9_takesNumber_10 : decode cX9_takesNumber 10 = .ok (.aload_n 0, 1) := by decide +kernel
theorem dX9_takesNumber_11 : decode cX9_takesNumber 11 = .ok (.invokevirtual 89, 3) := by decide +kernel
theorem dX9_takesNumber_14 : decode cX9_takesNumber 14 = .ok (.i2l, 1) := by decide +kernel
theorem dX9_takesNumber_15 : decode cX9_takesNumber 15 = .ok (.ldc2_w 100, 3) := by decide +kernel
theorem dX9_takesNumber_18 : decode cX9_takesNumber 18 = .ok (.ldc2_w 102, 3) := by decide +kernel
theorem dX9_takesNumber_21 : decode cX9_takesNumber 21 = .ok (.invokestatic 48, 3) := by decide +kernel
theorem dX9_takesNumber_24 : decode cX9_takesNumber 24 = .ok (.ifCond .eq 52, 3) := by decide +kernel
theorem dX9_takesNumber_27 : decode cX9_takesNumber 27 = .ok (.aload_n 0, 1) := by decide +kernel
theorem dX9_takesNumber_28 : decode cX9_takesNumber 28 = .ok (.aload_n 0, 1) := by decide +kernel
theorem dX9_takesNumber_29 : decode cX9_takesNumber 29 = .ok (.getfield 80, 3) := by decide +kernel
theorem dX9_takesNumber_32 : decode cX9_takesNumber 32 = .ok (.iload_n 3, 1) := by decide +kernel
theorem dX9_takesNumber_33 : decode cX9_takesNumber 33 = .ok (.isub, 1) := by decide +kernel
theorem dX9_takesNumber_34 : decode cX9_takesNumber 34 = .ok (.iconst 2, 1) := by decide +kernel
theorem dX9_takesNumber_35 : decode cX9_takesNumber 35 = .ok (.if_icmp .ge 21, 3) := by decide +kernel
theorem dX9_takesNumber_38 : decode cX9_takesNumber 38 = .ok (.bipush 10, 2) := by decide +kernel
theorem dX9_takesNumber_40 : decode cX9_takesNumber 40 = .ok (.aload_n 0, 1) := by decide +kernel
theorem dX9_takesNumber_41 : decode cX9_takesNumber 41 = .ok (.getfield 97, 3) := by decide +kernel
theorem dX9_takesNumber_44 : decode cX9_takesNumber 44 = .ok (.imul, 1) := by decide +kernel
theorem dX9_takesNumber_45 : decode cX9_takesNumber 45 = .ok (.aload_n 0, 1) := by decide +kernel
theorem dX9_takesNumber_46 : decode cX9_takesNumber 46 = .ok (.invokevirtual 89, 3) := by decide +kernel
theorem dX9_takesNumber_49 : decode cX9_takesNumber 49 = .ok (.iadd, 1) := by decide +kernel
theorem dX9_takesNumber_50 : decode cX9_takesNumber 50 = .ok (.bipush 48, 2) := by decide +kernel
theorem dX9_takesNumber_52 : decode cX9_takesNumber 52 = .ok (.isub, 1) := by decide +kernel
theorem dX9_takesNumber_53 : decode cX9_takesNumber 53 = .ok (.goto 7, 3) := by decide +kernel
theorem dX9_takesNumber_56 : decode cX9_takesNumber 56 = .ok (.aload_n 0, 1) := by decide +kernel
theorem dX9_takesNumber_57 : decode cX9_takesNumber 57 = .ok (.getfield 97, 3) := by decide +kernel
theorem dX9_takesNumber_60 : decode cX9_takesNumber 60 = .ok (.putfield 97, 3) := by decide +kernel
theorem dX9_takesNumber_63 : decode cX9_takesNumber 63 = .ok (.aload_n 0, 1) := by decide +kernel
theorem dX9_takesNumber_64 : decode cX9_takesNumber 64 = .ok (.dup, 1) := by decide +kernel
theorem dX9_takesNumber_65 : decode cX9_takesNumber 65 = .ok (.getfield 80, 3) := by decide +kernel
theorem dX9_takesNumber_68 : decode cX9_takesNumber 68 = .ok (.iconst 1, 1) := by decide +kernel
theorem dX9_takesNumber_69 : decode cX9_takesNumber 69 = .ok (.iadd, 1) := by decide +kernel
theorem dX9_takesNumber_70 : decode cX9_takesNumber 70 = .ok (.putfield 80, 3) := by decide +kernel
theorem dX9_takesNumber_73 : decode cX9_takesNumber 73 = .ok (.goto (-63), 3) := by decide +kernel
theorem dX9_takesNumber_76 : decode cX9_takesNumber 76 = .ok (.aload_n 0, 1) := by decide +kernel
theorem dX9_takesNumber_77 : decode cX9_takesNumber 77 = .ok (.getfield 80, 3) := by decide +kernel
theorem dX9_takesNumber_80 : decode cX9_takesNumber 80 = .ok (.iload_n 3, 1) := by decide +kernel
theorem dX9_takesNumber_81 : decode cX9_takesNumber 81 = .ok (.isub, 1) := by decide +kernel
theorem dX9_takesNumber_82 : decode cX9_takesNumber 82 = .ok (.i2l, 1) := by decide +kernel
theorem dX9_takesNumber_83 : decode cX9_takesNumber 83 = .ok (.lconst 1, 1) := by decide +kernel
theorem dX9_takesNumber_84 : decode cX9_takesNumber 84 = .ok (.ldc2_w 63, 3) := by decide +kernel
theorem dX9_takesNumber_87 : decode cX9_takesNumber 87 = .ok (.invokestatic 48, 3) := by decide +kernel
theorem dX9_takesNumber_90 : decode cX9_takesNumber 90 = .ok (.ifCond .ne 10, 3) := by decide +kernel
theorem dX9_takesNumber_93 : decode cX9_takesNumber 93 = .ok (.aload_n 0, 1) := by decide +kernel
theorem dX9_takesNumber_94 : decode cX9_takesNumber 94 = .ok (.iconst 1, 1) := by decide +kernel
theorem dX9_takesNumber_95 : decode cX9_takesNumber 95 = .ok (.iload_n 3, 1) := by decide +kernel
theorem dX9_takesNumber_96 : decode cX9_takesNumber 96 = .ok (.invokevirtual 93, 3) := by decide +kernel
theorem dX9_takesNumber_99 : decode cX9_takesNumber 99 = .ok (.ireturn, 1) := by decide +kernel
theorem dX9_takesNumber_100 : decode cX9_takesNumber 100 = .ok (.aload_n 0, 1) := by decide +kernel
theorem dX9_takesNumber_101 : decode cX9_takesNumber 101 = .ok (.getfield 97, 3) := by decide +kernel
theorem dX9_takesNumber_104 : decode cX9_takesNumber 104 = .ok (.i2l, 1) := by decide +kernel
theorem dX9_takesNumber_105 : decode cX9_takesNumber 105 = .ok (.iload_n 1, 1) := by decide +kernel
theorem dX9_takesNumber_106 : decode cX9_takesNumber 106 = .ok (.i2l, 1) := by decide +kernel
theorem dX9_takesNumber_107 : decode cX9_takesNumber 107 = .ok (.iload_n 2, 1) := by decide +kernel
theorem dX9_takesNumber_108 : decode cX9_takesNumber 108 = .ok (.i2l, 1) := by decide +kernel
theorem dX9_takesNumber_109 : decode cX9_takesNumber 109 = .ok (.invokestatic 48, 3) := by decide +kernel
theorem dX9_takesNumber_112 : decode cX9_takesNumber 112 = .ok (.ifCond .ne 10, 3) := by decide +kernel
theorem dX9_takesNumber_115 : decode cX9_takesNumber 115 = .ok (.aload_n 0, 1) := by decide +kernel
theorem dX9_takesNumber_116 : decode cX9_takesNumber 116 = .ok (.iconst 2, 1) := by decide +kernel
theorem dX9_takesNumber_117 : decode cX9_takesNumber 117 = .ok (.iload_n 3, 1) := by decide +kernel
theorem dX9_takesNumber_118 : decode cX9_takesNumber 118 = .ok (.invokevirtual 93, 3) := by decide +kernel
theorem dX9_takesNumber_121 : decode cX9_takesNumber 121 = .ok (.ireturn, 1) := by decide +kernel
theorem dX9_takesNumber_122 : decode cX9_takesNumber 122 = .ok (.iconst 1, 1) := by decide +kernel
theorem dX9_takesNumber_123 : decode cX9_takesNumber 123 = .ok (.ireturn, 1) := by decide +kernel
theorem dX9_kindOf_0 : decode cX9_kindOf 0 = .ok (.iload_n 0, 1) := by decide +kernel
theorem dX9_kindOf_1 : decode cX9_kindOf 1 = .ok (.bipush 108, 2) := by decide +kernel
theorem dX9_kindOf_3 : decode cX9_kindOf 3 = .ok (.if_icmp .ne 7, 3) := by decide +kernel
theorem dX9_kindOf_6 : decode cX9_kindOf 6 = .ok (.iconst 1, 1) := by decide +kernel
theorem dX9_kindOf_7 : decode cX9_kindOf 7 = .ok (.goto 44, 3) := by decide +kernel
theorem dX9_kindOf_10 : decode cX9_kindOf 10 = .ok (.iload_n 0, 1) := by decide +kernel
theorem dX9_kindOf_11 : decode cX9_kindOf 11 = .ok (.bipush 102, 2) := by decide +kernel
theorem dX9_kindOf_13 : decode cX9_kindOf 13 = .ok (.if_icmp .ne 7, 3) := by decide +kernel
theorem dX9_kindOf_16 : decode cX9_kindOf 16 = .ok (.iconst 2, 1) := by decide +kernel
theorem dX9_kindOf_17 : decode cX9_kindOf 17 = .ok (.goto 34, 3) := by decide +kernel
theorem dX9_kindOf_20 : decode cX9_kindOf 20 = .ok (.iload_n 0, 1) := by decide +kernel
theorem dX9_kindOf_21 : decode cX9_kindOf 21 = .ok (.bipush 111, 2) := by decide +kernel
theorem dX9_kindOf_23 : decode cX9_kindOf 23 = .ok (.if_icmp .ne 7, 3) := by decide +kernel
theorem dX9_kindOf_26 : decode cX9_kindOf 26 = .ok (.iconst 3, 1) := by decide +kernel
theorem dX9_kindOf_27 : decode cX9_kindOf 27 = .ok (.goto 24, 3) := by decide +kernel
theorem dX9_kindOf_30 : decode cX9_kindOf 30 = .ok (.iload_n 0, 1) := by decide +kernel
theorem dX9_kindOf_31 : decode cX9_kindOf 31 = .ok (.bipush 99, 2) := by decide +kernel
theorem dX9_kindOf_33 : decode cX9_kindOf 33 = .ok (.if_icmp .ne 7, 3) := by decide +kernel
theorem dX9_kindOf_36 : decode cX9_kindOf 36 = .ok (.iconst 4, 1) := by decide +kernel
theorem dX9_kindOf_37 : decode cX9_kindOf 37 = .ok (.goto 14, 3) := by decide +kernel
theorem dX9_kindOf_40 : decode cX9_kindOf 40 = .ok (.iload_n 0, 1) := by decide +kernel
theorem dX9_kindOf_41 : decode cX9_kindOf 41 = .ok (.bipush 109, 2) := by decide +kernel
theorem dX9_kindOf_43 : decode cX9_kindOf 43 = .ok (.if_icmp .ne 7, 3) := by decide +kernel
theorem dX9_kindOf_46 : decode cX9_kindOf 46 = .ok (.iconst 5, 1) := by decide +kernel
theorem dX9_kindOf_47 : decode cX9_kindOf 47 = .ok (.goto 4, 3) := by decide +kernel
theorem dX9_kindOf_50 : decode cX9_kindOf 50 = .ok (.iconst 0, 1) := by decide +kernel
theorem dX9_kindOf_51 : decode cX9_kindOf 51 = .ok (.ireturn, 1) := by decide +kernel
theorem dX9_takesLaw_0 : decode cX9_takesLaw 0 = .ok (.aload_n 0, 1) := by decide +kernel
theorem dX9_takesLaw_1 : decode cX9_takesLaw 1 = .ok (.bipush 119, 2) := by decide +kernel
theorem dX9_takesLaw_3 : decode cX9_takesLaw 3 = .ok (.invokevirtual 104, 3) := by decide +kernel
theorem dX9_takesLaw_6 : decode cX9_takesLaw 6 = .ok (.ifCond .eq 13, 3) := by decide +kernel
theorem dX9_takesLaw_9 : decode cX9_takesLaw 9 = .ok (.aload_n 0, 1) := by decide +kernel
theorem dX9_takesLaw_10 : decode cX9_takesLaw 10 = .ok (.iconst 1, 1) := by decide +kernel
theorem dX9_takesLaw_11 : decode cX9_takesLaw 11 = .ok (.bipush 8, 2) := by decide +kernel
theorem dX9_takesLaw_13 : decode cX9_takesLaw 13 = .ok (.invokevirtual 107, 3) := by decide +kernel
theorem dX9_takesLaw_16 : decode cX9_takesLaw 16 = .ok (.ifCond .ne 5, 3) := by decide +kernel
theorem dX9_takesLaw_19 : decode cX9_takesLaw 19 = .ok (.iconst 0, 1) := by decide +kernel
theorem dX9_takesLaw_20 : decode cX9_takesLaw 20 = .ok (.ireturn, 1) := by decide +kernel
theorem dX9_takesLaw_21 : decode cX9_takesLaw 21 = .ok (.aload_n 0, 1) := by decide +kernel
theorem dX9_takesLaw_22 : decode cX9_takesLaw 22 = .ok (.getfield 7, 3) := by decide +kernel
theorem dX9_takesLaw_25 : decode cX9_takesLaw 25 = .ok (.bipush 83, 2) := by decide +kernel
theorem dX9_takesLaw_27 : decode cX9_takesLaw 27 = .ok (.aload_n 0, 1) := by decide +kernel
theorem dX9_takesLaw_28 : decode cX9_takesLaw 28 = .ok (.getfield 97, 3) := by decide +kernel
theorem dX9_takesLaw_31 : decode cX9_takesLaw 31 = .ok (.iastore, 1) := by decide +kernel
theorem dX9_takesLaw_32 : decode cX9_takesLaw 32 = .ok (.aload_n 0, 1) := by decide +kernel
theorem dX9_takesLaw_33 : decode cX9_takesLaw 33 = .ok (.bipush 59, 2) := by decide +kernel
theorem dX9_takesLaw_35 : decode cX9_takesLaw 35 = .ok (.invokevirtual 104, 3) := by decide +kernel
theorem dX9_takesLaw_38 : decode cX9_takesLaw 38 = .ok (.ireturn, 1) := by decide +kernel
theorem dX9_takesType_0 : decode cX9_takesType 0 = .ok (.aload_n 0, 1) := by decide +kernel
theorem dX9_takesType_1 : decode cX9_takesType 1 = .ok (.bipush 117, 2) := by decide +kernel
theorem dX9_takesType_3 : decode cX9_takesType 3 = .ok (.invokevirtual 104, 3) := by decide +kernel
theorem dX9_takesType_6 : decode cX9_takesType 6 = .ok (.ifCond .eq 12, 3) := by decide +kernel
theorem dX9_takesType_9 : decode cX9_takesType 9 = .ok (.aload_n 0, 1) := by decide +kernel
theorem dX9_takesType_10 : decode cX9_takesType 10 = .ok (.iconst 0, 1) := by decide +kernel
theorem dX9_takesType_11 : decode cX9_takesType 11 = .ok (.iload_n 1, 1) := by decide +kernel
theorem dX9_takesType_12 : decode cX9_takesType 12 = .ok (.invokevirtual 107, 3) := by decide +kernel
theorem dX9_takesType_15 : decode cX9_takesType 15 = .ok (.ifCond .ne 5, 3) := by decide +kernel
theorem dX9_takesType_18 : decode cX9_takesType 18 = .ok (.iconst 0, 1) := by decide +kernel
theorem dX9_takesType_19 : decode cX9_takesType 19 = .ok (.ireturn, 1) := by decide +kernel
theorem dX9_takesType_20 : decode cX9_takesType 20 = .ok (.aload_n 0, 1) := by decide +kernel
theorem dX9_takesType_21 : decode cX9_takesType 21 = .ok (.getfield 7, 3) := by decide +kernel
theorem dX9_takesType_24 : decode cX9_takesType 24 = .ok (.bipush 86, 2) := by decide +kernel
theorem dX9_takesType_26 : decode cX9_takesType 26 = .ok (.iload_n 1, 1) := by decide +kernel
theorem dX9_takesType_27 : decode cX9_takesType 27 = .ok (.iadd, 1) := by decide +kernel
theorem dX9_takesType_28 : decode cX9_takesType 28 = .ok (.aload_n 0, 1) := by decide +kernel
theorem dX9_takesType_29 : decode cX9_takesType 29 = .ok (.getfield 97, 3) := by decide +kernel
theorem dX9_takesType_32 : decode cX9_takesType 32 = .ok (.iastore, 1) := by decide +kernel
theorem dX9_takesType_33 : decode cX9_takesType 33 = .ok (.aload_n 0, 1) := by decide +kernel
theorem dX9_takesType_34 : decode cX9_takesType 34 = .ok (.bipush 59, 2) := by decide +kernel
theorem dX9_takesType_36 : decode cX9_takesType 36 = .ok (.invokevirtual 104, 3) := by decide +kernel
theorem dX9_takesType_39 : decode cX9_takesType 39 = .ok (.ireturn, 1) := by decide +kernel
theorem dX9_takesMember_0 : decode cX9_takesMember 0 = .ok (.aload_n 0, 1) := by decide +kernel
theorem dX9_takesMember_1 : decode cX9_takesMember 1 = .ok (.invokevirtual 89, 3) := by decide +kernel
theorem dX9_takesMember_4 : decode cX9_takesMember 4 = .ok (.invokestatic 110, 3) := by decide +kernel
theorem dX9_takesMember_7 : decode cX9_takesMember 7 = .ok (.istore_n 1, 1) := by decide +kernel
theorem dX9_takesMember_8 : decode cX9_takesMember 8 = .ok (.iload_n 1, 1) := by decide +kernel
theorem dX9_takesMember_9 : decode cX9_takesMember 9 = .ok (.ifCond .ne 13, 3) := by decide +kernel
theorem dX9_takesMember_12 : decode cX9_takesMember 12 = .ok (.aload_n 0, 1) := by decide +kernel
theorem dX9_takesMember_13 : decode cX9_takesMember 13 = .ok (.iconst 1, 1) := by decide +kernel
theorem dX9_takesMember_14 : decode cX9_takesMember 14 = .ok (.aload_n 0, 1) := by decide +kernel
theorem dX9_takesMember_15 : decode cX9_takesMember 15 = .ok (.getfield 80, 3) := by decide +kernel
theorem dX9_takesMember_18 : decode cX9_takesMember 18 = .ok (.invokevirtual 93, 3) := by decide +kernel
theorem dX9_takesMember_21 : decode cX9_takesMember 21 = .ok (.ireturn, 1) := by decide +kernel
theorem dX9_takesMember_22 : decode cX9_takesMember 22 = .ok (.aload_n 0, 1) := by decide +kernel
theorem dX9_takesMember_23 : decode cX9_takesMember 23 = .ok (.getfield 7, 3) := by decide +kernel
theorem dX9_takesMember_26 : decode cX9_takesMember 26 = .ok (.bipush 84, 2) := by decide +kernel
theorem dX9_takesMember_28 : decode cX9_takesMember 28 = .ok (.iaload, 1) := by decide +kernel
theorem dX9_takesMember_29 : decode cX9_takesMember 29 = .ok (.istore_n 2, 1) := by decide +kernel
theorem dX9_takesMember_30 : decode cX9_takesMember 30 = .ok (.iload_n 2, 1) := by decide +kernel
theorem dX9_takesMember_31 : decode cX9_takesMember 31 = .ok (.bipush 12, 2) := by decide +kernel
theorem dX9_takesMember_33 : decode cX9_takesMember 33 = .ok (.if_icmp .ne 13, 3) := by decide +kernel
theorem dX9_takesMember_36 : decode cX9_takesMember 36 = .ok (.aload_n 0, 1) := by decide +kernel
theorem dX9_takesMember_37 : decode cX9_takesMember 37 = .ok (.iconst 3, 1) := by decide +kernel
theorem dX9_takesMember_38 : decode cX9_takesMember 38 = .ok (.aload_n 0, 1) := by decide +kernel
theorem dX9_takesMember_39 : decode cX9_takesMember 39 = .ok (.getfield 80, 3) := by decide +kernel
theorem dX9_takesMember_42 : decode cX9_takesMember 42 = .ok (.invokevirtual 93, 3) := by decide +kernel
theorem dX9_takesMember_45 : decode cX9_takesMember 45 = .ok (.ireturn, 1) := by decide +kernel
theorem dX9_takesMember_46 : decode cX9_takesMember 46 = .ok (.aload_n 0, 1) := by decide +kernel
theorem dX9_takesMember_47 : decode cX9_takesMember 47 = .ok (.dup, 1) := by decide +kernel
theorem dX9_takesMember_48 : decode cX9_takesMember 48 = .ok (.getfield 80, 3) := by decide +kernel
theorem dX9_takesMember_51 : decode cX9_takesMember 51 = .ok (.iconst 1, 1) := by decide +kernel
theorem dX9_takesMember_52 : decode cX9_takesMember 52 = .ok (.iadd, 1) := by decide +kernel
theorem dX9_takesMember_53 : decode cX9_takesMember 53 = .ok (.putfield 80, 3) := by decide +kernel
theorem dX9_takesMember_56 : decode cX9_takesMember 56 = .ok (.aload_n 0, 1) := by decide +kernel
theorem dX9_takesMember_57 : decode cX9_takesMember 57 = .ok (.getfield 7, 3) := by decide +kernel
theorem dX9_takesMember_60 : decode cX9_takesMember 60 = .ok (.bipush 94, 2) := by decide +kernel
theorem dX9_takesMember_62 : decode cX9_takesMember 62 = .ok (.iload_n 2, 1) := by decide +kernel
theorem dX9_takesMember_63 : decode cX9_takesMember 63 = .ok (.iadd, 1) := by decide +kernel
theorem dX9_takesMember_64 : decode cX9_takesMember 64 = .ok (.iload_n 1, 1) := by decide +kernel
theorem dX9_takesMember_65 : decode cX9_takesMember 65 = .ok (.iastore, 1) := by decide +kernel
theorem dX9_takesMember_66 : decode cX9_takesMember 66 = .ok (.aload_n 0, 1) := by decide +kernel
theorem dX9_takesMember_67 : decode cX9_takesMember 67 = .ok (.iconst 0, 1) := by decide +kernel
theorem dX9_takesMember_68 : decode cX9_takesMember 68 = .ok (.aload_n 0, 1) := by decide +kernel
theorem dX9_takesMember_69 : decode cX9_takesMember 69 = .ok (.getfield 7, 3) := by decide +kernel
theorem dX9_takesMember_72 : decode cX9_takesMember 72 = .ok (.bipush 83, 2) := by decide +kernel
theorem dX9_takesMember_74 : decode cX9_takesMember 74 = .ok (.iaload, 1) := by decide +kernel
theorem dX9_takesMember_75 : decode cX9_takesMember 75 = .ok (.iconst 1, 1) := by decide +kernel
theorem dX9_takesMember_76 : decode cX9_takesMember 76 = .ok (.isub, 1) := by decide +kernel
theorem dX9_takesMember_77 : decode cX9_takesMember 77 = .ok (.invokevirtual 107, 3) := by decide +kernel
theorem dX9_takesMember_80 : decode cX9_takesMember 80 = .ok (.ifCond .ne 5, 3) := by decide +kernel
theorem dX9_takesMember_83 : decode cX9_takesMember 83 = .ok (.iconst 0, 1) := by decide +kernel
theorem dX9_takesMember_84 : decode cX9_takesMember 84 = .ok (.ireturn, 1) := by decide +kernel
theorem dX9_takesMember_85 : decode cX9_takesMember 85 = .ok (.aload_n 0, 1) := by decide +kernel
theorem dX9_takesMember_86 : decode cX9_takesMember 86 = .ok (.getfield 7, 3) := by decide +kernel
theorem dX9_takesMember_89 : decode cX9_takesMember 89 = .ok (.bipush 106, 2) := by decide +kernel
theorem dX9_takesMember_91 : decode cX9_takesMember 91 = .ok (.iload_n 2, 1) := by decide +kernel
theorem dX9_takesMember_92 : decode cX9_takesMember 92 = .ok (.iadd, 1) := by decide +kernel
theorem dX9_takesMember_93 : decode cX9_takesMember 93 = .ok (.aload_n 0, 1) := by decide +kernel
theorem dX9_takesMember_94 : decode cX9_takesMember 94 = .ok (.getfield 97, 3) := by decide +kernel
theorem dX9_takesMember_97 : decode cX9_takesMember 97 = .ok (.iastore, 1) := by decide +kernel
theorem dX9_takesMember_98 : decode cX9_takesMember 98 = .ok (.aload_n 0, 1) := by decide +kernel
theorem dX9_takesMember_99 : decode cX9_takesMember 99 = .ok (.bipush 44, 2) := by decide +kernel
theorem dX9_takesMember_101 : decode cX9_takesMember 101 = .ok (.invokevirtual 104, 3) := by decide +kernel
theorem dX9_takesMember_104 : decode cX9_takesMember 104 = .ok (.ifCond .eq 13, 3) := by decide +kernel
theorem dX9_takesMember_107 : decode cX9_takesMember 107 = .ok (.aload_n 0, 1) := by decide +kernel
theorem dX9_takesMember_108 : decode cX9_takesMember 108 = .ok (.iconst 1, 1) := by decide +kernel
theorem dX9_takesMember_109 : decode cX9_takesMember 109 = .ok (.bipush 9, 2) := by decide +kernel
theorem dX9_takesMember_111 : decode cX9_takesMember 111 = .ok (.invokevirtual 107, 3) := by decide +kernel
theorem dX9_takesMember_114 : decode cX9_takesMember 114 = .ok (.ifCond .ne 5, 3) := by decide +kernel
theorem dX9_takesMember_117 : decode cX9_takesMember 117 = .ok (.iconst 0, 1) := by decide +kernel
theorem dX9_takesMember_118 : decode cX9_takesMember 118 = .ok (.ireturn, 1) := by decide +kernel
theorem dX9_takesMember_119 : decode cX9_takesMember 119 = .ok (.aload_n 0, 1) := by decide +kernel
theorem dX9_takesMember_120 : decode cX9_takesMember 120 = .ok (.getfield 7, 3) := by decide +kernel
theorem dX9_takesMember_123 : decode cX9_takesMember 123 = .ok (.bipush 118, 2) := by decide +kernel
theorem dX9_takesMember_125 : decode cX9_takesMember 125 = .ok (.iload_n 2, 1) := by decide +kernel
theorem dX9_takesMember_126 : decode cX9_takesMember 126 = .ok (.iadd, 1) := by decide +kernel
theorem dX9_takesMember_127 : decode cX9_takesMember 127 = .ok (.aload_n 0, 1) := by decide +kernel
theorem dX9_takesMember_128 : decode cX9_takesMember 128 = .ok (.getfield 97, 3) := by decide +kernel
theorem dX9_takesMember_131 : decode cX9_takesMember 131 = .ok (.iastore, 1) := by decide +kernel
theorem dX9_takesMember_132 : decode cX9_takesMember 132 = .ok (.iconst 0, 1) := by decide +kernel
theorem dX9_takesMember_133 : decode cX9_takesMember 133 = .ok (.istore_n 3, 1) := by decide +kernel
theorem dX9_takesMember_134 : decode cX9_takesMember 134 = .ok (.iload_n 1, 1) := by decide +kernel
theorem dX9_takesMember_135 : decode cX9_takesMember 135 = .ok (.iconst 4, 1) := by decide +kernel
theorem dX9_takesMember_136 : decode cX9_takesMember 136 = .ok (.if_icmp .lt 74, 3) := by decide +kernel
theorem dX9_takesMember_139 : decode cX9_takesMember 139 = .ok (.iload_n 3, 1) := by decide +kernel
theorem dX9_takesMember_140 : decode cX9_takesMember 140 = .ok (.iconst 2, 1) := by decide +kernel
theorem dX9_takesMember_141 : decode cX9_takesMember 141 = .ok (.if_icmp .ge 69, 3) := by decide +kernel
theorem dX9_takesMember_144 : decode cX9_takesMember 144 = .ok (.iload_n 3, 1) := by decide +kernel
theorem dX9_takesMember_145 : decode cX9_takesMember 145 = .ok (.ifCond .eq 12, 3) := by decide +kernel
theorem dX9_takesMember_148 : decode cX9_takesMember 148 = .ok (.aload_n 0, 1) := by decide +kernel
theorem dX9_takesMember_149 : decode cX9_takesMember 149 = .ok (.invokevirtual 89, 3) := by decide +kernel
theorem dX9_takesMember_152 : decode cX9_takesMember 152 = .ok (.bipush 44, 2) := by decide +kernel
theorem dX9_takesMember_154 : decode cX9_takesMember 154 = .ok (.if_icmp .ne 56, 3) := by decide +kernel
theorem dX9_takesMember_157 : decode cX9_takesMember 157 = .ok (.aload_n 0, 1) := by decide +kernel
theorem dX9_takesMember_158 : decode cX9_takesMember 158 = .ok (.bipush 44, 2) := by decide +kernel
theorem dX9_takesMember_160 : decode cX9_takesMember 160 = .ok (.invokevirtual 104, 3) := by decide +kernel
theorem dX9_takesMember_163 : decode cX9_takesMember 163 = .ok (.ifCond .eq 20, 3) := by decide +kernel
theorem dX9_takesMember_166 : decode cX9_takesMember 166 = .ok (.aload_n 0, 1) := by decide +kernel
theorem dX9_takesMember_167 : decode cX9_takesMember 167 = .ok (.iconst 0, 1) := by decide +kernel
theorem dX9_takesMember_168 : decode cX9_takesMember 168 = .ok (.aload_n 0, 1) := by decide +kernel
theorem dX9_takesMember_169 : decode cX9_takesMember 169 = .ok (.getfield 7, 3) := by decide +kernel
theorem dX9_takesMember_172 : decode cX9_takesMember 172 = .ok (.bipush 83, 2) := by decide +kernel
theorem dX9_takesMember_174 : decode cX9_takesMember 174 = .ok (.iaload, 1) := by decide +kernel
theorem dX9_takesMember_175 : decode cX9_takesMember 175 = .ok (.iconst 1, 1) := by decide +kernel
theorem dX9_takesMember_176 : decode cX9_takesMember 176 = .ok (.isub, 1) := by decide +kernel
theorem dX9_takesMember_177 : decode cX9_takesMember 177 = .ok (.invokevirtual 107, 3) := by decide +kernel
theorem dX9_takesMember_180 : decode cX9_takesMember 180 = .ok (.ifCond .ne 5, 3) := by decide +kernel
theorem dX9_takesMember_183 : decode cX9_takesMember 183 = .ok (.iconst 0, 1) := by decide +kernel
theorem dX9_takesMember_184 : decode cX9_takesMember 184 = .ok (.ireturn, 1) := by decide +kernel
theorem dX9_takesMember_185 : decode cX9_takesMember 185 = .ok (.aload_n 0, 1) := by decide +kernel
theorem dX9_takesMember_186 : decode cX9_takesMember 186 = .ok (.getfield 7, 3) := by decide +kernel
theorem dX9_takesMember_189 : decode cX9_takesMember 189 = .ok (.sipush 142, 3) := by decide +kernel
theorem dX9_takesMember_192 : decode cX9_takesMember 192 = .ok (.bipush 12, 2) := by decide +kernel
theorem dX9_takesMember_194 : decode cX9_takesMember 194 = .ok (.iload_n 3, 1) := by decide +kernel
theorem dX9_takesMember_195 : decode cX9_takesMember 195 = .ok (.imul, 1) := by decide +kernel
theorem dX9_takesMember_196 : decode cX9_takesMember 196 = .ok (.iadd, 1) := by decide +kernel
theorem dX9_takesMember_197 : decode cX9_takesMember 197 = .ok (.iload_n 2, 1) := by decide +kernel
theorem dX9_takesMember_198 : decode cX9_takesMember 198 = .ok (.iadd, 1) := by decide +kernel
theorem dX9_takesMember_199 : decode cX9_takesMember 199 = .ok (.aload_n 0, 1) := by decide +kernel
theorem dX9_takesMember_200 : decode cX9_takesMember 200 = .ok (.getfield 97, 3) := by decide +kernel
theorem dX9_takesMember_203 : decode cX9_takesMember 203 = .ok (.iastore, 1) := by decide +kernel
theorem dX9_takesMember_204 : decode cX9_takesMember 204 = .ok (.iinc 3 1, 3) := by decide +kernel
theorem dX9_takesMember_207 : decode cX9_takesMember 207 = .ok (.goto (-73), 3) := by decide +kernel
theorem dX9_takesMember_210 : decode cX9_takesMember 210 = .ok (.aload_n 0, 1) := by decide +kernel
theorem dX9_takesMember_211 : decode cX9_takesMember 211 = .ok (.getfield 7, 3) := by decide +kernel
theorem dX9_takesMember_214 : decode cX9_takesMember 214 = .ok (.sipush 130, 3) := by decide +kernel
theorem dX9_takesMember_217 : decode cX9_takesMember 217 = .ok (.iload_n 2, 1) := by decide +kernel
theorem dX9_takesMember_218 : decode cX9_takesMember 218 = .ok (.iadd, 1) := by decide +kernel
theorem dX9_takesMember_219 : decode cX9_takesMember 219 = .ok (.iload_n 3, 1) := by decide +kernel
theorem dX9_takesMember_220 : decode cX9_takesMember 220 = .ok (.iastore, 1) := by decide +kernel
theorem dX9_takesMember_221 : decode cX9_takesMember 221 = .ok (.aload_n 0, 1) := by decide +kernel
theorem dX9_takesMember_222 : decode cX9_takesMember 222 = .ok (.getfield 7, 3) := by decide +kernel
theorem dX9_takesMember_225 : decode cX9_takesMember 225 = .ok (.bipush 84, 2) := by decide +kernel
theorem dX9_takesMember_227 : decode cX9_takesMember 227 = .ok (.dup2, 1) := by decide +kernel
theorem dX9_takesMember_228 : decode cX9_takesMember 228 = .ok (.iaload, 1) := by decide +kernel
theorem dX9_takesMember_229 : decode cX9_takesMember 229 = .ok (.iconst 1, 1) := by decide +kernel
theorem dX9_takesMember_230 : decode cX9_takesMember 230 = .ok (.iadd, 1) := by decide +kernel
theorem dX9_takesMember_231 : decode cX9_takesMember 231 = .ok (.iastore, 1) := by decide +kernel
theorem dX9_takesMember_232 : decode cX9_takesMember 232 = .ok (.aload_n 0, 1) := by decide +kernel
theorem dX9_takesMember_233 : decode cX9_takesMember 233 = .ok (.bipush 59, 2) := by decide +kernel
theorem dX9_takesMember_235 : decode cX9_takesMember 235 = .ok (.invokevirtual 104, 3) := by decide +kernel
theorem dX9_takesMember_238 : decode cX9_takesMember 238 = .ok (.ireturn, 1) := by decide +kernel
theorem dX9_takesAll_0 : decode cX9_takesAll 0 = .ok (.aload_n 0, 1) := by decide +kernel
theorem dX9_takesAll_1 : decode cX9_takesAll 1 = .ok (.invokevirtual 113, 3) := by decide +kernel
theorem dX9_takesAll_4 : decode cX9_takesAll 4 = .ok (.ifCond .ne 5, 3) := by decide +kernel
theorem dX9_takesAll_7 : decode cX9_takesAll 7 = .ok (.iconst 0, 1) := by decide +kernel
theorem dX9_takesAll_8 : decode cX9_takesAll 8 = .ok (.ireturn, 1) := by decide +kernel
theorem dX9_takesAll_9 : decode cX9_takesAll 9 = .ok (.iconst 0, 1) := by decide +kernel
theorem dX9_takesAll_10 : decode cX9_takesAll 10 = .ok (.istore_n 1, 1) := by decide +kernel
theorem dX9_takesAll_11 : decode cX9_takesAll 11 = .ok (.iload_n 1, 1) := by decide +kernel
theorem dX9_takesAll_12 : decode cX9_takesAll 12 = .ok (.aload_n 0, 1) := by decide +kernel
theorem dX9_takesAll_13 : decode cX9_takesAll 13 = .ok (.getfield 7, 3) := by decide +kernel
theorem dX9_takesAll_16 : decode cX9_takesAll 16 = .ok (.bipush 83, 2) := by decide +kernel
theorem dX9_takesAll_18 : decode cX9_takesAll 18 = .ok (.iaload, 1) := by decide +kernel
theorem dX9_takesAll_19 : decode cX9_takesAll 19 = .ok (.if_icmp .ge 19, 3) := by decide +kernel
theorem dX9_takesAll_22 : decode cX9_takesAll 22 = .ok (.aload_n 0, 1) := by decide +kernel
theorem dX9_takesAll_23 : decode cX9_takesAll 23 = .ok (.iload_n 1, 1) := by decide +kernel
theorem dX9_takesAll_24 : decode cX9_takesAll 24 = .ok (.invokevirtual 117, 3) := by decide +kernel
theorem dX9_takesAll_27 : decode cX9_takesAll 27 = .ok (.ifCond .ne 5, 3) := by decide +kernel
theorem dX9_takesAll_30 : decode cX9_takesAll 30 = .ok (.iconst 0, 1) := by decide +kernel
theorem dX9_takesAll_31 : decode cX9_takesAll 31 = .ok (.ireturn, 1) := by decide +kernel
theorem dX9_takesAll_32 : decode cX9_takesAll 32 = .ok (.iinc 1 1, 3) := by decide +kernel
theorem dX9_takesAll_35 : decode cX9_takesAll 35 = .ok (.goto (-24), 3) := by decide +kernel
theorem dX9_takesAll_38 : decode cX9_takesAll 38 = .ok (.aload_n 0, 1) := by decide +kernel
theorem dX9_takesAll_39 : decode cX9_takesAll 39 = .ok (.getfield 7, 3) := by decide +kernel
theorem dX9_takesAll_42 : decode cX9_takesAll 42 = .ok (.bipush 84, 2) := by decide +kernel
theorem dX9_takesAll_44 : decode cX9_takesAll 44 = .ok (.iaload, 1) := by decide +kernel
theorem dX9_takesAll_45 : decode cX9_takesAll 45 = .ok (.ifCond .eq 14, 3) := by decide +kernel
theorem dX9_takesAll_48 : decode cX9_takesAll 48 = .ok (.aload_n 0, 1) := by decide +kernel
theorem dX9_takesAll_49 : decode cX9_takesAll 49 = .ok (.getfield 80, 3) := by decide +kernel
theorem dX9_takesAll_52 : decode cX9_takesAll 52 = .ok (.aload_n 0, 1) := by decide +kernel
theorem dX9_takesAll_53 : decode cX9_takesAll 53 = .ok (.getfield 76, 3) := by decide +kernel
theorem dX9_takesAll_56 : decode cX9_takesAll 56 = .ok (.if_icmp .ge 12, 3) := by decide +kernel
theorem dX9_takesAll_59 : decode cX9_takesAll 59 = .ok (.aload_n 0, 1) := by decide +kernel
theorem dX9_takesAll_60 : decode cX9_takesAll 60 = .ok (.invokevirtual 120, 3) := by decide +kernel
theorem dX9_takesAll_63 : decode cX9_takesAll 63 = .ok (.ifCond .ne (-25), 3) := by decide +kernel
theorem dX9_takesAll_66 : decode cX9_takesAll 66 = .ok (.iconst 0, 1) := by decide +kernel
theorem dX9_takesAll_67 : decode cX9_takesAll 67 = .ok (.ireturn, 1) := by decide +kernel
theorem dX9_takesAll_68 : decode cX9_takesAll 68 = .ok (.iconst 1, 1) := by decide +kernel
theorem dX9_takesAll_69 : decode cX9_takesAll 69 = .ok (.ireturn, 1) := by decide +kernel
theorem dX9_world_0 : decode cX9_world 0 = .ok (.iconst 0, 1) := by decide +kernel
theorem dX9_world_1 : decode cX9_world 1 = .ok (.istore_n 1, 1) := by decide +kernel
theorem dX9_world_2 : decode cX9_world 2 = .ok (.iload_n 1, 1) := by decide +kernel
theorem dX9_world_3 : decode cX9_world 3 = .ok (.bipush 83, 2) := by decide +kernel
theorem dX9_world_5 : decode cX9_world 5 = .ok (.if_icmp .ge 19, 3) := by decide +kernel
theorem dX9_world_8 : decode cX9_world 8 = .ok (.aload_n 0, 1) := by decide +kernel
theorem dX9_world_9 : decode cX9_world 9 = .ok (.getfield 7, 3) := by decide +kernel
theorem dX9_world_12 : decode cX9_world 12 = .ok (.bipush 83, 2) := by decide +kernel
theorem dX9_world_14 : decode cX9_world 14 = .ok (.iload_n 1, 1) := by decide +kernel
theorem dX9_world_15 : decode cX9_world 15 = .ok (.iadd, 1) := by decide +kernel
theorem dX9_world_16 : decode cX9_world 16 = .ok (.iconst 0, 1) := by decide +kernel
theorem dX9_world_17 : decode cX9_world 17 = .ok (.iastore, 1) := by decide +kernel
theorem dX9_world_18 : decode cX9_world 18 = .ok (.iinc 1 1, 3) := by decide +kernel
theorem dX9_world_21 : decode cX9_world 21 = .ok (.goto (-19), 3) := by decide +kernel
theorem dX9_world_24 : decode cX9_world 24 = .ok (.aload_n 0, 1) := by decide +kernel
theorem dX9_world_25 : decode cX9_world 25 = .ok (.iconst 0, 1) := by decide +kernel
theorem dX9_world_26 : decode cX9_world 26 = .ok (.putfield 80, 3) := by decide +kernel
theorem dX9_world_29 : decode cX9_world 29 = .ok (.aload_n 0, 1) := by decide +kernel
theorem dX9_world_30 : decode cX9_world 30 = .ok (.invokevirtual 123, 3) := by decide +kernel
theorem dX9_world_33 : decode cX9_world 33 = .ok (.istore_n 1, 1) := by decide +kernel
theorem dX9_world_34 : decode cX9_world 34 = .ok (.aload_n 0, 1) := by decide +kernel
theorem dX9_world_35 : decode cX9_world 35 = .ok (.iconst 0, 1) := by decide +kernel
theorem dX9_world_36 : decode cX9_world 36 = .ok (.putfield 76, 3) := by decide +kernel
theorem dX9_world_39 : decode cX9_world 39 = .ok (.iload_n 1, 1) := by decide +kernel
theorem dX9_world_40 : decode cX9_world 40 = .ok (.ifCond .ne 11, 3) := by decide +kernel
theorem dX9_world_43 : decode cX9_world 43 = .ok (.ldc 126, 2) := by decide +kernel
theorem dX9_world_45 : decode cX9_world 45 = .ok (.aload_n 0, 1) := by decide +kernel
theorem dX9_world_46 : decode cX9_world 46 = .ok (.getfield 86, 3) := by decide +kernel
theorem dX9_world_49 : decode cX9_world 49 = .ok (.isub, 1) := by decide +kernel
theorem dX9_world_50 : decode cX9_world 50 = .ok (.ireturn, 1) := by decide +kernel
theorem dX9_world_51 : decode cX9_world 51 = .ok (.aload_n 0, 1) := by decide +kernel
theorem dX9_world_52 : decode cX9_world 52 = .ok (.bipush 83, 2) := by decide +kernel
theorem dX9_world_54 : decode cX9_world 54 = .ok (.iconst 0, 1) := by decide +kernel
theorem dX9_world_55 : decode cX9_world 55 = .ok (.invokevirtual 127, 3) := by decide +kernel
theorem dX9_world_58 : decode cX9_world 58 = .ok (.aload_n 0, 1) := by decide +kernel
theorem dX9_world_59 : decode cX9_world 59 = .ok (.iconst 0, 1) := by decide +kernel
theorem dX9_world_60 : decode cX9_world 60 = .ok (.putfield 131, 3) := by decide +kernel
theorem dX9_world_63 : decode cX9_world 63 = .ok (.aload_n 0, 1) := by decide +kernel
theorem dX9_world_64 : decode cX9_world 64 = .ok (.getfield 7, 3) := by decide +kernel
theorem dX9_world_67 : decode cX9_world 67 = .ok (.iconst 1, 1) := by decide +kernel
theorem dX9_world_68 : decode cX9_world 68 = .ok (.iaload, 1) := by decide +kernel
theorem dX9_world_69 : decode cX9_world 69 = .ok (.ireturn, 1) := by decide +kernel
theorem dX9_fault_0 : decode cX9_fault 0 = .ok (.aload_n 0, 1) := by decide +kernel
theorem dX9_fault_1 : decode cX9_fault 1 = .ok (.getfield 83, 3) := by decide +kernel
theorem dX9_fault_4 : decode cX9_fault 4 = .ok (.ireturn, 1) := by decide +kernel
theorem dX9_minds_0 : decode cX9_minds 0 = .ok (.aload_n 0, 1) := by decide +kernel
theorem dX9_minds_1 : decode cX9_minds 1 = .ok (.getfield 131, 3) := by decide +kernel
theorem dX9_minds_4 : decode cX9_minds 4 = .ok (.bipush 24, 2) := by decide +kernel
theorem dX9_minds_6 : decode cX9_minds 6 = .ok (.if_icmp .ne 51, 3) := by decide +kernel
theorem dX9_minds_9 : decode cX9_minds 9 = .ok (.iconst 0, 1) := by decide +kernel
theorem dX9_minds_10 : decode cX9_minds 10 = .ok (.istore_n 1, 1) := by decide +kernel
theorem dX9_minds_11 : decode cX9_minds 11 = .ok (.iload_n 1, 1) := by decide +kernel
theorem dX9_minds_12 : decode cX9_minds 12 = .ok (.sipush 1909, 3) := by decide +kernel
theorem dX9_minds_15 : decode cX9_minds 15 = .ok (.if_icmp .ge 32, 3) := by decide +kernel
theorem dX9_minds_18 : decode cX9_minds 18 = .ok (.aload_n 0, 1) := by decide +kernel
theorem dX9_minds_19 : decode cX9_minds 19 = .ok (.getfield 7, 3) := by decide +kernel
theorem dX9_minds_22 : decode cX9_minds 22 = .ok (.sipush 332, 3) := by decide +kernel
theorem dX9_minds_25 : decode cX9_minds 25 = .ok (.iload_n 1, 1) := by decide +kernel
theorem dX9_minds_26 : decode cX9_minds 26 = .ok (.iadd, 1) := by decide +kernel
theorem dX9_minds_27 : decode cX9_minds 27 = .ok (.aload_n 0, 1) := by decide +kernel
theorem dX9_minds_28 : decode cX9_minds 28 = .ok (.getfield 7, 3) := by decide +kernel
theorem dX9_minds_31 : decode cX9_minds 31 = .ok (.sipush 332, 3) := by decide +kernel
theorem dX9_minds_34 : decode cX9_minds 34 = .ok (.iload_n 1, 1) := by decide +kernel
theorem dX9_minds_35 : decode cX9_minds 35 = .ok (.iadd, 1) := by decide +kernel
theorem dX9_minds_36 : decode cX9_minds 36 = .ok (.bipush 83, 2) := by decide +kernel
theorem dX9_minds_38 : decode cX9_minds 38 = .ok (.iadd, 1) := by decide +kernel
theorem dX9_minds_39 : decode cX9_minds 39 = .ok (.iaload, 1) := by decide +kernel
theorem dX9_minds_40 : decode cX9_minds 40 = .ok (.iastore, 1) := by decide +kernel
theorem dX9_minds_41 : decode cX9_minds 41 = .ok (.iinc 1 1, 3) := by decide +kernel
theorem dX9_minds_44 : decode cX9_minds 44 = .ok (.goto (-33), 3) := by decide +kernel
theorem dX9_minds_47 : decode cX9_minds 47 = .ok (.aload_n 0, 1) := by decide +kernel
theorem dX9_minds_48 : decode cX9_minds 48 = .ok (.dup, 1) := by decide +kernel
theorem dX9_minds_49 : decode cX9_minds 49 = .ok (.getfield 131, 3) := by decide +kernel
theorem dX9_minds_52 : decode cX9_minds 52 = .ok (.iconst 1, 1) := by decide +kernel
theorem dX9_minds_53 : decode cX9_minds 53 = .ok (.isub, 1) := by decide +kernel
theorem dX9_minds_54 : decode cX9_minds 54 = .ok (.putfield 131, 3) := by decide +kernel
theorem dX9_minds_57 : decode cX9_minds 57 = .ok (.aload_n 0, 1) := by decide +kernel
theorem dX9_minds_58 : decode cX9_minds 58 = .ok (.iconst 0, 1) := by decide +kernel
theorem dX9_minds_59 : decode cX9_minds 59 = .ok (.sipush 332, 3) := by decide +kernel
theorem dX9_minds_62 : decode cX9_minds 62 = .ok (.bipush 83, 2) := by decide +kernel
theorem dX9_minds_64 : decode cX9_minds 64 = .ok (.aload_n 0, 1) := by decide +kernel
theorem dX9_minds_65 : decode cX9_minds 65 = .ok (.getfield 131, 3) := by decide +kernel
theorem dX9_minds_68 : decode cX9_minds 68 = .ok (.imul, 1) := by decide +kernel
theorem dX9_minds_69 : decode cX9_minds 69 = .ok (.iadd, 1) := by decide +kernel
theorem dX9_minds_70 : decode cX9_minds 70 = .ok (.invokevirtual 127, 3) := by decide +kernel
theorem dX9_minds_73 : decode cX9_minds 73 = .ok (.aload_n 0, 1) := by decide +kernel
theorem dX9_minds_74 : decode cX9_minds 74 = .ok (.dup, 1) := by decide +kernel
theorem dX9_minds_75 : decode cX9_minds 75 = .ok (.getfield 131, 3) := by decide +kernel
theorem dX9_minds_78 : decode cX9_minds 78 = .ok (.iconst 1, 1) := by decide +kernel
theorem dX9_minds_79 : decode cX9_minds 79 = .ok (.iadd, 1) := by decide +kernel
theorem dX9_minds_80 : decode cX9_minds 80 = .ok (.putfield 131, 3) := by decide +kernel
theorem dX9_minds_83 : decode cX9_minds 83 = .ok (.return_, 1) := by decide +kernel
theorem dX9_hide_0 : decode cX9_hide 0 = .ok (.aload_n 0, 1) := by decide +kernel
theorem dX9_hide_1 : decode cX9_hide 1 = .ok (.iload_n 1, 1) := by decide +kernel
theorem dX9_hide_2 : decode cX9_hide 2 = .ok (.invokevirtual 134, 3) := by decide +kernel
theorem dX9_hide_5 : decode cX9_hide 5 = .ok (.ifCond .eq 13, 3) := by decide +kernel
theorem dX9_hide_8 : decode cX9_hide 8 = .ok (.iload_n 2, 1) := by decide +kernel
theorem dX9_hide_9 : decode cX9_hide 9 = .ok (.i2l, 1) := by decide +kernel
theorem dX9_hide_10 : decode cX9_hide 10 = .ok (.lconst 0, 1) := by decide +kernel
theorem dX9_hide_11 : decode cX9_hide 11 = .ok (.lconst 1, 1) := by decide +kernel
theorem dX9_hide_12 : decode cX9_hide 12 = .ok (.invokestatic 48, 3) := by decide +kernel
theorem dX9_hide_15 : decode cX9_hide 15 = .ok (.ifCond .ne 6, 3) := by decide +kernel
theorem dX9_hide_18 : decode cX9_hide 18 = .ok (.ldc 65, 2) := by decide +kernel
theorem dX9_hide_20 : decode cX9_hide 20 = .ok (.ireturn, 1) := by decide +kernel
theorem dX9_hide_21 : decode cX9_hide 21 = .ok (.aload_n 0, 1) := by decide +kernel
theorem dX9_hide_22 : decode cX9_hide 22 = .ok (.getfield 7, 3) := by decide +kernel
theorem dX9_hide_25 : decode cX9_hide 25 = .ok (.iconst 2, 1) := by decide +kernel
theorem dX9_hide_26 : decode cX9_hide 26 = .ok (.iaload, 1) := by decide +kernel
theorem dX9_hide_27 : decode cX9_hide 27 = .ok (.iload_n 1, 1) := by decide +kernel
theorem dX9_hide_28 : decode cX9_hide 28 = .ok (.ishr, 1) := by decide +kernel
theorem dX9_hide_29 : decode cX9_hide 29 = .ok (.iconst 1, 1) := by decide +kernel
theorem dX9_hide_30 : decode cX9_hide 30 = .ok (.iand, 1) := by decide +kernel
theorem dX9_hide_31 : decode cX9_hide 31 = .ok (.iload_n 2, 1) := by decide +kernel
theorem dX9_hide_32 : decode cX9_hide 32 = .ok (.if_icmp .ne 6, 3) := by decide +kernel
theorem dX9_hide_35 : decode cX9_hide 35 = .ok (.ldc 137, 2) := by decide +kernel
theorem dX9_hide_37 : decode cX9_hide 37 = .ok (.ireturn, 1) := by decide +kernel
theorem dX9_hide_38 : decode cX9_hide 38 = .ok (.aload_n 0, 1) := by decide +kernel
theorem dX9_hide_39 : decode cX9_hide 39 = .ok (.invokevirtual 138, 3) := by decide +kernel
theorem dX9_hide_42 : decode cX9_hide 42 = .ok (.aload_n 0, 1) := by decide +kernel
theorem dX9_hide_43 : decode cX9_hide 43 = .ok (.getfield 7, 3) := by decide +kernel
theorem dX9_hide_46 : decode cX9_hide 46 = .ok (.iconst 2, 1) := by decide +kernel
theorem dX9_hide_47 : decode cX9_hide 47 = .ok (.dup2, 1) := by decide +kernel
theorem dX9_hide_48 : decode cX9_hide 48 = .ok (.iaload, 1) := by decide +kernel
theorem dX9_hide_49 : decode cX9_hide 49 = .ok (.iconst 1, 1) := by decide +kernel
theorem dX9_hide_50 : decode cX9_hide 50 = .ok (.iload_n 1, 1) := by decide +kernel
theorem dX9_hide_51 : decode cX9_hide 51 = .ok (.ishl, 1) := by decide +kernel
theorem dX9_hide_52 : decode cX9_hide 52 = .ok (.ixor, 1) := by decide +kernel
theorem dX9_hide_53 : decode cX9_hide 53 = .ok (.iastore, 1) := by decide +kernel
theorem dX9_hide_54 : decode cX9_hide 54 = .ok (.aload_n 0, 1) := by decide +kernel
theorem dX9_hide_55 : decode cX9_hide 55 = .ok (.getfield 7, 3) := by decide +kernel
theorem dX9_hide_58 : decode cX9_hide 58 = .ok (.iconst 2, 1) := by decide +kernel
theorem dX9_hide_59 : decode cX9_hide 59 = .ok (.iaload, 1) := by decide +kernel
theorem dX9_hide_60 : decode cX9_hide 60 = .ok (.ireturn, 1) := by decide +kernel
theorem dX9_cost_0 : decode cX9_cost 0 = .ok (.aload_n 0, 1) := by decide +kernel
theorem dX9_cost_1 : decode cX9_cost 1 = .ok (.iload_n 1, 1) := by decide +kernel
theorem dX9_cost_2 : decode cX9_cost 2 = .ok (.invokevirtual 134, 3) := by decide +kernel
theorem dX9_cost_5 : decode cX9_cost 5 = .ok (.ifCond .eq 15, 3) := by decide +kernel
theorem dX9_cost_8 : decode cX9_cost 8 = .ok (.iload_n 2, 1) := by decide +kernel
theorem dX9_cost_9 : decode cX9_cost 9 = .ok (.i2l, 1) := by decide +kernel
theorem dX9_cost_10 : decode cX9_cost 10 = .ok (.lconst 1, 1) := by decide +kernel
theorem dX9_cost_11 : decode cX9_cost 11 = .ok (.ldc2_w 141, 3) := by decide +kernel
theorem dX9_cost_14 : decode cX9_cost 14 = .ok (.invokestatic 48, 3) := by decide +kernel
theorem dX9_cost_17 : decode cX9_cost 17 = .ok (.ifCond .ne 6, 3) := by decide +kernel
theorem dX9_cost_20 : decode cX9_cost 20 = .ok (.ldc 65, 2) := by decide +kernel
theorem dX9_cost_22 : decode cX9_cost 22 = .ok (.ireturn, 1) := by decide +kernel
theorem dX9_cost_23 : decode cX9_cost 23 = .ok (.aload_n 0, 1) := by decide +kernel
theorem dX9_cost_24 : decode cX9_cost 24 = .ok (.invokevirtual 138, 3) := by decide +kernel
theorem dX9_cost_27 : decode cX9_cost 27 = .ok (.aload_n 0, 1) := by decide +kernel
theorem dX9_cost_28 : decode cX9_cost 28 = .ok (.getfield 7, 3) := by decide +kernel
theorem dX9_cost_31 : decode cX9_cost 31 = .ok (.bipush 35, 2) := by decide +kernel
theorem dX9_cost_33 : decode cX9_cost 33 = .ok (.iload_n 1, 1) := by decide +kernel
theorem dX9_cost_34 : decode cX9_cost 34 = .ok (.iadd, 1) := by decide +kernel
theorem dX9_cost_35 : decode cX9_cost 35 = .ok (.iaload, 1) := by decide +kernel
theorem dX9_cost_36 : decode cX9_cost 36 = .ok (.istore_n 3, 1) := by decide +kernel
theorem dX9_cost_37 : decode cX9_cost 37 = .ok (.aload_n 0, 1) := by decide +kernel
theorem dX9_cost_38 : decode cX9_cost 38 = .ok (.getfield 7, 3) := by decide +kernel
theorem dX9_cost_41 : decode cX9_cost 41 = .ok (.bipush 35, 2) := by decide +kernel
theorem dX9_cost_43 : decode cX9_cost 43 = .ok (.iload_n 1, 1) := by decide +kernel
theorem dX9_cost_44 : decode cX9_cost 44 = .ok (.iadd, 1) := by decide +kernel
theorem dX9_cost_45 : decode cX9_cost 45 = .ok (.iload_n 2, 1) := by decide +kernel
theorem dX9_cost_46 : decode cX9_cost 46 = .ok (.iastore, 1) := by decide +kernel
theorem dX9_cost_47 : decode cX9_cost 47 = .ok (.iload_n 3, 1) := by decide +kernel
theorem dX9_cost_48 : decode cX9_cost 48 = .ok (.ireturn, 1) := by decide +kernel
theorem dX9_above_0 : decode cX9_above 0 = .ok (.aload_n 0, 1) := by decide +kernel
theorem dX9_above_1 : decode cX9_above 1 = .ok (.iload_n 1, 1) := by decide +kernel
theorem dX9_above_2 : decode cX9_above 2 = .ok (.invokevirtual 143, 3) := by decide +kernel
theorem dX9_above_5 : decode cX9_above 5 = .ok (.ifCond .eq 14, 3) := by decide +kernel
theorem dX9_above_8 : decode cX9_above 8 = .ok (.iload_n 2, 1) := by decide +kernel
theorem dX9_above_9 : decode cX9_above 9 = .ok (.i2l, 1) := by decide +kernel
theorem dX9_above_10 : decode cX9_above 10 = .ok (.lconst 0, 1) := by decide +kernel
theorem dX9_above_11 : decode cX9_above 11 = .ok (.iload_n 1, 1) := by decide +kernel
theorem dX9_above_12 : decode cX9_above 12 = .ok (.i2l, 1) := by decide +kernel
theorem dX9_above_13 : decode cX9_above 13 = .ok (.invokestatic 48, 3) := by decide +kernel
theorem dX9_above_16 : decode cX9_above 16 = .ok (.ifCond .ne 6, 3) := by decide +kernel
theorem dX9_above_19 : decode cX9_above 19 = .ok (.ldc 65, 2) := by decide +kernel
theorem dX9_above_21 : decode cX9_above 21 = .ok (.ireturn, 1) := by decide +kernel
theorem dX9_above_22 : decode cX9_above 22 = .ok (.aload_n 0, 1) := by decide +kernel
theorem dX9_above_23 : decode cX9_above 23 = .ok (.invokevirtual 138, 3) := by decide +kernel
theorem dX9_above_26 : decode cX9_above 26 = .ok (.aload_n 0, 1) := by decide +kernel
theorem dX9_above_27 : decode cX9_above 27 = .ok (.getfield 7, 3) := by decide +kernel
theorem dX9_above_30 : decode cX9_above 30 = .ok (.iconst 3, 1) := by decide +kernel
theorem dX9_above_31 : decode cX9_above 31 = .ok (.iload_n 1, 1) := by decide +kernel
theorem dX9_above_32 : decode cX9_above 32 = .ok (.iadd, 1) := by decide +kernel
theorem dX9_above_33 : decode cX9_above 33 = .ok (.iaload, 1) := by decide +kernel
theorem dX9_above_34 : decode cX9_above 34 = .ok (.istore_n 3, 1) := by decide +kernel
theorem dX9_above_35 : decode cX9_above 35 = .ok (.aload_n 0, 1) := by decide +kernel
theorem dX9_above_36 : decode cX9_above 36 = .ok (.getfield 7, 3) := by decide +kernel
theorem dX9_above_39 : decode cX9_above 39 = .ok (.iconst 3, 1) := by decide +kernel
theorem dX9_above_40 : decode cX9_above 40 = .ok (.iload_n 1, 1) := by decide +kernel
theorem dX9_above_41 : decode cX9_above 41 = .ok (.iadd, 1) := by decide +kernel
theorem dX9_above_42 : decode cX9_above 42 = .ok (.iload_n 2, 1) := by decide +kernel
theorem dX9_above_43 : decode cX9_above 43 = .ok (.iastore, 1) := by decide +kernel
theorem dX9_above_44 : decode cX9_above 44 = .ok (.iload_n 3, 1) := by decide +kernel
theorem dX9_above_45 : decode cX9_above 45 = .ok (.ireturn, 1) := by decide +kernel
theorem dX9_undo_0 : decode cX9_undo 0 = .ok (.aload_n 0, 1) := by decide +kernel
theorem dX9_undo_1 : decode cX9_undo 1 = .ok (.getfield 131, 3) := by decide +kernel
theorem dX9_undo_4 : decode cX9_undo 4 = .ok (.ifCond .ne 6, 3) := by decide +kernel
theorem dX9_undo_7 : decode cX9_undo 7 = .ok (.ldc 137, 2) := by decide +kernel
theorem dX9_undo_9 : decode cX9_undo 9 = .ok (.ireturn, 1) := by decide +kernel
theorem dX9_undo_10 : decode cX9_undo 10 = .ok (.aload_n 0, 1) := by decide +kernel
theorem dX9_undo_11 : decode cX9_undo 11 = .ok (.dup, 1) := by decide +kernel
theorem dX9_undo_12 : decode cX9_undo 12 = .ok (.getfield 131, 3) := by decide +kernel
theorem dX9_undo_15 : decode cX9_undo 15 = .ok (.iconst 1, 1) := by decide +kernel
theorem dX9_undo_16 : decode cX9_undo 16 = .ok (.isub, 1) := by decide +kernel
theorem dX9_undo_17 : decode cX9_undo 17 = .ok (.putfield 131, 3) := by decide +kernel
theorem dX9_undo_20 : decode cX9_undo 20 = .ok (.aload_n 0, 1) := by decide +kernel
theorem dX9_undo_21 : decode cX9_undo 21 = .ok (.sipush 332, 3) := by decide +kernel
theorem dX9_undo_24 : decode cX9_undo 24 = .ok (.bipush 83, 2) := by decide +kernel
theorem dX9_undo_26 : decode cX9_undo 26 = .ok (.aload_n 0, 1) := by decide +kernel
theorem dX9_undo_27 : decode cX9_undo 27 = .ok (.getfield 131, 3) := by decide +kernel
theorem dX9_undo_30 : decode cX9_undo 30 = .ok (.imul, 1) := by decide +kernel
theorem dX9_undo_31 : decode cX9_undo 31 = .ok (.iadd, 1) := by decide +kernel
theorem dX9_undo_32 : decode cX9_undo 32 = .ok (.iconst 0, 1) := by decide +kernel
theorem dX9_undo_33 : decode cX9_undo 33 = .ok (.invokevirtual 127, 3) := by decide +kernel
theorem dX9_undo_36 : decode cX9_undo 36 = .ok (.aload_n 0, 1) := by decide +kernel
theorem dX9_undo_37 : decode cX9_undo 37 = .ok (.getfield 131, 3) := by decide +kernel
theorem dX9_undo_40 : decode cX9_undo 40 = .ok (.ireturn, 1) := by decide +kernel
theorem dX9_isOf_0 : decode cX9_isOf 0 = .ok (.iload_n 1, 1) := by decide +kernel
theorem dX9_isOf_1 : decode cX9_isOf 1 = .ok (.istore_n 3, 1) := by decide +kernel
theorem dX9_isOf_2 : decode cX9_isOf 2 = .ok (.iload_n 3, 1) := by decide +kernel
theorem dX9_isOf_3 : decode cX9_isOf 3 = .ok (.iload_n 2, 1) := by decide +kernel
theorem dX9_isOf_4 : decode cX9_isOf 4 = .ok (.if_icmp .eq 27, 3) := by decide +kernel
theorem dX9_isOf_7 : decode cX9_isOf 7 = .ok (.aload_n 0, 1) := by decide +kernel
theorem dX9_isOf_8 : decode cX9_isOf 8 = .ok (.getfield 7, 3) := by decide +kernel
theorem dX9_isOf_11 : decode cX9_isOf 11 = .ok (.iconst 3, 1) := by decide +kernel
theorem dX9_isOf_12 : decode cX9_isOf 12 = .ok (.iload_n 3, 1) := by decide +kernel
theorem dX9_isOf_13 : decode cX9_isOf 13 = .ok (.iadd, 1) := by decide +kernel
theorem dX9_isOf_14 : decode cX9_isOf 14 = .ok (.iaload, 1) := by decide +kernel
theorem dX9_isOf_15 : decode cX9_isOf 15 = .ok (.iload_n 3, 1) := by decide +kernel
theorem dX9_isOf_16 : decode cX9_isOf 16 = .ok (.if_icmp .eq 15, 3) := by decide +kernel
theorem dX9_isOf_19 : decode cX9_isOf 19 = .ok (.aload_n 0, 1) := by decide +kernel
theorem dX9_isOf_20 : decode cX9_isOf 20 = .ok (.getfield 7, 3) := by decide +kernel
theorem dX9_isOf_23 : decode cX9_isOf 23 = .ok (.iconst 3, 1) := by decide +kernel
theorem dX9_isOf_24 : decode cX9_isOf 24 = .ok (.iload_n 3, 1) := by decide +kernel
theorem dX9_isOf_25 : decode cX9_isOf 25 = .ok (.iadd, 1) := by decide +kernel
theorem dX9_isOf_26 : decode cX9_isOf 26 = .ok (.iaload, 1) := by decide +kernel
theorem dX9_isOf_27 : decode cX9_isOf 27 = .ok (.istore_n 3, 1) := by decide +kernel
theorem dX9_isOf_28 : decode cX9_isOf 28 = .ok (.goto (-26), 3) := by decide +kernel
theorem dX9_isOf_31 : decode cX9_isOf 31 = .ok (.iload_n 3, 1) := by decide +kernel
theorem dX9_isOf_32 : decode cX9_isOf 32 = .ok (.iload_n 2, 1) := by decide +kernel
theorem dX9_isOf_33 : decode cX9_isOf 33 = .ok (.if_icmp .ne 7, 3) := by decide +kernel
theorem dX9_isOf_36 : decode cX9_isOf 36 = .ok (.iconst 1, 1) := by decide +kernel
theorem dX9_isOf_37 : decode cX9_isOf 37 = .ok (.goto 4, 3) := by decide +kernel
theorem dX9_isOf_40 : decode cX9_isOf 40 = .ok (.iconst 0, 1) := by decide +kernel
theorem dX9_isOf_41 : decode cX9_isOf 41 = .ok (.ireturn, 1) := by decide +kernel
theorem dX9_priceOf_0 : decode cX9_priceOf 0 = .ok (.aload_n 0, 1) := by decide +kernel
theorem dX9_priceOf_1 : decode cX9_priceOf 1 = .ok (.getfield 7, 3) := by decide +kernel
theorem dX9_priceOf_4 : decode cX9_priceOf 4 = .ok (.bipush 35, 2) := by decide +kernel
theorem dX9_priceOf_6 : decode cX9_priceOf 6 = .ok (.iload_n 1, 1) := by decide +kernel
theorem dX9_priceOf_7 : decode cX9_priceOf 7 = .ok (.iadd, 1) := by decide +kernel
theorem dX9_priceOf_8 : decode cX9_priceOf 8 = .ok (.iaload, 1) := by decide +kernel
theorem dX9_priceOf_9 : decode cX9_priceOf 9 = .ok (.istore_n 2, 1) := by decide +kernel
theorem dX9_priceOf_10 : decode cX9_priceOf 10 = .ok (.aload_n 0, 1) := by decide +kernel
theorem dX9_priceOf_11 : decode cX9_priceOf 11 = .ok (.getfield 7, 3) := by decide +kernel
theorem dX9_priceOf_14 : decode cX9_priceOf 14 = .ok (.bipush 11, 2) := by decide +kernel
theorem dX9_priceOf_16 : decode cX9_priceOf 16 = .ok (.iload_n 1, 1) := by decide +kernel
theorem dX9_priceOf_17 : decode cX9_priceOf 17 = .ok (.iadd, 1) := by decide +kernel
theorem dX9_priceOf_18 : decode cX9_priceOf 18 = .ok (.iaload, 1) := by decide +kernel
theorem dX9_priceOf_19 : decode cX9_priceOf 19 = .ok (.istore_n 3, 1) := by decide +kernel
theorem dX9_priceOf_20 : decode cX9_priceOf 20 = .ok (.iload_n 3, 1) := by decide +kernel
theorem dX9_priceOf_21 : decode cX9_priceOf 21 = .ok (.iconst 2, 1) := by decide +kernel
theorem dX9_priceOf_22 : decode cX9_priceOf 22 = .ok (.if_icmp .ne 9, 3) := by decide +kernel
theorem dX9_priceOf_25 : decode cX9_priceOf 25 = .ok (.iload_n 2, 1) := by decide +kernel
theorem dX9_priceOf_26 : decode cX9_priceOf 26 = .ok (.iconst 2, 1) := by decide +kernel
theorem dX9_priceOf_27 : decode cX9_priceOf 27 = .ok (.iadd, 1) := by decide +kernel
theorem dX9_priceOf_28 : decode cX9_priceOf 28 = .ok (.goto 34, 3) := by decide +kernel
theorem dX9_priceOf_31 : decode cX9_priceOf 31 = .ok (.iload_n 3, 1) := by decide +kernel
theorem dX9_priceOf_32 : decode cX9_priceOf 32 = .ok (.iconst 3, 1) := by decide +kernel
theorem dX9_priceOf_33 : decode cX9_priceOf 33 = .ok (.if_icmp .ne 9, 3) := by decide +kernel
theorem dX9_priceOf_36 : decode cX9_priceOf 36 = .ok (.iconst 3, 1) := by decide +kernel
theorem dX9_priceOf_37 : decode cX9_priceOf 37 = .ok (.iload_n 2, 1) := by decide +kernel
theorem dX9_priceOf_38 : decode cX9_priceOf 38 = .ok (.imul, 1) := by decide +kernel
theorem dX9_priceOf_39 : decode cX9_priceOf 39 = .ok (.goto 23, 3) := by decide +kernel
theorem dX9_priceOf_42 : decode cX9_priceOf 42 = .ok (.iload_n 3, 1) := by decide +kernel
theorem dX9_priceOf_43 : decode cX9_priceOf 43 = .ok (.iconst 5, 1) := by decide +kernel
theorem dX9_priceOf_44 : decode cX9_priceOf 44 = .ok (.if_icmp .ne 17, 3) := by decide +kernel
theorem dX9_priceOf_47 : decode cX9_priceOf 47 = .ok (.iload_n 2, 1) := by decide +kernel
theorem dX9_priceOf_48 : decode cX9_priceOf 48 = .ok (.aload_n 0, 1) := by decide +kernel
theorem dX9_priceOf_49 : decode cX9_priceOf 49 = .ok (.getfield 7, 3) := by decide +kernel
theorem dX9_priceOf_52 : decode cX9_priceOf 52 = .ok (.bipush 47, 2) := by decide +kernel
theorem dX9_priceOf_54 : decode cX9_priceOf 54 = .ok (.iload_n 1, 1) := by decide +kernel
theorem dX9_priceOf_55 : decode cX9_priceOf 55 = .ok (.iadd, 1) := by decide +kernel
theorem dX9_priceOf_56 : decode cX9_priceOf 56 = .ok (.iaload, 1) := by decide +kernel
theorem dX9_priceOf_57 : decode cX9_priceOf 57 = .ok (.iadd, 1) := by decide +kernel
theorem dX9_priceOf_58 : decode cX9_priceOf 58 = .ok (.goto 4, 3) := by decide +kernel
theorem dX9_priceOf_61 : decode cX9_priceOf 61 = .ok (.iload_n 2, 1) := by decide +kernel
theorem dX9_priceOf_62 : decode cX9_priceOf 62 = .ok (.ireturn, 1) := by decide +kernel
theorem dX9_member_0 : decode cX9_member 0 = .ok (.aload_n 0, 1) := by decide +kernel
theorem dX9_member_1 : decode cX9_member 1 = .ok (.iload_n 1, 1) := by decide +kernel
theorem dX9_member_2 : decode cX9_member 2 = .ok (.invokevirtual 134, 3) := by decide +kernel
theorem dX9_member_5 : decode cX9_member 5 = .ok (.ifCond .ne 6, 3) := by decide +kernel
theorem dX9_member_8 : decode cX9_member 8 = .ok (.ldc 65, 2) := by decide +kernel
theorem dX9_member_10 : decode cX9_member 10 = .ok (.ireturn, 1) := by decide +kernel
theorem dX9_member_11 : decode cX9_member 11 = .ok (.iload_n 2, 1) := by decide +kernel
theorem dX9_member_12 : decode cX9_member 12 = .ok (.tableswitch 128 0 6 #[44, 54, 64, 70, 80, 80, 117], 44) := by decide +kernel
theorem dX9_member_56 : decode cX9_member 56 = .ok (.aload_n 0, 1) := by decide +kernel
theorem dX9_member_57 : decode cX9_member 57 = .ok (.getfield 7, 3) := by decide +kernel
theorem dX9_member_60 : decode cX9_member 60 = .ok (.bipush 23, 2) := by decide +kernel
theorem dX9_member_62 : decode cX9_member 62 = .ok (.iload_n 1, 1) := by decide +kernel
theorem dX9_member_63 : decode cX9_member 63 = .ok (.iadd, 1) := by decide +kernel
theorem dX9_member_64 : decode cX9_member 64 = .ok (.iaload, 1) := by decide +kernel
theorem dX9_member_65 : decode cX9_member 65 = .ok (.ireturn, 1) := by decide +kernel
theorem dX9_member_66 : decode cX9_member 66 = .ok (.aload_n 0, 1) := by decide +kernel
theorem dX9_member_67 : decode cX9_member 67 = .ok (.getfield 7, 3) := by decide +kernel
theorem dX9_member_70 : decode cX9_member 70 = .ok (.bipush 35, 2) := by decide +kernel
theorem dX9_member_72 : decode cX9_member 72 = .ok (.iload_n 1, 1) := by decide +kernel
theorem dX9_member_73 : decode cX9_member 73 = .ok (.iadd, 1) := by decide +kernel
theorem dX9_member_74 : decode cX9_member 74 = .ok (.iaload, 1) := by decide +kernel
theorem dX9_member_75 : decode cX9_member 75 = .ok (.ireturn, 1) := by decide +kernel
theorem dX9_member_76 : decode cX9_member 76 = .ok (.aload_n 0, 1) := by decide +kernel
theorem dX9_member_77 : decode cX9_member 77 = .ok (.iload_n 1, 1) := by decide +kernel
theorem dX9_member_78 : decode cX9_member 78 = .ok (.invokevirtual 146, 3) := by decide +kernel
theorem dX9_member_81 : decode cX9_member 81 = .ok (.ireturn, 1) := by decide +kernel
theorem dX9_member_82 : decode cX9_member 82 = .ok (.aload_n 0, 1) := by decide +kernel
theorem dX9_member_83 : decode cX9_member 83 = .ok (.getfield 7, 3) := by decide +kernel
theorem dX9_member_86 : decode cX9_member 86 = .ok (.bipush 47, 2) := by decide +kernel
theorem dX9_member_88 : decode cX9_member 88 = .ok (.iload_n 1, 1) := by decide +kernel
theorem dX9_member_89 : decode cX9_member 89 = .ok (.iadd, 1) := by decide +kernel
theorem dX9_member_90 : decode cX9_member 90 = .ok (.iaload, 1) := by decide +kernel
theorem dX9_member_91 : decode cX9_member 91 = .ok (.ireturn, 1) := by decide +kernel
theorem dX9_member_92 : decode cX9_member 92 = .ok (.aload_n 0, 1) := by decide +kernel
theorem dX9_member_93 : decode cX9_member 93 = .ok (.getfield 7, 3) := by decide +kernel
theorem dX9_member_96 : decode cX9_member 96 = .ok (.bipush 47, 2) := by decide +kernel
theorem dX9_member_98 : decode cX9_member 98 = .ok (.iload_n 1, 1) := by decide +kernel
theorem dX9_member_99 : decode cX9_member 99 = .ok (.iadd, 1) := by decide +kernel
theorem dX9_member_100 : decode cX9_member 100 = .ok (.iaload, 1) := by decide +kernel
theorem dX9_member_101 : decode cX9_member 101 = .ok (.iload_n 2, 1) := by decide +kernel
theorem dX9_member_102 : decode cX9_member 102 = .ok (.iconst 4, 1) := by decide +kernel
theorem dX9_member_103 : decode cX9_member 103 = .ok (.isub, 1) := by decide +kernel
theorem dX9_member_104 : decode cX9_member 104 = .ok (.if_icmp .le 22, 3) := by decide +kernel
theorem dX9_member_107 : decode cX9_member 107 = .ok (.aload_n 0, 1) := by decide +kernel
theorem dX9_member_108 : decode cX9_member 108 = .ok (.getfield 7, 3) := by decide +kernel
theorem dX9_member_111 : decode cX9_member 111 = .ok (.bipush 59, 2) := by decide +kernel
theorem dX9_member_113 : decode cX9_member 113 = .ok (.bipush 12, 2) := by decide +kernel
theorem dX9_member_115 : decode cX9_member 115 = .ok (.iload_n 2, 1) := by decide +kernel
theorem dX9_member_116 : decode cX9_member 116 = .ok (.iconst 4, 1) := by decide +kernel
theorem dX9_member_117 : decode cX9_member 117 = .ok (.isub, 1) := by decide +kernel
theorem dX9_member_118 : decode cX9_member 118 = .ok (.imul, 1) := by decide +kernel
theorem dX9_member_119 : decode cX9_member 119 = .ok (.iadd, 1) := by decide +kernel
theorem dX9_member_120 : decode cX9_member 120 = .ok (.iload_n 1, 1) := by decide +kernel
theorem dX9_member_121 : decode cX9_member 121 = .ok (.iadd, 1) := by decide +kernel
theorem dX9_member_122 : decode cX9_member 122 = .ok (.iaload, 1) := by decide +kernel
theorem dX9_member_123 : decode cX9_member 123 = .ok (.goto 5, 3) := by decide +kernel
theorem dX9_member_126 : decode cX9_member 126 = .ok (.ldc 149, 2) := by decide +kernel
theorem dX9_member_128 : decode cX9_member 128 = .ok (.ireturn, 1) := by decide +kernel
theorem dX9_member_129 : decode cX9_member 129 = .ok (.aload_n 0, 1) := by decide +kernel
theorem dX9_member_130 : decode cX9_member 130 = .ok (.getfield 7, 3) := by decide +kernel
theorem dX9_member_133 : decode cX9_member 133 = .ok (.iconst 2, 1) := by decide +kernel
theorem dX9_member_134 : decode cX9_member 134 = .ok (.iaload, 1) := by decide +kernel
theorem dX9_member_135 : decode cX9_member 135 = .ok (.iload_n 1, 1) := by decide +kernel
theorem dX9_member_136 : decode cX9_member 136 = .ok (.ishr, 1) := by decide +kernel
theorem dX9_member_137 : decode cX9_member 137 = .ok (.iconst 1, 1) := by decide +kernel
theorem dX9_member_138 : decode cX9_member 138 = .ok (.iand, 1) := by decide +kernel
theorem dX9_member_139 : decode cX9_member 139 = .ok (.ireturn, 1) := by decide +kernel
theorem dX9_member_140 : decode cX9_member 140 = .ok (.ldc 65, 2) := by decide +kernel
theorem dX9_member_142 : decode cX9_member 142 = .ok (.ireturn, 1) := by decide +kernel
theorem dX9_typesOf_0 : decode cX9_typesOf 0 = .ok (.iconst 0, 1) := by decide +kernel
theorem dX9_typesOf_1 : decode cX9_typesOf 1 = .ok (.istore_n 3, 1) := by decide +kernel
theorem dX9_typesOf_2 : decode cX9_typesOf 2 = .ok (.iconst 0, 1) := by decide +kernel
theorem dX9_typesOf_3 : decode cX9_typesOf 3 = .ok (.istore 4, 2) := by decide +kernel
theorem dX9_typesOf_5 : decode cX9_typesOf 5 = .ok (.iload 4, 2) := by decide +kernel
theorem dX9_typesOf_7 : decode cX9_typesOf 7 = .ok (.aload_n 0, 1) := by decide +kernel
theorem dX9_typesOf_8 : decode cX9_typesOf 8 = .ok (.getfield 7, 3) := by decide +kernel
theorem dX9_typesOf_11 : decode cX9_typesOf 11 = .ok (.iconst 0, 1) := by decide +kernel
theorem dX9_typesOf_12 : decode cX9_typesOf 12 = .ok (.iaload, 1) := by decide +kernel
theorem dX9_typesOf_13 : decode cX9_typesOf 13 = .ok (.if_icmp .ge 47, 3) := by decide +kernel
theorem dX9_typesOf_16 : decode cX9_typesOf 16 = .ok (.iload_n 3, 1) := by decide +kernel
theorem dX9_typesOf_17 : decode cX9_typesOf 17 = .ok (.iload_n 2, 1) := by decide +kernel
theorem dX9_typesOf_18 : decode cX9_typesOf 18 = .ok (.ifCond .eq 16, 3) := by decide +kernel
theorem dX9_typesOf_21 : decode cX9_typesOf 21 = .ok (.aload_n 0, 1) := by decide +kernel
theorem dX9_typesOf_22 : decode cX9_typesOf 22 = .ok (.iload 4, 2) := by decide +kernel
theorem dX9_typesOf_24 : decode cX9_typesOf 24 = .ok (.iload_n 1, 1) := by decide +kernel
theorem dX9_typesOf_25 : decode cX9_typesOf 25 = .ok (.invokevirtual 150, 3) := by decide +kernel
theorem dX9_typesOf_28 : decode cX9_typesOf 28 = .ok (.ifCond .eq 23, 3) := by decide +kernel
theorem dX9_typesOf_31 : decode cX9_typesOf 31 = .ok (.goto 13, 3) := by decide +kernel
theorem dX9_typesOf_34 : decode cX9_typesOf 34 = .ok (.aload_n 0, 1) := by decide +kernel
theorem dX9_typesOf_35 : decode cX9_typesOf 35 = .ok (.iload_n 1, 1) := by decide +kernel
theorem dX9_typesOf_36 : decode cX9_typesOf 36 = .ok (.iload 4, 2) := by decide +kernel
theorem dX9_typesOf_38 : decode cX9_typesOf 38 = .ok (.invokevirtual 150, 3) := by decide +kernel
theorem dX9_typesOf_41 : decode cX9_typesOf 41 = .ok (.ifCond .eq 10, 3) := by decide +kernel
theorem dX9_typesOf_44 : decode cX9_typesOf 44 = .ok (.iconst 1, 1) := by decide +kernel
theorem dX9_typesOf_45 : decode cX9_typesOf 45 = .ok (.iload 4, 2) := by decide +kernel
theorem dX9_typesOf_47 : decode cX9_typesOf 47 = .ok (.ishl, 1) := by decide +kernel
theorem dX9_typesOf_48 : decode cX9_typesOf 48 = .ok (.goto 4, 3) := by decide +kernel
theorem dX9_typesOf_51 : decode cX9_typesOf 51 = .ok (.iconst 0, 1) := by decide +kernel
theorem dX9_typesOf_52 : decode cX9_typesOf 52 = .ok (.ior, 1) := by decide +kernel
theorem dX9_typesOf_53 : decode cX9_typesOf 53 = .ok (.istore_n 3, 1) := by decide +kernel
theorem dX9_typesOf_54 : decode cX9_typesOf 54 = .ok (.iinc 4 1, 3) := by decide +kernel
theorem dX9_typesOf_57 : decode cX9_typesOf 57 = .ok (.goto (-52), 3) := by decide +kernel
theorem dX9_typesOf_60 : decode cX9_typesOf 60 = .ok (.iload_n 3, 1) := by decide +kernel
theorem dX9_typesOf_61 : decode cX9_typesOf 61 = .ok (.ireturn, 1) := by decide +kernel
theorem dX9_givers_0 : decode cX9_givers 0 = .ok (.iconst 0, 1) := by decide +kernel
theorem dX9_givers_1 : decode cX9_givers 1 = .ok (.istore_n 2, 1) := by decide +kernel
theorem dX9_givers_2 : decode cX9_givers 2 = .ok (.iconst 0, 1) := by decide +kernel
theorem dX9_givers_3 : decode cX9_givers 3 = .ok (.istore_n 3, 1) := by decide +kernel
theorem dX9_givers_4 : decode cX9_givers 4 = .ok (.iload_n 3, 1) := by decide +kernel
theorem dX9_givers_5 : decode cX9_givers 5 = .ok (.aload_n 0, 1) := by decide +kernel
theorem dX9_givers_6 : decode cX9_givers 6 = .ok (.getfield 7, 3) := by decide +kernel
theorem dX9_givers_9 : decode cX9_givers 9 = .ok (.iconst 1, 1) := by decide +kernel
theorem dX9_givers_10 : decode cX9_givers 10 = .ok (.iaload, 1) := by decide +kernel
theorem dX9_givers_11 : decode cX9_givers 11 = .ok (.if_icmp .ge 36, 3) := by decide +kernel
theorem dX9_givers_14 : decode cX9_givers 14 = .ok (.iload_n 2, 1) := by decide +kernel
theorem dX9_givers_15 : decode cX9_givers 15 = .ok (.aload_n 0, 1) := by decide +kernel
theorem dX9_givers_16 : decode cX9_givers 16 = .ok (.aload_n 0, 1) := by decide +kernel
theorem dX9_givers_17 : decode cX9_givers 17 = .ok (.getfield 7, 3) := by decide +kernel
theorem dX9_givers_20 : decode cX9_givers 20 = .ok (.bipush 23, 2) := by decide +kernel
theorem dX9_givers_22 : decode cX9_givers 22 = .ok (.iload_n 3, 1) := by decide +kernel
theorem dX9_givers_23 : decode cX9_givers 23 = .ok (.iadd, 1) := by decide +kernel
theorem dX9_givers_24 : decode cX9_givers 24 = .ok (.iaload, 1) := by decide +kernel
theorem dX9_givers_25 : decode cX9_givers 25 = .ok (.iload_n 1, 1) := by decide +kernel
theorem dX9_givers_26 : decode cX9_givers 26 = .ok (.invokevirtual 150, 3) := by decide +kernel
theorem dX9_givers_29 : decode cX9_givers 29 = .ok (.ifCond .eq 9, 3) := by decide +kernel
theorem dX9_givers_32 : decode cX9_givers 32 = .ok (.iconst 1, 1) := by decide +kernel
theorem dX9_givers_33 : decode cX9_givers 33 = .ok (.iload_n 3, 1) := by decide +kernel
theorem dX9_givers_34 : decode cX9_givers 34 = .ok (.ishl, 1) := by decide +kernel
theorem dX9_givers_35 : decode cX9_givers 35 = .ok (.goto 4, 3) := by decide +kernel
theorem dX9_givers_38 : decode cX9_givers 38 = .ok (.iconst 0, 1) := by decide +kernel
theorem dX9_givers_39 : decode cX9_givers 39 = .ok (.ior, 1) := by decide +kernel
theorem dX9_givers_40 : decode cX9_givers 40 = .ok (.istore_n 2, 1) := by decide +kernel
theorem dX9_givers_41 : decode cX9_givers 41 = .ok (.iinc 3 1, 3) := by decide +kernel
theorem dX9_givers_44 : decode cX9_givers 44 = .ok (.goto (-40), 3) := by decide +kernel
theorem dX9_givers_47 : decode cX9_givers 47 = .ok (.iload_n 2, 1) := by decide +kernel
theorem dX9_givers_48 : decode cX9_givers 48 = .ok (.ireturn, 1) := by decide +kernel
theorem dX9_type_0 : decode cX9_type 0 = .ok (.aload_n 0, 1) := by decide +kernel
theorem dX9_type_1 : decode cX9_type 1 = .ok (.iload_n 1, 1) := by decide +kernel
theorem dX9_type_2 : decode cX9_type 2 = .ok (.invokevirtual 143, 3) := by decide +kernel
theorem dX9_type_5 : decode cX9_type 5 = .ok (.ifCond .ne 6, 3) := by decide +kernel
theorem dX9_type_8 : decode cX9_type 8 = .ok (.ldc 65, 2) := by decide +kernel
theorem dX9_type_10 : decode cX9_type 10 = .ok (.ireturn, 1) := by decide +kernel
theorem dX9_type_11 : decode cX9_type 11 = .ok (.iload_n 2, 1) := by decide +kernel
theorem dX9_type_12 : decode cX9_type 12 = .ok (.tableswitch 61 0 3 #[32, 41, 48, 55], 32) := by decide +kernel
theorem dX9_type_44 : decode cX9_type 44 = .ok (.aload_n 0, 1) := by decide +kernel
theorem dX9_type_45 : decode cX9_type 45 = .ok (.getfield 7, 3) := by decide +kernel
theorem dX9_type_48 : decode cX9_type 48 = .ok (.iconst 3, 1) := by decide +kernel
theorem dX9_type_49 : decode cX9_type 49 = .ok (.iload_n 1, 1) := by decide +kernel
theorem dX9_type_50 : decode cX9_type 50 = .ok (.iadd, 1) := by decide +kernel
theorem dX9_type_51 : decode cX9_type 51 = .ok (.iaload, 1) := by decide +kernel
theorem dX9_type_52 : decode cX9_type 52 = .ok (.ireturn, 1) := by decide +kernel
theorem dX9_type_53 : decode cX9_type 53 = .ok (.aload_n 0, 1) := by decide +kernel
theorem dX9_type_54 : decode cX9_type 54 = .ok (.iload_n 1, 1) := by decide +kernel
theorem dX9_type_55 : decode cX9_type 55 = .ok (.iconst 0, 1) := by decide +kernel
theorem dX9_type_56 : decode cX9_type 56 = .ok (.invokevirtual 153, 3) := by decide +kernel
theorem dX9_type_59 : decode cX9_type 59 = .ok (.ireturn, 1) := by decide +kernel
theorem dX9_type_60 : decode cX9_type 60 = .ok (.aload_n 0, 1) := by decide +kernel
theorem dX9_type_61 : decode cX9_type 61 = .ok (.iload_n 1, 1) := by decide +kernel
theorem dX9_type_62 : decode cX9_type 62 = .ok (.iconst 1, 1) := by decide +kernel
theorem dX9_type_63 : decode cX9_type 63 = .ok (.invokevirtual 153, 3) := by decide +kernel
theorem dX9_type_66 : decode cX9_type 66 = .ok (.ireturn, 1) := by decide +kernel
theorem dX9_type_67 : decode cX9_type 67 = .ok (.aload_n 0, 1) := by decide +kernel
theorem dX9_type_68 : decode cX9_type 68 = .ok (.iload_n 1, 1) := by decide +kernel
theorem dX9_type_69 : decode cX9_type 69 = .ok (.invokevirtual 157, 3) := by decide +kernel
theorem dX9_type_72 : decode cX9_type 72 = .ok (.ireturn, 1) := by decide +kernel
theorem dX9_type_73 : decode cX9_type 73 = .ok (.ldc 65, 2) := by decide +kernel
theorem dX9_type_75 : decode cX9_type 75 = .ok (.ireturn, 1) := by decide +kernel
theorem dX9_cut_0 : decode cX9_cut 0 = .ok (.lload_n 0, 1) := by decide +kernel
theorem dX9_cut_1 : decode cX9_cut 1 = .ok (.ldc2_w 160, 3) := by decide +kernel
theorem dX9_cut_4 : decode cX9_cut 4 = .ok (.lcmp, 1) := by decide +kernel
theorem dX9_cut_5 : decode cX9_cut 5 = .ok (.ifCond .le 9, 3) := by decide +kernel
theorem dX9_cut_8 : decode cX9_cut 8 = .ok (.ldc2_w 160, 3) := by decide +kernel
theorem dX9_cut_11 : decode cX9_cut 11 = .ok (.goto 4, 3) := by decide +kernel
theorem dX9_cut_14 : decode cX9_cut 14 = .ok (.lload_n 0, 1) := by decide +kernel
theorem dX9_cut_15 : decode cX9_cut 15 = .ok (.lreturn, 1) := by decide +kernel
theorem dX9_headed_0 : decode cX9_headed 0 = .ok (.iload_n 2, 1) := by decide +kernel
theorem dX9_headed_1 : decode cX9_headed 1 = .ok (.aload_n 0, 1) := by decide +kernel
theorem dX9_headed_2 : decode cX9_headed 2 = .ok (.iload_n 1, 1) := by decide +kernel
theorem dX9_headed_3 : decode cX9_headed 3 = .ok (.invokevirtual 146, 3) := by decide +kernel
theorem dX9_headed_6 : decode cX9_headed 6 = .ok (.isub, 1) := by decide +kernel
theorem dX9_headed_7 : decode cX9_headed 7 = .ok (.istore_n 3, 1) := by decide +kernel
theorem dX9_headed_8 : decode cX9_headed 8 = .ok (.iload_n 3, 1) := by decide +kernel
theorem dX9_headed_9 : decode cX9_headed 9 = .ok (.ifCond .lt 15, 3) := by decide +kernel
theorem dX9_headed_12 : decode cX9_headed 12 = .ok (.aload_n 0, 1) := by decide +kernel
theorem dX9_headed_13 : decode cX9_headed 13 = .ok (.getfield 7, 3) := by decide +kernel
theorem dX9_headed_16 : decode cX9_headed 16 = .ok (.bipush 47, 2) := by decide +kernel
theorem dX9_headed_18 : decode cX9_headed 18 = .ok (.iload_n 1, 1) := by decide +kernel
theorem dX9_headed_19 : decode cX9_headed 19 = .ok (.iadd, 1) := by decide +kernel
theorem dX9_headed_20 : decode cX9_headed 20 = .ok (.iaload, 1) := by decide +kernel
theorem dX9_headed_21 : decode cX9_headed 21 = .ok (.ifCond .ne 13, 3) := by decide +kernel
theorem dX9_headed_24 : decode cX9_headed 24 = .ok (.iload_n 3, 1) := by decide +kernel
theorem dX9_headed_25 : decode cX9_headed 25 = .ok (.ifCond .ne 7, 3) := by decide +kernel
theorem dX9_headed_28 : decode cX9_headed 28 = .ok (.lconst 1, 1) := by decide +kernel
theorem dX9_headed_29 : decode cX9_headed 29 = .ok (.goto 4, 3) := by decide +kernel
theorem dX9_headed_32 : decode cX9_headed 32 = .ok (.lconst 0, 1) := by decide +kernel
theorem dX9_headed_33 : decode cX9_headed 33 = .ok (.lreturn, 1) := by decide +kernel
theorem dX9_headed_34 : decode cX9_headed 34 = .ok (.aload_n 0, 1) := by decide +kernel
theorem dX9_headed_35 : decode cX9_headed 35 = .ok (.getfield 7, 3) := by decide +kernel
theorem dX9_headed_38 : decode cX9_headed 38 = .ok (.bipush 59, 2) := by decide +kernel
theorem dX9_headed_40 : decode cX9_headed 40 = .ok (.iload_n 1, 1) := by decide +kernel
theorem dX9_headed_41 : decode cX9_headed 41 = .ok (.iadd, 1) := by decide +kernel
theorem dX9_headed_42 : decode cX9_headed 42 = .ok (.iaload, 1) := by decide +kernel
theorem dX9_headed_43 : decode cX9_headed 43 = .ok (.istore 4, 2) := by decide +kernel
theorem dX9_headed_45 : decode cX9_headed 45 = .ok (.aload_n 0, 1) := by decide +kernel
theorem dX9_headed_46 : decode cX9_headed 46 = .ok (.getfield 7, 3) := by decide +kernel
theorem dX9_headed_49 : decode cX9_headed 49 = .ok (.bipush 47, 2) := by decide +kernel
theorem dX9_headed_51 : decode cX9_headed 51 = .ok (.iload_n 1, 1) := by decide +kernel
theorem dX9_headed_52 : decode cX9_headed 52 = .ok (.iadd, 1) := by decide +kernel
theorem dX9_headed_53 : decode cX9_headed 53 = .ok (.iaload, 1) := by decide +kernel
theorem dX9_headed_54 : decode cX9_headed 54 = .ok (.iconst 1, 1) := by decide +kernel
theorem dX9_headed_55 : decode cX9_headed 55 = .ok (.if_icmp .ne 16, 3) := by decide +kernel
theorem dX9_headed_58 : decode cX9_headed 58 = .ok (.aload_n 0, 1) := by decide +kernel
theorem dX9_headed_59 : decode cX9_headed 59 = .ok (.getfield 28, 3) := by decide +kernel
theorem dX9_headed_62 : decode cX9_headed 62 = .ok (.bipush 25, 2) := by decide +kernel
theorem dX9_headed_64 : decode cX9_headed 64 = .ok (.iload 4, 2) := by decide +kernel
theorem dX9_headed_66 : decode cX9_headed 66 = .ok (.imul, 1) := by decide +kernel
theorem dX9_headed_67 : decode cX9_headed 67 = .ok (.iload_n 3, 1) := by decide +kernel
theorem dX9_headed_68 : decode cX9_headed 68 = .ok (.iadd, 1) := by decide +kernel
theorem dX9_headed_69 : decode cX9_headed 69 = .ok (.laload, 1) := by decide +kernel
theorem dX9_headed_70 : decode cX9_headed 70 = .ok (.lreturn, 1) := by decide +kernel
theorem dX9_headed_71 : decode cX9_headed 71 = .ok (.aload_n 0, 1) := by decide +kernel
theorem dX9_headed_72 : decode cX9_headed 72 = .ok (.getfield 7, 3) := by decide +kernel
theorem dX9_headed_75 : decode cX9_headed 75 = .ok (.bipush 71, 2) := by decide +kernel
theorem dX9_headed_77 : decode cX9_headed 77 = .ok (.iload_n 1, 1) := by decide +kernel
theorem dX9_headed_78 : decode cX9_headed 78 = .ok (.iadd, 1) := by decide +kernel
theorem dX9_headed_79 : decode cX9_headed 79 = .ok (.iaload, 1) := by decide +kernel
theorem dX9_headed_80 : decode cX9_headed 80 = .ok (.istore 5, 2) := by decide +kernel
theorem dX9_headed_82 : decode cX9_headed 82 = .ok (.lconst 0, 1) := by decide +kernel
theorem dX9_headed_83 : decode cX9_headed 83 = .ok (.lstore 6, 2) := by decide +kernel
theorem dX9_headed_85 : decode cX9_headed 85 = .ok (.iconst 1, 1) := by decide +kernel
theorem dX9_headed_86 : decode cX9_headed 86 = .ok (.istore 8, 2) := by decide +kernel
theorem dX9_headed_88 : decode cX9_headed 88 = .ok (.iload 8, 2) := by decide +kernel
theorem dX9_headed_90 : decode cX9_headed 90 = .ok (.iload_n 3, 1) := by decide +kernel
theorem dX9_headed_91 : decode cX9_headed 91 = .ok (.if_icmp .ge 49, 3) := by decide +kernel
theorem dX9_headed_94 : decode cX9_headed 94 = .ok (.lload 6, 2) := by decide +kernel
theorem dX9_headed_96 : decode cX9_headed 96 = .ok (.aload_n 0, 1) := by decide +kernel
theorem dX9_headed_97 : decode cX9_headed 97 = .ok (.getfield 28, 3) := by decide +kernel
theorem dX9_headed_100 : decode cX9_headed 100 = .ok (.bipush 25, 2) := by decide +kernel
theorem dX9_headed_102 : decode cX9_headed 102 = .ok (.iload 4, 2) := by decide +kernel
theorem dX9_headed_104 : decode cX9_headed 104 = .ok (.imul, 1) := by decide +kernel
theorem dX9_headed_105 : decode cX9_headed 105 = .ok (.iload 8, 2) := by decide +kernel
theorem dX9_headed_107 : decode cX9_headed 107 = .ok (.iadd, 1) := by decide +kernel
theorem dX9_headed_108 : decode cX9_headed 108 = .ok (.laload, 1) := by decide +kernel
theorem dX9_headed_109 : decode cX9_headed 109 = .ok (.aload_n 0, 1) := by decide +kernel
theorem dX9_headed_110 : decode cX9_headed 110 = .ok (.getfield 28, 3) := by decide +kernel
theorem dX9_headed_113 : decode cX9_headed 113 = .ok (.bipush 25, 2) := by decide +kernel
theorem dX9_headed_115 : decode cX9_headed 115 = .ok (.iload 5, 2) := by decide +kernel
theorem dX9_headed_117 : decode cX9_headed 117 = .ok (.imul, 1) := by decide +kernel
theorem dX9_headed_118 : decode cX9_headed 118 = .ok (.iload_n 3, 1) := by decide +kernel
theorem dX9_headed_119 : decode cX9_headed 119 = .ok (.iadd, 1) := by decide +kernel
theorem dX9_headed_120 : decode cX9_headed 120 = .ok (.iload 8, 2) := by decide +kernel
theorem dX9_headed_122 : decode cX9_headed 122 = .ok (.isub, 1) := by decide +kernel
theorem dX9_headed_123 : decode cX9_headed 123 = .ok (.laload, 1) := by decide +kernel
theorem dX9_headed_124 : decode cX9_headed 124 = .ok (.lmul, 1) := by decide +kernel
theorem dX9_headed_125 : decode cX9_headed 125 = .ok (.invokestatic 162, 3) := by decide +kernel
theorem dX9_headed_128 : decode cX9_headed 128 = .ok (.ladd, 1) := by decide +kernel
theorem dX9_headed_129 : decode cX9_headed 129 = .ok (.invokestatic 162, 3) := by decide +kernel
theorem dX9_headed_132 : decode cX9_headed 132 = .ok (.lstore 6, 2) := by decide +kernel
theorem dX9_headed_134 : decode cX9_headed 134 = .ok (.iinc 8 1, 3) := by decide +kernel
theorem dX9_headed_137 : decode cX9_headed 137 = .ok (.goto (-49), 3) := by decide +kernel
theorem dX9_headed_140 : decode cX9_headed 140 = .ok (.lload 6, 2) := by decide +kernel
theorem dX9_headed_142 : decode cX9_headed 142 = .ok (.lreturn, 1) := by decide +kernel
theorem dX9_layWays_0 : decode cX9_layWays 0 = .ok (.iconst 0, 1) := by decide +kernel
theorem dX9_layWays_1 : decode cX9_layWays 1 = .ok (.istore_n 2, 1) := by decide +kernel
theorem dX9_layWays_2 : decode cX9_layWays 2 = .ok (.iload_n 2, 1) := by decide +kernel
theorem dX9_layWays_3 : decode cX9_layWays 3 = .ok (.sipush 200, 3) := by decide +kernel
theorem dX9_layWays_6 : decode cX9_layWays 6 = .ok (.if_icmp .ge 16, 3) := by decide +kernel
theorem dX9_layWays_9 : decode cX9_layWays 9 = .ok (.aload_n 0, 1) := by decide +kernel
theorem dX9_layWays_10 : decode cX9_layWays 10 = .ok (.getfield 28, 3) := by decide +kernel
theorem dX9_layWays_13 : decode cX9_layWays 13 = .ok (.iload_n 2, 1) := by decide +kernel
theorem dX9_layWays_14 : decode cX9_layWays 14 = .ok (.lconst 0, 1) := by decide +kernel
theorem dX9_layWays_15 : decode cX9_layWays 15 = .ok (.lastore, 1) := by decide +kernel
theorem dX9_layWays_16 : decode cX9_layWays 16 = .ok (.iinc 2 1, 3) := by decide +kernel
theorem dX9_layWays_19 : decode cX9_layWays 19 = .ok (.goto (-17), 3) := by decide +kernel
theorem dX9_layWays_22 : decode cX9_layWays 22 = .ok (.iconst 1, 1) := by decide +kernel
theorem dX9_layWays_23 : decode cX9_layWays 23 = .ok (.istore_n 2, 1) := by decide +kernel
theorem dX9_layWays_24 : decode cX9_layWays 24 = .ok (.iload_n 2, 1) := by decide +kernel
theorem dX9_layWays_25 : decode cX9_layWays 25 = .ok (.bipush 24, 2) := by decide +kernel
theorem dX9_layWays_27 : decode cX9_layWays 27 = .ok (.if_icmp .gt 137, 3) := by decide +kernel
theorem dX9_layWays_30 : decode cX9_layWays 30 = .ok (.iconst 0, 1) := by decide +kernel
theorem dX9_layWays_31 : decode cX9_layWays 31 = .ok (.istore_n 3, 1) := by decide +kernel
theorem dX9_layWays_32 : decode cX9_layWays 32 = .ok (.iload_n 3, 1) := by decide +kernel
theorem dX9_layWays_33 : decode cX9_layWays 33 = .ok (.aload_n 0, 1) := by decide +kernel
theorem dX9_layWays_34 : decode cX9_layWays 34 = .ok (.getfield 7, 3) := by decide +kernel
theorem dX9_layWays_37 : decode cX9_layWays 37 = .ok (.iconst 1, 1) := by decide +kernel
theorem dX9_layWays_38 : decode cX9_layWays 38 = .ok (.iaload, 1) := by decide +kernel
theorem dX9_layWays_39 : decode cX9_layWays 39 = .ok (.if_icmp .ge 119, 3) := by decide +kernel
theorem dX9_layWays_42 : decode cX9_layWays 42 = .ok (.iload_n 1, 1) := by decide +kernel
theorem dX9_layWays_43 : decode cX9_layWays 43 = .ok (.iload_n 3, 1) := by decide +kernel
theorem dX9_layWays_44 : decode cX9_layWays 44 = .ok (.invokestatic 166, 3) := by decide +kernel
theorem dX9_layWays_47 : decode cX9_layWays 47 = .ok (.ifCond .eq 7, 3) := by decide +kernel
theorem dX9_layWays_50 : decode cX9_layWays 50 = .ok (.lconst 0, 1) := by decide +kernel
theorem dX9_layWays_51 : decode cX9_layWays 51 = .ok (.goto 9, 3) := by decide +kernel
theorem dX9_layWays_54 : decode cX9_layWays 54 = .ok (.aload_n 0, 1) := by decide +kernel
theorem dX9_layWays_55 : decode cX9_layWays 55 = .ok (.iload_n 3, 1) := by decide +kernel
theorem dX9_layWays_56 : decode cX9_layWays 56 = .ok (.iload_n 2, 1) := by decide +kernel
theorem dX9_layWays_57 : decode cX9_layWays 57 = .ok (.invokevirtual 169, 3) := by decide +kernel
theorem dX9_layWays_60 : decode cX9_layWays 60 = .ok (.lstore 4, 2) := by decide +kernel
theorem dX9_layWays_62 : decode cX9_layWays 62 = .ok (.iconst 0, 1) := by decide +kernel
theorem dX9_layWays_63 : decode cX9_layWays 63 = .ok (.istore 6, 2) := by decide +kernel
theorem dX9_layWays_65 : decode cX9_layWays 65 = .ok (.iload 6, 2) := by decide +kernel
theorem dX9_layWays_67 : decode cX9_layWays 67 = .ok (.aload_n 0, 1) := by decide +kernel
theorem dX9_layWays_68 : decode cX9_layWays 68 = .ok (.getfield 7, 3) := by decide +kernel
theorem dX9_layWays_71 : decode cX9_layWays 71 = .ok (.iconst 0, 1) := by decide +kernel
theorem dX9_layWays_72 : decode cX9_layWays 72 = .ok (.iaload, 1) := by decide +kernel
theorem dX9_layWays_73 : decode cX9_layWays 73 = .ok (.if_icmp .ge 79, 3) := by decide +kernel
theorem dX9_layWays_76 : decode cX9_layWays 76 = .ok (.lload 4, 2) := by decide +kernel
theorem dX9_layWays_78 : decode cX9_layWays 78 = .ok (.lconst 0, 1) := by decide +kernel
theorem dX9_layWays_79 : decode cX9_layWays 79 = .ok (.lcmp, 1) := by decide +kernel
theorem dX9_layWays_80 : decode cX9_layWays 80 = .ok (.ifCond .le 72, 3) := by decide +kernel
theorem dX9_layWays_83 : decode cX9_layWays 83 = .ok (.aload_n 0, 1) := by decide +kernel
theorem dX9_layWays_84 : decode cX9_layWays 84 = .ok (.getfield 28, 3) := by decide +kernel
theorem dX9_layWays_87 : decode cX9_layWays 87 = .ok (.bipush 25, 2) := by decide +kernel
theorem dX9_layWays_89 : decode cX9_layWays 89 = .ok (.iload 6, 2) := by decide +kernel
theorem dX9_layWays_91 : decode cX9_layWays 91 = .ok (.imul, 1) := by decide +kernel
theorem dX9_layWays_92 : decode cX9_layWays 92 = .ok (.iload_n 2, 1) := by decide +kernel
theorem dX9_layWays_93 : decode cX9_layWays 93 = .ok (.iadd, 1) := by decide +kernel
theorem dX9_layWays_94 : decode cX9_layWays 94 = .ok (.aload_n 0, 1) := by decide +kernel
theorem dX9_layWays_95 : decode cX9_layWays 95 = .ok (.aload_n 0, 1) := by decide +kernel
theorem dX9_layWays_96 : decode cX9_layWays 96 = .ok (.getfield 7, 3) := by decide +kernel
theorem dX9_layWays_99 : decode cX9_layWays 99 = .ok (.bipush 23, 2) := by decide +kernel
theorem dX9_layWays_101 : decode cX9_layWays 101 = .ok (.iload_n 3, 1) := by decide +kernel
theorem dX9_layWays_102 : decode cX9_layWays 102 = .ok (.iadd, 1) := by decide +kernel
theorem dX9_layWays_103 : decode cX9_layWays 103 = .ok (.iaload, 1) := by decide +kernel
theorem dX9_layWays_104 : decode cX9_layWays 104 = .ok (.iload 6, 2) := by decide +kernel
theorem dX9_layWays_106 : decode cX9_layWays 106 = .ok (.invokevirtual 150, 3) := by decide +kernel
theorem dX9_layWays_109 : decode cX9_layWays 109 = .ok (.ifCond .eq 24, 3) := by decide +kernel
theorem dX9_layWays_112 : decode cX9_layWays 112 = .ok (.aload_n 0, 1) := by decide +kernel
theorem dX9_layWays_113 : decode cX9_layWays 113 = .ok (.getfield 28, 3) := by decide +kernel
theorem dX9_layWays_116 : decode cX9_layWays 116 = .ok (.bipush 25, 2) := by decide +kernel
theorem dX9_layWays_118 : decode cX9_layWays 118 = .ok (.iload 6, 2) := by decide +kernel
theorem dX9_layWays_120 : decode cX9_layWays 120 = .ok (.imul, 1) := by decide +kernel
theorem dX9_layWays_121 : decode cX9_layWays 121 = .ok (.iload_n 2, 1) := by decide +kernel
theorem dX9_layWays_122 : decode cX9_layWays 122 = .ok (.iadd, 1) := by decide +kernel
theorem dX9_layWays_123 : decode cX9_layWays 123 = .ok (.laload, 1) := by decide +kernel
theorem dX9_layWays_124 : decode cX9_layWays 124 = .ok (.lload 4, 2) := by decide +kernel
theorem dX9_layWays_126 : decode cX9_layWays 126 = .ok (.ladd, 1) := by decide +kernel
theorem dX9_layWays_127 : decode cX9_layWays 127 = .ok (.invokestatic 162, 3) := by decide +kernel
theorem dX9_layWays_130 : decode cX9_layWays 130 = .ok (.goto 15, 3) := by decide +kernel
theorem dX9_layWays_133 : decode cX9_layWays 133 = .ok (.aload_n 0, 1) := by decide +kernel
theorem dX9_layWays_134 : decode cX9_layWays 134 = .ok (.getfield 28, 3) := by decide +kernel
theorem dX9_layWays_137 : decode cX9_layWays 137 = .ok (.bipush 25, 2) := by decide +kernel
theorem dX9_layWays_139 : decode cX9_layWays 139 = .ok (.iload 6, 2) := by decide +kernel
theorem dX9_layWays_141 : decode cX9_layWays 141 = .ok (.imul, 1) := by decide +kernel
theorem dX9_layWays_142 : decode cX9_layWays 142 = .ok (.iload_n 2, 1) := by decide +kernel
theorem dX9_layWays_143 : decode cX9_layWays 143 = .ok (.iadd, 1) := by decide +kernel
theorem dX9_layWays_144 : decode cX9_layWays 144 = .ok (.laload, 1) := by decide +kernel
theorem dX9_layWays_145 : decode cX9_layWays 145 = .ok (.lastore, 1) := by decide +kernel
theorem dX9_layWays_146 : decode cX9_layWays 146 = .ok (.iinc 6 1, 3) := by decide +kernel
theorem dX9_layWays_149 : decode cX9_layWays 149 = .ok (.goto (-84), 3) := by decide +kernel
