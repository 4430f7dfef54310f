theorem dX4_readTypes_66 : decode cX4_readTypes 66 = .ok (.invokevirtual 67, 3) := by decide +kernel
theorem dX4_readTypes_69 : decode cX4_readTypes 69 = .ok (.iconst 1, 1) := by decide +kernel
theorem dX4_readTypes_70 : decode cX4_readTypes 70 = .ok (.ireturn, 1) := by decide +kernel
theorem dX4_readMembers_0 : decode cX4_readMembers 0 = .ok (.iconst 0, 1) := by decide +kernel
theorem dX4_readMembers_1 : decode cX4_readMembers 1 = .ok (.istore_n 1, 1) := by decide +kernel
theorem dX4_readMembers_2 : decode cX4_readMembers 2 = .ok (.iload_n 1, 1) := by decide +kernel
theorem dX4_readMembers_3 : decode cX4_readMembers 3 = .ok (.bipush 12, 2) := by decide +kernel
theorem dX4_readMembers_5 : decode cX4_readMembers 5 = .ok (.if_icmp .gt 36, 3) := by decide +kernel
theorem dX4_readMembers_8 : decode cX4_readMembers 8 = .ok (.iload_n 1, 1) := by decide +kernel
theorem dX4_readMembers_9 : decode cX4_readMembers 9 = .ok (.ifCond .le 16, 3) := by decide +kernel
theorem dX4_readMembers_12 : decode cX4_readMembers 12 = .ok (.aload_n 0, 1) := by decide +kernel
theorem dX4_readMembers_13 : decode cX4_readMembers 13 = .ok (.getfield 26, 3) := by decide +kernel
theorem dX4_readMembers_16 : decode cX4_readMembers 16 = .ok (.aload_n 0, 1) := by decide +kernel
theorem dX4_readMembers_17 : decode cX4_readMembers 17 = .ok (.getfield 22, 3) := by decide +kernel
theorem dX4_readMembers_20 : decode cX4_readMembers 20 = .ok (.if_icmp .ne 5, 3) := by decide +kernel
theorem dX4_readMembers_23 : decode cX4_readMembers 23 = .ok (.iconst 1, 1) := by decide +kernel
theorem dX4_readMembers_24 : decode cX4_readMembers 24 = .ok (.ireturn, 1) := by decide +kernel
theorem dX4_readMembers_25 : decode cX4_readMembers 25 = .ok (.aload_n 0, 1) := by decide +kernel
theorem dX4_readMembers_26 : decode cX4_readMembers 26 = .ok (.iload_n 1, 1) := by decide +kernel
theorem dX4_readMembers_27 : decode cX4_readMembers 27 = .ok (.invokevirtual 70, 3) := by decide +kernel
theorem dX4_readMembers_30 : decode cX4_readMembers 30 = .ok (.ifCond .ne 5, 3) := by decide +kernel
theorem dX4_readMembers_33 : decode cX4_readMembers 33 = .ok (.iconst 0, 1) := by decide +kernel
theorem dX4_readMembers_34 : decode cX4_readMembers 34 = .ok (.ireturn, 1) := by decide +kernel
theorem dX4_readMembers_35 : decode cX4_readMembers 35 = .ok (.iinc 1 1, 3) := by decide +kernel
theorem dX4_readMembers_38 : decode cX4_readMembers 38 = .ok (.goto (-36), 3) := by decide +kernel
theorem dX4_readMembers_41 : decode cX4_readMembers 41 = .ok (.iconst 0, 1) := by decide +kernel
theorem dX4_readMembers_42 : decode cX4_readMembers 42 = .ok (.ireturn, 1) := by decide +kernel
theorem dX4_readMember_0 : decode cX4_readMember 0 = .ok (.aload_n 0, 1) := by decide +kernel
theorem dX4_readMember_1 : decode cX4_readMember 1 = .ok (.invokevirtual 73, 3) := by decide +kernel
theorem dX4_readMember_4 : decode cX4_readMember 4 = .ok (.invokestatic 77, 3) := by decide +kernel
theorem dX4_readMember_7 : decode cX4_readMember 7 = .ok (.istore_n 2, 1) := by decide +kernel
theorem dX4_readMember_8 : decode cX4_readMember 8 = .ok (.iload_n 2, 1) := by decide +kernel
theorem dX4_readMember_9 : decode cX4_readMember 9 = .ok (.ifCond .ne 9, 3) := by decide +kernel
theorem dX4_readMember_12 : decode cX4_readMember 12 = .ok (.aload_n 0, 1) := by decide +kernel
theorem dX4_readMember_13 : decode cX4_readMember 13 = .ok (.iconst 1, 1) := by decide +kernel
theorem dX4_readMember_14 : decode cX4_readMember 14 = .ok (.invokevirtual 81, 3) := by decide +kernel
theorem dX4_readMember_17 : decode cX4_readMember 17 = .ok (.ireturn, 1) := by decide +kernel
theorem dX4_readMember_18 : decode cX4_readMember 18 = .ok (.iload_n 1, 1) := by decide +kernel
theorem dX4_readMember_19 : decode cX4_readMember 19 = .ok (.bipush 12, 2) := by decide +kernel
theorem dX4_readMember_21 : decode cX4_readMember 21 = .ok (.if_icmp .lt 9, 3) := by decide +kernel
theorem dX4_readMember_24 : decode cX4_readMember 24 = .ok (.aload_n 0, 1) := by decide +kernel
theorem dX4_readMember_25 : decode cX4_readMember 25 = .ok (.iconst 3, 1) := by decide +kernel
theorem dX4_readMember_26 : decode cX4_readMember 26 = .ok (.invokevirtual 81, 3) := by decide +kernel
theorem dX4_readMember_29 : decode cX4_readMember 29 = .ok (.ireturn, 1) := by decide +kernel
theorem dX4_readMember_30 : decode cX4_readMember 30 = .ok (.aload_n 0, 1) := by decide +kernel
theorem dX4_readMember_31 : decode cX4_readMember 31 = .ok (.dup, 1) := by decide +kernel
theorem dX4_readMember_32 : decode cX4_readMember 32 = .ok (.getfield 26, 3) := by decide +kernel
theorem dX4_readMember_35 : decode cX4_readMember 35 = .ok (.iconst 1, 1) := by decide +kernel
theorem dX4_readMember_36 : decode cX4_readMember 36 = .ok (.iadd, 1) := by decide +kernel
theorem dX4_readMember_37 : decode cX4_readMember 37 = .ok (.putfield 26, 3) := by decide +kernel
theorem dX4_readMember_40 : decode cX4_readMember 40 = .ok (.aload_n 0, 1) := by decide +kernel
theorem dX4_readMember_41 : decode cX4_readMember 41 = .ok (.iconst 0, 1) := by decide +kernel
theorem dX4_readMember_42 : decode cX4_readMember 42 = .ok (.aload_n 0, 1) := by decide +kernel
theorem dX4_readMember_43 : decode cX4_readMember 43 = .ok (.getfield 18, 3) := by decide +kernel
theorem dX4_readMember_46 : decode cX4_readMember 46 = .ok (.getfield 32, 3) := by decide +kernel
theorem dX4_readMember_49 : decode cX4_readMember 49 = .ok (.iconst 1, 1) := by decide +kernel
theorem dX4_readMember_50 : decode cX4_readMember 50 = .ok (.isub, 1) := by decide +kernel
theorem dX4_readMember_51 : decode cX4_readMember 51 = .ok (.invokevirtual 55, 3) := by decide +kernel
theorem dX4_readMember_54 : decode cX4_readMember 54 = .ok (.istore_n 3, 1) := by decide +kernel
theorem dX4_readMember_55 : decode cX4_readMember 55 = .ok (.iload_n 3, 1) := by decide +kernel
theorem dX4_readMember_56 : decode cX4_readMember 56 = .ok (.ifCond .lt 12, 3) := by decide +kernel
theorem dX4_readMember_59 : decode cX4_readMember 59 = .ok (.aload_n 0, 1) := by decide +kernel
theorem dX4_readMember_60 : decode cX4_readMember 60 = .ok (.bipush 44, 2) := by decide +kernel
theorem dX4_readMember_62 : decode cX4_readMember 62 = .ok (.invokevirtual 51, 3) := by decide +kernel
theorem dX4_readMember_65 : decode cX4_readMember 65 = .ok (.ifCond .ne 5, 3) := by decide +kernel
theorem dX4_readMember_68 : decode cX4_readMember 68 = .ok (.iconst 0, 1) := by decide +kernel
theorem dX4_readMember_69 : decode cX4_readMember 69 = .ok (.ireturn, 1) := by decide +kernel
theorem dX4_readMember_70 : decode cX4_readMember 70 = .ok (.aload_n 0, 1) := by decide +kernel
theorem dX4_readMember_71 : decode cX4_readMember 71 = .ok (.iconst 1, 1) := by decide +kernel
theorem dX4_readMember_72 : decode cX4_readMember 72 = .ok (.bipush 9, 2) := by decide +kernel
theorem dX4_readMember_74 : decode cX4_readMember 74 = .ok (.invokevirtual 55, 3) := by decide +kernel
theorem dX4_readMember_77 : decode cX4_readMember 77 = .ok (.istore 4, 2) := by decide +kernel
theorem dX4_readMember_79 : decode cX4_readMember 79 = .ok (.iload 4, 2) := by decide +kernel
theorem dX4_readMember_81 : decode cX4_readMember 81 = .ok (.ifCond .ge 5, 3) := by decide +kernel
theorem dX4_readMember_84 : decode cX4_readMember 84 = .ok (.iconst 0, 1) := by decide +kernel
theorem dX4_readMember_85 : decode cX4_readMember 85 = .ok (.ireturn, 1) := by decide +kernel
theorem dX4_readMember_86 : decode cX4_readMember 86 = .ok (.aload_n 0, 1) := by decide +kernel
theorem dX4_readMember_87 : decode cX4_readMember 87 = .ok (.getfield 18, 3) := by decide +kernel
theorem dX4_readMember_90 : decode cX4_readMember 90 = .ok (.getfield 84, 3) := by decide +kernel
theorem dX4_readMember_93 : decode cX4_readMember 93 = .ok (.iload_n 1, 1) := by decide +kernel
theorem dX4_readMember_94 : decode cX4_readMember 94 = .ok (.iload_n 2, 1) := by decide +kernel
theorem dX4_readMember_95 : decode cX4_readMember 95 = .ok (.iastore, 1) := by decide +kernel
theorem dX4_readMember_96 : decode cX4_readMember 96 = .ok (.aload_n 0, 1) := by decide +kernel
theorem dX4_readMember_97 : decode cX4_readMember 97 = .ok (.getfield 18, 3) := by decide +kernel
theorem dX4_readMember_100 : decode cX4_readMember 100 = .ok (.getfield 87, 3) := by decide +kernel
theorem dX4_readMember_103 : decode cX4_readMember 103 = .ok (.iload_n 1, 1) := by decide +kernel
theorem dX4_readMember_104 : decode cX4_readMember 104 = .ok (.iload_n 3, 1) := by decide +kernel
theorem dX4_readMember_105 : decode cX4_readMember 105 = .ok (.iastore, 1) := by decide +kernel
theorem dX4_readMember_106 : decode cX4_readMember 106 = .ok (.aload_n 0, 1) := by decide +kernel
theorem dX4_readMember_107 : decode cX4_readMember 107 = .ok (.getfield 18, 3) := by decide +kernel
theorem dX4_readMember_110 : decode cX4_readMember 110 = .ok (.getfield 90, 3) := by decide +kernel
theorem dX4_readMember_113 : decode cX4_readMember 113 = .ok (.iload_n 1, 1) := by decide +kernel
theorem dX4_readMember_114 : decode cX4_readMember 114 = .ok (.iload 4, 2) := by decide +kernel
theorem dX4_readMember_116 : decode cX4_readMember 116 = .ok (.iastore, 1) := by decide +kernel
theorem dX4_readMember_117 : decode cX4_readMember 117 = .ok (.aload_n 0, 1) := by decide +kernel
theorem dX4_readMember_118 : decode cX4_readMember 118 = .ok (.getfield 18, 3) := by decide +kernel
theorem dX4_readMember_121 : decode cX4_readMember 121 = .ok (.getfield 93, 3) := by decide +kernel
theorem dX4_readMember_124 : decode cX4_readMember 124 = .ok (.iload_n 1, 1) := by decide +kernel
theorem dX4_readMember_125 : decode cX4_readMember 125 = .ok (.iconst 0, 1) := by decide +kernel
theorem dX4_readMember_126 : decode cX4_readMember 126 = .ok (.iastore, 1) := by decide +kernel
theorem dX4_readMember_127 : decode cX4_readMember 127 = .ok (.aload_n 0, 1) := by decide +kernel
theorem dX4_readMember_128 : decode cX4_readMember 128 = .ok (.getfield 18, 3) := by decide +kernel
theorem dX4_readMember_131 : decode cX4_readMember 131 = .ok (.iload_n 1, 1) := by decide +kernel
theorem dX4_readMember_132 : decode cX4_readMember 132 = .ok (.iconst 1, 1) := by decide +kernel
theorem dX4_readMember_133 : decode cX4_readMember 133 = .ok (.iadd, 1) := by decide +kernel
theorem dX4_readMember_134 : decode cX4_readMember 134 = .ok (.putfield 35, 3) := by decide +kernel
theorem dX4_readMember_137 : decode cX4_readMember 137 = .ok (.iload_n 2, 1) := by decide +kernel
theorem dX4_readMember_138 : decode cX4_readMember 138 = .ok (.iconst 4, 1) := by decide +kernel
theorem dX4_readMember_139 : decode cX4_readMember 139 = .ok (.if_icmp .eq 8, 3) := by decide +kernel
theorem dX4_readMember_142 : decode cX4_readMember 142 = .ok (.iload_n 2, 1) := by decide +kernel
theorem dX4_readMember_143 : decode cX4_readMember 143 = .ok (.iconst 5, 1) := by decide +kernel
theorem dX4_readMember_144 : decode cX4_readMember 144 = .ok (.if_icmp .ne 11, 3) := by decide +kernel
theorem dX4_readMember_147 : decode cX4_readMember 147 = .ok (.aload_n 0, 1) := by decide +kernel
theorem dX4_readMember_148 : decode cX4_readMember 148 = .ok (.iload_n 1, 1) := by decide +kernel
theorem dX4_readMember_149 : decode cX4_readMember 149 = .ok (.invokevirtual 96, 3) := by decide +kernel
theorem dX4_readMember_152 : decode cX4_readMember 152 = .ok (.ifCond .eq 16, 3) := by decide +kernel
theorem dX4_readMember_155 : decode cX4_readMember 155 = .ok (.aload_n 0, 1) := by decide +kernel
theorem dX4_readMember_156 : decode cX4_readMember 156 = .ok (.bipush 59, 2) := by decide +kernel
theorem dX4_readMember_158 : decode cX4_readMember 158 = .ok (.invokevirtual 51, 3) := by decide +kernel
theorem dX4_readMember_161 : decode cX4_readMember 161 = .ok (.ifCond .eq 7, 3) := by decide +kernel
theorem dX4_readMember_164 : decode cX4_readMember 164 = .ok (.iconst 1, 1) := by decide +kernel
theorem dX4_readMember_165 : decode cX4_readMember 165 = .ok (.goto 4, 3) := by decide +kernel
theorem dX4_readMember_168 : decode cX4_readMember 168 = .ok (.iconst 0, 1) := by decide +kernel
theorem dX4_readMember_169 : decode cX4_readMember 169 = .ok (.ireturn, 1) := by decide +kernel
theorem dX4_readTaken_0 : decode cX4_readTaken 0 = .ok (.aload_n 0, 1) := by decide +kernel
theorem dX4_readTaken_1 : decode cX4_readTaken 1 = .ok (.bipush 44, 2) := by decide +kernel
theorem dX4_readTaken_3 : decode cX4_readTaken 3 = .ok (.invokevirtual 51, 3) := by decide +kernel
theorem dX4_readTaken_6 : decode cX4_readTaken 6 = .ok (.ifCond .ne 5, 3) := by decide +kernel
theorem dX4_readTaken_9 : decode cX4_readTaken 9 = .ok (.iconst 0, 1) := by decide +kernel
theorem dX4_readTaken_10 : decode cX4_readTaken 10 = .ok (.ireturn, 1) := by decide +kernel
theorem dX4_readTaken_11 : decode cX4_readTaken 11 = .ok (.aload_n 0, 1) := by decide +kernel
theorem dX4_readTaken_12 : decode cX4_readTaken 12 = .ok (.getfield 18, 3) := by decide +kernel
theorem dX4_readTaken_15 : decode cX4_readTaken 15 = .ok (.getfield 99, 3) := by decide +kernel
theorem dX4_readTaken_18 : decode cX4_readTaken 18 = .ok (.iload_n 1, 1) := by decide +kernel
theorem dX4_readTaken_19 : decode cX4_readTaken 19 = .ok (.aload_n 0, 1) := by decide +kernel
theorem dX4_readTaken_20 : decode cX4_readTaken 20 = .ok (.iconst 0, 1) := by decide +kernel
theorem dX4_readTaken_21 : decode cX4_readTaken 21 = .ok (.aload_n 0, 1) := by decide +kernel
theorem dX4_readTaken_22 : decode cX4_readTaken 22 = .ok (.getfield 18, 3) := by decide +kernel
theorem dX4_readTaken_25 : decode cX4_readTaken 25 = .ok (.getfield 32, 3) := by decide +kernel
theorem dX4_readTaken_28 : decode cX4_readTaken 28 = .ok (.iconst 1, 1) := by decide +kernel
theorem dX4_readTaken_29 : decode cX4_readTaken 29 = .ok (.isub, 1) := by decide +kernel
theorem dX4_readTaken_30 : decode cX4_readTaken 30 = .ok (.invokevirtual 55, 3) := by decide +kernel
theorem dX4_readTaken_33 : decode cX4_readTaken 33 = .ok (.iastore, 1) := by decide +kernel
theorem dX4_readTaken_34 : decode cX4_readTaken 34 = .ok (.aload_n 0, 1) := by decide +kernel
theorem dX4_readTaken_35 : decode cX4_readTaken 35 = .ok (.getfield 18, 3) := by decide +kernel
theorem dX4_readTaken_38 : decode cX4_readTaken 38 = .ok (.getfield 93, 3) := by decide +kernel
theorem dX4_readTaken_41 : decode cX4_readTaken 41 = .ok (.iload_n 1, 1) := by decide +kernel
theorem dX4_readTaken_42 : decode cX4_readTaken 42 = .ok (.iconst 1, 1) := by decide +kernel
theorem dX4_readTaken_43 : decode cX4_readTaken 43 = .ok (.iastore, 1) := by decide +kernel
theorem dX4_readTaken_44 : decode cX4_readTaken 44 = .ok (.aload_n 0, 1) := by decide +kernel
theorem dX4_readTaken_45 : decode cX4_readTaken 45 = .ok (.getfield 18, 3) := by decide +kernel
theorem dX4_readTaken_48 : decode cX4_readTaken 48 = .ok (.getfield 99, 3) := by decide +kernel
theorem dX4_readTaken_51 : decode cX4_readTaken 51 = .ok (.iload_n 1, 1) := by decide +kernel
theorem dX4_readTaken_52 : decode cX4_readTaken 52 = .ok (.iaload, 1) := by decide +kernel
theorem dX4_readTaken_53 : decode cX4_readTaken 53 = .ok (.ifCond .lt 12, 3) := by decide +kernel
theorem dX4_readTaken_56 : decode cX4_readTaken 56 = .ok (.aload_n 0, 1) := by decide +kernel
theorem dX4_readTaken_57 : decode cX4_readTaken 57 = .ok (.invokevirtual 73, 3) := by decide +kernel
theorem dX4_readTaken_60 : decode cX4_readTaken 60 = .ok (.bipush 44, 2) := by decide +kernel
theorem dX4_readTaken_62 : decode cX4_readTaken 62 = .ok (.if_icmp .eq 21, 3) := by decide +kernel
theorem dX4_readTaken_65 : decode cX4_readTaken 65 = .ok (.aload_n 0, 1) := by decide +kernel
theorem dX4_readTaken_66 : decode cX4_readTaken 66 = .ok (.getfield 18, 3) := by decide +kernel
theorem dX4_readTaken_69 : decode cX4_readTaken 69 = .ok (.getfield 99, 3) := by decide +kernel
theorem dX4_readTaken_72 : decode cX4_readTaken 72 = .ok (.iload_n 1, 1) := by decide +kernel
theorem dX4_readTaken_73 : decode cX4_readTaken 73 = .ok (.iaload, 1) := by decide +kernel
theorem dX4_readTaken_74 : decode cX4_readTaken 74 = .ok (.ifCond .lt 7, 3) := by decide +kernel
theorem dX4_readTaken_77 : decode cX4_readTaken 77 = .ok (.iconst 1, 1) := by decide +kernel
theorem dX4_readTaken_78 : decode cX4_readTaken 78 = .ok (.goto 4, 3) := by decide +kernel
theorem dX4_readTaken_81 : decode cX4_readTaken 81 = .ok (.iconst 0, 1) := by decide +kernel
theorem dX4_readTaken_82 : decode cX4_readTaken 82 = .ok (.ireturn, 1) := by decide +kernel
theorem dX4_readTaken_83 : decode cX4_readTaken 83 = .ok (.aload_n 0, 1) := by decide +kernel
theorem dX4_readTaken_84 : decode cX4_readTaken 84 = .ok (.dup, 1) := by decide +kernel
theorem dX4_readTaken_85 : decode cX4_readTaken 85 = .ok (.getfield 26, 3) := by decide +kernel
theorem dX4_readTaken_88 : decode cX4_readTaken 88 = .ok (.iconst 1, 1) := by decide +kernel
theorem dX4_readTaken_89 : decode cX4_readTaken 89 = .ok (.iadd, 1) := by decide +kernel
theorem dX4_readTaken_90 : decode cX4_readTaken 90 = .ok (.putfield 26, 3) := by decide +kernel
theorem dX4_readTaken_93 : decode cX4_readTaken 93 = .ok (.aload_n 0, 1) := by decide +kernel
theorem dX4_readTaken_94 : decode cX4_readTaken 94 = .ok (.getfield 18, 3) := by decide +kernel
theorem dX4_readTaken_97 : decode cX4_readTaken 97 = .ok (.getfield 102, 3) := by decide +kernel
theorem dX4_readTaken_100 : decode cX4_readTaken 100 = .ok (.iload_n 1, 1) := by decide +kernel
theorem dX4_readTaken_101 : decode cX4_readTaken 101 = .ok (.aload_n 0, 1) := by decide +kernel
theorem dX4_readTaken_102 : decode cX4_readTaken 102 = .ok (.iconst 0, 1) := by decide +kernel
theorem dX4_readTaken_103 : decode cX4_readTaken 103 = .ok (.aload_n 0, 1) := by decide +kernel
theorem dX4_readTaken_104 : decode cX4_readTaken 104 = .ok (.getfield 18, 3) := by decide +kernel
theorem dX4_readTaken_107 : decode cX4_readTaken 107 = .ok (.getfield 32, 3) := by decide +kernel
theorem dX4_readTaken_110 : decode cX4_readTaken 110 = .ok (.iconst 1, 1) := by decide +kernel
theorem dX4_readTaken_111 : decode cX4_readTaken 111 = .ok (.isub, 1) := by decide +kernel
theorem dX4_readTaken_112 : decode cX4_readTaken 112 = .ok (.invokevirtual 55, 3) := by decide +kernel
theorem dX4_readTaken_115 : decode cX4_readTaken 115 = .ok (.iastore, 1) := by decide +kernel
theorem dX4_readTaken_116 : decode cX4_readTaken 116 = .ok (.aload_n 0, 1) := by decide +kernel
theorem dX4_readTaken_117 : decode cX4_readTaken 117 = .ok (.getfield 18, 3) := by decide +kernel
theorem dX4_readTaken_120 : decode cX4_readTaken 120 = .ok (.getfield 93, 3) := by decide +kernel
theorem dX4_readTaken_123 : decode cX4_readTaken 123 = .ok (.iload_n 1, 1) := by decide +kernel
theorem dX4_readTaken_124 : decode cX4_readTaken 124 = .ok (.iconst 2, 1) := by decide +kernel
theorem dX4_readTaken_125 : decode cX4_readTaken 125 = .ok (.iastore, 1) := by decide +kernel
theorem dX4_readTaken_126 : decode cX4_readTaken 126 = .ok (.aload_n 0, 1) := by decide +kernel
theorem dX4_readTaken_127 : decode cX4_readTaken 127 = .ok (.getfield 18, 3) := by decide +kernel
theorem dX4_readTaken_130 : decode cX4_readTaken 130 = .ok (.getfield 102, 3) := by decide +kernel
theorem dX4_readTaken_133 : decode cX4_readTaken 133 = .ok (.iload_n 1, 1) := by decide +kernel
theorem dX4_readTaken_134 : decode cX4_readTaken 134 = .ok (.iaload, 1) := by decide +kernel
theorem dX4_readTaken_135 : decode cX4_readTaken 135 = .ok (.ifCond .lt 7, 3) := by decide +kernel
theorem dX4_readTaken_138 : decode cX4_readTaken 138 = .ok (.iconst 1, 1) := by decide +kernel
theorem dX4_readTaken_139 : decode cX4_readTaken 139 = .ok (.goto 4, 3) := by decide +kernel
theorem dX4_readTaken_142 : decode cX4_readTaken 142 = .ok (.iconst 0, 1) := by decide +kernel
theorem dX4_readTaken_143 : decode cX4_readTaken 143 = .ok (.ireturn, 1) := by decide +kernel
theorem dX4_kindOf_0 : decode cX4_kindOf 0 = .ok (.iload_n 0, 1) := by decide +kernel
theorem dX4_kindOf_1 : decode cX4_kindOf 1 = .ok (.tableswitch 77 99 111 #[73, 77, 77, 69, 77, 77, 77, 77, 77, 67, 75, 77, 71], 67) := by decide +kernel
theorem dX4_kindOf_68 : decode cX4_kindOf 68 = .ok (.iconst 1, 1) := by decide +kernel
theorem dX4_kindOf_69 : decode cX4_kindOf 69 = .ok (.ireturn, 1) := by decide +kernel
theorem dX4_kindOf_70 : decode cX4_kindOf 70 = .ok (.iconst 2, 1) := by decide +kernel
theorem dX4_kindOf_71 : decode cX4_kindOf 71 = .ok (.ireturn, 1) := by decide +kernel
theorem dX4_kindOf_72 : decode cX4_kindOf 72 = .ok (.iconst 3, 1) := by decide +kernel
theorem dX4_kindOf_73 : decode cX4_kindOf 73 = .ok (.ireturn, 1) := by decide +kernel
theorem dX4_kindOf_74 : decode cX4_kindOf 74 = .ok (.iconst 4, 1) := by decide +kernel
theorem dX4_kindOf_75 : decode cX4_kindOf 75 = .ok (.ireturn, 1) := by decide +kernel
theorem dX4_kindOf_76 : decode cX4_kindOf 76 = .ok (.iconst 5, 1) := by decide +kernel
theorem dX4_kindOf_77 : decode cX4_kindOf 77 = .ok (.ireturn, 1) := by decide +kernel
theorem dX4_kindOf_78 : decode cX4_kindOf 78 = .ok (.iconst 0, 1) := by decide +kernel
theorem dX4_kindOf_79 : decode cX4_kindOf 79 = .ok (.ireturn, 1) := by decide +kernel
theorem dX4_here_0 : decode cX4_here 0 = .ok (.aload_n 0, 1) := by decide +kernel
theorem dX4_here_1 : decode cX4_here 1 = .ok (.aload_n 0, 1) := by decide +kernel
theorem dX4_here_2 : decode cX4_here 2 = .ok (.getfield 26, 3) := by decide +kernel
theorem dX4_here_5 : decode cX4_here 5 = .ok (.invokevirtual 105, 3) := by decide +kernel
theorem dX4_here_8 : decode cX4_here 8 = .ok (.ireturn, 1) := by decide +kernel
theorem dX4_byteAt_0 : decode cX4_byteAt 0 = .ok (.iload_n 1, 1) := by decide +kernel
theorem dX4_byteAt_1 : decode cX4_byteAt 1 = .ok (.aload_n 0, 1) := by decide +kernel
theorem dX4_byteAt_2 : decode cX4_byteAt 2 = .ok (.getfield 22, 3) := by decide +kernel
theorem dX4_byteAt_5 : decode cX4_byteAt 5 = .ok (.if_icmp .ge 12, 3) := by decide +kernel
theorem dX4_byteAt_8 : decode cX4_byteAt 8 = .ok (.aload_n 0, 1) := by decide +kernel
theorem dX4_byteAt_9 : decode cX4_byteAt 9 = .ok (.getfield 11, 3) := by decide +kernel
theorem dX4_byteAt_12 : decode cX4_byteAt 12 = .ok (.iload_n 1, 1) := by decide +kernel
theorem dX4_byteAt_13 : decode cX4_byteAt 13 = .ok (.iaload, 1) := by decide +kernel
theorem dX4_byteAt_14 : decode cX4_byteAt 14 = .ok (.goto 4, 3) := by decide +kernel
theorem dX4_byteAt_17 : decode cX4_byteAt 17 = .ok (.iconst (-1), 1) := by decide +kernel
theorem dX4_byteAt_18 : decode cX4_byteAt 18 = .ok (.ireturn, 1) := by decide +kernel
theorem dX4_take_0 : decode cX4_take 0 = .ok (.aload_n 0, 1) := by decide +kernel
theorem dX4_take_1 : decode cX4_take 1 = .ok (.invokevirtual 73, 3) := by decide +kernel
theorem dX4_take_4 : decode cX4_take 4 = .ok (.iload_n 1, 1) := by decide +kernel
theorem dX4_take_5 : decode cX4_take 5 = .ok (.if_icmp .eq 9, 3) := by decide +kernel
theorem dX4_take_8 : decode cX4_take 8 = .ok (.aload_n 0, 1) := by decide +kernel
theorem dX4_take_9 : decode cX4_take 9 = .ok (.iconst 1, 1) := by decide +kernel
theorem dX4_take_10 : decode cX4_take 10 = .ok (.invokevirtual 81, 3) := by decide +kernel
theorem dX4_take_13 : decode cX4_take 13 = .ok (.ireturn, 1) := by decide +kernel
theorem dX4_take_14 : decode cX4_take 14 = .ok (.aload_n 0, 1) := by decide +kernel
theorem dX4_take_15 : decode cX4_take 15 = .ok (.dup, 1) := by decide +kernel
theorem dX4_take_16 : decode cX4_take 16 = .ok (.getfield 26, 3) := by decide +kernel
theorem dX4_take_19 : decode cX4_take 19 = .ok (.iconst 1, 1) := by decide +kernel
theorem dX4_take_20 : decode cX4_take 20 = .ok (.iadd, 1) := by decide +kernel
theorem dX4_take_21 : decode cX4_take 21 = .ok (.putfield 26, 3) := by decide +kernel
theorem dX4_take_24 : decode cX4_take 24 = .ok (.iconst 1, 1) := by decide +kernel
theorem dX4_take_25 : decode cX4_take 25 = .ok (.ireturn, 1) := by decide +kernel
theorem dX4_takeNumber_0 : decode cX4_takeNumber 0 = .ok (.iconst 0, 1) := by decide +kernel
theorem dX4_takeNumber_1 : decode cX4_takeNumber 1 = .ok (.istore_n 3, 1) := by decide +kernel
theorem dX4_takeNumber_2 : decode cX4_takeNumber 2 = .ok (.iconst 0, 1) := by decide +kernel
theorem dX4_takeNumber_3 : decode cX4_takeNumber 3 = .ok (.istore 4, 2) := by decide +kernel
theorem dX4_takeNumber_5 : decode cX4_takeNumber 5 = .ok (.iload_n 3, 1) := by decide +kernel
theorem dX4_takeNumber_6 : decode cX4_takeNumber 6 = .ok (.iconst 2, 1) := by decide +kernel
theorem dX4_takeNumber_7 : decode cX4_takeNumber 7 = .ok (.if_icmp .gt 46, 3) := by decide +kernel
theorem dX4_takeNumber_10 : decode cX4_takeNumber 10 = .ok (.aload_n 0, 1) := by decide +kernel
theorem dX4_takeNumber_11 : decode cX4_takeNumber 11 = .ok (.aload_n 0, 1) := by decide +kernel
theorem dX4_takeNumber_12 : decode cX4_takeNumber 12 = .ok (.getfield 26, 3) := by decide +kernel
theorem dX4_takeNumber_15 : decode cX4_takeNumber 15 = .ok (.iload_n 3, 1) := by decide +kernel
theorem dX4_takeNumber_16 : decode cX4_takeNumber 16 = .ok (.iadd, 1) := by decide +kernel
theorem dX4_takeNumber_17 : decode cX4_takeNumber 17 = .ok (.invokevirtual 105, 3) := by decide +kernel
theorem dX4_takeNumber_20 : decode cX4_takeNumber 20 = .ok (.invokestatic 108, 3) := by decide +kernel
theorem dX4_takeNumber_23 : decode cX4_takeNumber 23 = .ok (.ifCond .eq 30, 3) := by decide +kernel
theorem dX4_takeNumber_26 : decode cX4_takeNumber 26 = .ok (.iload 4, 2) := by decide +kernel
theorem dX4_takeNumber_28 : decode cX4_takeNumber 28 = .ok (.bipush 10, 2) := by decide +kernel
theorem dX4_takeNumber_30 : decode cX4_takeNumber 30 = .ok (.imul, 1) := by decide +kernel
theorem dX4_takeNumber_31 : decode cX4_takeNumber 31 = .ok (.aload_n 0, 1) := by decide +kernel
theorem dX4_takeNumber_32 : decode cX4_takeNumber 32 = .ok (.aload_n 0, 1) := by decide +kernel
theorem dX4_takeNumber_33 : decode cX4_takeNumber 33 = .ok (.getfield 26, 3) := by decide +kernel
theorem dX4_takeNumber_36 : decode cX4_takeNumber 36 = .ok (.iload_n 3, 1) := by decide +kernel
theorem dX4_takeNumber_37 : decode cX4_takeNumber 37 = .ok (.iadd, 1) := by decide +kernel
theorem dX4_takeNumber_38 : decode cX4_takeNumber 38 = .ok (.invokevirtual 105, 3) := by decide +kernel
theorem dX4_takeNumber_41 : decode cX4_takeNumber 41 = .ok (.iadd, 1) := by decide +kernel
theorem dX4_takeNumber_42 : decode cX4_takeNumber 42 = .ok (.bipush 48, 2) := by decide +kernel
theorem dX4_takeNumber_44 : decode cX4_takeNumber 44 = .ok (.isub, 1) := by decide +kernel
theorem dX4_takeNumber_45 : decode cX4_takeNumber 45 = .ok (.istore 4, 2) := by decide +kernel
theorem dX4_takeNumber_47 : decode cX4_takeNumber 47 = .ok (.iinc 3 1, 3) := by decide +kernel
theorem dX4_takeNumber_50 : decode cX4_takeNumber 50 = .ok (.goto (-45), 3) := by decide +kernel
theorem dX4_takeNumber_53 : decode cX4_takeNumber 53 = .ok (.iload_n 3, 1) := by decide +kernel
theorem dX4_takeNumber_54 : decode cX4_takeNumber 54 = .ok (.ifCond .eq 8, 3) := by decide +kernel
theorem dX4_takeNumber_57 : decode cX4_takeNumber 57 = .ok (.iload_n 3, 1) := by decide +kernel
theorem dX4_takeNumber_58 : decode cX4_takeNumber 58 = .ok (.iconst 2, 1) := by decide +kernel
theorem dX4_takeNumber_59 : decode cX4_takeNumber 59 = .ok (.if_icmp .le 11, 3) := by decide +kernel
theorem dX4_takeNumber_62 : decode cX4_takeNumber 62 = .ok (.aload_n 0, 1) := by decide +kernel
theorem dX4_takeNumber_63 : decode cX4_takeNumber 63 = .ok (.iconst 1, 1) := by decide +kernel
theorem dX4_takeNumber_64 : decode cX4_takeNumber 64 = .ok (.invokevirtual 81, 3) := by decide +kernel
theorem dX4_takeNumber_67 : decode cX4_takeNumber 67 = .ok (.pop, 1) := by decide +kernel
theorem dX4_takeNumber_68 : decode cX4_takeNumber 68 = .ok (.iconst (-1), 1) := by decide +kernel
theorem dX4_takeNumber_69 : decode cX4_takeNumber 69 = .ok (.ireturn, 1) := by decide +kernel
theorem dX4_takeNumber_70 : decode cX4_takeNumber 70 = .ok (.iload 4, 2) := by decide +kernel
theorem dX4_takeNumber_72 : decode cX4_takeNumber 72 = .ok (.iload_n 1, 1) := by decide +kernel
theorem dX4_takeNumber_73 : decode cX4_takeNumber 73 = .ok (.if_icmp .lt 9, 3) := by decide +kernel
theorem dX4_takeNumber_76 : decode cX4_takeNumber 76 = .ok (.iload 4, 2) := by decide +kernel
theorem dX4_takeNumber_78 : decode cX4_takeNumber 78 = .ok (.iload_n 2, 1) := by decide +kernel
theorem dX4_takeNumber_79 : decode cX4_takeNumber 79 = .ok (.if_icmp .le 11, 3) := by decide +kernel
theorem dX4_takeNumber_82 : decode cX4_takeNumber 82 = .ok (.aload_n 0, 1) := by decide +kernel
theorem dX4_takeNumber_83 : decode cX4_takeNumber 83 = .ok (.iconst 2, 1) := by decide +kernel
theorem dX4_takeNumber_84 : decode cX4_takeNumber 84 = .ok (.invokevirtual 81, 3) := by decide +kernel
theorem dX4_takeNumber_87 : decode cX4_takeNumber 87 = .ok (.pop, 1) := by decide +kernel
theorem dX4_takeNumber_88 : decode cX4_takeNumber 88 = .ok (.iconst (-1), 1) := by decide +kernel
theorem dX4_takeNumber_89 : decode cX4_takeNumber 89 = .ok (.ireturn, 1) := by decide +kernel
theorem dX4_takeNumber_90 : decode cX4_takeNumber 90 = .ok (.aload_n 0, 1) := by decide +kernel
theorem dX4_takeNumber_91 : decode cX4_takeNumber 91 = .ok (.dup, 1) := by decide +kernel
theorem dX4_takeNumber_92 : decode cX4_takeNumber 92 = .ok (.getfield 26, 3) := by decide +kernel
theorem dX4_takeNumber_95 : decode cX4_takeNumber 95 = .ok (.iload_n 3, 1) := by decide +kernel
theorem dX4_takeNumber_96 : decode cX4_takeNumber 96 = .ok (.iadd, 1) := by decide +kernel
theorem dX4_takeNumber_97 : decode cX4_takeNumber 97 = .ok (.putfield 26, 3) := by decide +kernel
theorem dX4_takeNumber_100 : decode cX4_takeNumber 100 = .ok (.iload 4, 2) := by decide +kernel
theorem dX4_takeNumber_102 : decode cX4_takeNumber 102 = .ok (.ireturn, 1) := by decide +kernel
theorem dX4_isFigure_0 : decode cX4_isFigure 0 = .ok (.iload_n 0, 1) := by decide +kernel
theorem dX4_isFigure_1 : decode cX4_isFigure 1 = .ok (.bipush 48, 2) := by decide +kernel
theorem dX4_isFigure_3 : decode cX4_isFigure 3 = .ok (.if_icmp .lt 13, 3) := by decide +kernel
theorem dX4_isFigure_6 : decode cX4_isFigure 6 = .ok (.iload_n 0, 1) := by decide +kernel
theorem dX4_isFigure_7 : decode cX4_isFigure 7 = .ok (.bipush 57, 2) := by decide +kernel
theorem dX4_isFigure_9 : decode cX4_isFigure 9 = .ok (.if_icmp .gt 7, 3) := by decide +kernel
theorem dX4_isFigure_12 : decode cX4_isFigure 12 = .ok (.iconst 1, 1) := by decide +kernel
theorem dX4_isFigure_13 : decode cX4_isFigure 13 = .ok (.goto 4, 3) := by decide +kernel
theorem dX4_isFigure_16 : decode cX4_isFigure 16 = .ok (.iconst 0, 1) := by decide +kernel
theorem dX4_isFigure_17 : decode cX4_isFigure 17 = .ok (.ireturn, 1) := by decide +kernel
theorem dX4_refuse_0 : decode cX4_refuse 0 = .ok (.aload_n 0, 1) := by decide +kernel
theorem dX4_refuse_1 : decode cX4_refuse 1 = .ok (.iload_n 1, 1) := by decide +kernel
theorem dX4_refuse_2 : decode cX4_refuse 2 = .ok (.putfield 29, 3) := by decide +kernel
theorem dX4_refuse_5 : decode cX4_refuse 5 = .ok (.iconst 0, 1) := by decide +kernel
theorem dX4_refuse_6 : decode cX4_refuse 6 = .ok (.ireturn, 1) := by decide +kernel
theorem dX5_init_0 : decode cX5_init 0 = .ok (.aload_n 0, 1) := by decide +kernel
theorem dX5_init_1 : decode cX5_init 1 = .ok (.invokespecial 1, 3) := by decide +kernel
theorem dX5_init_4 : decode cX5_init 4 = .ok (.aload_n 0, 1) := by decide +kernel
theorem dX5_init_5 : decode cX5_init 5 = .ok (.bipush 8, 2) := by decide +kernel
theorem dX5_init_7 : decode cX5_init 7 = .ok (.bipush 40, 2) := by decide +kernel
theorem dX5_init_9 : decode cX5_init 9 = .ok (.multianewarray 9 2, 4) := by decide +kernel
theorem dX5_init_13 : decode cX5_init 13 = .ok (.putfield 11, 3) := by decide +kernel
theorem dX5_init_16 : decode cX5_init 16 = .ok (.aload_n 0, 1) := by decide +kernel
theorem dX5_init_17 : decode cX5_init 17 = .ok (.bipush 8, 2) := by decide +kernel
theorem dX5_init_19 : decode cX5_init 19 = .ok (.newarray .int, 2) := by decide +kernel
theorem dX5_init_21 : decode cX5_init 21 = .ok (.putfield 14, 3) := by decide +kernel
theorem dX5_init_24 : decode cX5_init 24 = .ok (.aload_n 0, 1) := by decide +kernel
theorem dX5_init_25 : decode cX5_init 25 = .ok (.bipush 8, 2) := by decide +kernel
theorem dX5_init_27 : decode cX5_init 27 = .ok (.newarray .int, 2) := by decide +kernel
theorem dX5_init_29 : decode cX5_init 29 = .ok (.putfield 18, 3) := by decide +kernel
theorem dX5_init_32 : decode cX5_init 32 = .ok (.aload_n 0, 1) := by decide +kernel
theorem dX5_init_33 : decode cX5_init 33 = .ok (.getfield 14, 3) := by decide +kernel
theorem dX5_init_36 : decode cX5_init 36 = .ok (.iconst (-1), 1) := by decide +kernel
theorem dX5_init_37 : decode cX5_init 37 = .ok (.invokestatic 21, 3) := by decide +kernel
theorem dX5_init_40 : decode cX5_init 40 = .ok (.return_, 1) := by decide +kernel
theorem dX5_isRow_0 : decode cX5_isRow 0 = .ok (.iload_n 0, 1) := by decide +kernel
theorem dX5_isRow_1 : decode cX5_isRow 1 = .ok (.ifCond .lt 13, 3) := by decide +kernel
theorem dX5_isRow_4 : decode cX5_isRow 4 = .ok (.iload_n 0, 1) := by decide +kernel
theorem dX5_isRow_5 : decode cX5_isRow 5 = .ok (.bipush 8, 2) := by decide +kernel
theorem dX5_isRow_7 : decode cX5_isRow 7 = .ok (.if_icmp .ge 7, 3) := by decide +kernel
theorem dX5_isRow_10 : decode cX5_isRow 10 = .ok (.iconst 1, 1) := by decide +kernel
theorem dX5_isRow_11 : decode cX5_isRow 11 = .ok (.goto 4, 3) := by decide +kernel
theorem dX5_isRow_14 : decode cX5_isRow 14 = .ok (.iconst 0, 1) := by decide +kernel
theorem dX5_isRow_15 : decode cX5_isRow 15 = .ok (.ireturn, 1) := by decide +kernel
theorem dX5_isLane_0 : decode cX5_isLane 0 = .ok (.iload_n 0, 1) := by decide +kernel
theorem dX5_isLane_1 : decode cX5_isLane 1 = .ok (.ifCond .lt 12, 3) := by decide +kernel
theorem dX5_isLane_4 : decode cX5_isLane 4 = .ok (.iload_n 0, 1) := by decide +kernel
theorem dX5_isLane_5 : decode cX5_isLane 5 = .ok (.iconst 2, 1) := by decide +kernel
theorem dX5_isLane_6 : decode cX5_isLane 6 = .ok (.if_icmp .gt 7, 3) := by decide +kernel
theorem dX5_isLane_9 : decode cX5_isLane 9 = .ok (.iconst 1, 1) := by decide +kernel
theorem dX5_isLane_10 : decode cX5_isLane 10 = .ok (.goto 4, 3) := by decide +kernel
theorem dX5_isLane_13 : decode cX5_isLane 13 = .ok (.iconst 0, 1) := by decide +kernel
theorem dX5_isLane_14 : decode cX5_isLane 14 = .ok (.ireturn, 1) := by decide +kernel
theorem dX5_isMissing_0 : decode cX5_isMissing 0 = .ok (.aload_n 0, 1) := by decide +kernel
theorem dX5_isMissing_1 : decode cX5_isMissing 1 = .ok (.getfield 14, 3) := by decide +kernel
theorem dX5_isMissing_4 : decode cX5_isMissing 4 = .ok (.iload_n 1, 1) := by decide +kernel
theorem dX5_isMissing_5 : decode cX5_isMissing 5 = .ok (.iaload, 1) := by decide +kernel
theorem dX5_isMissing_6 : decode cX5_isMissing 6 = .ok (.iconst (-1), 1) := by decide +kernel
theorem dX5_isMissing_7 : decode cX5_isMissing 7 = .ok (.if_icmp .ne 7, 3) := by decide +kernel
theorem dX5_isMissing_10 : decode cX5_isMissing 10 = .ok (.iconst 1, 1) := by decide +kernel
theorem dX5_isMissing_11 : decode cX5_isMissing 11 = .ok (.goto 4, 3) := by decide +kernel
theorem dX5_isMissing_14 : decode cX5_isMissing 14 = .ok (.iconst 0, 1) := by decide +kernel
theorem dX5_isMissing_15 : decode cX5_isMissing 15 = .ok (.ireturn, 1) := by decide +kernel
theorem dX5_hasPlaces_0 : decode cX5_hasPlaces 0 = .ok (.iload_n 2, 1) := by decide +kernel
theorem dX5_hasPlaces_1 : decode cX5_hasPlaces 1 = .ok (.ifCond .lt 23, 3) := by decide +kernel
theorem dX5_hasPlaces_4 : decode cX5_hasPlaces 4 = .ok (.iload_n 3, 1) := by decide +kernel
theorem dX5_hasPlaces_5 : decode cX5_hasPlaces 5 = .ok (.ifCond .lt 19, 3) := by decide +kernel
theorem dX5_hasPlaces_8 : decode cX5_hasPlaces 8 = .ok (.iload_n 2, 1) := by decide +kernel
theorem dX5_hasPlaces_9 : decode cX5_hasPlaces 9 = .ok (.aload_n 0, 1) := by decide +kernel
theorem dX5_hasPlaces_10 : decode cX5_hasPlaces 10 = .ok (.getfield 18, 3) := by decide +kernel
theorem dX5_hasPlaces_13 : decode cX5_hasPlaces 13 = .ok (.iload_n 1, 1) := by decide +kernel
theorem dX5_hasPlaces_14 : decode cX5_hasPlaces 14 = .ok (.iaload, 1) := by decide +kernel
theorem dX5_hasPlaces_15 : decode cX5_hasPlaces 15 = .ok (.iload_n 3, 1) := by decide +kernel
theorem dX5_hasPlaces_16 : decode cX5_hasPlaces 16 = .ok (.isub, 1) := by decide +kernel
theorem dX5_hasPlaces_17 : decode cX5_hasPlaces 17 = .ok (.if_icmp .gt 7, 3) := by decide +kernel
theorem dX5_hasPlaces_20 : decode cX5_hasPlaces 20 = .ok (.iconst 1, 1) := by decide +kernel
theorem dX5_hasPlaces_21 : decode cX5_hasPlaces 21 = .ok (.goto 4, 3) := by decide +kernel
theorem dX5_hasPlaces_24 : decode cX5_hasPlaces 24 = .ok (.iconst 0, 1) := by decide +kernel
theorem dX5_hasPlaces_25 : decode cX5_hasPlaces 25 = .ok (.ireturn, 1) := by decide +kernel
theorem dX5_make_0 : decode cX5_make 0 = .ok (.aload_n 0, 1) := by decide +kernel
theorem dX5_make_1 : decode cX5_make 1 = .ok (.getfield 14, 3) := by decide +kernel
theorem dX5_make_4 : decode cX5_make 4 = .ok (.iload_n 1, 1) := by decide +kernel
theorem dX5_make_5 : decode cX5_make 5 = .ok (.iload_n 2, 1) := by decide +kernel
theorem dX5_make_6 : decode cX5_make 6 = .ok (.iastore, 1) := by decide +kernel
theorem dX5_make_7 : decode cX5_make 7 = .ok (.aload_n 0, 1) := by decide +kernel
theorem dX5_make_8 : decode cX5_make 8 = .ok (.getfield 18, 3) := by decide +kernel
theorem dX5_make_11 : decode cX5_make 11 = .ok (.iload_n 1, 1) := by decide +kernel
theorem dX5_make_12 : decode cX5_make 12 = .ok (.iload_n 3, 1) := by decide +kernel
theorem dX5_make_13 : decode cX5_make 13 = .ok (.iastore, 1) := by decide +kernel
theorem dX5_make_14 : decode cX5_make 14 = .ok (.aload_n 0, 1) := by decide +kernel
theorem dX5_make_15 : decode cX5_make 15 = .ok (.getfield 11, 3) := by decide +kernel
theorem dX5_make_18 : decode cX5_make 18 = .ok (.iload_n 1, 1) := by decide +kernel
theorem dX5_make_19 : decode cX5_make 19 = .ok (.aaload, 1) := by decide +kernel
theorem dX5_make_20 : decode cX5_make 20 = .ok (.iconst 0, 1) := by decide +kernel
theorem dX5_make_21 : decode cX5_make 21 = .ok (.invokestatic 21, 3) := by decide +kernel
theorem dX5_make_24 : decode cX5_make 24 = .ok (.return_, 1) := by decide +kernel
theorem dX5_put_0 : decode cX5_put 0 = .ok (.iload_n 3, 1) := by decide +kernel
theorem dX5_put_1 : decode cX5_put 1 = .ok (.istore 4, 2) := by decide +kernel
theorem dX5_put_3 : decode cX5_put 3 = .ok (.aload_n 0, 1) := by decide +kernel
theorem dX5_put_4 : decode cX5_put 4 = .ok (.getfield 14, 3) := by decide +kernel
theorem dX5_put_7 : decode cX5_put 7 = .ok (.iload_n 1, 1) := by decide +kernel
theorem dX5_put_8 : decode cX5_put 8 = .ok (.iaload, 1) := by decide +kernel
theorem dX5_put_9 : decode cX5_put 9 = .ok (.ifCond .ne 10, 3) := by decide +kernel
theorem dX5_put_12 : decode cX5_put 12 = .ok (.iload_n 3, 1) := by decide +kernel
theorem dX5_put_13 : decode cX5_put 13 = .ok (.i2b, 1) := by decide +kernel
theorem dX5_put_14 : decode cX5_put 14 = .ok (.istore 4, 2) := by decide +kernel
theorem dX5_put_16 : decode cX5_put 16 = .ok (.goto 17, 3) := by decide +kernel
theorem dX5_put_19 : decode cX5_put 19 = .ok (.aload_n 0, 1) := by decide +kernel
theorem dX5_put_20 : decode cX5_put 20 = .ok (.getfield 14, 3) := by decide +kernel
theorem dX5_put_23 : decode cX5_put 23 = .ok (.iload_n 1, 1) := by decide +kernel
theorem dX5_put_24 : decode cX5_put 24 = .ok (.iaload, 1) := by decide +kernel
theorem dX5_put_25 : decode cX5_put 25 = .ok (.iconst 1, 1) := by decide +kernel
theorem dX5_put_26 : decode cX5_put 26 = .ok (.if_icmp .ne 7, 3) := by decide +kernel
theorem dX5_put_29 : decode cX5_put 29 = .ok (.iload_n 3, 1) := by decide +kernel
theorem dX5_put_30 : decode cX5_put 30 = .ok (.i2s, 1) := by decide +kernel
theorem dX5_put_31 : decode cX5_put 31 = .ok (.istore 4, 2) := by decide +kernel
theorem dX5_put_33 : decode cX5_put 33 = .ok (.aload_n 0, 1) := by decide +kernel
theorem dX5_put_34 : decode cX5_put 34 = .ok (.getfield 11, 3) := by decide +kernel
theorem dX5_put_37 : decode cX5_put 37 = .ok (.iload_n 1, 1) := by decide +kernel
theorem dX5_put_38 : decode cX5_put 38 = .ok (.aaload, 1) := by decide +kernel
theorem dX5_put_39 : decode cX5_put 39 = .ok (.iload_n 2, 1) := by decide +kernel
theorem dX5_put_40 : decode cX5_put 40 = .ok (.iload 4, 2) := by decide +kernel
theorem dX5_put_42 : decode cX5_put 42 = .ok (.iastore, 1) := by decide +kernel
theorem dX5_put_43 : decode cX5_put 43 = .ok (.iload 4, 2) := by decide +kernel
theorem dX5_put_45 : decode cX5_put 45 = .ok (.ireturn, 1) := by decide +kernel
theorem dX5_lose_0 : decode cX5_lose 0 = .ok (.aload_n 0, 1) := by decide +kernel
theorem dX5_lose_1 : decode cX5_lose 1 = .ok (.getfield 14, 3) := by decide +kernel
theorem dX5_lose_4 : decode cX5_lose 4 = .ok (.iload_n 1, 1) := by decide +kernel
theorem dX5_lose_5 : decode cX5_lose 5 = .ok (.iconst (-1), 1) := by decide +kernel
theorem dX5_lose_6 : decode cX5_lose 6 = .ok (.iastore, 1) := by decide +kernel
theorem dX5_lose_7 : decode cX5_lose 7 = .ok (.aload_n 0, 1) := by decide +kernel
theorem dX5_lose_8 : decode cX5_lose 8 = .ok (.getfield 18, 3) := by decide +kernel
theorem dX5_lose_11 : decode cX5_lose 11 = .ok (.iload_n 1, 1) := by decide +kernel
theorem dX5_lose_12 : decode cX5_lose 12 = .ok (.iaload, 1) := by decide +kernel
theorem dX5_lose_13 : decode cX5_lose 13 = .ok (.ireturn, 1) := by decide +kernel
theorem dX5_present_0 : decode cX5_present 0 = .ok (.iconst 0, 1) := by decide +kernel
theorem dX5_present_1 : decode cX5_present 1 = .ok (.istore_n 1, 1) := by decide +kernel
theorem dX5_present_2 : decode cX5_present 2 = .ok (.iconst 0, 1) := by decide +kernel
theorem dX5_present_3 : decode cX5_present 3 = .ok (.istore_n 2, 1) := by decide +kernel
theorem dX5_present_4 : decode cX5_present 4 = .ok (.iload_n 2, 1) := by decide +kernel
theorem dX5_present_5 : decode cX5_present 5 = .ok (.bipush 8, 2) := by decide +kernel
theorem dX5_present_7 : decode cX5_present 7 = .ok (.if_icmp .ge 25, 3) := by decide +kernel
theorem dX5_present_10 : decode cX5_present 10 = .ok (.iload_n 1, 1) := by decide +kernel
theorem dX5_present_11 : decode cX5_present 11 = .ok (.aload_n 0, 1) := by decide +kernel
theorem dX5_present_12 : decode cX5_present 12 = .ok (.iload_n 2, 1) := by decide +kernel
theorem dX5_present_13 : decode cX5_present 13 = .ok (.invokevirtual 27, 3) := by decide +kernel
theorem dX5_present_16 : decode cX5_present 16 = .ok (.ifCond .eq 7, 3) := by decide +kernel
theorem dX5_present_19 : decode cX5_present 19 = .ok (.iconst 0, 1) := by decide +kernel
theorem dX5_present_20 : decode cX5_present 20 = .ok (.goto 4, 3) := by decide +kernel
theorem dX5_present_23 : decode cX5_present 23 = .ok (.iconst 1, 1) := by decide +kernel
theorem dX5_present_24 : decode cX5_present 24 = .ok (.iadd, 1) := by decide +kernel
theorem dX5_present_25 : decode cX5_present 25 = .ok (.istore_n 1, 1) := by decide +kernel
theorem dX5_present_26 : decode cX5_present 26 = .ok (.iinc 2 1, 3) := by decide +kernel
theorem dX5_present_29 : decode cX5_present 29 = .ok (.goto (-25), 3) := by decide +kernel
theorem dX5_present_32 : decode cX5_present 32 = .ok (.iload_n 1, 1) := by decide +kernel
theorem dX5_present_33 : decode cX5_present 33 = .ok (.ireturn, 1) := by decide +kernel
theorem dX6_init_0 : decode cX6_init 0 = .ok (.aload_n 0, 1) := by decide +kernel
theorem dX6_init_1 : decode cX6_init 1 = .ok (.invokespecial 3, 3) := by decide +kernel
theorem dX6_init_4 : decode cX6_init 4 = .ok (.aload_n 0, 1) := by decide +kernel
theorem dX6_init_5 : decode cX6_init 5 = .ok (.bipush 24, 2) := by decide +kernel
theorem dX6_init_7 : decode cX6_init 7 = .ok (.newarray .int, 2) := by decide +kernel
theorem dX6_init_9 : decode cX6_init 9 = .ok (.putfield 11, 3) := by decide +kernel
theorem dX6_init_12 : decode cX6_init 12 = .ok (.aload_n 0, 1) := by decide +kernel
theorem dX6_init_13 : decode cX6_init 13 = .ok (.bipush 26, 2) := by decide +kernel
theorem dX6_init_15 : decode cX6_init 15 = .ok (.newarray .int, 2) := by decide +kernel
theorem dX6_init_17 : decode cX6_init 17 = .ok (.putfield 15, 3) := by decide +kernel
theorem dX6_init_20 : decode cX6_init 20 = .ok (.aload_n 0, 1) := by decide +kernel
theorem dX6_init_21 : decode cX6_init 21 = .ok (.aload_n 1, 1) := by decide +kernel
theorem dX6_init_22 : decode cX6_init 22 = .ok (.putfield 18, 3) := by decide +kernel
theorem dX6_init_25 : decode cX6_init 25 = .ok (.aload_n 0, 1) := by decide +kernel
theorem dX6_init_26 : decode cX6_init 26 = .ok (.aload_n 2, 1) := by decide +kernel
theorem dX6_init_27 : decode cX6_init 27 = .ok (.putfield 22, 3) := by decide +kernel
theorem dX6_init_30 : decode cX6_init 30 = .ok (.return_, 1) := by decide +kernel
theorem dX6_isLength_0 : decode cX6_isLength 0 = .ok (.iload_n 0, 1) := by decide +kernel
theorem dX6_isLength_1 : decode cX6_isLength 1 = .ok (.iconst 1, 1) := by decide +kernel
theorem dX6_isLength_2 : decode cX6_isLength 2 = .ok (.if_icmp .lt 13, 3) := by decide +kernel
theorem dX6_isLength_5 : decode cX6_isLength 5 = .ok (.iload_n 0, 1) := by decide +kernel
theorem dX6_isLength_6 : decode cX6_isLength 6 = .ok (.bipush 24, 2) := by decide +kernel
theorem dX6_isLength_8 : decode cX6_isLength 8 = .ok (.if_icmp .gt 7, 3) := by decide +kernel
theorem dX6_isLength_11 : decode cX6_isLength 11 = .ok (.iconst 1, 1) := by decide +kernel
theorem dX6_isLength_12 : decode cX6_isLength 12 = .ok (.goto 4, 3) := by decide +kernel
theorem dX6_isLength_15 : decode cX6_isLength 15 = .ok (.iconst 0, 1) := by decide +kernel
theorem dX6_isLength_16 : decode cX6_isLength 16 = .ok (.ireturn, 1) := by decide +kernel
theorem dX6_take_0 : decode cX6_take 0 = .ok (.aload_n 0, 1) := by decide +kernel
theorem dX6_take_1 : decode cX6_take 1 = .ok (.getfield 22, 3) := by decide +kernel
theorem dX6_take_4 : decode cX6_take 4 = .ok (.iload_n 1, 1) := by decide +kernel
theorem dX6_take_5 : decode cX6_take 5 = .ok (.invokevirtual 26, 3) := by decide +kernel
theorem dX6_take_8 : decode cX6_take 8 = .ok (.ifCond .eq 5, 3) := by decide +kernel
theorem dX6_take_11 : decode cX6_take 11 = .ok (.iconst 1, 1) := by decide +kernel
theorem dX6_take_12 : decode cX6_take 12 = .ok (.ireturn, 1) := by decide +kernel
theorem dX6_take_13 : decode cX6_take 13 = .ok (.aload_n 0, 1) := by decide +kernel
theorem dX6_take_14 : decode cX6_take 14 = .ok (.getfield 22, 3) := by decide +kernel
theorem dX6_take_17 : decode cX6_take 17 = .ok (.iload_n 1, 1) := by decide +kernel
theorem dX6_take_18 : decode cX6_take 18 = .ok (.iload_n 2, 1) := by decide +kernel
theorem dX6_take_19 : decode cX6_take 19 = .ok (.iload_n 3, 1) := by decide +kernel
theorem dX6_take_20 : decode cX6_take 20 = .ok (.invokevirtual 32, 3) := by decide +kernel
theorem dX6_take_23 : decode cX6_take 23 = .ok (.ifCond .ne 5, 3) := by decide +kernel
theorem dX6_take_26 : decode cX6_take 26 = .ok (.iconst 2, 1) := by decide +kernel
theorem dX6_take_27 : decode cX6_take 27 = .ok (.ireturn, 1) := by decide +kernel
theorem dX6_take_28 : decode cX6_take 28 = .ok (.aload_n 0, 1) := by decide +kernel
theorem dX6_take_29 : decode cX6_take 29 = .ok (.getfield 22, 3) := by decide +kernel
theorem dX6_take_32 : decode cX6_take 32 = .ok (.getfield 36, 3) := by decide +kernel
theorem dX6_take_35 : decode cX6_take 35 = .ok (.iload_n 1, 1) := by decide +kernel
theorem dX6_take_36 : decode cX6_take 36 = .ok (.aaload, 1) := by decide +kernel
theorem dX6_take_37 : decode cX6_take 37 = .ok (.iload_n 2, 1) := by decide +kernel
theorem dX6_take_38 : decode cX6_take 38 = .ok (.aload_n 0, 1) := by decide +kernel
theorem dX6_take_39 : decode cX6_take 39 = .ok (.getfield 11, 3) := by decide +kernel
theorem dX6_take_42 : decode cX6_take 42 = .ok (.iconst 0, 1) := by decide +kernel
theorem dX6_take_43 : decode cX6_take 43 = .ok (.iload_n 3, 1) := by decide +kernel
theorem dX6_take_44 : decode cX6_take 44 = .ok (.invokestatic 40, 3) := by decide +kernel
theorem dX6_take_47 : decode cX6_take 47 = .ok (.aload_n 0, 1) := by decide +kernel
theorem dX6_take_48 : decode cX6_take 48 = .ok (.iload_n 3, 1) := by decide +kernel
theorem dX6_take_49 : decode cX6_take 49 = .ok (.putfield 46, 3) := by decide +kernel
theorem dX6_take_52 : decode cX6_take 52 = .ok (.iconst 0, 1) := by decide +kernel
theorem dX6_take_53 : decode cX6_take 53 = .ok (.ireturn, 1) := by decide +kernel
theorem dX6_isWhole_0 : decode cX6_isWhole 0 = .ok (.iconst 0, 1) := by decide +kernel
theorem dX6_isWhole_1 : decode cX6_isWhole 1 = .ok (.istore_n 1, 1) := by decide +kernel
theorem dX6_isWhole_2 : decode cX6_isWhole 2 = .ok (.iconst 0, 1) := by decide +kernel
theorem dX6_isWhole_3 : decode cX6_isWhole 3 = .ok (.istore_n 2, 1) := by decide +kernel
theorem dX6_isWhole_4 : decode cX6_isWhole 4 = .ok (.iload_n 2, 1) := by decide +kernel
theorem dX6_isWhole_5 : decode cX6_isWhole 5 = .ok (.aload_n 0, 1) := by decide +kernel
theorem dX6_isWhole_6 : decode cX6_isWhole 6 = .ok (.getfield 46, 3) := by decide +kernel
theorem dX6_isWhole_9 : decode cX6_isWhole 9 = .ok (.if_icmp .ge 46, 3) := by decide +kernel
theorem dX6_isWhole_12 : decode cX6_isWhole 12 = .ok (.iload_n 2, 1) := by decide +kernel
theorem dX6_isWhole_13 : decode cX6_isWhole 13 = .ok (.ifCond .le 7, 3) := by decide +kernel
theorem dX6_isWhole_16 : decode cX6_isWhole 16 = .ok (.iload_n 1, 1) := by decide +kernel
theorem dX6_isWhole_17 : decode cX6_isWhole 17 = .ok (.ifCond .eq 12, 3) := by decide +kernel
theorem dX6_isWhole_20 : decode cX6_isWhole 20 = .ok (.aload_n 0, 1) := by decide +kernel
theorem dX6_isWhole_21 : decode cX6_isWhole 21 = .ok (.iload_n 2, 1) := by decide +kernel
theorem dX6_isWhole_22 : decode cX6_isWhole 22 = .ok (.iload_n 1, 1) := by decide +kernel
theorem dX6_isWhole_23 : decode cX6_isWhole 23 = .ok (.invokevirtual 50, 3) := by decide +kernel
theorem dX6_isWhole_26 : decode cX6_isWhole 26 = .ok (.ifCond .ne 5, 3) := by decide +kernel
theorem dX6_isWhole_29 : decode cX6_isWhole 29 = .ok (.iconst 0, 1) := by decide +kernel
theorem dX6_isWhole_30 : decode cX6_isWhole 30 = .ok (.ireturn, 1) := by decide +kernel
theorem dX6_isWhole_31 : decode cX6_isWhole 31 = .ok (.aload_n 0, 1) := by decide +kernel
theorem dX6_isWhole_32 : decode cX6_isWhole 32 = .ok (.aload_n 0, 1) := by decide +kernel
theorem dX6_isWhole_33 : decode cX6_isWhole 33 = .ok (.getfield 11, 3) := by decide +kernel
theorem dX6_isWhole_36 : decode cX6_isWhole 36 = .ok (.iload_n 2, 1) := by decide +kernel
theorem dX6_isWhole_37 : decode cX6_isWhole 37 = .ok (.iaload, 1) := by decide +kernel
theorem dX6_isWhole_38 : decode cX6_isWhole 38 = .ok (.iload_n 1, 1) := by decide +kernel
theorem dX6_isWhole_39 : decode cX6_isWhole 39 = .ok (.iconst 1, 1) := by decide +kernel
theorem dX6_isWhole_40 : decode cX6_isWhole 40 = .ok (.isub, 1) := by decide +kernel
theorem dX6_isWhole_41 : decode cX6_isWhole 41 = .ok (.iconst 0, 1) := by decide +kernel
theorem dX6_isWhole_42 : decode cX6_isWhole 42 = .ok (.invokestatic 54, 3) := by decide +kernel
theorem dX6_isWhole_45 : decode cX6_isWhole 45 = .ok (.invokevirtual 60, 3) := by decide +kernel
theorem dX6_isWhole_48 : decode cX6_isWhole 48 = .ok (.istore_n 1, 1) := by decide +kernel
theorem dX6_isWhole_49 : decode cX6_isWhole 49 = .ok (.iinc 2 1, 3) := by decide +kernel
theorem dX6_isWhole_52 : decode cX6_isWhole 52 = .ok (.goto (-48), 3) := by decide +kernel
theorem dX6_isWhole_55 : decode cX6_isWhole 55 = .ok (.iload_n 1, 1) := by decide +kernel
theorem dX6_isWhole_56 : decode cX6_isWhole 56 = .ok (.ifCond .ne 7, 3) := by decide +kernel
theorem dX6_isWhole_59 : decode cX6_isWhole 59 = .ok (.iconst 1, 1) := by decide +kernel
theorem dX6_isWhole_60 : decode cX6_isWhole 60 = .ok (.goto 4, 3) := by decide +kernel
theorem dX6_isWhole_63 : decode cX6_isWhole 63 = .ok (.iconst 0, 1) := by decide +kernel
theorem dX6_isWhole_64 : decode cX6_isWhole 64 = .ok (.ireturn, 1) := by decide +kernel
theorem dX6_fits_0 : decode cX6_fits 0 = .ok (.aload_n 0, 1) := by decide +kernel
theorem dX6_fits_1 : decode cX6_fits 1 = .ok (.getfield 11, 3) := by decide +kernel
theorem dX6_fits_4 : decode cX6_fits 4 = .ok (.iload_n 1, 1) := by decide +kernel
theorem dX6_fits_5 : decode cX6_fits 5 = .ok (.iaload, 1) := by decide +kernel
theorem dX6_fits_6 : decode cX6_fits 6 = .ok (.istore_n 3, 1) := by decide +kernel
theorem dX6_fits_7 : decode cX6_fits 7 = .ok (.aload_n 0, 1) := by decide +kernel
theorem dX6_fits_8 : decode cX6_fits 8 = .ok (.getfield 18, 3) := by decide +kernel
theorem dX6_fits_11 : decode cX6_fits 11 = .ok (.iload_n 3, 1) := by decide +kernel
theorem dX6_fits_12 : decode cX6_fits 12 = .ok (.invokevirtual 63, 3) := by decide +kernel
theorem dX6_fits_15 : decode cX6_fits 15 = .ok (.ifCond .eq 14, 3) := by decide +kernel
theorem dX6_fits_18 : decode cX6_fits 18 = .ok (.aload_n 0, 1) := by decide +kernel
theorem dX6_fits_19 : decode cX6_fits 19 = .ok (.getfield 18, 3) := by decide +kernel
theorem dX6_fits_22 : decode cX6_fits 22 = .ok (.iload_n 3, 1) := by decide +kernel
theorem dX6_fits_23 : decode cX6_fits 23 = .ok (.invokevirtual 68, 3) := by decide +kernel
theorem dX6_fits_26 : decode cX6_fits 26 = .ok (.ifCond .eq 5, 3) := by decide +kernel
theorem dX6_fits_29 : decode cX6_fits 29 = .ok (.iconst 0, 1) := by decide +kernel
theorem dX6_fits_30 : decode cX6_fits 30 = .ok (.ireturn, 1) := by decide +kernel
theorem dX6_fits_31 : decode cX6_fits 31 = .ok (.iload_n 1, 1) := by decide +kernel
theorem dX6_fits_32 : decode cX6_fits 32 = .ok (.ifCond .eq 22, 3) := by decide +kernel
theorem dX6_fits_35 : decode cX6_fits 35 = .ok (.aload_n 0, 1) := by decide +kernel
theorem dX6_fits_36 : decode cX6_fits 36 = .ok (.getfield 18, 3) := by decide +kernel
theorem dX6_fits_39 : decode cX6_fits 39 = .ok (.iload_n 3, 1) := by decide +kernel
theorem dX6_fits_40 : decode cX6_fits 40 = .ok (.aload_n 0, 1) := by decide +kernel
theorem dX6_fits_41 : decode cX6_fits 41 = .ok (.getfield 15, 3) := by decide +kernel
theorem dX6_fits_44 : decode cX6_fits 44 = .ok (.iload_n 2, 1) := by decide +kernel
theorem dX6_fits_45 : decode cX6_fits 45 = .ok (.iconst 1, 1) := by decide +kernel
theorem dX6_fits_46 : decode cX6_fits 46 = .ok (.isub, 1) := by decide +kernel
theorem dX6_fits_47 : decode cX6_fits 47 = .ok (.iaload, 1) := by decide +kernel
theorem dX6_fits_48 : decode cX6_fits 48 = .ok (.invokevirtual 71, 3) := by decide +kernel
theorem dX6_fits_51 : decode cX6_fits 51 = .ok (.ifCond .eq 7, 3) := by decide +kernel
theorem dX6_fits_54 : decode cX6_fits 54 = .ok (.iconst 1, 1) := by decide +kernel
theorem dX6_fits_55 : decode cX6_fits 55 = .ok (.goto 4, 3) := by decide +kernel
theorem dX6_fits_58 : decode cX6_fits 58 = .ok (.iconst 0, 1) := by decide +kernel
theorem dX6_fits_59 : decode cX6_fits 59 = .ok (.ireturn, 1) := by decide +kernel
theorem dX6_wantTaken_0 : decode cX6_wantTaken 0 = .ok (.iload_n 2, 1) := by decide +kernel
theorem dX6_wantTaken_1 : decode cX6_wantTaken 1 = .ok (.istore_n 3, 1) := by decide +kernel
theorem dX6_wantTaken_2 : decode cX6_wantTaken 2 = .ok (.aload_n 0, 1) := by decide +kernel
theorem dX6_wantTaken_3 : decode cX6_wantTaken 3 = .ok (.getfield 18, 3) := by decide +kernel
theorem dX6_wantTaken_6 : decode cX6_wantTaken 6 = .ok (.getfield 74, 3) := by decide +kernel
theorem dX6_wantTaken_9 : decode cX6_wantTaken 9 = .ok (.iload_n 1, 1) := by decide +kernel
theorem dX6_wantTaken_10 : decode cX6_wantTaken 10 = .ok (.iaload, 1) := by decide +kernel
theorem dX6_wantTaken_11 : decode cX6_wantTaken 11 = .ok (.iconst 1, 1) := by decide +kernel
theorem dX6_wantTaken_12 : decode cX6_wantTaken 12 = .ok (.if_icmp .le 21, 3) := by decide +kernel
theorem dX6_wantTaken_15 : decode cX6_wantTaken 15 = .ok (.aload_n 0, 1) := by decide +kernel
theorem dX6_wantTaken_16 : decode cX6_wantTaken 16 = .ok (.getfield 15, 3) := by decide +kernel
theorem dX6_wantTaken_19 : decode cX6_wantTaken 19 = .ok (.iload_n 3, 1) := by decide +kernel
theorem dX6_wantTaken_20 : decode cX6_wantTaken 20 = .ok (.aload_n 0, 1) := by decide +kernel
theorem dX6_wantTaken_21 : decode cX6_wantTaken 21 = .ok (.getfield 18, 3) := by decide +kernel
theorem dX6_wantTaken_24 : decode cX6_wantTaken 24 = .ok (.getfield 77, 3) := by decide +kernel
theorem dX6_wantTaken_27 : decode cX6_wantTaken 27 = .ok (.iload_n 1, 1) := by decide +kernel
theorem dX6_wantTaken_28 : decode cX6_wantTaken 28 = .ok (.iaload, 1) := by decide +kernel
theorem dX6_wantTaken_29 : decode cX6_wantTaken 29 = .ok (.iastore, 1) := by decide +kernel
theorem dX6_wantTaken_30 : decode cX6_wantTaken 30 = .ok (.iinc 3 1, 3) := by decide +kernel
theorem dX6_wantTaken_33 : decode cX6_wantTaken 33 = .ok (.aload_n 0, 1) := by decide +kernel
theorem dX6_wantTaken_34 : decode cX6_wantTaken 34 = .ok (.getfield 18, 3) := by decide +kernel
theorem dX6_wantTaken_37 : decode cX6_wantTaken 37 = .ok (.getfield 74, 3) := by decide +kernel
theorem dX6_wantTaken_40 : decode cX6_wantTaken 40 = .ok (.iload_n 1, 1) := by decide +kernel
theorem dX6_wantTaken_41 : decode cX6_wantTaken 41 = .ok (.iaload, 1) := by decide +kernel
theorem dX6_wantTaken_42 : decode cX6_wantTaken 42 = .ok (.ifCond .le 21, 3) := by decide +kernel
theorem dX6_wantTaken_45 : decode cX6_wantTaken 45 = .ok (.aload_n 0, 1) := by decide +kernel
theorem dX6_wantTaken_46 : decode cX6_wantTaken 46 = .ok (.getfield 15, 3) := by decide +kernel
theorem dX6_wantTaken_49 : decode cX6_wantTaken 49 = .ok (.iload_n 3, 1) := by decide +kernel
theorem dX6_wantTaken_50 : decode cX6_wantTaken 50 = .ok (.aload_n 0, 1) := by decide +kernel
theorem dX6_wantTaken_51 : decode cX6_wantTaken 51 = .ok (.getfield 18, 3) := by decide +kernel
theorem dX6_wantTaken_54 : decode cX6_wantTaken 54 = .ok (.getfield 80, 3) := by decide +kernel
theorem dX6_wantTaken_57 : decode cX6_wantTaken 57 = .ok (.iload_n 1, 1) := by decide +kernel
theorem dX6_wantTaken_58 : decode cX6_wantTaken 58 = .ok (.iaload, 1) := by decide +kernel
theorem dX6_wantTaken_59 : decode cX6_wantTaken 59 = .ok (.iastore, 1) := by decide +kernel
theorem dX6_wantTaken_60 : decode cX6_wantTaken 60 = .ok (.iinc 3 1, 3) := by decide +kernel
theorem dX6_wantTaken_63 : decode cX6_wantTaken 63 = .ok (.iload_n 3, 1) := by decide +kernel
theorem dX6_wantTaken_64 : decode cX6_wantTaken 64 = .ok (.ireturn, 1) := by decide +kernel
theorem dX6_given_0 : decode cX6_given 0 = .ok (.aload_n 0, 1) := by decide +kernel
theorem dX6_given_1 : decode cX6_given 1 = .ok (.getfield 18, 3) := by decide +kernel
theorem dX6_given_4 : decode cX6_given 4 = .ok (.getfield 83, 3) := by decide +kernel
theorem dX6_given_7 : decode cX6_given 7 = .ok (.aload_n 0, 1) := by decide +kernel
theorem dX6_given_8 : decode cX6_given 8 = .ok (.getfield 11, 3) := by decide +kernel
theorem dX6_given_11 : decode cX6_given 11 = .ok (.iconst 0, 1) := by decide +kernel
theorem dX6_given_12 : decode cX6_given 12 = .ok (.iaload, 1) := by decide +kernel
theorem dX6_given_13 : decode cX6_given 13 = .ok (.iaload, 1) := by decide +kernel
theorem dX6_given_14 : decode cX6_given 14 = .ok (.ireturn, 1) := by decide +kernel
theorem dX6_priceTogether_0 : decode cX6_priceTogether 0 = .ok (.iconst 0, 1) := by decide +kernel
theorem dX6_priceTogether_1 : decode cX6_priceTogether 1 = .ok (.istore_n 1, 1) := by decide +kernel
theorem dX6_priceTogether_2 : decode cX6_priceTogether 2 = .ok (.iconst 0, 1) := by decide +kernel
theorem dX6_priceTogether_3 : decode cX6_priceTogether 3 = .ok (.istore_n 2, 1) := by decide +kernel
theorem dX6_priceTogether_4 : decode cX6_priceTogether 4 = .ok (.iload_n 2, 1) := by decide +kernel
theorem dX6_priceTogether_5 : decode cX6_priceTogether 5 = .ok (.aload_n 0, 1) := by decide +kernel
theorem dX6_priceTogether_6 : decode cX6_priceTogether 6 = .ok (.getfield 46, 3) := by decide +kernel
theorem dX6_priceTogether_9 : decode cX6_priceTogether 9 = .ok (.if_icmp .ge 25, 3) := by decide +kernel
theorem dX6_priceTogether_12 : decode cX6_priceTogether 12 = .ok (.iload_n 1, 1) := by decide +kernel
theorem dX6_priceTogether_13 : decode cX6_priceTogether 13 = .ok (.aload_n 0, 1) := by decide +kernel
theorem dX6_priceTogether_14 : decode cX6_priceTogether 14 = .ok (.getfield 18, 3) := by decide +kernel
theorem dX6_priceTogether_17 : decode cX6_priceTogether 17 = .ok (.aload_n 0, 1) := by decide +kernel
theorem dX6_priceTogether_18 : decode cX6_priceTogether 18 = .ok (.getfield 11, 3) := by decide +kernel
theorem dX6_priceTogether_21 : decode cX6_priceTogether 21 = .ok (.iload_n 2, 1) := by decide +kernel
theorem dX6_priceTogether_22 : decode cX6_priceTogether 22 = .ok (.iaload, 1) := by decide +kernel
theorem dX6_priceTogether_23 : decode cX6_priceTogether 23 = .ok (.invokevirtual 86, 3) := by decide +kernel
theorem dX6_priceTogether_26 : decode cX6_priceTogether 26 = .ok (.iadd, 1) := by decide +kernel
theorem dX6_priceTogether_27 : decode cX6_priceTogether 27 = .ok (.istore_n 1, 1) := by decide +kernel
theorem dX6_priceTogether_28 : decode cX6_priceTogether 28 = .ok (.iinc 2 1, 3) := by decide +kernel
theorem dX6_priceTogether_31 : decode cX6_priceTogether 31 = .ok (.goto (-27), 3) := by decide +kernel
theorem dX6_priceTogether_34 : decode cX6_priceTogether 34 = .ok (.iload_n 1, 1) := by decide +kernel
theorem dX6_priceTogether_35 : decode cX6_priceTogether 35 = .ok (.ireturn, 1) := by decide +kernel
theorem dX7_init_0 : decode cX7_init 0 = .ok (.aload_n 0, 1) := by decide +kernel
theorem dX7_init_1 : decode cX7_init 1 = .ok (.invokespecial 3, 3) := by decide +kernel
theorem dX7_init_4 : decode cX7_init 4 = .ok (.aload_n 0, 1) := by decide +kernel
theorem dX7_init_5 : decode cX7_init 5 = .ok (.bipush 8, 2) := by decide +kernel
theorem dX7_init_7 : decode cX7_init 7 = .ok (.newarray .int, 2) := by decide +kernel
theorem dX7_init_9 : decode cX7_init 9 = .ok (.putfield 9, 3) := by decide +kernel
theorem dX7_init_12 : decode cX7_init 12 = .ok (.aload_n 0, 1) := by decide +kernel
theorem dX7_init_13 : decode cX7_init 13 = .ok (.bipush 8, 2) := by decide +kernel
theorem dX7_init_15 : decode cX7_init 15 = .ok (.newarray .int, 2) := by decide +kernel
theorem dX7_init_17 : decode cX7_init 17 = .ok (.putfield 15, 3) := by decide +kernel
theorem dX7_init_20 : decode cX7_init 20 = .ok (.aload_n 0, 1) := by decide +kernel
theorem dX7_init_21 : decode cX7_init 21 = .ok (.bipush 12, 2) := by decide +kernel
theorem dX7_init_23 : decode cX7_init 23 = .ok (.newarray .int, 2) := by decide +kernel
theorem dX7_init_25 : decode cX7_init 25 = .ok (.putfield 18, 3) := by decide +kernel
theorem dX7_init_28 : decode cX7_init 28 = .ok (.aload_n 0, 1) := by decide +kernel
theorem dX7_init_29 : decode cX7_init 29 = .ok (.bipush 12, 2) := by decide +kernel
theorem dX7_init_31 : decode cX7_init 31 = .ok (.newarray .int, 2) := by decide +kernel
theorem dX7_init_33 : decode cX7_init 33 = .ok (.putfield 21, 3) := by decide +kernel
theorem dX7_init_36 : decode cX7_init 36 = .ok (.aload_n 0, 1) := by decide +kernel
theorem dX7_init_37 : decode cX7_init 37 = .ok (.bipush 12, 2) := by decide +kernel
theorem dX7_init_39 : decode cX7_init 39 = .ok (.newarray .int, 2) := by decide +kernel
theorem dX7_init_41 : decode cX7_init 41 = .ok (.putfield 24, 3) := by decide +kernel
theorem dX7_init_44 : decode cX7_init 44 = .ok (.aload_n 0, 1) := by decide +kernel
theorem dX7_init_45 : decode cX7_init 45 = .ok (.bipush 12, 2) := by decide +kernel
theorem dX7_init_47 : decode cX7_init 47 = .ok (.newarray .int, 2) := by decide +kernel
theorem dX7_init_49 : decode cX7_init 49 = .ok (.putfield 27, 3) := by decide +kernel
theorem dX7_init_52 : decode cX7_init 52 = .ok (.aload_n 0, 1) := by decide +kernel
theorem dX7_init_53 : decode cX7_init 53 = .ok (.bipush 12, 2) := by decide +kernel
theorem dX7_init_55 : decode cX7_init 55 = .ok (.newarray .int, 2) := by decide +kernel
theorem dX7_init_57 : decode cX7_init 57 = .ok (.putfield 30, 3) := by decide +kernel
theorem dX7_init_60 : decode cX7_init 60 = .ok (.aload_n 0, 1) := by decide +kernel
theorem dX7_init_61 : decode cX7_init 61 = .ok (.bipush 12, 2) := by decide +kernel
theorem dX7_init_63 : decode cX7_init 63 = .ok (.newarray .int, 2) := by decide +kernel
theorem dX7_init_65 : decode cX7_init 65 = .ok (.putfield 33, 3) := by decide +kernel
theorem dX7_init_68 : decode cX7_init 68 = .ok (.return_, 1) := by decide +kernel
theorem dX7_become_0 : decode cX7_become 0 = .ok (.aload_n 0, 1) := by decide +kernel
theorem dX7_become_1 : decode cX7_become 1 = .ok (.aload_n 1, 1) := by decide +kernel
theorem dX7_become_2 : decode cX7_become 2 = .ok (.getfield 36, 3) := by decide +kernel
theorem dX7_become_5 : decode cX7_become 5 = .ok (.putfield 36, 3) := by decide +kernel
theorem dX7_become_8 : decode cX7_become 8 = .ok (.aload_n 0, 1) := by decide +kernel
theorem dX7_become_9 : decode cX7_become 9 = .ok (.aload_n 1, 1) := by decide +kernel
theorem dX7_become_10 : decode cX7_become 10 = .ok (.getfield 40, 3) := by decide +kernel
theorem dX7_become_13 : decode cX7_become 13 = .ok (.putfield 40, 3) := by decide +kernel
theorem dX7_become_16 : decode cX7_become 16 = .ok (.aload_n 0, 1) := by decide +kernel
theorem dX7_become_17 : decode cX7_become 17 = .ok (.aload_n 1, 1) := by decide +kernel
theorem dX7_become_18 : decode cX7_become 18 = .ok (.getfield 43, 3) := by decide +kernel
theorem dX7_become_21 : decode cX7_become 21 = .ok (.putfield 43, 3) := by decide +kernel
theorem dX7_become_24 : decode cX7_become 24 = .ok (.aload_n 1, 1) := by decide +kernel
theorem dX7_become_25 : decode cX7_become 25 = .ok (.getfield 9, 3) := by decide +kernel
theorem dX7_become_28 : decode cX7_become 28 = .ok (.iconst 0, 1) := by decide +kernel
theorem dX7_become_29 : decode cX7_become 29 = .ok (.aload_n 0, 1) := by decide +kernel
theorem dX7_become_30 : decode cX7_become 30 = .ok (.getfield 9, 3) := by decide +kernel
theorem dX7_become_33 : decode cX7_become 33 = .ok (.iconst 0, 1) := by decide +kernel
theorem dX7_become_34 : decode cX7_become 34 = .ok (.bipush 8, 2) := by decide +kernel
theorem dX7_become_36 : decode cX7_become 36 = .ok (.invokestatic 46, 3) := by decide +kernel
theorem dX7_become_39 : decode cX7_become 39 = .ok (.aload_n 1, 1) := by decide +kernel
theorem dX7_become_40 : decode cX7_become 40 = .ok (.getfield 15, 3) := by decide +kernel
theorem dX7_become_43 : decode cX7_become 43 = .ok (.iconst 0, 1) := by decide +kernel
theorem dX7_become_44 : decode cX7_become 44 = .ok (.aload_n 0, 1) := by decide +kernel
theorem dX7_become_45 : decode cX7_become 45 = .ok (.getfield 15, 3) := by decide +kernel
theorem dX7_become_48 : decode cX7_become 48 = .ok (.iconst 0, 1) := by decide +kernel
theorem dX7_become_49 : decode cX7_become 49 = .ok (.bipush 8, 2) := by decide +kernel
theorem dX7_become_51 : decode cX7_become 51 = .ok (.invokestatic 46, 3) := by decide +kernel
theorem dX7_become_54 : decode cX7_become 54 = .ok (.aload_n 1, 1) := by decide +kernel
theorem dX7_become_55 : decode cX7_become 55 = .ok (.getfield 18, 3) := by decide +kernel
theorem dX7_become_58 : decode cX7_become 58 = .ok (.iconst 0, 1) := by decide +kernel
theorem dX7_become_59 : decode cX7_become 59 = .ok (.aload_n 0, 1) := by decide +kernel
theorem dX7_become_60 : decode cX7_become 60 = .ok (.getfield 18, 3) := by decide +kernel
theorem dX7_become_63 : decode cX7_become 63 = .ok (.iconst 0, 1) := by decide +kernel
theorem dX7_become_64 : decode cX7_become 64 = .ok (.bipush 12, 2) := by decide +kernel
theorem dX7_become_66 : decode cX7_become 66 = .ok (.invokestatic 46, 3) := by decide +kernel
theorem dX7_become_69 : decode cX7_become 69 = .ok (.aload_n 1, 1) := by decide +kernel
theorem dX7_become_70 : decode cX7_become 70 = .ok (.getfield 21, 3) := by decide +kernel
theorem dX7_become_73 : decode cX7_become 73 = .ok (.iconst 0, 1) := by decide +kernel
theorem dX7_become_74 : decode cX7_become 74 = .ok (.aload_n 0, 1) := by decide +kernel
theorem dX7_become_75 : decode cX7_become 75 = .ok (.getfield 21, 3) := by decide +kernel
theorem dX7_become_78 : decode cX7_become 78 = .ok (.iconst 0, 1) := by decide +kernel
theorem dX7_become_79 : decode cX7_become 79 = .ok (.bipush 12, 2) := by decide +kernel
theorem dX7_become_81 : decode cX7_become 81 = .ok (.invokestatic 46, 3) := by decide +kernel
theorem dX7_become_84 : decode cX7_become 84 = .ok (.aload_n 1, 1) := by decide +kernel
theorem dX7_become_85 : decode cX7_become 85 = .ok (.getfield 24, 3) := by decide +kernel
theorem dX7_become_88 : decode cX7_become 88 = .ok (.iconst 0, 1) := by decide +kernel
theorem dX7_become_89 : decode cX7_become 89 = .ok (.aload_n 0, 1) := by decide +kernel
theorem dX7_become_90 : decode cX7_become 90 = .ok (.getfield 24, 3) := by decide +kernel
theorem dX7_become_93 : decode cX7_become 93 = .ok (.iconst 0, 1) := by decide +kernel
theorem dX7_become_94 : decode cX7_become 94 = .ok (.bipush 12, 2) := by decide +kernel
theorem dX7_become_96 : decode cX7_become 96 = .ok (.invokestatic 46, 3) := by decide +kernel
theorem dX7_become_99 : decode cX7_become 99 = .ok (.aload_n 1, 1) := by decide +kernel
theorem dX7_become_100 : decode cX7_become 100 = .ok (.getfield 27, 3) := by decide +kernel
theorem dX7_become_103 : decode cX7_become 103 = .ok (.iconst 0, 1) := by decide +kernel
theorem dX7_become_104 : decode cX7_become 104 = .ok (.aload_n 0, 1) := by decide +kernel
theorem dX7_become_105 : decode cX7_become 105 = .ok (.getfield 27, 3) := by decide +kernel
theorem dX7_become_108 : decode cX7_become 108 = .ok (.iconst 0, 1) := by decide +kernel
theorem dX7_become_109 : decode cX7_become 109 = .ok (.bipush 12, 2) := by decide +kernel
theorem dX7_become_111 : decode cX7_become 111 = .ok (.invokestatic 46, 3) := by decide +kernel
theorem dX7_become_114 : decode cX7_become 114 = .ok (.aload_n 1, 1) := by decide +kernel
theorem dX7_become_115 : decode cX7_become 115 = .ok (.getfield 30, 3) := by decide +kernel
theorem dX7_become_118 : decode cX7_become 118 = .ok (.iconst 0, 1) := by decide +kernel
theorem dX7_become_119 : decode cX7_become 119 = .ok (.aload_n 0, 1) := by decide +kernel
theorem dX7_become_120 : decode cX7_become 120 = .ok (.getfield 30, 3) := by decide +kernel
theorem dX7_become_123 : decode cX7_become 123 = .ok (.iconst 0, 1) := by decide +kernel
theorem dX7_become_124 : decode cX7_become 124 = .ok (.bipush 12, 2) := by decide +kernel
theorem dX7_become_126 : decode cX7_become 126 = .ok (.invokestatic 46, 3) := by decide +kernel
theorem dX7_become_129 : decode cX7_become 129 = .ok (.aload_n 1, 1) := by decide +kernel
theorem dX7_become_130 : decode cX7_become 130 = .ok (.getfield 33, 3) := by decide +kernel
theorem dX7_become_133 : decode cX7_become 133 = .ok (.iconst 0, 1) := by decide +kernel
theorem dX7_become_134 : decode cX7_become 134 = .ok (.aload_n 0, 1) := by decide +kernel
theorem dX7_become_135 : decode cX7_become 135 = .ok (.getfield 33, 3) := by decide +kernel
theorem dX7_become_138 : decode cX7_become 138 = .ok (.iconst 0, 1) := by decide +kernel
theorem dX7_become_139 : decode cX7_become 139 = .ok (.bipush 12, 2) := by decide +kernel
theorem dX7_become_141 : decode cX7_become 141 = .ok (.invokestatic 46, 3) := by decide +kernel
theorem dX7_become_144 : decode cX7_become 144 = .ok (.return_, 1) := by decide +kernel
theorem dX7_seeAbove_0 : decode cX7_seeAbove 0 = .ok (.iconst 0, 1) := by decide +kernel
theorem dX7_seeAbove_1 : decode cX7_seeAbove 1 = .ok (.istore_n 1, 1) := by decide +kernel
theorem dX7_seeAbove_2 : decode cX7_seeAbove 2 = .ok (.iload_n 1, 1) := by decide +kernel
theorem dX7_seeAbove_3 : decode cX7_seeAbove 3 = .ok (.aload_n 0, 1) := by decide +kernel
theorem dX7_seeAbove_4 : decode cX7_seeAbove 4 = .ok (.getfield 36, 3) := by decide +kernel
theorem dX7_seeAbove_7 : decode cX7_seeAbove 7 = .ok (.if_icmp .ge 43, 3) := by decide +kernel
theorem dX7_seeAbove_10 : decode cX7_seeAbove 10 = .ok (.aload_n 0, 1) := by decide +kernel
theorem dX7_seeAbove_11 : decode cX7_seeAbove 11 = .ok (.getfield 9, 3) := by decide +kernel
theorem dX7_seeAbove_14 : decode cX7_seeAbove 14 = .ok (.iload_n 1, 1) := by decide +kernel
theorem dX7_seeAbove_15 : decode cX7_seeAbove 15 = .ok (.iaload, 1) := by decide +kernel
theorem dX7_seeAbove_16 : decode cX7_seeAbove 16 = .ok (.istore_n 2, 1) := by decide +kernel
theorem dX7_seeAbove_17 : decode cX7_seeAbove 17 = .ok (.aload_n 0, 1) := by decide +kernel
theorem dX7_seeAbove_18 : decode cX7_seeAbove 18 = .ok (.getfield 15, 3) := by decide +kernel
theorem dX7_seeAbove_21 : decode cX7_seeAbove 21 = .ok (.iload_n 1, 1) := by decide +kernel
theorem dX7_seeAbove_22 : decode cX7_seeAbove 22 = .ok (.iload_n 2, 1) := by decide +kernel
theorem dX7_seeAbove_23 : decode cX7_seeAbove 23 = .ok (.iload_n 1, 1) := by decide +kernel
theorem dX7_seeAbove_24 : decode cX7_seeAbove 24 = .ok (.if_icmp .ne 9, 3) := by decide +kernel
theorem dX7_seeAbove_27 : decode cX7_seeAbove 27 = .ok (.iconst 1, 1) := by decide +kernel
theorem dX7_seeAbove_28 : decode cX7_seeAbove 28 = .ok (.iload_n 1, 1) := by decide +kernel
theorem dX7_seeAbove_29 : decode cX7_seeAbove 29 = .ok (.ishl, 1) := by decide +kernel
theorem dX7_seeAbove_30 : decode cX7_seeAbove 30 = .ok (.goto 13, 3) := by decide +kernel
theorem dX7_seeAbove_33 : decode cX7_seeAbove 33 = .ok (.iconst 1, 1) := by decide +kernel
theorem dX7_seeAbove_34 : decode cX7_seeAbove 34 = .ok (.iload_n 1, 1) := by decide +kernel
theorem dX7_seeAbove_35 : decode cX7_seeAbove 35 = .ok (.ishl, 1) := by decide +kernel
theorem dX7_seeAbove_36 : decode cX7_seeAbove 36 = .ok (.aload_n 0, 1) := by decide +kernel
theorem dX7_seeAbove_37 : decode cX7_seeAbove 37 = .ok (.getfield 15, 3) := by decide +kernel
theorem dX7_seeAbove_40 : decode cX7_seeAbove 40 = .ok (.iload_n 2, 1) := by decide +kernel
theorem dX7_seeAbove_41 : decode cX7_seeAbove 41 = .ok (.iaload, 1) := by decide +kernel
theorem dX7_seeAbove_42 : decode cX7_seeAbove 42 = .ok (.ior, 1) := by decide +kernel
theorem dX7_seeAbove_43 : decode cX7_seeAbove 43 = .ok (.iastore, 1) := by decide +kernel
theorem dX7_seeAbove_44 : decode cX7_seeAbove 44 = .ok (.iinc 1 1, 3) := by decide +kernel
theorem dX7_seeAbove_47 : decode cX7_seeAbove 47 = .ok (.goto (-45), 3) := by decide +kernel
theorem dX7_seeAbove_50 : decode cX7_seeAbove 50 = .ok (.return_, 1) := by decide +kernel
theorem dX7_hasType_0 : decode cX7_hasType 0 = .ok (.iload_n 1, 1) := by decide +kernel
theorem dX7_hasType_1 : decode cX7_hasType 1 = .ok (.ifCond .lt 15, 3) := by decide +kernel
theorem dX7_hasType_4 : decode cX7_hasType 4 = .ok (.iload_n 1, 1) := by decide +kernel
theorem dX7_hasType_5 : decode cX7_hasType 5 = .ok (.aload_n 0, 1) := by decide +kernel
theorem dX7_hasType_6 : decode cX7_hasType 6 = .ok (.getfield 36, 3) := by decide +kernel
theorem dX7_hasType_9 : decode cX7_hasType 9 = .ok (.if_icmp .ge 7, 3) := by decide +kernel
theorem dX7_hasType_12 : decode cX7_hasType 12 = .ok (.iconst 1, 1) := by decide +kernel
theorem dX7_hasType_13 : decode cX7_hasType 13 = .ok (.goto 4, 3) := by decide +kernel
theorem dX7_hasType_16 : decode cX7_hasType 16 = .ok (.iconst 0, 1) := by decide +kernel
theorem dX7_hasType_17 : decode cX7_hasType 17 = .ok (.ireturn, 1) := by decide +kernel
theorem dX7_hasMember_0 : decode cX7_hasMember 0 = .ok (.iload_n 1, 1) := by decide +kernel
theorem dX7_hasMember_1 : decode cX7_hasMember 1 = .ok (.ifCond .lt 15, 3) := by decide +kernel
theorem dX7_hasMember_4 : decode cX7_hasMember 4 = .ok (.iload_n 1, 1) := by decide +kernel
theorem dX7_hasMember_5 : decode cX7_hasMember 5 = .ok (.aload_n 0, 1) := by decide +kernel
theorem dX7_hasMember_6 : decode cX7_hasMember 6 = .ok (.getfield 40, 3) := by decide +kernel
theorem dX7_hasMember_9 : decode cX7_hasMember 9 = .ok (.if_icmp .ge 7, 3) := by decide +kernel
theorem dX7_hasMember_12 : decode cX7_hasMember 12 = .ok (.iconst 1, 1) := by decide +kernel
theorem dX7_hasMember_13 : decode cX7_hasMember 13 = .ok (.goto 4, 3) := by decide +kernel
theorem dX7_hasMember_16 : decode cX7_hasMember 16 = .ok (.iconst 0, 1) := by decide +kernel
theorem dX7_hasMember_17 : decode cX7_hasMember 17 = .ok (.ireturn, 1) := by decide +kernel
theorem dX7_isHidden_0 : decode cX7_isHidden 0 = .ok (.aload_n 0, 1) := by decide +kernel
theorem dX7_isHidden_1 : decode cX7_isHidden 1 = .ok (.getfield 43, 3) := by decide +kernel
theorem dX7_isHidden_4 : decode cX7_isHidden 4 = .ok (.iload_n 1, 1) := by decide +kernel
theorem dX7_isHidden_5 : decode cX7_isHidden 5 = .ok (.ishr, 1) := by decide +kernel
theorem dX7_isHidden_6 : decode cX7_isHidden 6 = .ok (.iconst 1, 1) := by decide +kernel
theorem dX7_isHidden_7 : decode cX7_isHidden 7 = .ok (.iand, 1) := by decide +kernel
theorem dX7_isHidden_8 : decode cX7_isHidden 8 = .ok (.ifCond .eq 7, 3) := by decide +kernel
theorem dX7_isHidden_11 : decode cX7_isHidden 11 = .ok (.iconst 1, 1) := by decide +kernel
theorem dX7_isHidden_12 : decode cX7_isHidden 12 = .ok (.goto 4, 3) := by decide +kernel
theorem dX7_isHidden_15 : decode cX7_isHidden 15 = .ok (.iconst 0, 1) := by decide +kernel
theorem dX7_isHidden_16 : decode cX7_isHidden 16 = .ok (.ireturn, 1) := by decide +kernel
theorem dX7_putHidden_0 : decode cX7_putHidden 0 = .ok (.aload_n 0, 1) := by decide +kernel
theorem dX7_putHidden_1 : decode cX7_putHidden 1 = .ok (.iload_n 2, 1) := by decide +kernel
theorem dX7_putHidden_2 : decode cX7_putHidden 2 = .ok (.ifCond .ne 16, 3) := by decide +kernel
theorem dX7_putHidden_5 : decode cX7_putHidden 5 = .ok (.aload_n 0, 1) := by decide +kernel
theorem dX7_putHidden_6 : decode cX7_putHidden 6 = .ok (.getfield 43, 3) := by decide +kernel
theorem dX7_putHidden_9 : decode cX7_putHidden 9 = .ok (.iconst 1, 1) := by decide +kernel
theorem dX7_putHidden_10 : decode cX7_putHidden 10 = .ok (.iload_n 1, 1) := by decide +kernel
theorem dX7_putHidden_11 : decode cX7_putHidden 11 = .ok (.ishl, 1) := by decide +kernel
theorem dX7_putHidden_12 : decode cX7_putHidden 12 = .ok (.iconst (-1), 1) := by decide +kernel
theorem dX7_putHidden_13 : decode cX7_putHidden 13 = .ok (.ixor, 1) := by decide +kernel
theorem dX7_putHidden_14 : decode cX7_putHidden 14 = .ok (.iand, 1) := by decide +kernel
theorem dX7_putHidden_15 : decode cX7_putHidden 15 = .ok (.goto 11, 3) := by decide +kernel
theorem dX7_putHidden_18 : decode cX7_putHidden 18 = .ok (.aload_n 0, 1) := by decide +kernel
theorem dX7_putHidden_19 : decode cX7_putHidden 19 = .ok (.getfield 43, 3) := by decide +kernel
theorem dX7_putHidden_22 : decode cX7_putHidden 22 = .ok (.iconst 1, 1) := by decide +kernel
theorem dX7_putHidden_23 : decode cX7_putHidden 23 = .ok (.iload_n 1, 1) := by decide +kernel
theorem dX7_putHidden_24 : decode cX7_putHidden 24 = .ok (.ishl, 1) := by decide +kernel
theorem dX7_putHidden_25 : decode cX7_putHidden 25 = .ok (.ior, 1) := by decide +kernel
theorem dX7_putHidden_26 : decode cX7_putHidden 26 = .ok (.putfield 43, 3) := by decide +kernel
theorem dX7_putHidden_29 : decode cX7_putHidden 29 = .ok (.return_, 1) := by decide +kernel
theorem dX7_isOf_0 : decode cX7_isOf 0 = .ok (.aload_n 0, 1) := by decide +kernel
theorem dX7_isOf_1 : decode cX7_isOf 1 = .ok (.getfield 15, 3) := by decide +kernel
theorem dX7_isOf_4 : decode cX7_isOf 4 = .ok (.iload_n 1, 1) := by decide +kernel
theorem dX7_isOf_5 : decode cX7_isOf 5 = .ok (.iaload, 1) := by decide +kernel
theorem dX7_isOf_6 : decode cX7_isOf 6 = .ok (.iload_n 2, 1) := by decide +kernel
theorem dX7_isOf_7 : decode cX7_isOf 7 = .ok (.ishr, 1) := by decide +kernel
theorem dX7_isOf_8 : decode cX7_isOf 8 = .ok (.iconst 1, 1) := by decide +kernel
theorem dX7_isOf_9 : decode cX7_isOf 9 = .ok (.iand, 1) := by decide +kernel
theorem dX7_isOf_10 : decode cX7_isOf 10 = .ok (.ifCond .eq 7, 3) := by decide +kernel
theorem dX7_isOf_13 : decode cX7_isOf 13 = .ok (.iconst 1, 1) := by decide +kernel
theorem dX7_isOf_14 : decode cX7_isOf 14 = .ok (.goto 4, 3) := by decide +kernel
theorem dX7_isOf_17 : decode cX7_isOf 17 = .ok (.iconst 0, 1) := by decide +kernel
theorem dX7_isOf_18 : decode cX7_isOf 18 = .ok (.ireturn, 1) := by decide +kernel
theorem dX7_givesOne_0 : decode cX7_givesOne 0 = .ok (.aload_n 0, 1) := by decide +kernel
theorem dX7_givesOne_1 : decode cX7_givesOne 1 = .ok (.aload_n 0, 1) := by decide +kernel
theorem dX7_givesOne_2 : decode cX7_givesOne 2 = .ok (.getfield 21, 3) := by decide +kernel
theorem dX7_givesOne_5 : decode cX7_givesOne 5 = .ok (.iload_n 1, 1) := by decide +kernel
theorem dX7_givesOne_6 : decode cX7_givesOne 6 = .ok (.iaload, 1) := by decide +kernel
theorem dX7_givesOne_7 : decode cX7_givesOne 7 = .ok (.iload_n 2, 1) := by decide +kernel
theorem dX7_givesOne_8 : decode cX7_givesOne 8 = .ok (.invokevirtual 52, 3) := by decide +kernel
theorem dX7_givesOne_11 : decode cX7_givesOne 11 = .ok (.ireturn, 1) := by decide +kernel
theorem dX7_isKind_0 : decode cX7_isKind 0 = .ok (.aload_n 0, 1) := by decide +kernel
theorem dX7_isKind_1 : decode cX7_isKind 1 = .ok (.getfield 18, 3) := by decide +kernel
theorem dX7_isKind_4 : decode cX7_isKind 4 = .ok (.iload_n 1, 1) := by decide +kernel
theorem dX7_isKind_5 : decode cX7_isKind 5 = .ok (.iaload, 1) := by decide +kernel
theorem dX7_isKind_6 : decode cX7_isKind 6 = .ok (.istore_n 3, 1) := by decide +kernel
theorem dX7_isKind_7 : decode cX7_isKind 7 = .ok (.iload_n 2, 1) := by decide +kernel
theorem dX7_isKind_8 : decode cX7_isKind 8 = .ok (.lookupswitch 65 #[(1, 28), (4, 49)], 28) := by decide +kernel
theorem dX7_isKind_36 : decode cX7_isKind 36 = .ok (.iload_n 3, 1) := by decide +kernel
theorem dX7_isKind_37 : decode cX7_isKind 37 = .ok (.iconst 1, 1) := by decide +kernel
theorem dX7_isKind_38 : decode cX7_isKind 38 = .ok (.if_icmp .eq 13, 3) := by decide +kernel
theorem dX7_isKind_41 : decode cX7_isKind 41 = .ok (.iload_n 3, 1) := by decide +kernel
theorem dX7_isKind_42 : decode cX7_isKind 42 = .ok (.iconst 2, 1) := by decide +kernel
theorem dX7_isKind_43 : decode cX7_isKind 43 = .ok (.if_icmp .eq 8, 3) := by decide +kernel
theorem dX7_isKind_46 : decode cX7_isKind 46 = .ok (.iload_n 3, 1) := by decide +kernel
theorem dX7_isKind_47 : decode cX7_isKind 47 = .ok (.iconst 3, 1) := by decide +kernel
theorem dX7_isKind_48 : decode cX7_isKind 48 = .ok (.if_icmp .ne 7, 3) := by decide +kernel
theorem dX7_isKind_51 : decode cX7_isKind 51 = .ok (.iconst 1, 1) := by decide +kernel
theorem dX7_isKind_52 : decode cX7_isKind 52 = .ok (.goto 4, 3) := by decide +kernel
theorem dX7_isKind_55 : decode cX7_isKind 55 = .ok (.iconst 0, 1) := by decide +kernel
theorem dX7_isKind_56 : decode cX7_isKind 56 = .ok (.ireturn, 1) := by decide +kernel
theorem dX7_isKind_57 : decode cX7_isKind 57 = .ok (.iload_n 3, 1) := by decide +kernel
theorem dX7_isKind_58 : decode cX7_isKind 58 = .ok (.iconst 4, 1) := by decide +kernel
theorem dX7_isKind_59 : decode cX7_isKind 59 = .ok (.if_icmp .eq 8, 3) := by decide +kernel
theorem dX7_isKind_62 : decode cX7_isKind 62 = .ok (.iload_n 3, 1) := by decide +kernel
theorem dX7_isKind_63 : decode cX7_isKind 63 = .ok (.iconst 5, 1) := by decide +kernel
theorem dX7_isKind_64 : decode cX7_isKind 64 = .ok (.if_icmp .ne 7, 3) := by decide +kernel
theorem dX7_isKind_67 : decode cX7_isKind 67 = .ok (.iconst 1, 1) := by decide +kernel
theorem dX7_isKind_68 : decode cX7_isKind 68 = .ok (.goto 4, 3) := by decide +kernel
theorem dX7_isKind_71 : decode cX7_isKind 71 = .ok (.iconst 0, 1) := by decide +kernel
theorem dX7_isKind_72 : decode cX7_isKind 72 = .ok (.ireturn, 1) := by decide +kernel
theorem dX7_isKind_73 : decode cX7_isKind 73 = .ok (.iload_n 2, 1) := by decide +kernel
theorem dX7_isKind_74 : decode cX7_isKind 74 = .ok (.ifCond .eq 8, 3) := by decide +kernel
theorem dX7_isKind_77 : decode cX7_isKind 77 = .ok (.iload_n 3, 1) := by decide +kernel
theorem dX7_isKind_78 : decode cX7_isKind 78 = .ok (.iload_n 2, 1) := by decide +kernel
theorem dX7_isKind_79 : decode cX7_isKind 79 = .ok (.if_icmp .ne 7, 3) := by decide +kernel
theorem dX7_isKind_82 : decode cX7_isKind 82 = .ok (.iconst 1, 1) := by decide +kernel
theorem dX7_isKind_83 : decode cX7_isKind 83 = .ok (.goto 4, 3) := by decide +kernel
theorem dX7_isKind_86 : decode cX7_isKind 86 = .ok (.iconst 0, 1) := by decide +kernel
theorem dX7_isKind_87 : decode cX7_isKind 87 = .ok (.ireturn, 1) := by decide +kernel
theorem dX7_priceOf_0 : decode cX7_priceOf 0 = .ok (.aload_n 0, 1) := by decide +kernel
theorem dX7_priceOf_1 : decode cX7_priceOf 1 = .ok (.getfield 18, 3) := by decide +kernel
theorem dX7_priceOf_4 : decode cX7_priceOf 4 = .ok (.iload_n 1, 1) := by decide +kernel
theorem dX7_priceOf_5 : decode cX7_priceOf 5 = .ok (.iaload, 1) := by decide +kernel
theorem dX7_priceOf_6 : decode cX7_priceOf 6 = .ok (.tableswitch 62 2 5 #[30, 39, 62, 48], 30) := by decide +kernel
theorem dX7_priceOf_36 : decode cX7_priceOf 36 = .ok (.aload_n 0, 1) := by decide +kernel
theorem dX7_priceOf_37 : decode cX7_priceOf 37 = .ok (.getfield 24, 3) := by decide +kernel
theorem dX7_priceOf_40 : decode cX7_priceOf 40 = .ok (.iload_n 1, 1) := by decide +kernel
theorem dX7_priceOf_41 : decode cX7_priceOf 41 = .ok (.iaload, 1) := by decide +kernel
theorem dX7_priceOf_42 : decode cX7_priceOf 42 = .ok (.iconst 2, 1) := by decide +kernel
theorem dX7_priceOf_43 : decode cX7_priceOf 43 = .ok (.iadd, 1) := by decide +kernel
theorem dX7_priceOf_44 : decode cX7_priceOf 44 = .ok (.ireturn, 1) := by decide +kernel
theorem dX7_priceOf_45 : decode cX7_priceOf 45 = .ok (.aload_n 0, 1) := by decide +kernel
theorem dX7_priceOf_46 : decode cX7_priceOf 46 = .ok (.getfield 24, 3) := by decide +kernel
theorem dX7_priceOf_49 : decode cX7_priceOf 49 = .ok (.iload_n 1, 1) := by decide +kernel
theorem dX7_priceOf_50 : decode cX7_priceOf 50 = .ok (.iaload, 1) := by decide +kernel
theorem dX7_priceOf_51 : decode cX7_priceOf 51 = .ok (.iconst 3, 1) := by decide +kernel
theorem dX7_priceOf_52 : decode cX7_priceOf 52 = .ok (.imul, 1) := by decide +kernel
theorem dX7_priceOf_53 : decode cX7_priceOf 53 = .ok (.ireturn, 1) := by decide +kernel
theorem dX7_priceOf_54 : decode cX7_priceOf 54 = .ok (.aload_n 0, 1) := by decide +kernel
theorem dX7_priceOf_55 : decode cX7_priceOf 55 = .ok (.getfield 24, 3) := by decide +kernel
theorem dX7_priceOf_58 : decode cX7_priceOf 58 = .ok (.iload_n 1, 1) := by decide +kernel
theorem dX7_priceOf_59 : decode cX7_priceOf 59 = .ok (.iaload, 1) := by decide +kernel
theorem dX7_priceOf_60 : decode cX7_priceOf 60 = .ok (.aload_n 0, 1) := by decide +kernel
theorem dX7_priceOf_61 : decode cX7_priceOf 61 = .ok (.getfield 27, 3) := by decide +kernel
theorem dX7_priceOf_64 : decode cX7_priceOf 64 = .ok (.iload_n 1, 1) := by decide +kernel
theorem dX7_priceOf_65 : decode cX7_priceOf 65 = .ok (.iaload, 1) := by decide +kernel
theorem dX7_priceOf_66 : decode cX7_priceOf 66 = .ok (.iadd, 1) := by decide +kernel
theorem dX7_priceOf_67 : decode cX7_priceOf 67 = .ok (.ireturn, 1) := by decide +kernel
theorem dX7_priceOf_68 : decode cX7_priceOf 68 = .ok (.aload_n 0, 1) := by decide +kernel
theorem dX7_priceOf_69 : decode cX7_priceOf 69 = .ok (.getfield 24, 3) := by decide +kernel
theorem dX7_priceOf_72 : decode cX7_priceOf 72 = .ok (.iload_n 1, 1) := by decide +kernel
theorem dX7_priceOf_73 : decode cX7_priceOf 73 = .ok (.iaload, 1) := by decide +kernel
theorem dX7_priceOf_74 : decode cX7_priceOf 74 = .ok (.ireturn, 1) := by decide +kernel
theorem dX7_typesOf_0 : decode cX7_typesOf 0 = .ok (.iconst 0, 1) := by decide +kernel
theorem dX7_typesOf_1 : decode cX7_typesOf 1 = .ok (.istore_n 2, 1) := by decide +kernel
theorem dX7_typesOf_2 : decode cX7_typesOf 2 = .ok (.iconst 0, 1) := by decide +kernel
theorem dX7_typesOf_3 : decode cX7_typesOf 3 = .ok (.istore_n 3, 1) := by decide +kernel
theorem dX7_typesOf_4 : decode cX7_typesOf 4 = .ok (.iload_n 3, 1) := by decide +kernel
theorem dX7_typesOf_5 : decode cX7_typesOf 5 = .ok (.aload_n 0, 1) := by decide +kernel
theorem dX7_typesOf_6 : decode cX7_typesOf 6 = .ok (.getfield 36, 3) := by decide +kernel
theorem dX7_typesOf_9 : decode cX7_typesOf 9 = .ok (.if_icmp .ge 24, 3) := by decide +kernel
theorem dX7_typesOf_12 : decode cX7_typesOf 12 = .ok (.aload_n 0, 1) := by decide +kernel
theorem dX7_typesOf_13 : decode cX7_typesOf 13 = .ok (.iload_n 3, 1) := by decide +kernel
theorem dX7_typesOf_14 : decode cX7_typesOf 14 = .ok (.iload_n 1, 1) := by decide +kernel
theorem dX7_typesOf_15 : decode cX7_typesOf 15 = .ok (.invokevirtual 52, 3) := by decide +kernel
theorem dX7_typesOf_18 : decode cX7_typesOf 18 = .ok (.ifCond .eq 9, 3) := by decide +kernel
theorem dX7_typesOf_21 : decode cX7_typesOf 21 = .ok (.iload_n 2, 1) := by decide +kernel
theorem dX7_typesOf_22 : decode cX7_typesOf 22 = .ok (.iconst 1, 1) := by decide +kernel
theorem dX7_typesOf_23 : decode cX7_typesOf 23 = .ok (.iload_n 3, 1) := by decide +kernel
theorem dX7_typesOf_24 : decode cX7_typesOf 24 = .ok (.ishl, 1) := by decide +kernel
theorem dX7_typesOf_25 : decode cX7_typesOf 25 = .ok (.ior, 1) := by decide +kernel
theorem dX7_typesOf_26 : decode cX7_typesOf 26 = .ok (.istore_n 2, 1) := by decide +kernel
theorem dX7_typesOf_27 : decode cX7_typesOf 27 = .ok (.iinc 3 1, 3) := by decide +kernel
theorem dX7_typesOf_30 : decode cX7_typesOf 30 = .ok (.goto (-26), 3) := by decide +kernel
theorem dX7_typesOf_33 : decode cX7_typesOf 33 = .ok (.iload_n 2, 1) := by decide +kernel
theorem dX7_typesOf_34 : decode cX7_typesOf 34 = .ok (.ireturn, 1) := by decide +kernel
theorem dX7_membersOf_0 : decode cX7_membersOf 0 = .ok (.iconst 0, 1) := by decide +kernel
theorem dX7_membersOf_1 : decode cX7_membersOf 1 = .ok (.istore_n 2, 1) := by decide +kernel
theorem dX7_membersOf_2 : decode cX7_membersOf 2 = .ok (.iconst 0, 1) := by decide +kernel
theorem dX7_membersOf_3 : decode cX7_membersOf 3 = .ok (.istore_n 3, 1) := by decide +kernel
theorem dX7_membersOf_4 : decode cX7_membersOf 4 = .ok (.iload_n 3, 1) := by decide +kernel
theorem dX7_membersOf_5 : decode cX7_membersOf 5 = .ok (.aload_n 0, 1) := by decide +kernel
theorem dX7_membersOf_6 : decode cX7_membersOf 6 = .ok (.getfield 40, 3) := by decide +kernel
theorem dX7_membersOf_9 : decode cX7_membersOf 9 = .ok (.if_icmp .ge 24, 3) := by decide +kernel
theorem dX7_membersOf_12 : decode cX7_membersOf 12 = .ok (.aload_n 0, 1) := by decide +kernel
theorem dX7_membersOf_13 : decode cX7_membersOf 13 = .ok (.iload_n 3, 1) := by decide +kernel
theorem dX7_membersOf_14 : decode cX7_membersOf 14 = .ok (.iload_n 1, 1) := by decide +kernel
theorem dX7_membersOf_15 : decode cX7_membersOf 15 = .ok (.invokevirtual 56, 3) := by decide +kernel
theorem dX7_membersOf_18 : decode cX7_membersOf 18 = .ok (.ifCond .eq 9, 3) := by decide +kernel
theorem dX7_membersOf_21 : decode cX7_membersOf 21 = .ok (.iload_n 2, 1) := by decide +kernel
theorem dX7_membersOf_22 : decode cX7_membersOf 22 = .ok (.iconst 1, 1) := by decide +kernel
theorem dX7_membersOf_23 : decode cX7_membersOf 23 = .ok (.iload_n 3, 1) := by decide +kernel
theorem dX7_membersOf_24 : decode cX7_membersOf 24 = .ok (.ishl, 1) := by decide +kernel
theorem dX7_membersOf_25 : decode cX7_membersOf 25 = .ok (.ior, 1) := by decide +kernel
theorem dX7_membersOf_26 : decode cX7_membersOf 26 = .ok (.istore_n 2, 1) := by decide +kernel
theorem dX7_membersOf_27 : decode cX7_membersOf 27 = .ok (.iinc 3 1, 3) := by decide +kernel
theorem dX7_membersOf_30 : decode cX7_membersOf 30 = .ok (.goto (-26), 3) := by decide +kernel
theorem dX7_membersOf_33 : decode cX7_membersOf 33 = .ok (.iload_n 2, 1) := by decide +kernel
theorem dX7_membersOf_34 : decode cX7_membersOf 34 = .ok (.ireturn, 1) := by decide +kernel
theorem dX7_shareOf_0 : decode cX7_shareOf 0 = .ok (.aload_n 0, 1) := by decide +kernel
theorem dX7_shareOf_1 : decode cX7_shareOf 1 = .ok (.invokevirtual 59, 3) := by decide +kernel
theorem dX7_shareOf_4 : decode cX7_shareOf 4 = .ok (.istore_n 3, 1) := by decide +kernel
theorem dX7_shareOf_5 : decode cX7_shareOf 5 = .ok (.iload_n 3, 1) := by decide +kernel
theorem dX7_shareOf_6 : decode cX7_shareOf 6 = .ok (.iconst 1, 1) := by decide +kernel
theorem dX7_shareOf_7 : decode cX7_shareOf 7 = .ok (.if_icmp .ge 5, 3) := by decide +kernel
theorem dX7_shareOf_10 : decode cX7_shareOf 10 = .ok (.iconst 0, 1) := by decide +kernel
theorem dX7_shareOf_11 : decode cX7_shareOf 11 = .ok (.ireturn, 1) := by decide +kernel
theorem dX7_shareOf_12 : decode cX7_shareOf 12 = .ok (.iload_n 2, 1) := by decide +kernel
theorem dX7_shareOf_13 : decode cX7_shareOf 13 = .ok (.istore 4, 2) := by decide +kernel
theorem dX7_shareOf_15 : decode cX7_shareOf 15 = .ok (.iconst 0, 1) := by decide +kernel
theorem dX7_shareOf_16 : decode cX7_shareOf 16 = .ok (.istore 5, 2) := by decide +kernel
theorem dX7_shareOf_18 : decode cX7_shareOf 18 = .ok (.iconst 0, 1) := by decide +kernel
theorem dX7_shareOf_19 : decode cX7_shareOf 19 = .ok (.istore 6, 2) := by decide +kernel
theorem dX7_shareOf_21 : decode cX7_shareOf 21 = .ok (.iload 6, 2) := by decide +kernel
theorem dX7_shareOf_23 : decode cX7_shareOf 23 = .ok (.aload_n 0, 1) := by decide +kernel
theorem dX7_shareOf_24 : decode cX7_shareOf 24 = .ok (.getfield 40, 3) := by decide +kernel
theorem dX7_shareOf_27 : decode cX7_shareOf 27 = .ok (.if_icmp .ge 49, 3) := by decide +kernel
theorem dX7_shareOf_30 : decode cX7_shareOf 30 = .ok (.aload_n 0, 1) := by decide +kernel
theorem dX7_shareOf_31 : decode cX7_shareOf 31 = .ok (.iload 6, 2) := by decide +kernel
theorem dX7_shareOf_33 : decode cX7_shareOf 33 = .ok (.invokevirtual 63, 3) := by decide +kernel
theorem dX7_shareOf_36 : decode cX7_shareOf 36 = .ok (.ifCond .ne 34, 3) := by decide +kernel
theorem dX7_shareOf_39 : decode cX7_shareOf 39 = .ok (.iload 4, 2) := by decide +kernel
theorem dX7_shareOf_41 : decode cX7_shareOf 41 = .ok (.iload_n 2, 1) := by decide +kernel
theorem dX7_shareOf_42 : decode cX7_shareOf 42 = .ok (.aload_n 0, 1) := by decide +kernel
theorem dX7_shareOf_43 : decode cX7_shareOf 43 = .ok (.iload 6, 2) := by decide +kernel
theorem dX7_shareOf_45 : decode cX7_shareOf 45 = .ok (.invokevirtual 67, 3) := by decide +kernel
theorem dX7_shareOf_48 : decode cX7_shareOf 48 = .ok (.imul, 1) := by decide +kernel
theorem dX7_shareOf_49 : decode cX7_shareOf 49 = .ok (.iload_n 3, 1) := by decide +kernel
theorem dX7_shareOf_50 : decode cX7_shareOf 50 = .ok (.idiv, 1) := by decide +kernel
theorem dX7_shareOf_51 : decode cX7_shareOf 51 = .ok (.isub, 1) := by decide +kernel
theorem dX7_shareOf_52 : decode cX7_shareOf 52 = .ok (.istore 4, 2) := by decide +kernel
theorem dX7_shareOf_54 : decode cX7_shareOf 54 = .ok (.iload 5, 2) := by decide +kernel
theorem dX7_shareOf_56 : decode cX7_shareOf 56 = .ok (.iload 6, 2) := by decide +kernel
theorem dX7_shareOf_58 : decode cX7_shareOf 58 = .ok (.iload_n 1, 1) := by decide +kernel
theorem dX7_shareOf_59 : decode cX7_shareOf 59 = .ok (.if_icmp .ge 7, 3) := by decide +kernel
theorem dX7_shareOf_62 : decode cX7_shareOf 62 = .ok (.iconst 1, 1) := by decide +kernel
theorem dX7_shareOf_63 : decode cX7_shareOf 63 = .ok (.goto 4, 3) := by decide +kernel
theorem dX7_shareOf_66 : decode cX7_shareOf 66 = .ok (.iconst 0, 1) := by decide +kernel
theorem dX7_shareOf_67 : decode cX7_shareOf 67 = .ok (.iadd, 1) := by decide +kernel
theorem dX7_shareOf_68 : decode cX7_shareOf 68 = .ok (.istore 5, 2) := by decide +kernel
theorem dX7_shareOf_70 : decode cX7_shareOf 70 = .ok (.iinc 6 1, 3) := by decide +kernel
theorem dX7_shareOf_73 : decode cX7_shareOf 73 = .ok (.goto (-52), 3) := by decide +kernel
theorem dX7_shareOf_76 : decode cX7_shareOf 76 = .ok (.iload_n 2, 1) := by decide +kernel
theorem dX7_shareOf_77 : decode cX7_shareOf 77 = .ok (.aload_n 0, 1) := by decide +kernel
theorem dX7_shareOf_78 : decode cX7_shareOf 78 = .ok (.iload_n 1, 1) := by decide +kernel
theorem dX7_shareOf_79 : decode cX7_shareOf 79 = .ok (.invokevirtual 67, 3) := by decide +kernel
theorem dX7_shareOf_82 : decode cX7_shareOf 82 = .ok (.imul, 1) := by decide +kernel
theorem dX7_shareOf_83 : decode cX7_shareOf 83 = .ok (.iload_n 3, 1) := by decide +kernel
theorem dX7_shareOf_84 : decode cX7_shareOf 84 = .ok (.idiv, 1) := by decide +kernel
theorem dX7_shareOf_85 : decode cX7_shareOf 85 = .ok (.iload 5, 2) := by decide +kernel
theorem dX7_shareOf_87 : decode cX7_shareOf 87 = .ok (.iload 4, 2) := by decide +kernel
theorem dX7_shareOf_89 : decode cX7_shareOf 89 = .ok (.if_icmp .ge 7, 3) := by decide +kernel
theorem dX7_shareOf_92 : decode cX7_shareOf 92 = .ok (.iconst 1, 1) := by decide +kernel
theorem dX7_shareOf_93 : decode cX7_shareOf 93 = .ok (.goto 4, 3) := by decide +kernel
theorem dX7_shareOf_96 : decode cX7_shareOf 96 = .ok (.iconst 0, 1) := by decide +kernel
theorem dX7_shareOf_97 : decode cX7_shareOf 97 = .ok (.iadd, 1) := by decide +kernel
theorem dX7_shareOf_98 : decode cX7_shareOf 98 = .ok (.ireturn, 1) := by decide +kernel
theorem dX7_pricesShown_0 : decode cX7_pricesShown 0 = .ok (.iconst 0, 1) := by decide +kernel
theorem dX7_pricesShown_1 : decode cX7_pricesShown 1 = .ok (.istore_n 1, 1) := by decide +kernel
theorem dX7_pricesShown_2 : decode cX7_pricesShown 2 = .ok (.iconst 0, 1) := by decide +kernel
theorem dX7_pricesShown_3 : decode cX7_pricesShown 3 = .ok (.istore_n 2, 1) := by decide +kernel
theorem dX7_pricesShown_4 : decode cX7_pricesShown 4 = .ok (.iload_n 2, 1) := by decide +kernel
theorem dX7_pricesShown_5 : decode cX7_pricesShown 5 = .ok (.aload_n 0, 1) := by decide +kernel
theorem dX7_pricesShown_6 : decode cX7_pricesShown 6 = .ok (.getfield 40, 3) := by decide +kernel
theorem dX7_pricesShown_9 : decode cX7_pricesShown 9 = .ok (.if_icmp .ge 25, 3) := by decide +kernel
theorem dX7_pricesShown_12 : decode cX7_pricesShown 12 = .ok (.aload_n 0, 1) := by decide +kernel
theorem dX7_pricesShown_13 : decode cX7_pricesShown 13 = .ok (.iload_n 2, 1) := by decide +kernel
theorem dX7_pricesShown_14 : decode cX7_pricesShown 14 = .ok (.invokevirtual 63, 3) := by decide +kernel
theorem dX7_pricesShown_17 : decode cX7_pricesShown 17 = .ok (.ifCond .ne 11, 3) := by decide +kernel
theorem dX7_pricesShown_20 : decode cX7_pricesShown 20 = .ok (.iload_n 1, 1) := by decide +kernel
theorem dX7_pricesShown_21 : decode cX7_pricesShown 21 = .ok (.aload_n 0, 1) := by decide +kernel
theorem dX7_pricesShown_22 : decode cX7_pricesShown 22 = .ok (.iload_n 2, 1) := by decide +kernel
theorem dX7_pricesShown_23 : decode cX7_pricesShown 23 = .ok (.invokevirtual 67, 3) := by decide +kernel
theorem dX7_pricesShown_26 : decode cX7_pricesShown 26 = .ok (.iadd, 1) := by decide +kernel
theorem dX7_pricesShown_27 : decode cX7_pricesShown 27 = .ok (.istore_n 1, 1) := by decide +kernel
theorem dX7_pricesShown_28 : decode cX7_pricesShown 28 = .ok (.iinc 2 1, 3) := by decide +kernel
theorem dX7_pricesShown_31 : decode cX7_pricesShown 31 = .ok (.goto (-27), 3) := by decide +kernel
theorem dX7_pricesShown_34 : decode cX7_pricesShown 34 = .ok (.iload_n 1, 1) := by decide +kernel
theorem dX7_pricesShown_35 : decode cX7_pricesShown 35 = .ok (.ireturn, 1) := by decide +kernel
theorem dX8_init_0 : decode cX8_init 0 = .ok (.aload_n 0, 1) := by decide +kernel
theorem dX8_init_1 : decode cX8_init 1 = .ok (.invokespecial 1, 3) := by decide +kernel
theorem dX8_init_4 : decode cX8_init 4 = .ok (.aload_n 0, 1) := by decide +kernel
theorem dX8_init_5 : decode cX8_init 5 = .ok (.new 7, 3) := by decide +kernel
theorem dX8_init_8 : decode cX8_init 8 = .ok (.dup, 1) := by decide +kernel
theorem dX8_init_9 : decode cX8_init 9 = .ok (.invokespecial 9, 3) := by decide +kernel
theorem dX8_init_12 : decode cX8_init 12 = .ok (.putfield 10, 3) := by decide +kernel
theorem dX8_init_15 : decode cX8_init 15 = .ok (.aload_n 0, 1) := by decide +kernel
theorem dX8_init_16 : decode cX8_init 16 = .ok (.iconst 2, 1) := by decide +kernel
theorem dX8_init_17 : decode cX8_init 17 = .ok (.anewarray 7, 3) := by decide +kernel
theorem dX8_init_20 : decode cX8_init 20 = .ok (.putfield 16, 3) := by decide +kernel
theorem dX8_init_23 : decode cX8_init 23 = .ok (.aload_n 0, 1) := by decide +kernel
theorem dX8_init_24 : decode cX8_init 24 = .ok (.new 20, 3) := by decide +kernel
theorem dX8_init_27 : decode cX8_init 27 = .ok (.dup, 1) := by decide +kernel
theorem dX8_init_28 : decode cX8_init 28 = .ok (.invokespecial 22, 3) := by decide +kernel
theorem dX8_init_31 : decode cX8_init 31 = .ok (.putfield 23, 3) := by decide +kernel
theorem dX8_init_34 : decode cX8_init 34 = .ok (.aload_n 0, 1) := by decide +kernel
theorem dX8_init_35 : decode cX8_init 35 = .ok (.new 27, 3) := by decide +kernel
theorem dX8_init_38 : decode cX8_init 38 = .ok (.dup, 1) := by decide +kernel
theorem dX8_init_39 : decode cX8_init 39 = .ok (.invokespecial 29, 3) := by decide +kernel
theorem dX8_init_42 : decode cX8_init 42 = .ok (.putfield 30, 3) := by decide +kernel
theorem dX8_init_45 : decode cX8_init 45 = .ok (.aload_n 0, 1) := by decide +kernel
theorem dX8_init_46 : decode cX8_init 46 = .ok (.new 34, 3) := by decide +kernel
theorem dX8_init_49 : decode cX8_init 49 = .ok (.dup, 1) := by decide +kernel
theorem dX8_init_50 : decode cX8_init 50 = .ok (.invokespecial 36, 3) := by decide +kernel
theorem dX8_init_53 : decode cX8_init 53 = .ok (.putfield 37, 3) := by decide +kernel
theorem dX8_init_56 : decode cX8_init 56 = .ok (.aload_n 0, 1) := by decide +kernel
theorem dX8_init_57 : decode cX8_init 57 = .ok (.new 41, 3) := by decide +kernel
theorem dX8_init_60 : decode cX8_init 60 = .ok (.dup, 1) := by decide +kernel
theorem dX8_init_61 : decode cX8_init 61 = .ok (.aload_n 0, 1) := by decide +kernel
theorem dX8_init_62 : decode cX8_init 62 = .ok (.getfield 10, 3) := by decide +kernel
theorem dX8_init_65 : decode cX8_init 65 = .ok (.invokespecial 43, 3) := by decide +kernel
theorem dX8_init_68 : decode cX8_init 68 = .ok (.putfield 46, 3) := by decide +kernel
theorem dX8_init_71 : decode cX8_init 71 = .ok (.aload_n 0, 1) := by decide +kernel
theorem dX8_init_72 : decode cX8_init 72 = .ok (.new 50, 3) := by decide +kernel
theorem dX8_init_75 : decode cX8_init 75 = .ok (.dup, 1) := by decide +kernel
theorem dX8_init_76 : decode cX8_init 76 = .ok (.aload_n 0, 1) := by decide +kernel
theorem dX8_init_77 : decode cX8_init 77 = .ok (.getfield 10, 3) := by decide +kernel
theorem dX8_init_80 : decode cX8_init 80 = .ok (.invokespecial 52, 3) := by decide +kernel
theorem dX8_init_83 : decode cX8_init 83 = .ok (.putfield 53, 3) := by decide +kernel
theorem dX8_init_86 : decode cX8_init 86 = .ok (.aload_n 0, 1) := by decide +kernel
theorem dX8_init_87 : decode cX8_init 87 = .ok (.new 57, 3) := by decide +kernel
theorem dX8_init_90 : decode cX8_init 90 = .ok (.dup, 1) := by decide +kernel
theorem dX8_init_91 : decode cX8_init 91 = .ok (.aload_n 0, 1) := by decide +kernel
theorem dX8_init_92 : decode cX8_init 92 = .ok (.getfield 10, 3) := by decide +kernel
theorem dX8_init_95 : decode cX8_init 95 = .ok (.aload_n 0, 1) := by decide +kernel
theorem dX8_init_96 : decode cX8_init 96 = .ok (.getfield 23, 3) := by decide +kernel
theorem dX8_init_99 : decode cX8_init 99 = .ok (.invokespecial 59, 3) := by decide +kernel
theorem dX8_init_102 : decode cX8_init 102 = .ok (.putfield 62, 3) := by decide +kernel
theorem dX8_init_105 : decode cX8_init 105 = .ok (.aload_n 0, 1) := by decide +kernel
theorem dX8_init_106 : decode cX8_init 106 = .ok (.new 66, 3) := by decide +kernel
theorem dX8_init_109 : decode cX8_init 109 = .ok (.dup, 1) := by decide +kernel
theorem dX8_init_110 : decode cX8_init 110 = .ok (.aload_n 0, 1) := by decide +kernel
theorem dX8_init_111 : decode cX8_init 111 = .ok (.getfield 10, 3) := by decide +kernel
theorem dX8_init_114 : decode cX8_init 114 = .ok (.invokespecial 68, 3) := by decide +kernel
theorem dX8_init_117 : decode cX8_init 117 = .ok (.putfield 69, 3) := by decide +kernel
theorem dX8_init_120 : decode cX8_init 120 = .ok (.iconst 0, 1) := by decide +kernel
theorem dX8_init_121 : decode cX8_init 121 = .ok (.istore_n 1, 1) := by decide +kernel
theorem dX8_init_122 : decode cX8_init 122 = .ok (.iload_n 1, 1) := by decide +kernel
theorem dX8_init_123 : decode cX8_init 123 = .ok (.iconst 2, 1) := by decide +kernel
theorem dX8_init_124 : decode cX8_init 124 = .ok (.if_icmp .ge 22, 3) := by decide +kernel
theorem dX8_init_127 : decode cX8_init 127 = .ok (.aload_n 0, 1) := by decide +kernel
theorem dX8_init_128 : decode cX8_init 128 = .ok (.getfield 16, 3) := by decide +kernel
theorem dX8_init_131 : decode cX8_init 131 = .ok (.iload_n 1, 1) := by decide +kernel
theorem dX8_init_132 : decode cX8_init 132 = .ok (.new 7, 3) := by decide +kernel
theorem dX8_init_135 : decode cX8_init 135 = .ok (.dup, 1) := by decide +kernel
theorem dX8_init_136 : decode cX8_init 136 = .ok (.invokespecial 9, 3) := by decide +kernel
theorem dX8_init_139 : decode cX8_init 139 = .ok (.aastore, 1) := by decide +kernel
theorem dX8_init_140 : decode cX8_init 140 = .ok (.iinc 1 1, 3) := by decide +kernel
theorem dX8_init_143 : decode cX8_init 143 = .ok (.goto (-21), 3) := by decide +kernel
theorem dX8_init_146 : decode cX8_init 146 = .ok (.return_, 1) := by decide +kernel
theorem dX8_row_0 : decode cX8_row 0 = .ok (.iload_n 1, 1) := by decide +kernel
theorem dX8_row_1 : decode cX8_row 1 = .ok (.invokestatic 73, 3) := by decide +kernel
theorem dX8_row_4 : decode cX8_row 4 = .ok (.ifCond .eq 16, 3) := by decide +kernel
theorem dX8_row_7 : decode cX8_row 7 = .ok (.iload_n 2, 1) := by decide +kernel
theorem dX8_row_8 : decode cX8_row 8 = .ok (.invokestatic 77, 3) := by decide +kernel
theorem dX8_row_11 : decode cX8_row 11 = .ok (.ifCond .eq 9, 3) := by decide +kernel
theorem dX8_row_14 : decode cX8_row 14 = .ok (.iload_n 3, 1) := by decide +kernel
theorem dX8_row_15 : decode cX8_row 15 = .ok (.bipush 40, 2) := by decide +kernel
theorem dX8_row_17 : decode cX8_row 17 = .ok (.if_icmp .le 6, 3) := by decide +kernel
theorem dX8_row_20 : decode cX8_row 20 = .ok (.ldc 80, 2) := by decide +kernel
theorem dX8_row_22 : decode cX8_row 22 = .ok (.ireturn, 1) := by decide +kernel
theorem dX8_row_23 : decode cX8_row 23 = .ok (.iload_n 3, 1) := by decide +kernel
theorem dX8_row_24 : decode cX8_row 24 = .ok (.ifCond .ge 9, 3) := by decide +kernel
theorem dX8_row_27 : decode cX8_row 27 = .ok (.aload_n 0, 1) := by decide +kernel
theorem dX8_row_28 : decode cX8_row 28 = .ok (.iconst 4, 1) := by decide +kernel
theorem dX8_row_29 : decode cX8_row 29 = .ok (.invokevirtual 81, 3) := by decide +kernel
theorem dX8_row_32 : decode cX8_row 32 = .ok (.ireturn, 1) := by decide +kernel
theorem dX8_row_33 : decode cX8_row 33 = .ok (.aload_n 0, 1) := by decide +kernel
theorem dX8_row_34 : decode cX8_row 34 = .ok (.getfield 23, 3) := by decide +kernel
theorem dX8_row_37 : decode cX8_row 37 = .ok (.iload_n 1, 1) := by decide +kernel
theorem dX8_row_38 : decode cX8_row 38 = .ok (.iload_n 2, 1) := by decide +kernel
theorem dX8_row_39 : decode cX8_row 39 = .ok (.iload_n 3, 1) := by decide +kernel
theorem dX8_row_40 : decode cX8_row 40 = .ok (.invokevirtual 85, 3) := by decide +kernel
theorem dX8_row_43 : decode cX8_row 43 = .ok (.aload_n 0, 1) := by decide +kernel
theorem dX8_row_44 : decode cX8_row 44 = .ok (.iload_n 3, 1) := by decide +kernel
theorem dX8_row_45 : decode cX8_row 45 = .ok (.invokevirtual 89, 3) := by decide +kernel
theorem dX8_row_48 : decode cX8_row 48 = .ok (.ireturn, 1) := by decide +kernel
theorem dX8_set_0 : decode cX8_set 0 = .ok (.iload_n 1, 1) := by decide +kernel
theorem dX8_set_1 : decode cX8_set 1 = .ok (.invokestatic 73, 3) := by decide +kernel
theorem dX8_set_4 : decode cX8_set 4 = .ok (.ifCond .ne 6, 3) := by decide +kernel
theorem dX8_set_7 : decode cX8_set 7 = .ok (.ldc 80, 2) := by decide +kernel
theorem dX8_set_9 : decode cX8_set 9 = .ok (.ireturn, 1) := by decide +kernel
theorem dX8_set_10 : decode cX8_set 10 = .ok (.aload_n 0, 1) := by decide +kernel
theorem dX8_set_11 : decode cX8_set 11 = .ok (.getfield 23, 3) := by decide +kernel
theorem dX8_set_14 : decode cX8_set 14 = .ok (.iload_n 1, 1) := by decide +kernel
theorem dX8_set_15 : decode cX8_set 15 = .ok (.invokevirtual 92, 3) := by decide +kernel
theorem dX8_set_18 : decode cX8_set 18 = .ok (.ifCond .eq 9, 3) := by decide +kernel
theorem dX8_set_21 : decode cX8_set 21 = .ok (.aload_n 0, 1) := by decide +kernel
theorem dX8_set_22 : decode cX8_set 22 = .ok (.iconst 1, 1) := by decide +kernel
theorem dX8_set_23 : decode cX8_set 23 = .ok (.invokevirtual 81, 3) := by decide +kernel
theorem dX8_set_26 : decode cX8_set 26 = .ok (.ireturn, 1) := by decide +kernel
theorem dX8_set_27 : decode cX8_set 27 = .ok (.aload_n 0, 1) := by decide +kernel
theorem dX8_set_28 : decode cX8_set 28 = .ok (.getfield 23, 3) := by decide +kernel
theorem dX8_set_31 : decode cX8_set 31 = .ok (.iload_n 1, 1) := by decide +kernel
theorem dX8_set_32 : decode cX8_set 32 = .ok (.iload_n 2, 1) := by decide +kernel
theorem dX8_set_33 : decode cX8_set 33 = .ok (.iconst 1, 1) := by decide +kernel
