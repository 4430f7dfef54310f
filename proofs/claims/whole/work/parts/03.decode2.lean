theorem dX8_set_34 : decode cX8_set 34 = .ok (.invokevirtual 95, 3) := by decide +kernel
theorem dX8_set_37 : decode cX8_set 37 = .ok (.ifCond .ne 9, 3) := by decide +kernel
theorem dX8_set_40 : decode cX8_set 40 = .ok (.aload_n 0, 1) := by decide +kernel
theorem dX8_set_41 : decode cX8_set 41 = .ok (.iconst 2, 1) := by decide +kernel
theorem dX8_set_42 : decode cX8_set 42 = .ok (.invokevirtual 81, 3) := by decide +kernel
theorem dX8_set_45 : decode cX8_set 45 = .ok (.ireturn, 1) := by decide +kernel
theorem dX8_set_46 : decode cX8_set 46 = .ok (.aload_n 0, 1) := by decide +kernel
theorem dX8_set_47 : decode cX8_set 47 = .ok (.aload_n 0, 1) := by decide +kernel
theorem dX8_set_48 : decode cX8_set 48 = .ok (.getfield 23, 3) := by decide +kernel
theorem dX8_set_51 : decode cX8_set 51 = .ok (.iload_n 1, 1) := by decide +kernel
theorem dX8_set_52 : decode cX8_set 52 = .ok (.iload_n 2, 1) := by decide +kernel
theorem dX8_set_53 : decode cX8_set 53 = .ok (.iload_n 3, 1) := by decide +kernel
theorem dX8_set_54 : decode cX8_set 54 = .ok (.invokevirtual 99, 3) := by decide +kernel
theorem dX8_set_57 : decode cX8_set 57 = .ok (.invokevirtual 89, 3) := by decide +kernel
theorem dX8_set_60 : decode cX8_set 60 = .ok (.ireturn, 1) := by decide +kernel
theorem dX8_copy_0 : decode cX8_copy 0 = .ok (.iload_n 1, 1) := by decide +kernel
theorem dX8_copy_1 : decode cX8_copy 1 = .ok (.invokestatic 73, 3) := by decide +kernel
theorem dX8_copy_4 : decode cX8_copy 4 = .ok (.ifCond .eq 10, 3) := by decide +kernel
theorem dX8_copy_7 : decode cX8_copy 7 = .ok (.iload_n 3, 1) := by decide +kernel
theorem dX8_copy_8 : decode cX8_copy 8 = .ok (.invokestatic 73, 3) := by decide +kernel
theorem dX8_copy_11 : decode cX8_copy 11 = .ok (.ifCond .ne 6, 3) := by decide +kernel
theorem dX8_copy_14 : decode cX8_copy 14 = .ok (.ldc 80, 2) := by decide +kernel
theorem dX8_copy_16 : decode cX8_copy 16 = .ok (.ireturn, 1) := by decide +kernel
theorem dX8_copy_17 : decode cX8_copy 17 = .ok (.aload_n 0, 1) := by decide +kernel
theorem dX8_copy_18 : decode cX8_copy 18 = .ok (.getfield 23, 3) := by decide +kernel
theorem dX8_copy_21 : decode cX8_copy 21 = .ok (.iload_n 1, 1) := by decide +kernel
theorem dX8_copy_22 : decode cX8_copy 22 = .ok (.invokevirtual 92, 3) := by decide +kernel
theorem dX8_copy_25 : decode cX8_copy 25 = .ok (.ifCond .ne 14, 3) := by decide +kernel
theorem dX8_copy_28 : decode cX8_copy 28 = .ok (.aload_n 0, 1) := by decide +kernel
theorem dX8_copy_29 : decode cX8_copy 29 = .ok (.getfield 23, 3) := by decide +kernel
theorem dX8_copy_32 : decode cX8_copy 32 = .ok (.iload_n 3, 1) := by decide +kernel
theorem dX8_copy_33 : decode cX8_copy 33 = .ok (.invokevirtual 92, 3) := by decide +kernel
theorem dX8_copy_36 : decode cX8_copy 36 = .ok (.ifCond .eq 9, 3) := by decide +kernel
theorem dX8_copy_39 : decode cX8_copy 39 = .ok (.aload_n 0, 1) := by decide +kernel
theorem dX8_copy_40 : decode cX8_copy 40 = .ok (.iconst 1, 1) := by decide +kernel
theorem dX8_copy_41 : decode cX8_copy 41 = .ok (.invokevirtual 81, 3) := by decide +kernel
theorem dX8_copy_44 : decode cX8_copy 44 = .ok (.ireturn, 1) := by decide +kernel
theorem dX8_copy_45 : decode cX8_copy 45 = .ok (.aload_n 0, 1) := by decide +kernel
theorem dX8_copy_46 : decode cX8_copy 46 = .ok (.getfield 23, 3) := by decide +kernel
theorem dX8_copy_49 : decode cX8_copy 49 = .ok (.getfield 103, 3) := by decide +kernel
theorem dX8_copy_52 : decode cX8_copy 52 = .ok (.iload_n 1, 1) := by decide +kernel
theorem dX8_copy_53 : decode cX8_copy 53 = .ok (.iaload, 1) := by decide +kernel
theorem dX8_copy_54 : decode cX8_copy 54 = .ok (.aload_n 0, 1) := by decide +kernel
theorem dX8_copy_55 : decode cX8_copy 55 = .ok (.getfield 23, 3) := by decide +kernel
theorem dX8_copy_58 : decode cX8_copy 58 = .ok (.getfield 103, 3) := by decide +kernel
theorem dX8_copy_61 : decode cX8_copy 61 = .ok (.iload_n 3, 1) := by decide +kernel
theorem dX8_copy_62 : decode cX8_copy 62 = .ok (.iaload, 1) := by decide +kernel
theorem dX8_copy_63 : decode cX8_copy 63 = .ok (.if_icmp .eq 9, 3) := by decide +kernel
theorem dX8_copy_66 : decode cX8_copy 66 = .ok (.aload_n 0, 1) := by decide +kernel
theorem dX8_copy_67 : decode cX8_copy 67 = .ok (.iconst 5, 1) := by decide +kernel
theorem dX8_copy_68 : decode cX8_copy 68 = .ok (.invokevirtual 81, 3) := by decide +kernel
theorem dX8_copy_71 : decode cX8_copy 71 = .ok (.ireturn, 1) := by decide +kernel
theorem dX8_copy_72 : decode cX8_copy 72 = .ok (.aload_n 0, 1) := by decide +kernel
theorem dX8_copy_73 : decode cX8_copy 73 = .ok (.getfield 23, 3) := by decide +kernel
theorem dX8_copy_76 : decode cX8_copy 76 = .ok (.iload_n 1, 1) := by decide +kernel
theorem dX8_copy_77 : decode cX8_copy 77 = .ok (.iload_n 2, 1) := by decide +kernel
theorem dX8_copy_78 : decode cX8_copy 78 = .ok (.iload 5, 2) := by decide +kernel
theorem dX8_copy_80 : decode cX8_copy 80 = .ok (.invokevirtual 95, 3) := by decide +kernel
theorem dX8_copy_83 : decode cX8_copy 83 = .ok (.ifCond .eq 18, 3) := by decide +kernel
theorem dX8_copy_86 : decode cX8_copy 86 = .ok (.aload_n 0, 1) := by decide +kernel
theorem dX8_copy_87 : decode cX8_copy 87 = .ok (.getfield 23, 3) := by decide +kernel
theorem dX8_copy_90 : decode cX8_copy 90 = .ok (.iload_n 3, 1) := by decide +kernel
theorem dX8_copy_91 : decode cX8_copy 91 = .ok (.iload 4, 2) := by decide +kernel
theorem dX8_copy_93 : decode cX8_copy 93 = .ok (.iload 5, 2) := by decide +kernel
theorem dX8_copy_95 : decode cX8_copy 95 = .ok (.invokevirtual 95, 3) := by decide +kernel
theorem dX8_copy_98 : decode cX8_copy 98 = .ok (.ifCond .ne 9, 3) := by decide +kernel
theorem dX8_copy_101 : decode cX8_copy 101 = .ok (.aload_n 0, 1) := by decide +kernel
theorem dX8_copy_102 : decode cX8_copy 102 = .ok (.iconst 2, 1) := by decide +kernel
theorem dX8_copy_103 : decode cX8_copy 103 = .ok (.invokevirtual 81, 3) := by decide +kernel
theorem dX8_copy_106 : decode cX8_copy 106 = .ok (.ireturn, 1) := by decide +kernel
theorem dX8_copy_107 : decode cX8_copy 107 = .ok (.aload_n 0, 1) := by decide +kernel
theorem dX8_copy_108 : decode cX8_copy 108 = .ok (.getfield 23, 3) := by decide +kernel
theorem dX8_copy_111 : decode cX8_copy 111 = .ok (.getfield 107, 3) := by decide +kernel
theorem dX8_copy_114 : decode cX8_copy 114 = .ok (.iload_n 1, 1) := by decide +kernel
theorem dX8_copy_115 : decode cX8_copy 115 = .ok (.aaload, 1) := by decide +kernel
theorem dX8_copy_116 : decode cX8_copy 116 = .ok (.iload_n 2, 1) := by decide +kernel
theorem dX8_copy_117 : decode cX8_copy 117 = .ok (.aload_n 0, 1) := by decide +kernel
theorem dX8_copy_118 : decode cX8_copy 118 = .ok (.getfield 23, 3) := by decide +kernel
theorem dX8_copy_121 : decode cX8_copy 121 = .ok (.getfield 107, 3) := by decide +kernel
theorem dX8_copy_124 : decode cX8_copy 124 = .ok (.iload_n 3, 1) := by decide +kernel
theorem dX8_copy_125 : decode cX8_copy 125 = .ok (.aaload, 1) := by decide +kernel
theorem dX8_copy_126 : decode cX8_copy 126 = .ok (.iload 4, 2) := by decide +kernel
theorem dX8_copy_128 : decode cX8_copy 128 = .ok (.iload 5, 2) := by decide +kernel
theorem dX8_copy_130 : decode cX8_copy 130 = .ok (.invokestatic 111, 3) := by decide +kernel
theorem dX8_copy_133 : decode cX8_copy 133 = .ok (.aload_n 0, 1) := by decide +kernel
theorem dX8_copy_134 : decode cX8_copy 134 = .ok (.iload 5, 2) := by decide +kernel
theorem dX8_copy_136 : decode cX8_copy 136 = .ok (.invokevirtual 89, 3) := by decide +kernel
theorem dX8_copy_139 : decode cX8_copy 139 = .ok (.ireturn, 1) := by decide +kernel
theorem dX8_drop_0 : decode cX8_drop 0 = .ok (.iload_n 1, 1) := by decide +kernel
theorem dX8_drop_1 : decode cX8_drop 1 = .ok (.invokestatic 73, 3) := by decide +kernel
theorem dX8_drop_4 : decode cX8_drop 4 = .ok (.ifCond .ne 6, 3) := by decide +kernel
theorem dX8_drop_7 : decode cX8_drop 7 = .ok (.ldc 80, 2) := by decide +kernel
theorem dX8_drop_9 : decode cX8_drop 9 = .ok (.ireturn, 1) := by decide +kernel
theorem dX8_drop_10 : decode cX8_drop 10 = .ok (.aload_n 0, 1) := by decide +kernel
theorem dX8_drop_11 : decode cX8_drop 11 = .ok (.getfield 23, 3) := by decide +kernel
theorem dX8_drop_14 : decode cX8_drop 14 = .ok (.iload_n 1, 1) := by decide +kernel
theorem dX8_drop_15 : decode cX8_drop 15 = .ok (.invokevirtual 92, 3) := by decide +kernel
theorem dX8_drop_18 : decode cX8_drop 18 = .ok (.ifCond .eq 9, 3) := by decide +kernel
theorem dX8_drop_21 : decode cX8_drop 21 = .ok (.aload_n 0, 1) := by decide +kernel
theorem dX8_drop_22 : decode cX8_drop 22 = .ok (.iconst 1, 1) := by decide +kernel
theorem dX8_drop_23 : decode cX8_drop 23 = .ok (.invokevirtual 81, 3) := by decide +kernel
theorem dX8_drop_26 : decode cX8_drop 26 = .ok (.ireturn, 1) := by decide +kernel
theorem dX8_drop_27 : decode cX8_drop 27 = .ok (.aload_n 0, 1) := by decide +kernel
theorem dX8_drop_28 : decode cX8_drop 28 = .ok (.aload_n 0, 1) := by decide +kernel
theorem dX8_drop_29 : decode cX8_drop 29 = .ok (.getfield 23, 3) := by decide +kernel
theorem dX8_drop_32 : decode cX8_drop 32 = .ok (.iload_n 1, 1) := by decide +kernel
theorem dX8_drop_33 : decode cX8_drop 33 = .ok (.invokevirtual 117, 3) := by decide +kernel
theorem dX8_drop_36 : decode cX8_drop 36 = .ok (.invokevirtual 89, 3) := by decide +kernel
theorem dX8_drop_39 : decode cX8_drop 39 = .ok (.ireturn, 1) := by decide +kernel
theorem dX8_feed_0 : decode cX8_feed 0 = .ok (.iload_n 1, 1) := by decide +kernel
theorem dX8_feed_1 : decode cX8_feed 1 = .ok (.ifCond .lt 10, 3) := by decide +kernel
theorem dX8_feed_4 : decode cX8_feed 4 = .ok (.iload_n 1, 1) := by decide +kernel
theorem dX8_feed_5 : decode cX8_feed 5 = .ok (.sipush 255, 3) := by decide +kernel
theorem dX8_feed_8 : decode cX8_feed 8 = .ok (.if_icmp .le 6, 3) := by decide +kernel
theorem dX8_feed_11 : decode cX8_feed 11 = .ok (.ldc 80, 2) := by decide +kernel
theorem dX8_feed_13 : decode cX8_feed 13 = .ok (.ireturn, 1) := by decide +kernel
theorem dX8_feed_14 : decode cX8_feed 14 = .ok (.aload_n 0, 1) := by decide +kernel
theorem dX8_feed_15 : decode cX8_feed 15 = .ok (.getfield 30, 3) := by decide +kernel
theorem dX8_feed_18 : decode cX8_feed 18 = .ok (.invokevirtual 120, 3) := by decide +kernel
theorem dX8_feed_21 : decode cX8_feed 21 = .ok (.ifCond .eq 6, 3) := by decide +kernel
theorem dX8_feed_24 : decode cX8_feed 24 = .ok (.ldc 124, 2) := by decide +kernel
theorem dX8_feed_26 : decode cX8_feed 26 = .ok (.ireturn, 1) := by decide +kernel
theorem dX8_feed_27 : decode cX8_feed 27 = .ok (.aload_n 0, 1) := by decide +kernel
theorem dX8_feed_28 : decode cX8_feed 28 = .ok (.getfield 30, 3) := by decide +kernel
theorem dX8_feed_31 : decode cX8_feed 31 = .ok (.iload_n 1, 1) := by decide +kernel
theorem dX8_feed_32 : decode cX8_feed 32 = .ok (.invokevirtual 125, 3) := by decide +kernel
theorem dX8_feed_35 : decode cX8_feed 35 = .ok (.ireturn, 1) := by decide +kernel
theorem dX8_world_0 : decode cX8_world 0 = .ok (.aload_n 0, 1) := by decide +kernel
theorem dX8_world_1 : decode cX8_world 1 = .ok (.getfield 30, 3) := by decide +kernel
theorem dX8_world_4 : decode cX8_world 4 = .ok (.invokevirtual 128, 3) := by decide +kernel
theorem dX8_world_7 : decode cX8_world 7 = .ok (.istore_n 1, 1) := by decide +kernel
theorem dX8_world_8 : decode cX8_world 8 = .ok (.aload_n 0, 1) := by decide +kernel
theorem dX8_world_9 : decode cX8_world 9 = .ok (.getfield 30, 3) := by decide +kernel
theorem dX8_world_12 : decode cX8_world 12 = .ok (.invokevirtual 131, 3) := by decide +kernel
theorem dX8_world_15 : decode cX8_world 15 = .ok (.iload_n 1, 1) := by decide +kernel
theorem dX8_world_16 : decode cX8_world 16 = .ok (.ifCond .ne 25, 3) := by decide +kernel
theorem dX8_world_19 : decode cX8_world 19 = .ok (.aload_n 0, 1) := by decide +kernel
theorem dX8_world_20 : decode cX8_world 20 = .ok (.aload_n 0, 1) := by decide +kernel
theorem dX8_world_21 : decode cX8_world 21 = .ok (.getfield 30, 3) := by decide +kernel
theorem dX8_world_24 : decode cX8_world 24 = .ok (.getfield 134, 3) := by decide +kernel
theorem dX8_world_27 : decode cX8_world 27 = .ok (.putfield 138, 3) := by decide +kernel
theorem dX8_world_30 : decode cX8_world 30 = .ok (.ldc 141, 2) := by decide +kernel
theorem dX8_world_32 : decode cX8_world 32 = .ok (.aload_n 0, 1) := by decide +kernel
theorem dX8_world_33 : decode cX8_world 33 = .ok (.getfield 30, 3) := by decide +kernel
theorem dX8_world_36 : decode cX8_world 36 = .ok (.getfield 142, 3) := by decide +kernel
theorem dX8_world_39 : decode cX8_world 39 = .ok (.isub, 1) := by decide +kernel
theorem dX8_world_40 : decode cX8_world 40 = .ok (.ireturn, 1) := by decide +kernel
theorem dX8_world_41 : decode cX8_world 41 = .ok (.aload_n 0, 1) := by decide +kernel
theorem dX8_world_42 : decode cX8_world 42 = .ok (.aload_n 0, 1) := by decide +kernel
theorem dX8_world_43 : decode cX8_world 43 = .ok (.getfield 30, 3) := by decide +kernel
theorem dX8_world_46 : decode cX8_world 46 = .ok (.getfield 145, 3) := by decide +kernel
theorem dX8_world_49 : decode cX8_world 49 = .ok (.invokevirtual 148, 3) := by decide +kernel
theorem dX8_world_52 : decode cX8_world 52 = .ok (.aload_n 0, 1) := by decide +kernel
theorem dX8_world_53 : decode cX8_world 53 = .ok (.getfield 10, 3) := by decide +kernel
theorem dX8_world_56 : decode cX8_world 56 = .ok (.getfield 151, 3) := by decide +kernel
theorem dX8_world_59 : decode cX8_world 59 = .ok (.ireturn, 1) := by decide +kernel
theorem dX8_fault_0 : decode cX8_fault 0 = .ok (.aload_n 0, 1) := by decide +kernel
theorem dX8_fault_1 : decode cX8_fault 1 = .ok (.getfield 138, 3) := by decide +kernel
theorem dX8_fault_4 : decode cX8_fault 4 = .ok (.ireturn, 1) := by decide +kernel
theorem dX8_hide_0 : decode cX8_hide 0 = .ok (.aload_n 0, 1) := by decide +kernel
theorem dX8_hide_1 : decode cX8_hide 1 = .ok (.getfield 10, 3) := by decide +kernel
theorem dX8_hide_4 : decode cX8_hide 4 = .ok (.iload_n 1, 1) := by decide +kernel
theorem dX8_hide_5 : decode cX8_hide 5 = .ok (.invokevirtual 154, 3) := by decide +kernel
theorem dX8_hide_8 : decode cX8_hide 8 = .ok (.ifCond .eq 12, 3) := by decide +kernel
theorem dX8_hide_11 : decode cX8_hide 11 = .ok (.iload_n 2, 1) := by decide +kernel
theorem dX8_hide_12 : decode cX8_hide 12 = .ok (.ifCond .lt 8, 3) := by decide +kernel
theorem dX8_hide_15 : decode cX8_hide 15 = .ok (.iload_n 2, 1) := by decide +kernel
theorem dX8_hide_16 : decode cX8_hide 16 = .ok (.iconst 1, 1) := by decide +kernel
theorem dX8_hide_17 : decode cX8_hide 17 = .ok (.if_icmp .le 6, 3) := by decide +kernel
theorem dX8_hide_20 : decode cX8_hide 20 = .ok (.ldc 80, 2) := by decide +kernel
theorem dX8_hide_22 : decode cX8_hide 22 = .ok (.ireturn, 1) := by decide +kernel
theorem dX8_hide_23 : decode cX8_hide 23 = .ok (.aload_n 0, 1) := by decide +kernel
theorem dX8_hide_24 : decode cX8_hide 24 = .ok (.getfield 10, 3) := by decide +kernel
theorem dX8_hide_27 : decode cX8_hide 27 = .ok (.iload_n 1, 1) := by decide +kernel
theorem dX8_hide_28 : decode cX8_hide 28 = .ok (.invokevirtual 157, 3) := by decide +kernel
theorem dX8_hide_31 : decode cX8_hide 31 = .ok (.ifCond .eq 7, 3) := by decide +kernel
theorem dX8_hide_34 : decode cX8_hide 34 = .ok (.iconst 1, 1) := by decide +kernel
theorem dX8_hide_35 : decode cX8_hide 35 = .ok (.goto 4, 3) := by decide +kernel
theorem dX8_hide_38 : decode cX8_hide 38 = .ok (.iconst 0, 1) := by decide +kernel
theorem dX8_hide_39 : decode cX8_hide 39 = .ok (.istore_n 3, 1) := by decide +kernel
theorem dX8_hide_40 : decode cX8_hide 40 = .ok (.iload_n 2, 1) := by decide +kernel
theorem dX8_hide_41 : decode cX8_hide 41 = .ok (.iload_n 3, 1) := by decide +kernel
theorem dX8_hide_42 : decode cX8_hide 42 = .ok (.if_icmp .ne 6, 3) := by decide +kernel
theorem dX8_hide_45 : decode cX8_hide 45 = .ok (.ldc 160, 2) := by decide +kernel
theorem dX8_hide_47 : decode cX8_hide 47 = .ok (.ireturn, 1) := by decide +kernel
theorem dX8_hide_48 : decode cX8_hide 48 = .ok (.aload_n 0, 1) := by decide +kernel
theorem dX8_hide_49 : decode cX8_hide 49 = .ok (.getfield 37, 3) := by decide +kernel
theorem dX8_hide_52 : decode cX8_hide 52 = .ok (.iconst 0, 1) := by decide +kernel
theorem dX8_hide_53 : decode cX8_hide 53 = .ok (.iload_n 1, 1) := by decide +kernel
theorem dX8_hide_54 : decode cX8_hide 54 = .ok (.iload_n 3, 1) := by decide +kernel
theorem dX8_hide_55 : decode cX8_hide 55 = .ok (.invokevirtual 161, 3) := by decide +kernel
theorem dX8_hide_58 : decode cX8_hide 58 = .ok (.aload_n 0, 1) := by decide +kernel
theorem dX8_hide_59 : decode cX8_hide 59 = .ok (.iconst 0, 1) := by decide +kernel
theorem dX8_hide_60 : decode cX8_hide 60 = .ok (.iload_n 1, 1) := by decide +kernel
theorem dX8_hide_61 : decode cX8_hide 61 = .ok (.iload_n 2, 1) := by decide +kernel
theorem dX8_hide_62 : decode cX8_hide 62 = .ok (.invokevirtual 164, 3) := by decide +kernel
theorem dX8_hide_65 : decode cX8_hide 65 = .ok (.aload_n 0, 1) := by decide +kernel
theorem dX8_hide_66 : decode cX8_hide 66 = .ok (.getfield 10, 3) := by decide +kernel
theorem dX8_hide_69 : decode cX8_hide 69 = .ok (.getfield 167, 3) := by decide +kernel
theorem dX8_hide_72 : decode cX8_hide 72 = .ok (.ireturn, 1) := by decide +kernel
theorem dX8_cost_0 : decode cX8_cost 0 = .ok (.aload_n 0, 1) := by decide +kernel
theorem dX8_cost_1 : decode cX8_cost 1 = .ok (.getfield 10, 3) := by decide +kernel
theorem dX8_cost_4 : decode cX8_cost 4 = .ok (.iload_n 1, 1) := by decide +kernel
theorem dX8_cost_5 : decode cX8_cost 5 = .ok (.invokevirtual 154, 3) := by decide +kernel
theorem dX8_cost_8 : decode cX8_cost 8 = .ok (.ifCond .eq 14, 3) := by decide +kernel
theorem dX8_cost_11 : decode cX8_cost 11 = .ok (.iload_n 2, 1) := by decide +kernel
theorem dX8_cost_12 : decode cX8_cost 12 = .ok (.iconst 1, 1) := by decide +kernel
theorem dX8_cost_13 : decode cX8_cost 13 = .ok (.if_icmp .lt 9, 3) := by decide +kernel
theorem dX8_cost_16 : decode cX8_cost 16 = .ok (.iload_n 2, 1) := by decide +kernel
theorem dX8_cost_17 : decode cX8_cost 17 = .ok (.bipush 9, 2) := by decide +kernel
theorem dX8_cost_19 : decode cX8_cost 19 = .ok (.if_icmp .le 6, 3) := by decide +kernel
theorem dX8_cost_22 : decode cX8_cost 22 = .ok (.ldc 80, 2) := by decide +kernel
theorem dX8_cost_24 : decode cX8_cost 24 = .ok (.ireturn, 1) := by decide +kernel
theorem dX8_cost_25 : decode cX8_cost 25 = .ok (.aload_n 0, 1) := by decide +kernel
theorem dX8_cost_26 : decode cX8_cost 26 = .ok (.getfield 10, 3) := by decide +kernel
theorem dX8_cost_29 : decode cX8_cost 29 = .ok (.getfield 170, 3) := by decide +kernel
theorem dX8_cost_32 : decode cX8_cost 32 = .ok (.iload_n 1, 1) := by decide +kernel
theorem dX8_cost_33 : decode cX8_cost 33 = .ok (.iaload, 1) := by decide +kernel
theorem dX8_cost_34 : decode cX8_cost 34 = .ok (.istore_n 3, 1) := by decide +kernel
theorem dX8_cost_35 : decode cX8_cost 35 = .ok (.aload_n 0, 1) := by decide +kernel
theorem dX8_cost_36 : decode cX8_cost 36 = .ok (.getfield 37, 3) := by decide +kernel
theorem dX8_cost_39 : decode cX8_cost 39 = .ok (.iconst 1, 1) := by decide +kernel
theorem dX8_cost_40 : decode cX8_cost 40 = .ok (.iload_n 1, 1) := by decide +kernel
theorem dX8_cost_41 : decode cX8_cost 41 = .ok (.iload_n 3, 1) := by decide +kernel
theorem dX8_cost_42 : decode cX8_cost 42 = .ok (.invokevirtual 161, 3) := by decide +kernel
theorem dX8_cost_45 : decode cX8_cost 45 = .ok (.aload_n 0, 1) := by decide +kernel
theorem dX8_cost_46 : decode cX8_cost 46 = .ok (.iconst 1, 1) := by decide +kernel
theorem dX8_cost_47 : decode cX8_cost 47 = .ok (.iload_n 1, 1) := by decide +kernel
theorem dX8_cost_48 : decode cX8_cost 48 = .ok (.iload_n 2, 1) := by decide +kernel
theorem dX8_cost_49 : decode cX8_cost 49 = .ok (.invokevirtual 164, 3) := by decide +kernel
theorem dX8_cost_52 : decode cX8_cost 52 = .ok (.iload_n 3, 1) := by decide +kernel
theorem dX8_cost_53 : decode cX8_cost 53 = .ok (.ireturn, 1) := by decide +kernel
theorem dX8_above_0 : decode cX8_above 0 = .ok (.aload_n 0, 1) := by decide +kernel
theorem dX8_above_1 : decode cX8_above 1 = .ok (.getfield 10, 3) := by decide +kernel
theorem dX8_above_4 : decode cX8_above 4 = .ok (.iload_n 1, 1) := by decide +kernel
theorem dX8_above_5 : decode cX8_above 5 = .ok (.invokevirtual 173, 3) := by decide +kernel
theorem dX8_above_8 : decode cX8_above 8 = .ok (.ifCond .eq 12, 3) := by decide +kernel
theorem dX8_above_11 : decode cX8_above 11 = .ok (.iload_n 2, 1) := by decide +kernel
theorem dX8_above_12 : decode cX8_above 12 = .ok (.ifCond .lt 8, 3) := by decide +kernel
theorem dX8_above_15 : decode cX8_above 15 = .ok (.iload_n 2, 1) := by decide +kernel
theorem dX8_above_16 : decode cX8_above 16 = .ok (.iload_n 1, 1) := by decide +kernel
theorem dX8_above_17 : decode cX8_above 17 = .ok (.if_icmp .le 6, 3) := by decide +kernel
theorem dX8_above_20 : decode cX8_above 20 = .ok (.ldc 80, 2) := by decide +kernel
theorem dX8_above_22 : decode cX8_above 22 = .ok (.ireturn, 1) := by decide +kernel
theorem dX8_above_23 : decode cX8_above 23 = .ok (.aload_n 0, 1) := by decide +kernel
theorem dX8_above_24 : decode cX8_above 24 = .ok (.getfield 10, 3) := by decide +kernel
theorem dX8_above_27 : decode cX8_above 27 = .ok (.getfield 176, 3) := by decide +kernel
theorem dX8_above_30 : decode cX8_above 30 = .ok (.iload_n 1, 1) := by decide +kernel
theorem dX8_above_31 : decode cX8_above 31 = .ok (.iaload, 1) := by decide +kernel
theorem dX8_above_32 : decode cX8_above 32 = .ok (.istore_n 3, 1) := by decide +kernel
theorem dX8_above_33 : decode cX8_above 33 = .ok (.aload_n 0, 1) := by decide +kernel
theorem dX8_above_34 : decode cX8_above 34 = .ok (.getfield 37, 3) := by decide +kernel
theorem dX8_above_37 : decode cX8_above 37 = .ok (.iconst 2, 1) := by decide +kernel
theorem dX8_above_38 : decode cX8_above 38 = .ok (.iload_n 1, 1) := by decide +kernel
theorem dX8_above_39 : decode cX8_above 39 = .ok (.iload_n 3, 1) := by decide +kernel
theorem dX8_above_40 : decode cX8_above 40 = .ok (.invokevirtual 161, 3) := by decide +kernel
theorem dX8_above_43 : decode cX8_above 43 = .ok (.aload_n 0, 1) := by decide +kernel
theorem dX8_above_44 : decode cX8_above 44 = .ok (.iconst 2, 1) := by decide +kernel
theorem dX8_above_45 : decode cX8_above 45 = .ok (.iload_n 1, 1) := by decide +kernel
theorem dX8_above_46 : decode cX8_above 46 = .ok (.iload_n 2, 1) := by decide +kernel
theorem dX8_above_47 : decode cX8_above 47 = .ok (.invokevirtual 164, 3) := by decide +kernel
theorem dX8_above_50 : decode cX8_above 50 = .ok (.iload_n 3, 1) := by decide +kernel
theorem dX8_above_51 : decode cX8_above 51 = .ok (.ireturn, 1) := by decide +kernel
theorem dX8_undo_0 : decode cX8_undo 0 = .ok (.aload_n 0, 1) := by decide +kernel
theorem dX8_undo_1 : decode cX8_undo 1 = .ok (.getfield 37, 3) := by decide +kernel
theorem dX8_undo_4 : decode cX8_undo 4 = .ok (.getfield 179, 3) := by decide +kernel
theorem dX8_undo_7 : decode cX8_undo 7 = .ok (.ifCond .ne 6, 3) := by decide +kernel
theorem dX8_undo_10 : decode cX8_undo 10 = .ok (.ldc 160, 2) := by decide +kernel
theorem dX8_undo_12 : decode cX8_undo 12 = .ok (.ireturn, 1) := by decide +kernel
theorem dX8_undo_13 : decode cX8_undo 13 = .ok (.aload_n 0, 1) := by decide +kernel
theorem dX8_undo_14 : decode cX8_undo 14 = .ok (.getfield 37, 3) := by decide +kernel
theorem dX8_undo_17 : decode cX8_undo 17 = .ok (.dup, 1) := by decide +kernel
theorem dX8_undo_18 : decode cX8_undo 18 = .ok (.getfield 179, 3) := by decide +kernel
theorem dX8_undo_21 : decode cX8_undo 21 = .ok (.iconst 1, 1) := by decide +kernel
theorem dX8_undo_22 : decode cX8_undo 22 = .ok (.isub, 1) := by decide +kernel
theorem dX8_undo_23 : decode cX8_undo 23 = .ok (.putfield 179, 3) := by decide +kernel
theorem dX8_undo_26 : decode cX8_undo 26 = .ok (.aload_n 0, 1) := by decide +kernel
theorem dX8_undo_27 : decode cX8_undo 27 = .ok (.getfield 37, 3) := by decide +kernel
theorem dX8_undo_30 : decode cX8_undo 30 = .ok (.getfield 179, 3) := by decide +kernel
theorem dX8_undo_33 : decode cX8_undo 33 = .ok (.istore_n 1, 1) := by decide +kernel
theorem dX8_undo_34 : decode cX8_undo 34 = .ok (.aload_n 0, 1) := by decide +kernel
theorem dX8_undo_35 : decode cX8_undo 35 = .ok (.aload_n 0, 1) := by decide +kernel
theorem dX8_undo_36 : decode cX8_undo 36 = .ok (.getfield 37, 3) := by decide +kernel
theorem dX8_undo_39 : decode cX8_undo 39 = .ok (.getfield 182, 3) := by decide +kernel
theorem dX8_undo_42 : decode cX8_undo 42 = .ok (.iload_n 1, 1) := by decide +kernel
theorem dX8_undo_43 : decode cX8_undo 43 = .ok (.iaload, 1) := by decide +kernel
theorem dX8_undo_44 : decode cX8_undo 44 = .ok (.aload_n 0, 1) := by decide +kernel
theorem dX8_undo_45 : decode cX8_undo 45 = .ok (.getfield 37, 3) := by decide +kernel
theorem dX8_undo_48 : decode cX8_undo 48 = .ok (.getfield 185, 3) := by decide +kernel
theorem dX8_undo_51 : decode cX8_undo 51 = .ok (.iload_n 1, 1) := by decide +kernel
theorem dX8_undo_52 : decode cX8_undo 52 = .ok (.iaload, 1) := by decide +kernel
theorem dX8_undo_53 : decode cX8_undo 53 = .ok (.aload_n 0, 1) := by decide +kernel
theorem dX8_undo_54 : decode cX8_undo 54 = .ok (.getfield 37, 3) := by decide +kernel
theorem dX8_undo_57 : decode cX8_undo 57 = .ok (.getfield 188, 3) := by decide +kernel
theorem dX8_undo_60 : decode cX8_undo 60 = .ok (.iload_n 1, 1) := by decide +kernel
theorem dX8_undo_61 : decode cX8_undo 61 = .ok (.iaload, 1) := by decide +kernel
theorem dX8_undo_62 : decode cX8_undo 62 = .ok (.invokevirtual 164, 3) := by decide +kernel
theorem dX8_undo_65 : decode cX8_undo 65 = .ok (.iload_n 1, 1) := by decide +kernel
theorem dX8_undo_66 : decode cX8_undo 66 = .ok (.ireturn, 1) := by decide +kernel
theorem dX8_member_0 : decode cX8_member 0 = .ok (.aload_n 0, 1) := by decide +kernel
theorem dX8_member_1 : decode cX8_member 1 = .ok (.getfield 10, 3) := by decide +kernel
theorem dX8_member_4 : decode cX8_member 4 = .ok (.iload_n 1, 1) := by decide +kernel
theorem dX8_member_5 : decode cX8_member 5 = .ok (.invokevirtual 154, 3) := by decide +kernel
theorem dX8_member_8 : decode cX8_member 8 = .ok (.ifCond .ne 6, 3) := by decide +kernel
theorem dX8_member_11 : decode cX8_member 11 = .ok (.ldc 80, 2) := by decide +kernel
theorem dX8_member_13 : decode cX8_member 13 = .ok (.ireturn, 1) := by decide +kernel
theorem dX8_member_14 : decode cX8_member 14 = .ok (.iload_n 2, 1) := by decide +kernel
theorem dX8_member_15 : decode cX8_member 15 = .ok (.tableswitch 152 0 6 #[41, 51, 61, 70, 80, 107, 135], 41) := by decide +kernel
theorem dX8_member_56 : decode cX8_member 56 = .ok (.aload_n 0, 1) := by decide +kernel
theorem dX8_member_57 : decode cX8_member 57 = .ok (.getfield 10, 3) := by decide +kernel
theorem dX8_member_60 : decode cX8_member 60 = .ok (.getfield 191, 3) := by decide +kernel
theorem dX8_member_63 : decode cX8_member 63 = .ok (.iload_n 1, 1) := by decide +kernel
theorem dX8_member_64 : decode cX8_member 64 = .ok (.iaload, 1) := by decide +kernel
theorem dX8_member_65 : decode cX8_member 65 = .ok (.ireturn, 1) := by decide +kernel
theorem dX8_member_66 : decode cX8_member 66 = .ok (.aload_n 0, 1) := by decide +kernel
theorem dX8_member_67 : decode cX8_member 67 = .ok (.getfield 10, 3) := by decide +kernel
theorem dX8_member_70 : decode cX8_member 70 = .ok (.getfield 170, 3) := by decide +kernel
theorem dX8_member_73 : decode cX8_member 73 = .ok (.iload_n 1, 1) := by decide +kernel
theorem dX8_member_74 : decode cX8_member 74 = .ok (.iaload, 1) := by decide +kernel
theorem dX8_member_75 : decode cX8_member 75 = .ok (.ireturn, 1) := by decide +kernel
theorem dX8_member_76 : decode cX8_member 76 = .ok (.aload_n 0, 1) := by decide +kernel
theorem dX8_member_77 : decode cX8_member 77 = .ok (.getfield 10, 3) := by decide +kernel
theorem dX8_member_80 : decode cX8_member 80 = .ok (.iload_n 1, 1) := by decide +kernel
theorem dX8_member_81 : decode cX8_member 81 = .ok (.invokevirtual 194, 3) := by decide +kernel
theorem dX8_member_84 : decode cX8_member 84 = .ok (.ireturn, 1) := by decide +kernel
theorem dX8_member_85 : decode cX8_member 85 = .ok (.aload_n 0, 1) := by decide +kernel
theorem dX8_member_86 : decode cX8_member 86 = .ok (.getfield 10, 3) := by decide +kernel
theorem dX8_member_89 : decode cX8_member 89 = .ok (.getfield 197, 3) := by decide +kernel
theorem dX8_member_92 : decode cX8_member 92 = .ok (.iload_n 1, 1) := by decide +kernel
theorem dX8_member_93 : decode cX8_member 93 = .ok (.iaload, 1) := by decide +kernel
theorem dX8_member_94 : decode cX8_member 94 = .ok (.ireturn, 1) := by decide +kernel
theorem dX8_member_95 : decode cX8_member 95 = .ok (.aload_n 0, 1) := by decide +kernel
theorem dX8_member_96 : decode cX8_member 96 = .ok (.getfield 10, 3) := by decide +kernel
theorem dX8_member_99 : decode cX8_member 99 = .ok (.getfield 197, 3) := by decide +kernel
theorem dX8_member_102 : decode cX8_member 102 = .ok (.iload_n 1, 1) := by decide +kernel
theorem dX8_member_103 : decode cX8_member 103 = .ok (.iaload, 1) := by decide +kernel
theorem dX8_member_104 : decode cX8_member 104 = .ok (.ifCond .le 15, 3) := by decide +kernel
theorem dX8_member_107 : decode cX8_member 107 = .ok (.aload_n 0, 1) := by decide +kernel
theorem dX8_member_108 : decode cX8_member 108 = .ok (.getfield 10, 3) := by decide +kernel
theorem dX8_member_111 : decode cX8_member 111 = .ok (.getfield 200, 3) := by decide +kernel
theorem dX8_member_114 : decode cX8_member 114 = .ok (.iload_n 1, 1) := by decide +kernel
theorem dX8_member_115 : decode cX8_member 115 = .ok (.iaload, 1) := by decide +kernel
theorem dX8_member_116 : decode cX8_member 116 = .ok (.goto 5, 3) := by decide +kernel
theorem dX8_member_119 : decode cX8_member 119 = .ok (.ldc 203, 2) := by decide +kernel
theorem dX8_member_121 : decode cX8_member 121 = .ok (.ireturn, 1) := by decide +kernel
theorem dX8_member_122 : decode cX8_member 122 = .ok (.aload_n 0, 1) := by decide +kernel
theorem dX8_member_123 : decode cX8_member 123 = .ok (.getfield 10, 3) := by decide +kernel
theorem dX8_member_126 : decode cX8_member 126 = .ok (.getfield 197, 3) := by decide +kernel
theorem dX8_member_129 : decode cX8_member 129 = .ok (.iload_n 1, 1) := by decide +kernel
theorem dX8_member_130 : decode cX8_member 130 = .ok (.iaload, 1) := by decide +kernel
theorem dX8_member_131 : decode cX8_member 131 = .ok (.iconst 1, 1) := by decide +kernel
theorem dX8_member_132 : decode cX8_member 132 = .ok (.if_icmp .le 15, 3) := by decide +kernel
theorem dX8_member_135 : decode cX8_member 135 = .ok (.aload_n 0, 1) := by decide +kernel
theorem dX8_member_136 : decode cX8_member 136 = .ok (.getfield 10, 3) := by decide +kernel
theorem dX8_member_139 : decode cX8_member 139 = .ok (.getfield 204, 3) := by decide +kernel
theorem dX8_member_142 : decode cX8_member 142 = .ok (.iload_n 1, 1) := by decide +kernel
theorem dX8_member_143 : decode cX8_member 143 = .ok (.iaload, 1) := by decide +kernel
theorem dX8_member_144 : decode cX8_member 144 = .ok (.goto 5, 3) := by decide +kernel
theorem dX8_member_147 : decode cX8_member 147 = .ok (.ldc 203, 2) := by decide +kernel
theorem dX8_member_149 : decode cX8_member 149 = .ok (.ireturn, 1) := by decide +kernel
theorem dX8_member_150 : decode cX8_member 150 = .ok (.aload_n 0, 1) := by decide +kernel
theorem dX8_member_151 : decode cX8_member 151 = .ok (.getfield 10, 3) := by decide +kernel
theorem dX8_member_154 : decode cX8_member 154 = .ok (.iload_n 1, 1) := by decide +kernel
theorem dX8_member_155 : decode cX8_member 155 = .ok (.invokevirtual 157, 3) := by decide +kernel
theorem dX8_member_158 : decode cX8_member 158 = .ok (.ifCond .eq 7, 3) := by decide +kernel
theorem dX8_member_161 : decode cX8_member 161 = .ok (.iconst 1, 1) := by decide +kernel
theorem dX8_member_162 : decode cX8_member 162 = .ok (.goto 4, 3) := by decide +kernel
theorem dX8_member_165 : decode cX8_member 165 = .ok (.iconst 0, 1) := by decide +kernel
theorem dX8_member_166 : decode cX8_member 166 = .ok (.ireturn, 1) := by decide +kernel
theorem dX8_member_167 : decode cX8_member 167 = .ok (.ldc 80, 2) := by decide +kernel
theorem dX8_member_169 : decode cX8_member 169 = .ok (.ireturn, 1) := by decide +kernel
theorem dX8_type_0 : decode cX8_type 0 = .ok (.aload_n 0, 1) := by decide +kernel
theorem dX8_type_1 : decode cX8_type 1 = .ok (.getfield 10, 3) := by decide +kernel
theorem dX8_type_4 : decode cX8_type 4 = .ok (.iload_n 1, 1) := by decide +kernel
theorem dX8_type_5 : decode cX8_type 5 = .ok (.invokevirtual 173, 3) := by decide +kernel
theorem dX8_type_8 : decode cX8_type 8 = .ok (.ifCond .ne 6, 3) := by decide +kernel
theorem dX8_type_11 : decode cX8_type 11 = .ok (.ldc 80, 2) := by decide +kernel
theorem dX8_type_13 : decode cX8_type 13 = .ok (.ireturn, 1) := by decide +kernel
theorem dX8_type_14 : decode cX8_type 14 = .ok (.iload_n 2, 1) := by decide +kernel
theorem dX8_type_15 : decode cX8_type 15 = .ok (.tableswitch 67 0 3 #[29, 39, 49, 58], 29) := by decide +kernel
theorem dX8_type_44 : decode cX8_type 44 = .ok (.aload_n 0, 1) := by decide +kernel
theorem dX8_type_45 : decode cX8_type 45 = .ok (.getfield 10, 3) := by decide +kernel
theorem dX8_type_48 : decode cX8_type 48 = .ok (.getfield 176, 3) := by decide +kernel
theorem dX8_type_51 : decode cX8_type 51 = .ok (.iload_n 1, 1) := by decide +kernel
theorem dX8_type_52 : decode cX8_type 52 = .ok (.iaload, 1) := by decide +kernel
theorem dX8_type_53 : decode cX8_type 53 = .ok (.ireturn, 1) := by decide +kernel
theorem dX8_type_54 : decode cX8_type 54 = .ok (.aload_n 0, 1) := by decide +kernel
theorem dX8_type_55 : decode cX8_type 55 = .ok (.getfield 10, 3) := by decide +kernel
theorem dX8_type_58 : decode cX8_type 58 = .ok (.getfield 207, 3) := by decide +kernel
theorem dX8_type_61 : decode cX8_type 61 = .ok (.iload_n 1, 1) := by decide +kernel
theorem dX8_type_62 : decode cX8_type 62 = .ok (.iaload, 1) := by decide +kernel
theorem dX8_type_63 : decode cX8_type 63 = .ok (.ireturn, 1) := by decide +kernel
theorem dX8_type_64 : decode cX8_type 64 = .ok (.aload_n 0, 1) := by decide +kernel
theorem dX8_type_65 : decode cX8_type 65 = .ok (.getfield 10, 3) := by decide +kernel
theorem dX8_type_68 : decode cX8_type 68 = .ok (.iload_n 1, 1) := by decide +kernel
theorem dX8_type_69 : decode cX8_type 69 = .ok (.invokevirtual 210, 3) := by decide +kernel
theorem dX8_type_72 : decode cX8_type 72 = .ok (.ireturn, 1) := by decide +kernel
theorem dX8_type_73 : decode cX8_type 73 = .ok (.aload_n 0, 1) := by decide +kernel
theorem dX8_type_74 : decode cX8_type 74 = .ok (.getfield 10, 3) := by decide +kernel
theorem dX8_type_77 : decode cX8_type 77 = .ok (.iload_n 1, 1) := by decide +kernel
theorem dX8_type_78 : decode cX8_type 78 = .ok (.invokevirtual 213, 3) := by decide +kernel
theorem dX8_type_81 : decode cX8_type 81 = .ok (.ireturn, 1) := by decide +kernel
theorem dX8_type_82 : decode cX8_type 82 = .ok (.ldc 80, 2) := by decide +kernel
theorem dX8_type_84 : decode cX8_type 84 = .ok (.ireturn, 1) := by decide +kernel
theorem dX8_many_0 : decode cX8_many 0 = .ok (.aload_n 0, 1) := by decide +kernel
theorem dX8_many_1 : decode cX8_many 1 = .ok (.getfield 10, 3) := by decide +kernel
theorem dX8_many_4 : decode cX8_many 4 = .ok (.iload_n 1, 1) := by decide +kernel
theorem dX8_many_5 : decode cX8_many 5 = .ok (.invokevirtual 173, 3) := by decide +kernel
theorem dX8_many_8 : decode cX8_many 8 = .ok (.ifCond .eq 14, 3) := by decide +kernel
theorem dX8_many_11 : decode cX8_many 11 = .ok (.iload_n 2, 1) := by decide +kernel
theorem dX8_many_12 : decode cX8_many 12 = .ok (.iconst 1, 1) := by decide +kernel
theorem dX8_many_13 : decode cX8_many 13 = .ok (.if_icmp .lt 9, 3) := by decide +kernel
theorem dX8_many_16 : decode cX8_many 16 = .ok (.iload_n 2, 1) := by decide +kernel
theorem dX8_many_17 : decode cX8_many 17 = .ok (.bipush 24, 2) := by decide +kernel
theorem dX8_many_19 : decode cX8_many 19 = .ok (.if_icmp .le 6, 3) := by decide +kernel
theorem dX8_many_22 : decode cX8_many 22 = .ok (.ldc 80, 2) := by decide +kernel
theorem dX8_many_24 : decode cX8_many 24 = .ok (.ireturn, 1) := by decide +kernel
theorem dX8_many_25 : decode cX8_many 25 = .ok (.aload_n 0, 1) := by decide +kernel
theorem dX8_many_26 : decode cX8_many 26 = .ok (.getfield 53, 3) := by decide +kernel
theorem dX8_many_29 : decode cX8_many 29 = .ok (.iload_n 1, 1) := by decide +kernel
theorem dX8_many_30 : decode cX8_many 30 = .ok (.iload_n 2, 1) := by decide +kernel
theorem dX8_many_31 : decode cX8_many 31 = .ok (.invokevirtual 216, 3) := by decide +kernel
theorem dX8_many_34 : decode cX8_many 34 = .ok (.ireturn, 1) := by decide +kernel
theorem dX8_cheapest_0 : decode cX8_cheapest 0 = .ok (.aload_n 0, 1) := by decide +kernel
theorem dX8_cheapest_1 : decode cX8_cheapest 1 = .ok (.getfield 10, 3) := by decide +kernel
theorem dX8_cheapest_4 : decode cX8_cheapest 4 = .ok (.iload_n 1, 1) := by decide +kernel
theorem dX8_cheapest_5 : decode cX8_cheapest 5 = .ok (.invokevirtual 173, 3) := by decide +kernel
theorem dX8_cheapest_8 : decode cX8_cheapest 8 = .ok (.ifCond .ne 6, 3) := by decide +kernel
theorem dX8_cheapest_11 : decode cX8_cheapest 11 = .ok (.ldc 80, 2) := by decide +kernel
theorem dX8_cheapest_13 : decode cX8_cheapest 13 = .ok (.ireturn, 1) := by decide +kernel
theorem dX8_cheapest_14 : decode cX8_cheapest 14 = .ok (.aload_n 0, 1) := by decide +kernel
theorem dX8_cheapest_15 : decode cX8_cheapest 15 = .ok (.getfield 46, 3) := by decide +kernel
theorem dX8_cheapest_18 : decode cX8_cheapest 18 = .ok (.iload_n 1, 1) := by decide +kernel
theorem dX8_cheapest_19 : decode cX8_cheapest 19 = .ok (.aload_n 0, 1) := by decide +kernel
theorem dX8_cheapest_20 : decode cX8_cheapest 20 = .ok (.getfield 10, 3) := by decide +kernel
theorem dX8_cheapest_23 : decode cX8_cheapest 23 = .ok (.getfield 167, 3) := by decide +kernel
theorem dX8_cheapest_26 : decode cX8_cheapest 26 = .ok (.invokevirtual 220, 3) := by decide +kernel
theorem dX8_cheapest_29 : decode cX8_cheapest 29 = .ok (.ireturn, 1) := by decide +kernel
theorem dX8_listed_0 : decode cX8_listed 0 = .ok (.aload_n 0, 1) := by decide +kernel
theorem dX8_listed_1 : decode cX8_listed 1 = .ok (.getfield 10, 3) := by decide +kernel
theorem dX8_listed_4 : decode cX8_listed 4 = .ok (.iload_n 1, 1) := by decide +kernel
theorem dX8_listed_5 : decode cX8_listed 5 = .ok (.invokevirtual 173, 3) := by decide +kernel
theorem dX8_listed_8 : decode cX8_listed 8 = .ok (.ifCond .eq 18, 3) := by decide +kernel
theorem dX8_listed_11 : decode cX8_listed 11 = .ok (.iload_n 2, 1) := by decide +kernel
theorem dX8_listed_12 : decode cX8_listed 12 = .ok (.ifCond .lt 14, 3) := by decide +kernel
theorem dX8_listed_15 : decode cX8_listed 15 = .ok (.iload_n 2, 1) := by decide +kernel
theorem dX8_listed_16 : decode cX8_listed 16 = .ok (.ldc 223, 2) := by decide +kernel
theorem dX8_listed_18 : decode cX8_listed 18 = .ok (.if_icmp .ge 8, 3) := by decide +kernel
theorem dX8_listed_21 : decode cX8_listed 21 = .ok (.iload_n 3, 1) := by decide +kernel
theorem dX8_listed_22 : decode cX8_listed 22 = .ok (.iconst (-1), 1) := by decide +kernel
theorem dX8_listed_23 : decode cX8_listed 23 = .ok (.if_icmp .ge 6, 3) := by decide +kernel
theorem dX8_listed_26 : decode cX8_listed 26 = .ok (.ldc 80, 2) := by decide +kernel
theorem dX8_listed_28 : decode cX8_listed 28 = .ok (.ireturn, 1) := by decide +kernel
theorem dX8_listed_29 : decode cX8_listed 29 = .ok (.aload_n 0, 1) := by decide +kernel
theorem dX8_listed_30 : decode cX8_listed 30 = .ok (.getfield 53, 3) := by decide +kernel
theorem dX8_listed_33 : decode cX8_listed 33 = .ok (.iload_n 1, 1) := by decide +kernel
theorem dX8_listed_34 : decode cX8_listed 34 = .ok (.iload_n 2, 1) := by decide +kernel
theorem dX8_listed_35 : decode cX8_listed 35 = .ok (.invokevirtual 224, 3) := by decide +kernel
theorem dX8_listed_38 : decode cX8_listed 38 = .ok (.istore 4, 2) := by decide +kernel
theorem dX8_listed_40 : decode cX8_listed 40 = .ok (.iload 4, 2) := by decide +kernel
theorem dX8_listed_42 : decode cX8_listed 42 = .ok (.ldc 203, 2) := by decide +kernel
theorem dX8_listed_44 : decode cX8_listed 44 = .ok (.if_icmp .eq 8, 3) := by decide +kernel
theorem dX8_listed_47 : decode cX8_listed 47 = .ok (.iload_n 3, 1) := by decide +kernel
theorem dX8_listed_48 : decode cX8_listed 48 = .ok (.iconst (-1), 1) := by decide +kernel
theorem dX8_listed_49 : decode cX8_listed 49 = .ok (.if_icmp .ne 6, 3) := by decide +kernel
theorem dX8_listed_52 : decode cX8_listed 52 = .ok (.iload 4, 2) := by decide +kernel
theorem dX8_listed_54 : decode cX8_listed 54 = .ok (.ireturn, 1) := by decide +kernel
theorem dX8_listed_55 : decode cX8_listed 55 = .ok (.aload_n 0, 1) := by decide +kernel
theorem dX8_listed_56 : decode cX8_listed 56 = .ok (.getfield 53, 3) := by decide +kernel
theorem dX8_listed_59 : decode cX8_listed 59 = .ok (.iload_n 1, 1) := by decide +kernel
theorem dX8_listed_60 : decode cX8_listed 60 = .ok (.iload 4, 2) := by decide +kernel
theorem dX8_listed_62 : decode cX8_listed 62 = .ok (.invokevirtual 227, 3) := by decide +kernel
theorem dX8_listed_65 : decode cX8_listed 65 = .ok (.istore 5, 2) := by decide +kernel
theorem dX8_listed_67 : decode cX8_listed 67 = .ok (.iload_n 3, 1) := by decide +kernel
theorem dX8_listed_68 : decode cX8_listed 68 = .ok (.iload 5, 2) := by decide +kernel
theorem dX8_listed_70 : decode cX8_listed 70 = .ok (.if_icmp .ge 15, 3) := by decide +kernel
theorem dX8_listed_73 : decode cX8_listed 73 = .ok (.aload_n 0, 1) := by decide +kernel
theorem dX8_listed_74 : decode cX8_listed 74 = .ok (.getfield 53, 3) := by decide +kernel
theorem dX8_listed_77 : decode cX8_listed 77 = .ok (.getfield 230, 3) := by decide +kernel
theorem dX8_listed_80 : decode cX8_listed 80 = .ok (.iload_n 3, 1) := by decide +kernel
theorem dX8_listed_81 : decode cX8_listed 81 = .ok (.iaload, 1) := by decide +kernel
theorem dX8_listed_82 : decode cX8_listed 82 = .ok (.goto 5, 3) := by decide +kernel
theorem dX8_listed_85 : decode cX8_listed 85 = .ok (.ldc 203, 2) := by decide +kernel
theorem dX8_listed_87 : decode cX8_listed 87 = .ok (.ireturn, 1) := by decide +kernel
theorem dX8_word_0 : decode cX8_word 0 = .ok (.iload_n 1, 1) := by decide +kernel
theorem dX8_word_1 : decode cX8_word 1 = .ok (.invokestatic 73, 3) := by decide +kernel
theorem dX8_word_4 : decode cX8_word 4 = .ok (.ifCond .eq 21, 3) := by decide +kernel
theorem dX8_word_7 : decode cX8_word 7 = .ok (.iload_n 3, 1) := by decide +kernel
theorem dX8_word_8 : decode cX8_word 8 = .ok (.invokestatic 233, 3) := by decide +kernel
theorem dX8_word_11 : decode cX8_word 11 = .ok (.ifCond .eq 14, 3) := by decide +kernel
theorem dX8_word_14 : decode cX8_word 14 = .ok (.iload 4, 2) := by decide +kernel
theorem dX8_word_16 : decode cX8_word 16 = .ok (.ifCond .lt 9, 3) := by decide +kernel
theorem dX8_word_19 : decode cX8_word 19 = .ok (.iload 4, 2) := by decide +kernel
theorem dX8_word_21 : decode cX8_word 21 = .ok (.iconst 1, 1) := by decide +kernel
theorem dX8_word_22 : decode cX8_word 22 = .ok (.if_icmp .le 6, 3) := by decide +kernel
theorem dX8_word_25 : decode cX8_word 25 = .ok (.ldc 80, 2) := by decide +kernel
theorem dX8_word_27 : decode cX8_word 27 = .ok (.ireturn, 1) := by decide +kernel
theorem dX8_word_28 : decode cX8_word 28 = .ok (.aload_n 0, 1) := by decide +kernel
theorem dX8_word_29 : decode cX8_word 29 = .ok (.getfield 10, 3) := by decide +kernel
theorem dX8_word_32 : decode cX8_word 32 = .ok (.getfield 236, 3) := by decide +kernel
theorem dX8_word_35 : decode cX8_word 35 = .ok (.ifCond .ne 6, 3) := by decide +kernel
theorem dX8_word_38 : decode cX8_word 38 = .ok (.ldc 160, 2) := by decide +kernel
theorem dX8_word_40 : decode cX8_word 40 = .ok (.ireturn, 1) := by decide +kernel
theorem dX8_word_41 : decode cX8_word 41 = .ok (.aload_n 0, 1) := by decide +kernel
theorem dX8_word_42 : decode cX8_word 42 = .ok (.getfield 62, 3) := by decide +kernel
theorem dX8_word_45 : decode cX8_word 45 = .ok (.iload_n 1, 1) := by decide +kernel
theorem dX8_word_46 : decode cX8_word 46 = .ok (.iload_n 2, 1) := by decide +kernel
theorem dX8_word_47 : decode cX8_word 47 = .ok (.iload_n 3, 1) := by decide +kernel
theorem dX8_word_48 : decode cX8_word 48 = .ok (.invokevirtual 239, 3) := by decide +kernel
theorem dX8_word_51 : decode cX8_word 51 = .ok (.istore 5, 2) := by decide +kernel
theorem dX8_word_53 : decode cX8_word 53 = .ok (.iload 5, 2) := by decide +kernel
theorem dX8_word_55 : decode cX8_word 55 = .ok (.ifCond .eq 10, 3) := by decide +kernel
theorem dX8_word_58 : decode cX8_word 58 = .ok (.aload_n 0, 1) := by decide +kernel
theorem dX8_word_59 : decode cX8_word 59 = .ok (.iload 5, 2) := by decide +kernel
theorem dX8_word_61 : decode cX8_word 61 = .ok (.invokevirtual 81, 3) := by decide +kernel
theorem dX8_word_64 : decode cX8_word 64 = .ok (.ireturn, 1) := by decide +kernel
theorem dX8_word_65 : decode cX8_word 65 = .ok (.aload_n 0, 1) := by decide +kernel
theorem dX8_word_66 : decode cX8_word 66 = .ok (.getfield 62, 3) := by decide +kernel
theorem dX8_word_69 : decode cX8_word 69 = .ok (.invokevirtual 242, 3) := by decide +kernel
theorem dX8_word_72 : decode cX8_word 72 = .ok (.ifCond .ne 10, 3) := by decide +kernel
theorem dX8_word_75 : decode cX8_word 75 = .ok (.aload_n 0, 1) := by decide +kernel
theorem dX8_word_76 : decode cX8_word 76 = .ok (.ldc 203, 2) := by decide +kernel
theorem dX8_word_78 : decode cX8_word 78 = .ok (.invokevirtual 89, 3) := by decide +kernel
theorem dX8_word_81 : decode cX8_word 81 = .ok (.ireturn, 1) := by decide +kernel
theorem dX8_word_82 : decode cX8_word 82 = .ok (.aload_n 0, 1) := by decide +kernel
theorem dX8_word_83 : decode cX8_word 83 = .ok (.iload 4, 2) := by decide +kernel
theorem dX8_word_85 : decode cX8_word 85 = .ok (.ifCond .ne 13, 3) := by decide +kernel
theorem dX8_word_88 : decode cX8_word 88 = .ok (.aload_n 0, 1) := by decide +kernel
theorem dX8_word_89 : decode cX8_word 89 = .ok (.getfield 62, 3) := by decide +kernel
theorem dX8_word_92 : decode cX8_word 92 = .ok (.invokevirtual 245, 3) := by decide +kernel
theorem dX8_word_95 : decode cX8_word 95 = .ok (.goto 10, 3) := by decide +kernel
theorem dX8_word_98 : decode cX8_word 98 = .ok (.aload_n 0, 1) := by decide +kernel
theorem dX8_word_99 : decode cX8_word 99 = .ok (.getfield 62, 3) := by decide +kernel
theorem dX8_word_102 : decode cX8_word 102 = .ok (.invokevirtual 249, 3) := by decide +kernel
theorem dX8_word_105 : decode cX8_word 105 = .ok (.invokevirtual 89, 3) := by decide +kernel
theorem dX8_word_108 : decode cX8_word 108 = .ok (.ireturn, 1) := by decide +kernel
theorem dX8_place_0 : decode cX8_place 0 = .ok (.aload_n 0, 1) := by decide +kernel
theorem dX8_place_1 : decode cX8_place 1 = .ok (.getfield 10, 3) := by decide +kernel
theorem dX8_place_4 : decode cX8_place 4 = .ok (.iload_n 1, 1) := by decide +kernel
theorem dX8_place_5 : decode cX8_place 5 = .ok (.invokevirtual 173, 3) := by decide +kernel
theorem dX8_place_8 : decode cX8_place 8 = .ok (.ifCond .eq 17, 3) := by decide +kernel
theorem dX8_place_11 : decode cX8_place 11 = .ok (.iload_n 2, 1) := by decide +kernel
theorem dX8_place_12 : decode cX8_place 12 = .ok (.invokestatic 73, 3) := by decide +kernel
theorem dX8_place_15 : decode cX8_place 15 = .ok (.ifCond .eq 10, 3) := by decide +kernel
theorem dX8_place_18 : decode cX8_place 18 = .ok (.iload_n 3, 1) := by decide +kernel
theorem dX8_place_19 : decode cX8_place 19 = .ok (.invokestatic 233, 3) := by decide +kernel
theorem dX8_place_22 : decode cX8_place 22 = .ok (.ifCond .ne 6, 3) := by decide +kernel
theorem dX8_place_25 : decode cX8_place 25 = .ok (.ldc 80, 2) := by decide +kernel
theorem dX8_place_27 : decode cX8_place 27 = .ok (.ireturn, 1) := by decide +kernel
theorem dX8_place_28 : decode cX8_place 28 = .ok (.aload_n 0, 1) := by decide +kernel
theorem dX8_place_29 : decode cX8_place 29 = .ok (.getfield 62, 3) := by decide +kernel
theorem dX8_place_32 : decode cX8_place 32 = .ok (.iload_n 2, 1) := by decide +kernel
theorem dX8_place_33 : decode cX8_place 33 = .ok (.iconst 0, 1) := by decide +kernel
theorem dX8_place_34 : decode cX8_place 34 = .ok (.iload_n 3, 1) := by decide +kernel
theorem dX8_place_35 : decode cX8_place 35 = .ok (.invokevirtual 239, 3) := by decide +kernel
theorem dX8_place_38 : decode cX8_place 38 = .ok (.istore 4, 2) := by decide +kernel
theorem dX8_place_40 : decode cX8_place 40 = .ok (.iload 4, 2) := by decide +kernel
theorem dX8_place_42 : decode cX8_place 42 = .ok (.ifCond .eq 10, 3) := by decide +kernel
theorem dX8_place_45 : decode cX8_place 45 = .ok (.aload_n 0, 1) := by decide +kernel
theorem dX8_place_46 : decode cX8_place 46 = .ok (.iload 4, 2) := by decide +kernel
theorem dX8_place_48 : decode cX8_place 48 = .ok (.invokevirtual 81, 3) := by decide +kernel
theorem dX8_place_51 : decode cX8_place 51 = .ok (.ireturn, 1) := by decide +kernel
theorem dX8_place_52 : decode cX8_place 52 = .ok (.aload_n 0, 1) := by decide +kernel
theorem dX8_place_53 : decode cX8_place 53 = .ok (.getfield 62, 3) := by decide +kernel
theorem dX8_place_56 : decode cX8_place 56 = .ok (.invokevirtual 242, 3) := by decide +kernel
theorem dX8_place_59 : decode cX8_place 59 = .ok (.ifCond .eq 21, 3) := by decide +kernel
theorem dX8_place_62 : decode cX8_place 62 = .ok (.aload_n 0, 1) := by decide +kernel
theorem dX8_place_63 : decode cX8_place 63 = .ok (.getfield 10, 3) := by decide +kernel
theorem dX8_place_66 : decode cX8_place 66 = .ok (.aload_n 0, 1) := by decide +kernel
theorem dX8_place_67 : decode cX8_place 67 = .ok (.getfield 62, 3) := by decide +kernel
theorem dX8_place_70 : decode cX8_place 70 = .ok (.invokevirtual 245, 3) := by decide +kernel
theorem dX8_place_73 : decode cX8_place 73 = .ok (.iload_n 1, 1) := by decide +kernel
theorem dX8_place_74 : decode cX8_place 74 = .ok (.invokevirtual 252, 3) := by decide +kernel
theorem dX8_place_77 : decode cX8_place 77 = .ok (.ifCond .ne 10, 3) := by decide +kernel
theorem dX8_place_80 : decode cX8_place 80 = .ok (.aload_n 0, 1) := by decide +kernel
theorem dX8_place_81 : decode cX8_place 81 = .ok (.ldc 203, 2) := by decide +kernel
theorem dX8_place_83 : decode cX8_place 83 = .ok (.invokevirtual 89, 3) := by decide +kernel
theorem dX8_place_86 : decode cX8_place 86 = .ok (.ireturn, 1) := by decide +kernel
theorem dX8_place_87 : decode cX8_place 87 = .ok (.aload_n 0, 1) := by decide +kernel
theorem dX8_place_88 : decode cX8_place 88 = .ok (.getfield 62, 3) := by decide +kernel
theorem dX8_place_91 : decode cX8_place 91 = .ok (.invokevirtual 249, 3) := by decide +kernel
theorem dX8_place_94 : decode cX8_place 94 = .ok (.istore 5, 2) := by decide +kernel
theorem dX8_place_96 : decode cX8_place 96 = .ok (.iload 5, 2) := by decide +kernel
theorem dX8_place_98 : decode cX8_place 98 = .ok (.bipush 24, 2) := by decide +kernel
theorem dX8_place_100 : decode cX8_place 100 = .ok (.if_icmp .le 10, 3) := by decide +kernel
theorem dX8_place_103 : decode cX8_place 103 = .ok (.aload_n 0, 1) := by decide +kernel
theorem dX8_place_104 : decode cX8_place 104 = .ok (.ldc 203, 2) := by decide +kernel
theorem dX8_place_106 : decode cX8_place 106 = .ok (.invokevirtual 89, 3) := by decide +kernel
theorem dX8_place_109 : decode cX8_place 109 = .ok (.ireturn, 1) := by decide +kernel
theorem dX8_place_110 : decode cX8_place 110 = .ok (.aload_n 0, 1) := by decide +kernel
theorem dX8_place_111 : decode cX8_place 111 = .ok (.aload_n 0, 1) := by decide +kernel
theorem dX8_place_112 : decode cX8_place 112 = .ok (.getfield 53, 3) := by decide +kernel
theorem dX8_place_115 : decode cX8_place 115 = .ok (.iload_n 1, 1) := by decide +kernel
theorem dX8_place_116 : decode cX8_place 116 = .ok (.aload_n 0, 1) := by decide +kernel
theorem dX8_place_117 : decode cX8_place 117 = .ok (.getfield 62, 3) := by decide +kernel
theorem dX8_place_120 : decode cX8_place 120 = .ok (.getfield 256, 3) := by decide +kernel
theorem dX8_place_123 : decode cX8_place 123 = .ok (.iload_n 3, 1) := by decide +kernel
theorem dX8_place_124 : decode cX8_place 124 = .ok (.iload 5, 2) := by decide +kernel
theorem dX8_place_126 : decode cX8_place 126 = .ok (.invokevirtual 257, 3) := by decide +kernel
theorem dX8_place_129 : decode cX8_place 129 = .ok (.invokevirtual 89, 3) := by decide +kernel
theorem dX8_place_132 : decode cX8_place 132 = .ok (.ireturn, 1) := by decide +kernel
theorem dX8_had_0 : decode cX8_had 0 = .ok (.aload_n 0, 1) := by decide +kernel
theorem dX8_had_1 : decode cX8_had 1 = .ok (.getfield 10, 3) := by decide +kernel
theorem dX8_had_4 : decode cX8_had 4 = .ok (.getfield 236, 3) := by decide +kernel
theorem dX8_had_7 : decode cX8_had 7 = .ok (.ifCond .ne 6, 3) := by decide +kernel
theorem dX8_had_10 : decode cX8_had 10 = .ok (.ldc 160, 2) := by decide +kernel
theorem dX8_had_12 : decode cX8_had 12 = .ok (.ireturn, 1) := by decide +kernel
theorem dX8_had_13 : decode cX8_had 13 = .ok (.aload_n 0, 1) := by decide +kernel
theorem dX8_had_14 : decode cX8_had 14 = .ok (.getfield 46, 3) := by decide +kernel
theorem dX8_had_17 : decode cX8_had 17 = .ok (.aload_n 0, 1) := by decide +kernel
theorem dX8_had_18 : decode cX8_had 18 = .ok (.getfield 10, 3) := by decide +kernel
theorem dX8_had_21 : decode cX8_had 21 = .ok (.getfield 167, 3) := by decide +kernel
theorem dX8_had_24 : decode cX8_had 24 = .ok (.invokevirtual 261, 3) := by decide +kernel
theorem dX8_had_27 : decode cX8_had 27 = .ok (.ireturn, 1) := by decide +kernel
theorem dX8_needed_0 : decode cX8_needed 0 = .ok (.aload_n 0, 1) := by decide +kernel
theorem dX8_needed_1 : decode cX8_needed 1 = .ok (.getfield 10, 3) := by decide +kernel
theorem dX8_needed_4 : decode cX8_needed 4 = .ok (.iload_n 1, 1) := by decide +kernel
theorem dX8_needed_5 : decode cX8_needed 5 = .ok (.invokevirtual 173, 3) := by decide +kernel
theorem dX8_needed_8 : decode cX8_needed 8 = .ok (.ifCond .ne 6, 3) := by decide +kernel
theorem dX8_needed_11 : decode cX8_needed 11 = .ok (.ldc 80, 2) := by decide +kernel
theorem dX8_needed_13 : decode cX8_needed 13 = .ok (.ireturn, 1) := by decide +kernel
theorem dX8_needed_14 : decode cX8_needed 14 = .ok (.aload_n 0, 1) := by decide +kernel
theorem dX8_needed_15 : decode cX8_needed 15 = .ok (.getfield 46, 3) := by decide +kernel
theorem dX8_needed_18 : decode cX8_needed 18 = .ok (.iload_n 1, 1) := by decide +kernel
theorem dX8_needed_19 : decode cX8_needed 19 = .ok (.invokevirtual 264, 3) := by decide +kernel
theorem dX8_needed_22 : decode cX8_needed 22 = .ok (.ireturn, 1) := by decide +kernel
theorem dX8_without_0 : decode cX8_without 0 = .ok (.aload_n 0, 1) := by decide +kernel
theorem dX8_without_1 : decode cX8_without 1 = .ok (.getfield 10, 3) := by decide +kernel
theorem dX8_without_4 : decode cX8_without 4 = .ok (.iload_n 1, 1) := by decide +kernel
theorem dX8_without_5 : decode cX8_without 5 = .ok (.invokevirtual 173, 3) := by decide +kernel
theorem dX8_without_8 : decode cX8_without 8 = .ok (.ifCond .eq 14, 3) := by decide +kernel
theorem dX8_without_11 : decode cX8_without 11 = .ok (.aload_n 0, 1) := by decide +kernel
theorem dX8_without_12 : decode cX8_without 12 = .ok (.getfield 10, 3) := by decide +kernel
theorem dX8_without_15 : decode cX8_without 15 = .ok (.iload_n 2, 1) := by decide +kernel
theorem dX8_without_16 : decode cX8_without 16 = .ok (.invokevirtual 154, 3) := by decide +kernel
theorem dX8_without_19 : decode cX8_without 19 = .ok (.ifCond .ne 6, 3) := by decide +kernel
theorem dX8_without_22 : decode cX8_without 22 = .ok (.ldc 80, 2) := by decide +kernel
theorem dX8_without_24 : decode cX8_without 24 = .ok (.ireturn, 1) := by decide +kernel
theorem dX8_without_25 : decode cX8_without 25 = .ok (.aload_n 0, 1) := by decide +kernel
theorem dX8_without_26 : decode cX8_without 26 = .ok (.getfield 46, 3) := by decide +kernel
theorem dX8_without_29 : decode cX8_without 29 = .ok (.iload_n 1, 1) := by decide +kernel
theorem dX8_without_30 : decode cX8_without 30 = .ok (.aload_n 0, 1) := by decide +kernel
theorem dX8_without_31 : decode cX8_without 31 = .ok (.getfield 10, 3) := by decide +kernel
theorem dX8_without_34 : decode cX8_without 34 = .ok (.getfield 167, 3) := by decide +kernel
theorem dX8_without_37 : decode cX8_without 37 = .ok (.iconst 1, 1) := by decide +kernel
theorem dX8_without_38 : decode cX8_without 38 = .ok (.iload_n 2, 1) := by decide +kernel
theorem dX8_without_39 : decode cX8_without 39 = .ok (.ishl, 1) := by decide +kernel
theorem dX8_without_40 : decode cX8_without 40 = .ok (.ior, 1) := by decide +kernel
theorem dX8_without_41 : decode cX8_without 41 = .ok (.invokevirtual 220, 3) := by decide +kernel
theorem dX8_without_44 : decode cX8_without 44 = .ok (.ireturn, 1) := by decide +kernel
theorem dX8_share_0 : decode cX8_share 0 = .ok (.aload_n 0, 1) := by decide +kernel
theorem dX8_share_1 : decode cX8_share 1 = .ok (.getfield 10, 3) := by decide +kernel
theorem dX8_share_4 : decode cX8_share 4 = .ok (.iload_n 1, 1) := by decide +kernel
theorem dX8_share_5 : decode cX8_share 5 = .ok (.invokevirtual 154, 3) := by decide +kernel
theorem dX8_share_8 : decode cX8_share 8 = .ok (.ifCond .eq 14, 3) := by decide +kernel
theorem dX8_share_11 : decode cX8_share 11 = .ok (.iload_n 2, 1) := by decide +kernel
theorem dX8_share_12 : decode cX8_share 12 = .ok (.ifCond .lt 10, 3) := by decide +kernel
theorem dX8_share_15 : decode cX8_share 15 = .ok (.iload_n 2, 1) := by decide +kernel
theorem dX8_share_16 : decode cX8_share 16 = .ok (.sipush 999, 3) := by decide +kernel
theorem dX8_share_19 : decode cX8_share 19 = .ok (.if_icmp .le 6, 3) := by decide +kernel
theorem dX8_share_22 : decode cX8_share 22 = .ok (.ldc 80, 2) := by decide +kernel
theorem dX8_share_24 : decode cX8_share 24 = .ok (.ireturn, 1) := by decide +kernel
theorem dX8_share_25 : decode cX8_share 25 = .ok (.aload_n 0, 1) := by decide +kernel
theorem dX8_share_26 : decode cX8_share 26 = .ok (.getfield 10, 3) := by decide +kernel
theorem dX8_share_29 : decode cX8_share 29 = .ok (.iload_n 1, 1) := by decide +kernel
theorem dX8_share_30 : decode cX8_share 30 = .ok (.invokevirtual 157, 3) := by decide +kernel
theorem dX8_share_33 : decode cX8_share 33 = .ok (.ifCond .eq 7, 3) := by decide +kernel
theorem dX8_share_36 : decode cX8_share 36 = .ok (.iconst 0, 1) := by decide +kernel
theorem dX8_share_37 : decode cX8_share 37 = .ok (.goto 12, 3) := by decide +kernel
theorem dX8_share_40 : decode cX8_share 40 = .ok (.aload_n 0, 1) := by decide +kernel
theorem dX8_share_41 : decode cX8_share 41 = .ok (.getfield 10, 3) := by decide +kernel
theorem dX8_share_44 : decode cX8_share 44 = .ok (.iload_n 1, 1) := by decide +kernel
theorem dX8_share_45 : decode cX8_share 45 = .ok (.iload_n 2, 1) := by decide +kernel
theorem dX8_share_46 : decode cX8_share 46 = .ok (.invokevirtual 267, 3) := by decide +kernel
theorem dX8_share_49 : decode cX8_share 49 = .ok (.ireturn, 1) := by decide +kernel
theorem dX8_drawn_0 : decode cX8_drawn 0 = .ok (.aload_n 0, 1) := by decide +kernel
theorem dX8_drawn_1 : decode cX8_drawn 1 = .ok (.getfield 10, 3) := by decide +kernel
theorem dX8_drawn_4 : decode cX8_drawn 4 = .ok (.iload_n 1, 1) := by decide +kernel
theorem dX8_drawn_5 : decode cX8_drawn 5 = .ok (.invokevirtual 173, 3) := by decide +kernel
theorem dX8_drawn_8 : decode cX8_drawn 8 = .ok (.ifCond .eq 37, 3) := by decide +kernel
theorem dX8_drawn_11 : decode cX8_drawn 11 = .ok (.iload_n 2, 1) := by decide +kernel
theorem dX8_drawn_12 : decode cX8_drawn 12 = .ok (.iconst 1, 1) := by decide +kernel
theorem dX8_drawn_13 : decode cX8_drawn 13 = .ok (.if_icmp .lt 32, 3) := by decide +kernel
theorem dX8_drawn_16 : decode cX8_drawn 16 = .ok (.iload_n 2, 1) := by decide +kernel
theorem dX8_drawn_17 : decode cX8_drawn 17 = .ok (.bipush 60, 2) := by decide +kernel
theorem dX8_drawn_19 : decode cX8_drawn 19 = .ok (.if_icmp .gt 26, 3) := by decide +kernel
theorem dX8_drawn_22 : decode cX8_drawn 22 = .ok (.iload_n 3, 1) := by decide +kernel
theorem dX8_drawn_23 : decode cX8_drawn 23 = .ok (.iconst 1, 1) := by decide +kernel
theorem dX8_drawn_24 : decode cX8_drawn 24 = .ok (.if_icmp .lt 21, 3) := by decide +kernel
theorem dX8_drawn_27 : decode cX8_drawn 27 = .ok (.iload_n 3, 1) := by decide +kernel
theorem dX8_drawn_28 : decode cX8_drawn 28 = .ok (.ldc_w 270, 3) := by decide +kernel
theorem dX8_drawn_31 : decode cX8_drawn 31 = .ok (.if_icmp .gt 14, 3) := by decide +kernel
theorem dX8_drawn_34 : decode cX8_drawn 34 = .ok (.iload 4, 2) := by decide +kernel
theorem dX8_drawn_36 : decode cX8_drawn 36 = .ok (.ifCond .lt 9, 3) := by decide +kernel
theorem dX8_drawn_39 : decode cX8_drawn 39 = .ok (.iload 4, 2) := by decide +kernel
theorem dX8_drawn_41 : decode cX8_drawn 41 = .ok (.iconst 1, 1) := by decide +kernel
theorem dX8_drawn_42 : decode cX8_drawn 42 = .ok (.if_icmp .le 6, 3) := by decide +kernel
theorem dX8_drawn_45 : decode cX8_drawn 45 = .ok (.ldc 80, 2) := by decide +kernel
theorem dX8_drawn_47 : decode cX8_drawn 47 = .ok (.ireturn, 1) := by decide +kernel
theorem dX8_drawn_48 : decode cX8_drawn 48 = .ok (.aload_n 0, 1) := by decide +kernel
theorem dX8_drawn_49 : decode cX8_drawn 49 = .ok (.getfield 53, 3) := by decide +kernel
theorem dX8_drawn_52 : decode cX8_drawn 52 = .ok (.iload_n 1, 1) := by decide +kernel
theorem dX8_drawn_53 : decode cX8_drawn 53 = .ok (.invokevirtual 271, 3) := by decide +kernel
theorem dX8_drawn_56 : decode cX8_drawn 56 = .ok (.istore 5, 2) := by decide +kernel
theorem dX8_drawn_58 : decode cX8_drawn 58 = .ok (.iload 5, 2) := by decide +kernel
theorem dX8_drawn_60 : decode cX8_drawn 60 = .ok (.iconst 1, 1) := by decide +kernel
theorem dX8_drawn_61 : decode cX8_drawn 61 = .ok (.if_icmp .ge 6, 3) := by decide +kernel
theorem dX8_drawn_64 : decode cX8_drawn 64 = .ok (.ldc 160, 2) := by decide +kernel
theorem dX8_drawn_66 : decode cX8_drawn 66 = .ok (.ireturn, 1) := by decide +kernel
theorem dX8_drawn_67 : decode cX8_drawn 67 = .ok (.iload_n 3, 1) := by decide +kernel
theorem dX8_drawn_68 : decode cX8_drawn 68 = .ok (.i2l, 1) := by decide +kernel
theorem dX8_drawn_69 : decode cX8_drawn 69 = .ok (.lstore 6, 2) := by decide +kernel
theorem dX8_drawn_71 : decode cX8_drawn 71 = .ok (.iconst 0, 1) := by decide +kernel
theorem dX8_drawn_72 : decode cX8_drawn 72 = .ok (.istore 8, 2) := by decide +kernel
theorem dX8_drawn_74 : decode cX8_drawn 74 = .ok (.iconst 0, 1) := by decide +kernel
theorem dX8_drawn_75 : decode cX8_drawn 75 = .ok (.istore 9, 2) := by decide +kernel
theorem dX8_drawn_77 : decode cX8_drawn 77 = .ok (.iload 9, 2) := by decide +kernel
theorem dX8_drawn_79 : decode cX8_drawn 79 = .ok (.iload_n 2, 1) := by decide +kernel
theorem dX8_drawn_80 : decode cX8_drawn 80 = .ok (.if_icmp .ge 63, 3) := by decide +kernel
theorem dX8_drawn_83 : decode cX8_drawn 83 = .ok (.lload 6, 2) := by decide +kernel
theorem dX8_drawn_85 : decode cX8_drawn 85 = .ok (.ldc2_w 274, 3) := by decide +kernel
theorem dX8_drawn_88 : decode cX8_drawn 88 = .ok (.lmul, 1) := by decide +kernel
theorem dX8_drawn_89 : decode cX8_drawn 89 = .ok (.ldc2_w 276, 3) := by decide +kernel
theorem dX8_drawn_92 : decode cX8_drawn 92 = .ok (.lrem, 1) := by decide +kernel
theorem dX8_drawn_93 : decode cX8_drawn 93 = .ok (.lstore 6, 2) := by decide +kernel
theorem dX8_drawn_95 : decode cX8_drawn 95 = .ok (.aload_n 0, 1) := by decide +kernel
theorem dX8_drawn_96 : decode cX8_drawn 96 = .ok (.getfield 53, 3) := by decide +kernel
theorem dX8_drawn_99 : decode cX8_drawn 99 = .ok (.iload_n 1, 1) := by decide +kernel
theorem dX8_drawn_100 : decode cX8_drawn 100 = .ok (.lload 6, 2) := by decide +kernel
theorem dX8_drawn_102 : decode cX8_drawn 102 = .ok (.iload 5, 2) := by decide +kernel
theorem dX8_drawn_104 : decode cX8_drawn 104 = .ok (.i2l, 1) := by decide +kernel
theorem dX8_drawn_105 : decode cX8_drawn 105 = .ok (.lrem, 1) := by decide +kernel
theorem dX8_drawn_106 : decode cX8_drawn 106 = .ok (.l2i, 1) := by decide +kernel
theorem dX8_drawn_107 : decode cX8_drawn 107 = .ok (.invokevirtual 224, 3) := by decide +kernel
theorem dX8_drawn_110 : decode cX8_drawn 110 = .ok (.istore 10, 2) := by decide +kernel
theorem dX8_drawn_112 : decode cX8_drawn 112 = .ok (.iload 8, 2) := by decide +kernel
theorem dX8_drawn_114 : decode cX8_drawn 114 = .ok (.iload 4, 2) := by decide +kernel
theorem dX8_drawn_116 : decode cX8_drawn 116 = .ok (.ifCond .ne 8, 3) := by decide +kernel
theorem dX8_drawn_119 : decode cX8_drawn 119 = .ok (.iload 10, 2) := by decide +kernel
theorem dX8_drawn_121 : decode cX8_drawn 121 = .ok (.goto 13, 3) := by decide +kernel
theorem dX8_drawn_124 : decode cX8_drawn 124 = .ok (.aload_n 0, 1) := by decide +kernel
theorem dX8_drawn_125 : decode cX8_drawn 125 = .ok (.getfield 53, 3) := by decide +kernel
theorem dX8_drawn_128 : decode cX8_drawn 128 = .ok (.iload_n 1, 1) := by decide +kernel
theorem dX8_drawn_129 : decode cX8_drawn 129 = .ok (.iload 10, 2) := by decide +kernel
theorem dX8_drawn_131 : decode cX8_drawn 131 = .ok (.invokevirtual 227, 3) := by decide +kernel
theorem dX8_drawn_134 : decode cX8_drawn 134 = .ok (.iadd, 1) := by decide +kernel
theorem dX8_drawn_135 : decode cX8_drawn 135 = .ok (.istore 8, 2) := by decide +kernel
theorem dX8_drawn_137 : decode cX8_drawn 137 = .ok (.iinc 9 1, 3) := by decide +kernel
theorem dX8_drawn_140 : decode cX8_drawn 140 = .ok (.goto (-63), 3) := by decide +kernel
theorem dX8_drawn_143 : decode cX8_drawn 143 = .ok (.iload 8, 2) := by decide +kernel
theorem dX8_drawn_145 : decode cX8_drawn 145 = .ok (.ireturn, 1) := by decide +kernel
theorem dX8_image_0 : decode cX8_image 0 = .ok (.iload_n 1, 1) := by decide +kernel
theorem dX8_image_1 : decode cX8_image 1 = .ok (.ifCond .lt 8, 3) := by decide +kernel
theorem dX8_image_4 : decode cX8_image 4 = .ok (.iload_n 1, 1) := by decide +kernel
theorem dX8_image_5 : decode cX8_image 5 = .ok (.iconst 2, 1) := by decide +kernel
theorem dX8_image_6 : decode cX8_image 6 = .ok (.if_icmp .lt 6, 3) := by decide +kernel
theorem dX8_image_9 : decode cX8_image 9 = .ok (.ldc 80, 2) := by decide +kernel
theorem dX8_image_11 : decode cX8_image 11 = .ok (.ireturn, 1) := by decide +kernel
theorem dX8_image_12 : decode cX8_image 12 = .ok (.aload_n 0, 1) := by decide +kernel
theorem dX8_image_13 : decode cX8_image 13 = .ok (.getfield 10, 3) := by decide +kernel
theorem dX8_image_16 : decode cX8_image 16 = .ok (.getfield 236, 3) := by decide +kernel
theorem dX8_image_19 : decode cX8_image 19 = .ok (.ifCond .ne 6, 3) := by decide +kernel
theorem dX8_image_22 : decode cX8_image 22 = .ok (.ldc 160, 2) := by decide +kernel
theorem dX8_image_24 : decode cX8_image 24 = .ok (.ireturn, 1) := by decide +kernel
theorem dX8_image_25 : decode cX8_image 25 = .ok (.aload_n 0, 1) := by decide +kernel
theorem dX8_image_26 : decode cX8_image 26 = .ok (.getfield 16, 3) := by decide +kernel
theorem dX8_image_29 : decode cX8_image 29 = .ok (.iload_n 1, 1) := by decide +kernel
theorem dX8_image_30 : decode cX8_image 30 = .ok (.aaload, 1) := by decide +kernel
theorem dX8_image_31 : decode cX8_image 31 = .ok (.aload_n 0, 1) := by decide +kernel
theorem dX8_image_32 : decode cX8_image 32 = .ok (.getfield 10, 3) := by decide +kernel
theorem dX8_image_35 : decode cX8_image 35 = .ok (.invokevirtual 278, 3) := by decide +kernel
theorem dX8_image_38 : decode cX8_image 38 = .ok (.iconst 1, 1) := by decide +kernel
theorem dX8_image_39 : decode cX8_image 39 = .ok (.ireturn, 1) := by decide +kernel
theorem dX8_restore_0 : decode cX8_restore 0 = .ok (.iload_n 1, 1) := by decide +kernel
theorem dX8_restore_1 : decode cX8_restore 1 = .ok (.ifCond .lt 8, 3) := by decide +kernel
theorem dX8_restore_4 : decode cX8_restore 4 = .ok (.iload_n 1, 1) := by decide +kernel
theorem dX8_restore_5 : decode cX8_restore 5 = .ok (.iconst 2, 1) := by decide +kernel
theorem dX8_restore_6 : decode cX8_restore 6 = .ok (.if_icmp .lt 6, 3) := by decide +kernel
theorem dX8_restore_9 : decode cX8_restore 9 = .ok (.ldc 80, 2) := by decide +kernel
theorem dX8_restore_11 : decode cX8_restore 11 = .ok (.ireturn, 1) := by decide +kernel
theorem dX8_restore_12 : decode cX8_restore 12 = .ok (.aload_n 0, 1) := by decide +kernel
theorem dX8_restore_13 : decode cX8_restore 13 = .ok (.getfield 16, 3) := by decide +kernel
theorem dX8_restore_16 : decode cX8_restore 16 = .ok (.iload_n 1, 1) := by decide +kernel
theorem dX8_restore_17 : decode cX8_restore 17 = .ok (.aaload, 1) := by decide +kernel
theorem dX8_restore_18 : decode cX8_restore 18 = .ok (.getfield 236, 3) := by decide +kernel
theorem dX8_restore_21 : decode cX8_restore 21 = .ok (.ifCond .ne 6, 3) := by decide +kernel
theorem dX8_restore_24 : decode cX8_restore 24 = .ok (.ldc 160, 2) := by decide +kernel
theorem dX8_restore_26 : decode cX8_restore 26 = .ok (.ireturn, 1) := by decide +kernel
theorem dX8_restore_27 : decode cX8_restore 27 = .ok (.aload_n 0, 1) := by decide +kernel
theorem dX8_restore_28 : decode cX8_restore 28 = .ok (.aload_n 0, 1) := by decide +kernel
theorem dX8_restore_29 : decode cX8_restore 29 = .ok (.getfield 16, 3) := by decide +kernel
theorem dX8_restore_32 : decode cX8_restore 32 = .ok (.iload_n 1, 1) := by decide +kernel
theorem dX8_restore_33 : decode cX8_restore 33 = .ok (.aaload, 1) := by decide +kernel
theorem dX8_restore_34 : decode cX8_restore 34 = .ok (.invokevirtual 148, 3) := by decide +kernel
theorem dX8_restore_37 : decode cX8_restore 37 = .ok (.iconst 1, 1) := by decide +kernel
theorem dX8_restore_38 : decode cX8_restore 38 = .ok (.ireturn, 1) := by decide +kernel
theorem dX8_kind_0 : decode cX8_kind 0 = .ok (.aload_n 0, 1) := by decide +kernel
theorem dX8_kind_1 : decode cX8_kind 1 = .ok (.getfield 10, 3) := by decide +kernel
theorem dX8_kind_4 : decode cX8_kind 4 = .ok (.iload_n 1, 1) := by decide +kernel
theorem dX8_kind_5 : decode cX8_kind 5 = .ok (.invokevirtual 154, 3) := by decide +kernel
theorem dX8_kind_8 : decode cX8_kind 8 = .ok (.ifCond .eq 15, 3) := by decide +kernel
theorem dX8_kind_11 : decode cX8_kind 11 = .ok (.aload_n 0, 1) := by decide +kernel
theorem dX8_kind_12 : decode cX8_kind 12 = .ok (.getfield 10, 3) := by decide +kernel
theorem dX8_kind_15 : decode cX8_kind 15 = .ok (.getfield 281, 3) := by decide +kernel
theorem dX8_kind_18 : decode cX8_kind 18 = .ok (.iload_n 1, 1) := by decide +kernel
theorem dX8_kind_19 : decode cX8_kind 19 = .ok (.iaload, 1) := by decide +kernel
theorem dX8_kind_20 : decode cX8_kind 20 = .ok (.goto 5, 3) := by decide +kernel
theorem dX8_kind_23 : decode cX8_kind 23 = .ok (.ldc 80, 2) := by decide +kernel
theorem dX8_kind_25 : decode cX8_kind 25 = .ok (.ireturn, 1) := by decide +kernel
theorem dX8_as_0 : decode cX8_as 0 = .ok (.aload_n 0, 1) := by decide +kernel
theorem dX8_as_1 : decode cX8_as 1 = .ok (.getfield 10, 3) := by decide +kernel
theorem dX8_as_4 : decode cX8_as 4 = .ok (.iload_n 1, 1) := by decide +kernel
theorem dX8_as_5 : decode cX8_as 5 = .ok (.invokevirtual 154, 3) := by decide +kernel
theorem dX8_as_8 : decode cX8_as 8 = .ok (.ifCond .eq 12, 3) := by decide +kernel
theorem dX8_as_11 : decode cX8_as 11 = .ok (.iload_n 2, 1) := by decide +kernel
theorem dX8_as_12 : decode cX8_as 12 = .ok (.ifCond .lt 8, 3) := by decide +kernel
theorem dX8_as_15 : decode cX8_as 15 = .ok (.iload_n 2, 1) := by decide +kernel
theorem dX8_as_16 : decode cX8_as 16 = .ok (.iconst 5, 1) := by decide +kernel
theorem dX8_as_17 : decode cX8_as 17 = .ok (.if_icmp .le 6, 3) := by decide +kernel
theorem dX8_as_20 : decode cX8_as 20 = .ok (.ldc 80, 2) := by decide +kernel
theorem dX8_as_22 : decode cX8_as 22 = .ok (.ireturn, 1) := by decide +kernel
theorem dX8_as_23 : decode cX8_as 23 = .ok (.aload_n 0, 1) := by decide +kernel
theorem dX8_as_24 : decode cX8_as 24 = .ok (.getfield 10, 3) := by decide +kernel
theorem dX8_as_27 : decode cX8_as 27 = .ok (.iload_n 1, 1) := by decide +kernel
theorem dX8_as_28 : decode cX8_as 28 = .ok (.iload_n 2, 1) := by decide +kernel
theorem dX8_as_29 : decode cX8_as 29 = .ok (.invokevirtual 284, 3) := by decide +kernel
theorem dX8_as_32 : decode cX8_as 32 = .ok (.ifCond .eq 11, 3) := by decide +kernel
theorem dX8_as_35 : decode cX8_as 35 = .ok (.aload_n 0, 1) := by decide +kernel
theorem dX8_as_36 : decode cX8_as 36 = .ok (.iload_n 1, 1) := by decide +kernel
theorem dX8_as_37 : decode cX8_as 37 = .ok (.invokevirtual 89, 3) := by decide +kernel
theorem dX8_as_40 : decode cX8_as 40 = .ok (.goto 8, 3) := by decide +kernel
theorem dX8_as_43 : decode cX8_as 43 = .ok (.aload_n 0, 1) := by decide +kernel
theorem dX8_as_44 : decode cX8_as 44 = .ok (.iconst 3, 1) := by decide +kernel
theorem dX8_as_45 : decode cX8_as 45 = .ok (.invokevirtual 81, 3) := by decide +kernel
theorem dX8_as_48 : decode cX8_as 48 = .ok (.ireturn, 1) := by decide +kernel
theorem dX8_ask_0 : decode cX8_ask 0 = .ok (.aload_n 0, 1) := by decide +kernel
theorem dX8_ask_1 : decode cX8_ask 1 = .ok (.getfield 10, 3) := by decide +kernel
theorem dX8_ask_4 : decode cX8_ask 4 = .ok (.iload_n 1, 1) := by decide +kernel
theorem dX8_ask_5 : decode cX8_ask 5 = .ok (.invokevirtual 154, 3) := by decide +kernel
theorem dX8_ask_8 : decode cX8_ask 8 = .ok (.ifCond .eq 12, 3) := by decide +kernel
theorem dX8_ask_11 : decode cX8_ask 11 = .ok (.iload_n 2, 1) := by decide +kernel
theorem dX8_ask_12 : decode cX8_ask 12 = .ok (.ifCond .lt 8, 3) := by decide +kernel
theorem dX8_ask_15 : decode cX8_ask 15 = .ok (.iload_n 2, 1) := by decide +kernel
theorem dX8_ask_16 : decode cX8_ask 16 = .ok (.iconst 1, 1) := by decide +kernel
theorem dX8_ask_17 : decode cX8_ask 17 = .ok (.if_icmp .le 6, 3) := by decide +kernel
theorem dX8_ask_20 : decode cX8_ask 20 = .ok (.ldc 80, 2) := by decide +kernel
theorem dX8_ask_22 : decode cX8_ask 22 = .ok (.ireturn, 1) := by decide +kernel
theorem dX8_ask_23 : decode cX8_ask 23 = .ok (.aload_n 0, 1) := by decide +kernel
theorem dX8_ask_24 : decode cX8_ask 24 = .ok (.getfield 69, 3) := by decide +kernel
theorem dX8_ask_27 : decode cX8_ask 27 = .ok (.iconst 0, 1) := by decide +kernel
theorem dX8_ask_28 : decode cX8_ask 28 = .ok (.putfield 287, 3) := by decide +kernel
theorem dX8_ask_31 : decode cX8_ask 31 = .ok (.iload_n 2, 1) := by decide +kernel
theorem dX8_ask_32 : decode cX8_ask 32 = .ok (.ifCond .ne 14, 3) := by decide +kernel
theorem dX8_ask_35 : decode cX8_ask 35 = .ok (.aload_n 0, 1) := by decide +kernel
theorem dX8_ask_36 : decode cX8_ask 36 = .ok (.getfield 69, 3) := by decide +kernel
theorem dX8_ask_39 : decode cX8_ask 39 = .ok (.iload_n 1, 1) := by decide +kernel
theorem dX8_ask_40 : decode cX8_ask 40 = .ok (.invokevirtual 290, 3) := by decide +kernel
theorem dX8_ask_43 : decode cX8_ask 43 = .ok (.goto 11, 3) := by decide +kernel
theorem dX8_ask_46 : decode cX8_ask 46 = .ok (.aload_n 0, 1) := by decide +kernel
theorem dX8_ask_47 : decode cX8_ask 47 = .ok (.getfield 69, 3) := by decide +kernel
theorem dX8_ask_50 : decode cX8_ask 50 = .ok (.iload_n 1, 1) := by decide +kernel
theorem dX8_ask_51 : decode cX8_ask 51 = .ok (.invokevirtual 293, 3) := by decide +kernel
theorem dX8_ask_54 : decode cX8_ask 54 = .ok (.ireturn, 1) := by decide +kernel
theorem dX8_trace_0 : decode cX8_trace 0 = .ok (.iload_n 1, 1) := by decide +kernel
theorem dX8_trace_1 : decode cX8_trace 1 = .ok (.ifCond .lt 26, 3) := by decide +kernel
theorem dX8_trace_4 : decode cX8_trace 4 = .ok (.iload_n 1, 1) := by decide +kernel
theorem dX8_trace_5 : decode cX8_trace 5 = .ok (.aload_n 0, 1) := by decide +kernel
theorem dX8_trace_6 : decode cX8_trace 6 = .ok (.getfield 69, 3) := by decide +kernel
theorem dX8_trace_9 : decode cX8_trace 9 = .ok (.getfield 287, 3) := by decide +kernel
theorem dX8_trace_12 : decode cX8_trace 12 = .ok (.if_icmp .ge 15, 3) := by decide +kernel
theorem dX8_trace_15 : decode cX8_trace 15 = .ok (.aload_n 0, 1) := by decide +kernel
theorem dX8_trace_16 : decode cX8_trace 16 = .ok (.getfield 69, 3) := by decide +kernel
theorem dX8_trace_19 : decode cX8_trace 19 = .ok (.getfield 296, 3) := by decide +kernel
theorem dX8_trace_22 : decode cX8_trace 22 = .ok (.iload_n 1, 1) := by decide +kernel
theorem dX8_trace_23 : decode cX8_trace 23 = .ok (.iaload, 1) := by decide +kernel
theorem dX8_trace_24 : decode cX8_trace 24 = .ok (.goto 5, 3) := by decide +kernel
theorem dX8_trace_27 : decode cX8_trace 27 = .ok (.ldc 203, 2) := by decide +kernel
theorem dX8_trace_29 : decode cX8_trace 29 = .ok (.ireturn, 1) := by decide +kernel
theorem dX8_count_0 : decode cX8_count 0 = .ok (.iload_n 1, 1) := by decide +kernel
theorem dX8_count_1 : decode cX8_count 1 = .ok (.tableswitch 87 0 5 #[39, 47, 55, 63, 71, 79], 39) := by decide +kernel
theorem dX8_count_40 : decode cX8_count 40 = .ok (.aload_n 0, 1) := by decide +kernel
theorem dX8_count_41 : decode cX8_count 41 = .ok (.getfield 23, 3) := by decide +kernel
theorem dX8_count_44 : decode cX8_count 44 = .ok (.invokevirtual 299, 3) := by decide +kernel
theorem dX8_count_47 : decode cX8_count 47 = .ok (.ireturn, 1) := by decide +kernel
theorem dX8_count_48 : decode cX8_count 48 = .ok (.aload_n 0, 1) := by decide +kernel
theorem dX8_count_49 : decode cX8_count 49 = .ok (.getfield 10, 3) := by decide +kernel
theorem dX8_count_52 : decode cX8_count 52 = .ok (.getfield 236, 3) := by decide +kernel
theorem dX8_count_55 : decode cX8_count 55 = .ok (.ireturn, 1) := by decide +kernel
theorem dX8_count_56 : decode cX8_count 56 = .ok (.aload_n 0, 1) := by decide +kernel
theorem dX8_count_57 : decode cX8_count 57 = .ok (.getfield 10, 3) := by decide +kernel
theorem dX8_count_60 : decode cX8_count 60 = .ok (.getfield 151, 3) := by decide +kernel
theorem dX8_count_63 : decode cX8_count 63 = .ok (.ireturn, 1) := by decide +kernel
theorem dX8_count_64 : decode cX8_count 64 = .ok (.aload_n 0, 1) := by decide +kernel
theorem dX8_count_65 : decode cX8_count 65 = .ok (.getfield 10, 3) := by decide +kernel
theorem dX8_count_68 : decode cX8_count 68 = .ok (.getfield 167, 3) := by decide +kernel
theorem dX8_count_71 : decode cX8_count 71 = .ok (.ireturn, 1) := by decide +kernel
theorem dX8_count_72 : decode cX8_count 72 = .ok (.aload_n 0, 1) := by decide +kernel
theorem dX8_count_73 : decode cX8_count 73 = .ok (.getfield 37, 3) := by decide +kernel
theorem dX8_count_76 : decode cX8_count 76 = .ok (.getfield 179, 3) := by decide +kernel
theorem dX8_count_79 : decode cX8_count 79 = .ok (.ireturn, 1) := by decide +kernel
theorem dX8_count_80 : decode cX8_count 80 = .ok (.aload_n 0, 1) := by decide +kernel
theorem dX8_count_81 : decode cX8_count 81 = .ok (.getfield 30, 3) := by decide +kernel
theorem dX8_count_84 : decode cX8_count 84 = .ok (.getfield 302, 3) := by decide +kernel
theorem dX8_count_87 : decode cX8_count 87 = .ok (.ireturn, 1) := by decide +kernel
theorem dX8_count_88 : decode cX8_count 88 = .ok (.ldc 80, 2) := by decide +kernel
theorem dX8_count_90 : decode cX8_count 90 = .ok (.ireturn, 1) := by decide +kernel
theorem dX8_status_0 : decode cX8_status 0 = .ok (.aload_n 0, 1) := by decide +kernel
theorem dX8_status_1 : decode cX8_status 1 = .ok (.getfield 305, 3) := by decide +kernel
theorem dX8_status_4 : decode cX8_status 4 = .ok (.ireturn, 1) := by decide +kernel
theorem dX8_found_0 : decode cX8_found 0 = .ok (.aload_n 0, 1) := by decide +kernel
theorem dX8_found_1 : decode cX8_found 1 = .ok (.iload_n 1, 1) := by decide +kernel
theorem dX8_found_2 : decode cX8_found 2 = .ok (.putfield 305, 3) := by decide +kernel
theorem dX8_found_5 : decode cX8_found 5 = .ok (.ldc_w 308, 3) := by decide +kernel
theorem dX8_found_8 : decode cX8_found 8 = .ok (.iload_n 1, 1) := by decide +kernel
theorem dX8_found_9 : decode cX8_found 9 = .ok (.isub, 1) := by decide +kernel
theorem dX8_found_10 : decode cX8_found 10 = .ok (.ireturn, 1) := by decide +kernel
theorem dX8_unfound_0 : decode cX8_unfound 0 = .ok (.aload_n 0, 1) := by decide +kernel
theorem dX8_unfound_1 : decode cX8_unfound 1 = .ok (.iconst 0, 1) := by decide +kernel
theorem dX8_unfound_2 : decode cX8_unfound 2 = .ok (.putfield 305, 3) := by decide +kernel
theorem dX8_unfound_5 : decode cX8_unfound 5 = .ok (.iload_n 1, 1) := by decide +kernel
theorem dX8_unfound_6 : decode cX8_unfound 6 = .ok (.ireturn, 1) := by decide +kernel
theorem dX8_standAs_0 : decode cX8_standAs 0 = .ok (.aload_n 0, 1) := by decide +kernel
theorem dX8_standAs_1 : decode cX8_standAs 1 = .ok (.getfield 10, 3) := by decide +kernel
theorem dX8_standAs_4 : decode cX8_standAs 4 = .ok (.aload_n 1, 1) := by decide +kernel
theorem dX8_standAs_5 : decode cX8_standAs 5 = .ok (.invokevirtual 278, 3) := by decide +kernel
theorem dX8_standAs_8 : decode cX8_standAs 8 = .ok (.aload_n 0, 1) := by decide +kernel
theorem dX8_standAs_9 : decode cX8_standAs 9 = .ok (.getfield 37, 3) := by decide +kernel
theorem dX8_standAs_12 : decode cX8_standAs 12 = .ok (.iconst 0, 1) := by decide +kernel
theorem dX8_standAs_13 : decode cX8_standAs 13 = .ok (.putfield 179, 3) := by decide +kernel
theorem dX8_standAs_16 : decode cX8_standAs 16 = .ok (.aload_n 0, 1) := by decide +kernel
theorem dX8_standAs_17 : decode cX8_standAs 17 = .ok (.getfield 53, 3) := by decide +kernel
theorem dX8_standAs_20 : decode cX8_standAs 20 = .ok (.iconst 0, 1) := by decide +kernel
theorem dX8_standAs_21 : decode cX8_standAs 21 = .ok (.putfield 309, 3) := by decide +kernel
theorem dX8_standAs_24 : decode cX8_standAs 24 = .ok (.return_, 1) := by decide +kernel
theorem dX8_change_0 : decode cX8_change 0 = .ok (.iload_n 1, 1) := by decide +kernel
theorem dX8_change_1 : decode cX8_change 1 = .ok (.lookupswitch 52 #[(0, 27), (1, 39)], 27) := by decide +kernel
theorem dX8_change_28 : decode cX8_change 28 = .ok (.aload_n 0, 1) := by decide +kernel
theorem dX8_change_29 : decode cX8_change 29 = .ok (.getfield 10, 3) := by decide +kernel
theorem dX8_change_32 : decode cX8_change 32 = .ok (.iload_n 2, 1) := by decide +kernel
theorem dX8_change_33 : decode cX8_change 33 = .ok (.iload_n 3, 1) := by decide +kernel
theorem dX8_change_34 : decode cX8_change 34 = .ok (.invokevirtual 313, 3) := by decide +kernel
theorem dX8_change_37 : decode cX8_change 37 = .ok (.goto 33, 3) := by decide +kernel
theorem dX8_change_40 : decode cX8_change 40 = .ok (.aload_n 0, 1) := by decide +kernel
theorem dX8_change_41 : decode cX8_change 41 = .ok (.getfield 10, 3) := by decide +kernel
theorem dX8_change_44 : decode cX8_change 44 = .ok (.getfield 170, 3) := by decide +kernel
theorem dX8_change_47 : decode cX8_change 47 = .ok (.iload_n 2, 1) := by decide +kernel
theorem dX8_change_48 : decode cX8_change 48 = .ok (.iload_n 3, 1) := by decide +kernel
theorem dX8_change_49 : decode cX8_change 49 = .ok (.iastore, 1) := by decide +kernel
theorem dX8_change_50 : decode cX8_change 50 = .ok (.goto 20, 3) := by decide +kernel
theorem dX8_change_53 : decode cX8_change 53 = .ok (.aload_n 0, 1) := by decide +kernel
theorem dX8_change_54 : decode cX8_change 54 = .ok (.getfield 10, 3) := by decide +kernel
theorem dX8_change_57 : decode cX8_change 57 = .ok (.getfield 176, 3) := by decide +kernel
theorem dX8_change_60 : decode cX8_change 60 = .ok (.iload_n 2, 1) := by decide +kernel
theorem dX8_change_61 : decode cX8_change 61 = .ok (.iload_n 3, 1) := by decide +kernel
theorem dX8_change_62 : decode cX8_change 62 = .ok (.iastore, 1) := by decide +kernel
theorem dX8_change_63 : decode cX8_change 63 = .ok (.aload_n 0, 1) := by decide +kernel
theorem dX8_change_64 : decode cX8_change 64 = .ok (.getfield 10, 3) := by decide +kernel
theorem dX8_change_67 : decode cX8_change 67 = .ok (.invokevirtual 317, 3) := by decide +kernel
theorem dX8_change_70 : decode cX8_change 70 = .ok (.aload_n 0, 1) := by decide +kernel
theorem dX8_change_71 : decode cX8_change 71 = .ok (.getfield 53, 3) := by decide +kernel
theorem dX8_change_74 : decode cX8_change 74 = .ok (.iconst 0, 1) := by decide +kernel
theorem dX8_change_75 : decode cX8_change 75 = .ok (.putfield 309, 3) := by decide +kernel
theorem dX8_change_78 : decode cX8_change 78 = .ok (.return_, 1) := by decide +kernel
theorem dX9_init_0 : decode cX9_init 0 = .ok (.aload_n 0, 1) := by decide +kernel
theorem dX9_init_1 : decode cX9_init 1 = .ok (.invokespecial 1, 3) := by decide +kernel
theorem dX9_init_4 : decode cX9_init 4 = .ok (.aload_n 0, 1) := by decide +kernel
theorem dX9_init_5 : decode cX9_init 5 = .ok (.sipush 2324, 3) := by decide +kernel
theorem dX9_init_8 : decode cX9_init 8 = .ok (.newarray .int, 2) := by decide +kernel
theorem dX9_init_10 : decode cX9_init 10 = .ok (.putfield 7, 3) := by decide +kernel
theorem dX9_init_13 : decode cX9_init 13 = .ok (.aload_n 0, 1) := by decide +kernel
theorem dX9_init_14 : decode cX9_init 14 = .ok (.sipush 140, 3) := by decide +kernel
theorem dX9_init_17 : decode cX9_init 17 = .ok (.newarray .int, 2) := by decide +kernel
theorem dX9_init_19 : decode cX9_init 19 = .ok (.putfield 13, 3) := by decide +kernel
theorem dX9_init_22 : decode cX9_init 22 = .ok (.aload_n 0, 1) := by decide +kernel
theorem dX9_init_23 : decode cX9_init 23 = .ok (.bipush 8, 2) := by decide +kernel
theorem dX9_init_25 : decode cX9_init 25 = .ok (.newarray .int, 2) := by decide +kernel
theorem dX9_init_27 : decode cX9_init 27 = .ok (.putfield 16, 3) := by decide +kernel
theorem dX9_init_30 : decode cX9_init 30 = .ok (.aload_n 0, 1) := by decide +kernel
theorem dX9_init_31 : decode cX9_init 31 = .ok (.bipush 8, 2) := by decide +kernel
theorem dX9_init_33 : decode cX9_init 33 = .ok (.newarray .int, 2) := by decide +kernel
theorem dX9_init_35 : decode cX9_init 35 = .ok (.putfield 19, 3) := by decide +kernel
theorem dX9_init_38 : decode cX9_init 38 = .ok (.aload_n 0, 1) := by decide +kernel
theorem dX9_init_39 : decode cX9_init 39 = .ok (.sipush 320, 3) := by decide +kernel
theorem dX9_init_42 : decode cX9_init 42 = .ok (.newarray .int, 2) := by decide +kernel
theorem dX9_init_44 : decode cX9_init 44 = .ok (.putfield 22, 3) := by decide +kernel
theorem dX9_init_47 : decode cX9_init 47 = .ok (.aload_n 0, 1) := by decide +kernel
theorem dX9_init_48 : decode cX9_init 48 = .ok (.bipush 40, 2) := by decide +kernel
theorem dX9_init_50 : decode cX9_init 50 = .ok (.newarray .int, 2) := by decide +kernel
theorem dX9_init_52 : decode cX9_init 52 = .ok (.putfield 25, 3) := by decide +kernel
theorem dX9_init_55 : decode cX9_init 55 = .ok (.aload_n 0, 1) := by decide +kernel
theorem dX9_init_56 : decode cX9_init 56 = .ok (.sipush 200, 3) := by decide +kernel
theorem dX9_init_59 : decode cX9_init 59 = .ok (.newarray .long, 2) := by decide +kernel
theorem dX9_init_61 : decode cX9_init 61 = .ok (.putfield 28, 3) := by decide +kernel
theorem dX9_init_64 : decode cX9_init 64 = .ok (.aload_n 0, 1) := by decide +kernel
theorem dX9_init_65 : decode cX9_init 65 = .ok (.bipush 64, 2) := by decide +kernel
theorem dX9_init_67 : decode cX9_init 67 = .ok (.newarray .int, 2) := by decide +kernel
theorem dX9_init_69 : decode cX9_init 69 = .ok (.putfield 32, 3) := by decide +kernel
theorem dX9_init_72 : decode cX9_init 72 = .ok (.aload_n 0, 1) := by decide +kernel
theorem dX9_init_73 : decode cX9_init 73 = .ok (.sipush 1650, 3) := by decide +kernel
theorem dX9_init_76 : decode cX9_init 76 = .ok (.newarray .long, 2) := by decide +kernel
theorem dX9_init_78 : decode cX9_init 78 = .ok (.putfield 35, 3) := by decide +kernel
theorem dX9_init_81 : decode cX9_init 81 = .ok (.aload_n 0, 1) := by decide +kernel
theorem dX9_init_82 : decode cX9_init 82 = .ok (.bipush 64, 2) := by decide +kernel
theorem dX9_init_84 : decode cX9_init 84 = .ok (.newarray .int, 2) := by decide +kernel
theorem dX9_init_86 : decode cX9_init 86 = .ok (.putfield 38, 3) := by decide +kernel
theorem dX9_init_89 : decode cX9_init 89 = .ok (.aload_n 0, 1) := by decide +kernel
theorem dX9_init_90 : decode cX9_init 90 = .ok (.iconst 2, 1) := by decide +kernel
theorem dX9_init_91 : decode cX9_init 91 = .ok (.newarray .boolean, 2) := by decide +kernel
theorem dX9_init_93 : decode cX9_init 93 = .ok (.putfield 41, 3) := by decide +kernel
theorem dX9_init_96 : decode cX9_init 96 = .ok (.aload_n 0, 1) := by decide +kernel
theorem dX9_init_97 : decode cX9_init 97 = .ok (.bipush 16, 2) := by decide +kernel
theorem dX9_init_99 : decode cX9_init 99 = .ok (.newarray .int, 2) := by decide +kernel
theorem dX9_init_101 : decode cX9_init 101 = .ok (.putfield 45, 3) := by decide +kernel
theorem dX9_init_104 : decode cX9_init 104 = .ok (.iconst 0, 1) := by decide +kernel
theorem dX9_init_105 : decode cX9_init 105 = .ok (.istore_n 1, 1) := by decide +kernel
theorem dX9_init_106 : decode cX9_init 106 = .ok (.iload_n 1, 1) := by decide +kernel
theorem dX9_init_107 : decode cX9_init 107 = .ok (.bipush 8, 2) := by decide +kernel
theorem dX9_init_109 : decode cX9_init 109 = .ok (.if_icmp .ge 16, 3) := by decide +kernel
theorem dX9_init_112 : decode cX9_init 112 = .ok (.aload_n 0, 1) := by decide +kernel
theorem dX9_init_113 : decode cX9_init 113 = .ok (.getfield 16, 3) := by decide +kernel
theorem dX9_init_116 : decode cX9_init 116 = .ok (.iload_n 1, 1) := by decide +kernel
theorem dX9_init_117 : decode cX9_init 117 = .ok (.iconst (-1), 1) := by decide +kernel
theorem dX9_init_118 : decode cX9_init 118 = .ok (.iastore, 1) := by decide +kernel
theorem dX9_init_119 : decode cX9_init 119 = .ok (.iinc 1 1, 3) := by decide +kernel
theorem dX9_init_122 : decode cX9_init 122 = .ok (.goto (-16), 3) := by decide +kernel
theorem dX9_init_125 : decode cX9_init 125 = .ok (.return_, 1) := by decide +kernel
theorem dX9_in_0 : decode cX9_in 0 = .ok (.lload_n 0, 1) := by decide +kernel
theorem dX9_in_1 : decode cX9_in 1 = .ok (.lload_n 2, 1) := by decide +kernel
theorem dX9_in_2 : decode cX9_in 2 = .ok (.lcmp, 1) := by decide +kernel
theorem dX9_in_3 : decode cX9_in 3 = .ok (.ifCond .lt 14, 3) := by decide +kernel
theorem dX9_in_6 : decode cX9_in 6 = .ok (.lload_n 0, 1) := by decide +kernel
theorem dX9_in_7 : decode cX9_in 7 = .ok (.lload 4, 2) := by decide +kernel
theorem dX9_in_9 : decode cX9_in 9 = .ok (.lcmp, 1) := by decide +kernel
theorem dX9_in_10 : decode cX9_in 10 = .ok (.ifCond .gt 7, 3) := by decide +kernel
theorem dX9_in_13 : decode cX9_in 13 = .ok (.iconst 1, 1) := by decide +kernel
theorem dX9_in_14 : decode cX9_in 14 = .ok (.goto 4, 3) := by decide +kernel
theorem dX9_in_17 : decode cX9_in 17 = .ok (.iconst 0, 1) := by decide +kernel
theorem dX9_in_18 : decode cX9_in 18 = .ok (.ireturn, 1) := by decide +kernel
theorem dX9_has_0 : decode cX9_has 0 = .ok (.iload_n 0, 1) := by decide +kernel
theorem dX9_has_1 : decode cX9_has 1 = .ok (.iload_n 1, 1) := by decide +kernel
theorem dX9_has_2 : decode cX9_has 2 = .ok (.ishr, 1) := by decide +kernel
theorem dX9_has_3 : decode cX9_has 3 = .ok (.iconst 1, 1) := by decide +kernel
theorem dX9_has_4 : decode cX9_has 4 = .ok (.iand, 1) := by decide +kernel
theorem dX9_has_5 : decode cX9_has 5 = .ok (.iconst 1, 1) := by decide +kernel
theorem dX9_has_6 : decode cX9_has 6 = .ok (.if_icmp .ne 7, 3) := by decide +kernel
theorem dX9_has_9 : decode cX9_has 9 = .ok (.iconst 1, 1) := by decide +kernel
theorem dX9_has_10 : decode cX9_has 10 = .ok (.goto 4, 3) := by decide +kernel
theorem dX9_has_13 : decode cX9_has 13 = .ok (.iconst 0, 1) := by decide +kernel
theorem dX9_has_14 : decode cX9_has 14 = .ok (.ireturn, 1) := by decide +kernel
theorem dX9_copyOf_0 : decode cX9_copyOf 0 = .ok (.iconst 0, 1) := by decide +kernel
theorem dX9_copyOf_1 : decode cX9_copyOf 1 = .ok (.istore_n 3, 1) := by decide +kernel
theorem dX9_copyOf_2 : decode cX9_copyOf 2 = .ok (.iload_n 3, 1) := by decide +kernel
theorem dX9_copyOf_3 : decode cX9_copyOf 3 = .ok (.bipush 83, 2) := by decide +kernel
theorem dX9_copyOf_5 : decode cX9_copyOf 5 = .ok (.if_icmp .ge 25, 3) := by decide +kernel
theorem dX9_copyOf_8 : decode cX9_copyOf 8 = .ok (.aload_n 0, 1) := by decide +kernel
theorem dX9_copyOf_9 : decode cX9_copyOf 9 = .ok (.getfield 7, 3) := by decide +kernel
theorem dX9_copyOf_12 : decode cX9_copyOf 12 = .ok (.iload_n 2, 1) := by decide +kernel
theorem dX9_copyOf_13 : decode cX9_copyOf 13 = .ok (.iload_n 3, 1) := by decide +kernel
theorem dX9_copyOf_14 : decode cX9_copyOf 14 = .ok (.iadd, 1) := by decide +kernel
theorem dX9_copyOf_15 : decode cX9_copyOf 15 = .ok (.aload_n 0, 1) := by decide +kernel
theorem dX9_copyOf_16 : decode cX9_copyOf 16 = .ok (.getfield 7, 3) := by decide +kernel
theorem dX9_copyOf_19 : decode cX9_copyOf 19 = .ok (.iload_n 1, 1) := by decide +kernel
theorem dX9_copyOf_20 : decode cX9_copyOf 20 = .ok (.iload_n 3, 1) := by decide +kernel
theorem dX9_copyOf_21 : decode cX9_copyOf 21 = .ok (.iadd, 1) := by decide +kernel
theorem dX9_copyOf_22 : decode cX9_copyOf 22 = .ok (.iaload, 1) := by decide +kernel
theorem dX9_copyOf_23 : decode cX9_copyOf 23 = .ok (.iastore, 1) := by decide +kernel
theorem dX9_copyOf_24 : decode cX9_copyOf 24 = .ok (.iinc 3 1, 3) := by decide +kernel
theorem dX9_copyOf_27 : decode cX9_copyOf 27 = .ok (.goto (-25), 3) := by decide +kernel
theorem dX9_copyOf_30 : decode cX9_copyOf 30 = .ok (.return_, 1) := by decide +kernel
theorem dX9_isMember_0 : decode cX9_isMember 0 = .ok (.iload_n 1, 1) := by decide +kernel
theorem dX9_isMember_1 : decode cX9_isMember 1 = .ok (.i2l, 1) := by decide +kernel
theorem dX9_isMember_2 : decode cX9_isMember 2 = .ok (.lconst 0, 1) := by decide +kernel
theorem dX9_isMember_3 : decode cX9_isMember 3 = .ok (.aload_n 0, 1) := by decide +kernel
theorem dX9_isMember_4 : decode cX9_isMember 4 = .ok (.getfield 7, 3) := by decide +kernel
theorem dX9_isMember_7 : decode cX9_isMember 7 = .ok (.iconst 1, 1) := by decide +kernel
theorem dX9_isMember_8 : decode cX9_isMember 8 = .ok (.iaload, 1) := by decide +kernel
theorem dX9_isMember_9 : decode cX9_isMember 9 = .ok (.iconst 1, 1) := by decide +kernel
theorem dX9_isMember_10 : decode cX9_isMember 10 = .ok (.isub, 1) := by decide +kernel
theorem dX9_isMember_11 : decode cX9_isMember 11 = .ok (.i2l, 1) := by decide +kernel
theorem dX9_isMember_12 : decode cX9_isMember 12 = .ok (.invokestatic 48, 3) := by decide +kernel
theorem dX9_isMember_15 : decode cX9_isMember 15 = .ok (.ireturn, 1) := by decide +kernel
theorem dX9_isType_0 : decode cX9_isType 0 = .ok (.iload_n 1, 1) := by decide +kernel
theorem dX9_isType_1 : decode cX9_isType 1 = .ok (.i2l, 1) := by decide +kernel
theorem dX9_isType_2 : decode cX9_isType 2 = .ok (.lconst 0, 1) := by decide +kernel
theorem dX9_isType_3 : decode cX9_isType 3 = .ok (.aload_n 0, 1) := by decide +kernel
theorem dX9_isType_4 : decode cX9_isType 4 = .ok (.getfield 7, 3) := by decide +kernel
theorem dX9_isType_7 : decode cX9_isType 7 = .ok (.iconst 0, 1) := by decide +kernel
theorem dX9_isType_8 : decode cX9_isType 8 = .ok (.iaload, 1) := by decide +kernel
theorem dX9_isType_9 : decode cX9_isType 9 = .ok (.iconst 1, 1) := by decide +kernel
theorem dX9_isType_10 : decode cX9_isType 10 = .ok (.isub, 1) := by decide +kernel
theorem dX9_isType_11 : decode cX9_isType 11 = .ok (.i2l, 1) := by decide +kernel
theorem dX9_isType_12 : decode cX9_isType 12 = .ok (.invokestatic 48, 3) := by decide +kernel
theorem dX9_isType_15 : decode cX9_isType 15 = .ok (.ireturn, 1) := by decide +kernel
theorem dX9_isWorld_0 : decode cX9_isWorld 0 = .ok (.aload_n 0, 1) := by decide +kernel
theorem dX9_isWorld_1 : decode cX9_isWorld 1 = .ok (.getfield 7, 3) := by decide +kernel
theorem dX9_isWorld_4 : decode cX9_isWorld 4 = .ok (.iconst 1, 1) := by decide +kernel
theorem dX9_isWorld_5 : decode cX9_isWorld 5 = .ok (.iaload, 1) := by decide +kernel
theorem dX9_isWorld_6 : decode cX9_isWorld 6 = .ok (.ifCond .le 7, 3) := by decide +kernel
theorem dX9_isWorld_9 : decode cX9_isWorld 9 = .ok (.iconst 1, 1) := by decide +kernel
theorem dX9_isWorld_10 : decode cX9_isWorld 10 = .ok (.goto 4, 3) := by decide +kernel
theorem dX9_isWorld_13 : decode cX9_isWorld 13 = .ok (.iconst 0, 1) := by decide +kernel
theorem dX9_isWorld_14 : decode cX9_isWorld 14 = .ok (.ireturn, 1) := by decide +kernel
theorem dX9_isRow_0 : decode cX9_isRow 0 = .ok (.iload_n 0, 1) := by decide +kernel
theorem dX9_isRow_1 : decode cX9_isRow 1 = .ok (.i2l, 1) := by decide +kernel
theorem dX9_isRow_2 : decode cX9_isRow 2 = .ok (.lconst 0, 1) := by decide +kernel
theorem dX9_isRow_3 : decode cX9_isRow 3 = .ok (.ldc2_w 52, 3) := by decide +kernel
theorem dX9_isRow_6 : decode cX9_isRow 6 = .ok (.invokestatic 48, 3) := by decide +kernel
theorem dX9_isRow_9 : decode cX9_isRow 9 = .ok (.ireturn, 1) := by decide +kernel
theorem dX9_finds_0 : decode cX9_finds 0 = .ok (.aload_n 0, 1) := by decide +kernel
theorem dX9_finds_1 : decode cX9_finds 1 = .ok (.iload_n 1, 1) := by decide +kernel
theorem dX9_finds_2 : decode cX9_finds 2 = .ok (.putfield 54, 3) := by decide +kernel
theorem dX9_finds_5 : decode cX9_finds 5 = .ok (.ldc 58, 2) := by decide +kernel
theorem dX9_finds_7 : decode cX9_finds 7 = .ok (.iload_n 1, 1) := by decide +kernel
theorem dX9_finds_8 : decode cX9_finds 8 = .ok (.isub, 1) := by decide +kernel
theorem dX9_finds_9 : decode cX9_finds 9 = .ok (.ireturn, 1) := by decide +kernel
theorem dX9_against_0 : decode cX9_against 0 = .ok (.aload_n 0, 1) := by decide +kernel
theorem dX9_against_1 : decode cX9_against 1 = .ok (.getfield 16, 3) := by decide +kernel
theorem dX9_against_4 : decode cX9_against 4 = .ok (.iload_n 1, 1) := by decide +kernel
theorem dX9_against_5 : decode cX9_against 5 = .ok (.iaload, 1) := by decide +kernel
theorem dX9_against_6 : decode cX9_against 6 = .ok (.ifCond .ge 7, 3) := by decide +kernel
theorem dX9_against_9 : decode cX9_against 9 = .ok (.iconst 1, 1) := by decide +kernel
theorem dX9_against_10 : decode cX9_against 10 = .ok (.goto 32, 3) := by decide +kernel
theorem dX9_against_13 : decode cX9_against 13 = .ok (.iload_n 2, 1) := by decide +kernel
theorem dX9_against_14 : decode cX9_against 14 = .ok (.ifCond .lt 23, 3) := by decide +kernel
theorem dX9_against_17 : decode cX9_against 17 = .ok (.iload_n 3, 1) := by decide +kernel
theorem dX9_against_18 : decode cX9_against 18 = .ok (.ifCond .lt 19, 3) := by decide +kernel
theorem dX9_against_21 : decode cX9_against 21 = .ok (.iload_n 2, 1) := by decide +kernel
theorem dX9_against_22 : decode cX9_against 22 = .ok (.i2l, 1) := by decide +kernel
theorem dX9_against_23 : decode cX9_against 23 = .ok (.iload_n 3, 1) := by decide +kernel
theorem dX9_against_24 : decode cX9_against 24 = .ok (.i2l, 1) := by decide +kernel
theorem dX9_against_25 : decode cX9_against 25 = .ok (.ladd, 1) := by decide +kernel
theorem dX9_against_26 : decode cX9_against 26 = .ok (.aload_n 0, 1) := by decide +kernel
theorem dX9_against_27 : decode cX9_against 27 = .ok (.getfield 16, 3) := by decide +kernel
theorem dX9_against_30 : decode cX9_against 30 = .ok (.iload_n 1, 1) := by decide +kernel
theorem dX9_against_31 : decode cX9_against 31 = .ok (.iaload, 1) := by decide +kernel
theorem dX9_against_32 : decode cX9_against 32 = .ok (.i2l, 1) := by decide +kernel
theorem dX9_against_33 : decode cX9_against 33 = .ok (.lcmp, 1) := by decide +kernel
theorem dX9_against_34 : decode cX9_against 34 = .ok (.ifCond .le 7, 3) := by decide +kernel
theorem dX9_against_37 : decode cX9_against 37 = .ok (.iconst 2, 1) := by decide +kernel
theorem dX9_against_38 : decode cX9_against 38 = .ok (.goto 4, 3) := by decide +kernel
theorem dX9_against_41 : decode cX9_against 41 = .ok (.iconst 0, 1) := by decide +kernel
theorem dX9_against_42 : decode cX9_against 42 = .ok (.ireturn, 1) := by decide +kernel
theorem dX9_row_0 : decode cX9_row 0 = .ok (.iload_n 1, 1) := by decide +kernel
theorem dX9_row_1 : decode cX9_row 1 = .ok (.invokestatic 59, 3) := by decide +kernel
theorem dX9_row_4 : decode cX9_row 4 = .ok (.ifCond .eq 21, 3) := by decide +kernel
theorem dX9_row_7 : decode cX9_row 7 = .ok (.iload_n 2, 1) := by decide +kernel
theorem dX9_row_8 : decode cX9_row 8 = .ok (.i2l, 1) := by decide +kernel
theorem dX9_row_9 : decode cX9_row 9 = .ok (.lconst 0, 1) := by decide +kernel
theorem dX9_row_10 : decode cX9_row 10 = .ok (.ldc2_w 63, 3) := by decide +kernel
theorem dX9_row_13 : decode cX9_row 13 = .ok (.invokestatic 48, 3) := by decide +kernel
theorem dX9_row_16 : decode cX9_row 16 = .ok (.ifCond .eq 9, 3) := by decide +kernel
theorem dX9_row_19 : decode cX9_row 19 = .ok (.iload_n 3, 1) := by decide +kernel
theorem dX9_row_20 : decode cX9_row 20 = .ok (.bipush 40, 2) := by decide +kernel
theorem dX9_row_22 : decode cX9_row 22 = .ok (.if_icmp .le 6, 3) := by decide +kernel
theorem dX9_row_25 : decode cX9_row 25 = .ok (.ldc 65, 2) := by decide +kernel
theorem dX9_row_27 : decode cX9_row 27 = .ok (.ireturn, 1) := by decide +kernel
theorem dX9_row_28 : decode cX9_row 28 = .ok (.iload_n 3, 1) := by decide +kernel
theorem dX9_row_29 : decode cX9_row 29 = .ok (.ifCond .ge 9, 3) := by decide +kernel
theorem dX9_row_32 : decode cX9_row 32 = .ok (.aload_n 0, 1) := by decide +kernel
theorem dX9_row_33 : decode cX9_row 33 = .ok (.iconst 4, 1) := by decide +kernel
theorem dX9_row_34 : decode cX9_row 34 = .ok (.invokevirtual 66, 3) := by decide +kernel
theorem dX9_row_37 : decode cX9_row 37 = .ok (.ireturn, 1) := by decide +kernel
theorem dX9_row_38 : decode cX9_row 38 = .ok (.aload_n 0, 1) := by decide +kernel
theorem dX9_row_39 : decode cX9_row 39 = .ok (.iconst 0, 1) := by decide +kernel
theorem dX9_row_40 : decode cX9_row 40 = .ok (.putfield 54, 3) := by decide +kernel
theorem dX9_row_43 : decode cX9_row 43 = .ok (.aload_n 0, 1) := by decide +kernel
theorem dX9_row_44 : decode cX9_row 44 = .ok (.getfield 16, 3) := by decide +kernel
theorem dX9_row_47 : decode cX9_row 47 = .ok (.iload_n 1, 1) := by decide +kernel
theorem dX9_row_48 : decode cX9_row 48 = .ok (.iload_n 3, 1) := by decide +kernel
theorem dX9_row_49 : decode cX9_row 49 = .ok (.iastore, 1) := by decide +kernel
theorem dX9_row_50 : decode cX9_row 50 = .ok (.aload_n 0, 1) := by decide +kernel
theorem dX9_row_51 : decode cX9_row 51 = .ok (.getfield 19, 3) := by decide +kernel
theorem dX9_row_54 : decode cX9_row 54 = .ok (.iload_n 1, 1) := by decide +kernel
theorem dX9_row_55 : decode cX9_row 55 = .ok (.iload_n 2, 1) := by decide +kernel
theorem dX9_row_56 : decode cX9_row 56 = .ok (.iastore, 1) := by decide +kernel
theorem dX9_row_57 : decode cX9_row 57 = .ok (.iconst 0, 1) := by decide +kernel
theorem dX9_row_58 : decode cX9_row 58 = .ok (.istore 4, 2) := by decide +kernel
theorem dX9_row_60 : decode cX9_row 60 = .ok (.iload 4, 2) := by decide +kernel
theorem dX9_row_62 : decode cX9_row 62 = .ok (.bipush 40, 2) := by decide +kernel
theorem dX9_row_64 : decode cX9_row 64 = .ok (.if_icmp .ge 22, 3) := by decide +kernel
theorem dX9_row_67 : decode cX9_row 67 = .ok (.aload_n 0, 1) := by decide +kernel
theorem dX9_row_68 : decode cX9_row 68 = .ok (.getfield 22, 3) := by decide +kernel
theorem dX9_row_71 : decode cX9_row 71 = .ok (.bipush 40, 2) := by decide +kernel
theorem dX9_row_73 : decode cX9_row 73 = .ok (.iload_n 1, 1) := by decide +kernel
theorem dX9_row_74 : decode cX9_row 74 = .ok (.imul, 1) := by decide +kernel
theorem dX9_row_75 : decode cX9_row 75 = .ok (.iload 4, 2) := by decide +kernel
theorem dX9_row_77 : decode cX9_row 77 = .ok (.iadd, 1) := by decide +kernel
theorem dX9_row_78 : decode cX9_row 78 = .ok (.iconst 0, 1) := by decide +kernel
theorem dX9_row_79 : decode cX9_row 79 = .ok (.iastore, 1) := by decide +kernel
theorem dX9_row_80 : decode cX9_row 80 = .ok (.iinc 4 1, 3) := by decide +kernel
theorem dX9_row_83 : decode cX9_row 83 = .ok (.goto (-23), 3) := by decide +kernel
theorem dX9_row_86 : decode cX9_row 86 = .ok (.iload_n 3, 1) := by decide +kernel
theorem dX9_row_87 : decode cX9_row 87 = .ok (.ireturn, 1) := by decide +kernel
theorem dX9_set_0 : decode cX9_set 0 = .ok (.iload_n 1, 1) := by decide +kernel
theorem dX9_set_1 : decode cX9_set 1 = .ok (.invokestatic 59, 3) := by decide +kernel
theorem dX9_set_4 : decode cX9_set 4 = .ok (.ifCond .ne 6, 3) := by decide +kernel
theorem dX9_set_7 : decode cX9_set 7 = .ok (.ldc 65, 2) := by decide +kernel
theorem dX9_set_9 : decode cX9_set 9 = .ok (.ireturn, 1) := by decide +kernel
theorem dX9_set_10 : decode cX9_set 10 = .ok (.aload_n 0, 1) := by decide +kernel
theorem dX9_set_11 : decode cX9_set 11 = .ok (.iload_n 1, 1) := by decide +kernel
