theorem dX8_init_0 : decode cX8_init 0 = .ok (.aload_n 0, 1) := by decide +kernel
theorem dX8_init_1 : decode cX8_init 1 = .ok (.invokespecial 1, 3) := by decide +kernel
theorem dX8_init_4 : decode cX8_init 4 = .ok (.aload_n 0, 1) := by decide +kernel
theorem dX8_init_5 : decode cX8_init 5 = .ok (.new 7, 3) := by decide +kernel
theorem dX8_init_8 : decode cX8_init 8 = .ok (.dup, 1) := by decide +kernel
theorem dX8_init_9 : decode cX8_init 9 = .ok (.invokespecial 9, 3) := by decide +kernel
theorem dX8_init_12 : decode cX8_init 12 = .ok (.putfield 10, 3) := by decide +kernel
theorem dX8_init_15 : decode cX8_init 15 = .ok (.aload_n 0, 1) := by decide +kernel
theorem dX8_init_16 : decode cX8_init 16 = .ok (.new 16, 3) := by decide +kernel
theorem dX8_init_19 : decode cX8_init 19 = .ok (.dup, 1) := by decide +kernel
theorem dX8_init_20 : decode cX8_init 20 = .ok (.aload_n 0, 1) := by decide +kernel
theorem dX8_init_21 : decode cX8_init 21 = .ok (.getfield 10, 3) := by decide +kernel
theorem dX8_init_24 : decode cX8_init 24 = .ok (.invokespecial 18, 3) := by decide +kernel
theorem dX8_init_27 : decode cX8_init 27 = .ok (.putfield 21, 3) := by decide +kernel
theorem dX8_init_30 : decode cX8_init 30 = .ok (.aload_n 0, 1) := by decide +kernel
theorem dX8_init_31 : decode cX8_init 31 = .ok (.new 25, 3) := by decide +kernel
theorem dX8_init_34 : decode cX8_init 34 = .ok (.dup, 1) := by decide +kernel
theorem dX8_init_35 : decode cX8_init 35 = .ok (.invokespecial 27, 3) := by decide +kernel
theorem dX8_init_38 : decode cX8_init 38 = .ok (.putfield 28, 3) := by decide +kernel
theorem dX8_init_41 : decode cX8_init 41 = .ok (.aload_n 0, 1) := by decide +kernel
theorem dX8_init_42 : decode cX8_init 42 = .ok (.new 32, 3) := by decide +kernel
theorem dX8_init_45 : decode cX8_init 45 = .ok (.dup, 1) := by decide +kernel
theorem dX8_init_46 : decode cX8_init 46 = .ok (.aload_n 0, 1) := by decide +kernel
theorem dX8_init_47 : decode cX8_init 47 = .ok (.getfield 28, 3) := by decide +kernel
theorem dX8_init_50 : decode cX8_init 50 = .ok (.invokespecial 34, 3) := by decide +kernel
theorem dX8_init_53 : decode cX8_init 53 = .ok (.putfield 37, 3) := by decide +kernel
theorem dX8_init_56 : decode cX8_init 56 = .ok (.aload_n 0, 1) := by decide +kernel
theorem dX8_init_57 : decode cX8_init 57 = .ok (.new 41, 3) := by decide +kernel
theorem dX8_init_60 : decode cX8_init 60 = .ok (.dup, 1) := by decide +kernel
theorem dX8_init_61 : decode cX8_init 61 = .ok (.aload_n 0, 1) := by decide +kernel
theorem dX8_init_62 : decode cX8_init 62 = .ok (.getfield 28, 3) := by decide +kernel
theorem dX8_init_65 : decode cX8_init 65 = .ok (.invokespecial 43, 3) := by decide +kernel
theorem dX8_init_68 : decode cX8_init 68 = .ok (.putfield 44, 3) := by decide +kernel
theorem dX8_init_71 : decode cX8_init 71 = .ok (.aload_n 0, 1) := by decide +kernel
theorem dX8_init_72 : decode cX8_init 72 = .ok (.bipush 8, 2) := by decide +kernel
theorem dX8_init_74 : decode cX8_init 74 = .ok (.anewarray 48, 3) := by decide +kernel
theorem dX8_init_77 : decode cX8_init 77 = .ok (.putfield 50, 3) := by decide +kernel
theorem dX8_init_80 : decode cX8_init 80 = .ok (.aload_n 0, 1) := by decide +kernel
theorem dX8_init_81 : decode cX8_init 81 = .ok (.iconst 4, 1) := by decide +kernel
theorem dX8_init_82 : decode cX8_init 82 = .ok (.newarray .int, 2) := by decide +kernel
theorem dX8_init_84 : decode cX8_init 84 = .ok (.putfield 54, 3) := by decide +kernel
theorem dX8_init_87 : decode cX8_init 87 = .ok (.aload_n 0, 1) := by decide +kernel
theorem dX8_init_88 : decode cX8_init 88 = .ok (.getfield 54, 3) := by decide +kernel
theorem dX8_init_91 : decode cX8_init 91 = .ok (.bipush 7, 2) := by decide +kernel
theorem dX8_init_93 : decode cX8_init 93 = .ok (.invokestatic 58, 3) := by decide +kernel
theorem dX8_init_96 : decode cX8_init 96 = .ok (.aload_n 0, 1) := by decide +kernel
theorem dX8_init_97 : decode cX8_init 97 = .ok (.bipush 8, 2) := by decide +kernel
theorem dX8_init_99 : decode cX8_init 99 = .ok (.bipush 31, 2) := by decide +kernel
theorem dX8_init_101 : decode cX8_init 101 = .ok (.multianewarray 64 2, 4) := by decide +kernel
theorem dX8_init_105 : decode cX8_init 105 = .ok (.putfield 66, 3) := by decide +kernel
theorem dX8_init_108 : decode cX8_init 108 = .ok (.iconst 0, 1) := by decide +kernel
theorem dX8_init_109 : decode cX8_init 109 = .ok (.istore_n 1, 1) := by decide +kernel
theorem dX8_init_110 : decode cX8_init 110 = .ok (.iload_n 1, 1) := by decide +kernel
theorem dX8_init_111 : decode cX8_init 111 = .ok (.bipush 8, 2) := by decide +kernel
theorem dX8_init_113 : decode cX8_init 113 = .ok (.if_icmp .ge 19, 3) := by decide +kernel
theorem dX8_init_116 : decode cX8_init 116 = .ok (.aload_n 0, 1) := by decide +kernel
theorem dX8_init_117 : decode cX8_init 117 = .ok (.getfield 66, 3) := by decide +kernel
theorem dX8_init_120 : decode cX8_init 120 = .ok (.iload_n 1, 1) := by decide +kernel
theorem dX8_init_121 : decode cX8_init 121 = .ok (.aaload, 1) := by decide +kernel
theorem dX8_init_122 : decode cX8_init 122 = .ok (.iconst (-1), 1) := by decide +kernel
theorem dX8_init_123 : decode cX8_init 123 = .ok (.invokestatic 58, 3) := by decide +kernel
theorem dX8_init_126 : decode cX8_init 126 = .ok (.iinc 1 1, 3) := by decide +kernel
theorem dX8_init_129 : decode cX8_init 129 = .ok (.goto (-19), 3) := by decide +kernel
theorem dX8_init_132 : decode cX8_init 132 = .ok (.aload_n 0, 1) := by decide +kernel
theorem dX8_init_133 : decode cX8_init 133 = .ok (.new 48, 3) := by decide +kernel
theorem dX8_init_136 : decode cX8_init 136 = .ok (.dup, 1) := by decide +kernel
theorem dX8_init_137 : decode cX8_init 137 = .ok (.invokespecial 69, 3) := by decide +kernel
theorem dX8_init_140 : decode cX8_init 140 = .ok (.putfield 70, 3) := by decide +kernel
theorem dX8_init_143 : decode cX8_init 143 = .ok (.aload_n 0, 1) := by decide +kernel
theorem dX8_init_144 : decode cX8_init 144 = .ok (.bipush 100, 2) := by decide +kernel
theorem dX8_init_146 : decode cX8_init 146 = .ok (.putfield 74, 3) := by decide +kernel
theorem dX8_init_149 : decode cX8_init 149 = .ok (.aload_n 0, 1) := by decide +kernel
theorem dX8_init_150 : decode cX8_init 150 = .ok (.iconst (-1), 1) := by decide +kernel
theorem dX8_init_151 : decode cX8_init 151 = .ok (.putfield 78, 3) := by decide +kernel
theorem dX8_init_154 : decode cX8_init 154 = .ok (.aload_n 0, 1) := by decide +kernel
theorem dX8_init_155 : decode cX8_init 155 = .ok (.iconst (-1), 1) := by decide +kernel
theorem dX8_init_156 : decode cX8_init 156 = .ok (.putfield 81, 3) := by decide +kernel
theorem dX8_init_159 : decode cX8_init 159 = .ok (.return_, 1) := by decide +kernel
theorem dX8_feed_0 : decode cX8_feed 0 = .ok (.aload_n 0, 1) := by decide +kernel
theorem dX8_feed_1 : decode cX8_feed 1 = .ok (.getfield 10, 3) := by decide +kernel
theorem dX8_feed_4 : decode cX8_feed 4 = .ok (.bipush 20, 2) := by decide +kernel
theorem dX8_feed_6 : decode cX8_feed 6 = .ok (.invokevirtual 84, 3) := by decide +kernel
theorem dX8_feed_9 : decode cX8_feed 9 = .ok (.ifCond .ne 5, 3) := by decide +kernel
theorem dX8_feed_12 : decode cX8_feed 12 = .ok (.iconst (-1), 1) := by decide +kernel
theorem dX8_feed_13 : decode cX8_feed 13 = .ok (.ireturn, 1) := by decide +kernel
theorem dX8_feed_14 : decode cX8_feed 14 = .ok (.aload_n 0, 1) := by decide +kernel
theorem dX8_feed_15 : decode cX8_feed 15 = .ok (.getfield 10, 3) := by decide +kernel
theorem dX8_feed_18 : decode cX8_feed 18 = .ok (.iload_n 1, 1) := by decide +kernel
theorem dX8_feed_19 : decode cX8_feed 19 = .ok (.invokevirtual 88, 3) := by decide +kernel
theorem dX8_feed_22 : decode cX8_feed 22 = .ok (.aload_n 0, 1) := by decide +kernel
theorem dX8_feed_23 : decode cX8_feed 23 = .ok (.getfield 10, 3) := by decide +kernel
theorem dX8_feed_26 : decode cX8_feed 26 = .ok (.iload_n 2, 1) := by decide +kernel
theorem dX8_feed_27 : decode cX8_feed 27 = .ok (.invokevirtual 88, 3) := by decide +kernel
theorem dX8_feed_30 : decode cX8_feed 30 = .ok (.aload_n 0, 1) := by decide +kernel
theorem dX8_feed_31 : decode cX8_feed 31 = .ok (.getfield 10, 3) := by decide +kernel
theorem dX8_feed_34 : decode cX8_feed 34 = .ok (.iload_n 3, 1) := by decide +kernel
theorem dX8_feed_35 : decode cX8_feed 35 = .ok (.invokevirtual 88, 3) := by decide +kernel
theorem dX8_feed_38 : decode cX8_feed 38 = .ok (.aload_n 0, 1) := by decide +kernel
theorem dX8_feed_39 : decode cX8_feed 39 = .ok (.getfield 10, 3) := by decide +kernel
theorem dX8_feed_42 : decode cX8_feed 42 = .ok (.iload 4, 2) := by decide +kernel
theorem dX8_feed_44 : decode cX8_feed 44 = .ok (.invokevirtual 88, 3) := by decide +kernel
theorem dX8_feed_47 : decode cX8_feed 47 = .ok (.aload_n 0, 1) := by decide +kernel
theorem dX8_feed_48 : decode cX8_feed 48 = .ok (.getfield 10, 3) := by decide +kernel
theorem dX8_feed_51 : decode cX8_feed 51 = .ok (.iload 5, 2) := by decide +kernel
theorem dX8_feed_53 : decode cX8_feed 53 = .ok (.invokevirtual 88, 3) := by decide +kernel
theorem dX8_feed_56 : decode cX8_feed 56 = .ok (.aload_n 0, 1) := by decide +kernel
theorem dX8_feed_57 : decode cX8_feed 57 = .ok (.getfield 10, 3) := by decide +kernel
theorem dX8_feed_60 : decode cX8_feed 60 = .ok (.getfield 92, 3) := by decide +kernel
theorem dX8_feed_63 : decode cX8_feed 63 = .ok (.ireturn, 1) := by decide +kernel
theorem dX8_end_0 : decode cX8_end 0 = .ok (.iload_n 1, 1) := by decide +kernel
theorem dX8_end_1 : decode cX8_end 1 = .ok (.ifCond .lt 14, 3) := by decide +kernel
theorem dX8_end_4 : decode cX8_end 4 = .ok (.iload_n 1, 1) := by decide +kernel
theorem dX8_end_5 : decode cX8_end 5 = .ok (.aload_n 0, 1) := by decide +kernel
theorem dX8_end_6 : decode cX8_end 6 = .ok (.getfield 10, 3) := by decide +kernel
theorem dX8_end_9 : decode cX8_end 9 = .ok (.getfield 92, 3) := by decide +kernel
theorem dX8_end_12 : decode cX8_end 12 = .ok (.if_icmp .le 5, 3) := by decide +kernel
theorem dX8_end_15 : decode cX8_end 15 = .ok (.iconst 0, 1) := by decide +kernel
theorem dX8_end_16 : decode cX8_end 16 = .ok (.ireturn, 1) := by decide +kernel
theorem dX8_end_17 : decode cX8_end 17 = .ok (.aload_n 0, 1) := by decide +kernel
theorem dX8_end_18 : decode cX8_end 18 = .ok (.getfield 10, 3) := by decide +kernel
theorem dX8_end_21 : decode cX8_end 21 = .ok (.iload_n 1, 1) := by decide +kernel
theorem dX8_end_22 : decode cX8_end 22 = .ok (.putfield 92, 3) := by decide +kernel
theorem dX8_end_25 : decode cX8_end 25 = .ok (.iconst 1, 1) := by decide +kernel
theorem dX8_end_26 : decode cX8_end 26 = .ok (.ireturn, 1) := by decide +kernel
theorem dX8_ticks_0 : decode cX8_ticks 0 = .ok (.iload_n 1, 1) := by decide +kernel
theorem dX8_ticks_1 : decode cX8_ticks 1 = .ok (.ifCond .lt 9, 3) := by decide +kernel
theorem dX8_ticks_4 : decode cX8_ticks 4 = .ok (.iload_n 1, 1) := by decide +kernel
theorem dX8_ticks_5 : decode cX8_ticks 5 = .ok (.ldc 95, 2) := by decide +kernel
theorem dX8_ticks_7 : decode cX8_ticks 7 = .ok (.if_icmp .le 13, 3) := by decide +kernel
theorem dX8_ticks_10 : decode cX8_ticks 10 = .ok (.new 96, 3) := by decide +kernel
theorem dX8_ticks_13 : decode cX8_ticks 13 = .ok (.dup, 1) := by decide +kernel
theorem dX8_ticks_14 : decode cX8_ticks 14 = .ok (.ldc 98, 2) := by decide +kernel
theorem dX8_ticks_16 : decode cX8_ticks 16 = .ok (.invokespecial 100, 3) := by decide +kernel
theorem dX8_ticks_19 : decode cX8_ticks 19 = .ok (.athrow, 1) := by decide +kernel
theorem dX8_ticks_20 : decode cX8_ticks 20 = .ok (.aload_n 0, 1) := by decide +kernel
theorem dX8_ticks_21 : decode cX8_ticks 21 = .ok (.aload_n 0, 1) := by decide +kernel
theorem dX8_ticks_22 : decode cX8_ticks 22 = .ok (.getfield 103, 3) := by decide +kernel
theorem dX8_ticks_25 : decode cX8_ticks 25 = .ok (.iload_n 1, 1) := by decide +kernel
theorem dX8_ticks_26 : decode cX8_ticks 26 = .ok (.iadd, 1) := by decide +kernel
theorem dX8_ticks_27 : decode cX8_ticks 27 = .ok (.ldc 106, 2) := by decide +kernel
theorem dX8_ticks_29 : decode cX8_ticks 29 = .ok (.invokestatic 107, 3) := by decide +kernel
theorem dX8_ticks_32 : decode cX8_ticks 32 = .ok (.putfield 103, 3) := by decide +kernel
theorem dX8_ticks_35 : decode cX8_ticks 35 = .ok (.aload_n 0, 1) := by decide +kernel
theorem dX8_ticks_36 : decode cX8_ticks 36 = .ok (.dup, 1) := by decide +kernel
theorem dX8_ticks_37 : decode cX8_ticks 37 = .ok (.getfield 113, 3) := by decide +kernel
theorem dX8_ticks_40 : decode cX8_ticks 40 = .ok (.iconst 1, 1) := by decide +kernel
theorem dX8_ticks_41 : decode cX8_ticks 41 = .ok (.iadd, 1) := by decide +kernel
theorem dX8_ticks_42 : decode cX8_ticks 42 = .ok (.putfield 113, 3) := by decide +kernel
theorem dX8_ticks_45 : decode cX8_ticks 45 = .ok (.aload_n 0, 1) := by decide +kernel
theorem dX8_ticks_46 : decode cX8_ticks 46 = .ok (.getfield 103, 3) := by decide +kernel
theorem dX8_ticks_49 : decode cX8_ticks 49 = .ok (.ireturn, 1) := by decide +kernel
theorem dX8_act_0 : decode cX8_act 0 = .ok (.iload_n 1, 1) := by decide +kernel
theorem dX8_act_1 : decode cX8_act 1 = .ok (.bipush 8, 2) := by decide +kernel
theorem dX8_act_3 : decode cX8_act 3 = .ok (.invokestatic 116, 3) := by decide +kernel
theorem dX8_act_6 : decode cX8_act 6 = .ok (.ifCond .eq 31, 3) := by decide +kernel
theorem dX8_act_9 : decode cX8_act 9 = .ok (.iload_n 2, 1) := by decide +kernel
theorem dX8_act_10 : decode cX8_act 10 = .ok (.bipush 31, 2) := by decide +kernel
theorem dX8_act_12 : decode cX8_act 12 = .ok (.invokestatic 116, 3) := by decide +kernel
theorem dX8_act_15 : decode cX8_act 15 = .ok (.ifCond .eq 22, 3) := by decide +kernel
theorem dX8_act_18 : decode cX8_act 18 = .ok (.iload_n 3, 1) := by decide +kernel
theorem dX8_act_19 : decode cX8_act 19 = .ok (.bipush 31, 2) := by decide +kernel
theorem dX8_act_21 : decode cX8_act 21 = .ok (.invokestatic 116, 3) := by decide +kernel
theorem dX8_act_24 : decode cX8_act 24 = .ok (.ifCond .eq 13, 3) := by decide +kernel
theorem dX8_act_27 : decode cX8_act 27 = .ok (.iload 4, 2) := by decide +kernel
theorem dX8_act_29 : decode cX8_act 29 = .ok (.bipush 16, 2) := by decide +kernel
theorem dX8_act_31 : decode cX8_act 31 = .ok (.invokestatic 116, 3) := by decide +kernel
theorem dX8_act_34 : decode cX8_act 34 = .ok (.ifCond .ne 13, 3) := by decide +kernel
theorem dX8_act_37 : decode cX8_act 37 = .ok (.new 96, 3) := by decide +kernel
theorem dX8_act_40 : decode cX8_act 40 = .ok (.dup, 1) := by decide +kernel
theorem dX8_act_41 : decode cX8_act 41 = .ok (.ldc 120, 2) := by decide +kernel
theorem dX8_act_43 : decode cX8_act 43 = .ok (.invokespecial 100, 3) := by decide +kernel
theorem dX8_act_46 : decode cX8_act 46 = .ok (.athrow, 1) := by decide +kernel
theorem dX8_act_47 : decode cX8_act 47 = .ok (.iload 5, 2) := by decide +kernel
theorem dX8_act_49 : decode cX8_act 49 = .ok (.ifCond .lt 12, 3) := by decide +kernel
theorem dX8_act_52 : decode cX8_act 52 = .ok (.iload 5, 2) := by decide +kernel
theorem dX8_act_54 : decode cX8_act 54 = .ok (.aload_n 0, 1) := by decide +kernel
theorem dX8_act_55 : decode cX8_act 55 = .ok (.getfield 103, 3) := by decide +kernel
theorem dX8_act_58 : decode cX8_act 58 = .ok (.if_icmp .le 13, 3) := by decide +kernel
theorem dX8_act_61 : decode cX8_act 61 = .ok (.new 96, 3) := by decide +kernel
theorem dX8_act_64 : decode cX8_act 64 = .ok (.dup, 1) := by decide +kernel
theorem dX8_act_65 : decode cX8_act 65 = .ok (.ldc 122, 2) := by decide +kernel
theorem dX8_act_67 : decode cX8_act 67 = .ok (.invokespecial 100, 3) := by decide +kernel
theorem dX8_act_70 : decode cX8_act 70 = .ok (.athrow, 1) := by decide +kernel
theorem dX8_act_71 : decode cX8_act 71 = .ok (.aload_n 0, 1) := by decide +kernel
theorem dX8_act_72 : decode cX8_act 72 = .ok (.getfield 28, 3) := by decide +kernel
theorem dX8_act_75 : decode cX8_act 75 = .ok (.iload_n 1, 1) := by decide +kernel
theorem dX8_act_76 : decode cX8_act 76 = .ok (.iload_n 2, 1) := by decide +kernel
theorem dX8_act_77 : decode cX8_act 77 = .ok (.iload_n 3, 1) := by decide +kernel
theorem dX8_act_78 : decode cX8_act 78 = .ok (.iload 4, 2) := by decide +kernel
theorem dX8_act_80 : decode cX8_act 80 = .ok (.iload 5, 2) := by decide +kernel
theorem dX8_act_82 : decode cX8_act 82 = .ok (.invokevirtual 124, 3) := by decide +kernel
theorem dX8_act_85 : decode cX8_act 85 = .ok (.ifCond .eq 5, 3) := by decide +kernel
theorem dX8_act_88 : decode cX8_act 88 = .ok (.iconst (-1), 1) := by decide +kernel
theorem dX8_act_89 : decode cX8_act 89 = .ok (.ireturn, 1) := by decide +kernel
theorem dX8_act_90 : decode cX8_act 90 = .ok (.aload_n 0, 1) := by decide +kernel
theorem dX8_act_91 : decode cX8_act 91 = .ok (.getfield 28, 3) := by decide +kernel
theorem dX8_act_94 : decode cX8_act 94 = .ok (.getfield 128, 3) := by decide +kernel
theorem dX8_act_97 : decode cX8_act 97 = .ok (.sipush 250, 3) := by decide +kernel
theorem dX8_act_100 : decode cX8_act 100 = .ok (.if_icmp .lt 13, 3) := by decide +kernel
theorem dX8_act_103 : decode cX8_act 103 = .ok (.new 131, 3) := by decide +kernel
theorem dX8_act_106 : decode cX8_act 106 = .ok (.dup, 1) := by decide +kernel
theorem dX8_act_107 : decode cX8_act 107 = .ok (.ldc 133, 2) := by decide +kernel
theorem dX8_act_109 : decode cX8_act 109 = .ok (.invokespecial 135, 3) := by decide +kernel
theorem dX8_act_112 : decode cX8_act 112 = .ok (.athrow, 1) := by decide +kernel
theorem dX8_act_113 : decode cX8_act 113 = .ok (.aload_n 0, 1) := by decide +kernel
theorem dX8_act_114 : decode cX8_act 114 = .ok (.getfield 28, 3) := by decide +kernel
theorem dX8_act_117 : decode cX8_act 117 = .ok (.getfield 128, 3) := by decide +kernel
theorem dX8_act_120 : decode cX8_act 120 = .ok (.istore 6, 2) := by decide +kernel
theorem dX8_act_122 : decode cX8_act 122 = .ok (.aload_n 0, 1) := by decide +kernel
theorem dX8_act_123 : decode cX8_act 123 = .ok (.getfield 28, 3) := by decide +kernel
theorem dX8_act_126 : decode cX8_act 126 = .ok (.new 136, 3) := by decide +kernel
theorem dX8_act_129 : decode cX8_act 129 = .ok (.dup, 1) := by decide +kernel
theorem dX8_act_130 : decode cX8_act 130 = .ok (.iload 6, 2) := by decide +kernel
theorem dX8_act_132 : decode cX8_act 132 = .ok (.iload_n 1, 1) := by decide +kernel
theorem dX8_act_133 : decode cX8_act 133 = .ok (.iload_n 2, 1) := by decide +kernel
theorem dX8_act_134 : decode cX8_act 134 = .ok (.iload_n 3, 1) := by decide +kernel
theorem dX8_act_135 : decode cX8_act 135 = .ok (.iload 4, 2) := by decide +kernel
theorem dX8_act_137 : decode cX8_act 137 = .ok (.iload 5, 2) := by decide +kernel
theorem dX8_act_139 : decode cX8_act 139 = .ok (.aload_n 0, 1) := by decide +kernel
theorem dX8_act_140 : decode cX8_act 140 = .ok (.getfield 103, 3) := by decide +kernel
theorem dX8_act_143 : decode cX8_act 143 = .ok (.invokespecial 138, 3) := by decide +kernel
theorem dX8_act_146 : decode cX8_act 146 = .ok (.invokevirtual 141, 3) := by decide +kernel
theorem dX8_act_149 : decode cX8_act 149 = .ok (.aload_n 0, 1) := by decide +kernel
theorem dX8_act_150 : decode cX8_act 150 = .ok (.dup, 1) := by decide +kernel
theorem dX8_act_151 : decode cX8_act 151 = .ok (.getfield 113, 3) := by decide +kernel
theorem dX8_act_154 : decode cX8_act 154 = .ok (.iconst 1, 1) := by decide +kernel
theorem dX8_act_155 : decode cX8_act 155 = .ok (.iadd, 1) := by decide +kernel
theorem dX8_act_156 : decode cX8_act 156 = .ok (.putfield 113, 3) := by decide +kernel
theorem dX8_act_159 : decode cX8_act 159 = .ok (.iload 6, 2) := by decide +kernel
theorem dX8_act_161 : decode cX8_act 161 = .ok (.ireturn, 1) := by decide +kernel
theorem dX8_look_0 : decode cX8_look 0 = .ok (.aload_n 0, 1) := by decide +kernel
theorem dX8_look_1 : decode cX8_look 1 = .ok (.iload_n 1, 1) := by decide +kernel
theorem dX8_look_2 : decode cX8_look 2 = .ok (.invokevirtual 145, 3) := by decide +kernel
theorem dX8_look_5 : decode cX8_look 5 = .ok (.astore_n 3, 1) := by decide +kernel
theorem dX8_look_6 : decode cX8_look 6 = .ok (.iload_n 2, 1) := by decide +kernel
theorem dX8_look_7 : decode cX8_look 7 = .ok (.tableswitch 76 0 6 #[41, 46, 51, 56, 61, 66, 71], 41) := by decide +kernel
theorem dX8_look_48 : decode cX8_look 48 = .ok (.aload_n 3, 1) := by decide +kernel
theorem dX8_look_49 : decode cX8_look 49 = .ok (.getfield 149, 3) := by decide +kernel
theorem dX8_look_52 : decode cX8_look 52 = .ok (.ireturn, 1) := by decide +kernel
theorem dX8_look_53 : decode cX8_look 53 = .ok (.aload_n 3, 1) := by decide +kernel
theorem dX8_look_54 : decode cX8_look 54 = .ok (.getfield 152, 3) := by decide +kernel
theorem dX8_look_57 : decode cX8_look 57 = .ok (.ireturn, 1) := by decide +kernel
theorem dX8_look_58 : decode cX8_look 58 = .ok (.aload_n 3, 1) := by decide +kernel
theorem dX8_look_59 : decode cX8_look 59 = .ok (.getfield 155, 3) := by decide +kernel
theorem dX8_look_62 : decode cX8_look 62 = .ok (.ireturn, 1) := by decide +kernel
theorem dX8_look_63 : decode cX8_look 63 = .ok (.aload_n 3, 1) := by decide +kernel
theorem dX8_look_64 : decode cX8_look 64 = .ok (.getfield 158, 3) := by decide +kernel
theorem dX8_look_67 : decode cX8_look 67 = .ok (.ireturn, 1) := by decide +kernel
theorem dX8_look_68 : decode cX8_look 68 = .ok (.aload_n 3, 1) := by decide +kernel
theorem dX8_look_69 : decode cX8_look 69 = .ok (.getfield 161, 3) := by decide +kernel
theorem dX8_look_72 : decode cX8_look 72 = .ok (.ireturn, 1) := by decide +kernel
theorem dX8_look_73 : decode cX8_look 73 = .ok (.aload_n 3, 1) := by decide +kernel
theorem dX8_look_74 : decode cX8_look 74 = .ok (.getfield 164, 3) := by decide +kernel
theorem dX8_look_77 : decode cX8_look 77 = .ok (.ireturn, 1) := by decide +kernel
theorem dX8_look_78 : decode cX8_look 78 = .ok (.aload_n 3, 1) := by decide +kernel
theorem dX8_look_79 : decode cX8_look 79 = .ok (.getfield 167, 3) := by decide +kernel
theorem dX8_look_82 : decode cX8_look 82 = .ok (.ireturn, 1) := by decide +kernel
theorem dX8_look_83 : decode cX8_look 83 = .ok (.new 170, 3) := by decide +kernel
theorem dX8_look_86 : decode cX8_look 86 = .ok (.dup, 1) := by decide +kernel
theorem dX8_look_87 : decode cX8_look 87 = .ok (.ldc 172, 2) := by decide +kernel
theorem dX8_look_89 : decode cX8_look 89 = .ok (.invokespecial 174, 3) := by decide +kernel
theorem dX8_look_92 : decode cX8_look 92 = .ok (.athrow, 1) := by decide +kernel
theorem dX8_may_0 : decode cX8_may 0 = .ok (.iload_n 1, 1) := by decide +kernel
theorem dX8_may_1 : decode cX8_may 1 = .ok (.iconst 4, 1) := by decide +kernel
theorem dX8_may_2 : decode cX8_may 2 = .ok (.invokestatic 116, 3) := by decide +kernel
theorem dX8_may_5 : decode cX8_may 5 = .ok (.ifCond .ne 13, 3) := by decide +kernel
theorem dX8_may_8 : decode cX8_may 8 = .ok (.new 175, 3) := by decide +kernel
theorem dX8_may_11 : decode cX8_may 11 = .ok (.dup, 1) := by decide +kernel
theorem dX8_may_12 : decode cX8_may 12 = .ok (.ldc 177, 2) := by decide +kernel
theorem dX8_may_14 : decode cX8_may 14 = .ok (.invokespecial 179, 3) := by decide +kernel
theorem dX8_may_17 : decode cX8_may 17 = .ok (.athrow, 1) := by decide +kernel
theorem dX8_may_18 : decode cX8_may 18 = .ok (.iload_n 2, 1) := by decide +kernel
theorem dX8_may_19 : decode cX8_may 19 = .ok (.ifCond .lt 9, 3) := by decide +kernel
theorem dX8_may_22 : decode cX8_may 22 = .ok (.iload_n 2, 1) := by decide +kernel
theorem dX8_may_23 : decode cX8_may 23 = .ok (.bipush 7, 2) := by decide +kernel
theorem dX8_may_25 : decode cX8_may 25 = .ok (.if_icmp .le 13, 3) := by decide +kernel
theorem dX8_may_28 : decode cX8_may 28 = .ok (.new 96, 3) := by decide +kernel
theorem dX8_may_31 : decode cX8_may 31 = .ok (.dup, 1) := by decide +kernel
theorem dX8_may_32 : decode cX8_may 32 = .ok (.ldc 180, 2) := by decide +kernel
theorem dX8_may_34 : decode cX8_may 34 = .ok (.invokespecial 100, 3) := by decide +kernel
theorem dX8_may_37 : decode cX8_may 37 = .ok (.athrow, 1) := by decide +kernel
theorem dX8_may_38 : decode cX8_may 38 = .ok (.aload_n 0, 1) := by decide +kernel
theorem dX8_may_39 : decode cX8_may 39 = .ok (.getfield 54, 3) := by decide +kernel
theorem dX8_may_42 : decode cX8_may 42 = .ok (.iload_n 1, 1) := by decide +kernel
theorem dX8_may_43 : decode cX8_may 43 = .ok (.iload_n 2, 1) := by decide +kernel
theorem dX8_may_44 : decode cX8_may 44 = .ok (.iastore, 1) := by decide +kernel
theorem dX8_may_45 : decode cX8_may 45 = .ok (.return_, 1) := by decide +kernel
theorem dX8_ask_0 : decode cX8_ask 0 = .ok (.aload_n 0, 1) := by decide +kernel
theorem dX8_ask_1 : decode cX8_ask 1 = .ok (.getfield 21, 3) := by decide +kernel
theorem dX8_ask_4 : decode cX8_ask 4 = .ok (.aload_n 0, 1) := by decide +kernel
theorem dX8_ask_5 : decode cX8_ask 5 = .ok (.getfield 70, 3) := by decide +kernel
theorem dX8_ask_8 : decode cX8_ask 8 = .ok (.invokevirtual 182, 3) := by decide +kernel
theorem dX8_ask_11 : decode cX8_ask 11 = .ok (.istore_n 2, 1) := by decide +kernel
theorem dX8_ask_12 : decode cX8_ask 12 = .ok (.aload_n 0, 1) := by decide +kernel
theorem dX8_ask_13 : decode cX8_ask 13 = .ok (.getfield 10, 3) := by decide +kernel
theorem dX8_ask_16 : decode cX8_ask 16 = .ok (.iconst 0, 1) := by decide +kernel
theorem dX8_ask_17 : decode cX8_ask 17 = .ok (.putfield 92, 3) := by decide +kernel
theorem dX8_ask_20 : decode cX8_ask 20 = .ok (.iload_n 1, 1) := by decide +kernel
theorem dX8_ask_21 : decode cX8_ask 21 = .ok (.iconst 4, 1) := by decide +kernel
theorem dX8_ask_22 : decode cX8_ask 22 = .ok (.invokestatic 116, 3) := by decide +kernel
theorem dX8_ask_25 : decode cX8_ask 25 = .ok (.ifCond .ne 13, 3) := by decide +kernel
theorem dX8_ask_28 : decode cX8_ask 28 = .ok (.new 175, 3) := by decide +kernel
theorem dX8_ask_31 : decode cX8_ask 31 = .ok (.dup, 1) := by decide +kernel
theorem dX8_ask_32 : decode cX8_ask 32 = .ok (.ldc 177, 2) := by decide +kernel
theorem dX8_ask_34 : decode cX8_ask 34 = .ok (.invokespecial 179, 3) := by decide +kernel
theorem dX8_ask_37 : decode cX8_ask 37 = .ok (.athrow, 1) := by decide +kernel
theorem dX8_ask_38 : decode cX8_ask 38 = .ok (.aload_n 0, 1) := by decide +kernel
theorem dX8_ask_39 : decode cX8_ask 39 = .ok (.iload_n 2, 1) := by decide +kernel
theorem dX8_ask_40 : decode cX8_ask 40 = .ok (.ifCond .eq 7, 3) := by decide +kernel
theorem dX8_ask_43 : decode cX8_ask 43 = .ok (.iconst (-1), 1) := by decide +kernel
theorem dX8_ask_44 : decode cX8_ask 44 = .ok (.goto 10, 3) := by decide +kernel
theorem dX8_ask_47 : decode cX8_ask 47 = .ok (.aload_n 0, 1) := by decide +kernel
theorem dX8_ask_48 : decode cX8_ask 48 = .ok (.getfield 21, 3) := by decide +kernel
theorem dX8_ask_51 : decode cX8_ask 51 = .ok (.getfield 186, 3) := by decide +kernel
theorem dX8_ask_54 : decode cX8_ask 54 = .ok (.putfield 78, 3) := by decide +kernel
theorem dX8_ask_57 : decode cX8_ask 57 = .ok (.iload_n 2, 1) := by decide +kernel
theorem dX8_ask_58 : decode cX8_ask 58 = .ok (.ifCond .ne 13, 3) := by decide +kernel
theorem dX8_ask_61 : decode cX8_ask 61 = .ok (.new 96, 3) := by decide +kernel
theorem dX8_ask_64 : decode cX8_ask 64 = .ok (.dup, 1) := by decide +kernel
theorem dX8_ask_65 : decode cX8_ask 65 = .ok (.ldc 189, 2) := by decide +kernel
theorem dX8_ask_67 : decode cX8_ask 67 = .ok (.invokespecial 100, 3) := by decide +kernel
theorem dX8_ask_70 : decode cX8_ask 70 = .ok (.athrow, 1) := by decide +kernel
theorem dX8_ask_71 : decode cX8_ask 71 = .ok (.aload_n 0, 1) := by decide +kernel
theorem dX8_ask_72 : decode cX8_ask 72 = .ok (.getfield 70, 3) := by decide +kernel
theorem dX8_ask_75 : decode cX8_ask 75 = .ok (.getfield 191, 3) := by decide +kernel
theorem dX8_ask_78 : decode cX8_ask 78 = .ok (.aload_n 0, 1) := by decide +kernel
theorem dX8_ask_79 : decode cX8_ask 79 = .ok (.getfield 54, 3) := by decide +kernel
theorem dX8_ask_82 : decode cX8_ask 82 = .ok (.iload_n 1, 1) := by decide +kernel
theorem dX8_ask_83 : decode cX8_ask 83 = .ok (.iaload, 1) := by decide +kernel
theorem dX8_ask_84 : decode cX8_ask 84 = .ok (.iconst (-1), 1) := by decide +kernel
theorem dX8_ask_85 : decode cX8_ask 85 = .ok (.ixor, 1) := by decide +kernel
theorem dX8_ask_86 : decode cX8_ask 86 = .ok (.iand, 1) := by decide +kernel
theorem dX8_ask_87 : decode cX8_ask 87 = .ok (.ifCond .eq 13, 3) := by decide +kernel
theorem dX8_ask_90 : decode cX8_ask 90 = .ok (.new 194, 3) := by decide +kernel
theorem dX8_ask_93 : decode cX8_ask 93 = .ok (.dup, 1) := by decide +kernel
theorem dX8_ask_94 : decode cX8_ask 94 = .ok (.ldc 196, 2) := by decide +kernel
theorem dX8_ask_96 : decode cX8_ask 96 = .ok (.invokespecial 198, 3) := by decide +kernel
theorem dX8_ask_99 : decode cX8_ask 99 = .ok (.athrow, 1) := by decide +kernel
theorem dX8_ask_100 : decode cX8_ask 100 = .ok (.aload_n 0, 1) := by decide +kernel
theorem dX8_ask_101 : decode cX8_ask 101 = .ok (.getfield 199, 3) := by decide +kernel
theorem dX8_ask_104 : decode cX8_ask 104 = .ok (.bipush 8, 2) := by decide +kernel
theorem dX8_ask_106 : decode cX8_ask 106 = .ok (.if_icmp .lt 13, 3) := by decide +kernel
theorem dX8_ask_109 : decode cX8_ask 109 = .ok (.new 131, 3) := by decide +kernel
theorem dX8_ask_112 : decode cX8_ask 112 = .ok (.dup, 1) := by decide +kernel
theorem dX8_ask_113 : decode cX8_ask 113 = .ok (.ldc 202, 2) := by decide +kernel
theorem dX8_ask_115 : decode cX8_ask 115 = .ok (.invokespecial 135, 3) := by decide +kernel
theorem dX8_ask_118 : decode cX8_ask 118 = .ok (.athrow, 1) := by decide +kernel
theorem dX8_ask_119 : decode cX8_ask 119 = .ok (.aload_n 0, 1) := by decide +kernel
theorem dX8_ask_120 : decode cX8_ask 120 = .ok (.getfield 199, 3) := by decide +kernel
theorem dX8_ask_123 : decode cX8_ask 123 = .ok (.istore_n 3, 1) := by decide +kernel
theorem dX8_ask_124 : decode cX8_ask 124 = .ok (.aload_n 0, 1) := by decide +kernel
theorem dX8_ask_125 : decode cX8_ask 125 = .ok (.getfield 50, 3) := by decide +kernel
theorem dX8_ask_128 : decode cX8_ask 128 = .ok (.iload_n 3, 1) := by decide +kernel
theorem dX8_ask_129 : decode cX8_ask 129 = .ok (.aload_n 0, 1) := by decide +kernel
theorem dX8_ask_130 : decode cX8_ask 130 = .ok (.getfield 70, 3) := by decide +kernel
theorem dX8_ask_133 : decode cX8_ask 133 = .ok (.aastore, 1) := by decide +kernel
theorem dX8_ask_134 : decode cX8_ask 134 = .ok (.aload_n 0, 1) := by decide +kernel
theorem dX8_ask_135 : decode cX8_ask 135 = .ok (.new 48, 3) := by decide +kernel
theorem dX8_ask_138 : decode cX8_ask 138 = .ok (.dup, 1) := by decide +kernel
theorem dX8_ask_139 : decode cX8_ask 139 = .ok (.invokespecial 69, 3) := by decide +kernel
theorem dX8_ask_142 : decode cX8_ask 142 = .ok (.putfield 70, 3) := by decide +kernel
theorem dX8_ask_145 : decode cX8_ask 145 = .ok (.aload_n 0, 1) := by decide +kernel
theorem dX8_ask_146 : decode cX8_ask 146 = .ok (.iload_n 3, 1) := by decide +kernel
theorem dX8_ask_147 : decode cX8_ask 147 = .ok (.iconst 1, 1) := by decide +kernel
theorem dX8_ask_148 : decode cX8_ask 148 = .ok (.iadd, 1) := by decide +kernel
theorem dX8_ask_149 : decode cX8_ask 149 = .ok (.putfield 199, 3) := by decide +kernel
theorem dX8_ask_152 : decode cX8_ask 152 = .ok (.aload_n 0, 1) := by decide +kernel
theorem dX8_ask_153 : decode cX8_ask 153 = .ok (.dup, 1) := by decide +kernel
theorem dX8_ask_154 : decode cX8_ask 154 = .ok (.getfield 113, 3) := by decide +kernel
theorem dX8_ask_157 : decode cX8_ask 157 = .ok (.iconst 1, 1) := by decide +kernel
theorem dX8_ask_158 : decode cX8_ask 158 = .ok (.iadd, 1) := by decide +kernel
theorem dX8_ask_159 : decode cX8_ask 159 = .ok (.putfield 113, 3) := by decide +kernel
theorem dX8_ask_162 : decode cX8_ask 162 = .ok (.iload_n 3, 1) := by decide +kernel
theorem dX8_ask_163 : decode cX8_ask 163 = .ok (.ireturn, 1) := by decide +kernel
theorem dX8_fault_0 : decode cX8_fault 0 = .ok (.aload_n 0, 1) := by decide +kernel
theorem dX8_fault_1 : decode cX8_fault 1 = .ok (.getfield 78, 3) := by decide +kernel
theorem dX8_fault_4 : decode cX8_fault 4 = .ok (.ireturn, 1) := by decide +kernel
theorem dX8_finds_0 : decode cX8_finds 0 = .ok (.aload_n 0, 1) := by decide +kernel
theorem dX8_finds_1 : decode cX8_finds 1 = .ok (.iload_n 1, 1) := by decide +kernel
theorem dX8_finds_2 : decode cX8_finds 2 = .ok (.iload_n 2, 1) := by decide +kernel
theorem dX8_finds_3 : decode cX8_finds 3 = .ok (.invokevirtual 204, 3) := by decide +kernel
theorem dX8_finds_6 : decode cX8_finds 6 = .ok (.getfield 208, 3) := by decide +kernel
theorem dX8_finds_9 : decode cX8_finds 9 = .ok (.ireturn, 1) := by decide +kernel
theorem dX8_found_0 : decode cX8_found 0 = .ok (.aload_n 0, 1) := by decide +kernel
theorem dX8_found_1 : decode cX8_found 1 = .ok (.iload_n 1, 1) := by decide +kernel
theorem dX8_found_2 : decode cX8_found 2 = .ok (.iload_n 2, 1) := by decide +kernel
theorem dX8_found_3 : decode cX8_found 3 = .ok (.invokevirtual 204, 3) := by decide +kernel
theorem dX8_found_6 : decode cX8_found 6 = .ok (.iload_n 3, 1) := by decide +kernel
theorem dX8_found_7 : decode cX8_found 7 = .ok (.invokevirtual 211, 3) := by decide +kernel
theorem dX8_found_10 : decode cX8_found 10 = .ok (.astore 4, 2) := by decide +kernel
theorem dX8_found_12 : decode cX8_found 12 = .ok (.aload 4, 2) := by decide +kernel
theorem dX8_found_14 : decode cX8_found 14 = .ok (.ifnonnull 7, 3) := by decide +kernel
theorem dX8_found_17 : decode cX8_found 17 = .ok (.iconst (-1), 1) := by decide +kernel
theorem dX8_found_18 : decode cX8_found 18 = .ok (.goto 8, 3) := by decide +kernel
theorem dX8_found_21 : decode cX8_found 21 = .ok (.aload 4, 2) := by decide +kernel
theorem dX8_found_23 : decode cX8_found 23 = .ok (.getfield 214, 3) := by decide +kernel
theorem dX8_found_26 : decode cX8_found 26 = .ok (.ireturn, 1) := by decide +kernel
theorem dX8_proof_0 : decode cX8_proof 0 = .ok (.aload_n 0, 1) := by decide +kernel
theorem dX8_proof_1 : decode cX8_proof 1 = .ok (.iload_n 1, 1) := by decide +kernel
theorem dX8_proof_2 : decode cX8_proof 2 = .ok (.iload_n 2, 1) := by decide +kernel
theorem dX8_proof_3 : decode cX8_proof 3 = .ok (.invokevirtual 204, 3) := by decide +kernel
theorem dX8_proof_6 : decode cX8_proof 6 = .ok (.iload_n 3, 1) := by decide +kernel
theorem dX8_proof_7 : decode cX8_proof 7 = .ok (.iload 4, 2) := by decide +kernel
theorem dX8_proof_9 : decode cX8_proof 9 = .ok (.invokevirtual 217, 3) := by decide +kernel
theorem dX8_proof_12 : decode cX8_proof 12 = .ok (.ireturn, 1) := by decide +kernel
theorem dX8_exempt_0 : decode cX8_exempt 0 = .ok (.aload_n 0, 1) := by decide +kernel
theorem dX8_exempt_1 : decode cX8_exempt 1 = .ok (.iload_n 1, 1) := by decide +kernel
theorem dX8_exempt_2 : decode cX8_exempt 2 = .ok (.invokevirtual 220, 3) := by decide +kernel
theorem dX8_exempt_5 : decode cX8_exempt 5 = .ok (.pop, 1) := by decide +kernel
theorem dX8_exempt_6 : decode cX8_exempt 6 = .ok (.iload_n 2, 1) := by decide +kernel
theorem dX8_exempt_7 : decode cX8_exempt 7 = .ok (.bipush 31, 2) := by decide +kernel
theorem dX8_exempt_9 : decode cX8_exempt 9 = .ok (.invokestatic 116, 3) := by decide +kernel
theorem dX8_exempt_12 : decode cX8_exempt 12 = .ok (.ifCond .eq 13, 3) := by decide +kernel
theorem dX8_exempt_15 : decode cX8_exempt 15 = .ok (.iload_n 3, 1) := by decide +kernel
theorem dX8_exempt_16 : decode cX8_exempt 16 = .ok (.ifCond .lt 9, 3) := by decide +kernel
theorem dX8_exempt_19 : decode cX8_exempt 19 = .ok (.iload_n 3, 1) := by decide +kernel
theorem dX8_exempt_20 : decode cX8_exempt 20 = .ok (.ldc 106, 2) := by decide +kernel
theorem dX8_exempt_22 : decode cX8_exempt 22 = .ok (.if_icmp .le 13, 3) := by decide +kernel
theorem dX8_exempt_25 : decode cX8_exempt 25 = .ok (.new 96, 3) := by decide +kernel
theorem dX8_exempt_28 : decode cX8_exempt 28 = .ok (.dup, 1) := by decide +kernel
theorem dX8_exempt_29 : decode cX8_exempt 29 = .ok (.ldc 224, 2) := by decide +kernel
theorem dX8_exempt_31 : decode cX8_exempt 31 = .ok (.invokespecial 100, 3) := by decide +kernel
theorem dX8_exempt_34 : decode cX8_exempt 34 = .ok (.athrow, 1) := by decide +kernel
theorem dX8_exempt_35 : decode cX8_exempt 35 = .ok (.aload_n 0, 1) := by decide +kernel
theorem dX8_exempt_36 : decode cX8_exempt 36 = .ok (.getfield 226, 3) := by decide +kernel
theorem dX8_exempt_39 : decode cX8_exempt 39 = .ok (.bipush 40, 2) := by decide +kernel
theorem dX8_exempt_41 : decode cX8_exempt 41 = .ok (.if_icmp .lt 5, 3) := by decide +kernel
theorem dX8_exempt_44 : decode cX8_exempt 44 = .ok (.iconst (-1), 1) := by decide +kernel
theorem dX8_exempt_45 : decode cX8_exempt 45 = .ok (.ireturn, 1) := by decide +kernel
theorem dX8_exempt_46 : decode cX8_exempt 46 = .ok (.aload_n 0, 1) := by decide +kernel
theorem dX8_exempt_47 : decode cX8_exempt 47 = .ok (.getfield 66, 3) := by decide +kernel
theorem dX8_exempt_50 : decode cX8_exempt 50 = .ok (.iload_n 1, 1) := by decide +kernel
theorem dX8_exempt_51 : decode cX8_exempt 51 = .ok (.aaload, 1) := by decide +kernel
theorem dX8_exempt_52 : decode cX8_exempt 52 = .ok (.iload_n 2, 1) := by decide +kernel
theorem dX8_exempt_53 : decode cX8_exempt 53 = .ok (.aload_n 0, 1) := by decide +kernel
theorem dX8_exempt_54 : decode cX8_exempt 54 = .ok (.getfield 66, 3) := by decide +kernel
theorem dX8_exempt_57 : decode cX8_exempt 57 = .ok (.iload_n 1, 1) := by decide +kernel
theorem dX8_exempt_58 : decode cX8_exempt 58 = .ok (.aaload, 1) := by decide +kernel
theorem dX8_exempt_59 : decode cX8_exempt 59 = .ok (.iload_n 2, 1) := by decide +kernel
theorem dX8_exempt_60 : decode cX8_exempt 60 = .ok (.iaload, 1) := by decide +kernel
theorem dX8_exempt_61 : decode cX8_exempt 61 = .ok (.iload_n 3, 1) := by decide +kernel
theorem dX8_exempt_62 : decode cX8_exempt 62 = .ok (.invokestatic 229, 3) := by decide +kernel
theorem dX8_exempt_65 : decode cX8_exempt 65 = .ok (.iastore, 1) := by decide +kernel
theorem dX8_exempt_66 : decode cX8_exempt 66 = .ok (.aload_n 0, 1) := by decide +kernel
theorem dX8_exempt_67 : decode cX8_exempt 67 = .ok (.dup, 1) := by decide +kernel
theorem dX8_exempt_68 : decode cX8_exempt 68 = .ok (.getfield 226, 3) := by decide +kernel
theorem dX8_exempt_71 : decode cX8_exempt 71 = .ok (.iconst 1, 1) := by decide +kernel
theorem dX8_exempt_72 : decode cX8_exempt 72 = .ok (.iadd, 1) := by decide +kernel
theorem dX8_exempt_73 : decode cX8_exempt 73 = .ok (.putfield 226, 3) := by decide +kernel
theorem dX8_exempt_76 : decode cX8_exempt 76 = .ok (.aload_n 0, 1) := by decide +kernel
theorem dX8_exempt_77 : decode cX8_exempt 77 = .ok (.dup, 1) := by decide +kernel
theorem dX8_exempt_78 : decode cX8_exempt 78 = .ok (.getfield 113, 3) := by decide +kernel
theorem dX8_exempt_81 : decode cX8_exempt 81 = .ok (.iconst 1, 1) := by decide +kernel
theorem dX8_exempt_82 : decode cX8_exempt 82 = .ok (.iadd, 1) := by decide +kernel
theorem dX8_exempt_83 : decode cX8_exempt 83 = .ok (.putfield 113, 3) := by decide +kernel
theorem dX8_exempt_86 : decode cX8_exempt 86 = .ok (.aload_n 0, 1) := by decide +kernel
theorem dX8_exempt_87 : decode cX8_exempt 87 = .ok (.getfield 226, 3) := by decide +kernel
theorem dX8_exempt_90 : decode cX8_exempt 90 = .ok (.ireturn, 1) := by decide +kernel
theorem dX8_spared_0 : decode cX8_spared 0 = .ok (.aload_n 0, 1) := by decide +kernel
theorem dX8_spared_1 : decode cX8_spared 1 = .ok (.iload_n 1, 1) := by decide +kernel
theorem dX8_spared_2 : decode cX8_spared 2 = .ok (.iload_n 2, 1) := by decide +kernel
theorem dX8_spared_3 : decode cX8_spared 3 = .ok (.invokevirtual 204, 3) := by decide +kernel
theorem dX8_spared_6 : decode cX8_spared 6 = .ok (.astore_n 3, 1) := by decide +kernel
theorem dX8_spared_7 : decode cX8_spared 7 = .ok (.iconst 0, 1) := by decide +kernel
theorem dX8_spared_8 : decode cX8_spared 8 = .ok (.istore 4, 2) := by decide +kernel
theorem dX8_spared_10 : decode cX8_spared 10 = .ok (.iconst 0, 1) := by decide +kernel
theorem dX8_spared_11 : decode cX8_spared 11 = .ok (.istore 5, 2) := by decide +kernel
theorem dX8_spared_13 : decode cX8_spared 13 = .ok (.iload 5, 2) := by decide +kernel
theorem dX8_spared_15 : decode cX8_spared 15 = .ok (.aload_n 3, 1) := by decide +kernel
theorem dX8_spared_16 : decode cX8_spared 16 = .ok (.getfield 208, 3) := by decide +kernel
theorem dX8_spared_19 : decode cX8_spared 19 = .ok (.if_icmp .ge 26, 3) := by decide +kernel
theorem dX8_spared_22 : decode cX8_spared 22 = .ok (.aload_n 0, 1) := by decide +kernel
theorem dX8_spared_23 : decode cX8_spared 23 = .ok (.iload_n 1, 1) := by decide +kernel
theorem dX8_spared_24 : decode cX8_spared 24 = .ok (.aload_n 3, 1) := by decide +kernel
theorem dX8_spared_25 : decode cX8_spared 25 = .ok (.iload 5, 2) := by decide +kernel
theorem dX8_spared_27 : decode cX8_spared 27 = .ok (.invokevirtual 211, 3) := by decide +kernel
theorem dX8_spared_30 : decode cX8_spared 30 = .ok (.invokevirtual 232, 3) := by decide +kernel
theorem dX8_spared_33 : decode cX8_spared 33 = .ok (.ifCond .eq 6, 3) := by decide +kernel
theorem dX8_spared_36 : decode cX8_spared 36 = .ok (.iinc 4 1, 3) := by decide +kernel
theorem dX8_spared_39 : decode cX8_spared 39 = .ok (.iinc 5 1, 3) := by decide +kernel
theorem dX8_spared_42 : decode cX8_spared 42 = .ok (.goto (-29), 3) := by decide +kernel
theorem dX8_spared_45 : decode cX8_spared 45 = .ok (.iload 4, 2) := by decide +kernel
theorem dX8_spared_47 : decode cX8_spared 47 = .ok (.ireturn, 1) := by decide +kernel
theorem dX8_gap_0 : decode cX8_gap 0 = .ok (.iload_n 1, 1) := by decide +kernel
theorem dX8_gap_1 : decode cX8_gap 1 = .ok (.ifCond .lt 9, 3) := by decide +kernel
theorem dX8_gap_4 : decode cX8_gap 4 = .ok (.iload_n 1, 1) := by decide +kernel
theorem dX8_gap_5 : decode cX8_gap 5 = .ok (.ldc 95, 2) := by decide +kernel
theorem dX8_gap_7 : decode cX8_gap 7 = .ok (.if_icmp .le 13, 3) := by decide +kernel
theorem dX8_gap_10 : decode cX8_gap 10 = .ok (.new 96, 3) := by decide +kernel
theorem dX8_gap_13 : decode cX8_gap 13 = .ok (.dup, 1) := by decide +kernel
theorem dX8_gap_14 : decode cX8_gap 14 = .ok (.ldc 236, 2) := by decide +kernel
theorem dX8_gap_16 : decode cX8_gap 16 = .ok (.invokespecial 100, 3) := by decide +kernel
theorem dX8_gap_19 : decode cX8_gap 19 = .ok (.athrow, 1) := by decide +kernel
theorem dX8_gap_20 : decode cX8_gap 20 = .ok (.aload_n 0, 1) := by decide +kernel
theorem dX8_gap_21 : decode cX8_gap 21 = .ok (.iload_n 1, 1) := by decide +kernel
theorem dX8_gap_22 : decode cX8_gap 22 = .ok (.putfield 74, 3) := by decide +kernel
theorem dX8_gap_25 : decode cX8_gap 25 = .ok (.aload_n 0, 1) := by decide +kernel
theorem dX8_gap_26 : decode cX8_gap 26 = .ok (.dup, 1) := by decide +kernel
theorem dX8_gap_27 : decode cX8_gap 27 = .ok (.getfield 113, 3) := by decide +kernel
theorem dX8_gap_30 : decode cX8_gap 30 = .ok (.iconst 1, 1) := by decide +kernel
theorem dX8_gap_31 : decode cX8_gap 31 = .ok (.iadd, 1) := by decide +kernel
theorem dX8_gap_32 : decode cX8_gap 32 = .ok (.putfield 113, 3) := by decide +kernel
theorem dX8_gap_35 : decode cX8_gap 35 = .ok (.return_, 1) := by decide +kernel
theorem dX8_cases_0 : decode cX8_cases 0 = .ok (.aload_n 0, 1) := by decide +kernel
theorem dX8_cases_1 : decode cX8_cases 1 = .ok (.invokevirtual 238, 3) := by decide +kernel
theorem dX8_cases_4 : decode cX8_cases 4 = .ok (.aload_n 0, 1) := by decide +kernel
theorem dX8_cases_5 : decode cX8_cases 5 = .ok (.getfield 44, 3) := by decide +kernel
theorem dX8_cases_8 : decode cX8_cases 8 = .ok (.getfield 241, 3) := by decide +kernel
theorem dX8_cases_11 : decode cX8_cases 11 = .ok (.ireturn, 1) := by decide +kernel
theorem dX8_joined_0 : decode cX8_joined 0 = .ok (.aload_n 0, 1) := by decide +kernel
theorem dX8_joined_1 : decode cX8_joined 1 = .ok (.iload_n 1, 1) := by decide +kernel
theorem dX8_joined_2 : decode cX8_joined 2 = .ok (.invokevirtual 220, 3) := by decide +kernel
theorem dX8_joined_5 : decode cX8_joined 5 = .ok (.pop, 1) := by decide +kernel
theorem dX8_joined_6 : decode cX8_joined 6 = .ok (.aload_n 0, 1) := by decide +kernel
theorem dX8_joined_7 : decode cX8_joined 7 = .ok (.iload_n 2, 1) := by decide +kernel
theorem dX8_joined_8 : decode cX8_joined 8 = .ok (.invokevirtual 145, 3) := by decide +kernel
theorem dX8_joined_11 : decode cX8_joined 11 = .ok (.astore_n 3, 1) := by decide +kernel
theorem dX8_joined_12 : decode cX8_joined 12 = .ok (.aload_n 0, 1) := by decide +kernel
theorem dX8_joined_13 : decode cX8_joined 13 = .ok (.iload_n 1, 1) := by decide +kernel
theorem dX8_joined_14 : decode cX8_joined 14 = .ok (.aload_n 0, 1) := by decide +kernel
theorem dX8_joined_15 : decode cX8_joined 15 = .ok (.getfield 103, 3) := by decide +kernel
theorem dX8_joined_18 : decode cX8_joined 18 = .ok (.invokevirtual 204, 3) := by decide +kernel
theorem dX8_joined_21 : decode cX8_joined 21 = .ok (.aload_n 3, 1) := by decide +kernel
theorem dX8_joined_22 : decode cX8_joined 22 = .ok (.invokevirtual 244, 3) := by decide +kernel
theorem dX8_joined_25 : decode cX8_joined 25 = .ok (.ifCond .eq 12, 3) := by decide +kernel
theorem dX8_joined_28 : decode cX8_joined 28 = .ok (.aload_n 0, 1) := by decide +kernel
theorem dX8_joined_29 : decode cX8_joined 29 = .ok (.iload_n 1, 1) := by decide +kernel
theorem dX8_joined_30 : decode cX8_joined 30 = .ok (.aload_n 3, 1) := by decide +kernel
theorem dX8_joined_31 : decode cX8_joined 31 = .ok (.invokevirtual 232, 3) := by decide +kernel
theorem dX8_joined_34 : decode cX8_joined 34 = .ok (.ifCond .eq 5, 3) := by decide +kernel
theorem dX8_joined_37 : decode cX8_joined 37 = .ok (.iconst 0, 1) := by decide +kernel
theorem dX8_joined_38 : decode cX8_joined 38 = .ok (.ireturn, 1) := by decide +kernel
theorem dX8_joined_39 : decode cX8_joined 39 = .ok (.aload_n 0, 1) := by decide +kernel
theorem dX8_joined_40 : decode cX8_joined 40 = .ok (.invokevirtual 238, 3) := by decide +kernel
theorem dX8_joined_43 : decode cX8_joined 43 = .ok (.aload_n 0, 1) := by decide +kernel
theorem dX8_joined_44 : decode cX8_joined 44 = .ok (.getfield 44, 3) := by decide +kernel
theorem dX8_joined_47 : decode cX8_joined 47 = .ok (.aload_n 3, 1) := by decide +kernel
theorem dX8_joined_48 : decode cX8_joined 48 = .ok (.invokevirtual 248, 3) := by decide +kernel
theorem dX8_joined_51 : decode cX8_joined 51 = .ok (.ireturn, 1) := by decide +kernel
theorem dX8_cost_0 : decode cX8_cost 0 = .ok (.aload_n 0, 1) := by decide +kernel
theorem dX8_cost_1 : decode cX8_cost 1 = .ok (.iload_n 1, 1) := by decide +kernel
theorem dX8_cost_2 : decode cX8_cost 2 = .ok (.iload_n 2, 1) := by decide +kernel
theorem dX8_cost_3 : decode cX8_cost 3 = .ok (.invokevirtual 204, 3) := by decide +kernel
theorem dX8_cost_6 : decode cX8_cost 6 = .ok (.invokevirtual 252, 3) := by decide +kernel
theorem dX8_cost_9 : decode cX8_cost 9 = .ok (.ireturn, 1) := by decide +kernel
theorem dX8_widest_0 : decode cX8_widest 0 = .ok (.aload_n 0, 1) := by decide +kernel
theorem dX8_widest_1 : decode cX8_widest 1 = .ok (.iload_n 1, 1) := by decide +kernel
theorem dX8_widest_2 : decode cX8_widest 2 = .ok (.iload_n 2, 1) := by decide +kernel
theorem dX8_widest_3 : decode cX8_widest 3 = .ok (.invokevirtual 204, 3) := by decide +kernel
theorem dX8_widest_6 : decode cX8_widest 6 = .ok (.invokevirtual 256, 3) := by decide +kernel
theorem dX8_widest_9 : decode cX8_widest 9 = .ok (.ireturn, 1) := by decide +kernel
theorem dX8_count_0 : decode cX8_count 0 = .ok (.iload_n 1, 1) := by decide +kernel
theorem dX8_count_1 : decode cX8_count 1 = .ok (.tableswitch 103 0 7 #[47, 52, 60, 68, 73, 78, 83, 91], 47) := by decide +kernel
theorem dX8_count_48 : decode cX8_count 48 = .ok (.aload_n 0, 1) := by decide +kernel
theorem dX8_count_49 : decode cX8_count 49 = .ok (.getfield 103, 3) := by decide +kernel
theorem dX8_count_52 : decode cX8_count 52 = .ok (.ireturn, 1) := by decide +kernel
theorem dX8_count_53 : decode cX8_count 53 = .ok (.aload_n 0, 1) := by decide +kernel
theorem dX8_count_54 : decode cX8_count 54 = .ok (.getfield 28, 3) := by decide +kernel
theorem dX8_count_57 : decode cX8_count 57 = .ok (.getfield 128, 3) := by decide +kernel
theorem dX8_count_60 : decode cX8_count 60 = .ok (.ireturn, 1) := by decide +kernel
theorem dX8_count_61 : decode cX8_count 61 = .ok (.aload_n 0, 1) := by decide +kernel
theorem dX8_count_62 : decode cX8_count 62 = .ok (.getfield 28, 3) := by decide +kernel
theorem dX8_count_65 : decode cX8_count 65 = .ok (.getfield 259, 3) := by decide +kernel
theorem dX8_count_68 : decode cX8_count 68 = .ok (.ireturn, 1) := by decide +kernel
theorem dX8_count_69 : decode cX8_count 69 = .ok (.aload_n 0, 1) := by decide +kernel
theorem dX8_count_70 : decode cX8_count 70 = .ok (.getfield 199, 3) := by decide +kernel
theorem dX8_count_73 : decode cX8_count 73 = .ok (.ireturn, 1) := by decide +kernel
theorem dX8_count_74 : decode cX8_count 74 = .ok (.aload_n 0, 1) := by decide +kernel
theorem dX8_count_75 : decode cX8_count 75 = .ok (.getfield 226, 3) := by decide +kernel
theorem dX8_count_78 : decode cX8_count 78 = .ok (.ireturn, 1) := by decide +kernel
theorem dX8_count_79 : decode cX8_count 79 = .ok (.aload_n 0, 1) := by decide +kernel
theorem dX8_count_80 : decode cX8_count 80 = .ok (.getfield 74, 3) := by decide +kernel
theorem dX8_count_83 : decode cX8_count 83 = .ok (.ireturn, 1) := by decide +kernel
theorem dX8_count_84 : decode cX8_count 84 = .ok (.aload_n 0, 1) := by decide +kernel
theorem dX8_count_85 : decode cX8_count 85 = .ok (.getfield 28, 3) := by decide +kernel
theorem dX8_count_88 : decode cX8_count 88 = .ok (.getfield 260, 3) := by decide +kernel
theorem dX8_count_91 : decode cX8_count 91 = .ok (.ireturn, 1) := by decide +kernel
theorem dX8_count_92 : decode cX8_count 92 = .ok (.aload_n 0, 1) := by decide +kernel
theorem dX8_count_93 : decode cX8_count 93 = .ok (.invokevirtual 238, 3) := by decide +kernel
theorem dX8_count_96 : decode cX8_count 96 = .ok (.aload_n 0, 1) := by decide +kernel
theorem dX8_count_97 : decode cX8_count 97 = .ok (.getfield 44, 3) := by decide +kernel
theorem dX8_count_100 : decode cX8_count 100 = .ok (.getfield 263, 3) := by decide +kernel
theorem dX8_count_103 : decode cX8_count 103 = .ok (.ireturn, 1) := by decide +kernel
theorem dX8_count_104 : decode cX8_count 104 = .ok (.iconst (-1), 1) := by decide +kernel
theorem dX8_count_105 : decode cX8_count 105 = .ok (.ireturn, 1) := by decide +kernel
theorem dX8_isBelow_0 : decode cX8_isBelow 0 = .ok (.iload_n 0, 1) := by decide +kernel
theorem dX8_isBelow_1 : decode cX8_isBelow 1 = .ok (.ifCond .lt 12, 3) := by decide +kernel
theorem dX8_isBelow_4 : decode cX8_isBelow 4 = .ok (.iload_n 0, 1) := by decide +kernel
theorem dX8_isBelow_5 : decode cX8_isBelow 5 = .ok (.iload_n 1, 1) := by decide +kernel
theorem dX8_isBelow_6 : decode cX8_isBelow 6 = .ok (.if_icmp .ge 7, 3) := by decide +kernel
theorem dX8_isBelow_9 : decode cX8_isBelow 9 = .ok (.iconst 1, 1) := by decide +kernel
theorem dX8_isBelow_10 : decode cX8_isBelow 10 = .ok (.goto 4, 3) := by decide +kernel
theorem dX8_isBelow_13 : decode cX8_isBelow 13 = .ok (.iconst 0, 1) := by decide +kernel
theorem dX8_isBelow_14 : decode cX8_isBelow 14 = .ok (.ireturn, 1) := by decide +kernel
theorem dX8_actAt_0 : decode cX8_actAt 0 = .ok (.aload_n 0, 1) := by decide +kernel
theorem dX8_actAt_1 : decode cX8_actAt 1 = .ok (.getfield 28, 3) := by decide +kernel
theorem dX8_actAt_4 : decode cX8_actAt 4 = .ok (.iload_n 1, 1) := by decide +kernel
theorem dX8_actAt_5 : decode cX8_actAt 5 = .ok (.invokevirtual 264, 3) := by decide +kernel
theorem dX8_actAt_8 : decode cX8_actAt 8 = .ok (.astore_n 2, 1) := by decide +kernel
theorem dX8_actAt_9 : decode cX8_actAt 9 = .ok (.aload_n 2, 1) := by decide +kernel
theorem dX8_actAt_10 : decode cX8_actAt 10 = .ok (.ifnonnull 14, 3) := by decide +kernel
theorem dX8_actAt_13 : decode cX8_actAt 13 = .ok (.new 175, 3) := by decide +kernel
theorem dX8_actAt_16 : decode cX8_actAt 16 = .ok (.dup, 1) := by decide +kernel
theorem dX8_actAt_17 : decode cX8_actAt 17 = .ok (.ldc_w 265, 3) := by decide +kernel
theorem dX8_actAt_20 : decode cX8_actAt 20 = .ok (.invokespecial 179, 3) := by decide +kernel
theorem dX8_actAt_23 : decode cX8_actAt 23 = .ok (.athrow, 1) := by decide +kernel
theorem dX8_actAt_24 : decode cX8_actAt 24 = .ok (.aload_n 2, 1) := by decide +kernel
theorem dX8_actAt_25 : decode cX8_actAt 25 = .ok (.areturn, 1) := by decide +kernel
theorem dX8_questionAt_0 : decode cX8_questionAt 0 = .ok (.iload_n 1, 1) := by decide +kernel
theorem dX8_questionAt_1 : decode cX8_questionAt 1 = .ok (.bipush 8, 2) := by decide +kernel
theorem dX8_questionAt_3 : decode cX8_questionAt 3 = .ok (.invokestatic 116, 3) := by decide +kernel
theorem dX8_questionAt_6 : decode cX8_questionAt 6 = .ok (.ifCond .eq 12, 3) := by decide +kernel
theorem dX8_questionAt_9 : decode cX8_questionAt 9 = .ok (.aload_n 0, 1) := by decide +kernel
theorem dX8_questionAt_10 : decode cX8_questionAt 10 = .ok (.getfield 50, 3) := by decide +kernel
theorem dX8_questionAt_13 : decode cX8_questionAt 13 = .ok (.iload_n 1, 1) := by decide +kernel
theorem dX8_questionAt_14 : decode cX8_questionAt 14 = .ok (.aaload, 1) := by decide +kernel
theorem dX8_questionAt_15 : decode cX8_questionAt 15 = .ok (.goto 4, 3) := by decide +kernel
theorem dX8_questionAt_18 : decode cX8_questionAt 18 = .ok (.aconst_null, 1) := by decide +kernel
theorem dX8_questionAt_19 : decode cX8_questionAt 19 = .ok (.astore_n 2, 1) := by decide +kernel
theorem dX8_questionAt_20 : decode cX8_questionAt 20 = .ok (.aload_n 2, 1) := by decide +kernel
theorem dX8_questionAt_21 : decode cX8_questionAt 21 = .ok (.ifnonnull 14, 3) := by decide +kernel
theorem dX8_questionAt_24 : decode cX8_questionAt 24 = .ok (.new 175, 3) := by decide +kernel
theorem dX8_questionAt_27 : decode cX8_questionAt 27 = .ok (.dup, 1) := by decide +kernel
theorem dX8_questionAt_28 : decode cX8_questionAt 28 = .ok (.ldc_w 267, 3) := by decide +kernel
theorem dX8_questionAt_31 : decode cX8_questionAt 31 = .ok (.invokespecial 179, 3) := by decide +kernel
theorem dX8_questionAt_34 : decode cX8_questionAt 34 = .ok (.athrow, 1) := by decide +kernel
theorem dX8_questionAt_35 : decode cX8_questionAt 35 = .ok (.aload_n 2, 1) := by decide +kernel
theorem dX8_questionAt_36 : decode cX8_questionAt 36 = .ok (.areturn, 1) := by decide +kernel
theorem dX8_sweepOf_0 : decode cX8_sweepOf 0 = .ok (.aload_n 0, 1) := by decide +kernel
theorem dX8_sweepOf_1 : decode cX8_sweepOf 1 = .ok (.getfield 37, 3) := by decide +kernel
theorem dX8_sweepOf_4 : decode cX8_sweepOf 4 = .ok (.aload_n 0, 1) := by decide +kernel
theorem dX8_sweepOf_5 : decode cX8_sweepOf 5 = .ok (.iload_n 1, 1) := by decide +kernel
theorem dX8_sweepOf_6 : decode cX8_sweepOf 6 = .ok (.invokevirtual 220, 3) := by decide +kernel
theorem dX8_sweepOf_9 : decode cX8_sweepOf 9 = .ok (.iload_n 1, 1) := by decide +kernel
theorem dX8_sweepOf_10 : decode cX8_sweepOf 10 = .ok (.iload_n 2, 1) := by decide +kernel
theorem dX8_sweepOf_11 : decode cX8_sweepOf 11 = .ok (.invokevirtual 269, 3) := by decide +kernel
theorem dX8_sweepOf_14 : decode cX8_sweepOf 14 = .ok (.aload_n 0, 1) := by decide +kernel
theorem dX8_sweepOf_15 : decode cX8_sweepOf 15 = .ok (.getfield 37, 3) := by decide +kernel
theorem dX8_sweepOf_18 : decode cX8_sweepOf 18 = .ok (.areturn, 1) := by decide +kernel
theorem dX8_isExempt_0 : decode cX8_isExempt 0 = .ok (.aload_n 2, 1) := by decide +kernel
theorem dX8_isExempt_1 : decode cX8_isExempt 1 = .ok (.ifnull 34, 3) := by decide +kernel
theorem dX8_isExempt_4 : decode cX8_isExempt 4 = .ok (.iload_n 1, 1) := by decide +kernel
theorem dX8_isExempt_5 : decode cX8_isExempt 5 = .ok (.bipush 8, 2) := by decide +kernel
theorem dX8_isExempt_7 : decode cX8_isExempt 7 = .ok (.invokestatic 116, 3) := by decide +kernel
theorem dX8_isExempt_10 : decode cX8_isExempt 10 = .ok (.ifCond .eq 25, 3) := by decide +kernel
theorem dX8_isExempt_13 : decode cX8_isExempt 13 = .ok (.aload_n 0, 1) := by decide +kernel
theorem dX8_isExempt_14 : decode cX8_isExempt 14 = .ok (.getfield 66, 3) := by decide +kernel
theorem dX8_isExempt_17 : decode cX8_isExempt 17 = .ok (.iload_n 1, 1) := by decide +kernel
theorem dX8_isExempt_18 : decode cX8_isExempt 18 = .ok (.aaload, 1) := by decide +kernel
theorem dX8_isExempt_19 : decode cX8_isExempt 19 = .ok (.aload_n 2, 1) := by decide +kernel
theorem dX8_isExempt_20 : decode cX8_isExempt 20 = .ok (.getfield 152, 3) := by decide +kernel
theorem dX8_isExempt_23 : decode cX8_isExempt 23 = .ok (.iaload, 1) := by decide +kernel
theorem dX8_isExempt_24 : decode cX8_isExempt 24 = .ok (.aload_n 2, 1) := by decide +kernel
theorem dX8_isExempt_25 : decode cX8_isExempt 25 = .ok (.getfield 161, 3) := by decide +kernel
theorem dX8_isExempt_28 : decode cX8_isExempt 28 = .ok (.if_icmp .lt 7, 3) := by decide +kernel
theorem dX8_isExempt_31 : decode cX8_isExempt 31 = .ok (.iconst 1, 1) := by decide +kernel
theorem dX8_isExempt_32 : decode cX8_isExempt 32 = .ok (.goto 4, 3) := by decide +kernel
theorem dX8_isExempt_35 : decode cX8_isExempt 35 = .ok (.iconst 0, 1) := by decide +kernel
theorem dX8_isExempt_36 : decode cX8_isExempt 36 = .ok (.ireturn, 1) := by decide +kernel
theorem dX8_joinFinds_0 : decode cX8_joinFinds 0 = .ok (.aload_n 0, 1) := by decide +kernel
theorem dX8_joinFinds_1 : decode cX8_joinFinds 1 = .ok (.getfield 81, 3) := by decide +kernel
theorem dX8_joinFinds_4 : decode cX8_joinFinds 4 = .ok (.aload_n 0, 1) := by decide +kernel
theorem dX8_joinFinds_5 : decode cX8_joinFinds 5 = .ok (.getfield 113, 3) := by decide +kernel
theorem dX8_joinFinds_8 : decode cX8_joinFinds 8 = .ok (.if_icmp .ne 4, 3) := by decide +kernel
theorem dX8_joinFinds_11 : decode cX8_joinFinds 11 = .ok (.return_, 1) := by decide +kernel
theorem dX8_joinFinds_12 : decode cX8_joinFinds 12 = .ok (.aload_n 0, 1) := by decide +kernel
theorem dX8_joinFinds_13 : decode cX8_joinFinds 13 = .ok (.getfield 44, 3) := by decide +kernel
theorem dX8_joinFinds_16 : decode cX8_joinFinds 16 = .ok (.invokevirtual 273, 3) := by decide +kernel
theorem dX8_joinFinds_19 : decode cX8_joinFinds 19 = .ok (.iconst 0, 1) := by decide +kernel
theorem dX8_joinFinds_20 : decode cX8_joinFinds 20 = .ok (.istore_n 1, 1) := by decide +kernel
theorem dX8_joinFinds_21 : decode cX8_joinFinds 21 = .ok (.iload_n 1, 1) := by decide +kernel
theorem dX8_joinFinds_22 : decode cX8_joinFinds 22 = .ok (.aload_n 0, 1) := by decide +kernel
theorem dX8_joinFinds_23 : decode cX8_joinFinds 23 = .ok (.getfield 199, 3) := by decide +kernel
theorem dX8_joinFinds_26 : decode cX8_joinFinds 26 = .ok (.if_icmp .ge 20, 3) := by decide +kernel
theorem dX8_joinFinds_29 : decode cX8_joinFinds 29 = .ok (.aload_n 0, 1) := by decide +kernel
theorem dX8_joinFinds_30 : decode cX8_joinFinds 30 = .ok (.aload_n 0, 1) := by decide +kernel
theorem dX8_joinFinds_31 : decode cX8_joinFinds 31 = .ok (.getfield 50, 3) := by decide +kernel
theorem dX8_joinFinds_34 : decode cX8_joinFinds 34 = .ok (.iload_n 1, 1) := by decide +kernel
theorem dX8_joinFinds_35 : decode cX8_joinFinds 35 = .ok (.aaload, 1) := by decide +kernel
theorem dX8_joinFinds_36 : decode cX8_joinFinds 36 = .ok (.iload_n 1, 1) := by decide +kernel
theorem dX8_joinFinds_37 : decode cX8_joinFinds 37 = .ok (.invokevirtual 276, 3) := by decide +kernel
theorem dX8_joinFinds_40 : decode cX8_joinFinds 40 = .ok (.iinc 1 1, 3) := by decide +kernel
theorem dX8_joinFinds_43 : decode cX8_joinFinds 43 = .ok (.goto (-22), 3) := by decide +kernel
theorem dX8_joinFinds_46 : decode cX8_joinFinds 46 = .ok (.aload_n 0, 1) := by decide +kernel
theorem dX8_joinFinds_47 : decode cX8_joinFinds 47 = .ok (.getfield 44, 3) := by decide +kernel
theorem dX8_joinFinds_50 : decode cX8_joinFinds 50 = .ok (.aload_n 0, 1) := by decide +kernel
theorem dX8_joinFinds_51 : decode cX8_joinFinds 51 = .ok (.getfield 74, 3) := by decide +kernel
theorem dX8_joinFinds_54 : decode cX8_joinFinds 54 = .ok (.invokevirtual 280, 3) := by decide +kernel
theorem dX8_joinFinds_57 : decode cX8_joinFinds 57 = .ok (.aload_n 0, 1) := by decide +kernel
theorem dX8_joinFinds_58 : decode cX8_joinFinds 58 = .ok (.aload_n 0, 1) := by decide +kernel
theorem dX8_joinFinds_59 : decode cX8_joinFinds 59 = .ok (.getfield 113, 3) := by decide +kernel
theorem dX8_joinFinds_62 : decode cX8_joinFinds 62 = .ok (.putfield 81, 3) := by decide +kernel
theorem dX8_joinFinds_65 : decode cX8_joinFinds 65 = .ok (.return_, 1) := by decide +kernel
theorem dX8_gatherFinds_0 : decode cX8_gatherFinds 0 = .ok (.aload_n 1, 1) := by decide +kernel
theorem dX8_gatherFinds_1 : decode cX8_gatherFinds 1 = .ok (.ifnonnull 4, 3) := by decide +kernel
theorem dX8_gatherFinds_4 : decode cX8_gatherFinds 4 = .ok (.return_, 1) := by decide +kernel
theorem dX8_gatherFinds_5 : decode cX8_gatherFinds 5 = .ok (.aload_n 0, 1) := by decide +kernel
theorem dX8_gatherFinds_6 : decode cX8_gatherFinds 6 = .ok (.getfield 37, 3) := by decide +kernel
theorem dX8_gatherFinds_9 : decode cX8_gatherFinds 9 = .ok (.aload_n 1, 1) := by decide +kernel
theorem dX8_gatherFinds_10 : decode cX8_gatherFinds 10 = .ok (.iload_n 2, 1) := by decide +kernel
theorem dX8_gatherFinds_11 : decode cX8_gatherFinds 11 = .ok (.aload_n 0, 1) := by decide +kernel
theorem dX8_gatherFinds_12 : decode cX8_gatherFinds 12 = .ok (.getfield 103, 3) := by decide +kernel
theorem dX8_gatherFinds_15 : decode cX8_gatherFinds 15 = .ok (.invokevirtual 269, 3) := by decide +kernel
theorem dX8_gatherFinds_18 : decode cX8_gatherFinds 18 = .ok (.iconst 0, 1) := by decide +kernel
theorem dX8_gatherFinds_19 : decode cX8_gatherFinds 19 = .ok (.istore_n 3, 1) := by decide +kernel
theorem dX8_gatherFinds_20 : decode cX8_gatherFinds 20 = .ok (.iload_n 3, 1) := by decide +kernel
theorem dX8_gatherFinds_21 : decode cX8_gatherFinds 21 = .ok (.aload_n 0, 1) := by decide +kernel
theorem dX8_gatherFinds_22 : decode cX8_gatherFinds 22 = .ok (.getfield 37, 3) := by decide +kernel
theorem dX8_gatherFinds_25 : decode cX8_gatherFinds 25 = .ok (.getfield 208, 3) := by decide +kernel
theorem dX8_gatherFinds_28 : decode cX8_gatherFinds 28 = .ok (.if_icmp .ge 40, 3) := by decide +kernel
theorem dX8_gatherFinds_31 : decode cX8_gatherFinds 31 = .ok (.aload_n 0, 1) := by decide +kernel
theorem dX8_gatherFinds_32 : decode cX8_gatherFinds 32 = .ok (.getfield 37, 3) := by decide +kernel
theorem dX8_gatherFinds_35 : decode cX8_gatherFinds 35 = .ok (.iload_n 3, 1) := by decide +kernel
theorem dX8_gatherFinds_36 : decode cX8_gatherFinds 36 = .ok (.invokevirtual 211, 3) := by decide +kernel
theorem dX8_gatherFinds_39 : decode cX8_gatherFinds 39 = .ok (.astore 4, 2) := by decide +kernel
theorem dX8_gatherFinds_41 : decode cX8_gatherFinds 41 = .ok (.aload 4, 2) := by decide +kernel
theorem dX8_gatherFinds_43 : decode cX8_gatherFinds 43 = .ok (.ifnull 19, 3) := by decide +kernel
theorem dX8_gatherFinds_46 : decode cX8_gatherFinds 46 = .ok (.aload_n 0, 1) := by decide +kernel
theorem dX8_gatherFinds_47 : decode cX8_gatherFinds 47 = .ok (.getfield 44, 3) := by decide +kernel
theorem dX8_gatherFinds_50 : decode cX8_gatherFinds 50 = .ok (.aload 4, 2) := by decide +kernel
theorem dX8_gatherFinds_52 : decode cX8_gatherFinds 52 = .ok (.aload_n 0, 1) := by decide +kernel
theorem dX8_gatherFinds_53 : decode cX8_gatherFinds 53 = .ok (.iload_n 2, 1) := by decide +kernel
theorem dX8_gatherFinds_54 : decode cX8_gatherFinds 54 = .ok (.aload 4, 2) := by decide +kernel
theorem dX8_gatherFinds_56 : decode cX8_gatherFinds 56 = .ok (.invokevirtual 232, 3) := by decide +kernel
theorem dX8_gatherFinds_59 : decode cX8_gatherFinds 59 = .ok (.invokevirtual 283, 3) := by decide +kernel
theorem dX8_gatherFinds_62 : decode cX8_gatherFinds 62 = .ok (.iinc 3 1, 3) := by decide +kernel
theorem dX8_gatherFinds_65 : decode cX8_gatherFinds 65 = .ok (.goto (-45), 3) := by decide +kernel
theorem dX8_gatherFinds_68 : decode cX8_gatherFinds 68 = .ok (.return_, 1) := by decide +kernel
theorem dJ6_bitCount_0f7a4_0 : decode cJ6_bitCount_0f7a4 0 = .ok (.iload_n 0, 1) := by decide +kernel
theorem dJ6_bitCount_0f7a4_1 : decode cJ6_bitCount_0f7a4 1 = .ok (.iload_n 0, 1) := by decide +kernel
theorem dJ6_bitCount_0f7a4_2 : decode cJ6_bitCount_0f7a4 2 = .ok (.iconst 1, 1) := by decide +kernel
theorem dJ6_bitCount_0f7a4_3 : decode cJ6_bitCount_0f7a4 3 = .ok (.iushr, 1) := by decide +kernel
theorem dJ6_bitCount_0f7a4_4 : decode cJ6_bitCount_0f7a4 4 = .ok (.ldc_w 265, 3) := by decide +kernel
theorem dJ6_bitCount_0f7a4_7 : decode cJ6_bitCount_0f7a4 7 = .ok (.iand, 1) := by decide +kernel
theorem dJ6_bitCount_0f7a4_8 : decode cJ6_bitCount_0f7a4 8 = .ok (.isub, 1) := by decide +kernel
theorem dJ6_bitCount_0f7a4_9 : decode cJ6_bitCount_0f7a4 9 = .ok (.istore_n 0, 1) := by decide +kernel
theorem dJ6_bitCount_0f7a4_10 : decode cJ6_bitCount_0f7a4 10 = .ok (.iload_n 0, 1) := by decide +kernel
theorem dJ6_bitCount_0f7a4_11 : decode cJ6_bitCount_0f7a4 11 = .ok (.ldc_w 266, 3) := by decide +kernel
theorem dJ6_bitCount_0f7a4_14 : decode cJ6_bitCount_0f7a4 14 = .ok (.iand, 1) := by decide +kernel
theorem dJ6_bitCount_0f7a4_15 : decode cJ6_bitCount_0f7a4 15 = .ok (.iload_n 0, 1) := by decide +kernel
theorem dJ6_bitCount_0f7a4_16 : decode cJ6_bitCount_0f7a4 16 = .ok (.iconst 2, 1) := by decide +kernel
theorem dJ6_bitCount_0f7a4_17 : decode cJ6_bitCount_0f7a4 17 = .ok (.iushr, 1) := by decide +kernel
theorem dJ6_bitCount_0f7a4_18 : decode cJ6_bitCount_0f7a4 18 = .ok (.ldc_w 266, 3) := by decide +kernel
theorem dJ6_bitCount_0f7a4_21 : decode cJ6_bitCount_0f7a4 21 = .ok (.iand, 1) := by decide +kernel
theorem dJ6_bitCount_0f7a4_22 : decode cJ6_bitCount_0f7a4 22 = .ok (.iadd, 1) := by decide +kernel
theorem dJ6_bitCount_0f7a4_23 : decode cJ6_bitCount_0f7a4 23 = .ok (.istore_n 0, 1) := by decide +kernel
theorem dJ6_bitCount_0f7a4_24 : decode cJ6_bitCount_0f7a4 24 = .ok (.iload_n 0, 1) := by decide +kernel
theorem dJ6_bitCount_0f7a4_25 : decode cJ6_bitCount_0f7a4 25 = .ok (.iload_n 0, 1) := by decide +kernel
theorem dJ6_bitCount_0f7a4_26 : decode cJ6_bitCount_0f7a4 26 = .ok (.iconst 4, 1) := by decide +kernel
theorem dJ6_bitCount_0f7a4_27 : decode cJ6_bitCount_0f7a4 27 = .ok (.iushr, 1) := by decide +kernel
theorem dJ6_bitCount_0f7a4_28 : decode cJ6_bitCount_0f7a4 28 = .ok (.iadd, 1) := by decide +kernel
theorem dJ6_bitCount_0f7a4_29 : decode cJ6_bitCount_0f7a4 29 = .ok (.ldc_w 267, 3) := by decide +kernel
theorem dJ6_bitCount_0f7a4_32 : decode cJ6_bitCount_0f7a4 32 = .ok (.iand, 1) := by decide +kernel
theorem dJ6_bitCount_0f7a4_33 : decode cJ6_bitCount_0f7a4 33 = .ok (.istore_n 0, 1) := by decide +kernel
theorem dJ6_bitCount_0f7a4_34 : decode cJ6_bitCount_0f7a4 34 = .ok (.iload_n 0, 1) := by decide +kernel
theorem dJ6_bitCount_0f7a4_35 : decode cJ6_bitCount_0f7a4 35 = .ok (.iload_n 0, 1) := by decide +kernel
theorem dJ6_bitCount_0f7a4_36 : decode cJ6_bitCount_0f7a4 36 = .ok (.bipush 8, 2) := by decide +kernel
theorem dJ6_bitCount_0f7a4_38 : decode cJ6_bitCount_0f7a4 38 = .ok (.iushr, 1) := by decide +kernel
theorem dJ6_bitCount_0f7a4_39 : decode cJ6_bitCount_0f7a4 39 = .ok (.iadd, 1) := by decide +kernel
theorem dJ6_bitCount_0f7a4_40 : decode cJ6_bitCount_0f7a4 40 = .ok (.istore_n 0, 1) := by decide +kernel
theorem dJ6_bitCount_0f7a4_41 : decode cJ6_bitCount_0f7a4 41 = .ok (.iload_n 0, 1) := by decide +kernel
theorem dJ6_bitCount_0f7a4_42 : decode cJ6_bitCount_0f7a4 42 = .ok (.iload_n 0, 1) := by decide +kernel
theorem dJ6_bitCount_0f7a4_43 : decode cJ6_bitCount_0f7a4 43 = .ok (.bipush 16, 2) := by decide +kernel
theorem dJ6_bitCount_0f7a4_45 : decode cJ6_bitCount_0f7a4 45 = .ok (.iushr, 1) := by decide +kernel
theorem dJ6_bitCount_0f7a4_46 : decode cJ6_bitCount_0f7a4 46 = .ok (.iadd, 1) := by decide +kernel
theorem dJ6_bitCount_0f7a4_47 : decode cJ6_bitCount_0f7a4 47 = .ok (.istore_n 0, 1) := by decide +kernel
theorem dJ6_bitCount_0f7a4_48 : decode cJ6_bitCount_0f7a4 48 = .ok (.iload_n 0, 1) := by decide +kernel
theorem dJ6_bitCount_0f7a4_49 : decode cJ6_bitCount_0f7a4 49 = .ok (.bipush 63, 2) := by decide +kernel
theorem dJ6_bitCount_0f7a4_51 : decode cJ6_bitCount_0f7a4 51 = .ok (.iand, 1) := by decide +kernel
theorem dJ6_bitCount_0f7a4_52 : decode cJ6_bitCount_0f7a4 52 = .ok (.ireturn, 1) := by decide +kernel
theorem dJ9_max_7cf53_0 : decode cJ9_max_7cf53 0 = .ok (.iload_n 0, 1) := by decide +kernel
theorem dJ9_max_7cf53_1 : decode cJ9_max_7cf53 1 = .ok (.iload_n 1, 1) := by decide +kernel
theorem dJ9_max_7cf53_2 : decode cJ9_max_7cf53 2 = .ok (.if_icmp .lt 7, 3) := by decide +kernel
theorem dJ9_max_7cf53_5 : decode cJ9_max_7cf53 5 = .ok (.iload_n 0, 1) := by decide +kernel
theorem dJ9_max_7cf53_6 : decode cJ9_max_7cf53 6 = .ok (.goto 4, 3) := by decide +kernel
theorem dJ9_max_7cf53_9 : decode cJ9_max_7cf53 9 = .ok (.iload_n 1, 1) := by decide +kernel
theorem dJ9_max_7cf53_10 : decode cJ9_max_7cf53 10 = .ok (.ireturn, 1) := by decide +kernel
theorem dJ9_min_7cf53_0 : decode cJ9_min_7cf53 0 = .ok (.iload_n 0, 1) := by decide +kernel
theorem dJ9_min_7cf53_1 : decode cJ9_min_7cf53 1 = .ok (.iload_n 1, 1) := by decide +kernel
theorem dJ9_min_7cf53_2 : decode cJ9_min_7cf53 2 = .ok (.if_icmp .gt 7, 3) := by decide +kernel
theorem dJ9_min_7cf53_5 : decode cJ9_min_7cf53 5 = .ok (.iload_n 0, 1) := by decide +kernel
theorem dJ9_min_7cf53_6 : decode cJ9_min_7cf53 6 = .ok (.goto 4, 3) := by decide +kernel
theorem dJ9_min_7cf53_9 : decode cJ9_min_7cf53 9 = .ok (.iload_n 1, 1) := by decide +kernel
theorem dJ9_min_7cf53_10 : decode cJ9_min_7cf53 10 = .ok (.ireturn, 1) := by decide +kernel
theorem dJ0_length_8abf5_0 : decode cJ0_length_8abf5 0 = .ok (.aload_n 0, 1) := by decide +kernel
theorem dJ0_length_8abf5_1 : decode cJ0_length_8abf5 1 = .ok (.getfield 9, 3) := by decide +kernel
theorem dJ0_length_8abf5_4 : decode cJ0_length_8abf5 4 = .ok (.arraylength, 1) := by decide +kernel
theorem dJ0_length_8abf5_5 : decode cJ0_length_8abf5 5 = .ok (.aload_n 0, 1) := by decide +kernel
theorem dJ0_length_8abf5_6 : decode cJ0_length_8abf5 6 = .ok (.invokevirtual 335, 3) := by decide +kernel
theorem dJ0_length_8abf5_9 : decode cJ0_length_8abf5 9 = .ok (.ishr, 1) := by decide +kernel
theorem dJ0_length_8abf5_10 : decode cJ0_length_8abf5 10 = .ok (.ireturn, 1) := by decide +kernel
theorem dJ0_charAt_5068e_0 : decode cJ0_charAt_5068e 0 = .ok (.aload_n 0, 1) := by decide +kernel
theorem dJ0_charAt_5068e_1 : decode cJ0_charAt_5068e 1 = .ok (.invokevirtual 492, 3) := by decide +kernel
theorem dJ0_charAt_5068e_4 : decode cJ0_charAt_5068e 4 = .ok (.ifCond .eq 12, 3) := by decide +kernel
theorem dJ0_charAt_5068e_7 : decode cJ0_charAt_5068e 7 = .ok (.aload_n 0, 1) := by decide +kernel
theorem dJ0_charAt_5068e_8 : decode cJ0_charAt_5068e 8 = .ok (.getfield 9, 3) := by decide +kernel
theorem dJ0_charAt_5068e_11 : decode cJ0_charAt_5068e 11 = .ok (.iload_n 1, 1) := by decide +kernel
theorem dJ0_charAt_5068e_12 : decode cJ0_charAt_5068e 12 = .ok (.invokestatic 495, 3) := by decide +kernel
theorem dJ0_charAt_5068e_15 : decode cJ0_charAt_5068e 15 = .ok (.ireturn, 1) := by decide +kernel
theorem dJ0_charAt_5068e_16 : decode cJ0_charAt_5068e 16 = .ok (.aload_n 0, 1) := by decide +kernel
theorem dJ0_charAt_5068e_17 : decode cJ0_charAt_5068e 17 = .ok (.getfield 9, 3) := by decide +kernel
theorem dJ0_charAt_5068e_20 : decode cJ0_charAt_5068e 20 = .ok (.iload_n 1, 1) := by decide +kernel
theorem dJ0_charAt_5068e_21 : decode cJ0_charAt_5068e 21 = .ok (.invokestatic 498, 3) := by decide +kernel
theorem dJ0_charAt_5068e_24 : decode cJ0_charAt_5068e 24 = .ok (.ireturn, 1) := by decide +kernel
theorem dJ0_coder_7d493_0 : decode cJ0_coder_7d493 0 = .ok (.getstatic 38, 3) := by decide +kernel
theorem dJ0_coder_7d493_3 : decode cJ0_coder_7d493 3 = .ok (.ifCond .eq 10, 3) := by decide +kernel
theorem dJ0_coder_7d493_6 : decode cJ0_coder_7d493 6 = .ok (.aload_n 0, 1) := by decide +kernel
theorem dJ0_coder_7d493_7 : decode cJ0_coder_7d493 7 = .ok (.getfield 15, 3) := by decide +kernel
theorem dJ0_coder_7d493_10 : decode cJ0_coder_7d493 10 = .ok (.goto 4, 3) := by decide +kernel
theorem dJ0_coder_7d493_13 : decode cJ0_coder_7d493 13 = .ok (.iconst 1, 1) := by decide +kernel
theorem dJ0_coder_7d493_14 : decode cJ0_coder_7d493 14 = .ok (.ireturn, 1) := by decide +kernel
theorem dJ0_isLatin1_aae02_0 : decode cJ0_isLatin1_aae02 0 = .ok (.getstatic 38, 3) := by decide +kernel
theorem dJ0_isLatin1_aae02_3 : decode cJ0_isLatin1_aae02 3 = .ok (.ifCond .eq 14, 3) := by decide +kernel
theorem dJ0_isLatin1_aae02_6 : decode cJ0_isLatin1_aae02 6 = .ok (.aload_n 0, 1) := by decide +kernel
theorem dJ0_isLatin1_aae02_7 : decode cJ0_isLatin1_aae02 7 = .ok (.getfield 15, 3) := by decide +kernel
theorem dJ0_isLatin1_aae02_10 : decode cJ0_isLatin1_aae02 10 = .ok (.ifCond .ne 7, 3) := by decide +kernel
theorem dJ0_isLatin1_aae02_13 : decode cJ0_isLatin1_aae02 13 = .ok (.iconst 1, 1) := by decide +kernel
theorem dJ0_isLatin1_aae02_14 : decode cJ0_isLatin1_aae02 14 = .ok (.goto 4, 3) := by decide +kernel
theorem dJ0_isLatin1_aae02_17 : decode cJ0_isLatin1_aae02 17 = .ok (.iconst 0, 1) := by decide +kernel
theorem dJ0_isLatin1_aae02_18 : decode cJ0_isLatin1_aae02 18 = .ok (.ireturn, 1) := by decide +kernel
theorem dJ0_checkIndex_df160_0 : decode cJ0_checkIndex_df160 0 = .ok (.iload_n 0, 1) := by decide +kernel
theorem dJ0_checkIndex_df160_1 : decode cJ0_checkIndex_df160 1 = .ok (.iload_n 1, 1) := by decide +kernel
theorem dJ0_checkIndex_df160_2 : decode cJ0_checkIndex_df160 2 = .ok (.getstatic 1053, 3) := by decide +kernel
theorem dJ0_checkIndex_df160_5 : decode cJ0_checkIndex_df160 5 = .ok (.invokestatic 1059, 3) := by decide +kernel
theorem dJ0_checkIndex_df160_8 : decode cJ0_checkIndex_df160 8 = .ok (.pop, 1) := by decide +kernel
theorem dJ0_checkIndex_df160_9 : decode cJ0_checkIndex_df160 9 = .ok (.return_, 1) := by decide +kernel
theorem dJ1_charAt_3b067_0 : decode cJ1_charAt_3b067 0 = .ok (.iload_n 1, 1) := by decide +kernel
theorem dJ1_charAt_3b067_1 : decode cJ1_charAt_3b067 1 = .ok (.aload_n 0, 1) := by decide +kernel
theorem dJ1_charAt_3b067_2 : decode cJ1_charAt_3b067 2 = .ok (.arraylength, 1) := by decide +kernel
theorem dJ1_charAt_3b067_3 : decode cJ1_charAt_3b067 3 = .ok (.invokestatic 9, 3) := by decide +kernel
theorem dJ1_charAt_3b067_6 : decode cJ1_charAt_3b067 6 = .ok (.aload_n 0, 1) := by decide +kernel
theorem dJ1_charAt_3b067_7 : decode cJ1_charAt_3b067 7 = .ok (.iload_n 1, 1) := by decide +kernel
theorem dJ1_charAt_3b067_8 : decode cJ1_charAt_3b067 8 = .ok (.baload, 1) := by decide +kernel
theorem dJ1_charAt_3b067_9 : decode cJ1_charAt_3b067 9 = .ok (.sipush 255, 3) := by decide +kernel
theorem dJ1_charAt_3b067_12 : decode cJ1_charAt_3b067 12 = .ok (.iand, 1) := by decide +kernel
theorem dJ1_charAt_3b067_13 : decode cJ1_charAt_3b067 13 = .ok (.i2c, 1) := by decide +kernel
theorem dJ1_charAt_3b067_14 : decode cJ1_charAt_3b067 14 = .ok (.ireturn, 1) := by decide +kernel
theorem dJ2_getChar_3b067_0 : decode cJ2_getChar_3b067 0 = .ok (.getstatic 44, 3) := by decide +kernel
theorem dJ2_getChar_3b067_3 : decode cJ2_getChar_3b067 3 = .ok (.ifCond .ne 25, 3) := by decide +kernel
theorem dJ2_getChar_3b067_6 : decode cJ2_getChar_3b067 6 = .ok (.iload_n 1, 1) := by decide +kernel
theorem dJ2_getChar_3b067_7 : decode cJ2_getChar_3b067 7 = .ok (.ifCond .lt 11, 3) := by decide +kernel
theorem dJ2_getChar_3b067_10 : decode cJ2_getChar_3b067 10 = .ok (.iload_n 1, 1) := by decide +kernel
theorem dJ2_getChar_3b067_11 : decode cJ2_getChar_3b067 11 = .ok (.aload_n 0, 1) := by decide +kernel
theorem dJ2_getChar_3b067_12 : decode cJ2_getChar_3b067 12 = .ok (.invokestatic 48, 3) := by decide +kernel
theorem dJ2_getChar_3b067_15 : decode cJ2_getChar_3b067 15 = .ok (.if_icmp .lt 13, 3) := by decide +kernel
theorem dJ2_getChar_3b067_18 : decode cJ2_getChar_3b067 18 = .ok (.new 52, 3) := by decide +kernel
theorem dJ2_getChar_3b067_21 : decode cJ2_getChar_3b067 21 = .ok (.dup, 1) := by decide +kernel
theorem dJ2_getChar_3b067_22 : decode cJ2_getChar_3b067 22 = .ok (.ldc 54, 2) := by decide +kernel
theorem dJ2_getChar_3b067_24 : decode cJ2_getChar_3b067 24 = .ok (.invokespecial 56, 3) := by decide +kernel
theorem dJ2_getChar_3b067_27 : decode cJ2_getChar_3b067 27 = .ok (.athrow, 1) := by decide +kernel
theorem dJ2_getChar_3b067_28 : decode cJ2_getChar_3b067 28 = .ok (.iload_n 1, 1) := by decide +kernel
theorem dJ2_getChar_3b067_29 : decode cJ2_getChar_3b067 29 = .ok (.iconst 1, 1) := by decide +kernel
theorem dJ2_getChar_3b067_30 : decode cJ2_getChar_3b067 30 = .ok (.ishl, 1) := by decide +kernel
theorem dJ2_getChar_3b067_31 : decode cJ2_getChar_3b067 31 = .ok (.istore_n 1, 1) := by decide +kernel
theorem dJ2_getChar_3b067_32 : decode cJ2_getChar_3b067 32 = .ok (.aload_n 0, 1) := by decide +kernel
theorem dJ2_getChar_3b067_33 : decode cJ2_getChar_3b067 33 = .ok (.iload_n 1, 1) := by decide +kernel
theorem dJ2_getChar_3b067_34 : decode cJ2_getChar_3b067 34 = .ok (.iinc 1 1, 3) := by decide +kernel
theorem dJ2_getChar_3b067_37 : decode cJ2_getChar_3b067 37 = .ok (.baload, 1) := by decide +kernel
theorem dJ2_getChar_3b067_38 : decode cJ2_getChar_3b067 38 = .ok (.sipush 255, 3) := by decide +kernel
theorem dJ2_getChar_3b067_41 : decode cJ2_getChar_3b067 41 = .ok (.iand, 1) := by decide +kernel
theorem dJ2_getChar_3b067_42 : decode cJ2_getChar_3b067 42 = .ok (.getstatic 59, 3) := by decide +kernel
theorem dJ2_getChar_3b067_45 : decode cJ2_getChar_3b067 45 = .ok (.ishl, 1) := by decide +kernel
theorem dJ2_getChar_3b067_46 : decode cJ2_getChar_3b067 46 = .ok (.aload_n 0, 1) := by decide +kernel
theorem dJ2_getChar_3b067_47 : decode cJ2_getChar_3b067 47 = .ok (.iload_n 1, 1) := by decide +kernel
theorem dJ2_getChar_3b067_48 : decode cJ2_getChar_3b067 48 = .ok (.baload, 1) := by decide +kernel
theorem dJ2_getChar_3b067_49 : decode cJ2_getChar_3b067 49 = .ok (.sipush 255, 3) := by decide +kernel
theorem dJ2_getChar_3b067_52 : decode cJ2_getChar_3b067 52 = .ok (.iand, 1) := by decide +kernel
theorem dJ2_getChar_3b067_53 : decode cJ2_getChar_3b067 53 = .ok (.getstatic 63, 3) := by decide +kernel
theorem dJ2_getChar_3b067_56 : decode cJ2_getChar_3b067 56 = .ok (.ishl, 1) := by decide +kernel
theorem dJ2_getChar_3b067_57 : decode cJ2_getChar_3b067 57 = .ok (.ior, 1) := by decide +kernel
theorem dJ2_getChar_3b067_58 : decode cJ2_getChar_3b067 58 = .ok (.i2c, 1) := by decide +kernel
theorem dJ2_getChar_3b067_59 : decode cJ2_getChar_3b067 59 = .ok (.ireturn, 1) := by decide +kernel
theorem dJ2_length_9d52b_0 : decode cJ2_length_9d52b 0 = .ok (.aload_n 0, 1) := by decide +kernel
theorem dJ2_length_9d52b_1 : decode cJ2_length_9d52b 1 = .ok (.arraylength, 1) := by decide +kernel
theorem dJ2_length_9d52b_2 : decode cJ2_length_9d52b 2 = .ok (.iconst 1, 1) := by decide +kernel
theorem dJ2_length_9d52b_3 : decode cJ2_length_9d52b 3 = .ok (.ishr, 1) := by decide +kernel
theorem dJ2_length_9d52b_4 : decode cJ2_length_9d52b 4 = .ok (.ireturn, 1) := by decide +kernel
theorem dJ2_charAt_3b067_0 : decode cJ2_charAt_3b067 0 = .ok (.iload_n 1, 1) := by decide +kernel
theorem dJ2_charAt_3b067_1 : decode cJ2_charAt_3b067 1 = .ok (.aload_n 0, 1) := by decide +kernel
theorem dJ2_charAt_3b067_2 : decode cJ2_charAt_3b067 2 = .ok (.invokestatic 67, 3) := by decide +kernel
theorem dJ2_charAt_3b067_5 : decode cJ2_charAt_3b067 5 = .ok (.aload_n 0, 1) := by decide +kernel
theorem dJ2_charAt_3b067_6 : decode cJ2_charAt_3b067 6 = .ok (.iload_n 1, 1) := by decide +kernel
theorem dJ2_charAt_3b067_7 : decode cJ2_charAt_3b067 7 = .ok (.invokestatic 71, 3) := by decide +kernel
theorem dJ2_charAt_3b067_10 : decode cJ2_charAt_3b067 10 = .ok (.ireturn, 1) := by decide +kernel
theorem dJ2_checkIndex_2214a_0 : decode cJ2_checkIndex_2214a 0 = .ok (.iload_n 0, 1) := by decide +kernel
theorem dJ2_checkIndex_2214a_1 : decode cJ2_checkIndex_2214a 1 = .ok (.aload_n 1, 1) := by decide +kernel
theorem dJ2_checkIndex_2214a_2 : decode cJ2_checkIndex_2214a 2 = .ok (.invokestatic 48, 3) := by decide +kernel
theorem dJ2_checkIndex_2214a_5 : decode cJ2_checkIndex_2214a 5 = .ok (.invokestatic 414, 3) := by decide +kernel
theorem dJ2_checkIndex_2214a_8 : decode cJ2_checkIndex_2214a 8 = .ok (.return_, 1) := by decide +kernel
theorem dJ7_fill_53178_0 : decode cJ7_fill_53178 0 = .ok (.iconst 0, 1) := by decide +kernel
theorem dJ7_fill_53178_1 : decode cJ7_fill_53178 1 = .ok (.istore_n 2, 1) := by decide +kernel
theorem dJ7_fill_53178_2 : decode cJ7_fill_53178 2 = .ok (.aload_n 0, 1) := by decide +kernel
theorem dJ7_fill_53178_3 : decode cJ7_fill_53178 3 = .ok (.arraylength, 1) := by decide +kernel
theorem dJ7_fill_53178_4 : decode cJ7_fill_53178 4 = .ok (.istore_n 3, 1) := by decide +kernel
theorem dJ7_fill_53178_5 : decode cJ7_fill_53178 5 = .ok (.iload_n 2, 1) := by decide +kernel
theorem dJ7_fill_53178_6 : decode cJ7_fill_53178 6 = .ok (.iload_n 3, 1) := by decide +kernel
theorem dJ7_fill_53178_7 : decode cJ7_fill_53178 7 = .ok (.if_icmp .ge 13, 3) := by decide +kernel
theorem dJ7_fill_53178_10 : decode cJ7_fill_53178 10 = .ok (.aload_n 0, 1) := by decide +kernel
theorem dJ7_fill_53178_11 : decode cJ7_fill_53178 11 = .ok (.iload_n 2, 1) := by decide +kernel
theorem dJ7_fill_53178_12 : decode cJ7_fill_53178 12 = .ok (.iload_n 1, 1) := by decide +kernel
theorem dJ7_fill_53178_13 : decode cJ7_fill_53178 13 = .ok (.iastore, 1) := by decide +kernel
theorem dJ7_fill_53178_14 : decode cJ7_fill_53178 14 = .ok (.iinc 2 1, 3) := by decide +kernel
theorem dJ7_fill_53178_17 : decode cJ7_fill_53178 17 = .ok (.goto (-12), 3) := by decide +kernel
theorem dJ7_fill_53178_20 : decode cJ7_fill_53178 20 = .ok (.return_, 1) := by decide +kernel
theorem dJ3_checkIndex_8e157_0 : decode cJ3_checkIndex_8e157 0 = .ok (.iload_n 0, 1) := by decide +kernel
theorem dJ3_checkIndex_8e157_1 : decode cJ3_checkIndex_8e157 1 = .ok (.ifCond .lt 8, 3) := by decide +kernel
theorem dJ3_checkIndex_8e157_4 : decode cJ3_checkIndex_8e157 4 = .ok (.iload_n 0, 1) := by decide +kernel
theorem dJ3_checkIndex_8e157_5 : decode cJ3_checkIndex_8e157 5 = .ok (.iload_n 1, 1) := by decide +kernel
theorem dJ3_checkIndex_8e157_6 : decode cJ3_checkIndex_8e157 6 = .ok (.if_icmp .lt 10, 3) := by decide +kernel
theorem dJ3_checkIndex_8e157_9 : decode cJ3_checkIndex_8e157 9 = .ok (.aload_n 2, 1) := by decide +kernel
theorem dJ3_checkIndex_8e157_10 : decode cJ3_checkIndex_8e157 10 = .ok (.iload_n 0, 1) := by decide +kernel
theorem dJ3_checkIndex_8e157_11 : decode cJ3_checkIndex_8e157 11 = .ok (.iload_n 1, 1) := by decide +kernel
theorem dJ3_checkIndex_8e157_12 : decode cJ3_checkIndex_8e157 12 = .ok (.invokestatic 95, 3) := by decide +kernel
theorem dJ3_checkIndex_8e157_15 : decode cJ3_checkIndex_8e157 15 = .ok (.athrow, 1) := by decide +kernel
theorem dJ3_checkIndex_8e157_16 : decode cJ3_checkIndex_8e157 16 = .ok (.iload_n 0, 1) := by decide +kernel
theorem dJ3_checkIndex_8e157_17 : decode cJ3_checkIndex_8e157 17 = .ok (.ireturn, 1) := by decide +kernel
