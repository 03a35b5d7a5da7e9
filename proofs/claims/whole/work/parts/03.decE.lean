theorem dX9_thrown_0 : decode cX9_thrown 0 = .ok (.aload_n 0, 1) := by decide +kernel
theorem dX9_thrown_1 : decode cX9_thrown 1 = .ok (.getfield 99, 3) := by decide +kernel
theorem dX9_thrown_4 : decode cX9_thrown 4 = .ok (.ireturn, 1) := by decide +kernel
theorem dX9_ticks_0 : decode cX9_ticks 0 = .ok (.aload_n 0, 1) := by decide +kernel
theorem dX9_ticks_1 : decode cX9_ticks 1 = .ok (.iload_n 1, 1) := by decide +kernel
theorem dX9_ticks_2 : decode cX9_ticks 2 = .ok (.iconst 0, 1) := by decide +kernel
theorem dX9_ticks_3 : decode cX9_ticks 3 = .ok (.ldc 115, 2) := by decide +kernel
theorem dX9_ticks_5 : decode cX9_ticks 5 = .ok (.invokestatic 116, 3) := by decide +kernel
theorem dX9_ticks_8 : decode cX9_ticks 8 = .ok (.ifCond .ne 7, 3) := by decide +kernel
theorem dX9_ticks_11 : decode cX9_ticks 11 = .ok (.iconst 1, 1) := by decide +kernel
theorem dX9_ticks_12 : decode cX9_ticks 12 = .ok (.goto 4, 3) := by decide +kernel
theorem dX9_ticks_15 : decode cX9_ticks 15 = .ok (.iconst 0, 1) := by decide +kernel
theorem dX9_ticks_16 : decode cX9_ticks 16 = .ok (.putfield 99, 3) := by decide +kernel
theorem dX9_ticks_19 : decode cX9_ticks 19 = .ok (.aload_n 0, 1) := by decide +kernel
theorem dX9_ticks_20 : decode cX9_ticks 20 = .ok (.getfield 99, 3) := by decide +kernel
theorem dX9_ticks_23 : decode cX9_ticks 23 = .ok (.ifCond .le 5, 3) := by decide +kernel
theorem dX9_ticks_26 : decode cX9_ticks 26 = .ok (.iconst 0, 1) := by decide +kernel
theorem dX9_ticks_27 : decode cX9_ticks 27 = .ok (.ireturn, 1) := by decide +kernel
theorem dX9_ticks_28 : decode cX9_ticks 28 = .ok (.aload_n 0, 1) := by decide +kernel
theorem dX9_ticks_29 : decode cX9_ticks 29 = .ok (.aload_n 0, 1) := by decide +kernel
theorem dX9_ticks_30 : decode cX9_ticks 30 = .ok (.getfield 120, 3) := by decide +kernel
theorem dX9_ticks_33 : decode cX9_ticks 33 = .ok (.iload_n 1, 1) := by decide +kernel
theorem dX9_ticks_34 : decode cX9_ticks 34 = .ok (.iadd, 1) := by decide +kernel
theorem dX9_ticks_35 : decode cX9_ticks 35 = .ok (.ldc 123, 2) := by decide +kernel
theorem dX9_ticks_37 : decode cX9_ticks 37 = .ok (.if_icmp .le 8, 3) := by decide +kernel
theorem dX9_ticks_40 : decode cX9_ticks 40 = .ok (.ldc 123, 2) := by decide +kernel
theorem dX9_ticks_42 : decode cX9_ticks 42 = .ok (.goto 9, 3) := by decide +kernel
theorem dX9_ticks_45 : decode cX9_ticks 45 = .ok (.aload_n 0, 1) := by decide +kernel
theorem dX9_ticks_46 : decode cX9_ticks 46 = .ok (.getfield 120, 3) := by decide +kernel
theorem dX9_ticks_49 : decode cX9_ticks 49 = .ok (.iload_n 1, 1) := by decide +kernel
theorem dX9_ticks_50 : decode cX9_ticks 50 = .ok (.iadd, 1) := by decide +kernel
theorem dX9_ticks_51 : decode cX9_ticks 51 = .ok (.putfield 120, 3) := by decide +kernel
theorem dX9_ticks_54 : decode cX9_ticks 54 = .ok (.aload_n 0, 1) := by decide +kernel
theorem dX9_ticks_55 : decode cX9_ticks 55 = .ok (.getfield 120, 3) := by decide +kernel
theorem dX9_ticks_58 : decode cX9_ticks 58 = .ok (.ireturn, 1) := by decide +kernel
theorem dX9_look_0 : decode cX9_look 0 = .ok (.aload_n 0, 1) := by decide +kernel
theorem dX9_look_1 : decode cX9_look 1 = .ok (.aload_n 0, 1) := by decide +kernel
theorem dX9_look_2 : decode cX9_look 2 = .ok (.iload_n 1, 1) := by decide +kernel
theorem dX9_look_3 : decode cX9_look 3 = .ok (.invokevirtual 127, 3) := by decide +kernel
theorem dX9_look_6 : decode cX9_look 6 = .ok (.ifCond .ne 7, 3) := by decide +kernel
theorem dX9_look_9 : decode cX9_look 9 = .ok (.iconst 1, 1) := by decide +kernel
theorem dX9_look_10 : decode cX9_look 10 = .ok (.goto 18, 3) := by decide +kernel
theorem dX9_look_13 : decode cX9_look 13 = .ok (.iload_n 2, 1) := by decide +kernel
theorem dX9_look_14 : decode cX9_look 14 = .ok (.iconst 0, 1) := by decide +kernel
theorem dX9_look_15 : decode cX9_look 15 = .ok (.bipush 6, 2) := by decide +kernel
theorem dX9_look_17 : decode cX9_look 17 = .ok (.invokestatic 116, 3) := by decide +kernel
theorem dX9_look_20 : decode cX9_look 20 = .ok (.ifCond .ne 7, 3) := by decide +kernel
theorem dX9_look_23 : decode cX9_look 23 = .ok (.iconst 2, 1) := by decide +kernel
theorem dX9_look_24 : decode cX9_look 24 = .ok (.goto 4, 3) := by decide +kernel
theorem dX9_look_27 : decode cX9_look 27 = .ok (.iconst 0, 1) := by decide +kernel
theorem dX9_look_28 : decode cX9_look 28 = .ok (.putfield 99, 3) := by decide +kernel
theorem dX9_look_31 : decode cX9_look 31 = .ok (.aload_n 0, 1) := by decide +kernel
theorem dX9_look_32 : decode cX9_look 32 = .ok (.getfield 99, 3) := by decide +kernel
theorem dX9_look_35 : decode cX9_look 35 = .ok (.ifCond .le 5, 3) := by decide +kernel
theorem dX9_look_38 : decode cX9_look 38 = .ok (.iconst 0, 1) := by decide +kernel
theorem dX9_look_39 : decode cX9_look 39 = .ok (.ireturn, 1) := by decide +kernel
theorem dX9_look_40 : decode cX9_look 40 = .ok (.iload_n 2, 1) := by decide +kernel
theorem dX9_look_41 : decode cX9_look 41 = .ok (.tableswitch 71 0 6 #[43, 71, 71, 71, 50, 57, 64], 43) := by decide +kernel
theorem dX9_look_84 : decode cX9_look 84 = .ok (.aload_n 0, 1) := by decide +kernel
theorem dX9_look_85 : decode cX9_look 85 = .ok (.getfield 17, 3) := by decide +kernel
theorem dX9_look_88 : decode cX9_look 88 = .ok (.iload_n 1, 1) := by decide +kernel
theorem dX9_look_89 : decode cX9_look 89 = .ok (.iaload, 1) := by decide +kernel
theorem dX9_look_90 : decode cX9_look 90 = .ok (.ireturn, 1) := by decide +kernel
theorem dX9_look_91 : decode cX9_look 91 = .ok (.aload_n 0, 1) := by decide +kernel
theorem dX9_look_92 : decode cX9_look 92 = .ok (.getfield 23, 3) := by decide +kernel
theorem dX9_look_95 : decode cX9_look 95 = .ok (.iload_n 1, 1) := by decide +kernel
theorem dX9_look_96 : decode cX9_look 96 = .ok (.iaload, 1) := by decide +kernel
theorem dX9_look_97 : decode cX9_look 97 = .ok (.ireturn, 1) := by decide +kernel
theorem dX9_look_98 : decode cX9_look 98 = .ok (.aload_n 0, 1) := by decide +kernel
theorem dX9_look_99 : decode cX9_look 99 = .ok (.getfield 26, 3) := by decide +kernel
theorem dX9_look_102 : decode cX9_look 102 = .ok (.iload_n 1, 1) := by decide +kernel
theorem dX9_look_103 : decode cX9_look 103 = .ok (.iaload, 1) := by decide +kernel
theorem dX9_look_104 : decode cX9_look 104 = .ok (.ireturn, 1) := by decide +kernel
theorem dX9_look_105 : decode cX9_look 105 = .ok (.aload_n 0, 1) := by decide +kernel
theorem dX9_look_106 : decode cX9_look 106 = .ok (.getfield 29, 3) := by decide +kernel
theorem dX9_look_109 : decode cX9_look 109 = .ok (.iload_n 1, 1) := by decide +kernel
theorem dX9_look_110 : decode cX9_look 110 = .ok (.iaload, 1) := by decide +kernel
theorem dX9_look_111 : decode cX9_look 111 = .ok (.ireturn, 1) := by decide +kernel
theorem dX9_look_112 : decode cX9_look 112 = .ok (.aload_n 0, 1) := by decide +kernel
theorem dX9_look_113 : decode cX9_look 113 = .ok (.getfield 20, 3) := by decide +kernel
theorem dX9_look_116 : decode cX9_look 116 = .ok (.iconst 3, 1) := by decide +kernel
theorem dX9_look_117 : decode cX9_look 117 = .ok (.iload_n 1, 1) := by decide +kernel
theorem dX9_look_118 : decode cX9_look 118 = .ok (.imul, 1) := by decide +kernel
theorem dX9_look_119 : decode cX9_look 119 = .ok (.iload_n 2, 1) := by decide +kernel
theorem dX9_look_120 : decode cX9_look 120 = .ok (.iadd, 1) := by decide +kernel
theorem dX9_look_121 : decode cX9_look 121 = .ok (.iconst 1, 1) := by decide +kernel
theorem dX9_look_122 : decode cX9_look 122 = .ok (.isub, 1) := by decide +kernel
theorem dX9_look_123 : decode cX9_look 123 = .ok (.iaload, 1) := by decide +kernel
theorem dX9_look_124 : decode cX9_look 124 = .ok (.ireturn, 1) := by decide +kernel
theorem dX9_may_0 : decode cX9_may 0 = .ok (.aload_n 0, 1) := by decide +kernel
theorem dX9_may_1 : decode cX9_may 1 = .ok (.iload_n 1, 1) := by decide +kernel
theorem dX9_may_2 : decode cX9_may 2 = .ok (.iconst 0, 1) := by decide +kernel
theorem dX9_may_3 : decode cX9_may 3 = .ok (.iconst 3, 1) := by decide +kernel
theorem dX9_may_4 : decode cX9_may 4 = .ok (.invokestatic 116, 3) := by decide +kernel
theorem dX9_may_7 : decode cX9_may 7 = .ok (.ifCond .ne 7, 3) := by decide +kernel
theorem dX9_may_10 : decode cX9_may 10 = .ok (.iconst 1, 1) := by decide +kernel
theorem dX9_may_11 : decode cX9_may 11 = .ok (.goto 18, 3) := by decide +kernel
theorem dX9_may_14 : decode cX9_may 14 = .ok (.iload_n 2, 1) := by decide +kernel
theorem dX9_may_15 : decode cX9_may 15 = .ok (.iconst 0, 1) := by decide +kernel
theorem dX9_may_16 : decode cX9_may 16 = .ok (.bipush 7, 2) := by decide +kernel
theorem dX9_may_18 : decode cX9_may 18 = .ok (.invokestatic 116, 3) := by decide +kernel
theorem dX9_may_21 : decode cX9_may 21 = .ok (.ifCond .ne 7, 3) := by decide +kernel
theorem dX9_may_24 : decode cX9_may 24 = .ok (.iconst 2, 1) := by decide +kernel
theorem dX9_may_25 : decode cX9_may 25 = .ok (.goto 4, 3) := by decide +kernel
theorem dX9_may_28 : decode cX9_may 28 = .ok (.iconst 0, 1) := by decide +kernel
theorem dX9_may_29 : decode cX9_may 29 = .ok (.putfield 99, 3) := by decide +kernel
theorem dX9_may_32 : decode cX9_may 32 = .ok (.aload_n 0, 1) := by decide +kernel
theorem dX9_may_33 : decode cX9_may 33 = .ok (.getfield 99, 3) := by decide +kernel
theorem dX9_may_36 : decode cX9_may 36 = .ok (.ifCond .ne 10, 3) := by decide +kernel
theorem dX9_may_39 : decode cX9_may 39 = .ok (.aload_n 0, 1) := by decide +kernel
theorem dX9_may_40 : decode cX9_may 40 = .ok (.getfield 13, 3) := by decide +kernel
theorem dX9_may_43 : decode cX9_may 43 = .ok (.iload_n 1, 1) := by decide +kernel
theorem dX9_may_44 : decode cX9_may 44 = .ok (.iload_n 2, 1) := by decide +kernel
theorem dX9_may_45 : decode cX9_may 45 = .ok (.iastore, 1) := by decide +kernel
theorem dX9_may_46 : decode cX9_may 46 = .ok (.return_, 1) := by decide +kernel
theorem dX9_wrong_0 : decode cX9_wrong 0 = .ok (.aload_n 0, 1) := by decide +kernel
theorem dX9_wrong_1 : decode cX9_wrong 1 = .ok (.iload_n 1, 1) := by decide +kernel
theorem dX9_wrong_2 : decode cX9_wrong 2 = .ok (.putfield 75, 3) := by decide +kernel
theorem dX9_wrong_5 : decode cX9_wrong 5 = .ok (.iconst 0, 1) := by decide +kernel
theorem dX9_wrong_6 : decode cX9_wrong 6 = .ok (.ireturn, 1) := by decide +kernel
theorem dX9_sign_0 : decode cX9_sign 0 = .ok (.aload_n 0, 1) := by decide +kernel
theorem dX9_sign_1 : decode cX9_sign 1 = .ok (.getfield 131, 3) := by decide +kernel
theorem dX9_sign_4 : decode cX9_sign 4 = .ok (.aload_n 0, 1) := by decide +kernel
theorem dX9_sign_5 : decode cX9_sign 5 = .ok (.getfield 134, 3) := by decide +kernel
theorem dX9_sign_8 : decode cX9_sign 8 = .ok (.if_icmp .ge 30, 3) := by decide +kernel
theorem dX9_sign_11 : decode cX9_sign 11 = .ok (.aload_n 0, 1) := by decide +kernel
theorem dX9_sign_12 : decode cX9_sign 12 = .ok (.getfield 72, 3) := by decide +kernel
theorem dX9_sign_15 : decode cX9_sign 15 = .ok (.aload_n 0, 1) := by decide +kernel
theorem dX9_sign_16 : decode cX9_sign 16 = .ok (.getfield 131, 3) := by decide +kernel
theorem dX9_sign_19 : decode cX9_sign 19 = .ok (.iaload, 1) := by decide +kernel
theorem dX9_sign_20 : decode cX9_sign 20 = .ok (.bipush 32, 2) := by decide +kernel
theorem dX9_sign_22 : decode cX9_sign 22 = .ok (.if_icmp .ne 16, 3) := by decide +kernel
theorem dX9_sign_25 : decode cX9_sign 25 = .ok (.aload_n 0, 1) := by decide +kernel
theorem dX9_sign_26 : decode cX9_sign 26 = .ok (.dup, 1) := by decide +kernel
theorem dX9_sign_27 : decode cX9_sign 27 = .ok (.getfield 131, 3) := by decide +kernel
theorem dX9_sign_30 : decode cX9_sign 30 = .ok (.iconst 1, 1) := by decide +kernel
theorem dX9_sign_31 : decode cX9_sign 31 = .ok (.iadd, 1) := by decide +kernel
theorem dX9_sign_32 : decode cX9_sign 32 = .ok (.putfield 131, 3) := by decide +kernel
theorem dX9_sign_35 : decode cX9_sign 35 = .ok (.goto (-35), 3) := by decide +kernel
theorem dX9_sign_38 : decode cX9_sign 38 = .ok (.aload_n 0, 1) := by decide +kernel
theorem dX9_sign_39 : decode cX9_sign 39 = .ok (.getfield 131, 3) := by decide +kernel
theorem dX9_sign_42 : decode cX9_sign 42 = .ok (.aload_n 0, 1) := by decide +kernel
theorem dX9_sign_43 : decode cX9_sign 43 = .ok (.getfield 134, 3) := by decide +kernel
theorem dX9_sign_46 : decode cX9_sign 46 = .ok (.if_icmp .ge 15, 3) := by decide +kernel
theorem dX9_sign_49 : decode cX9_sign 49 = .ok (.aload_n 0, 1) := by decide +kernel
theorem dX9_sign_50 : decode cX9_sign 50 = .ok (.getfield 72, 3) := by decide +kernel
theorem dX9_sign_53 : decode cX9_sign 53 = .ok (.aload_n 0, 1) := by decide +kernel
theorem dX9_sign_54 : decode cX9_sign 54 = .ok (.getfield 131, 3) := by decide +kernel
theorem dX9_sign_57 : decode cX9_sign 57 = .ok (.iaload, 1) := by decide +kernel
theorem dX9_sign_58 : decode cX9_sign 58 = .ok (.goto 4, 3) := by decide +kernel
theorem dX9_sign_61 : decode cX9_sign 61 = .ok (.iconst (-1), 1) := by decide +kernel
theorem dX9_sign_62 : decode cX9_sign 62 = .ok (.ireturn, 1) := by decide +kernel
theorem dX9_wordEnd_0 : decode cX9_wordEnd 0 = .ok (.aload_n 0, 1) := by decide +kernel
theorem dX9_wordEnd_1 : decode cX9_wordEnd 1 = .ok (.getfield 131, 3) := by decide +kernel
theorem dX9_wordEnd_4 : decode cX9_wordEnd 4 = .ok (.istore_n 1, 1) := by decide +kernel
theorem dX9_wordEnd_5 : decode cX9_wordEnd 5 = .ok (.iload_n 1, 1) := by decide +kernel
theorem dX9_wordEnd_6 : decode cX9_wordEnd 6 = .ok (.aload_n 0, 1) := by decide +kernel
theorem dX9_wordEnd_7 : decode cX9_wordEnd 7 = .ok (.getfield 134, 3) := by decide +kernel
theorem dX9_wordEnd_10 : decode cX9_wordEnd 10 = .ok (.if_icmp .ge 31, 3) := by decide +kernel
theorem dX9_wordEnd_13 : decode cX9_wordEnd 13 = .ok (.aload_n 0, 1) := by decide +kernel
theorem dX9_wordEnd_14 : decode cX9_wordEnd 14 = .ok (.getfield 72, 3) := by decide +kernel
theorem dX9_wordEnd_17 : decode cX9_wordEnd 17 = .ok (.iload_n 1, 1) := by decide +kernel
theorem dX9_wordEnd_18 : decode cX9_wordEnd 18 = .ok (.iaload, 1) := by decide +kernel
theorem dX9_wordEnd_19 : decode cX9_wordEnd 19 = .ok (.bipush 97, 2) := by decide +kernel
theorem dX9_wordEnd_21 : decode cX9_wordEnd 21 = .ok (.if_icmp .lt 20, 3) := by decide +kernel
theorem dX9_wordEnd_24 : decode cX9_wordEnd 24 = .ok (.aload_n 0, 1) := by decide +kernel
theorem dX9_wordEnd_25 : decode cX9_wordEnd 25 = .ok (.getfield 72, 3) := by decide +kernel
theorem dX9_wordEnd_28 : decode cX9_wordEnd 28 = .ok (.iload_n 1, 1) := by decide +kernel
theorem dX9_wordEnd_29 : decode cX9_wordEnd 29 = .ok (.iaload, 1) := by decide +kernel
theorem dX9_wordEnd_30 : decode cX9_wordEnd 30 = .ok (.bipush 122, 2) := by decide +kernel
theorem dX9_wordEnd_32 : decode cX9_wordEnd 32 = .ok (.if_icmp .gt 9, 3) := by decide +kernel
theorem dX9_wordEnd_35 : decode cX9_wordEnd 35 = .ok (.iinc 1 1, 3) := by decide +kernel
theorem dX9_wordEnd_38 : decode cX9_wordEnd 38 = .ok (.goto (-33), 3) := by decide +kernel
theorem dX9_wordEnd_41 : decode cX9_wordEnd 41 = .ok (.iload_n 1, 1) := by decide +kernel
theorem dX9_wordEnd_42 : decode cX9_wordEnd 42 = .ok (.ireturn, 1) := by decide +kernel
theorem dX9_takes_0 : decode cX9_takes 0 = .ok (.aload_n 0, 1) := by decide +kernel
theorem dX9_takes_1 : decode cX9_takes 1 = .ok (.lload_n 1, 1) := by decide +kernel
theorem dX9_takes_2 : decode cX9_takes 2 = .ok (.invokevirtual 144, 3) := by decide +kernel
theorem dX9_takes_5 : decode cX9_takes 5 = .ok (.ifCond .ne 5, 3) := by decide +kernel
theorem dX9_takes_8 : decode cX9_takes 8 = .ok (.iconst 0, 1) := by decide +kernel
theorem dX9_takes_9 : decode cX9_takes 9 = .ok (.ireturn, 1) := by decide +kernel
theorem dX9_takes_10 : decode cX9_takes 10 = .ok (.aload_n 0, 1) := by decide +kernel
theorem dX9_takes_11 : decode cX9_takes 11 = .ok (.aload_n 0, 1) := by decide +kernel
theorem dX9_takes_12 : decode cX9_takes 12 = .ok (.invokevirtual 141, 3) := by decide +kernel
theorem dX9_takes_15 : decode cX9_takes 15 = .ok (.putfield 131, 3) := by decide +kernel
theorem dX9_takes_18 : decode cX9_takes 18 = .ok (.iconst 1, 1) := by decide +kernel
theorem dX9_takes_19 : decode cX9_takes 19 = .ok (.ireturn, 1) := by decide +kernel
theorem dX9_passes_0 : decode cX9_passes 0 = .ok (.aload_n 0, 1) := by decide +kernel
theorem dX9_passes_1 : decode cX9_passes 1 = .ok (.lload_n 1, 1) := by decide +kernel
theorem dX9_passes_2 : decode cX9_passes 2 = .ok (.invokevirtual 148, 3) := by decide +kernel
theorem dX9_passes_5 : decode cX9_passes 5 = .ok (.ifCond .ne 14, 3) := by decide +kernel
theorem dX9_passes_8 : decode cX9_passes 8 = .ok (.aload_n 0, 1) := by decide +kernel
theorem dX9_passes_9 : decode cX9_passes 9 = .ok (.aload_n 0, 1) := by decide +kernel
theorem dX9_passes_10 : decode cX9_passes 10 = .ok (.getfield 131, 3) := by decide +kernel
theorem dX9_passes_13 : decode cX9_passes 13 = .ok (.invokevirtual 151, 3) := by decide +kernel
theorem dX9_passes_16 : decode cX9_passes 16 = .ok (.ifCond .eq 7, 3) := by decide +kernel
theorem dX9_passes_19 : decode cX9_passes 19 = .ok (.iconst 1, 1) := by decide +kernel
theorem dX9_passes_20 : decode cX9_passes 20 = .ok (.goto 4, 3) := by decide +kernel
theorem dX9_passes_23 : decode cX9_passes 23 = .ok (.iconst 0, 1) := by decide +kernel
theorem dX9_passes_24 : decode cX9_passes 24 = .ok (.ireturn, 1) := by decide +kernel
theorem dX9_readField_0 : decode cX9_readField 0 = .ok (.aload_n 0, 1) := by decide +kernel
theorem dX9_readField_1 : decode cX9_readField 1 = .ok (.invokevirtual 163, 3) := by decide +kernel
theorem dX9_readField_4 : decode cX9_readField 4 = .ok (.istore_n 1, 1) := by decide +kernel
theorem dX9_readField_5 : decode cX9_readField 5 = .ok (.iload_n 1, 1) := by decide +kernel
theorem dX9_readField_6 : decode cX9_readField 6 = .ok (.iconst (-1), 1) := by decide +kernel
theorem dX9_readField_7 : decode cX9_readField 7 = .ok (.if_icmp .ne 12, 3) := by decide +kernel
theorem dX9_readField_10 : decode cX9_readField 10 = .ok (.aload_n 0, 1) := by decide +kernel
theorem dX9_readField_11 : decode cX9_readField 11 = .ok (.aload_n 0, 1) := by decide +kernel
theorem dX9_readField_12 : decode cX9_readField 12 = .ok (.getfield 131, 3) := by decide +kernel
theorem dX9_readField_15 : decode cX9_readField 15 = .ok (.invokevirtual 151, 3) := by decide +kernel
theorem dX9_readField_18 : decode cX9_readField 18 = .ok (.ireturn, 1) := by decide +kernel
theorem dX9_readField_19 : decode cX9_readField 19 = .ok (.aload_n 0, 1) := by decide +kernel
theorem dX9_readField_20 : decode cX9_readField 20 = .ok (.aload_n 0, 1) := by decide +kernel
theorem dX9_readField_21 : decode cX9_readField 21 = .ok (.invokevirtual 141, 3) := by decide +kernel
theorem dX9_readField_24 : decode cX9_readField 24 = .ok (.putfield 131, 3) := by decide +kernel
theorem dX9_readField_27 : decode cX9_readField 27 = .ok (.aload_n 0, 1) := by decide +kernel
theorem dX9_readField_28 : decode cX9_readField 28 = .ok (.dup, 1) := by decide +kernel
theorem dX9_readField_29 : decode cX9_readField 29 = .ok (.getfield 166, 3) := by decide +kernel
theorem dX9_readField_32 : decode cX9_readField 32 = .ok (.iconst 1, 1) := by decide +kernel
theorem dX9_readField_33 : decode cX9_readField 33 = .ok (.iload_n 1, 1) := by decide +kernel
theorem dX9_readField_34 : decode cX9_readField 34 = .ok (.ishl, 1) := by decide +kernel
theorem dX9_readField_35 : decode cX9_readField 35 = .ok (.ior, 1) := by decide +kernel
theorem dX9_readField_36 : decode cX9_readField 36 = .ok (.putfield 166, 3) := by decide +kernel
theorem dX9_readField_39 : decode cX9_readField 39 = .ok (.aload_n 0, 1) := by decide +kernel
theorem dX9_readField_40 : decode cX9_readField 40 = .ok (.iload_n 1, 1) := by decide +kernel
theorem dX9_readField_41 : decode cX9_readField 41 = .ok (.putfield 154, 3) := by decide +kernel
theorem dX9_readField_44 : decode cX9_readField 44 = .ok (.iconst 1, 1) := by decide +kernel
theorem dX9_readField_45 : decode cX9_readField 45 = .ok (.ireturn, 1) := by decide +kernel
theorem dX9_pending_0 : decode cX9_pending 0 = .ok (.bipush 48, 2) := by decide +kernel
theorem dX9_pending_2 : decode cX9_pending 2 = .ok (.istore_n 3, 1) := by decide +kernel
theorem dX9_pending_3 : decode cX9_pending 3 = .ok (.iload_n 1, 1) := by decide +kernel
theorem dX9_pending_4 : decode cX9_pending 4 = .ok (.iconst 1, 1) := by decide +kernel
theorem dX9_pending_5 : decode cX9_pending 5 = .ok (.isub, 1) := by decide +kernel
theorem dX9_pending_6 : decode cX9_pending 6 = .ok (.istore 4, 2) := by decide +kernel
theorem dX9_pending_8 : decode cX9_pending 8 = .ok (.iload 4, 2) := by decide +kernel
theorem dX9_pending_10 : decode cX9_pending 10 = .ok (.ifCond .lt 45, 3) := by decide +kernel
theorem dX9_pending_13 : decode cX9_pending 13 = .ok (.aload_n 0, 1) := by decide +kernel
theorem dX9_pending_14 : decode cX9_pending 14 = .ok (.getfield 38, 3) := by decide +kernel
theorem dX9_pending_17 : decode cX9_pending 17 = .ok (.iload_n 3, 1) := by decide +kernel
theorem dX9_pending_18 : decode cX9_pending 18 = .ok (.iload 4, 2) := by decide +kernel
theorem dX9_pending_20 : decode cX9_pending 20 = .ok (.iadd, 1) := by decide +kernel
theorem dX9_pending_21 : decode cX9_pending 21 = .ok (.baload, 1) := by decide +kernel
theorem dX9_pending_22 : decode cX9_pending 22 = .ok (.ifCond .eq 33, 3) := by decide +kernel
theorem dX9_pending_25 : decode cX9_pending 25 = .ok (.aload_n 0, 1) := by decide +kernel
theorem dX9_pending_26 : decode cX9_pending 26 = .ok (.getfield 51, 3) := by decide +kernel
theorem dX9_pending_29 : decode cX9_pending 29 = .ok (.iload_n 3, 1) := by decide +kernel
theorem dX9_pending_30 : decode cX9_pending 30 = .ok (.iload 4, 2) := by decide +kernel
theorem dX9_pending_32 : decode cX9_pending 32 = .ok (.iadd, 1) := by decide +kernel
theorem dX9_pending_33 : decode cX9_pending 33 = .ok (.iaload, 1) := by decide +kernel
theorem dX9_pending_34 : decode cX9_pending 34 = .ok (.iconst (-1), 1) := by decide +kernel
theorem dX9_pending_35 : decode cX9_pending 35 = .ok (.if_icmp .eq 7, 3) := by decide +kernel
theorem dX9_pending_38 : decode cX9_pending 38 = .ok (.iconst 1, 1) := by decide +kernel
theorem dX9_pending_39 : decode cX9_pending 39 = .ok (.goto 4, 3) := by decide +kernel
theorem dX9_pending_42 : decode cX9_pending 42 = .ok (.iconst 0, 1) := by decide +kernel
theorem dX9_pending_43 : decode cX9_pending 43 = .ok (.iload_n 2, 1) := by decide +kernel
theorem dX9_pending_44 : decode cX9_pending 44 = .ok (.if_icmp .ne 5, 3) := by decide +kernel
theorem dX9_pending_47 : decode cX9_pending 47 = .ok (.iconst 1, 1) := by decide +kernel
theorem dX9_pending_48 : decode cX9_pending 48 = .ok (.ireturn, 1) := by decide +kernel
theorem dX9_pending_49 : decode cX9_pending 49 = .ok (.iinc 4 (-1), 3) := by decide +kernel
theorem dX9_pending_52 : decode cX9_pending 52 = .ok (.goto (-44), 3) := by decide +kernel
theorem dX9_pending_55 : decode cX9_pending 55 = .ok (.iconst 0, 1) := by decide +kernel
theorem dX9_pending_56 : decode cX9_pending 56 = .ok (.ireturn, 1) := by decide +kernel
theorem dX9_readStep_0 : decode cX9_readStep 0 = .ok (.bipush 48, 2) := by decide +kernel
theorem dX9_readStep_2 : decode cX9_readStep 2 = .ok (.iload_n 1, 1) := by decide +kernel
theorem dX9_readStep_3 : decode cX9_readStep 3 = .ok (.iadd, 1) := by decide +kernel
theorem dX9_readStep_4 : decode cX9_readStep 4 = .ok (.istore_n 2, 1) := by decide +kernel
theorem dX9_readStep_5 : decode cX9_readStep 5 = .ok (.iconst 0, 1) := by decide +kernel
theorem dX9_readStep_6 : decode cX9_readStep 6 = .ok (.istore_n 3, 1) := by decide +kernel
theorem dX9_readStep_7 : decode cX9_readStep 7 = .ok (.iload_n 3, 1) := by decide +kernel
theorem dX9_readStep_8 : decode cX9_readStep 8 = .ok (.iconst 3, 1) := by decide +kernel
theorem dX9_readStep_9 : decode cX9_readStep 9 = .ok (.if_icmp .ge 20, 3) := by decide +kernel
theorem dX9_readStep_12 : decode cX9_readStep 12 = .ok (.aload_n 0, 1) := by decide +kernel
theorem dX9_readStep_13 : decode cX9_readStep 13 = .ok (.getfield 45, 3) := by decide +kernel
theorem dX9_readStep_16 : decode cX9_readStep 16 = .ok (.iconst 3, 1) := by decide +kernel
theorem dX9_readStep_17 : decode cX9_readStep 17 = .ok (.iload_n 2, 1) := by decide +kernel
theorem dX9_readStep_18 : decode cX9_readStep 18 = .ok (.imul, 1) := by decide +kernel
theorem dX9_readStep_19 : decode cX9_readStep 19 = .ok (.iload_n 3, 1) := by decide +kernel
theorem dX9_readStep_20 : decode cX9_readStep 20 = .ok (.iadd, 1) := by decide +kernel
theorem dX9_readStep_21 : decode cX9_readStep 21 = .ok (.iconst (-1), 1) := by decide +kernel
theorem dX9_readStep_22 : decode cX9_readStep 22 = .ok (.iastore, 1) := by decide +kernel
theorem dX9_readStep_23 : decode cX9_readStep 23 = .ok (.iinc 3 1, 3) := by decide +kernel
theorem dX9_readStep_26 : decode cX9_readStep 26 = .ok (.goto (-19), 3) := by decide +kernel
theorem dX9_readStep_29 : decode cX9_readStep 29 = .ok (.aload_n 0, 1) := by decide +kernel
theorem dX9_readStep_30 : decode cX9_readStep 30 = .ok (.getfield 48, 3) := by decide +kernel
theorem dX9_readStep_33 : decode cX9_readStep 33 = .ok (.iload_n 2, 1) := by decide +kernel
theorem dX9_readStep_34 : decode cX9_readStep 34 = .ok (.iconst 0, 1) := by decide +kernel
theorem dX9_readStep_35 : decode cX9_readStep 35 = .ok (.bastore, 1) := by decide +kernel
theorem dX9_readStep_36 : decode cX9_readStep 36 = .ok (.aload_n 0, 1) := by decide +kernel
theorem dX9_readStep_37 : decode cX9_readStep 37 = .ok (.getfield 51, 3) := by decide +kernel
theorem dX9_readStep_40 : decode cX9_readStep 40 = .ok (.iload_n 2, 1) := by decide +kernel
theorem dX9_readStep_41 : decode cX9_readStep 41 = .ok (.iconst (-1), 1) := by decide +kernel
theorem dX9_readStep_42 : decode cX9_readStep 42 = .ok (.iastore, 1) := by decide +kernel
theorem dX9_readStep_43 : decode cX9_readStep 43 = .ok (.aload_n 0, 1) := by decide +kernel
theorem dX9_readStep_44 : decode cX9_readStep 44 = .ok (.getfield 38, 3) := by decide +kernel
theorem dX9_readStep_47 : decode cX9_readStep 47 = .ok (.iload_n 2, 1) := by decide +kernel
theorem dX9_readStep_48 : decode cX9_readStep 48 = .ok (.iconst 0, 1) := by decide +kernel
theorem dX9_readStep_49 : decode cX9_readStep 49 = .ok (.bastore, 1) := by decide +kernel
theorem dX9_readStep_50 : decode cX9_readStep 50 = .ok (.aload_n 0, 1) := by decide +kernel
theorem dX9_readStep_51 : decode cX9_readStep 51 = .ok (.ldc2_w 169, 3) := by decide +kernel
theorem dX9_readStep_54 : decode cX9_readStep 54 = .ok (.invokevirtual 144, 3) := by decide +kernel
theorem dX9_readStep_57 : decode cX9_readStep 57 = .ok (.ifCond .eq 31, 3) := by decide +kernel
theorem dX9_readStep_60 : decode cX9_readStep 60 = .ok (.iload_n 1, 1) := by decide +kernel
theorem dX9_readStep_61 : decode cX9_readStep 61 = .ok (.ifCond .ne 12, 3) := by decide +kernel
theorem dX9_readStep_64 : decode cX9_readStep 64 = .ok (.aload_n 0, 1) := by decide +kernel
theorem dX9_readStep_65 : decode cX9_readStep 65 = .ok (.aload_n 0, 1) := by decide +kernel
theorem dX9_readStep_66 : decode cX9_readStep 66 = .ok (.getfield 131, 3) := by decide +kernel
theorem dX9_readStep_69 : decode cX9_readStep 69 = .ok (.invokevirtual 151, 3) := by decide +kernel
theorem dX9_readStep_72 : decode cX9_readStep 72 = .ok (.ireturn, 1) := by decide +kernel
theorem dX9_readStep_73 : decode cX9_readStep 73 = .ok (.aload_n 0, 1) := by decide +kernel
theorem dX9_readStep_74 : decode cX9_readStep 74 = .ok (.aload_n 0, 1) := by decide +kernel
theorem dX9_readStep_75 : decode cX9_readStep 75 = .ok (.invokevirtual 141, 3) := by decide +kernel
theorem dX9_readStep_78 : decode cX9_readStep 78 = .ok (.putfield 131, 3) := by decide +kernel
theorem dX9_readStep_81 : decode cX9_readStep 81 = .ok (.aload_n 0, 1) := by decide +kernel
theorem dX9_readStep_82 : decode cX9_readStep 82 = .ok (.getfield 38, 3) := by decide +kernel
theorem dX9_readStep_85 : decode cX9_readStep 85 = .ok (.iload_n 2, 1) := by decide +kernel
theorem dX9_readStep_86 : decode cX9_readStep 86 = .ok (.iconst 1, 1) := by decide +kernel
theorem dX9_readStep_87 : decode cX9_readStep 87 = .ok (.bastore, 1) := by decide +kernel
theorem dX9_readStep_88 : decode cX9_readStep 88 = .ok (.aload_n 0, 1) := by decide +kernel
theorem dX9_readStep_89 : decode cX9_readStep 89 = .ok (.ldc2_w 171, 3) := by decide +kernel
theorem dX9_readStep_92 : decode cX9_readStep 92 = .ok (.invokevirtual 144, 3) := by decide +kernel
theorem dX9_readStep_95 : decode cX9_readStep 95 = .ok (.ifCond .eq 21, 3) := by decide +kernel
theorem dX9_readStep_98 : decode cX9_readStep 98 = .ok (.aload_n 0, 1) := by decide +kernel
theorem dX9_readStep_99 : decode cX9_readStep 99 = .ok (.getfield 38, 3) := by decide +kernel
theorem dX9_readStep_102 : decode cX9_readStep 102 = .ok (.iload_n 2, 1) := by decide +kernel
theorem dX9_readStep_103 : decode cX9_readStep 103 = .ok (.baload, 1) := by decide +kernel
theorem dX9_readStep_104 : decode cX9_readStep 104 = .ok (.ifCond .ne 21, 3) := by decide +kernel
theorem dX9_readStep_107 : decode cX9_readStep 107 = .ok (.aload_n 0, 1) := by decide +kernel
theorem dX9_readStep_108 : decode cX9_readStep 108 = .ok (.iload_n 1, 1) := by decide +kernel
theorem dX9_readStep_109 : decode cX9_readStep 109 = .ok (.iconst 1, 1) := by decide +kernel
theorem dX9_readStep_110 : decode cX9_readStep 110 = .ok (.invokevirtual 173, 3) := by decide +kernel
theorem dX9_readStep_113 : decode cX9_readStep 113 = .ok (.ifCond .eq 12, 3) := by decide +kernel
theorem dX9_readStep_116 : decode cX9_readStep 116 = .ok (.aload_n 0, 1) := by decide +kernel
theorem dX9_readStep_117 : decode cX9_readStep 117 = .ok (.aload_n 0, 1) := by decide +kernel
theorem dX9_readStep_118 : decode cX9_readStep 118 = .ok (.getfield 131, 3) := by decide +kernel
theorem dX9_readStep_121 : decode cX9_readStep 121 = .ok (.invokevirtual 151, 3) := by decide +kernel
theorem dX9_readStep_124 : decode cX9_readStep 124 = .ok (.ireturn, 1) := by decide +kernel
theorem dX9_readStep_125 : decode cX9_readStep 125 = .ok (.aload_n 0, 1) := by decide +kernel
theorem dX9_readStep_126 : decode cX9_readStep 126 = .ok (.aload_n 0, 1) := by decide +kernel
theorem dX9_readStep_127 : decode cX9_readStep 127 = .ok (.invokevirtual 141, 3) := by decide +kernel
theorem dX9_readStep_130 : decode cX9_readStep 130 = .ok (.putfield 131, 3) := by decide +kernel
theorem dX9_readStep_133 : decode cX9_readStep 133 = .ok (.aload_n 0, 1) := by decide +kernel
theorem dX9_readStep_134 : decode cX9_readStep 134 = .ok (.iconst 0, 1) := by decide +kernel
theorem dX9_readStep_135 : decode cX9_readStep 135 = .ok (.bipush 7, 2) := by decide +kernel
theorem dX9_readStep_137 : decode cX9_readStep 137 = .ok (.invokevirtual 177, 3) := by decide +kernel
theorem dX9_readStep_140 : decode cX9_readStep 140 = .ok (.ifCond .ne 5, 3) := by decide +kernel
theorem dX9_readStep_143 : decode cX9_readStep 143 = .ok (.iconst 0, 1) := by decide +kernel
theorem dX9_readStep_144 : decode cX9_readStep 144 = .ok (.ireturn, 1) := by decide +kernel
theorem dX9_readStep_145 : decode cX9_readStep 145 = .ok (.aload_n 0, 1) := by decide +kernel
theorem dX9_readStep_146 : decode cX9_readStep 146 = .ok (.getfield 42, 3) := by decide +kernel
theorem dX9_readStep_149 : decode cX9_readStep 149 = .ok (.iload_n 2, 1) := by decide +kernel
theorem dX9_readStep_150 : decode cX9_readStep 150 = .ok (.aload_n 0, 1) := by decide +kernel
theorem dX9_readStep_151 : decode cX9_readStep 151 = .ok (.getfield 154, 3) := by decide +kernel
theorem dX9_readStep_154 : decode cX9_readStep 154 = .ok (.iastore, 1) := by decide +kernel
theorem dX9_readStep_155 : decode cX9_readStep 155 = .ok (.aload_n 0, 1) := by decide +kernel
theorem dX9_readStep_156 : decode cX9_readStep 156 = .ok (.invokevirtual 163, 3) := by decide +kernel
theorem dX9_readStep_159 : decode cX9_readStep 159 = .ok (.istore_n 3, 1) := by decide +kernel
theorem dX9_readStep_160 : decode cX9_readStep 160 = .ok (.iload_n 3, 1) := by decide +kernel
theorem dX9_readStep_161 : decode cX9_readStep 161 = .ok (.iconst (-1), 1) := by decide +kernel
theorem dX9_readStep_162 : decode cX9_readStep 162 = .ok (.if_icmp .eq 90, 3) := by decide +kernel
theorem dX9_readStep_165 : decode cX9_readStep 165 = .ok (.aload_n 0, 1) := by decide +kernel
theorem dX9_readStep_166 : decode cX9_readStep 166 = .ok (.getfield 45, 3) := by decide +kernel
theorem dX9_readStep_169 : decode cX9_readStep 169 = .ok (.iconst 3, 1) := by decide +kernel
theorem dX9_readStep_170 : decode cX9_readStep 170 = .ok (.iload_n 2, 1) := by decide +kernel
theorem dX9_readStep_171 : decode cX9_readStep 171 = .ok (.imul, 1) := by decide +kernel
theorem dX9_readStep_172 : decode cX9_readStep 172 = .ok (.iload_n 3, 1) := by decide +kernel
theorem dX9_readStep_173 : decode cX9_readStep 173 = .ok (.iadd, 1) := by decide +kernel
theorem dX9_readStep_174 : decode cX9_readStep 174 = .ok (.iaload, 1) := by decide +kernel
theorem dX9_readStep_175 : decode cX9_readStep 175 = .ok (.iconst (-1), 1) := by decide +kernel
theorem dX9_readStep_176 : decode cX9_readStep 176 = .ok (.if_icmp .eq 12, 3) := by decide +kernel
theorem dX9_readStep_179 : decode cX9_readStep 179 = .ok (.aload_n 0, 1) := by decide +kernel
theorem dX9_readStep_180 : decode cX9_readStep 180 = .ok (.aload_n 0, 1) := by decide +kernel
theorem dX9_readStep_181 : decode cX9_readStep 181 = .ok (.getfield 131, 3) := by decide +kernel
theorem dX9_readStep_184 : decode cX9_readStep 184 = .ok (.invokevirtual 151, 3) := by decide +kernel
theorem dX9_readStep_187 : decode cX9_readStep 187 = .ok (.ireturn, 1) := by decide +kernel
theorem dX9_readStep_188 : decode cX9_readStep 188 = .ok (.aload_n 0, 1) := by decide +kernel
theorem dX9_readStep_189 : decode cX9_readStep 189 = .ok (.aload_n 0, 1) := by decide +kernel
theorem dX9_readStep_190 : decode cX9_readStep 190 = .ok (.invokevirtual 141, 3) := by decide +kernel
theorem dX9_readStep_193 : decode cX9_readStep 193 = .ok (.putfield 131, 3) := by decide +kernel
theorem dX9_readStep_196 : decode cX9_readStep 196 = .ok (.aload_n 0, 1) := by decide +kernel
theorem dX9_readStep_197 : decode cX9_readStep 197 = .ok (.iconst 0, 1) := by decide +kernel
theorem dX9_readStep_198 : decode cX9_readStep 198 = .ok (.iload_n 3, 1) := by decide +kernel
theorem dX9_readStep_199 : decode cX9_readStep 199 = .ok (.iconst 2, 1) := by decide +kernel
theorem dX9_readStep_200 : decode cX9_readStep 200 = .ok (.if_icmp .ne 8, 3) := by decide +kernel
theorem dX9_readStep_203 : decode cX9_readStep 203 = .ok (.bipush 15, 2) := by decide +kernel
theorem dX9_readStep_205 : decode cX9_readStep 205 = .ok (.goto 5, 3) := by decide +kernel
theorem dX9_readStep_208 : decode cX9_readStep 208 = .ok (.bipush 30, 2) := by decide +kernel
theorem dX9_readStep_210 : decode cX9_readStep 210 = .ok (.invokevirtual 177, 3) := by decide +kernel
theorem dX9_readStep_213 : decode cX9_readStep 213 = .ok (.ifCond .ne 5, 3) := by decide +kernel
theorem dX9_readStep_216 : decode cX9_readStep 216 = .ok (.iconst 0, 1) := by decide +kernel
theorem dX9_readStep_217 : decode cX9_readStep 217 = .ok (.ireturn, 1) := by decide +kernel
theorem dX9_readStep_218 : decode cX9_readStep 218 = .ok (.aload_n 0, 1) := by decide +kernel
theorem dX9_readStep_219 : decode cX9_readStep 219 = .ok (.getfield 45, 3) := by decide +kernel
theorem dX9_readStep_222 : decode cX9_readStep 222 = .ok (.iconst 3, 1) := by decide +kernel
theorem dX9_readStep_223 : decode cX9_readStep 223 = .ok (.iload_n 2, 1) := by decide +kernel
theorem dX9_readStep_224 : decode cX9_readStep 224 = .ok (.imul, 1) := by decide +kernel
theorem dX9_readStep_225 : decode cX9_readStep 225 = .ok (.iload_n 3, 1) := by decide +kernel
theorem dX9_readStep_226 : decode cX9_readStep 226 = .ok (.iadd, 1) := by decide +kernel
theorem dX9_readStep_227 : decode cX9_readStep 227 = .ok (.aload_n 0, 1) := by decide +kernel
theorem dX9_readStep_228 : decode cX9_readStep 228 = .ok (.getfield 154, 3) := by decide +kernel
theorem dX9_readStep_231 : decode cX9_readStep 231 = .ok (.iastore, 1) := by decide +kernel
theorem dX9_readStep_232 : decode cX9_readStep 232 = .ok (.aload_n 0, 1) := by decide +kernel
theorem dX9_readStep_233 : decode cX9_readStep 233 = .ok (.dup, 1) := by decide +kernel
theorem dX9_readStep_234 : decode cX9_readStep 234 = .ok (.getfield 166, 3) := by decide +kernel
theorem dX9_readStep_237 : decode cX9_readStep 237 = .ok (.iconst 1, 1) := by decide +kernel
theorem dX9_readStep_238 : decode cX9_readStep 238 = .ok (.iload_n 3, 1) := by decide +kernel
theorem dX9_readStep_239 : decode cX9_readStep 239 = .ok (.ishl, 1) := by decide +kernel
theorem dX9_readStep_240 : decode cX9_readStep 240 = .ok (.ior, 1) := by decide +kernel
theorem dX9_readStep_241 : decode cX9_readStep 241 = .ok (.putfield 166, 3) := by decide +kernel
theorem dX9_readStep_244 : decode cX9_readStep 244 = .ok (.aload_n 0, 1) := by decide +kernel
theorem dX9_readStep_245 : decode cX9_readStep 245 = .ok (.invokevirtual 163, 3) := by decide +kernel
theorem dX9_readStep_248 : decode cX9_readStep 248 = .ok (.istore_n 3, 1) := by decide +kernel
theorem dX9_readStep_249 : decode cX9_readStep 249 = .ok (.goto (-89), 3) := by decide +kernel
theorem dX9_readStep_252 : decode cX9_readStep 252 = .ok (.aload_n 0, 1) := by decide +kernel
theorem dX9_readStep_253 : decode cX9_readStep 253 = .ok (.ldc2_w 181, 3) := by decide +kernel
theorem dX9_readStep_256 : decode cX9_readStep 256 = .ok (.invokevirtual 144, 3) := by decide +kernel
theorem dX9_readStep_259 : decode cX9_readStep 259 = .ok (.ifCond .eq 36, 3) := by decide +kernel
theorem dX9_readStep_262 : decode cX9_readStep 262 = .ok (.aload_n 0, 1) := by decide +kernel
theorem dX9_readStep_263 : decode cX9_readStep 263 = .ok (.getfield 38, 3) := by decide +kernel
theorem dX9_readStep_266 : decode cX9_readStep 266 = .ok (.iload_n 2, 1) := by decide +kernel
theorem dX9_readStep_267 : decode cX9_readStep 267 = .ok (.baload, 1) := by decide +kernel
theorem dX9_readStep_268 : decode cX9_readStep 268 = .ok (.ifCond .eq 12, 3) := by decide +kernel
theorem dX9_readStep_271 : decode cX9_readStep 271 = .ok (.aload_n 0, 1) := by decide +kernel
theorem dX9_readStep_272 : decode cX9_readStep 272 = .ok (.aload_n 0, 1) := by decide +kernel
theorem dX9_readStep_273 : decode cX9_readStep 273 = .ok (.getfield 131, 3) := by decide +kernel
theorem dX9_readStep_276 : decode cX9_readStep 276 = .ok (.invokevirtual 151, 3) := by decide +kernel
theorem dX9_readStep_279 : decode cX9_readStep 279 = .ok (.ireturn, 1) := by decide +kernel
theorem dX9_readStep_280 : decode cX9_readStep 280 = .ok (.aload_n 0, 1) := by decide +kernel
theorem dX9_readStep_281 : decode cX9_readStep 281 = .ok (.aload_n 0, 1) := by decide +kernel
theorem dX9_readStep_282 : decode cX9_readStep 282 = .ok (.invokevirtual 141, 3) := by decide +kernel
theorem dX9_readStep_285 : decode cX9_readStep 285 = .ok (.putfield 131, 3) := by decide +kernel
theorem dX9_readStep_288 : decode cX9_readStep 288 = .ok (.aload_n 0, 1) := by decide +kernel
theorem dX9_readStep_289 : decode cX9_readStep 289 = .ok (.getfield 48, 3) := by decide +kernel
theorem dX9_readStep_292 : decode cX9_readStep 292 = .ok (.iload_n 2, 1) := by decide +kernel
theorem dX9_readStep_293 : decode cX9_readStep 293 = .ok (.iconst 1, 1) := by decide +kernel
theorem dX9_readStep_294 : decode cX9_readStep 294 = .ok (.bastore, 1) := by decide +kernel
theorem dX9_readStep_295 : decode cX9_readStep 295 = .ok (.aload_n 0, 1) := by decide +kernel
theorem dX9_readStep_296 : decode cX9_readStep 296 = .ok (.ldc2_w 183, 3) := by decide +kernel
theorem dX9_readStep_299 : decode cX9_readStep 299 = .ok (.invokevirtual 144, 3) := by decide +kernel
theorem dX9_readStep_302 : decode cX9_readStep 302 = .ok (.ifCond .eq 46, 3) := by decide +kernel
theorem dX9_readStep_305 : decode cX9_readStep 305 = .ok (.iload_n 1, 1) := by decide +kernel
theorem dX9_readStep_306 : decode cX9_readStep 306 = .ok (.ifCond .ne 12, 3) := by decide +kernel
theorem dX9_readStep_309 : decode cX9_readStep 309 = .ok (.aload_n 0, 1) := by decide +kernel
theorem dX9_readStep_310 : decode cX9_readStep 310 = .ok (.aload_n 0, 1) := by decide +kernel
theorem dX9_readStep_311 : decode cX9_readStep 311 = .ok (.getfield 131, 3) := by decide +kernel
theorem dX9_readStep_314 : decode cX9_readStep 314 = .ok (.invokevirtual 151, 3) := by decide +kernel
theorem dX9_readStep_317 : decode cX9_readStep 317 = .ok (.ireturn, 1) := by decide +kernel
theorem dX9_readStep_318 : decode cX9_readStep 318 = .ok (.aload_n 0, 1) := by decide +kernel
theorem dX9_readStep_319 : decode cX9_readStep 319 = .ok (.aload_n 0, 1) := by decide +kernel
theorem dX9_readStep_320 : decode cX9_readStep 320 = .ok (.invokevirtual 141, 3) := by decide +kernel
theorem dX9_readStep_323 : decode cX9_readStep 323 = .ok (.putfield 131, 3) := by decide +kernel
theorem dX9_readStep_326 : decode cX9_readStep 326 = .ok (.aload_n 0, 1) := by decide +kernel
theorem dX9_readStep_327 : decode cX9_readStep 327 = .ok (.iconst 1, 1) := by decide +kernel
theorem dX9_readStep_328 : decode cX9_readStep 328 = .ok (.ldc 115, 2) := by decide +kernel
theorem dX9_readStep_330 : decode cX9_readStep 330 = .ok (.invokevirtual 177, 3) := by decide +kernel
theorem dX9_readStep_333 : decode cX9_readStep 333 = .ok (.ifCond .ne 5, 3) := by decide +kernel
theorem dX9_readStep_336 : decode cX9_readStep 336 = .ok (.iconst 0, 1) := by decide +kernel
theorem dX9_readStep_337 : decode cX9_readStep 337 = .ok (.ireturn, 1) := by decide +kernel
theorem dX9_readStep_338 : decode cX9_readStep 338 = .ok (.aload_n 0, 1) := by decide +kernel
theorem dX9_readStep_339 : decode cX9_readStep 339 = .ok (.getfield 51, 3) := by decide +kernel
theorem dX9_readStep_342 : decode cX9_readStep 342 = .ok (.iload_n 2, 1) := by decide +kernel
theorem dX9_readStep_343 : decode cX9_readStep 343 = .ok (.aload_n 0, 1) := by decide +kernel
theorem dX9_readStep_344 : decode cX9_readStep 344 = .ok (.getfield 154, 3) := by decide +kernel
theorem dX9_readStep_347 : decode cX9_readStep 347 = .ok (.iastore, 1) := by decide +kernel
theorem dX9_readStep_348 : decode cX9_readStep 348 = .ok (.iconst 1, 1) := by decide +kernel
theorem dX9_readStep_349 : decode cX9_readStep 349 = .ok (.ireturn, 1) := by decide +kernel
theorem dX9_readSpread_0 : decode cX9_readSpread 0 = .ok (.aload_n 0, 1) := by decide +kernel
theorem dX9_readSpread_1 : decode cX9_readSpread 1 = .ok (.aload_n 0, 1) := by decide +kernel
theorem dX9_readSpread_2 : decode cX9_readSpread 2 = .ok (.invokevirtual 141, 3) := by decide +kernel
theorem dX9_readSpread_5 : decode cX9_readSpread 5 = .ok (.putfield 131, 3) := by decide +kernel
theorem dX9_readSpread_8 : decode cX9_readSpread 8 = .ok (.aload_n 0, 1) := by decide +kernel
theorem dX9_readSpread_9 : decode cX9_readSpread 9 = .ok (.invokevirtual 185, 3) := by decide +kernel
theorem dX9_readSpread_12 : decode cX9_readSpread 12 = .ok (.ifCond .ne 5, 3) := by decide +kernel
theorem dX9_readSpread_15 : decode cX9_readSpread 15 = .ok (.iconst 0, 1) := by decide +kernel
theorem dX9_readSpread_16 : decode cX9_readSpread 16 = .ok (.ireturn, 1) := by decide +kernel
theorem dX9_readSpread_17 : decode cX9_readSpread 17 = .ok (.aload_n 0, 1) := by decide +kernel
theorem dX9_readSpread_18 : decode cX9_readSpread 18 = .ok (.getfield 54, 3) := by decide +kernel
theorem dX9_readSpread_21 : decode cX9_readSpread 21 = .ok (.bipush 8, 2) := by decide +kernel
theorem dX9_readSpread_23 : decode cX9_readSpread 23 = .ok (.aload_n 0, 1) := by decide +kernel
theorem dX9_readSpread_24 : decode cX9_readSpread 24 = .ok (.getfield 154, 3) := by decide +kernel
theorem dX9_readSpread_27 : decode cX9_readSpread 27 = .ok (.iastore, 1) := by decide +kernel
theorem dX9_readSpread_28 : decode cX9_readSpread 28 = .ok (.aload_n 0, 1) := by decide +kernel
theorem dX9_readSpread_29 : decode cX9_readSpread 29 = .ok (.iconst 2, 1) := by decide +kernel
theorem dX9_readSpread_30 : decode cX9_readSpread 30 = .ok (.bipush 30, 2) := by decide +kernel
theorem dX9_readSpread_32 : decode cX9_readSpread 32 = .ok (.invokevirtual 177, 3) := by decide +kernel
theorem dX9_readSpread_35 : decode cX9_readSpread 35 = .ok (.ifCond .ne 5, 3) := by decide +kernel
theorem dX9_readSpread_38 : decode cX9_readSpread 38 = .ok (.iconst 0, 1) := by decide +kernel
theorem dX9_readSpread_39 : decode cX9_readSpread 39 = .ok (.ireturn, 1) := by decide +kernel
theorem dX9_readSpread_40 : decode cX9_readSpread 40 = .ok (.aload_n 0, 1) := by decide +kernel
theorem dX9_readSpread_41 : decode cX9_readSpread 41 = .ok (.getfield 57, 3) := by decide +kernel
theorem dX9_readSpread_44 : decode cX9_readSpread 44 = .ok (.bipush 8, 2) := by decide +kernel
theorem dX9_readSpread_46 : decode cX9_readSpread 46 = .ok (.aload_n 0, 1) := by decide +kernel
theorem dX9_readSpread_47 : decode cX9_readSpread 47 = .ok (.getfield 154, 3) := by decide +kernel
theorem dX9_readSpread_50 : decode cX9_readSpread 50 = .ok (.iastore, 1) := by decide +kernel
theorem dX9_readSpread_51 : decode cX9_readSpread 51 = .ok (.aload_n 0, 1) := by decide +kernel
theorem dX9_readSpread_52 : decode cX9_readSpread 52 = .ok (.ldc2_w 183, 3) := by decide +kernel
theorem dX9_readSpread_55 : decode cX9_readSpread 55 = .ok (.invokevirtual 189, 3) := by decide +kernel
theorem dX9_readSpread_58 : decode cX9_readSpread 58 = .ok (.ifCond .eq 13, 3) := by decide +kernel
theorem dX9_readSpread_61 : decode cX9_readSpread 61 = .ok (.aload_n 0, 1) := by decide +kernel
theorem dX9_readSpread_62 : decode cX9_readSpread 62 = .ok (.iconst 1, 1) := by decide +kernel
theorem dX9_readSpread_63 : decode cX9_readSpread 63 = .ok (.ldc 115, 2) := by decide +kernel
theorem dX9_readSpread_65 : decode cX9_readSpread 65 = .ok (.invokevirtual 177, 3) := by decide +kernel
theorem dX9_readSpread_68 : decode cX9_readSpread 68 = .ok (.ifCond .ne 5, 3) := by decide +kernel
theorem dX9_readSpread_71 : decode cX9_readSpread 71 = .ok (.iconst 0, 1) := by decide +kernel
theorem dX9_readSpread_72 : decode cX9_readSpread 72 = .ok (.ireturn, 1) := by decide +kernel
theorem dX9_readSpread_73 : decode cX9_readSpread 73 = .ok (.aload_n 0, 1) := by decide +kernel
theorem dX9_readSpread_74 : decode cX9_readSpread 74 = .ok (.getfield 60, 3) := by decide +kernel
theorem dX9_readSpread_77 : decode cX9_readSpread 77 = .ok (.bipush 8, 2) := by decide +kernel
theorem dX9_readSpread_79 : decode cX9_readSpread 79 = .ok (.aload_n 0, 1) := by decide +kernel
theorem dX9_readSpread_80 : decode cX9_readSpread 80 = .ok (.getfield 154, 3) := by decide +kernel
theorem dX9_readSpread_83 : decode cX9_readSpread 83 = .ok (.iastore, 1) := by decide +kernel
theorem dX9_readSpread_84 : decode cX9_readSpread 84 = .ok (.aload_n 0, 1) := by decide +kernel
theorem dX9_readSpread_85 : decode cX9_readSpread 85 = .ok (.invokevirtual 137, 3) := by decide +kernel
theorem dX9_readSpread_88 : decode cX9_readSpread 88 = .ok (.iconst (-1), 1) := by decide +kernel
theorem dX9_readSpread_89 : decode cX9_readSpread 89 = .ok (.if_icmp .eq 14, 3) := by decide +kernel
theorem dX9_readSpread_92 : decode cX9_readSpread 92 = .ok (.aload_n 0, 1) := by decide +kernel
theorem dX9_readSpread_93 : decode cX9_readSpread 93 = .ok (.aload_n 0, 1) := by decide +kernel
theorem dX9_readSpread_94 : decode cX9_readSpread 94 = .ok (.getfield 131, 3) := by decide +kernel
theorem dX9_readSpread_97 : decode cX9_readSpread 97 = .ok (.invokevirtual 151, 3) := by decide +kernel
theorem dX9_readSpread_100 : decode cX9_readSpread 100 = .ok (.ifCond .eq 7, 3) := by decide +kernel
theorem dX9_readSpread_103 : decode cX9_readSpread 103 = .ok (.iconst 1, 1) := by decide +kernel
theorem dX9_readSpread_104 : decode cX9_readSpread 104 = .ok (.goto 4, 3) := by decide +kernel
theorem dX9_readSpread_107 : decode cX9_readSpread 107 = .ok (.iconst 0, 1) := by decide +kernel
theorem dX9_readSpread_108 : decode cX9_readSpread 108 = .ok (.ireturn, 1) := by decide +kernel
theorem dX9_readText_0 : decode cX9_readText 0 = .ok (.aload_n 0, 1) := by decide +kernel
theorem dX9_readText_1 : decode cX9_readText 1 = .ok (.iconst 0, 1) := by decide +kernel
theorem dX9_readText_2 : decode cX9_readText 2 = .ok (.putfield 166, 3) := by decide +kernel
theorem dX9_readText_5 : decode cX9_readText 5 = .ok (.aload_n 0, 1) := by decide +kernel
theorem dX9_readText_6 : decode cX9_readText 6 = .ok (.getfield 35, 3) := by decide +kernel
theorem dX9_readText_9 : decode cX9_readText 9 = .ok (.bipush 8, 2) := by decide +kernel
theorem dX9_readText_11 : decode cX9_readText 11 = .ok (.iconst 0, 1) := by decide +kernel
theorem dX9_readText_12 : decode cX9_readText 12 = .ok (.iastore, 1) := by decide +kernel
theorem dX9_readText_13 : decode cX9_readText 13 = .ok (.aload_n 0, 1) := by decide +kernel
theorem dX9_readText_14 : decode cX9_readText 14 = .ok (.getfield 54, 3) := by decide +kernel
theorem dX9_readText_17 : decode cX9_readText 17 = .ok (.bipush 8, 2) := by decide +kernel
theorem dX9_readText_19 : decode cX9_readText 19 = .ok (.iconst (-1), 1) := by decide +kernel
theorem dX9_readText_20 : decode cX9_readText 20 = .ok (.iastore, 1) := by decide +kernel
theorem dX9_readText_21 : decode cX9_readText 21 = .ok (.aload_n 0, 1) := by decide +kernel
theorem dX9_readText_22 : decode cX9_readText 22 = .ok (.ldc2_w 192, 3) := by decide +kernel
theorem dX9_readText_25 : decode cX9_readText 25 = .ok (.invokevirtual 189, 3) := by decide +kernel
theorem dX9_readText_28 : decode cX9_readText 28 = .ok (.ifCond .eq 10, 3) := by decide +kernel
theorem dX9_readText_31 : decode cX9_readText 31 = .ok (.aload_n 0, 1) := by decide +kernel
theorem dX9_readText_32 : decode cX9_readText 32 = .ok (.invokevirtual 185, 3) := by decide +kernel
theorem dX9_readText_35 : decode cX9_readText 35 = .ok (.ifCond .ne 5, 3) := by decide +kernel
theorem dX9_readText_38 : decode cX9_readText 38 = .ok (.iconst 0, 1) := by decide +kernel
theorem dX9_readText_39 : decode cX9_readText 39 = .ok (.ireturn, 1) := by decide +kernel
theorem dX9_readText_40 : decode cX9_readText 40 = .ok (.aload_n 0, 1) := by decide +kernel
theorem dX9_readText_41 : decode cX9_readText 41 = .ok (.getfield 32, 3) := by decide +kernel
theorem dX9_readText_44 : decode cX9_readText 44 = .ok (.bipush 8, 2) := by decide +kernel
theorem dX9_readText_46 : decode cX9_readText 46 = .ok (.aload_n 0, 1) := by decide +kernel
theorem dX9_readText_47 : decode cX9_readText 47 = .ok (.getfield 154, 3) := by decide +kernel
theorem dX9_readText_50 : decode cX9_readText 50 = .ok (.iastore, 1) := by decide +kernel
theorem dX9_readText_51 : decode cX9_readText 51 = .ok (.aload_n 0, 1) := by decide +kernel
theorem dX9_readText_52 : decode cX9_readText 52 = .ok (.invokevirtual 137, 3) := by decide +kernel
theorem dX9_readText_55 : decode cX9_readText 55 = .ok (.bipush 59, 2) := by decide +kernel
theorem dX9_readText_57 : decode cX9_readText 57 = .ok (.if_icmp .eq 12, 3) := by decide +kernel
theorem dX9_readText_60 : decode cX9_readText 60 = .ok (.aload_n 0, 1) := by decide +kernel
theorem dX9_readText_61 : decode cX9_readText 61 = .ok (.aload_n 0, 1) := by decide +kernel
theorem dX9_readText_62 : decode cX9_readText 62 = .ok (.getfield 131, 3) := by decide +kernel
theorem dX9_readText_65 : decode cX9_readText 65 = .ok (.invokevirtual 151, 3) := by decide +kernel
theorem dX9_readText_68 : decode cX9_readText 68 = .ok (.ireturn, 1) := by decide +kernel
theorem dX9_readText_69 : decode cX9_readText 69 = .ok (.iconst 1, 1) := by decide +kernel
theorem dX9_readText_70 : decode cX9_readText 70 = .ok (.istore_n 1, 1) := by decide +kernel
theorem dX9_readText_71 : decode cX9_readText 71 = .ok (.iload_n 1, 1) := by decide +kernel
theorem dX9_readText_72 : decode cX9_readText 72 = .ok (.ifCond .eq 159, 3) := by decide +kernel
theorem dX9_readText_75 : decode cX9_readText 75 = .ok (.aload_n 0, 1) := by decide +kernel
theorem dX9_readText_76 : decode cX9_readText 76 = .ok (.getfield 131, 3) := by decide +kernel
theorem dX9_readText_79 : decode cX9_readText 79 = .ok (.istore_n 2, 1) := by decide +kernel
theorem dX9_readText_80 : decode cX9_readText 80 = .ok (.aload_n 0, 1) := by decide +kernel
theorem dX9_readText_81 : decode cX9_readText 81 = .ok (.dup, 1) := by decide +kernel
theorem dX9_readText_82 : decode cX9_readText 82 = .ok (.getfield 131, 3) := by decide +kernel
theorem dX9_readText_85 : decode cX9_readText 85 = .ok (.iconst 1, 1) := by decide +kernel
theorem dX9_readText_86 : decode cX9_readText 86 = .ok (.iadd, 1) := by decide +kernel
theorem dX9_readText_87 : decode cX9_readText 87 = .ok (.putfield 131, 3) := by decide +kernel
theorem dX9_readText_90 : decode cX9_readText 90 = .ok (.aload_n 0, 1) := by decide +kernel
theorem dX9_readText_91 : decode cX9_readText 91 = .ok (.getfield 35, 3) := by decide +kernel
theorem dX9_readText_94 : decode cX9_readText 94 = .ok (.bipush 8, 2) := by decide +kernel
theorem dX9_readText_96 : decode cX9_readText 96 = .ok (.iaload, 1) := by decide +kernel
theorem dX9_readText_97 : decode cX9_readText 97 = .ok (.ifCond .le 44, 3) := by decide +kernel
theorem dX9_readText_100 : decode cX9_readText 100 = .ok (.aload_n 0, 1) := by decide +kernel
theorem dX9_readText_101 : decode cX9_readText 101 = .ok (.ldc2_w 194, 3) := by decide +kernel
theorem dX9_readText_104 : decode cX9_readText 104 = .ok (.invokevirtual 144, 3) := by decide +kernel
theorem dX9_readText_107 : decode cX9_readText 107 = .ok (.ifCond .eq 34, 3) := by decide +kernel
theorem dX9_readText_110 : decode cX9_readText 110 = .ok (.aload_n 0, 1) := by decide +kernel
theorem dX9_readText_111 : decode cX9_readText 111 = .ok (.aload_n 0, 1) := by decide +kernel
theorem dX9_readText_112 : decode cX9_readText 112 = .ok (.getfield 35, 3) := by decide +kernel
theorem dX9_readText_115 : decode cX9_readText 115 = .ok (.bipush 8, 2) := by decide +kernel
theorem dX9_readText_117 : decode cX9_readText 117 = .ok (.iaload, 1) := by decide +kernel
theorem dX9_readText_118 : decode cX9_readText 118 = .ok (.iconst 0, 1) := by decide +kernel
theorem dX9_readText_119 : decode cX9_readText 119 = .ok (.invokevirtual 173, 3) := by decide +kernel
theorem dX9_readText_122 : decode cX9_readText 122 = .ok (.ifCond .eq 14, 3) := by decide +kernel
theorem dX9_readText_125 : decode cX9_readText 125 = .ok (.aload_n 0, 1) := by decide +kernel
theorem dX9_readText_126 : decode cX9_readText 126 = .ok (.aload_n 0, 1) := by decide +kernel
theorem dX9_readText_127 : decode cX9_readText 127 = .ok (.getfield 131, 3) := by decide +kernel
theorem dX9_readText_130 : decode cX9_readText 130 = .ok (.invokevirtual 151, 3) := by decide +kernel
theorem dX9_readText_133 : decode cX9_readText 133 = .ok (.goto 7, 3) := by decide +kernel
theorem dX9_readText_136 : decode cX9_readText 136 = .ok (.aload_n 0, 1) := by decide +kernel
theorem dX9_readText_137 : decode cX9_readText 137 = .ok (.invokevirtual 196, 3) := by decide +kernel
theorem dX9_readText_140 : decode cX9_readText 140 = .ok (.ireturn, 1) := by decide +kernel
theorem dX9_readText_141 : decode cX9_readText 141 = .ok (.aload_n 0, 1) := by decide +kernel
theorem dX9_readText_142 : decode cX9_readText 142 = .ok (.getfield 35, 3) := by decide +kernel
theorem dX9_readText_145 : decode cX9_readText 145 = .ok (.bipush 8, 2) := by decide +kernel
theorem dX9_readText_147 : decode cX9_readText 147 = .ok (.iaload, 1) := by decide +kernel
theorem dX9_readText_148 : decode cX9_readText 148 = .ok (.bipush 6, 2) := by decide +kernel
theorem dX9_readText_150 : decode cX9_readText 150 = .ok (.if_icmp .ne 36, 3) := by decide +kernel
theorem dX9_readText_153 : decode cX9_readText 153 = .ok (.aload_n 0, 1) := by decide +kernel
theorem dX9_readText_154 : decode cX9_readText 154 = .ok (.aload_n 0, 1) := by decide +kernel
theorem dX9_readText_155 : decode cX9_readText 155 = .ok (.ldc2_w 169, 3) := by decide +kernel
theorem dX9_readText_158 : decode cX9_readText 158 = .ok (.invokevirtual 144, 3) := by decide +kernel
theorem dX9_readText_161 : decode cX9_readText 161 = .ok (.ifCond .ne 13, 3) := by decide +kernel
theorem dX9_readText_164 : decode cX9_readText 164 = .ok (.aload_n 0, 1) := by decide +kernel
theorem dX9_readText_165 : decode cX9_readText 165 = .ok (.ldc2_w 171, 3) := by decide +kernel
theorem dX9_readText_168 : decode cX9_readText 168 = .ok (.invokevirtual 144, 3) := by decide +kernel
theorem dX9_readText_171 : decode cX9_readText 171 = .ok (.ifCond .eq 7, 3) := by decide +kernel
theorem dX9_readText_174 : decode cX9_readText 174 = .ok (.iload_n 2, 1) := by decide +kernel
theorem dX9_readText_175 : decode cX9_readText 175 = .ok (.goto 7, 3) := by decide +kernel
theorem dX9_readText_178 : decode cX9_readText 178 = .ok (.aload_n 0, 1) := by decide +kernel
theorem dX9_readText_179 : decode cX9_readText 179 = .ok (.getfield 131, 3) := by decide +kernel
theorem dX9_readText_182 : decode cX9_readText 182 = .ok (.invokevirtual 151, 3) := by decide +kernel
theorem dX9_readText_185 : decode cX9_readText 185 = .ok (.ireturn, 1) := by decide +kernel
theorem dX9_readText_186 : decode cX9_readText 186 = .ok (.aload_n 0, 1) := by decide +kernel
theorem dX9_readText_187 : decode cX9_readText 187 = .ok (.aload_n 0, 1) := by decide +kernel
theorem dX9_readText_188 : decode cX9_readText 188 = .ok (.getfield 35, 3) := by decide +kernel
theorem dX9_readText_191 : decode cX9_readText 191 = .ok (.bipush 8, 2) := by decide +kernel
theorem dX9_readText_193 : decode cX9_readText 193 = .ok (.iaload, 1) := by decide +kernel
theorem dX9_readText_194 : decode cX9_readText 194 = .ok (.invokevirtual 199, 3) := by decide +kernel
theorem dX9_readText_197 : decode cX9_readText 197 = .ok (.ifCond .ne 5, 3) := by decide +kernel
theorem dX9_readText_200 : decode cX9_readText 200 = .ok (.iconst 0, 1) := by decide +kernel
theorem dX9_readText_201 : decode cX9_readText 201 = .ok (.ireturn, 1) := by decide +kernel
theorem dX9_readText_202 : decode cX9_readText 202 = .ok (.aload_n 0, 1) := by decide +kernel
theorem dX9_readText_203 : decode cX9_readText 203 = .ok (.getfield 35, 3) := by decide +kernel
theorem dX9_readText_206 : decode cX9_readText 206 = .ok (.bipush 8, 2) := by decide +kernel
theorem dX9_readText_208 : decode cX9_readText 208 = .ok (.dup2, 1) := by decide +kernel
theorem dX9_readText_209 : decode cX9_readText 209 = .ok (.iaload, 1) := by decide +kernel
theorem dX9_readText_210 : decode cX9_readText 210 = .ok (.iconst 1, 1) := by decide +kernel
theorem dX9_readText_211 : decode cX9_readText 211 = .ok (.iadd, 1) := by decide +kernel
theorem dX9_readText_212 : decode cX9_readText 212 = .ok (.iastore, 1) := by decide +kernel
theorem dX9_readText_213 : decode cX9_readText 213 = .ok (.aload_n 0, 1) := by decide +kernel
theorem dX9_readText_214 : decode cX9_readText 214 = .ok (.invokevirtual 137, 3) := by decide +kernel
theorem dX9_readText_217 : decode cX9_readText 217 = .ok (.bipush 59, 2) := by decide +kernel
theorem dX9_readText_219 : decode cX9_readText 219 = .ok (.if_icmp .ne 7, 3) := by decide +kernel
theorem dX9_readText_222 : decode cX9_readText 222 = .ok (.iconst 1, 1) := by decide +kernel
theorem dX9_readText_223 : decode cX9_readText 223 = .ok (.goto 4, 3) := by decide +kernel
theorem dX9_readText_226 : decode cX9_readText 226 = .ok (.iconst 0, 1) := by decide +kernel
theorem dX9_readText_227 : decode cX9_readText 227 = .ok (.istore_n 1, 1) := by decide +kernel
theorem dX9_readText_228 : decode cX9_readText 228 = .ok (.goto (-157), 3) := by decide +kernel
theorem dX9_readText_231 : decode cX9_readText 231 = .ok (.aload_n 0, 1) := by decide +kernel
theorem dX9_readText_232 : decode cX9_readText 232 = .ok (.invokevirtual 137, 3) := by decide +kernel
theorem dX9_readText_235 : decode cX9_readText 235 = .ok (.iconst (-1), 1) := by decide +kernel
theorem dX9_readText_236 : decode cX9_readText 236 = .ok (.if_icmp .eq 12, 3) := by decide +kernel
theorem dX9_readText_239 : decode cX9_readText 239 = .ok (.aload_n 0, 1) := by decide +kernel
theorem dX9_readText_240 : decode cX9_readText 240 = .ok (.aload_n 0, 1) := by decide +kernel
theorem dX9_readText_241 : decode cX9_readText 241 = .ok (.getfield 131, 3) := by decide +kernel
theorem dX9_readText_244 : decode cX9_readText 244 = .ok (.invokevirtual 151, 3) := by decide +kernel
theorem dX9_readText_247 : decode cX9_readText 247 = .ok (.ireturn, 1) := by decide +kernel
theorem dX9_readText_248 : decode cX9_readText 248 = .ok (.aload_n 0, 1) := by decide +kernel
theorem dX9_readText_249 : decode cX9_readText 249 = .ok (.aload_n 0, 1) := by decide +kernel
theorem dX9_readText_250 : decode cX9_readText 250 = .ok (.getfield 35, 3) := by decide +kernel
theorem dX9_readText_253 : decode cX9_readText 253 = .ok (.bipush 8, 2) := by decide +kernel
theorem dX9_readText_255 : decode cX9_readText 255 = .ok (.iaload, 1) := by decide +kernel
theorem dX9_readText_256 : decode cX9_readText 256 = .ok (.iconst 0, 1) := by decide +kernel
theorem dX9_readText_257 : decode cX9_readText 257 = .ok (.invokevirtual 173, 3) := by decide +kernel
theorem dX9_readText_260 : decode cX9_readText 260 = .ok (.ifCond .eq 14, 3) := by decide +kernel
theorem dX9_readText_263 : decode cX9_readText 263 = .ok (.aload_n 0, 1) := by decide +kernel
theorem dX9_readText_264 : decode cX9_readText 264 = .ok (.aload_n 0, 1) := by decide +kernel
theorem dX9_readText_265 : decode cX9_readText 265 = .ok (.getfield 134, 3) := by decide +kernel
theorem dX9_readText_268 : decode cX9_readText 268 = .ok (.invokevirtual 151, 3) := by decide +kernel
theorem dX9_readText_271 : decode cX9_readText 271 = .ok (.ifCond .eq 7, 3) := by decide +kernel
theorem dX9_readText_274 : decode cX9_readText 274 = .ok (.iconst 1, 1) := by decide +kernel
theorem dX9_readText_275 : decode cX9_readText 275 = .ok (.goto 4, 3) := by decide +kernel
theorem dX9_readText_278 : decode cX9_readText 278 = .ok (.iconst 0, 1) := by decide +kernel
theorem dX9_readText_279 : decode cX9_readText 279 = .ok (.ireturn, 1) := by decide +kernel
theorem dX9_value_0 : decode cX9_value 0 = .ok (.aload_n 0, 1) := by decide +kernel
theorem dX9_value_1 : decode cX9_value 1 = .ok (.getfield 20, 3) := by decide +kernel
theorem dX9_value_4 : decode cX9_value 4 = .ok (.iconst 3, 1) := by decide +kernel
theorem dX9_value_5 : decode cX9_value 5 = .ok (.iload_n 2, 1) := by decide +kernel
theorem dX9_value_6 : decode cX9_value 6 = .ok (.imul, 1) := by decide +kernel
theorem dX9_value_7 : decode cX9_value 7 = .ok (.aload_n 0, 1) := by decide +kernel
theorem dX9_value_8 : decode cX9_value 8 = .ok (.getfield 32, 3) := by decide +kernel
theorem dX9_value_11 : decode cX9_value 11 = .ok (.iload_n 1, 1) := by decide +kernel
theorem dX9_value_12 : decode cX9_value 12 = .ok (.iaload, 1) := by decide +kernel
theorem dX9_value_13 : decode cX9_value 13 = .ok (.iadd, 1) := by decide +kernel
theorem dX9_value_14 : decode cX9_value 14 = .ok (.iaload, 1) := by decide +kernel
theorem dX9_value_15 : decode cX9_value 15 = .ok (.ireturn, 1) := by decide +kernel
theorem dX9_leads_0 : decode cX9_leads 0 = .ok (.aload_n 0, 1) := by decide +kernel
theorem dX9_leads_1 : decode cX9_leads 1 = .ok (.getfield 51, 3) := by decide +kernel
theorem dX9_leads_4 : decode cX9_leads 4 = .ok (.bipush 6, 2) := by decide +kernel
theorem dX9_leads_6 : decode cX9_leads 6 = .ok (.iload_n 1, 1) := by decide +kernel
theorem dX9_leads_7 : decode cX9_leads 7 = .ok (.imul, 1) := by decide +kernel
theorem dX9_leads_8 : decode cX9_leads 8 = .ok (.iload 4, 2) := by decide +kernel
theorem dX9_leads_10 : decode cX9_leads 10 = .ok (.iadd, 1) := by decide +kernel
theorem dX9_leads_11 : decode cX9_leads 11 = .ok (.iaload, 1) := by decide +kernel
theorem dX9_leads_12 : decode cX9_leads 12 = .ok (.istore 6, 2) := by decide +kernel
theorem dX9_leads_14 : decode cX9_leads 14 = .ok (.aload_n 0, 1) := by decide +kernel
theorem dX9_leads_15 : decode cX9_leads 15 = .ok (.iload_n 1, 1) := by decide +kernel
theorem dX9_leads_16 : decode cX9_leads 16 = .ok (.iload_n 3, 1) := by decide +kernel
theorem dX9_leads_17 : decode cX9_leads 17 = .ok (.invokevirtual 205, 3) := by decide +kernel
theorem dX9_leads_20 : decode cX9_leads 20 = .ok (.aload_n 0, 1) := by decide +kernel
theorem dX9_leads_21 : decode cX9_leads 21 = .ok (.iload_n 1, 1) := by decide +kernel
theorem dX9_leads_22 : decode cX9_leads 22 = .ok (.iload 5, 2) := by decide +kernel
theorem dX9_leads_24 : decode cX9_leads 24 = .ok (.invokevirtual 205, 3) := by decide +kernel
theorem dX9_leads_27 : decode cX9_leads 27 = .ok (.if_icmp .ne 44, 3) := by decide +kernel
theorem dX9_leads_30 : decode cX9_leads 30 = .ok (.aload_n 0, 1) := by decide +kernel
theorem dX9_leads_31 : decode cX9_leads 31 = .ok (.getfield 23, 3) := by decide +kernel
theorem dX9_leads_34 : decode cX9_leads 34 = .ok (.iload_n 3, 1) := by decide +kernel
theorem dX9_leads_35 : decode cX9_leads 35 = .ok (.iaload, 1) := by decide +kernel
theorem dX9_leads_36 : decode cX9_leads 36 = .ok (.aload_n 0, 1) := by decide +kernel
theorem dX9_leads_37 : decode cX9_leads 37 = .ok (.getfield 23, 3) := by decide +kernel
theorem dX9_leads_40 : decode cX9_leads 40 = .ok (.iload 5, 2) := by decide +kernel
theorem dX9_leads_42 : decode cX9_leads 42 = .ok (.iaload, 1) := by decide +kernel
theorem dX9_leads_43 : decode cX9_leads 43 = .ok (.if_icmp .ge 28, 3) := by decide +kernel
theorem dX9_leads_46 : decode cX9_leads 46 = .ok (.iload 6, 2) := by decide +kernel
theorem dX9_leads_48 : decode cX9_leads 48 = .ok (.iconst (-1), 1) := by decide +kernel
theorem dX9_leads_49 : decode cX9_leads 49 = .ok (.if_icmp .eq 24, 3) := by decide +kernel
theorem dX9_leads_52 : decode cX9_leads 52 = .ok (.aload_n 0, 1) := by decide +kernel
theorem dX9_leads_53 : decode cX9_leads 53 = .ok (.getfield 23, 3) := by decide +kernel
theorem dX9_leads_56 : decode cX9_leads 56 = .ok (.iload 5, 2) := by decide +kernel
theorem dX9_leads_58 : decode cX9_leads 58 = .ok (.iaload, 1) := by decide +kernel
theorem dX9_leads_59 : decode cX9_leads 59 = .ok (.aload_n 0, 1) := by decide +kernel
theorem dX9_leads_60 : decode cX9_leads 60 = .ok (.getfield 23, 3) := by decide +kernel
theorem dX9_leads_63 : decode cX9_leads 63 = .ok (.iload_n 3, 1) := by decide +kernel
theorem dX9_leads_64 : decode cX9_leads 64 = .ok (.iaload, 1) := by decide +kernel
theorem dX9_leads_65 : decode cX9_leads 65 = .ok (.isub, 1) := by decide +kernel
theorem dX9_leads_66 : decode cX9_leads 66 = .ok (.iload 6, 2) := by decide +kernel
theorem dX9_leads_68 : decode cX9_leads 68 = .ok (.if_icmp .le 5, 3) := by decide +kernel
theorem dX9_leads_71 : decode cX9_leads 71 = .ok (.iconst 0, 1) := by decide +kernel
theorem dX9_leads_72 : decode cX9_leads 72 = .ok (.ireturn, 1) := by decide +kernel
theorem dX9_leads_73 : decode cX9_leads 73 = .ok (.iload_n 2, 1) := by decide +kernel
theorem dX9_leads_74 : decode cX9_leads 74 = .ok (.iconst 1, 1) := by decide +kernel
theorem dX9_leads_75 : decode cX9_leads 75 = .ok (.iadd, 1) := by decide +kernel
theorem dX9_leads_76 : decode cX9_leads 76 = .ok (.istore 7, 2) := by decide +kernel
theorem dX9_leads_78 : decode cX9_leads 78 = .ok (.iload 7, 2) := by decide +kernel
theorem dX9_leads_80 : decode cX9_leads 80 = .ok (.iload 4, 2) := by decide +kernel
theorem dX9_leads_82 : decode cX9_leads 82 = .ok (.if_icmp .ge 96, 3) := by decide +kernel
theorem dX9_leads_85 : decode cX9_leads 85 = .ok (.iconst 0, 1) := by decide +kernel
theorem dX9_leads_86 : decode cX9_leads 86 = .ok (.istore 8, 2) := by decide +kernel
theorem dX9_leads_88 : decode cX9_leads 88 = .ok (.iload 8, 2) := by decide +kernel
theorem dX9_leads_90 : decode cX9_leads 90 = .ok (.aload_n 0, 1) := by decide +kernel
theorem dX9_leads_91 : decode cX9_leads 91 = .ok (.getfield 105, 3) := by decide +kernel
theorem dX9_leads_94 : decode cX9_leads 94 = .ok (.if_icmp .ge 78, 3) := by decide +kernel
theorem dX9_leads_97 : decode cX9_leads 97 = .ok (.aload_n 0, 1) := by decide +kernel
theorem dX9_leads_98 : decode cX9_leads 98 = .ok (.getfield 78, 3) := by decide +kernel
theorem dX9_leads_101 : decode cX9_leads 101 = .ok (.sipush 250, 3) := by decide +kernel
theorem dX9_leads_104 : decode cX9_leads 104 = .ok (.iload 7, 2) := by decide +kernel
theorem dX9_leads_106 : decode cX9_leads 106 = .ok (.imul, 1) := by decide +kernel
theorem dX9_leads_107 : decode cX9_leads 107 = .ok (.iload 8, 2) := by decide +kernel
theorem dX9_leads_109 : decode cX9_leads 109 = .ok (.iadd, 1) := by decide +kernel
theorem dX9_leads_110 : decode cX9_leads 110 = .ok (.baload, 1) := by decide +kernel
theorem dX9_leads_111 : decode cX9_leads 111 = .ok (.ifCond .eq 55, 3) := by decide +kernel
theorem dX9_leads_114 : decode cX9_leads 114 = .ok (.aload_n 0, 1) := by decide +kernel
theorem dX9_leads_115 : decode cX9_leads 115 = .ok (.iload_n 1, 1) := by decide +kernel
theorem dX9_leads_116 : decode cX9_leads 116 = .ok (.iload 8, 2) := by decide +kernel
theorem dX9_leads_118 : decode cX9_leads 118 = .ok (.invokevirtual 205, 3) := by decide +kernel
theorem dX9_leads_121 : decode cX9_leads 121 = .ok (.aload_n 0, 1) := by decide +kernel
theorem dX9_leads_122 : decode cX9_leads 122 = .ok (.iload_n 1, 1) := by decide +kernel
theorem dX9_leads_123 : decode cX9_leads 123 = .ok (.iload 5, 2) := by decide +kernel
theorem dX9_leads_125 : decode cX9_leads 125 = .ok (.invokevirtual 205, 3) := by decide +kernel
theorem dX9_leads_128 : decode cX9_leads 128 = .ok (.if_icmp .ne 38, 3) := by decide +kernel
theorem dX9_leads_131 : decode cX9_leads 131 = .ok (.aload_n 0, 1) := by decide +kernel
theorem dX9_leads_132 : decode cX9_leads 132 = .ok (.getfield 23, 3) := by decide +kernel
theorem dX9_leads_135 : decode cX9_leads 135 = .ok (.iload 8, 2) := by decide +kernel
theorem dX9_leads_137 : decode cX9_leads 137 = .ok (.iaload, 1) := by decide +kernel
theorem dX9_leads_138 : decode cX9_leads 138 = .ok (.aload_n 0, 1) := by decide +kernel
theorem dX9_leads_139 : decode cX9_leads 139 = .ok (.getfield 23, 3) := by decide +kernel
theorem dX9_leads_142 : decode cX9_leads 142 = .ok (.iload_n 3, 1) := by decide +kernel
theorem dX9_leads_143 : decode cX9_leads 143 = .ok (.iaload, 1) := by decide +kernel
theorem dX9_leads_144 : decode cX9_leads 144 = .ok (.if_icmp .le 22, 3) := by decide +kernel
theorem dX9_leads_147 : decode cX9_leads 147 = .ok (.aload_n 0, 1) := by decide +kernel
theorem dX9_leads_148 : decode cX9_leads 148 = .ok (.getfield 23, 3) := by decide +kernel
theorem dX9_leads_151 : decode cX9_leads 151 = .ok (.iload 8, 2) := by decide +kernel
theorem dX9_leads_153 : decode cX9_leads 153 = .ok (.iaload, 1) := by decide +kernel
theorem dX9_leads_154 : decode cX9_leads 154 = .ok (.aload_n 0, 1) := by decide +kernel
theorem dX9_leads_155 : decode cX9_leads 155 = .ok (.getfield 23, 3) := by decide +kernel
theorem dX9_leads_158 : decode cX9_leads 158 = .ok (.iload 5, 2) := by decide +kernel
theorem dX9_leads_160 : decode cX9_leads 160 = .ok (.iaload, 1) := by decide +kernel
theorem dX9_leads_161 : decode cX9_leads 161 = .ok (.if_icmp .ge 5, 3) := by decide +kernel
theorem dX9_leads_164 : decode cX9_leads 164 = .ok (.iconst 0, 1) := by decide +kernel
theorem dX9_leads_165 : decode cX9_leads 165 = .ok (.ireturn, 1) := by decide +kernel
theorem dX9_leads_166 : decode cX9_leads 166 = .ok (.iinc 8 1, 3) := by decide +kernel
theorem dX9_leads_169 : decode cX9_leads 169 = .ok (.goto (-81), 3) := by decide +kernel
theorem dX9_leads_172 : decode cX9_leads 172 = .ok (.iinc 7 1, 3) := by decide +kernel
theorem dX9_leads_175 : decode cX9_leads 175 = .ok (.goto (-97), 3) := by decide +kernel
theorem dX9_leads_178 : decode cX9_leads 178 = .ok (.iconst 1, 1) := by decide +kernel
theorem dX9_leads_179 : decode cX9_leads 179 = .ok (.ireturn, 1) := by decide +kernel
theorem dX9_quietBehind_0 : decode cX9_quietBehind 0 = .ok (.iload_n 2, 1) := by decide +kernel
theorem dX9_quietBehind_1 : decode cX9_quietBehind 1 = .ok (.iconst 1, 1) := by decide +kernel
theorem dX9_quietBehind_2 : decode cX9_quietBehind 2 = .ok (.iadd, 1) := by decide +kernel
theorem dX9_quietBehind_3 : decode cX9_quietBehind 3 = .ok (.istore 5, 2) := by decide +kernel
theorem dX9_quietBehind_5 : decode cX9_quietBehind 5 = .ok (.iload 5, 2) := by decide +kernel
theorem dX9_quietBehind_7 : decode cX9_quietBehind 7 = .ok (.aload_n 0, 1) := by decide +kernel
theorem dX9_quietBehind_8 : decode cX9_quietBehind 8 = .ok (.getfield 35, 3) := by decide +kernel
theorem dX9_quietBehind_11 : decode cX9_quietBehind 11 = .ok (.iload_n 1, 1) := by decide +kernel
theorem dX9_quietBehind_12 : decode cX9_quietBehind 12 = .ok (.iaload, 1) := by decide +kernel
theorem dX9_quietBehind_13 : decode cX9_quietBehind 13 = .ok (.if_icmp .ge 126, 3) := by decide +kernel
theorem dX9_quietBehind_16 : decode cX9_quietBehind 16 = .ok (.aload_n 0, 1) := by decide +kernel
theorem dX9_quietBehind_17 : decode cX9_quietBehind 17 = .ok (.getfield 23, 3) := by decide +kernel
theorem dX9_quietBehind_20 : decode cX9_quietBehind 20 = .ok (.iload_n 3, 1) := by decide +kernel
theorem dX9_quietBehind_21 : decode cX9_quietBehind 21 = .ok (.iaload, 1) := by decide +kernel
theorem dX9_quietBehind_22 : decode cX9_quietBehind 22 = .ok (.i2l, 1) := by decide +kernel
theorem dX9_quietBehind_23 : decode cX9_quietBehind 23 = .ok (.aload_n 0, 1) := by decide +kernel
theorem dX9_quietBehind_24 : decode cX9_quietBehind 24 = .ok (.getfield 51, 3) := by decide +kernel
theorem dX9_quietBehind_27 : decode cX9_quietBehind 27 = .ok (.bipush 6, 2) := by decide +kernel
theorem dX9_quietBehind_29 : decode cX9_quietBehind 29 = .ok (.iload_n 1, 1) := by decide +kernel
theorem dX9_quietBehind_30 : decode cX9_quietBehind 30 = .ok (.imul, 1) := by decide +kernel
theorem dX9_quietBehind_31 : decode cX9_quietBehind 31 = .ok (.iload 5, 2) := by decide +kernel
theorem dX9_quietBehind_33 : decode cX9_quietBehind 33 = .ok (.iadd, 1) := by decide +kernel
theorem dX9_quietBehind_34 : decode cX9_quietBehind 34 = .ok (.iaload, 1) := by decide +kernel
theorem dX9_quietBehind_35 : decode cX9_quietBehind 35 = .ok (.i2l, 1) := by decide +kernel
theorem dX9_quietBehind_36 : decode cX9_quietBehind 36 = .ok (.ladd, 1) := by decide +kernel
theorem dX9_quietBehind_37 : decode cX9_quietBehind 37 = .ok (.lstore 6, 2) := by decide +kernel
theorem dX9_quietBehind_39 : decode cX9_quietBehind 39 = .ok (.iload 4, 2) := by decide +kernel
theorem dX9_quietBehind_41 : decode cX9_quietBehind 41 = .ok (.i2l, 1) := by decide +kernel
theorem dX9_quietBehind_42 : decode cX9_quietBehind 42 = .ok (.lload 6, 2) := by decide +kernel
theorem dX9_quietBehind_44 : decode cX9_quietBehind 44 = .ok (.lcmp, 1) := by decide +kernel
theorem dX9_quietBehind_45 : decode cX9_quietBehind 45 = .ok (.ifCond .ge 5, 3) := by decide +kernel
theorem dX9_quietBehind_48 : decode cX9_quietBehind 48 = .ok (.iconst 0, 1) := by decide +kernel
theorem dX9_quietBehind_49 : decode cX9_quietBehind 49 = .ok (.ireturn, 1) := by decide +kernel
theorem dX9_quietBehind_50 : decode cX9_quietBehind 50 = .ok (.iconst 0, 1) := by decide +kernel
theorem dX9_quietBehind_51 : decode cX9_quietBehind 51 = .ok (.istore 8, 2) := by decide +kernel
theorem dX9_quietBehind_53 : decode cX9_quietBehind 53 = .ok (.iload 8, 2) := by decide +kernel
theorem dX9_quietBehind_55 : decode cX9_quietBehind 55 = .ok (.aload_n 0, 1) := by decide +kernel
theorem dX9_quietBehind_56 : decode cX9_quietBehind 56 = .ok (.getfield 105, 3) := by decide +kernel
theorem dX9_quietBehind_59 : decode cX9_quietBehind 59 = .ok (.if_icmp .ge 74, 3) := by decide +kernel
theorem dX9_quietBehind_62 : decode cX9_quietBehind 62 = .ok (.aload_n 0, 1) := by decide +kernel
theorem dX9_quietBehind_63 : decode cX9_quietBehind 63 = .ok (.getfield 78, 3) := by decide +kernel
theorem dX9_quietBehind_66 : decode cX9_quietBehind 66 = .ok (.sipush 250, 3) := by decide +kernel
theorem dX9_quietBehind_69 : decode cX9_quietBehind 69 = .ok (.iload 5, 2) := by decide +kernel
theorem dX9_quietBehind_71 : decode cX9_quietBehind 71 = .ok (.imul, 1) := by decide +kernel
theorem dX9_quietBehind_72 : decode cX9_quietBehind 72 = .ok (.iload 8, 2) := by decide +kernel
theorem dX9_quietBehind_74 : decode cX9_quietBehind 74 = .ok (.iadd, 1) := by decide +kernel
theorem dX9_quietBehind_75 : decode cX9_quietBehind 75 = .ok (.baload, 1) := by decide +kernel
theorem dX9_quietBehind_76 : decode cX9_quietBehind 76 = .ok (.ifCond .eq 51, 3) := by decide +kernel
theorem dX9_quietBehind_79 : decode cX9_quietBehind 79 = .ok (.aload_n 0, 1) := by decide +kernel
theorem dX9_quietBehind_80 : decode cX9_quietBehind 80 = .ok (.iload_n 1, 1) := by decide +kernel
theorem dX9_quietBehind_81 : decode cX9_quietBehind 81 = .ok (.iload 8, 2) := by decide +kernel
theorem dX9_quietBehind_83 : decode cX9_quietBehind 83 = .ok (.invokevirtual 205, 3) := by decide +kernel
theorem dX9_quietBehind_86 : decode cX9_quietBehind 86 = .ok (.aload_n 0, 1) := by decide +kernel
theorem dX9_quietBehind_87 : decode cX9_quietBehind 87 = .ok (.iload_n 1, 1) := by decide +kernel
theorem dX9_quietBehind_88 : decode cX9_quietBehind 88 = .ok (.iload_n 3, 1) := by decide +kernel
theorem dX9_quietBehind_89 : decode cX9_quietBehind 89 = .ok (.invokevirtual 205, 3) := by decide +kernel
theorem dX9_quietBehind_92 : decode cX9_quietBehind 92 = .ok (.if_icmp .ne 35, 3) := by decide +kernel
theorem dX9_quietBehind_95 : decode cX9_quietBehind 95 = .ok (.aload_n 0, 1) := by decide +kernel
theorem dX9_quietBehind_96 : decode cX9_quietBehind 96 = .ok (.getfield 23, 3) := by decide +kernel
theorem dX9_quietBehind_99 : decode cX9_quietBehind 99 = .ok (.iload 8, 2) := by decide +kernel
theorem dX9_quietBehind_101 : decode cX9_quietBehind 101 = .ok (.iaload, 1) := by decide +kernel
theorem dX9_quietBehind_102 : decode cX9_quietBehind 102 = .ok (.aload_n 0, 1) := by decide +kernel
theorem dX9_quietBehind_103 : decode cX9_quietBehind 103 = .ok (.getfield 23, 3) := by decide +kernel
theorem dX9_quietBehind_106 : decode cX9_quietBehind 106 = .ok (.iload_n 3, 1) := by decide +kernel
theorem dX9_quietBehind_107 : decode cX9_quietBehind 107 = .ok (.iaload, 1) := by decide +kernel
theorem dX9_quietBehind_108 : decode cX9_quietBehind 108 = .ok (.if_icmp .le 19, 3) := by decide +kernel
theorem dX9_quietBehind_111 : decode cX9_quietBehind 111 = .ok (.aload_n 0, 1) := by decide +kernel
theorem dX9_quietBehind_112 : decode cX9_quietBehind 112 = .ok (.getfield 23, 3) := by decide +kernel
theorem dX9_quietBehind_115 : decode cX9_quietBehind 115 = .ok (.iload 8, 2) := by decide +kernel
theorem dX9_quietBehind_117 : decode cX9_quietBehind 117 = .ok (.iaload, 1) := by decide +kernel
theorem dX9_quietBehind_118 : decode cX9_quietBehind 118 = .ok (.i2l, 1) := by decide +kernel
theorem dX9_quietBehind_119 : decode cX9_quietBehind 119 = .ok (.lload 6, 2) := by decide +kernel
theorem dX9_quietBehind_121 : decode cX9_quietBehind 121 = .ok (.lcmp, 1) := by decide +kernel
theorem dX9_quietBehind_122 : decode cX9_quietBehind 122 = .ok (.ifCond .gt 5, 3) := by decide +kernel
theorem dX9_quietBehind_125 : decode cX9_quietBehind 125 = .ok (.iconst 0, 1) := by decide +kernel
theorem dX9_quietBehind_126 : decode cX9_quietBehind 126 = .ok (.ireturn, 1) := by decide +kernel
theorem dX9_quietBehind_127 : decode cX9_quietBehind 127 = .ok (.iinc 8 1, 3) := by decide +kernel
theorem dX9_quietBehind_130 : decode cX9_quietBehind 130 = .ok (.goto (-77), 3) := by decide +kernel
theorem dX9_quietBehind_133 : decode cX9_quietBehind 133 = .ok (.iinc 5 1, 3) := by decide +kernel
theorem dX9_quietBehind_136 : decode cX9_quietBehind 136 = .ok (.goto (-131), 3) := by decide +kernel
theorem dX9_quietBehind_139 : decode cX9_quietBehind 139 = .ok (.iconst 1, 1) := by decide +kernel
theorem dX9_quietBehind_140 : decode cX9_quietBehind 140 = .ok (.ireturn, 1) := by decide +kernel
theorem dX9_spreads_0 : decode cX9_spreads 0 = .ok (.aload_n 0, 1) := by decide +kernel
theorem dX9_spreads_1 : decode cX9_spreads 1 = .ok (.getfield 54, 3) := by decide +kernel
theorem dX9_spreads_4 : decode cX9_spreads 4 = .ok (.iload_n 1, 1) := by decide +kernel
theorem dX9_spreads_5 : decode cX9_spreads 5 = .ok (.iaload, 1) := by decide +kernel
theorem dX9_spreads_6 : decode cX9_spreads 6 = .ok (.iconst (-1), 1) := by decide +kernel
theorem dX9_spreads_7 : decode cX9_spreads 7 = .ok (.if_icmp .ne 5, 3) := by decide +kernel
theorem dX9_spreads_10 : decode cX9_spreads 10 = .ok (.iconst 1, 1) := by decide +kernel
theorem dX9_spreads_11 : decode cX9_spreads 11 = .ok (.ireturn, 1) := by decide +kernel
theorem dX9_spreads_12 : decode cX9_spreads 12 = .ok (.iconst 0, 1) := by decide +kernel
theorem dX9_spreads_13 : decode cX9_spreads 13 = .ok (.istore 4, 2) := by decide +kernel
theorem dX9_spreads_15 : decode cX9_spreads 15 = .ok (.iconst 0, 1) := by decide +kernel
theorem dX9_spreads_16 : decode cX9_spreads 16 = .ok (.istore 5, 2) := by decide +kernel
theorem dX9_spreads_18 : decode cX9_spreads 18 = .ok (.iconst 0, 1) := by decide +kernel
theorem dX9_spreads_19 : decode cX9_spreads 19 = .ok (.istore 6, 2) := by decide +kernel
theorem dX9_spreads_21 : decode cX9_spreads 21 = .ok (.iload 6, 2) := by decide +kernel
theorem dX9_spreads_23 : decode cX9_spreads 23 = .ok (.aload_n 0, 1) := by decide +kernel
theorem dX9_spreads_24 : decode cX9_spreads 24 = .ok (.getfield 105, 3) := by decide +kernel
theorem dX9_spreads_27 : decode cX9_spreads 27 = .ok (.if_icmp .ge 133, 3) := by decide +kernel
theorem dX9_spreads_30 : decode cX9_spreads 30 = .ok (.aload_n 0, 1) := by decide +kernel
theorem dX9_spreads_31 : decode cX9_spreads 31 = .ok (.getfield 78, 3) := by decide +kernel
theorem dX9_spreads_34 : decode cX9_spreads 34 = .ok (.sipush 250, 3) := by decide +kernel
theorem dX9_spreads_37 : decode cX9_spreads 37 = .ok (.iload_n 2, 1) := by decide +kernel
theorem dX9_spreads_38 : decode cX9_spreads 38 = .ok (.imul, 1) := by decide +kernel
theorem dX9_spreads_39 : decode cX9_spreads 39 = .ok (.iload 6, 2) := by decide +kernel
theorem dX9_spreads_41 : decode cX9_spreads 41 = .ok (.iadd, 1) := by decide +kernel
theorem dX9_spreads_42 : decode cX9_spreads 42 = .ok (.baload, 1) := by decide +kernel
theorem dX9_spreads_43 : decode cX9_spreads 43 = .ok (.ifCond .eq 62, 3) := by decide +kernel
theorem dX9_spreads_46 : decode cX9_spreads 46 = .ok (.aload_n 0, 1) := by decide +kernel
theorem dX9_spreads_47 : decode cX9_spreads 47 = .ok (.iload_n 1, 1) := by decide +kernel
theorem dX9_spreads_48 : decode cX9_spreads 48 = .ok (.iload 6, 2) := by decide +kernel
theorem dX9_spreads_50 : decode cX9_spreads 50 = .ok (.invokevirtual 205, 3) := by decide +kernel
theorem dX9_spreads_53 : decode cX9_spreads 53 = .ok (.aload_n 0, 1) := by decide +kernel
theorem dX9_spreads_54 : decode cX9_spreads 54 = .ok (.iload_n 1, 1) := by decide +kernel
theorem dX9_spreads_55 : decode cX9_spreads 55 = .ok (.iload_n 3, 1) := by decide +kernel
theorem dX9_spreads_56 : decode cX9_spreads 56 = .ok (.invokevirtual 205, 3) := by decide +kernel
theorem dX9_spreads_59 : decode cX9_spreads 59 = .ok (.if_icmp .ne 46, 3) := by decide +kernel
theorem dX9_spreads_62 : decode cX9_spreads 62 = .ok (.aload_n 0, 1) := by decide +kernel
theorem dX9_spreads_63 : decode cX9_spreads 63 = .ok (.getfield 23, 3) := by decide +kernel
theorem dX9_spreads_66 : decode cX9_spreads 66 = .ok (.iload 6, 2) := by decide +kernel
theorem dX9_spreads_68 : decode cX9_spreads 68 = .ok (.iaload, 1) := by decide +kernel
theorem dX9_spreads_69 : decode cX9_spreads 69 = .ok (.aload_n 0, 1) := by decide +kernel
theorem dX9_spreads_70 : decode cX9_spreads 70 = .ok (.getfield 23, 3) := by decide +kernel
theorem dX9_spreads_73 : decode cX9_spreads 73 = .ok (.iload_n 3, 1) := by decide +kernel
theorem dX9_spreads_74 : decode cX9_spreads 74 = .ok (.iaload, 1) := by decide +kernel
theorem dX9_spreads_75 : decode cX9_spreads 75 = .ok (.if_icmp .gt 30, 3) := by decide +kernel
theorem dX9_spreads_78 : decode cX9_spreads 78 = .ok (.aload_n 0, 1) := by decide +kernel
theorem dX9_spreads_79 : decode cX9_spreads 79 = .ok (.getfield 23, 3) := by decide +kernel
theorem dX9_spreads_82 : decode cX9_spreads 82 = .ok (.iload 6, 2) := by decide +kernel
theorem dX9_spreads_84 : decode cX9_spreads 84 = .ok (.iaload, 1) := by decide +kernel
theorem dX9_spreads_85 : decode cX9_spreads 85 = .ok (.aload_n 0, 1) := by decide +kernel
theorem dX9_spreads_86 : decode cX9_spreads 86 = .ok (.getfield 23, 3) := by decide +kernel
theorem dX9_spreads_89 : decode cX9_spreads 89 = .ok (.iload_n 3, 1) := by decide +kernel
theorem dX9_spreads_90 : decode cX9_spreads 90 = .ok (.iaload, 1) := by decide +kernel
theorem dX9_spreads_91 : decode cX9_spreads 91 = .ok (.aload_n 0, 1) := by decide +kernel
theorem dX9_spreads_92 : decode cX9_spreads 92 = .ok (.getfield 60, 3) := by decide +kernel
theorem dX9_spreads_95 : decode cX9_spreads 95 = .ok (.iload_n 1, 1) := by decide +kernel
theorem dX9_spreads_96 : decode cX9_spreads 96 = .ok (.iaload, 1) := by decide +kernel
theorem dX9_spreads_97 : decode cX9_spreads 97 = .ok (.isub, 1) := by decide +kernel
theorem dX9_spreads_98 : decode cX9_spreads 98 = .ok (.if_icmp .le 7, 3) := by decide +kernel
theorem dX9_spreads_101 : decode cX9_spreads 101 = .ok (.iconst 1, 1) := by decide +kernel
theorem dX9_spreads_102 : decode cX9_spreads 102 = .ok (.goto 4, 3) := by decide +kernel
theorem dX9_spreads_105 : decode cX9_spreads 105 = .ok (.iconst 0, 1) := by decide +kernel
theorem dX9_spreads_106 : decode cX9_spreads 106 = .ok (.istore 7, 2) := by decide +kernel
theorem dX9_spreads_108 : decode cX9_spreads 108 = .ok (.iconst 1, 1) := by decide +kernel
theorem dX9_spreads_109 : decode cX9_spreads 109 = .ok (.aload_n 0, 1) := by decide +kernel
theorem dX9_spreads_110 : decode cX9_spreads 110 = .ok (.getfield 20, 3) := by decide +kernel
theorem dX9_spreads_113 : decode cX9_spreads 113 = .ok (.iconst 3, 1) := by decide +kernel
theorem dX9_spreads_114 : decode cX9_spreads 114 = .ok (.iload 6, 2) := by decide +kernel
theorem dX9_spreads_116 : decode cX9_spreads 116 = .ok (.imul, 1) := by decide +kernel
theorem dX9_spreads_117 : decode cX9_spreads 117 = .ok (.aload_n 0, 1) := by decide +kernel
theorem dX9_spreads_118 : decode cX9_spreads 118 = .ok (.getfield 54, 3) := by decide +kernel
theorem dX9_spreads_121 : decode cX9_spreads 121 = .ok (.iload_n 1, 1) := by decide +kernel
theorem dX9_spreads_122 : decode cX9_spreads 122 = .ok (.iaload, 1) := by decide +kernel
theorem dX9_spreads_123 : decode cX9_spreads 123 = .ok (.iadd, 1) := by decide +kernel
theorem dX9_spreads_124 : decode cX9_spreads 124 = .ok (.iaload, 1) := by decide +kernel
theorem dX9_spreads_125 : decode cX9_spreads 125 = .ok (.ishl, 1) := by decide +kernel
theorem dX9_spreads_126 : decode cX9_spreads 126 = .ok (.istore 8, 2) := by decide +kernel
theorem dX9_spreads_128 : decode cX9_spreads 128 = .ok (.iload 7, 2) := by decide +kernel
theorem dX9_spreads_130 : decode cX9_spreads 130 = .ok (.ifCond .eq 24, 3) := by decide +kernel
theorem dX9_spreads_133 : decode cX9_spreads 133 = .ok (.iload 4, 2) := by decide +kernel
theorem dX9_spreads_135 : decode cX9_spreads 135 = .ok (.iload 8, 2) := by decide +kernel
theorem dX9_spreads_137 : decode cX9_spreads 137 = .ok (.iand, 1) := by decide +kernel
theorem dX9_spreads_138 : decode cX9_spreads 138 = .ok (.ifCond .eq 6, 3) := by decide +kernel
theorem dX9_spreads_141 : decode cX9_spreads 141 = .ok (.goto 13, 3) := by decide +kernel
theorem dX9_spreads_144 : decode cX9_spreads 144 = .ok (.iload 4, 2) := by decide +kernel
theorem dX9_spreads_146 : decode cX9_spreads 146 = .ok (.iload 8, 2) := by decide +kernel
theorem dX9_spreads_148 : decode cX9_spreads 148 = .ok (.ior, 1) := by decide +kernel
theorem dX9_spreads_149 : decode cX9_spreads 149 = .ok (.istore 4, 2) := by decide +kernel
theorem dX9_spreads_151 : decode cX9_spreads 151 = .ok (.iinc 5 1, 3) := by decide +kernel
theorem dX9_spreads_154 : decode cX9_spreads 154 = .ok (.iinc 6 1, 3) := by decide +kernel
theorem dX9_spreads_157 : decode cX9_spreads 157 = .ok (.goto (-136), 3) := by decide +kernel
theorem dX9_spreads_160 : decode cX9_spreads 160 = .ok (.iload 5, 2) := by decide +kernel
theorem dX9_spreads_162 : decode cX9_spreads 162 = .ok (.aload_n 0, 1) := by decide +kernel
theorem dX9_spreads_163 : decode cX9_spreads 163 = .ok (.getfield 57, 3) := by decide +kernel
theorem dX9_spreads_166 : decode cX9_spreads 166 = .ok (.iload_n 1, 1) := by decide +kernel
theorem dX9_spreads_167 : decode cX9_spreads 167 = .ok (.iaload, 1) := by decide +kernel
theorem dX9_spreads_168 : decode cX9_spreads 168 = .ok (.if_icmp .lt 7, 3) := by decide +kernel
theorem dX9_spreads_171 : decode cX9_spreads 171 = .ok (.iconst 1, 1) := by decide +kernel
theorem dX9_spreads_172 : decode cX9_spreads 172 = .ok (.goto 4, 3) := by decide +kernel
theorem dX9_spreads_175 : decode cX9_spreads 175 = .ok (.iconst 0, 1) := by decide +kernel
theorem dX9_spreads_176 : decode cX9_spreads 176 = .ok (.ireturn, 1) := by decide +kernel
theorem dX9_lastStep_0 : decode cX9_lastStep 0 = .ok (.aload_n 0, 1) := by decide +kernel
theorem dX9_lastStep_1 : decode cX9_lastStep 1 = .ok (.iload_n 1, 1) := by decide +kernel
theorem dX9_lastStep_2 : decode cX9_lastStep 2 = .ok (.aload_n 0, 1) := by decide +kernel
theorem dX9_lastStep_3 : decode cX9_lastStep 3 = .ok (.getfield 35, 3) := by decide +kernel
theorem dX9_lastStep_6 : decode cX9_lastStep 6 = .ok (.iload_n 1, 1) := by decide +kernel
theorem dX9_lastStep_7 : decode cX9_lastStep 7 = .ok (.iaload, 1) := by decide +kernel
theorem dX9_lastStep_8 : decode cX9_lastStep 8 = .ok (.invokevirtual 209, 3) := by decide +kernel
theorem dX9_lastStep_11 : decode cX9_lastStep 11 = .ok (.ireturn, 1) := by decide +kernel
theorem dX9_work_0 : decode cX9_work 0 = .ok (.aload_n 0, 1) := by decide +kernel
theorem dX9_work_1 : decode cX9_work 1 = .ok (.iconst 0, 1) := by decide +kernel
theorem dX9_work_2 : decode cX9_work 2 = .ok (.putfield 212, 3) := by decide +kernel
theorem dX9_work_5 : decode cX9_work 5 = .ok (.iconst 0, 1) := by decide +kernel
theorem dX9_work_6 : decode cX9_work 6 = .ok (.istore_n 3, 1) := by decide +kernel
theorem dX9_work_7 : decode cX9_work 7 = .ok (.iload_n 3, 1) := by decide +kernel
theorem dX9_work_8 : decode cX9_work 8 = .ok (.sipush 1500, 3) := by decide +kernel
theorem dX9_work_11 : decode cX9_work 11 = .ok (.if_icmp .ge 23, 3) := by decide +kernel
theorem dX9_work_14 : decode cX9_work 14 = .ok (.aload_n 0, 1) := by decide +kernel
theorem dX9_work_15 : decode cX9_work 15 = .ok (.getfield 78, 3) := by decide +kernel
theorem dX9_work_18 : decode cX9_work 18 = .ok (.iload_n 3, 1) := by decide +kernel
theorem dX9_work_19 : decode cX9_work 19 = .ok (.iconst 0, 1) := by decide +kernel
theorem dX9_work_20 : decode cX9_work 20 = .ok (.bastore, 1) := by decide +kernel
theorem dX9_work_21 : decode cX9_work 21 = .ok (.aload_n 0, 1) := by decide +kernel
theorem dX9_work_22 : decode cX9_work 22 = .ok (.getfield 81, 3) := by decide +kernel
theorem dX9_work_25 : decode cX9_work 25 = .ok (.iload_n 3, 1) := by decide +kernel
theorem dX9_work_26 : decode cX9_work 26 = .ok (.iconst 0, 1) := by decide +kernel
theorem dX9_work_27 : decode cX9_work 27 = .ok (.bastore, 1) := by decide +kernel
theorem dX9_work_28 : decode cX9_work 28 = .ok (.iinc 3 1, 3) := by decide +kernel
theorem dX9_work_31 : decode cX9_work 31 = .ok (.goto (-24), 3) := by decide +kernel
theorem dX9_work_34 : decode cX9_work 34 = .ok (.iconst 0, 1) := by decide +kernel
theorem dX9_work_35 : decode cX9_work 35 = .ok (.istore_n 3, 1) := by decide +kernel
theorem dX9_work_36 : decode cX9_work 36 = .ok (.iload_n 3, 1) := by decide +kernel
theorem dX9_work_37 : decode cX9_work 37 = .ok (.aload_n 0, 1) := by decide +kernel
theorem dX9_work_38 : decode cX9_work 38 = .ok (.getfield 35, 3) := by decide +kernel
theorem dX9_work_41 : decode cX9_work 41 = .ok (.iload_n 1, 1) := by decide +kernel
theorem dX9_work_42 : decode cX9_work 42 = .ok (.iaload, 1) := by decide +kernel
theorem dX9_work_43 : decode cX9_work 43 = .ok (.if_icmp .ge 49, 3) := by decide +kernel
theorem dX9_work_46 : decode cX9_work 46 = .ok (.iconst 0, 1) := by decide +kernel
theorem dX9_work_47 : decode cX9_work 47 = .ok (.istore 4, 2) := by decide +kernel
theorem dX9_work_49 : decode cX9_work 49 = .ok (.iload 4, 2) := by decide +kernel
theorem dX9_work_51 : decode cX9_work 51 = .ok (.aload_n 0, 1) := by decide +kernel
theorem dX9_work_52 : decode cX9_work 52 = .ok (.getfield 105, 3) := by decide +kernel
theorem dX9_work_55 : decode cX9_work 55 = .ok (.if_icmp .ge 31, 3) := by decide +kernel
theorem dX9_work_58 : decode cX9_work 58 = .ok (.aload_n 0, 1) := by decide +kernel
theorem dX9_work_59 : decode cX9_work 59 = .ok (.getfield 78, 3) := by decide +kernel
theorem dX9_work_62 : decode cX9_work 62 = .ok (.sipush 250, 3) := by decide +kernel
theorem dX9_work_65 : decode cX9_work 65 = .ok (.iload_n 3, 1) := by decide +kernel
theorem dX9_work_66 : decode cX9_work 66 = .ok (.imul, 1) := by decide +kernel
theorem dX9_work_67 : decode cX9_work 67 = .ok (.iload 4, 2) := by decide +kernel
theorem dX9_work_69 : decode cX9_work 69 = .ok (.iadd, 1) := by decide +kernel
theorem dX9_work_70 : decode cX9_work 70 = .ok (.aload_n 0, 1) := by decide +kernel
theorem dX9_work_71 : decode cX9_work 71 = .ok (.iload_n 1, 1) := by decide +kernel
theorem dX9_work_72 : decode cX9_work 72 = .ok (.iload_n 3, 1) := by decide +kernel
theorem dX9_work_73 : decode cX9_work 73 = .ok (.iload 4, 2) := by decide +kernel
theorem dX9_work_75 : decode cX9_work 75 = .ok (.iload_n 2, 1) := by decide +kernel
theorem dX9_work_76 : decode cX9_work 76 = .ok (.invokevirtual 215, 3) := by decide +kernel
theorem dX9_work_79 : decode cX9_work 79 = .ok (.bastore, 1) := by decide +kernel
theorem dX9_work_80 : decode cX9_work 80 = .ok (.iinc 4 1, 3) := by decide +kernel
theorem dX9_work_83 : decode cX9_work 83 = .ok (.goto (-34), 3) := by decide +kernel
theorem dX9_work_86 : decode cX9_work 86 = .ok (.iinc 3 1, 3) := by decide +kernel
theorem dX9_work_89 : decode cX9_work 89 = .ok (.goto (-53), 3) := by decide +kernel
theorem dX9_work_92 : decode cX9_work 92 = .ok (.iconst 0, 1) := by decide +kernel
theorem dX9_work_93 : decode cX9_work 93 = .ok (.istore_n 3, 1) := by decide +kernel
theorem dX9_work_94 : decode cX9_work 94 = .ok (.iload_n 3, 1) := by decide +kernel
theorem dX9_work_95 : decode cX9_work 95 = .ok (.aload_n 0, 1) := by decide +kernel
theorem dX9_work_96 : decode cX9_work 96 = .ok (.getfield 35, 3) := by decide +kernel
theorem dX9_work_99 : decode cX9_work 99 = .ok (.iload_n 1, 1) := by decide +kernel
theorem dX9_work_100 : decode cX9_work 100 = .ok (.iaload, 1) := by decide +kernel
theorem dX9_work_101 : decode cX9_work 101 = .ok (.if_icmp .ge 164, 3) := by decide +kernel
theorem dX9_work_104 : decode cX9_work 104 = .ok (.aload_n 0, 1) := by decide +kernel
theorem dX9_work_105 : decode cX9_work 105 = .ok (.getfield 38, 3) := by decide +kernel
theorem dX9_work_108 : decode cX9_work 108 = .ok (.bipush 6, 2) := by decide +kernel
theorem dX9_work_110 : decode cX9_work 110 = .ok (.iload_n 1, 1) := by decide +kernel
theorem dX9_work_111 : decode cX9_work 111 = .ok (.imul, 1) := by decide +kernel
theorem dX9_work_112 : decode cX9_work 112 = .ok (.iload_n 3, 1) := by decide +kernel
theorem dX9_work_113 : decode cX9_work 113 = .ok (.iadd, 1) := by decide +kernel
theorem dX9_work_114 : decode cX9_work 114 = .ok (.baload, 1) := by decide +kernel
theorem dX9_work_115 : decode cX9_work 115 = .ok (.ifCond .eq 6, 3) := by decide +kernel
theorem dX9_work_118 : decode cX9_work 118 = .ok (.goto 141, 3) := by decide +kernel
theorem dX9_work_121 : decode cX9_work 121 = .ok (.aload_n 0, 1) := by decide +kernel
theorem dX9_work_122 : decode cX9_work 122 = .ok (.iload_n 1, 1) := by decide +kernel
theorem dX9_work_123 : decode cX9_work 123 = .ok (.iload_n 3, 1) := by decide +kernel
theorem dX9_work_124 : decode cX9_work 124 = .ok (.invokevirtual 209, 3) := by decide +kernel
theorem dX9_work_127 : decode cX9_work 127 = .ok (.istore 4, 2) := by decide +kernel
theorem dX9_work_129 : decode cX9_work 129 = .ok (.iconst 0, 1) := by decide +kernel
theorem dX9_work_130 : decode cX9_work 130 = .ok (.istore 5, 2) := by decide +kernel
theorem dX9_work_132 : decode cX9_work 132 = .ok (.iload 5, 2) := by decide +kernel
theorem dX9_work_134 : decode cX9_work 134 = .ok (.aload_n 0, 1) := by decide +kernel
theorem dX9_work_135 : decode cX9_work 135 = .ok (.getfield 105, 3) := by decide +kernel
theorem dX9_work_138 : decode cX9_work 138 = .ok (.if_icmp .ge 121, 3) := by decide +kernel
theorem dX9_work_141 : decode cX9_work 141 = .ok (.iconst 0, 1) := by decide +kernel
theorem dX9_work_142 : decode cX9_work 142 = .ok (.istore 6, 2) := by decide +kernel
theorem dX9_work_144 : decode cX9_work 144 = .ok (.aload_n 0, 1) := by decide +kernel
theorem dX9_work_145 : decode cX9_work 145 = .ok (.getfield 78, 3) := by decide +kernel
theorem dX9_work_148 : decode cX9_work 148 = .ok (.sipush 250, 3) := by decide +kernel
theorem dX9_work_151 : decode cX9_work 151 = .ok (.iload_n 3, 1) := by decide +kernel
theorem dX9_work_152 : decode cX9_work 152 = .ok (.imul, 1) := by decide +kernel
theorem dX9_work_153 : decode cX9_work 153 = .ok (.iload 5, 2) := by decide +kernel
theorem dX9_work_155 : decode cX9_work 155 = .ok (.iadd, 1) := by decide +kernel
theorem dX9_work_156 : decode cX9_work 156 = .ok (.baload, 1) := by decide +kernel
theorem dX9_work_157 : decode cX9_work 157 = .ok (.ifCond .ne 6, 3) := by decide +kernel
theorem dX9_work_160 : decode cX9_work 160 = .ok (.goto 93, 3) := by decide +kernel
theorem dX9_work_163 : decode cX9_work 163 = .ok (.iload 4, 2) := by decide +kernel
theorem dX9_work_165 : decode cX9_work 165 = .ok (.ifCond .ge 6, 3) := by decide +kernel
theorem dX9_work_168 : decode cX9_work 168 = .ok (.iconst 1, 1) := by decide +kernel
theorem dX9_work_169 : decode cX9_work 169 = .ok (.istore 6, 2) := by decide +kernel
theorem dX9_work_171 : decode cX9_work 171 = .ok (.iconst 0, 1) := by decide +kernel
theorem dX9_work_172 : decode cX9_work 172 = .ok (.istore 7, 2) := by decide +kernel
theorem dX9_work_174 : decode cX9_work 174 = .ok (.iload 7, 2) := by decide +kernel
theorem dX9_work_176 : decode cX9_work 176 = .ok (.aload_n 0, 1) := by decide +kernel
theorem dX9_work_177 : decode cX9_work 177 = .ok (.getfield 105, 3) := by decide +kernel
theorem dX9_work_180 : decode cX9_work 180 = .ok (.if_icmp .ge 58, 3) := by decide +kernel
theorem dX9_work_183 : decode cX9_work 183 = .ok (.iload 4, 2) := by decide +kernel
theorem dX9_work_185 : decode cX9_work 185 = .ok (.ifCond .lt 53, 3) := by decide +kernel
theorem dX9_work_188 : decode cX9_work 188 = .ok (.iload 6, 2) := by decide +kernel
theorem dX9_work_190 : decode cX9_work 190 = .ok (.ifCond .ne 48, 3) := by decide +kernel
theorem dX9_work_193 : decode cX9_work 193 = .ok (.aload_n 0, 1) := by decide +kernel
theorem dX9_work_194 : decode cX9_work 194 = .ok (.getfield 81, 3) := by decide +kernel
theorem dX9_work_197 : decode cX9_work 197 = .ok (.sipush 250, 3) := by decide +kernel
theorem dX9_work_200 : decode cX9_work 200 = .ok (.iload 4, 2) := by decide +kernel
theorem dX9_work_202 : decode cX9_work 202 = .ok (.imul, 1) := by decide +kernel
theorem dX9_work_203 : decode cX9_work 203 = .ok (.iload 7, 2) := by decide +kernel
theorem dX9_work_205 : decode cX9_work 205 = .ok (.iadd, 1) := by decide +kernel
theorem dX9_work_206 : decode cX9_work 206 = .ok (.baload, 1) := by decide +kernel
theorem dX9_work_207 : decode cX9_work 207 = .ok (.ifCond .eq 22, 3) := by decide +kernel
theorem dX9_work_210 : decode cX9_work 210 = .ok (.aload_n 0, 1) := by decide +kernel
theorem dX9_work_211 : decode cX9_work 211 = .ok (.iload_n 1, 1) := by decide +kernel
theorem dX9_work_212 : decode cX9_work 212 = .ok (.iload 4, 2) := by decide +kernel
theorem dX9_work_214 : decode cX9_work 214 = .ok (.iload 7, 2) := by decide +kernel
theorem dX9_work_216 : decode cX9_work 216 = .ok (.iload_n 3, 1) := by decide +kernel
theorem dX9_work_217 : decode cX9_work 217 = .ok (.iload 5, 2) := by decide +kernel
theorem dX9_work_219 : decode cX9_work 219 = .ok (.invokevirtual 219, 3) := by decide +kernel
theorem dX9_work_222 : decode cX9_work 222 = .ok (.ifCond .eq 7, 3) := by decide +kernel
theorem dX9_work_225 : decode cX9_work 225 = .ok (.iconst 1, 1) := by decide +kernel
theorem dX9_work_226 : decode cX9_work 226 = .ok (.goto 4, 3) := by decide +kernel
theorem dX9_work_229 : decode cX9_work 229 = .ok (.iconst 0, 1) := by decide +kernel
theorem dX9_work_230 : decode cX9_work 230 = .ok (.istore 6, 2) := by decide +kernel
theorem dX9_work_232 : decode cX9_work 232 = .ok (.iinc 7 1, 3) := by decide +kernel
theorem dX9_work_235 : decode cX9_work 235 = .ok (.goto (-61), 3) := by decide +kernel
theorem dX9_work_238 : decode cX9_work 238 = .ok (.aload_n 0, 1) := by decide +kernel
theorem dX9_work_239 : decode cX9_work 239 = .ok (.getfield 81, 3) := by decide +kernel
theorem dX9_work_242 : decode cX9_work 242 = .ok (.sipush 250, 3) := by decide +kernel
theorem dX9_work_245 : decode cX9_work 245 = .ok (.iload_n 3, 1) := by decide +kernel
theorem dX9_work_246 : decode cX9_work 246 = .ok (.imul, 1) := by decide +kernel
theorem dX9_work_247 : decode cX9_work 247 = .ok (.iload 5, 2) := by decide +kernel
theorem dX9_work_249 : decode cX9_work 249 = .ok (.iadd, 1) := by decide +kernel
theorem dX9_work_250 : decode cX9_work 250 = .ok (.iload 6, 2) := by decide +kernel
theorem dX9_work_252 : decode cX9_work 252 = .ok (.bastore, 1) := by decide +kernel
theorem dX9_work_253 : decode cX9_work 253 = .ok (.iinc 5 1, 3) := by decide +kernel
theorem dX9_work_256 : decode cX9_work 256 = .ok (.goto (-124), 3) := by decide +kernel
theorem dX9_work_259 : decode cX9_work 259 = .ok (.iinc 3 1, 3) := by decide +kernel
theorem dX9_work_262 : decode cX9_work 262 = .ok (.goto (-168), 3) := by decide +kernel
theorem dX9_work_265 : decode cX9_work 265 = .ok (.aload_n 0, 1) := by decide +kernel
theorem dX9_work_266 : decode cX9_work 266 = .ok (.iload_n 1, 1) := by decide +kernel
theorem dX9_work_267 : decode cX9_work 267 = .ok (.invokevirtual 223, 3) := by decide +kernel
theorem dX9_work_270 : decode cX9_work 270 = .ok (.istore_n 3, 1) := by decide +kernel
theorem dX9_work_271 : decode cX9_work 271 = .ok (.iconst 0, 1) := by decide +kernel
theorem dX9_work_272 : decode cX9_work 272 = .ok (.istore 4, 2) := by decide +kernel
theorem dX9_work_274 : decode cX9_work 274 = .ok (.iload 4, 2) := by decide +kernel
theorem dX9_work_276 : decode cX9_work 276 = .ok (.aload_n 0, 1) := by decide +kernel
theorem dX9_work_277 : decode cX9_work 277 = .ok (.getfield 105, 3) := by decide +kernel
theorem dX9_work_280 : decode cX9_work 280 = .ok (.if_icmp .ge 127, 3) := by decide +kernel
theorem dX9_work_283 : decode cX9_work 283 = .ok (.aload_n 0, 1) := by decide +kernel
theorem dX9_work_284 : decode cX9_work 284 = .ok (.getfield 81, 3) := by decide +kernel
theorem dX9_work_287 : decode cX9_work 287 = .ok (.sipush 250, 3) := by decide +kernel
theorem dX9_work_290 : decode cX9_work 290 = .ok (.iload_n 3, 1) := by decide +kernel
theorem dX9_work_291 : decode cX9_work 291 = .ok (.imul, 1) := by decide +kernel
theorem dX9_work_292 : decode cX9_work 292 = .ok (.iload 4, 2) := by decide +kernel
theorem dX9_work_294 : decode cX9_work 294 = .ok (.iadd, 1) := by decide +kernel
theorem dX9_work_295 : decode cX9_work 295 = .ok (.baload, 1) := by decide +kernel
theorem dX9_work_296 : decode cX9_work 296 = .ok (.ifCond .eq 105, 3) := by decide +kernel
theorem dX9_work_299 : decode cX9_work 299 = .ok (.aload_n 0, 1) := by decide +kernel
theorem dX9_work_300 : decode cX9_work 300 = .ok (.iload_n 1, 1) := by decide +kernel
theorem dX9_work_301 : decode cX9_work 301 = .ok (.iload_n 3, 1) := by decide +kernel
theorem dX9_work_302 : decode cX9_work 302 = .ok (.iload 4, 2) := by decide +kernel
theorem dX9_work_304 : decode cX9_work 304 = .ok (.iload_n 2, 1) := by decide +kernel
theorem dX9_work_305 : decode cX9_work 305 = .ok (.invokevirtual 227, 3) := by decide +kernel
theorem dX9_work_308 : decode cX9_work 308 = .ok (.ifCond .eq 93, 3) := by decide +kernel
theorem dX9_work_311 : decode cX9_work 311 = .ok (.aload_n 0, 1) := by decide +kernel
theorem dX9_work_312 : decode cX9_work 312 = .ok (.iload_n 1, 1) := by decide +kernel
theorem dX9_work_313 : decode cX9_work 313 = .ok (.iload_n 3, 1) := by decide +kernel
theorem dX9_work_314 : decode cX9_work 314 = .ok (.iload 4, 2) := by decide +kernel
theorem dX9_work_316 : decode cX9_work 316 = .ok (.invokevirtual 230, 3) := by decide +kernel
theorem dX9_work_319 : decode cX9_work 319 = .ok (.ifCond .ne 6, 3) := by decide +kernel
theorem dX9_work_322 : decode cX9_work 322 = .ok (.goto 79, 3) := by decide +kernel
theorem dX9_work_325 : decode cX9_work 325 = .ok (.aload_n 0, 1) := by decide +kernel
theorem dX9_work_326 : decode cX9_work 326 = .ok (.getfield 212, 3) := by decide +kernel
theorem dX9_work_329 : decode cX9_work 329 = .ok (.istore 5, 2) := by decide +kernel
theorem dX9_work_331 : decode cX9_work 331 = .ok (.iload 5, 2) := by decide +kernel
theorem dX9_work_333 : decode cX9_work 333 = .ok (.ifCond .le 49, 3) := by decide +kernel
theorem dX9_work_336 : decode cX9_work 336 = .ok (.aload_n 0, 1) := by decide +kernel
theorem dX9_work_337 : decode cX9_work 337 = .ok (.getfield 23, 3) := by decide +kernel
theorem dX9_work_340 : decode cX9_work 340 = .ok (.aload_n 0, 1) := by decide +kernel
theorem dX9_work_341 : decode cX9_work 341 = .ok (.getfield 87, 3) := by decide +kernel
theorem dX9_work_344 : decode cX9_work 344 = .ok (.iload 5, 2) := by decide +kernel
theorem dX9_work_346 : decode cX9_work 346 = .ok (.iconst 1, 1) := by decide +kernel
theorem dX9_work_347 : decode cX9_work 347 = .ok (.isub, 1) := by decide +kernel
theorem dX9_work_348 : decode cX9_work 348 = .ok (.iaload, 1) := by decide +kernel
theorem dX9_work_349 : decode cX9_work 349 = .ok (.iaload, 1) := by decide +kernel
theorem dX9_work_350 : decode cX9_work 350 = .ok (.aload_n 0, 1) := by decide +kernel
theorem dX9_work_351 : decode cX9_work 351 = .ok (.getfield 23, 3) := by decide +kernel
theorem dX9_work_354 : decode cX9_work 354 = .ok (.iload 4, 2) := by decide +kernel
theorem dX9_work_356 : decode cX9_work 356 = .ok (.iaload, 1) := by decide +kernel
theorem dX9_work_357 : decode cX9_work 357 = .ok (.if_icmp .le 25, 3) := by decide +kernel
theorem dX9_work_360 : decode cX9_work 360 = .ok (.aload_n 0, 1) := by decide +kernel
theorem dX9_work_361 : decode cX9_work 361 = .ok (.getfield 87, 3) := by decide +kernel
theorem dX9_work_364 : decode cX9_work 364 = .ok (.iload 5, 2) := by decide +kernel
theorem dX9_work_366 : decode cX9_work 366 = .ok (.aload_n 0, 1) := by decide +kernel
theorem dX9_work_367 : decode cX9_work 367 = .ok (.getfield 87, 3) := by decide +kernel
theorem dX9_work_370 : decode cX9_work 370 = .ok (.iload 5, 2) := by decide +kernel
theorem dX9_work_372 : decode cX9_work 372 = .ok (.iconst 1, 1) := by decide +kernel
theorem dX9_work_373 : decode cX9_work 373 = .ok (.isub, 1) := by decide +kernel
theorem dX9_work_374 : decode cX9_work 374 = .ok (.iaload, 1) := by decide +kernel
theorem dX9_work_375 : decode cX9_work 375 = .ok (.iastore, 1) := by decide +kernel
theorem dX9_work_376 : decode cX9_work 376 = .ok (.iinc 5 (-1), 3) := by decide +kernel
theorem dX9_work_379 : decode cX9_work 379 = .ok (.goto (-48), 3) := by decide +kernel
theorem dX9_work_382 : decode cX9_work 382 = .ok (.aload_n 0, 1) := by decide +kernel
theorem dX9_work_383 : decode cX9_work 383 = .ok (.getfield 87, 3) := by decide +kernel
theorem dX9_work_386 : decode cX9_work 386 = .ok (.iload 5, 2) := by decide +kernel
theorem dX9_work_388 : decode cX9_work 388 = .ok (.iload 4, 2) := by decide +kernel
theorem dX9_work_390 : decode cX9_work 390 = .ok (.iastore, 1) := by decide +kernel
theorem dX9_work_391 : decode cX9_work 391 = .ok (.aload_n 0, 1) := by decide +kernel
theorem dX9_work_392 : decode cX9_work 392 = .ok (.dup, 1) := by decide +kernel
theorem dX9_work_393 : decode cX9_work 393 = .ok (.getfield 212, 3) := by decide +kernel
theorem dX9_work_396 : decode cX9_work 396 = .ok (.iconst 1, 1) := by decide +kernel
theorem dX9_work_397 : decode cX9_work 397 = .ok (.iadd, 1) := by decide +kernel
theorem dX9_work_398 : decode cX9_work 398 = .ok (.putfield 212, 3) := by decide +kernel
theorem dX9_work_401 : decode cX9_work 401 = .ok (.iinc 4 1, 3) := by decide +kernel
theorem dX9_work_404 : decode cX9_work 404 = .ok (.goto (-130), 3) := by decide +kernel
theorem dX9_work_407 : decode cX9_work 407 = .ok (.return_, 1) := by decide +kernel
theorem dX9_proof_0 : decode cX9_proof 0 = .ok (.aload_n 0, 1) := by decide +kernel
theorem dX9_proof_1 : decode cX9_proof 1 = .ok (.aload_n 0, 1) := by decide +kernel
theorem dX9_proof_2 : decode cX9_proof 2 = .ok (.iload_n 1, 1) := by decide +kernel
theorem dX9_proof_3 : decode cX9_proof 3 = .ok (.invokevirtual 233, 3) := by decide +kernel
theorem dX9_proof_6 : decode cX9_proof 6 = .ok (.ifCond .ne 7, 3) := by decide +kernel
theorem dX9_proof_9 : decode cX9_proof 9 = .ok (.iconst 1, 1) := by decide +kernel
theorem dX9_proof_10 : decode cX9_proof 10 = .ok (.goto 4, 3) := by decide +kernel
theorem dX9_proof_13 : decode cX9_proof 13 = .ok (.iconst 0, 1) := by decide +kernel
theorem dX9_proof_14 : decode cX9_proof 14 = .ok (.putfield 99, 3) := by decide +kernel
theorem dX9_proof_17 : decode cX9_proof 17 = .ok (.aload_n 0, 1) := by decide +kernel
theorem dX9_proof_18 : decode cX9_proof 18 = .ok (.getfield 99, 3) := by decide +kernel
theorem dX9_proof_21 : decode cX9_proof 21 = .ok (.ifCond .le 5, 3) := by decide +kernel
theorem dX9_proof_24 : decode cX9_proof 24 = .ok (.iconst 0, 1) := by decide +kernel
theorem dX9_proof_25 : decode cX9_proof 25 = .ok (.ireturn, 1) := by decide +kernel
theorem dX9_proof_26 : decode cX9_proof 26 = .ok (.aload_n 0, 1) := by decide +kernel
theorem dX9_proof_27 : decode cX9_proof 27 = .ok (.iload_n 1, 1) := by decide +kernel
theorem dX9_proof_28 : decode cX9_proof 28 = .ok (.iload_n 2, 1) := by decide +kernel
theorem dX9_proof_29 : decode cX9_proof 29 = .ok (.invokevirtual 236, 3) := by decide +kernel
theorem dX9_proof_32 : decode cX9_proof 32 = .ok (.iload_n 3, 1) := by decide +kernel
theorem dX9_proof_33 : decode cX9_proof 33 = .ok (.ifCond .lt 11, 3) := by decide +kernel
theorem dX9_proof_36 : decode cX9_proof 36 = .ok (.iload_n 3, 1) := by decide +kernel
theorem dX9_proof_37 : decode cX9_proof 37 = .ok (.aload_n 0, 1) := by decide +kernel
theorem dX9_proof_38 : decode cX9_proof 38 = .ok (.getfield 212, 3) := by decide +kernel
theorem dX9_proof_41 : decode cX9_proof 41 = .ok (.if_icmp .lt 5, 3) := by decide +kernel
theorem dX9_proof_44 : decode cX9_proof 44 = .ok (.iconst (-1), 1) := by decide +kernel
theorem dX9_proof_45 : decode cX9_proof 45 = .ok (.ireturn, 1) := by decide +kernel
theorem dX9_proof_46 : decode cX9_proof 46 = .ok (.aload_n 0, 1) := by decide +kernel
theorem dX9_proof_47 : decode cX9_proof 47 = .ok (.iload_n 1, 1) := by decide +kernel
theorem dX9_proof_48 : decode cX9_proof 48 = .ok (.invokevirtual 223, 3) := by decide +kernel
theorem dX9_proof_51 : decode cX9_proof 51 = .ok (.istore 5, 2) := by decide +kernel
theorem dX9_proof_53 : decode cX9_proof 53 = .ok (.iconst 0, 1) := by decide +kernel
theorem dX9_proof_54 : decode cX9_proof 54 = .ok (.istore 6, 2) := by decide +kernel
theorem dX9_proof_56 : decode cX9_proof 56 = .ok (.aload_n 0, 1) := by decide +kernel
theorem dX9_proof_57 : decode cX9_proof 57 = .ok (.getfield 87, 3) := by decide +kernel
theorem dX9_proof_60 : decode cX9_proof 60 = .ok (.iload_n 3, 1) := by decide +kernel
theorem dX9_proof_61 : decode cX9_proof 61 = .ok (.iaload, 1) := by decide +kernel
theorem dX9_proof_62 : decode cX9_proof 62 = .ok (.istore 7, 2) := by decide +kernel
theorem dX9_proof_64 : decode cX9_proof 64 = .ok (.iload 7, 2) := by decide +kernel
theorem dX9_proof_66 : decode cX9_proof 66 = .ok (.iconst (-1), 1) := by decide +kernel
theorem dX9_proof_67 : decode cX9_proof 67 = .ok (.if_icmp .eq 109, 3) := by decide +kernel
theorem dX9_proof_70 : decode cX9_proof 70 = .ok (.aload_n 0, 1) := by decide +kernel
theorem dX9_proof_71 : decode cX9_proof 71 = .ok (.getfield 84, 3) := by decide +kernel
theorem dX9_proof_74 : decode cX9_proof 74 = .ok (.iload 6, 2) := by decide +kernel
theorem dX9_proof_76 : decode cX9_proof 76 = .ok (.iload 7, 2) := by decide +kernel
theorem dX9_proof_78 : decode cX9_proof 78 = .ok (.iastore, 1) := by decide +kernel
theorem dX9_proof_79 : decode cX9_proof 79 = .ok (.iinc 6 1, 3) := by decide +kernel
theorem dX9_proof_82 : decode cX9_proof 82 = .ok (.aload_n 0, 1) := by decide +kernel
theorem dX9_proof_83 : decode cX9_proof 83 = .ok (.iload_n 1, 1) := by decide +kernel
theorem dX9_proof_84 : decode cX9_proof 84 = .ok (.iload 5, 2) := by decide +kernel
theorem dX9_proof_86 : decode cX9_proof 86 = .ok (.invokevirtual 209, 3) := by decide +kernel
theorem dX9_proof_89 : decode cX9_proof 89 = .ok (.istore 8, 2) := by decide +kernel
theorem dX9_proof_91 : decode cX9_proof 91 = .ok (.iconst (-1), 1) := by decide +kernel
theorem dX9_proof_92 : decode cX9_proof 92 = .ok (.istore 9, 2) := by decide +kernel
theorem dX9_proof_94 : decode cX9_proof 94 = .ok (.iconst 0, 1) := by decide +kernel
theorem dX9_proof_95 : decode cX9_proof 95 = .ok (.istore 10, 2) := by decide +kernel
theorem dX9_proof_97 : decode cX9_proof 97 = .ok (.iload 10, 2) := by decide +kernel
theorem dX9_proof_99 : decode cX9_proof 99 = .ok (.aload_n 0, 1) := by decide +kernel
theorem dX9_proof_100 : decode cX9_proof 100 = .ok (.getfield 105, 3) := by decide +kernel
theorem dX9_proof_103 : decode cX9_proof 103 = .ok (.if_icmp .ge 62, 3) := by decide +kernel
theorem dX9_proof_106 : decode cX9_proof 106 = .ok (.iload 8, 2) := by decide +kernel
theorem dX9_proof_108 : decode cX9_proof 108 = .ok (.ifCond .lt 57, 3) := by decide +kernel
theorem dX9_proof_111 : decode cX9_proof 111 = .ok (.aload_n 0, 1) := by decide +kernel
theorem dX9_proof_112 : decode cX9_proof 112 = .ok (.getfield 81, 3) := by decide +kernel
theorem dX9_proof_115 : decode cX9_proof 115 = .ok (.sipush 250, 3) := by decide +kernel
theorem dX9_proof_118 : decode cX9_proof 118 = .ok (.iload 8, 2) := by decide +kernel
theorem dX9_proof_120 : decode cX9_proof 120 = .ok (.imul, 1) := by decide +kernel
theorem dX9_proof_121 : decode cX9_proof 121 = .ok (.iload 10, 2) := by decide +kernel
theorem dX9_proof_123 : decode cX9_proof 123 = .ok (.iadd, 1) := by decide +kernel
theorem dX9_proof_124 : decode cX9_proof 124 = .ok (.baload, 1) := by decide +kernel
theorem dX9_proof_125 : decode cX9_proof 125 = .ok (.ifCond .eq 34, 3) := by decide +kernel
theorem dX9_proof_128 : decode cX9_proof 128 = .ok (.aload_n 0, 1) := by decide +kernel
theorem dX9_proof_129 : decode cX9_proof 129 = .ok (.iload_n 1, 1) := by decide +kernel
theorem dX9_proof_130 : decode cX9_proof 130 = .ok (.iload 8, 2) := by decide +kernel
theorem dX9_proof_132 : decode cX9_proof 132 = .ok (.iload 10, 2) := by decide +kernel
theorem dX9_proof_134 : decode cX9_proof 134 = .ok (.iload 5, 2) := by decide +kernel
theorem dX9_proof_136 : decode cX9_proof 136 = .ok (.iload 7, 2) := by decide +kernel
theorem dX9_proof_138 : decode cX9_proof 138 = .ok (.invokevirtual 219, 3) := by decide +kernel
theorem dX9_proof_141 : decode cX9_proof 141 = .ok (.ifCond .eq 18, 3) := by decide +kernel
theorem dX9_proof_144 : decode cX9_proof 144 = .ok (.aload_n 0, 1) := by decide +kernel
theorem dX9_proof_145 : decode cX9_proof 145 = .ok (.iload 10, 2) := by decide +kernel
theorem dX9_proof_147 : decode cX9_proof 147 = .ok (.iload 9, 2) := by decide +kernel
theorem dX9_proof_149 : decode cX9_proof 149 = .ok (.invokevirtual 240, 3) := by decide +kernel
theorem dX9_proof_152 : decode cX9_proof 152 = .ok (.ifCond .eq 7, 3) := by decide +kernel
theorem dX9_proof_155 : decode cX9_proof 155 = .ok (.iload 10, 2) := by decide +kernel
theorem dX9_proof_157 : decode cX9_proof 157 = .ok (.istore 9, 2) := by decide +kernel
theorem dX9_proof_159 : decode cX9_proof 159 = .ok (.iinc 10 1, 3) := by decide +kernel
theorem dX9_proof_162 : decode cX9_proof 162 = .ok (.goto (-65), 3) := by decide +kernel
theorem dX9_proof_165 : decode cX9_proof 165 = .ok (.iload 9, 2) := by decide +kernel
theorem dX9_proof_167 : decode cX9_proof 167 = .ok (.istore 7, 2) := by decide +kernel
theorem dX9_proof_169 : decode cX9_proof 169 = .ok (.iload 8, 2) := by decide +kernel
theorem dX9_proof_171 : decode cX9_proof 171 = .ok (.istore 5, 2) := by decide +kernel
theorem dX9_proof_173 : decode cX9_proof 173 = .ok (.goto (-109), 3) := by decide +kernel
theorem dX9_proof_176 : decode cX9_proof 176 = .ok (.iload 4, 2) := by decide +kernel
theorem dX9_proof_178 : decode cX9_proof 178 = .ok (.ifCond .lt 25, 3) := by decide +kernel
theorem dX9_proof_181 : decode cX9_proof 181 = .ok (.iload 4, 2) := by decide +kernel
theorem dX9_proof_183 : decode cX9_proof 183 = .ok (.iload 6, 2) := by decide +kernel
theorem dX9_proof_185 : decode cX9_proof 185 = .ok (.if_icmp .ge 18, 3) := by decide +kernel
theorem dX9_proof_188 : decode cX9_proof 188 = .ok (.aload_n 0, 1) := by decide +kernel
theorem dX9_proof_189 : decode cX9_proof 189 = .ok (.getfield 84, 3) := by decide +kernel
theorem dX9_proof_192 : decode cX9_proof 192 = .ok (.iload 6, 2) := by decide +kernel
theorem dX9_proof_194 : decode cX9_proof 194 = .ok (.iconst 1, 1) := by decide +kernel
theorem dX9_proof_195 : decode cX9_proof 195 = .ok (.isub, 1) := by decide +kernel
theorem dX9_proof_196 : decode cX9_proof 196 = .ok (.iload 4, 2) := by decide +kernel
theorem dX9_proof_198 : decode cX9_proof 198 = .ok (.isub, 1) := by decide +kernel
theorem dX9_proof_199 : decode cX9_proof 199 = .ok (.iaload, 1) := by decide +kernel
theorem dX9_proof_200 : decode cX9_proof 200 = .ok (.goto 4, 3) := by decide +kernel
theorem dX9_proof_203 : decode cX9_proof 203 = .ok (.iconst (-1), 1) := by decide +kernel
theorem dX9_proof_204 : decode cX9_proof 204 = .ok (.ireturn, 1) := by decide +kernel
theorem dX9_spared_0 : decode cX9_spared 0 = .ok (.aload_n 0, 1) := by decide +kernel
theorem dX9_spared_1 : decode cX9_spared 1 = .ok (.aload_n 0, 1) := by decide +kernel
theorem dX9_spared_2 : decode cX9_spared 2 = .ok (.iload_n 1, 1) := by decide +kernel
theorem dX9_spared_3 : decode cX9_spared 3 = .ok (.invokevirtual 233, 3) := by decide +kernel
theorem dX9_spared_6 : decode cX9_spared 6 = .ok (.ifCond .ne 7, 3) := by decide +kernel
theorem dX9_spared_9 : decode cX9_spared 9 = .ok (.iconst 1, 1) := by decide +kernel
theorem dX9_spared_10 : decode cX9_spared 10 = .ok (.goto 4, 3) := by decide +kernel
theorem dX9_spared_13 : decode cX9_spared 13 = .ok (.iconst 0, 1) := by decide +kernel
theorem dX9_spared_14 : decode cX9_spared 14 = .ok (.putfield 99, 3) := by decide +kernel
theorem dX9_spared_17 : decode cX9_spared 17 = .ok (.aload_n 0, 1) := by decide +kernel
theorem dX9_spared_18 : decode cX9_spared 18 = .ok (.getfield 99, 3) := by decide +kernel
theorem dX9_spared_21 : decode cX9_spared 21 = .ok (.ifCond .le 5, 3) := by decide +kernel
theorem dX9_spared_24 : decode cX9_spared 24 = .ok (.iconst 0, 1) := by decide +kernel
theorem dX9_spared_25 : decode cX9_spared 25 = .ok (.ireturn, 1) := by decide +kernel
theorem dX9_spared_26 : decode cX9_spared 26 = .ok (.aload_n 0, 1) := by decide +kernel
theorem dX9_spared_27 : decode cX9_spared 27 = .ok (.iload_n 1, 1) := by decide +kernel
theorem dX9_spared_28 : decode cX9_spared 28 = .ok (.iload_n 2, 1) := by decide +kernel
theorem dX9_spared_29 : decode cX9_spared 29 = .ok (.invokevirtual 236, 3) := by decide +kernel
theorem dX9_spared_32 : decode cX9_spared 32 = .ok (.iconst 0, 1) := by decide +kernel
theorem dX9_spared_33 : decode cX9_spared 33 = .ok (.istore_n 3, 1) := by decide +kernel
theorem dX9_spared_34 : decode cX9_spared 34 = .ok (.iconst 0, 1) := by decide +kernel
theorem dX9_spared_35 : decode cX9_spared 35 = .ok (.istore 4, 2) := by decide +kernel
theorem dX9_spared_37 : decode cX9_spared 37 = .ok (.iload 4, 2) := by decide +kernel
theorem dX9_spared_39 : decode cX9_spared 39 = .ok (.aload_n 0, 1) := by decide +kernel
theorem dX9_spared_40 : decode cX9_spared 40 = .ok (.getfield 212, 3) := by decide +kernel
theorem dX9_spared_43 : decode cX9_spared 43 = .ok (.if_icmp .ge 32, 3) := by decide +kernel
theorem dX9_spared_46 : decode cX9_spared 46 = .ok (.iload_n 3, 1) := by decide +kernel
theorem dX9_spared_47 : decode cX9_spared 47 = .ok (.aload_n 0, 1) := by decide +kernel
theorem dX9_spared_48 : decode cX9_spared 48 = .ok (.iload_n 1, 1) := by decide +kernel
theorem dX9_spared_49 : decode cX9_spared 49 = .ok (.aload_n 0, 1) := by decide +kernel
theorem dX9_spared_50 : decode cX9_spared 50 = .ok (.getfield 87, 3) := by decide +kernel
theorem dX9_spared_53 : decode cX9_spared 53 = .ok (.iload 4, 2) := by decide +kernel
theorem dX9_spared_55 : decode cX9_spared 55 = .ok (.iaload, 1) := by decide +kernel
theorem dX9_spared_56 : decode cX9_spared 56 = .ok (.invokevirtual 246, 3) := by decide +kernel
theorem dX9_spared_59 : decode cX9_spared 59 = .ok (.ifCond .eq 7, 3) := by decide +kernel
theorem dX9_spared_62 : decode cX9_spared 62 = .ok (.iconst 1, 1) := by decide +kernel
theorem dX9_spared_63 : decode cX9_spared 63 = .ok (.goto 4, 3) := by decide +kernel
theorem dX9_spared_66 : decode cX9_spared 66 = .ok (.iconst 0, 1) := by decide +kernel
theorem dX9_spared_67 : decode cX9_spared 67 = .ok (.iadd, 1) := by decide +kernel
theorem dX9_spared_68 : decode cX9_spared 68 = .ok (.istore_n 3, 1) := by decide +kernel
theorem dX9_spared_69 : decode cX9_spared 69 = .ok (.iinc 4 1, 3) := by decide +kernel
theorem dX9_spared_72 : decode cX9_spared 72 = .ok (.goto (-35), 3) := by decide +kernel
theorem dX9_spared_75 : decode cX9_spared 75 = .ok (.iload_n 3, 1) := by decide +kernel
theorem dX9_spared_76 : decode cX9_spared 76 = .ok (.ireturn, 1) := by decide +kernel
theorem dX9_meet_0 : decode cX9_meet 0 = .ok (.aload_n 0, 1) := by decide +kernel
theorem dX9_meet_1 : decode cX9_meet 1 = .ok (.getfield 23, 3) := by decide +kernel
theorem dX9_meet_4 : decode cX9_meet 4 = .ok (.iload_n 1, 1) := by decide +kernel
theorem dX9_meet_5 : decode cX9_meet 5 = .ok (.iaload, 1) := by decide +kernel
theorem dX9_meet_6 : decode cX9_meet 6 = .ok (.aload_n 0, 1) := by decide +kernel
theorem dX9_meet_7 : decode cX9_meet 7 = .ok (.getfield 23, 3) := by decide +kernel
theorem dX9_meet_10 : decode cX9_meet 10 = .ok (.iload_n 2, 1) := by decide +kernel
theorem dX9_meet_11 : decode cX9_meet 11 = .ok (.iaload, 1) := by decide +kernel
theorem dX9_meet_12 : decode cX9_meet 12 = .ok (.if_icmp .le 19, 3) := by decide +kernel
theorem dX9_meet_15 : decode cX9_meet 15 = .ok (.aload_n 0, 1) := by decide +kernel
theorem dX9_meet_16 : decode cX9_meet 16 = .ok (.getfield 23, 3) := by decide +kernel
theorem dX9_meet_19 : decode cX9_meet 19 = .ok (.iload_n 1, 1) := by decide +kernel
theorem dX9_meet_20 : decode cX9_meet 20 = .ok (.iaload, 1) := by decide +kernel
theorem dX9_meet_21 : decode cX9_meet 21 = .ok (.aload_n 0, 1) := by decide +kernel
theorem dX9_meet_22 : decode cX9_meet 22 = .ok (.getfield 23, 3) := by decide +kernel
theorem dX9_meet_25 : decode cX9_meet 25 = .ok (.iload_n 2, 1) := by decide +kernel
theorem dX9_meet_26 : decode cX9_meet 26 = .ok (.iaload, 1) := by decide +kernel
theorem dX9_meet_27 : decode cX9_meet 27 = .ok (.isub, 1) := by decide +kernel
theorem dX9_meet_28 : decode cX9_meet 28 = .ok (.goto 16, 3) := by decide +kernel
theorem dX9_meet_31 : decode cX9_meet 31 = .ok (.aload_n 0, 1) := by decide +kernel
theorem dX9_meet_32 : decode cX9_meet 32 = .ok (.getfield 23, 3) := by decide +kernel
theorem dX9_meet_35 : decode cX9_meet 35 = .ok (.iload_n 2, 1) := by decide +kernel
theorem dX9_meet_36 : decode cX9_meet 36 = .ok (.iaload, 1) := by decide +kernel
theorem dX9_meet_37 : decode cX9_meet 37 = .ok (.aload_n 0, 1) := by decide +kernel
theorem dX9_meet_38 : decode cX9_meet 38 = .ok (.getfield 23, 3) := by decide +kernel
theorem dX9_meet_41 : decode cX9_meet 41 = .ok (.iload_n 1, 1) := by decide +kernel
theorem dX9_meet_42 : decode cX9_meet 42 = .ok (.iaload, 1) := by decide +kernel
theorem dX9_meet_43 : decode cX9_meet 43 = .ok (.isub, 1) := by decide +kernel
theorem dX9_meet_44 : decode cX9_meet 44 = .ok (.istore_n 3, 1) := by decide +kernel
theorem dX9_meet_45 : decode cX9_meet 45 = .ok (.iload_n 3, 1) := by decide +kernel
theorem dX9_meet_46 : decode cX9_meet 46 = .ok (.aload_n 0, 1) := by decide +kernel
theorem dX9_meet_47 : decode cX9_meet 47 = .ok (.getfield 7, 3) := by decide +kernel
theorem dX9_meet_50 : decode cX9_meet 50 = .ok (.if_icmp .gt 49, 3) := by decide +kernel
theorem dX9_meet_53 : decode cX9_meet 53 = .ok (.aload_n 0, 1) := by decide +kernel
theorem dX9_meet_54 : decode cX9_meet 54 = .ok (.getfield 20, 3) := by decide +kernel
theorem dX9_meet_57 : decode cX9_meet 57 = .ok (.iconst 3, 1) := by decide +kernel
theorem dX9_meet_58 : decode cX9_meet 58 = .ok (.iload_n 1, 1) := by decide +kernel
theorem dX9_meet_59 : decode cX9_meet 59 = .ok (.imul, 1) := by decide +kernel
theorem dX9_meet_60 : decode cX9_meet 60 = .ok (.iaload, 1) := by decide +kernel
theorem dX9_meet_61 : decode cX9_meet 61 = .ok (.aload_n 0, 1) := by decide +kernel
theorem dX9_meet_62 : decode cX9_meet 62 = .ok (.getfield 20, 3) := by decide +kernel
theorem dX9_meet_65 : decode cX9_meet 65 = .ok (.iconst 3, 1) := by decide +kernel
theorem dX9_meet_66 : decode cX9_meet 66 = .ok (.iload_n 2, 1) := by decide +kernel
theorem dX9_meet_67 : decode cX9_meet 67 = .ok (.imul, 1) := by decide +kernel
theorem dX9_meet_68 : decode cX9_meet 68 = .ok (.iaload, 1) := by decide +kernel
theorem dX9_meet_69 : decode cX9_meet 69 = .ok (.if_icmp .eq 26, 3) := by decide +kernel
theorem dX9_meet_72 : decode cX9_meet 72 = .ok (.aload_n 0, 1) := by decide +kernel
theorem dX9_meet_73 : decode cX9_meet 73 = .ok (.getfield 20, 3) := by decide +kernel
theorem dX9_meet_76 : decode cX9_meet 76 = .ok (.iconst 3, 1) := by decide +kernel
theorem dX9_meet_77 : decode cX9_meet 77 = .ok (.iload_n 1, 1) := by decide +kernel
theorem dX9_meet_78 : decode cX9_meet 78 = .ok (.imul, 1) := by decide +kernel
theorem dX9_meet_79 : decode cX9_meet 79 = .ok (.iconst 2, 1) := by decide +kernel
theorem dX9_meet_80 : decode cX9_meet 80 = .ok (.iadd, 1) := by decide +kernel
theorem dX9_meet_81 : decode cX9_meet 81 = .ok (.iaload, 1) := by decide +kernel
theorem dX9_meet_82 : decode cX9_meet 82 = .ok (.aload_n 0, 1) := by decide +kernel
theorem dX9_meet_83 : decode cX9_meet 83 = .ok (.getfield 20, 3) := by decide +kernel
theorem dX9_meet_86 : decode cX9_meet 86 = .ok (.iconst 3, 1) := by decide +kernel
theorem dX9_meet_87 : decode cX9_meet 87 = .ok (.iload_n 2, 1) := by decide +kernel
theorem dX9_meet_88 : decode cX9_meet 88 = .ok (.imul, 1) := by decide +kernel
theorem dX9_meet_89 : decode cX9_meet 89 = .ok (.iconst 2, 1) := by decide +kernel
theorem dX9_meet_90 : decode cX9_meet 90 = .ok (.iadd, 1) := by decide +kernel
theorem dX9_meet_91 : decode cX9_meet 91 = .ok (.iaload, 1) := by decide +kernel
theorem dX9_meet_92 : decode cX9_meet 92 = .ok (.if_icmp .ne 7, 3) := by decide +kernel
theorem dX9_meet_95 : decode cX9_meet 95 = .ok (.iconst 1, 1) := by decide +kernel
theorem dX9_meet_96 : decode cX9_meet 96 = .ok (.goto 4, 3) := by decide +kernel
theorem dX9_meet_99 : decode cX9_meet 99 = .ok (.iconst 0, 1) := by decide +kernel
theorem dX9_meet_100 : decode cX9_meet 100 = .ok (.ireturn, 1) := by decide +kernel
theorem dX9_widest_0 : decode cX9_widest 0 = .ok (.aload_n 0, 1) := by decide +kernel
theorem dX9_widest_1 : decode cX9_widest 1 = .ok (.aload_n 0, 1) := by decide +kernel
theorem dX9_widest_2 : decode cX9_widest 2 = .ok (.iload_n 1, 1) := by decide +kernel
theorem dX9_widest_3 : decode cX9_widest 3 = .ok (.invokevirtual 233, 3) := by decide +kernel
theorem dX9_widest_6 : decode cX9_widest 6 = .ok (.ifCond .ne 7, 3) := by decide +kernel
theorem dX9_widest_9 : decode cX9_widest 9 = .ok (.iconst 1, 1) := by decide +kernel
theorem dX9_widest_10 : decode cX9_widest 10 = .ok (.goto 4, 3) := by decide +kernel
theorem dX9_widest_13 : decode cX9_widest 13 = .ok (.iconst 0, 1) := by decide +kernel
theorem dX9_widest_14 : decode cX9_widest 14 = .ok (.putfield 99, 3) := by decide +kernel
theorem dX9_widest_17 : decode cX9_widest 17 = .ok (.aload_n 0, 1) := by decide +kernel
theorem dX9_widest_18 : decode cX9_widest 18 = .ok (.getfield 99, 3) := by decide +kernel
theorem dX9_widest_21 : decode cX9_widest 21 = .ok (.ifCond .le 5, 3) := by decide +kernel
theorem dX9_widest_24 : decode cX9_widest 24 = .ok (.iconst 0, 1) := by decide +kernel
theorem dX9_widest_25 : decode cX9_widest 25 = .ok (.ireturn, 1) := by decide +kernel
theorem dX9_widest_26 : decode cX9_widest 26 = .ok (.aload_n 0, 1) := by decide +kernel
theorem dX9_widest_27 : decode cX9_widest 27 = .ok (.iload_n 1, 1) := by decide +kernel
theorem dX9_widest_28 : decode cX9_widest 28 = .ok (.iload_n 2, 1) := by decide +kernel
theorem dX9_widest_29 : decode cX9_widest 29 = .ok (.invokevirtual 236, 3) := by decide +kernel
theorem dX9_widest_32 : decode cX9_widest 32 = .ok (.iconst (-1), 1) := by decide +kernel
theorem dX9_widest_33 : decode cX9_widest 33 = .ok (.istore_n 3, 1) := by decide +kernel
theorem dX9_widest_34 : decode cX9_widest 34 = .ok (.iconst 0, 1) := by decide +kernel
theorem dX9_widest_35 : decode cX9_widest 35 = .ok (.istore 4, 2) := by decide +kernel
theorem dX9_widest_37 : decode cX9_widest 37 = .ok (.iconst 0, 1) := by decide +kernel
theorem dX9_widest_38 : decode cX9_widest 38 = .ok (.istore 5, 2) := by decide +kernel
theorem dX9_widest_40 : decode cX9_widest 40 = .ok (.iload 5, 2) := by decide +kernel
theorem dX9_widest_42 : decode cX9_widest 42 = .ok (.iconst 3, 1) := by decide +kernel
theorem dX9_widest_43 : decode cX9_widest 43 = .ok (.if_icmp .ge 96, 3) := by decide +kernel
theorem dX9_widest_46 : decode cX9_widest 46 = .ok (.iconst 0, 1) := by decide +kernel
theorem dX9_widest_47 : decode cX9_widest 47 = .ok (.istore 6, 2) := by decide +kernel
theorem dX9_widest_49 : decode cX9_widest 49 = .ok (.iconst 0, 1) := by decide +kernel
theorem dX9_widest_50 : decode cX9_widest 50 = .ok (.istore 7, 2) := by decide +kernel
theorem dX9_widest_52 : decode cX9_widest 52 = .ok (.iconst 0, 1) := by decide +kernel
theorem dX9_widest_53 : decode cX9_widest 53 = .ok (.istore 8, 2) := by decide +kernel
theorem dX9_widest_55 : decode cX9_widest 55 = .ok (.iload 8, 2) := by decide +kernel
theorem dX9_widest_57 : decode cX9_widest 57 = .ok (.aload_n 0, 1) := by decide +kernel
theorem dX9_widest_58 : decode cX9_widest 58 = .ok (.getfield 212, 3) := by decide +kernel
theorem dX9_widest_61 : decode cX9_widest 61 = .ok (.if_icmp .ge 55, 3) := by decide +kernel
theorem dX9_widest_64 : decode cX9_widest 64 = .ok (.iconst 1, 1) := by decide +kernel
theorem dX9_widest_65 : decode cX9_widest 65 = .ok (.aload_n 0, 1) := by decide +kernel
theorem dX9_widest_66 : decode cX9_widest 66 = .ok (.getfield 20, 3) := by decide +kernel
theorem dX9_widest_69 : decode cX9_widest 69 = .ok (.iconst 3, 1) := by decide +kernel
theorem dX9_widest_70 : decode cX9_widest 70 = .ok (.aload_n 0, 1) := by decide +kernel
theorem dX9_widest_71 : decode cX9_widest 71 = .ok (.getfield 87, 3) := by decide +kernel
theorem dX9_widest_74 : decode cX9_widest 74 = .ok (.iload 8, 2) := by decide +kernel
theorem dX9_widest_76 : decode cX9_widest 76 = .ok (.iaload, 1) := by decide +kernel
theorem dX9_widest_77 : decode cX9_widest 77 = .ok (.imul, 1) := by decide +kernel
theorem dX9_widest_78 : decode cX9_widest 78 = .ok (.iload 5, 2) := by decide +kernel
theorem dX9_widest_80 : decode cX9_widest 80 = .ok (.iadd, 1) := by decide +kernel
theorem dX9_widest_81 : decode cX9_widest 81 = .ok (.iaload, 1) := by decide +kernel
theorem dX9_widest_82 : decode cX9_widest 82 = .ok (.ishl, 1) := by decide +kernel
theorem dX9_widest_83 : decode cX9_widest 83 = .ok (.istore 9, 2) := by decide +kernel
theorem dX9_widest_85 : decode cX9_widest 85 = .ok (.iload 7, 2) := by decide +kernel
theorem dX9_widest_87 : decode cX9_widest 87 = .ok (.iload 6, 2) := by decide +kernel
theorem dX9_widest_89 : decode cX9_widest 89 = .ok (.iload 9, 2) := by decide +kernel
theorem dX9_widest_91 : decode cX9_widest 91 = .ok (.iand, 1) := by decide +kernel
theorem dX9_widest_92 : decode cX9_widest 92 = .ok (.ifCond .ne 7, 3) := by decide +kernel
theorem dX9_widest_95 : decode cX9_widest 95 = .ok (.iconst 1, 1) := by decide +kernel
theorem dX9_widest_96 : decode cX9_widest 96 = .ok (.goto 4, 3) := by decide +kernel
theorem dX9_widest_99 : decode cX9_widest 99 = .ok (.iconst 0, 1) := by decide +kernel
theorem dX9_widest_100 : decode cX9_widest 100 = .ok (.iadd, 1) := by decide +kernel
theorem dX9_widest_101 : decode cX9_widest 101 = .ok (.istore 7, 2) := by decide +kernel
theorem dX9_widest_103 : decode cX9_widest 103 = .ok (.iload 6, 2) := by decide +kernel
theorem dX9_widest_105 : decode cX9_widest 105 = .ok (.iload 9, 2) := by decide +kernel
theorem dX9_widest_107 : decode cX9_widest 107 = .ok (.ior, 1) := by decide +kernel
theorem dX9_widest_108 : decode cX9_widest 108 = .ok (.istore 6, 2) := by decide +kernel
theorem dX9_widest_110 : decode cX9_widest 110 = .ok (.iinc 8 1, 3) := by decide +kernel
theorem dX9_widest_113 : decode cX9_widest 113 = .ok (.goto (-58), 3) := by decide +kernel
theorem dX9_widest_116 : decode cX9_widest 116 = .ok (.iload 7, 2) := by decide +kernel
theorem dX9_widest_118 : decode cX9_widest 118 = .ok (.iload 4, 2) := by decide +kernel
theorem dX9_widest_120 : decode cX9_widest 120 = .ok (.if_icmp .gt 6, 3) := by decide +kernel
theorem dX9_widest_123 : decode cX9_widest 123 = .ok (.goto 10, 3) := by decide +kernel
theorem dX9_widest_126 : decode cX9_widest 126 = .ok (.iload 5, 2) := by decide +kernel
theorem dX9_widest_128 : decode cX9_widest 128 = .ok (.istore_n 3, 1) := by decide +kernel
theorem dX9_widest_129 : decode cX9_widest 129 = .ok (.iload 7, 2) := by decide +kernel
theorem dX9_widest_131 : decode cX9_widest 131 = .ok (.istore 4, 2) := by decide +kernel
theorem dX9_widest_133 : decode cX9_widest 133 = .ok (.iinc 5 1, 3) := by decide +kernel
theorem dX9_widest_136 : decode cX9_widest 136 = .ok (.goto (-96), 3) := by decide +kernel
theorem dX9_widest_139 : decode cX9_widest 139 = .ok (.iload_n 3, 1) := by decide +kernel
theorem dX9_widest_140 : decode cX9_widest 140 = .ok (.ireturn, 1) := by decide +kernel
