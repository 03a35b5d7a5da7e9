theorem dX4_init_0 : decode cX4_init 0 = .ok (.aload_n 0, 1) := by decide +kernel
theorem dX4_init_1 : decode cX4_init 1 = .ok (.invokespecial 3, 3) := by decide +kernel
theorem dX4_init_4 : decode cX4_init 4 = .ok (.aload_n 0, 1) := by decide +kernel
theorem dX4_init_5 : decode cX4_init 5 = .ok (.aload_n 1, 1) := by decide +kernel
theorem dX4_init_6 : decode cX4_init 6 = .ok (.putfield 9, 3) := by decide +kernel
theorem dX4_init_9 : decode cX4_init 9 = .ok (.return_, 1) := by decide +kernel
theorem dX4_reads_0 : decode cX4_reads 0 = .ok (.aload_n 0, 1) := by decide +kernel
theorem dX4_reads_1 : decode cX4_reads 1 = .ok (.aload_n 1, 1) := by decide +kernel
theorem dX4_reads_2 : decode cX4_reads 2 = .ok (.invokevirtual 15, 3) := by decide +kernel
theorem dX4_reads_5 : decode cX4_reads 5 = .ok (.ifCond .ne 5, 3) := by decide +kernel
theorem dX4_reads_8 : decode cX4_reads 8 = .ok (.iconst 0, 1) := by decide +kernel
theorem dX4_reads_9 : decode cX4_reads 9 = .ok (.ireturn, 1) := by decide +kernel
theorem dX4_reads_10 : decode cX4_reads 10 = .ok (.iconst 0, 1) := by decide +kernel
theorem dX4_reads_11 : decode cX4_reads 11 = .ok (.istore_n 2, 1) := by decide +kernel
theorem dX4_reads_12 : decode cX4_reads 12 = .ok (.iload_n 2, 1) := by decide +kernel
theorem dX4_reads_13 : decode cX4_reads 13 = .ok (.bipush 6, 2) := by decide +kernel
theorem dX4_reads_15 : decode cX4_reads 15 = .ok (.if_icmp .gt 143, 3) := by decide +kernel
theorem dX4_reads_18 : decode cX4_reads 18 = .ok (.iload_n 2, 1) := by decide +kernel
theorem dX4_reads_19 : decode cX4_reads 19 = .ok (.ifCond .le 23, 3) := by decide +kernel
theorem dX4_reads_22 : decode cX4_reads 22 = .ok (.aload_n 0, 1) := by decide +kernel
theorem dX4_reads_23 : decode cX4_reads 23 = .ok (.getfield 19, 3) := by decide +kernel
theorem dX4_reads_26 : decode cX4_reads 26 = .ok (.ifCond .ne 16, 3) := by decide +kernel
theorem dX4_reads_29 : decode cX4_reads 29 = .ok (.aload_n 0, 1) := by decide +kernel
theorem dX4_reads_30 : decode cX4_reads 30 = .ok (.getfield 23, 3) := by decide +kernel
theorem dX4_reads_33 : decode cX4_reads 33 = .ok (.ifCond .ne 7, 3) := by decide +kernel
theorem dX4_reads_36 : decode cX4_reads 36 = .ok (.iconst 1, 1) := by decide +kernel
theorem dX4_reads_37 : decode cX4_reads 37 = .ok (.goto 4, 3) := by decide +kernel
theorem dX4_reads_40 : decode cX4_reads 40 = .ok (.iconst 0, 1) := by decide +kernel
theorem dX4_reads_41 : decode cX4_reads 41 = .ok (.ireturn, 1) := by decide +kernel
theorem dX4_reads_42 : decode cX4_reads 42 = .ok (.aload_n 0, 1) := by decide +kernel
theorem dX4_reads_43 : decode cX4_reads 43 = .ok (.getfield 19, 3) := by decide +kernel
theorem dX4_reads_46 : decode cX4_reads 46 = .ok (.iconst 3, 1) := by decide +kernel
theorem dX4_reads_47 : decode cX4_reads 47 = .ok (.if_icmp .eq 5, 3) := by decide +kernel
theorem dX4_reads_50 : decode cX4_reads 50 = .ok (.iconst 0, 1) := by decide +kernel
theorem dX4_reads_51 : decode cX4_reads 51 = .ok (.ireturn, 1) := by decide +kernel
theorem dX4_reads_52 : decode cX4_reads 52 = .ok (.aload_n 0, 1) := by decide +kernel
theorem dX4_reads_53 : decode cX4_reads 53 = .ok (.getfield 27, 3) := by decide +kernel
theorem dX4_reads_56 : decode cX4_reads 56 = .ok (.istore_n 3, 1) := by decide +kernel
theorem dX4_reads_57 : decode cX4_reads 57 = .ok (.aload_n 0, 1) := by decide +kernel
theorem dX4_reads_58 : decode cX4_reads 58 = .ok (.invokevirtual 30, 3) := by decide +kernel
theorem dX4_reads_61 : decode cX4_reads 61 = .ok (.iload_n 2, 1) := by decide +kernel
theorem dX4_reads_62 : decode cX4_reads 62 = .ok (.ifCond .le 33, 3) := by decide +kernel
theorem dX4_reads_65 : decode cX4_reads 65 = .ok (.aload_n 0, 1) := by decide +kernel
theorem dX4_reads_66 : decode cX4_reads 66 = .ok (.ldc 33, 2) := by decide +kernel
theorem dX4_reads_68 : decode cX4_reads 68 = .ok (.invokevirtual 35, 3) := by decide +kernel
theorem dX4_reads_71 : decode cX4_reads 71 = .ok (.ifCond .eq 24, 3) := by decide +kernel
theorem dX4_reads_74 : decode cX4_reads 74 = .ok (.aload_n 0, 1) := by decide +kernel
theorem dX4_reads_75 : decode cX4_reads 75 = .ok (.getfield 23, 3) := by decide +kernel
theorem dX4_reads_78 : decode cX4_reads 78 = .ok (.ifCond .ne 15, 3) := by decide +kernel
theorem dX4_reads_81 : decode cX4_reads 81 = .ok (.aload_n 0, 1) := by decide +kernel
theorem dX4_reads_82 : decode cX4_reads 82 = .ok (.aload_n 1, 1) := by decide +kernel
theorem dX4_reads_83 : decode cX4_reads 83 = .ok (.invokevirtual 39, 3) := by decide +kernel
theorem dX4_reads_86 : decode cX4_reads 86 = .ok (.ifCond .eq 7, 3) := by decide +kernel
theorem dX4_reads_89 : decode cX4_reads 89 = .ok (.iconst 1, 1) := by decide +kernel
theorem dX4_reads_90 : decode cX4_reads 90 = .ok (.goto 4, 3) := by decide +kernel
theorem dX4_reads_93 : decode cX4_reads 93 = .ok (.iconst 0, 1) := by decide +kernel
theorem dX4_reads_94 : decode cX4_reads 94 = .ok (.ireturn, 1) := by decide +kernel
theorem dX4_reads_95 : decode cX4_reads 95 = .ok (.iload_n 2, 1) := by decide +kernel
theorem dX4_reads_96 : decode cX4_reads 96 = .ok (.bipush 6, 2) := by decide +kernel
theorem dX4_reads_98 : decode cX4_reads 98 = .ok (.if_icmp .ne 35, 3) := by decide +kernel
theorem dX4_reads_101 : decode cX4_reads 101 = .ok (.aload_n 0, 1) := by decide +kernel
theorem dX4_reads_102 : decode cX4_reads 102 = .ok (.aload_n 0, 1) := by decide +kernel
theorem dX4_reads_103 : decode cX4_reads 103 = .ok (.ldc 42, 2) := by decide +kernel
theorem dX4_reads_105 : decode cX4_reads 105 = .ok (.invokevirtual 35, 3) := by decide +kernel
theorem dX4_reads_108 : decode cX4_reads 108 = .ok (.ifCond .ne 12, 3) := by decide +kernel
theorem dX4_reads_111 : decode cX4_reads 111 = .ok (.aload_n 0, 1) := by decide +kernel
theorem dX4_reads_112 : decode cX4_reads 112 = .ok (.ldc 44, 2) := by decide +kernel
theorem dX4_reads_114 : decode cX4_reads 114 = .ok (.invokevirtual 35, 3) := by decide +kernel
theorem dX4_reads_117 : decode cX4_reads 117 = .ok (.ifCond .eq 7, 3) := by decide +kernel
theorem dX4_reads_120 : decode cX4_reads 120 = .ok (.iload_n 3, 1) := by decide +kernel
theorem dX4_reads_121 : decode cX4_reads 121 = .ok (.goto 7, 3) := by decide +kernel
theorem dX4_reads_124 : decode cX4_reads 124 = .ok (.aload_n 0, 1) := by decide +kernel
theorem dX4_reads_125 : decode cX4_reads 125 = .ok (.getfield 27, 3) := by decide +kernel
theorem dX4_reads_128 : decode cX4_reads 128 = .ok (.putfield 27, 3) := by decide +kernel
theorem dX4_reads_131 : decode cX4_reads 131 = .ok (.iconst 0, 1) := by decide +kernel
theorem dX4_reads_132 : decode cX4_reads 132 = .ok (.ireturn, 1) := by decide +kernel
theorem dX4_reads_133 : decode cX4_reads 133 = .ok (.aload_n 0, 1) := by decide +kernel
theorem dX4_reads_134 : decode cX4_reads 134 = .ok (.aload_n 1, 1) := by decide +kernel
theorem dX4_reads_135 : decode cX4_reads 135 = .ok (.iload_n 2, 1) := by decide +kernel
theorem dX4_reads_136 : decode cX4_reads 136 = .ok (.ifCond .ne 7, 3) := by decide +kernel
theorem dX4_reads_139 : decode cX4_reads 139 = .ok (.iconst 1, 1) := by decide +kernel
theorem dX4_reads_140 : decode cX4_reads 140 = .ok (.goto 4, 3) := by decide +kernel
theorem dX4_reads_143 : decode cX4_reads 143 = .ok (.iconst 0, 1) := by decide +kernel
theorem dX4_reads_144 : decode cX4_reads 144 = .ok (.invokevirtual 46, 3) := by decide +kernel
theorem dX4_reads_147 : decode cX4_reads 147 = .ok (.ifCond .ne 5, 3) := by decide +kernel
theorem dX4_reads_150 : decode cX4_reads 150 = .ok (.iconst 0, 1) := by decide +kernel
theorem dX4_reads_151 : decode cX4_reads 151 = .ok (.ireturn, 1) := by decide +kernel
theorem dX4_reads_152 : decode cX4_reads 152 = .ok (.iinc 2 1, 3) := by decide +kernel
theorem dX4_reads_155 : decode cX4_reads 155 = .ok (.goto (-143), 3) := by decide +kernel
theorem dX4_reads_158 : decode cX4_reads 158 = .ok (.iconst 0, 1) := by decide +kernel
theorem dX4_reads_159 : decode cX4_reads 159 = .ok (.ireturn, 1) := by decide +kernel
theorem dX4_readsBy_0 : decode cX4_readsBy 0 = .ok (.aload_n 1, 1) := by decide +kernel
theorem dX4_readsBy_1 : decode cX4_readsBy 1 = .ok (.invokevirtual 50, 3) := by decide +kernel
theorem dX4_readsBy_4 : decode cX4_readsBy 4 = .ok (.aload_n 0, 1) := by decide +kernel
theorem dX4_readsBy_5 : decode cX4_readsBy 5 = .ok (.iconst 0, 1) := by decide +kernel
theorem dX4_readsBy_6 : decode cX4_readsBy 6 = .ok (.putfield 55, 3) := by decide +kernel
theorem dX4_readsBy_9 : decode cX4_readsBy 9 = .ok (.aload_n 0, 1) := by decide +kernel
theorem dX4_readsBy_10 : decode cX4_readsBy 10 = .ok (.iconst 0, 1) := by decide +kernel
theorem dX4_readsBy_11 : decode cX4_readsBy 11 = .ok (.putfield 23, 3) := by decide +kernel
theorem dX4_readsBy_14 : decode cX4_readsBy 14 = .ok (.aload_n 0, 1) := by decide +kernel
theorem dX4_readsBy_15 : decode cX4_readsBy 15 = .ok (.iconst 0, 1) := by decide +kernel
theorem dX4_readsBy_16 : decode cX4_readsBy 16 = .ok (.putfield 58, 3) := by decide +kernel
theorem dX4_readsBy_19 : decode cX4_readsBy 19 = .ok (.aload_n 0, 1) := by decide +kernel
theorem dX4_readsBy_20 : decode cX4_readsBy 20 = .ok (.invokevirtual 30, 3) := by decide +kernel
theorem dX4_readsBy_23 : decode cX4_readsBy 23 = .ok (.aload_n 0, 1) := by decide +kernel
theorem dX4_readsBy_24 : decode cX4_readsBy 24 = .ok (.ldc 61, 2) := by decide +kernel
theorem dX4_readsBy_26 : decode cX4_readsBy 26 = .ok (.invokevirtual 35, 3) := by decide +kernel
theorem dX4_readsBy_29 : decode cX4_readsBy 29 = .ok (.ifCond .ne 5, 3) := by decide +kernel
theorem dX4_readsBy_32 : decode cX4_readsBy 32 = .ok (.iconst 0, 1) := by decide +kernel
theorem dX4_readsBy_33 : decode cX4_readsBy 33 = .ok (.ireturn, 1) := by decide +kernel
theorem dX4_readsBy_34 : decode cX4_readsBy 34 = .ok (.aload_n 0, 1) := by decide +kernel
theorem dX4_readsBy_35 : decode cX4_readsBy 35 = .ok (.invokevirtual 30, 3) := by decide +kernel
theorem dX4_readsBy_38 : decode cX4_readsBy 38 = .ok (.aload_n 1, 1) := by decide +kernel
theorem dX4_readsBy_39 : decode cX4_readsBy 39 = .ok (.aload_n 0, 1) := by decide +kernel
theorem dX4_readsBy_40 : decode cX4_readsBy 40 = .ok (.invokevirtual 63, 3) := by decide +kernel
theorem dX4_readsBy_43 : decode cX4_readsBy 43 = .ok (.putfield 67, 3) := by decide +kernel
theorem dX4_readsBy_46 : decode cX4_readsBy 46 = .ok (.aload_n 1, 1) := by decide +kernel
theorem dX4_readsBy_47 : decode cX4_readsBy 47 = .ok (.getfield 67, 3) := by decide +kernel
theorem dX4_readsBy_50 : decode cX4_readsBy 50 = .ok (.iconst (-1), 1) := by decide +kernel
theorem dX4_readsBy_51 : decode cX4_readsBy 51 = .ok (.if_icmp .ne 5, 3) := by decide +kernel
theorem dX4_readsBy_54 : decode cX4_readsBy 54 = .ok (.iconst 0, 1) := by decide +kernel
theorem dX4_readsBy_55 : decode cX4_readsBy 55 = .ok (.ireturn, 1) := by decide +kernel
theorem dX4_readsBy_56 : decode cX4_readsBy 56 = .ok (.aload_n 1, 1) := by decide +kernel
theorem dX4_readsBy_57 : decode cX4_readsBy 57 = .ok (.aload_n 1, 1) := by decide +kernel
theorem dX4_readsBy_58 : decode cX4_readsBy 58 = .ok (.getfield 67, 3) := by decide +kernel
theorem dX4_readsBy_61 : decode cX4_readsBy 61 = .ok (.invokevirtual 69, 3) := by decide +kernel
theorem dX4_readsBy_64 : decode cX4_readsBy 64 = .ok (.aload_n 0, 1) := by decide +kernel
theorem dX4_readsBy_65 : decode cX4_readsBy 65 = .ok (.invokevirtual 30, 3) := by decide +kernel
theorem dX4_readsBy_68 : decode cX4_readsBy 68 = .ok (.iconst 1, 1) := by decide +kernel
theorem dX4_readsBy_69 : decode cX4_readsBy 69 = .ok (.ireturn, 1) := by decide +kernel
theorem dX4_readsStep_0 : decode cX4_readsStep 0 = .ok (.aload_n 0, 1) := by decide +kernel
theorem dX4_readsStep_1 : decode cX4_readsStep 1 = .ok (.ldc 44, 2) := by decide +kernel
theorem dX4_readsStep_3 : decode cX4_readsStep 3 = .ok (.invokevirtual 35, 3) := by decide +kernel
theorem dX4_readsStep_6 : decode cX4_readsStep 6 = .ok (.istore_n 3, 1) := by decide +kernel
theorem dX4_readsStep_7 : decode cX4_readsStep 7 = .ok (.iload_n 3, 1) := by decide +kernel
theorem dX4_readsStep_8 : decode cX4_readsStep 8 = .ok (.ifCond .eq 13, 3) := by decide +kernel
theorem dX4_readsStep_11 : decode cX4_readsStep 11 = .ok (.iload_n 2, 1) := by decide +kernel
theorem dX4_readsStep_12 : decode cX4_readsStep 12 = .ok (.ifCond .eq 5, 3) := by decide +kernel
theorem dX4_readsStep_15 : decode cX4_readsStep 15 = .ok (.iconst 0, 1) := by decide +kernel
theorem dX4_readsStep_16 : decode cX4_readsStep 16 = .ok (.ireturn, 1) := by decide +kernel
theorem dX4_readsStep_17 : decode cX4_readsStep 17 = .ok (.aload_n 0, 1) := by decide +kernel
theorem dX4_readsStep_18 : decode cX4_readsStep 18 = .ok (.invokevirtual 30, 3) := by decide +kernel
theorem dX4_readsStep_21 : decode cX4_readsStep 21 = .ok (.aload_n 0, 1) := by decide +kernel
theorem dX4_readsStep_22 : decode cX4_readsStep 22 = .ok (.ldc 42, 2) := by decide +kernel
theorem dX4_readsStep_24 : decode cX4_readsStep 24 = .ok (.invokevirtual 35, 3) := by decide +kernel
theorem dX4_readsStep_27 : decode cX4_readsStep 27 = .ok (.ifCond .eq 14, 3) := by decide +kernel
theorem dX4_readsStep_30 : decode cX4_readsStep 30 = .ok (.iload_n 3, 1) := by decide +kernel
theorem dX4_readsStep_31 : decode cX4_readsStep 31 = .ok (.ifCond .ne 12, 3) := by decide +kernel
theorem dX4_readsStep_34 : decode cX4_readsStep 34 = .ok (.aload_n 0, 1) := by decide +kernel
theorem dX4_readsStep_35 : decode cX4_readsStep 35 = .ok (.getfield 55, 3) := by decide +kernel
theorem dX4_readsStep_38 : decode cX4_readsStep 38 = .ok (.ifCond .eq 5, 3) := by decide +kernel
theorem dX4_readsStep_41 : decode cX4_readsStep 41 = .ok (.iconst 0, 1) := by decide +kernel
theorem dX4_readsStep_42 : decode cX4_readsStep 42 = .ok (.ireturn, 1) := by decide +kernel
theorem dX4_readsStep_43 : decode cX4_readsStep 43 = .ok (.aload_n 1, 1) := by decide +kernel
theorem dX4_readsStep_44 : decode cX4_readsStep 44 = .ok (.iload_n 3, 1) := by decide +kernel
theorem dX4_readsStep_45 : decode cX4_readsStep 45 = .ok (.invokevirtual 73, 3) := by decide +kernel
theorem dX4_readsStep_48 : decode cX4_readsStep 48 = .ok (.astore 4, 2) := by decide +kernel
theorem dX4_readsStep_50 : decode cX4_readsStep 50 = .ok (.aload 4, 2) := by decide +kernel
theorem dX4_readsStep_52 : decode cX4_readsStep 52 = .ok (.ifnonnull 5, 3) := by decide +kernel
theorem dX4_readsStep_55 : decode cX4_readsStep 55 = .ok (.iconst 0, 1) := by decide +kernel
theorem dX4_readsStep_56 : decode cX4_readsStep 56 = .ok (.ireturn, 1) := by decide +kernel
theorem dX4_readsStep_57 : decode cX4_readsStep 57 = .ok (.aload_n 0, 1) := by decide +kernel
theorem dX4_readsStep_58 : decode cX4_readsStep 58 = .ok (.invokevirtual 30, 3) := by decide +kernel
theorem dX4_readsStep_61 : decode cX4_readsStep 61 = .ok (.aload 4, 2) := by decide +kernel
theorem dX4_readsStep_63 : decode cX4_readsStep 63 = .ok (.aload_n 0, 1) := by decide +kernel
theorem dX4_readsStep_64 : decode cX4_readsStep 64 = .ok (.iconst 0, 1) := by decide +kernel
theorem dX4_readsStep_65 : decode cX4_readsStep 65 = .ok (.bipush 7, 2) := by decide +kernel
theorem dX4_readsStep_67 : decode cX4_readsStep 67 = .ok (.invokevirtual 77, 3) := by decide +kernel
theorem dX4_readsStep_70 : decode cX4_readsStep 70 = .ok (.putfield 81, 3) := by decide +kernel
theorem dX4_readsStep_73 : decode cX4_readsStep 73 = .ok (.aload 4, 2) := by decide +kernel
theorem dX4_readsStep_75 : decode cX4_readsStep 75 = .ok (.getfield 81, 3) := by decide +kernel
theorem dX4_readsStep_78 : decode cX4_readsStep 78 = .ok (.iconst (-1), 1) := by decide +kernel
theorem dX4_readsStep_79 : decode cX4_readsStep 79 = .ok (.if_icmp .ne 5, 3) := by decide +kernel
theorem dX4_readsStep_82 : decode cX4_readsStep 82 = .ok (.iconst 0, 1) := by decide +kernel
theorem dX4_readsStep_83 : decode cX4_readsStep 83 = .ok (.ireturn, 1) := by decide +kernel
theorem dX4_readsStep_84 : decode cX4_readsStep 84 = .ok (.aload_n 0, 1) := by decide +kernel
theorem dX4_readsStep_85 : decode cX4_readsStep 85 = .ok (.invokevirtual 30, 3) := by decide +kernel
theorem dX4_readsStep_88 : decode cX4_readsStep 88 = .ok (.aload_n 0, 1) := by decide +kernel
theorem dX4_readsStep_89 : decode cX4_readsStep 89 = .ok (.aload_n 1, 1) := by decide +kernel
theorem dX4_readsStep_90 : decode cX4_readsStep 90 = .ok (.aload 4, 2) := by decide +kernel
theorem dX4_readsStep_92 : decode cX4_readsStep 92 = .ok (.invokevirtual 85, 3) := by decide +kernel
theorem dX4_readsStep_95 : decode cX4_readsStep 95 = .ok (.ifCond .eq 17, 3) := by decide +kernel
theorem dX4_readsStep_98 : decode cX4_readsStep 98 = .ok (.aload_n 0, 1) := by decide +kernel
theorem dX4_readsStep_99 : decode cX4_readsStep 99 = .ok (.aload 4, 2) := by decide +kernel
theorem dX4_readsStep_101 : decode cX4_readsStep 101 = .ok (.iload_n 2, 1) := by decide +kernel
theorem dX4_readsStep_102 : decode cX4_readsStep 102 = .ok (.invokevirtual 89, 3) := by decide +kernel
theorem dX4_readsStep_105 : decode cX4_readsStep 105 = .ok (.ifCond .eq 7, 3) := by decide +kernel
theorem dX4_readsStep_108 : decode cX4_readsStep 108 = .ok (.iconst 1, 1) := by decide +kernel
theorem dX4_readsStep_109 : decode cX4_readsStep 109 = .ok (.goto 4, 3) := by decide +kernel
theorem dX4_readsStep_112 : decode cX4_readsStep 112 = .ok (.iconst 0, 1) := by decide +kernel
theorem dX4_readsStep_113 : decode cX4_readsStep 113 = .ok (.ireturn, 1) := by decide +kernel
theorem dX4_readsConds_0 : decode cX4_readsConds 0 = .ok (.iconst 0, 1) := by decide +kernel
theorem dX4_readsConds_1 : decode cX4_readsConds 1 = .ok (.istore_n 3, 1) := by decide +kernel
theorem dX4_readsConds_2 : decode cX4_readsConds 2 = .ok (.iload_n 3, 1) := by decide +kernel
theorem dX4_readsConds_3 : decode cX4_readsConds 3 = .ok (.iconst 3, 1) := by decide +kernel
theorem dX4_readsConds_4 : decode cX4_readsConds 4 = .ok (.if_icmp .ge 82, 3) := by decide +kernel
theorem dX4_readsConds_7 : decode cX4_readsConds 7 = .ok (.aload_n 0, 1) := by decide +kernel
theorem dX4_readsConds_8 : decode cX4_readsConds 8 = .ok (.invokevirtual 63, 3) := by decide +kernel
theorem dX4_readsConds_11 : decode cX4_readsConds 11 = .ok (.istore 4, 2) := by decide +kernel
theorem dX4_readsConds_13 : decode cX4_readsConds 13 = .ok (.iload 4, 2) := by decide +kernel
theorem dX4_readsConds_15 : decode cX4_readsConds 15 = .ok (.iconst (-1), 1) := by decide +kernel
theorem dX4_readsConds_16 : decode cX4_readsConds 16 = .ok (.if_icmp .eq 12, 3) := by decide +kernel
theorem dX4_readsConds_19 : decode cX4_readsConds 19 = .ok (.aload_n 2, 1) := by decide +kernel
theorem dX4_readsConds_20 : decode cX4_readsConds 20 = .ok (.iload 4, 2) := by decide +kernel
theorem dX4_readsConds_22 : decode cX4_readsConds 22 = .ok (.invokevirtual 93, 3) := by decide +kernel
theorem dX4_readsConds_25 : decode cX4_readsConds 25 = .ok (.ifCond .eq 5, 3) := by decide +kernel
theorem dX4_readsConds_28 : decode cX4_readsConds 28 = .ok (.iconst 1, 1) := by decide +kernel
theorem dX4_readsConds_29 : decode cX4_readsConds 29 = .ok (.ireturn, 1) := by decide +kernel
theorem dX4_readsConds_30 : decode cX4_readsConds 30 = .ok (.aload_n 0, 1) := by decide +kernel
theorem dX4_readsConds_31 : decode cX4_readsConds 31 = .ok (.invokevirtual 30, 3) := by decide +kernel
theorem dX4_readsConds_34 : decode cX4_readsConds 34 = .ok (.aload_n 0, 1) := by decide +kernel
theorem dX4_readsConds_35 : decode cX4_readsConds 35 = .ok (.iconst 0, 1) := by decide +kernel
theorem dX4_readsConds_36 : decode cX4_readsConds 36 = .ok (.iload 4, 2) := by decide +kernel
theorem dX4_readsConds_38 : decode cX4_readsConds 38 = .ok (.iconst 2, 1) := by decide +kernel
theorem dX4_readsConds_39 : decode cX4_readsConds 39 = .ok (.if_icmp .ne 8, 3) := by decide +kernel
theorem dX4_readsConds_42 : decode cX4_readsConds 42 = .ok (.bipush 15, 2) := by decide +kernel
theorem dX4_readsConds_44 : decode cX4_readsConds 44 = .ok (.goto 5, 3) := by decide +kernel
theorem dX4_readsConds_47 : decode cX4_readsConds 47 = .ok (.bipush 30, 2) := by decide +kernel
theorem dX4_readsConds_49 : decode cX4_readsConds 49 = .ok (.invokevirtual 77, 3) := by decide +kernel
theorem dX4_readsConds_52 : decode cX4_readsConds 52 = .ok (.istore 5, 2) := by decide +kernel
theorem dX4_readsConds_54 : decode cX4_readsConds 54 = .ok (.iload 5, 2) := by decide +kernel
theorem dX4_readsConds_56 : decode cX4_readsConds 56 = .ok (.iconst (-1), 1) := by decide +kernel
theorem dX4_readsConds_57 : decode cX4_readsConds 57 = .ok (.if_icmp .ne 5, 3) := by decide +kernel
theorem dX4_readsConds_60 : decode cX4_readsConds 60 = .ok (.iconst 0, 1) := by decide +kernel
theorem dX4_readsConds_61 : decode cX4_readsConds 61 = .ok (.ireturn, 1) := by decide +kernel
theorem dX4_readsConds_62 : decode cX4_readsConds 62 = .ok (.aload_n 2, 1) := by decide +kernel
theorem dX4_readsConds_63 : decode cX4_readsConds 63 = .ok (.iload 4, 2) := by decide +kernel
theorem dX4_readsConds_65 : decode cX4_readsConds 65 = .ok (.iload 5, 2) := by decide +kernel
theorem dX4_readsConds_67 : decode cX4_readsConds 67 = .ok (.invokevirtual 97, 3) := by decide +kernel
theorem dX4_readsConds_70 : decode cX4_readsConds 70 = .ok (.aload_n 1, 1) := by decide +kernel
theorem dX4_readsConds_71 : decode cX4_readsConds 71 = .ok (.iload 4, 2) := by decide +kernel
theorem dX4_readsConds_73 : decode cX4_readsConds 73 = .ok (.invokevirtual 69, 3) := by decide +kernel
theorem dX4_readsConds_76 : decode cX4_readsConds 76 = .ok (.aload_n 0, 1) := by decide +kernel
theorem dX4_readsConds_77 : decode cX4_readsConds 77 = .ok (.invokevirtual 30, 3) := by decide +kernel
theorem dX4_readsConds_80 : decode cX4_readsConds 80 = .ok (.iinc 3 1, 3) := by decide +kernel
theorem dX4_readsConds_83 : decode cX4_readsConds 83 = .ok (.goto (-81), 3) := by decide +kernel
theorem dX4_readsConds_86 : decode cX4_readsConds 86 = .ok (.iconst 1, 1) := by decide +kernel
theorem dX4_readsConds_87 : decode cX4_readsConds 87 = .ok (.ireturn, 1) := by decide +kernel
theorem dX4_readsTail_0 : decode cX4_readsTail 0 = .ok (.aload_n 1, 1) := by decide +kernel
theorem dX4_readsTail_1 : decode cX4_readsTail 1 = .ok (.getfield 101, 3) := by decide +kernel
theorem dX4_readsTail_4 : decode cX4_readsTail 4 = .ok (.ifCond .ne 21, 3) := by decide +kernel
theorem dX4_readsTail_7 : decode cX4_readsTail 7 = .ok (.aload_n 0, 1) := by decide +kernel
theorem dX4_readsTail_8 : decode cX4_readsTail 8 = .ok (.ldc 103, 2) := by decide +kernel
theorem dX4_readsTail_10 : decode cX4_readsTail 10 = .ok (.invokevirtual 35, 3) := by decide +kernel
theorem dX4_readsTail_13 : decode cX4_readsTail 13 = .ok (.ifCond .eq 12, 3) := by decide +kernel
theorem dX4_readsTail_16 : decode cX4_readsTail 16 = .ok (.aload_n 1, 1) := by decide +kernel
theorem dX4_readsTail_17 : decode cX4_readsTail 17 = .ok (.iconst 1, 1) := by decide +kernel
theorem dX4_readsTail_18 : decode cX4_readsTail 18 = .ok (.putfield 105, 3) := by decide +kernel
theorem dX4_readsTail_21 : decode cX4_readsTail 21 = .ok (.aload_n 0, 1) := by decide +kernel
theorem dX4_readsTail_22 : decode cX4_readsTail 22 = .ok (.invokevirtual 30, 3) := by decide +kernel
theorem dX4_readsTail_25 : decode cX4_readsTail 25 = .ok (.iload_n 2, 1) := by decide +kernel
theorem dX4_readsTail_26 : decode cX4_readsTail 26 = .ok (.ifCond .ne 41, 3) := by decide +kernel
theorem dX4_readsTail_29 : decode cX4_readsTail 29 = .ok (.aload_n 0, 1) := by decide +kernel
theorem dX4_readsTail_30 : decode cX4_readsTail 30 = .ok (.ldc 107, 2) := by decide +kernel
theorem dX4_readsTail_32 : decode cX4_readsTail 32 = .ok (.invokevirtual 35, 3) := by decide +kernel
theorem dX4_readsTail_35 : decode cX4_readsTail 35 = .ok (.ifCond .eq 32, 3) := by decide +kernel
theorem dX4_readsTail_38 : decode cX4_readsTail 38 = .ok (.aload_n 0, 1) := by decide +kernel
theorem dX4_readsTail_39 : decode cX4_readsTail 39 = .ok (.invokevirtual 30, 3) := by decide +kernel
theorem dX4_readsTail_42 : decode cX4_readsTail 42 = .ok (.aload_n 1, 1) := by decide +kernel
theorem dX4_readsTail_43 : decode cX4_readsTail 43 = .ok (.aload_n 0, 1) := by decide +kernel
theorem dX4_readsTail_44 : decode cX4_readsTail 44 = .ok (.iconst 1, 1) := by decide +kernel
theorem dX4_readsTail_45 : decode cX4_readsTail 45 = .ok (.ldc 109, 2) := by decide +kernel
theorem dX4_readsTail_47 : decode cX4_readsTail 47 = .ok (.invokevirtual 77, 3) := by decide +kernel
theorem dX4_readsTail_50 : decode cX4_readsTail 50 = .ok (.putfield 110, 3) := by decide +kernel
theorem dX4_readsTail_53 : decode cX4_readsTail 53 = .ok (.aload_n 1, 1) := by decide +kernel
theorem dX4_readsTail_54 : decode cX4_readsTail 54 = .ok (.getfield 110, 3) := by decide +kernel
theorem dX4_readsTail_57 : decode cX4_readsTail 57 = .ok (.iconst (-1), 1) := by decide +kernel
theorem dX4_readsTail_58 : decode cX4_readsTail 58 = .ok (.if_icmp .ne 5, 3) := by decide +kernel
theorem dX4_readsTail_61 : decode cX4_readsTail 61 = .ok (.iconst 0, 1) := by decide +kernel
theorem dX4_readsTail_62 : decode cX4_readsTail 62 = .ok (.ireturn, 1) := by decide +kernel
theorem dX4_readsTail_63 : decode cX4_readsTail 63 = .ok (.aload_n 0, 1) := by decide +kernel
theorem dX4_readsTail_64 : decode cX4_readsTail 64 = .ok (.invokevirtual 30, 3) := by decide +kernel
theorem dX4_readsTail_67 : decode cX4_readsTail 67 = .ok (.aload_n 0, 1) := by decide +kernel
theorem dX4_readsTail_68 : decode cX4_readsTail 68 = .ok (.aload_n 1, 1) := by decide +kernel
theorem dX4_readsTail_69 : decode cX4_readsTail 69 = .ok (.getfield 101, 3) := by decide +kernel
theorem dX4_readsTail_72 : decode cX4_readsTail 72 = .ok (.ifCond .eq 22, 3) := by decide +kernel
theorem dX4_readsTail_75 : decode cX4_readsTail 75 = .ok (.aload_n 0, 1) := by decide +kernel
theorem dX4_readsTail_76 : decode cX4_readsTail 76 = .ok (.getfield 55, 3) := by decide +kernel
theorem dX4_readsTail_79 : decode cX4_readsTail 79 = .ok (.ifCond .ne 11, 3) := by decide +kernel
theorem dX4_readsTail_82 : decode cX4_readsTail 82 = .ok (.aload_n 1, 1) := by decide +kernel
theorem dX4_readsTail_83 : decode cX4_readsTail 83 = .ok (.getfield 110, 3) := by decide +kernel
theorem dX4_readsTail_86 : decode cX4_readsTail 86 = .ok (.iconst (-1), 1) := by decide +kernel
theorem dX4_readsTail_87 : decode cX4_readsTail 87 = .ok (.if_icmp .eq 7, 3) := by decide +kernel
theorem dX4_readsTail_90 : decode cX4_readsTail 90 = .ok (.iconst 1, 1) := by decide +kernel
theorem dX4_readsTail_91 : decode cX4_readsTail 91 = .ok (.goto 4, 3) := by decide +kernel
theorem dX4_readsTail_94 : decode cX4_readsTail 94 = .ok (.iconst 0, 1) := by decide +kernel
theorem dX4_readsTail_95 : decode cX4_readsTail 95 = .ok (.putfield 55, 3) := by decide +kernel
theorem dX4_readsTail_98 : decode cX4_readsTail 98 = .ok (.aload_n 0, 1) := by decide +kernel
theorem dX4_readsTail_99 : decode cX4_readsTail 99 = .ok (.aload_n 1, 1) := by decide +kernel
theorem dX4_readsTail_100 : decode cX4_readsTail 100 = .ok (.getfield 101, 3) := by decide +kernel
theorem dX4_readsTail_103 : decode cX4_readsTail 103 = .ok (.ifCond .eq 22, 3) := by decide +kernel
theorem dX4_readsTail_106 : decode cX4_readsTail 106 = .ok (.aload_n 0, 1) := by decide +kernel
theorem dX4_readsTail_107 : decode cX4_readsTail 107 = .ok (.getfield 23, 3) := by decide +kernel
theorem dX4_readsTail_110 : decode cX4_readsTail 110 = .ok (.ifCond .ne 11, 3) := by decide +kernel
theorem dX4_readsTail_113 : decode cX4_readsTail 113 = .ok (.aload_n 1, 1) := by decide +kernel
theorem dX4_readsTail_114 : decode cX4_readsTail 114 = .ok (.getfield 110, 3) := by decide +kernel
theorem dX4_readsTail_117 : decode cX4_readsTail 117 = .ok (.iconst (-1), 1) := by decide +kernel
theorem dX4_readsTail_118 : decode cX4_readsTail 118 = .ok (.if_icmp .ne 7, 3) := by decide +kernel
theorem dX4_readsTail_121 : decode cX4_readsTail 121 = .ok (.iconst 1, 1) := by decide +kernel
theorem dX4_readsTail_122 : decode cX4_readsTail 122 = .ok (.goto 4, 3) := by decide +kernel
theorem dX4_readsTail_125 : decode cX4_readsTail 125 = .ok (.iconst 0, 1) := by decide +kernel
theorem dX4_readsTail_126 : decode cX4_readsTail 126 = .ok (.putfield 23, 3) := by decide +kernel
theorem dX4_readsTail_129 : decode cX4_readsTail 129 = .ok (.iconst 1, 1) := by decide +kernel
theorem dX4_readsTail_130 : decode cX4_readsTail 130 = .ok (.ireturn, 1) := by decide +kernel
theorem dX4_readsSpread_0 : decode cX4_readsSpread 0 = .ok (.aload_n 0, 1) := by decide +kernel
theorem dX4_readsSpread_1 : decode cX4_readsSpread 1 = .ok (.invokevirtual 30, 3) := by decide +kernel
theorem dX4_readsSpread_4 : decode cX4_readsSpread 4 = .ok (.aload_n 1, 1) := by decide +kernel
theorem dX4_readsSpread_5 : decode cX4_readsSpread 5 = .ok (.aload_n 0, 1) := by decide +kernel
theorem dX4_readsSpread_6 : decode cX4_readsSpread 6 = .ok (.invokevirtual 63, 3) := by decide +kernel
theorem dX4_readsSpread_9 : decode cX4_readsSpread 9 = .ok (.putfield 112, 3) := by decide +kernel
theorem dX4_readsSpread_12 : decode cX4_readsSpread 12 = .ok (.aload_n 1, 1) := by decide +kernel
theorem dX4_readsSpread_13 : decode cX4_readsSpread 13 = .ok (.getfield 112, 3) := by decide +kernel
theorem dX4_readsSpread_16 : decode cX4_readsSpread 16 = .ok (.iconst (-1), 1) := by decide +kernel
theorem dX4_readsSpread_17 : decode cX4_readsSpread 17 = .ok (.if_icmp .ne 5, 3) := by decide +kernel
theorem dX4_readsSpread_20 : decode cX4_readsSpread 20 = .ok (.iconst 0, 1) := by decide +kernel
theorem dX4_readsSpread_21 : decode cX4_readsSpread 21 = .ok (.ireturn, 1) := by decide +kernel
theorem dX4_readsSpread_22 : decode cX4_readsSpread 22 = .ok (.aload_n 1, 1) := by decide +kernel
theorem dX4_readsSpread_23 : decode cX4_readsSpread 23 = .ok (.aload_n 1, 1) := by decide +kernel
theorem dX4_readsSpread_24 : decode cX4_readsSpread 24 = .ok (.getfield 112, 3) := by decide +kernel
theorem dX4_readsSpread_27 : decode cX4_readsSpread 27 = .ok (.invokevirtual 69, 3) := by decide +kernel
theorem dX4_readsSpread_30 : decode cX4_readsSpread 30 = .ok (.aload_n 0, 1) := by decide +kernel
theorem dX4_readsSpread_31 : decode cX4_readsSpread 31 = .ok (.invokevirtual 30, 3) := by decide +kernel
theorem dX4_readsSpread_34 : decode cX4_readsSpread 34 = .ok (.aload_n 1, 1) := by decide +kernel
theorem dX4_readsSpread_35 : decode cX4_readsSpread 35 = .ok (.aload_n 0, 1) := by decide +kernel
theorem dX4_readsSpread_36 : decode cX4_readsSpread 36 = .ok (.iconst 2, 1) := by decide +kernel
theorem dX4_readsSpread_37 : decode cX4_readsSpread 37 = .ok (.bipush 30, 2) := by decide +kernel
theorem dX4_readsSpread_39 : decode cX4_readsSpread 39 = .ok (.invokevirtual 77, 3) := by decide +kernel
theorem dX4_readsSpread_42 : decode cX4_readsSpread 42 = .ok (.putfield 115, 3) := by decide +kernel
theorem dX4_readsSpread_45 : decode cX4_readsSpread 45 = .ok (.aload_n 1, 1) := by decide +kernel
theorem dX4_readsSpread_46 : decode cX4_readsSpread 46 = .ok (.getfield 115, 3) := by decide +kernel
theorem dX4_readsSpread_49 : decode cX4_readsSpread 49 = .ok (.iconst (-1), 1) := by decide +kernel
theorem dX4_readsSpread_50 : decode cX4_readsSpread 50 = .ok (.if_icmp .ne 5, 3) := by decide +kernel
theorem dX4_readsSpread_53 : decode cX4_readsSpread 53 = .ok (.iconst 0, 1) := by decide +kernel
theorem dX4_readsSpread_54 : decode cX4_readsSpread 54 = .ok (.ireturn, 1) := by decide +kernel
theorem dX4_readsSpread_55 : decode cX4_readsSpread 55 = .ok (.aload_n 0, 1) := by decide +kernel
theorem dX4_readsSpread_56 : decode cX4_readsSpread 56 = .ok (.invokevirtual 30, 3) := by decide +kernel
theorem dX4_readsSpread_59 : decode cX4_readsSpread 59 = .ok (.aload_n 0, 1) := by decide +kernel
theorem dX4_readsSpread_60 : decode cX4_readsSpread 60 = .ok (.ldc 107, 2) := by decide +kernel
theorem dX4_readsSpread_62 : decode cX4_readsSpread 62 = .ok (.invokevirtual 35, 3) := by decide +kernel
theorem dX4_readsSpread_65 : decode cX4_readsSpread 65 = .ok (.ifCond .ne 5, 3) := by decide +kernel
theorem dX4_readsSpread_68 : decode cX4_readsSpread 68 = .ok (.iconst 0, 1) := by decide +kernel
theorem dX4_readsSpread_69 : decode cX4_readsSpread 69 = .ok (.ireturn, 1) := by decide +kernel
theorem dX4_readsSpread_70 : decode cX4_readsSpread 70 = .ok (.aload_n 0, 1) := by decide +kernel
theorem dX4_readsSpread_71 : decode cX4_readsSpread 71 = .ok (.invokevirtual 30, 3) := by decide +kernel
theorem dX4_readsSpread_74 : decode cX4_readsSpread 74 = .ok (.aload_n 1, 1) := by decide +kernel
theorem dX4_readsSpread_75 : decode cX4_readsSpread 75 = .ok (.aload_n 0, 1) := by decide +kernel
theorem dX4_readsSpread_76 : decode cX4_readsSpread 76 = .ok (.iconst 1, 1) := by decide +kernel
theorem dX4_readsSpread_77 : decode cX4_readsSpread 77 = .ok (.ldc 109, 2) := by decide +kernel
theorem dX4_readsSpread_79 : decode cX4_readsSpread 79 = .ok (.invokevirtual 77, 3) := by decide +kernel
theorem dX4_readsSpread_82 : decode cX4_readsSpread 82 = .ok (.putfield 118, 3) := by decide +kernel
theorem dX4_readsSpread_85 : decode cX4_readsSpread 85 = .ok (.aload_n 1, 1) := by decide +kernel
theorem dX4_readsSpread_86 : decode cX4_readsSpread 86 = .ok (.getfield 118, 3) := by decide +kernel
theorem dX4_readsSpread_89 : decode cX4_readsSpread 89 = .ok (.iconst (-1), 1) := by decide +kernel
theorem dX4_readsSpread_90 : decode cX4_readsSpread 90 = .ok (.if_icmp .ne 5, 3) := by decide +kernel
theorem dX4_readsSpread_93 : decode cX4_readsSpread 93 = .ok (.iconst 0, 1) := by decide +kernel
theorem dX4_readsSpread_94 : decode cX4_readsSpread 94 = .ok (.ireturn, 1) := by decide +kernel
theorem dX4_readsSpread_95 : decode cX4_readsSpread 95 = .ok (.aload_n 0, 1) := by decide +kernel
theorem dX4_readsSpread_96 : decode cX4_readsSpread 96 = .ok (.invokevirtual 30, 3) := by decide +kernel
theorem dX4_readsSpread_99 : decode cX4_readsSpread 99 = .ok (.aload_n 0, 1) := by decide +kernel
theorem dX4_readsSpread_100 : decode cX4_readsSpread 100 = .ok (.getfield 19, 3) := by decide +kernel
theorem dX4_readsSpread_103 : decode cX4_readsSpread 103 = .ok (.ifCond .ne 7, 3) := by decide +kernel
theorem dX4_readsSpread_106 : decode cX4_readsSpread 106 = .ok (.iconst 1, 1) := by decide +kernel
theorem dX4_readsSpread_107 : decode cX4_readsSpread 107 = .ok (.goto 4, 3) := by decide +kernel
theorem dX4_readsSpread_110 : decode cX4_readsSpread 110 = .ok (.iconst 0, 1) := by decide +kernel
theorem dX4_readsSpread_111 : decode cX4_readsSpread 111 = .ok (.ireturn, 1) := by decide +kernel
theorem dX4_fieldHere_0 : decode cX4_fieldHere 0 = .ok (.aload_n 0, 1) := by decide +kernel
theorem dX4_fieldHere_1 : decode cX4_fieldHere 1 = .ok (.ldc 121, 2) := by decide +kernel
theorem dX4_fieldHere_3 : decode cX4_fieldHere 3 = .ok (.invokevirtual 35, 3) := by decide +kernel
theorem dX4_fieldHere_6 : decode cX4_fieldHere 6 = .ok (.ifCond .eq 7, 3) := by decide +kernel
theorem dX4_fieldHere_9 : decode cX4_fieldHere 9 = .ok (.iconst 0, 1) := by decide +kernel
theorem dX4_fieldHere_10 : decode cX4_fieldHere 10 = .ok (.goto 30, 3) := by decide +kernel
theorem dX4_fieldHere_13 : decode cX4_fieldHere 13 = .ok (.aload_n 0, 1) := by decide +kernel
theorem dX4_fieldHere_14 : decode cX4_fieldHere 14 = .ok (.ldc 123, 2) := by decide +kernel
theorem dX4_fieldHere_16 : decode cX4_fieldHere 16 = .ok (.invokevirtual 35, 3) := by decide +kernel
theorem dX4_fieldHere_19 : decode cX4_fieldHere 19 = .ok (.ifCond .eq 7, 3) := by decide +kernel
theorem dX4_fieldHere_22 : decode cX4_fieldHere 22 = .ok (.iconst 1, 1) := by decide +kernel
theorem dX4_fieldHere_23 : decode cX4_fieldHere 23 = .ok (.goto 17, 3) := by decide +kernel
theorem dX4_fieldHere_26 : decode cX4_fieldHere 26 = .ok (.aload_n 0, 1) := by decide +kernel
theorem dX4_fieldHere_27 : decode cX4_fieldHere 27 = .ok (.ldc 125, 2) := by decide +kernel
theorem dX4_fieldHere_29 : decode cX4_fieldHere 29 = .ok (.invokevirtual 35, 3) := by decide +kernel
theorem dX4_fieldHere_32 : decode cX4_fieldHere 32 = .ok (.ifCond .eq 7, 3) := by decide +kernel
theorem dX4_fieldHere_35 : decode cX4_fieldHere 35 = .ok (.iconst 2, 1) := by decide +kernel
theorem dX4_fieldHere_36 : decode cX4_fieldHere 36 = .ok (.goto 4, 3) := by decide +kernel
theorem dX4_fieldHere_39 : decode cX4_fieldHere 39 = .ok (.iconst (-1), 1) := by decide +kernel
theorem dX4_fieldHere_40 : decode cX4_fieldHere 40 = .ok (.ireturn, 1) := by decide +kernel
theorem dX4_numberHere_0 : decode cX4_numberHere 0 = .ok (.aload_n 0, 1) := by decide +kernel
theorem dX4_numberHere_1 : decode cX4_numberHere 1 = .ok (.getfield 19, 3) := by decide +kernel
theorem dX4_numberHere_4 : decode cX4_numberHere 4 = .ok (.iconst 2, 1) := by decide +kernel
theorem dX4_numberHere_5 : decode cX4_numberHere 5 = .ok (.if_icmp .ne 17, 3) := by decide +kernel
theorem dX4_numberHere_8 : decode cX4_numberHere 8 = .ok (.aload_n 0, 1) := by decide +kernel
theorem dX4_numberHere_9 : decode cX4_numberHere 9 = .ok (.getfield 58, 3) := by decide +kernel
theorem dX4_numberHere_12 : decode cX4_numberHere 12 = .ok (.aload_n 0, 1) := by decide +kernel
theorem dX4_numberHere_13 : decode cX4_numberHere 13 = .ok (.getfield 27, 3) := by decide +kernel
theorem dX4_numberHere_16 : decode cX4_numberHere 16 = .ok (.isub, 1) := by decide +kernel
theorem dX4_numberHere_17 : decode cX4_numberHere 17 = .ok (.bipush 6, 2) := by decide +kernel
theorem dX4_numberHere_19 : decode cX4_numberHere 19 = .ok (.if_icmp .le 5, 3) := by decide +kernel
theorem dX4_numberHere_22 : decode cX4_numberHere 22 = .ok (.iconst (-1), 1) := by decide +kernel
theorem dX4_numberHere_23 : decode cX4_numberHere 23 = .ok (.ireturn, 1) := by decide +kernel
theorem dX4_numberHere_24 : decode cX4_numberHere 24 = .ok (.iconst 0, 1) := by decide +kernel
theorem dX4_numberHere_25 : decode cX4_numberHere 25 = .ok (.istore_n 3, 1) := by decide +kernel
theorem dX4_numberHere_26 : decode cX4_numberHere 26 = .ok (.aload_n 0, 1) := by decide +kernel
theorem dX4_numberHere_27 : decode cX4_numberHere 27 = .ok (.getfield 27, 3) := by decide +kernel
theorem dX4_numberHere_30 : decode cX4_numberHere 30 = .ok (.istore 4, 2) := by decide +kernel
theorem dX4_numberHere_32 : decode cX4_numberHere 32 = .ok (.iload 4, 2) := by decide +kernel
theorem dX4_numberHere_34 : decode cX4_numberHere 34 = .ok (.aload_n 0, 1) := by decide +kernel
theorem dX4_numberHere_35 : decode cX4_numberHere 35 = .ok (.getfield 58, 3) := by decide +kernel
theorem dX4_numberHere_38 : decode cX4_numberHere 38 = .ok (.if_icmp .ge 40, 3) := by decide +kernel
theorem dX4_numberHere_41 : decode cX4_numberHere 41 = .ok (.iload 4, 2) := by decide +kernel
theorem dX4_numberHere_43 : decode cX4_numberHere 43 = .ok (.aload_n 0, 1) := by decide +kernel
theorem dX4_numberHere_44 : decode cX4_numberHere 44 = .ok (.getfield 9, 3) := by decide +kernel
theorem dX4_numberHere_47 : decode cX4_numberHere 47 = .ok (.getfield 127, 3) := by decide +kernel
theorem dX4_numberHere_50 : decode cX4_numberHere 50 = .ok (.if_icmp .ge 28, 3) := by decide +kernel
theorem dX4_numberHere_53 : decode cX4_numberHere 53 = .ok (.iload_n 3, 1) := by decide +kernel
theorem dX4_numberHere_54 : decode cX4_numberHere 54 = .ok (.bipush 10, 2) := by decide +kernel
theorem dX4_numberHere_56 : decode cX4_numberHere 56 = .ok (.imul, 1) := by decide +kernel
theorem dX4_numberHere_57 : decode cX4_numberHere 57 = .ok (.aload_n 0, 1) := by decide +kernel
theorem dX4_numberHere_58 : decode cX4_numberHere 58 = .ok (.getfield 9, 3) := by decide +kernel
theorem dX4_numberHere_61 : decode cX4_numberHere 61 = .ok (.getfield 132, 3) := by decide +kernel
theorem dX4_numberHere_64 : decode cX4_numberHere 64 = .ok (.iload 4, 2) := by decide +kernel
theorem dX4_numberHere_66 : decode cX4_numberHere 66 = .ok (.iaload, 1) := by decide +kernel
theorem dX4_numberHere_67 : decode cX4_numberHere 67 = .ok (.iadd, 1) := by decide +kernel
theorem dX4_numberHere_68 : decode cX4_numberHere 68 = .ok (.bipush 48, 2) := by decide +kernel
theorem dX4_numberHere_70 : decode cX4_numberHere 70 = .ok (.isub, 1) := by decide +kernel
theorem dX4_numberHere_71 : decode cX4_numberHere 71 = .ok (.istore_n 3, 1) := by decide +kernel
theorem dX4_numberHere_72 : decode cX4_numberHere 72 = .ok (.iinc 4 1, 3) := by decide +kernel
theorem dX4_numberHere_75 : decode cX4_numberHere 75 = .ok (.goto (-43), 3) := by decide +kernel
theorem dX4_numberHere_78 : decode cX4_numberHere 78 = .ok (.iload_n 3, 1) := by decide +kernel
theorem dX4_numberHere_79 : decode cX4_numberHere 79 = .ok (.iload_n 1, 1) := by decide +kernel
theorem dX4_numberHere_80 : decode cX4_numberHere 80 = .ok (.if_icmp .lt 12, 3) := by decide +kernel
theorem dX4_numberHere_83 : decode cX4_numberHere 83 = .ok (.iload_n 3, 1) := by decide +kernel
theorem dX4_numberHere_84 : decode cX4_numberHere 84 = .ok (.iload_n 2, 1) := by decide +kernel
theorem dX4_numberHere_85 : decode cX4_numberHere 85 = .ok (.if_icmp .gt 7, 3) := by decide +kernel
theorem dX4_numberHere_88 : decode cX4_numberHere 88 = .ok (.iload_n 3, 1) := by decide +kernel
theorem dX4_numberHere_89 : decode cX4_numberHere 89 = .ok (.goto 4, 3) := by decide +kernel
theorem dX4_numberHere_92 : decode cX4_numberHere 92 = .ok (.iconst (-1), 1) := by decide +kernel
theorem dX4_numberHere_93 : decode cX4_numberHere 93 = .ok (.ireturn, 1) := by decide +kernel
theorem dX4_isAt_0 : decode cX4_isAt 0 = .ok (.aload_n 1, 1) := by decide +kernel
theorem dX4_isAt_1 : decode cX4_isAt 1 = .ok (.invokevirtual 136, 3) := by decide +kernel
theorem dX4_isAt_4 : decode cX4_isAt 4 = .ok (.istore_n 2, 1) := by decide +kernel
theorem dX4_isAt_5 : decode cX4_isAt 5 = .ok (.aload_n 0, 1) := by decide +kernel
theorem dX4_isAt_6 : decode cX4_isAt 6 = .ok (.getfield 19, 3) := by decide +kernel
theorem dX4_isAt_9 : decode cX4_isAt 9 = .ok (.iconst 1, 1) := by decide +kernel
theorem dX4_isAt_10 : decode cX4_isAt 10 = .ok (.if_icmp .ne 16, 3) := by decide +kernel
theorem dX4_isAt_13 : decode cX4_isAt 13 = .ok (.aload_n 0, 1) := by decide +kernel
theorem dX4_isAt_14 : decode cX4_isAt 14 = .ok (.getfield 58, 3) := by decide +kernel
theorem dX4_isAt_17 : decode cX4_isAt 17 = .ok (.aload_n 0, 1) := by decide +kernel
theorem dX4_isAt_18 : decode cX4_isAt 18 = .ok (.getfield 27, 3) := by decide +kernel
theorem dX4_isAt_21 : decode cX4_isAt 21 = .ok (.isub, 1) := by decide +kernel
theorem dX4_isAt_22 : decode cX4_isAt 22 = .ok (.iload_n 2, 1) := by decide +kernel
theorem dX4_isAt_23 : decode cX4_isAt 23 = .ok (.if_icmp .eq 5, 3) := by decide +kernel
theorem dX4_isAt_26 : decode cX4_isAt 26 = .ok (.iconst 0, 1) := by decide +kernel
theorem dX4_isAt_27 : decode cX4_isAt 27 = .ok (.ireturn, 1) := by decide +kernel
theorem dX4_isAt_28 : decode cX4_isAt 28 = .ok (.iconst 0, 1) := by decide +kernel
theorem dX4_isAt_29 : decode cX4_isAt 29 = .ok (.istore_n 3, 1) := by decide +kernel
theorem dX4_isAt_30 : decode cX4_isAt 30 = .ok (.iload_n 3, 1) := by decide +kernel
theorem dX4_isAt_31 : decode cX4_isAt 31 = .ok (.iload_n 2, 1) := by decide +kernel
theorem dX4_isAt_32 : decode cX4_isAt 32 = .ok (.if_icmp .ge 49, 3) := by decide +kernel
theorem dX4_isAt_35 : decode cX4_isAt 35 = .ok (.aload_n 0, 1) := by decide +kernel
theorem dX4_isAt_36 : decode cX4_isAt 36 = .ok (.getfield 27, 3) := by decide +kernel
theorem dX4_isAt_39 : decode cX4_isAt 39 = .ok (.iload_n 3, 1) := by decide +kernel
theorem dX4_isAt_40 : decode cX4_isAt 40 = .ok (.iadd, 1) := by decide +kernel
theorem dX4_isAt_41 : decode cX4_isAt 41 = .ok (.aload_n 0, 1) := by decide +kernel
theorem dX4_isAt_42 : decode cX4_isAt 42 = .ok (.getfield 9, 3) := by decide +kernel
theorem dX4_isAt_45 : decode cX4_isAt 45 = .ok (.getfield 127, 3) := by decide +kernel
theorem dX4_isAt_48 : decode cX4_isAt 48 = .ok (.if_icmp .ge 33, 3) := by decide +kernel
theorem dX4_isAt_51 : decode cX4_isAt 51 = .ok (.aload_n 0, 1) := by decide +kernel
theorem dX4_isAt_52 : decode cX4_isAt 52 = .ok (.getfield 9, 3) := by decide +kernel
theorem dX4_isAt_55 : decode cX4_isAt 55 = .ok (.getfield 132, 3) := by decide +kernel
theorem dX4_isAt_58 : decode cX4_isAt 58 = .ok (.aload_n 0, 1) := by decide +kernel
theorem dX4_isAt_59 : decode cX4_isAt 59 = .ok (.getfield 27, 3) := by decide +kernel
theorem dX4_isAt_62 : decode cX4_isAt 62 = .ok (.iload_n 3, 1) := by decide +kernel
theorem dX4_isAt_63 : decode cX4_isAt 63 = .ok (.iadd, 1) := by decide +kernel
theorem dX4_isAt_64 : decode cX4_isAt 64 = .ok (.iaload, 1) := by decide +kernel
theorem dX4_isAt_65 : decode cX4_isAt 65 = .ok (.aload_n 1, 1) := by decide +kernel
theorem dX4_isAt_66 : decode cX4_isAt 66 = .ok (.iload_n 3, 1) := by decide +kernel
theorem dX4_isAt_67 : decode cX4_isAt 67 = .ok (.invokevirtual 140, 3) := by decide +kernel
theorem dX4_isAt_70 : decode cX4_isAt 70 = .ok (.if_icmp .eq 5, 3) := by decide +kernel
theorem dX4_isAt_73 : decode cX4_isAt 73 = .ok (.iconst 0, 1) := by decide +kernel
theorem dX4_isAt_74 : decode cX4_isAt 74 = .ok (.ireturn, 1) := by decide +kernel
theorem dX4_isAt_75 : decode cX4_isAt 75 = .ok (.iinc 3 1, 3) := by decide +kernel
theorem dX4_isAt_78 : decode cX4_isAt 78 = .ok (.goto (-48), 3) := by decide +kernel
theorem dX4_isAt_81 : decode cX4_isAt 81 = .ok (.iconst 1, 1) := by decide +kernel
theorem dX4_isAt_82 : decode cX4_isAt 82 = .ok (.ireturn, 1) := by decide +kernel
theorem dX4_advance_0 : decode cX4_advance 0 = .ok (.aload_n 0, 1) := by decide +kernel
theorem dX4_advance_1 : decode cX4_advance 1 = .ok (.getfield 58, 3) := by decide +kernel
theorem dX4_advance_4 : decode cX4_advance 4 = .ok (.istore_n 1, 1) := by decide +kernel
theorem dX4_advance_5 : decode cX4_advance 5 = .ok (.iload_n 1, 1) := by decide +kernel
theorem dX4_advance_6 : decode cX4_advance 6 = .ok (.aload_n 0, 1) := by decide +kernel
theorem dX4_advance_7 : decode cX4_advance 7 = .ok (.getfield 9, 3) := by decide +kernel
theorem dX4_advance_10 : decode cX4_advance 10 = .ok (.getfield 127, 3) := by decide +kernel
theorem dX4_advance_13 : decode cX4_advance 13 = .ok (.if_icmp .ge 23, 3) := by decide +kernel
theorem dX4_advance_16 : decode cX4_advance 16 = .ok (.aload_n 0, 1) := by decide +kernel
theorem dX4_advance_17 : decode cX4_advance 17 = .ok (.getfield 9, 3) := by decide +kernel
theorem dX4_advance_20 : decode cX4_advance 20 = .ok (.getfield 132, 3) := by decide +kernel
theorem dX4_advance_23 : decode cX4_advance 23 = .ok (.iload_n 1, 1) := by decide +kernel
theorem dX4_advance_24 : decode cX4_advance 24 = .ok (.iaload, 1) := by decide +kernel
theorem dX4_advance_25 : decode cX4_advance 25 = .ok (.bipush 32, 2) := by decide +kernel
theorem dX4_advance_27 : decode cX4_advance 27 = .ok (.if_icmp .ne 9, 3) := by decide +kernel
theorem dX4_advance_30 : decode cX4_advance 30 = .ok (.iinc 1 1, 3) := by decide +kernel
theorem dX4_advance_33 : decode cX4_advance 33 = .ok (.goto (-28), 3) := by decide +kernel
theorem dX4_advance_36 : decode cX4_advance 36 = .ok (.aload_n 0, 1) := by decide +kernel
theorem dX4_advance_37 : decode cX4_advance 37 = .ok (.iload_n 1, 1) := by decide +kernel
theorem dX4_advance_38 : decode cX4_advance 38 = .ok (.putfield 27, 3) := by decide +kernel
theorem dX4_advance_41 : decode cX4_advance 41 = .ok (.aload_n 0, 1) := by decide +kernel
theorem dX4_advance_42 : decode cX4_advance 42 = .ok (.aload_n 0, 1) := by decide +kernel
theorem dX4_advance_43 : decode cX4_advance 43 = .ok (.iload_n 1, 1) := by decide +kernel
theorem dX4_advance_44 : decode cX4_advance 44 = .ok (.invokevirtual 144, 3) := by decide +kernel
theorem dX4_advance_47 : decode cX4_advance 47 = .ok (.putfield 19, 3) := by decide +kernel
theorem dX4_advance_50 : decode cX4_advance 50 = .ok (.aload_n 0, 1) := by decide +kernel
theorem dX4_advance_51 : decode cX4_advance 51 = .ok (.getfield 19, 3) := by decide +kernel
theorem dX4_advance_54 : decode cX4_advance 54 = .ok (.iconst 1, 1) := by decide +kernel
theorem dX4_advance_55 : decode cX4_advance 55 = .ok (.if_icmp .eq 11, 3) := by decide +kernel
theorem dX4_advance_58 : decode cX4_advance 58 = .ok (.aload_n 0, 1) := by decide +kernel
theorem dX4_advance_59 : decode cX4_advance 59 = .ok (.getfield 19, 3) := by decide +kernel
theorem dX4_advance_62 : decode cX4_advance 62 = .ok (.iconst 2, 1) := by decide +kernel
theorem dX4_advance_63 : decode cX4_advance 63 = .ok (.if_icmp .ne 7, 3) := by decide +kernel
theorem dX4_advance_66 : decode cX4_advance 66 = .ok (.iconst 1, 1) := by decide +kernel
theorem dX4_advance_67 : decode cX4_advance 67 = .ok (.goto 4, 3) := by decide +kernel
theorem dX4_advance_70 : decode cX4_advance 70 = .ok (.iconst 0, 1) := by decide +kernel
theorem dX4_advance_71 : decode cX4_advance 71 = .ok (.istore_n 2, 1) := by decide +kernel
theorem dX4_advance_72 : decode cX4_advance 72 = .ok (.iinc 1 1, 3) := by decide +kernel
theorem dX4_advance_75 : decode cX4_advance 75 = .ok (.iload_n 2, 1) := by decide +kernel
theorem dX4_advance_76 : decode cX4_advance 76 = .ok (.ifCond .eq 32, 3) := by decide +kernel
theorem dX4_advance_79 : decode cX4_advance 79 = .ok (.iload_n 1, 1) := by decide +kernel
theorem dX4_advance_80 : decode cX4_advance 80 = .ok (.aload_n 0, 1) := by decide +kernel
theorem dX4_advance_81 : decode cX4_advance 81 = .ok (.getfield 9, 3) := by decide +kernel
theorem dX4_advance_84 : decode cX4_advance 84 = .ok (.getfield 127, 3) := by decide +kernel
theorem dX4_advance_87 : decode cX4_advance 87 = .ok (.if_icmp .ge 21, 3) := by decide +kernel
theorem dX4_advance_90 : decode cX4_advance 90 = .ok (.aload_n 0, 1) := by decide +kernel
theorem dX4_advance_91 : decode cX4_advance 91 = .ok (.iload_n 1, 1) := by decide +kernel
theorem dX4_advance_92 : decode cX4_advance 92 = .ok (.invokevirtual 144, 3) := by decide +kernel
theorem dX4_advance_95 : decode cX4_advance 95 = .ok (.aload_n 0, 1) := by decide +kernel
theorem dX4_advance_96 : decode cX4_advance 96 = .ok (.getfield 19, 3) := by decide +kernel
theorem dX4_advance_99 : decode cX4_advance 99 = .ok (.if_icmp .ne 9, 3) := by decide +kernel
theorem dX4_advance_102 : decode cX4_advance 102 = .ok (.iinc 1 1, 3) := by decide +kernel
theorem dX4_advance_105 : decode cX4_advance 105 = .ok (.goto (-30), 3) := by decide +kernel
theorem dX4_advance_108 : decode cX4_advance 108 = .ok (.aload_n 0, 1) := by decide +kernel
theorem dX4_advance_109 : decode cX4_advance 109 = .ok (.iload_n 1, 1) := by decide +kernel
theorem dX4_advance_110 : decode cX4_advance 110 = .ok (.aload_n 0, 1) := by decide +kernel
theorem dX4_advance_111 : decode cX4_advance 111 = .ok (.getfield 9, 3) := by decide +kernel
theorem dX4_advance_114 : decode cX4_advance 114 = .ok (.getfield 127, 3) := by decide +kernel
theorem dX4_advance_117 : decode cX4_advance 117 = .ok (.invokestatic 148, 3) := by decide +kernel
theorem dX4_advance_120 : decode cX4_advance 120 = .ok (.putfield 58, 3) := by decide +kernel
theorem dX4_advance_123 : decode cX4_advance 123 = .ok (.return_, 1) := by decide +kernel
theorem dX4_sortAt_0 : decode cX4_sortAt 0 = .ok (.iload_n 1, 1) := by decide +kernel
theorem dX4_sortAt_1 : decode cX4_sortAt 1 = .ok (.ifCond .lt 14, 3) := by decide +kernel
theorem dX4_sortAt_4 : decode cX4_sortAt 4 = .ok (.iload_n 1, 1) := by decide +kernel
theorem dX4_sortAt_5 : decode cX4_sortAt 5 = .ok (.aload_n 0, 1) := by decide +kernel
theorem dX4_sortAt_6 : decode cX4_sortAt 6 = .ok (.getfield 9, 3) := by decide +kernel
theorem dX4_sortAt_9 : decode cX4_sortAt 9 = .ok (.getfield 127, 3) := by decide +kernel
theorem dX4_sortAt_12 : decode cX4_sortAt 12 = .ok (.if_icmp .lt 5, 3) := by decide +kernel
theorem dX4_sortAt_15 : decode cX4_sortAt 15 = .ok (.iconst 0, 1) := by decide +kernel
theorem dX4_sortAt_16 : decode cX4_sortAt 16 = .ok (.ireturn, 1) := by decide +kernel
theorem dX4_sortAt_17 : decode cX4_sortAt 17 = .ok (.aload_n 0, 1) := by decide +kernel
theorem dX4_sortAt_18 : decode cX4_sortAt 18 = .ok (.getfield 9, 3) := by decide +kernel
theorem dX4_sortAt_21 : decode cX4_sortAt 21 = .ok (.getfield 132, 3) := by decide +kernel
theorem dX4_sortAt_24 : decode cX4_sortAt 24 = .ok (.iload_n 1, 1) := by decide +kernel
theorem dX4_sortAt_25 : decode cX4_sortAt 25 = .ok (.iaload, 1) := by decide +kernel
theorem dX4_sortAt_26 : decode cX4_sortAt 26 = .ok (.istore_n 2, 1) := by decide +kernel
theorem dX4_sortAt_27 : decode cX4_sortAt 27 = .ok (.iload_n 2, 1) := by decide +kernel
theorem dX4_sortAt_28 : decode cX4_sortAt 28 = .ok (.bipush 97, 2) := by decide +kernel
theorem dX4_sortAt_30 : decode cX4_sortAt 30 = .ok (.if_icmp .lt 11, 3) := by decide +kernel
theorem dX4_sortAt_33 : decode cX4_sortAt 33 = .ok (.iload_n 2, 1) := by decide +kernel
theorem dX4_sortAt_34 : decode cX4_sortAt 34 = .ok (.bipush 122, 2) := by decide +kernel
theorem dX4_sortAt_36 : decode cX4_sortAt 36 = .ok (.if_icmp .gt 5, 3) := by decide +kernel
theorem dX4_sortAt_39 : decode cX4_sortAt 39 = .ok (.iconst 1, 1) := by decide +kernel
theorem dX4_sortAt_40 : decode cX4_sortAt 40 = .ok (.ireturn, 1) := by decide +kernel
theorem dX4_sortAt_41 : decode cX4_sortAt 41 = .ok (.iload_n 2, 1) := by decide +kernel
theorem dX4_sortAt_42 : decode cX4_sortAt 42 = .ok (.bipush 48, 2) := by decide +kernel
theorem dX4_sortAt_44 : decode cX4_sortAt 44 = .ok (.if_icmp .lt 11, 3) := by decide +kernel
theorem dX4_sortAt_47 : decode cX4_sortAt 47 = .ok (.iload_n 2, 1) := by decide +kernel
theorem dX4_sortAt_48 : decode cX4_sortAt 48 = .ok (.bipush 57, 2) := by decide +kernel
theorem dX4_sortAt_50 : decode cX4_sortAt 50 = .ok (.if_icmp .gt 5, 3) := by decide +kernel
theorem dX4_sortAt_53 : decode cX4_sortAt 53 = .ok (.iconst 2, 1) := by decide +kernel
theorem dX4_sortAt_54 : decode cX4_sortAt 54 = .ok (.ireturn, 1) := by decide +kernel
theorem dX4_sortAt_55 : decode cX4_sortAt 55 = .ok (.iload_n 2, 1) := by decide +kernel
theorem dX4_sortAt_56 : decode cX4_sortAt 56 = .ok (.bipush 59, 2) := by decide +kernel
theorem dX4_sortAt_58 : decode cX4_sortAt 58 = .ok (.if_icmp .ne 7, 3) := by decide +kernel
theorem dX4_sortAt_61 : decode cX4_sortAt 61 = .ok (.iconst 3, 1) := by decide +kernel
theorem dX4_sortAt_62 : decode cX4_sortAt 62 = .ok (.goto 4, 3) := by decide +kernel
theorem dX4_sortAt_65 : decode cX4_sortAt 65 = .ok (.iconst 4, 1) := by decide +kernel
theorem dX4_sortAt_66 : decode cX4_sortAt 66 = .ok (.ireturn, 1) := by decide +kernel
theorem dX6_init_0 : decode cX6_init 0 = .ok (.aload_n 0, 1) := by decide +kernel
theorem dX6_init_1 : decode cX6_init 1 = .ok (.invokespecial 3, 3) := by decide +kernel
theorem dX6_init_4 : decode cX6_init 4 = .ok (.aload_n 0, 1) := by decide +kernel
theorem dX6_init_5 : decode cX6_init 5 = .ok (.sipush 250, 3) := by decide +kernel
theorem dX6_init_8 : decode cX6_init 8 = .ok (.anewarray 9, 3) := by decide +kernel
theorem dX6_init_11 : decode cX6_init 11 = .ok (.putfield 11, 3) := by decide +kernel
theorem dX6_init_14 : decode cX6_init 14 = .ok (.aload_n 0, 1) := by decide +kernel
theorem dX6_init_15 : decode cX6_init 15 = .ok (.bipush 6, 2) := by decide +kernel
theorem dX6_init_17 : decode cX6_init 17 = .ok (.sipush 250, 3) := by decide +kernel
theorem dX6_init_20 : decode cX6_init 20 = .ok (.multianewarray 17 2, 4) := by decide +kernel
theorem dX6_init_24 : decode cX6_init 24 = .ok (.putfield 19, 3) := by decide +kernel
theorem dX6_init_27 : decode cX6_init 27 = .ok (.aload_n 0, 1) := by decide +kernel
theorem dX6_init_28 : decode cX6_init 28 = .ok (.bipush 6, 2) := by decide +kernel
theorem dX6_init_30 : decode cX6_init 30 = .ok (.newarray .int, 2) := by decide +kernel
theorem dX6_init_32 : decode cX6_init 32 = .ok (.putfield 22, 3) := by decide +kernel
theorem dX6_init_35 : decode cX6_init 35 = .ok (.aload_n 0, 1) := by decide +kernel
theorem dX6_init_36 : decode cX6_init 36 = .ok (.bipush 6, 2) := by decide +kernel
theorem dX6_init_38 : decode cX6_init 38 = .ok (.bipush 31, 2) := by decide +kernel
theorem dX6_init_40 : decode cX6_init 40 = .ok (.multianewarray 17 2, 4) := by decide +kernel
theorem dX6_init_44 : decode cX6_init 44 = .ok (.putfield 26, 3) := by decide +kernel
theorem dX6_init_47 : decode cX6_init 47 = .ok (.aload_n 0, 1) := by decide +kernel
theorem dX6_init_48 : decode cX6_init 48 = .ok (.bipush 6, 2) := by decide +kernel
theorem dX6_init_50 : decode cX6_init 50 = .ok (.bipush 31, 2) := by decide +kernel
theorem dX6_init_52 : decode cX6_init 52 = .ok (.multianewarray 17 2, 4) := by decide +kernel
theorem dX6_init_56 : decode cX6_init 56 = .ok (.putfield 29, 3) := by decide +kernel
theorem dX6_init_59 : decode cX6_init 59 = .ok (.aload_n 0, 1) := by decide +kernel
theorem dX6_init_60 : decode cX6_init 60 = .ok (.bipush 6, 2) := by decide +kernel
theorem dX6_init_62 : decode cX6_init 62 = .ok (.bipush 31, 2) := by decide +kernel
theorem dX6_init_64 : decode cX6_init 64 = .ok (.multianewarray 17 2, 4) := by decide +kernel
theorem dX6_init_68 : decode cX6_init 68 = .ok (.putfield 32, 3) := by decide +kernel
theorem dX6_init_71 : decode cX6_init 71 = .ok (.aload_n 0, 1) := by decide +kernel
theorem dX6_init_72 : decode cX6_init 72 = .ok (.bipush 6, 2) := by decide +kernel
theorem dX6_init_74 : decode cX6_init 74 = .ok (.bipush 31, 2) := by decide +kernel
theorem dX6_init_76 : decode cX6_init 76 = .ok (.multianewarray 17 2, 4) := by decide +kernel
theorem dX6_init_80 : decode cX6_init 80 = .ok (.putfield 35, 3) := by decide +kernel
theorem dX6_init_83 : decode cX6_init 83 = .ok (.aload_n 0, 1) := by decide +kernel
theorem dX6_init_84 : decode cX6_init 84 = .ok (.bipush 31, 2) := by decide +kernel
theorem dX6_init_86 : decode cX6_init 86 = .ok (.bipush 31, 2) := by decide +kernel
theorem dX6_init_88 : decode cX6_init 88 = .ok (.multianewarray 17 2, 4) := by decide +kernel
theorem dX6_init_92 : decode cX6_init 92 = .ok (.putfield 38, 3) := by decide +kernel
theorem dX6_init_95 : decode cX6_init 95 = .ok (.aload_n 0, 1) := by decide +kernel
theorem dX6_init_96 : decode cX6_init 96 = .ok (.sipush 250, 3) := by decide +kernel
theorem dX6_init_99 : decode cX6_init 99 = .ok (.newarray .int, 2) := by decide +kernel
theorem dX6_init_101 : decode cX6_init 101 = .ok (.putfield 41, 3) := by decide +kernel
theorem dX6_init_104 : decode cX6_init 104 = .ok (.aload_n 0, 1) := by decide +kernel
theorem dX6_init_105 : decode cX6_init 105 = .ok (.new 44, 3) := by decide +kernel
theorem dX6_init_108 : decode cX6_init 108 = .ok (.dup, 1) := by decide +kernel
theorem dX6_init_109 : decode cX6_init 109 = .ok (.invokespecial 46, 3) := by decide +kernel
theorem dX6_init_112 : decode cX6_init 112 = .ok (.putfield 47, 3) := by decide +kernel
theorem dX6_init_115 : decode cX6_init 115 = .ok (.aload_n 0, 1) := by decide +kernel
theorem dX6_init_116 : decode cX6_init 116 = .ok (.iconst (-1), 1) := by decide +kernel
theorem dX6_init_117 : decode cX6_init 117 = .ok (.putfield 51, 3) := by decide +kernel
theorem dX6_init_120 : decode cX6_init 120 = .ok (.aload_n 0, 1) := by decide +kernel
theorem dX6_init_121 : decode cX6_init 121 = .ok (.aload_n 1, 1) := by decide +kernel
theorem dX6_init_122 : decode cX6_init 122 = .ok (.putfield 55, 3) := by decide +kernel
theorem dX6_init_125 : decode cX6_init 125 = .ok (.return_, 1) := by decide +kernel
theorem dX6_goOver_0 : decode cX6_goOver 0 = .ok (.iload_n 2, 1) := by decide +kernel
theorem dX6_goOver_1 : decode cX6_goOver 1 = .ok (.aload_n 0, 1) := by decide +kernel
theorem dX6_goOver_2 : decode cX6_goOver 2 = .ok (.getfield 51, 3) := by decide +kernel
theorem dX6_goOver_5 : decode cX6_goOver 5 = .ok (.if_icmp .ne 26, 3) := by decide +kernel
theorem dX6_goOver_8 : decode cX6_goOver 8 = .ok (.iload_n 3, 1) := by decide +kernel
theorem dX6_goOver_9 : decode cX6_goOver 9 = .ok (.aload_n 0, 1) := by decide +kernel
theorem dX6_goOver_10 : decode cX6_goOver 10 = .ok (.getfield 59, 3) := by decide +kernel
theorem dX6_goOver_13 : decode cX6_goOver 13 = .ok (.if_icmp .ne 18, 3) := by decide +kernel
theorem dX6_goOver_16 : decode cX6_goOver 16 = .ok (.aload_n 0, 1) := by decide +kernel
theorem dX6_goOver_17 : decode cX6_goOver 17 = .ok (.getfield 55, 3) := by decide +kernel
theorem dX6_goOver_20 : decode cX6_goOver 20 = .ok (.getfield 62, 3) := by decide +kernel
theorem dX6_goOver_23 : decode cX6_goOver 23 = .ok (.aload_n 0, 1) := by decide +kernel
theorem dX6_goOver_24 : decode cX6_goOver 24 = .ok (.getfield 67, 3) := by decide +kernel
theorem dX6_goOver_27 : decode cX6_goOver 27 = .ok (.if_icmp .ne 4, 3) := by decide +kernel
theorem dX6_goOver_30 : decode cX6_goOver 30 = .ok (.return_, 1) := by decide +kernel
theorem dX6_goOver_31 : decode cX6_goOver 31 = .ok (.aload_n 0, 1) := by decide +kernel
theorem dX6_goOver_32 : decode cX6_goOver 32 = .ok (.aload_n 1, 1) := by decide +kernel
theorem dX6_goOver_33 : decode cX6_goOver 33 = .ok (.putfield 47, 3) := by decide +kernel
theorem dX6_goOver_36 : decode cX6_goOver 36 = .ok (.aload_n 0, 1) := by decide +kernel
theorem dX6_goOver_37 : decode cX6_goOver 37 = .ok (.iload_n 2, 1) := by decide +kernel
theorem dX6_goOver_38 : decode cX6_goOver 38 = .ok (.putfield 51, 3) := by decide +kernel
theorem dX6_goOver_41 : decode cX6_goOver 41 = .ok (.aload_n 0, 1) := by decide +kernel
theorem dX6_goOver_42 : decode cX6_goOver 42 = .ok (.iload_n 3, 1) := by decide +kernel
theorem dX6_goOver_43 : decode cX6_goOver 43 = .ok (.putfield 59, 3) := by decide +kernel
theorem dX6_goOver_46 : decode cX6_goOver 46 = .ok (.aload_n 0, 1) := by decide +kernel
theorem dX6_goOver_47 : decode cX6_goOver 47 = .ok (.aload_n 0, 1) := by decide +kernel
theorem dX6_goOver_48 : decode cX6_goOver 48 = .ok (.getfield 55, 3) := by decide +kernel
theorem dX6_goOver_51 : decode cX6_goOver 51 = .ok (.getfield 62, 3) := by decide +kernel
theorem dX6_goOver_54 : decode cX6_goOver 54 = .ok (.putfield 67, 3) := by decide +kernel
theorem dX6_goOver_57 : decode cX6_goOver 57 = .ok (.aload_n 0, 1) := by decide +kernel
theorem dX6_goOver_58 : decode cX6_goOver 58 = .ok (.aload_n 0, 1) := by decide +kernel
theorem dX6_goOver_59 : decode cX6_goOver 59 = .ok (.getfield 55, 3) := by decide +kernel
theorem dX6_goOver_62 : decode cX6_goOver 62 = .ok (.iload_n 3, 1) := by decide +kernel
theorem dX6_goOver_63 : decode cX6_goOver 63 = .ok (.invokevirtual 70, 3) := by decide +kernel
theorem dX6_goOver_66 : decode cX6_goOver 66 = .ok (.putfield 74, 3) := by decide +kernel
theorem dX6_goOver_69 : decode cX6_goOver 69 = .ok (.aload_n 0, 1) := by decide +kernel
theorem dX6_goOver_70 : decode cX6_goOver 70 = .ok (.invokevirtual 77, 3) := by decide +kernel
theorem dX6_goOver_73 : decode cX6_goOver 73 = .ok (.iconst 0, 1) := by decide +kernel
theorem dX6_goOver_74 : decode cX6_goOver 74 = .ok (.istore 4, 2) := by decide +kernel
theorem dX6_goOver_76 : decode cX6_goOver 76 = .ok (.iconst 0, 1) := by decide +kernel
theorem dX6_goOver_77 : decode cX6_goOver 77 = .ok (.istore 5, 2) := by decide +kernel
theorem dX6_goOver_79 : decode cX6_goOver 79 = .ok (.iload 5, 2) := by decide +kernel
theorem dX6_goOver_81 : decode cX6_goOver 81 = .ok (.aload_n 0, 1) := by decide +kernel
theorem dX6_goOver_82 : decode cX6_goOver 82 = .ok (.getfield 55, 3) := by decide +kernel
theorem dX6_goOver_85 : decode cX6_goOver 85 = .ok (.getfield 62, 3) := by decide +kernel
theorem dX6_goOver_88 : decode cX6_goOver 88 = .ok (.if_icmp .ge 72, 3) := by decide +kernel
theorem dX6_goOver_91 : decode cX6_goOver 91 = .ok (.aload_n 0, 1) := by decide +kernel
theorem dX6_goOver_92 : decode cX6_goOver 92 = .ok (.getfield 55, 3) := by decide +kernel
theorem dX6_goOver_95 : decode cX6_goOver 95 = .ok (.getfield 80, 3) := by decide +kernel
theorem dX6_goOver_98 : decode cX6_goOver 98 = .ok (.iload 5, 2) := by decide +kernel
theorem dX6_goOver_100 : decode cX6_goOver 100 = .ok (.aaload, 1) := by decide +kernel
theorem dX6_goOver_101 : decode cX6_goOver 101 = .ok (.astore 6, 2) := by decide +kernel
theorem dX6_goOver_103 : decode cX6_goOver 103 = .ok (.aload 6, 2) := by decide +kernel
theorem dX6_goOver_105 : decode cX6_goOver 105 = .ok (.getfield 83, 3) := by decide +kernel
theorem dX6_goOver_108 : decode cX6_goOver 108 = .ok (.aload_n 0, 1) := by decide +kernel
theorem dX6_goOver_109 : decode cX6_goOver 109 = .ok (.getfield 55, 3) := by decide +kernel
theorem dX6_goOver_112 : decode cX6_goOver 112 = .ok (.getfield 80, 3) := by decide +kernel
theorem dX6_goOver_115 : decode cX6_goOver 115 = .ok (.iload 4, 2) := by decide +kernel
theorem dX6_goOver_117 : decode cX6_goOver 117 = .ok (.aaload, 1) := by decide +kernel
theorem dX6_goOver_118 : decode cX6_goOver 118 = .ok (.getfield 83, 3) := by decide +kernel
theorem dX6_goOver_121 : decode cX6_goOver 121 = .ok (.if_icmp .le 15, 3) := by decide +kernel
theorem dX6_goOver_124 : decode cX6_goOver 124 = .ok (.aload_n 0, 1) := by decide +kernel
theorem dX6_goOver_125 : decode cX6_goOver 125 = .ok (.iload 4, 2) := by decide +kernel
theorem dX6_goOver_127 : decode cX6_goOver 127 = .ok (.iload 5, 2) := by decide +kernel
theorem dX6_goOver_129 : decode cX6_goOver 129 = .ok (.invokevirtual 86, 3) := by decide +kernel
theorem dX6_goOver_132 : decode cX6_goOver 132 = .ok (.iload 5, 2) := by decide +kernel
theorem dX6_goOver_134 : decode cX6_goOver 134 = .ok (.istore 4, 2) := by decide +kernel
theorem dX6_goOver_136 : decode cX6_goOver 136 = .ok (.aload 6, 2) := by decide +kernel
theorem dX6_goOver_138 : decode cX6_goOver 138 = .ok (.getfield 90, 3) := by decide +kernel
theorem dX6_goOver_141 : decode cX6_goOver 141 = .ok (.aload_n 0, 1) := by decide +kernel
theorem dX6_goOver_142 : decode cX6_goOver 142 = .ok (.getfield 74, 3) := by decide +kernel
theorem dX6_goOver_145 : decode cX6_goOver 145 = .ok (.if_icmp .ge 9, 3) := by decide +kernel
theorem dX6_goOver_148 : decode cX6_goOver 148 = .ok (.aload_n 0, 1) := by decide +kernel
theorem dX6_goOver_149 : decode cX6_goOver 149 = .ok (.aload 6, 2) := by decide +kernel
theorem dX6_goOver_151 : decode cX6_goOver 151 = .ok (.invokevirtual 93, 3) := by decide +kernel
theorem dX6_goOver_154 : decode cX6_goOver 154 = .ok (.iinc 5 1, 3) := by decide +kernel
theorem dX6_goOver_157 : decode cX6_goOver 157 = .ok (.goto (-78), 3) := by decide +kernel
theorem dX6_goOver_160 : decode cX6_goOver 160 = .ok (.aload_n 0, 1) := by decide +kernel
theorem dX6_goOver_161 : decode cX6_goOver 161 = .ok (.iload 4, 2) := by decide +kernel
theorem dX6_goOver_163 : decode cX6_goOver 163 = .ok (.aload_n 0, 1) := by decide +kernel
theorem dX6_goOver_164 : decode cX6_goOver 164 = .ok (.getfield 55, 3) := by decide +kernel
theorem dX6_goOver_167 : decode cX6_goOver 167 = .ok (.getfield 62, 3) := by decide +kernel
theorem dX6_goOver_170 : decode cX6_goOver 170 = .ok (.invokevirtual 86, 3) := by decide +kernel
theorem dX6_goOver_173 : decode cX6_goOver 173 = .ok (.aload_n 0, 1) := by decide +kernel
theorem dX6_goOver_174 : decode cX6_goOver 174 = .ok (.invokevirtual 97, 3) := by decide +kernel
theorem dX6_goOver_177 : decode cX6_goOver 177 = .ok (.return_, 1) := by decide +kernel
theorem dX6_clear_0 : decode cX6_clear 0 = .ok (.aload_n 0, 1) := by decide +kernel
theorem dX6_clear_1 : decode cX6_clear 1 = .ok (.iconst 0, 1) := by decide +kernel
theorem dX6_clear_2 : decode cX6_clear 2 = .ok (.putfield 100, 3) := by decide +kernel
theorem dX6_clear_5 : decode cX6_clear 5 = .ok (.aload_n 0, 1) := by decide +kernel
theorem dX6_clear_6 : decode cX6_clear 6 = .ok (.getfield 22, 3) := by decide +kernel
theorem dX6_clear_9 : decode cX6_clear 9 = .ok (.iconst 0, 1) := by decide +kernel
theorem dX6_clear_10 : decode cX6_clear 10 = .ok (.invokestatic 103, 3) := by decide +kernel
theorem dX6_clear_13 : decode cX6_clear 13 = .ok (.aload_n 0, 1) := by decide +kernel
theorem dX6_clear_14 : decode cX6_clear 14 = .ok (.getfield 41, 3) := by decide +kernel
theorem dX6_clear_17 : decode cX6_clear 17 = .ok (.iconst (-1), 1) := by decide +kernel
theorem dX6_clear_18 : decode cX6_clear 18 = .ok (.invokestatic 103, 3) := by decide +kernel
theorem dX6_clear_21 : decode cX6_clear 21 = .ok (.iconst 0, 1) := by decide +kernel
theorem dX6_clear_22 : decode cX6_clear 22 = .ok (.istore_n 1, 1) := by decide +kernel
theorem dX6_clear_23 : decode cX6_clear 23 = .ok (.iload_n 1, 1) := by decide +kernel
theorem dX6_clear_24 : decode cX6_clear 24 = .ok (.bipush 6, 2) := by decide +kernel
theorem dX6_clear_26 : decode cX6_clear 26 = .ok (.if_icmp .ge 50, 3) := by decide +kernel
theorem dX6_clear_29 : decode cX6_clear 29 = .ok (.aload_n 0, 1) := by decide +kernel
theorem dX6_clear_30 : decode cX6_clear 30 = .ok (.getfield 26, 3) := by decide +kernel
theorem dX6_clear_33 : decode cX6_clear 33 = .ok (.iload_n 1, 1) := by decide +kernel
theorem dX6_clear_34 : decode cX6_clear 34 = .ok (.aaload, 1) := by decide +kernel
theorem dX6_clear_35 : decode cX6_clear 35 = .ok (.iconst (-1), 1) := by decide +kernel
theorem dX6_clear_36 : decode cX6_clear 36 = .ok (.invokestatic 103, 3) := by decide +kernel
theorem dX6_clear_39 : decode cX6_clear 39 = .ok (.aload_n 0, 1) := by decide +kernel
theorem dX6_clear_40 : decode cX6_clear 40 = .ok (.getfield 29, 3) := by decide +kernel
theorem dX6_clear_43 : decode cX6_clear 43 = .ok (.iload_n 1, 1) := by decide +kernel
theorem dX6_clear_44 : decode cX6_clear 44 = .ok (.aaload, 1) := by decide +kernel
theorem dX6_clear_45 : decode cX6_clear 45 = .ok (.iconst (-1), 1) := by decide +kernel
theorem dX6_clear_46 : decode cX6_clear 46 = .ok (.invokestatic 103, 3) := by decide +kernel
theorem dX6_clear_49 : decode cX6_clear 49 = .ok (.aload_n 0, 1) := by decide +kernel
theorem dX6_clear_50 : decode cX6_clear 50 = .ok (.getfield 32, 3) := by decide +kernel
theorem dX6_clear_53 : decode cX6_clear 53 = .ok (.iload_n 1, 1) := by decide +kernel
theorem dX6_clear_54 : decode cX6_clear 54 = .ok (.aaload, 1) := by decide +kernel
theorem dX6_clear_55 : decode cX6_clear 55 = .ok (.iconst (-1), 1) := by decide +kernel
theorem dX6_clear_56 : decode cX6_clear 56 = .ok (.invokestatic 103, 3) := by decide +kernel
theorem dX6_clear_59 : decode cX6_clear 59 = .ok (.aload_n 0, 1) := by decide +kernel
theorem dX6_clear_60 : decode cX6_clear 60 = .ok (.getfield 35, 3) := by decide +kernel
theorem dX6_clear_63 : decode cX6_clear 63 = .ok (.iload_n 1, 1) := by decide +kernel
theorem dX6_clear_64 : decode cX6_clear 64 = .ok (.aaload, 1) := by decide +kernel
theorem dX6_clear_65 : decode cX6_clear 65 = .ok (.ldc 109, 2) := by decide +kernel
theorem dX6_clear_67 : decode cX6_clear 67 = .ok (.invokestatic 103, 3) := by decide +kernel
theorem dX6_clear_70 : decode cX6_clear 70 = .ok (.iinc 1 1, 3) := by decide +kernel
theorem dX6_clear_73 : decode cX6_clear 73 = .ok (.goto (-50), 3) := by decide +kernel
theorem dX6_clear_76 : decode cX6_clear 76 = .ok (.iconst 0, 1) := by decide +kernel
theorem dX6_clear_77 : decode cX6_clear 77 = .ok (.istore_n 1, 1) := by decide +kernel
theorem dX6_clear_78 : decode cX6_clear 78 = .ok (.iload_n 1, 1) := by decide +kernel
theorem dX6_clear_79 : decode cX6_clear 79 = .ok (.bipush 31, 2) := by decide +kernel
theorem dX6_clear_81 : decode cX6_clear 81 = .ok (.if_icmp .ge 31, 3) := by decide +kernel
theorem dX6_clear_84 : decode cX6_clear 84 = .ok (.aload_n 0, 1) := by decide +kernel
theorem dX6_clear_85 : decode cX6_clear 85 = .ok (.getfield 47, 3) := by decide +kernel
theorem dX6_clear_88 : decode cX6_clear 88 = .ok (.getfield 110, 3) := by decide +kernel
theorem dX6_clear_91 : decode cX6_clear 91 = .ok (.iconst (-1), 1) := by decide +kernel
theorem dX6_clear_92 : decode cX6_clear 92 = .ok (.if_icmp .eq 20, 3) := by decide +kernel
theorem dX6_clear_95 : decode cX6_clear 95 = .ok (.aload_n 0, 1) := by decide +kernel
theorem dX6_clear_96 : decode cX6_clear 96 = .ok (.getfield 38, 3) := by decide +kernel
theorem dX6_clear_99 : decode cX6_clear 99 = .ok (.iload_n 1, 1) := by decide +kernel
theorem dX6_clear_100 : decode cX6_clear 100 = .ok (.aaload, 1) := by decide +kernel
theorem dX6_clear_101 : decode cX6_clear 101 = .ok (.ldc 113, 2) := by decide +kernel
theorem dX6_clear_103 : decode cX6_clear 103 = .ok (.invokestatic 103, 3) := by decide +kernel
theorem dX6_clear_106 : decode cX6_clear 106 = .ok (.iinc 1 1, 3) := by decide +kernel
theorem dX6_clear_109 : decode cX6_clear 109 = .ok (.goto (-31), 3) := by decide +kernel
theorem dX6_clear_112 : decode cX6_clear 112 = .ok (.return_, 1) := by decide +kernel
theorem dX6_reach_0 : decode cX6_reach 0 = .ok (.aload_n 0, 1) := by decide +kernel
theorem dX6_reach_1 : decode cX6_reach 1 = .ok (.getfield 41, 3) := by decide +kernel
theorem dX6_reach_4 : decode cX6_reach 4 = .ok (.aload_n 1, 1) := by decide +kernel
theorem dX6_reach_5 : decode cX6_reach 5 = .ok (.getfield 114, 3) := by decide +kernel
theorem dX6_reach_8 : decode cX6_reach 8 = .ok (.iaload, 1) := by decide +kernel
theorem dX6_reach_9 : decode cX6_reach 9 = .ok (.iconst (-1), 1) := by decide +kernel
theorem dX6_reach_10 : decode cX6_reach 10 = .ok (.if_icmp .ne 16, 3) := by decide +kernel
theorem dX6_reach_13 : decode cX6_reach 13 = .ok (.aload_n 0, 1) := by decide +kernel
theorem dX6_reach_14 : decode cX6_reach 14 = .ok (.getfield 41, 3) := by decide +kernel
theorem dX6_reach_17 : decode cX6_reach 17 = .ok (.aload_n 1, 1) := by decide +kernel
theorem dX6_reach_18 : decode cX6_reach 18 = .ok (.getfield 114, 3) := by decide +kernel
theorem dX6_reach_21 : decode cX6_reach 21 = .ok (.aload_n 1, 1) := by decide +kernel
theorem dX6_reach_22 : decode cX6_reach 22 = .ok (.getfield 83, 3) := by decide +kernel
theorem dX6_reach_25 : decode cX6_reach 25 = .ok (.iastore, 1) := by decide +kernel
theorem dX6_reach_26 : decode cX6_reach 26 = .ok (.iconst 0, 1) := by decide +kernel
theorem dX6_reach_27 : decode cX6_reach 27 = .ok (.istore_n 2, 1) := by decide +kernel
theorem dX6_reach_28 : decode cX6_reach 28 = .ok (.iload_n 2, 1) := by decide +kernel
theorem dX6_reach_29 : decode cX6_reach 29 = .ok (.aload_n 0, 1) := by decide +kernel
theorem dX6_reach_30 : decode cX6_reach 30 = .ok (.getfield 47, 3) := by decide +kernel
theorem dX6_reach_33 : decode cX6_reach 33 = .ok (.getfield 117, 3) := by decide +kernel
theorem dX6_reach_36 : decode cX6_reach 36 = .ok (.if_icmp .ge 46, 3) := by decide +kernel
theorem dX6_reach_39 : decode cX6_reach 39 = .ok (.aload_n 0, 1) := by decide +kernel
theorem dX6_reach_40 : decode cX6_reach 40 = .ok (.getfield 47, 3) := by decide +kernel
theorem dX6_reach_43 : decode cX6_reach 43 = .ok (.getfield 120, 3) := by decide +kernel
theorem dX6_reach_46 : decode cX6_reach 46 = .ok (.iload_n 2, 1) := by decide +kernel
theorem dX6_reach_47 : decode cX6_reach 47 = .ok (.aaload, 1) := by decide +kernel
theorem dX6_reach_48 : decode cX6_reach 48 = .ok (.astore_n 3, 1) := by decide +kernel
theorem dX6_reach_49 : decode cX6_reach 49 = .ok (.aload_n 3, 1) := by decide +kernel
theorem dX6_reach_50 : decode cX6_reach 50 = .ok (.getfield 124, 3) := by decide +kernel
theorem dX6_reach_53 : decode cX6_reach 53 = .ok (.ifCond .ne 23, 3) := by decide +kernel
theorem dX6_reach_56 : decode cX6_reach 56 = .ok (.aload_n 0, 1) := by decide +kernel
theorem dX6_reach_57 : decode cX6_reach 57 = .ok (.getfield 19, 3) := by decide +kernel
theorem dX6_reach_60 : decode cX6_reach 60 = .ok (.aload_n 3, 1) := by decide +kernel
theorem dX6_reach_61 : decode cX6_reach 61 = .ok (.getfield 130, 3) := by decide +kernel
theorem dX6_reach_64 : decode cX6_reach 64 = .ok (.aaload, 1) := by decide +kernel
theorem dX6_reach_65 : decode cX6_reach 65 = .ok (.aload_n 1, 1) := by decide +kernel
theorem dX6_reach_66 : decode cX6_reach 66 = .ok (.getfield 90, 3) := by decide +kernel
theorem dX6_reach_69 : decode cX6_reach 69 = .ok (.aload_n 0, 1) := by decide +kernel
theorem dX6_reach_70 : decode cX6_reach 70 = .ok (.aload_n 3, 1) := by decide +kernel
theorem dX6_reach_71 : decode cX6_reach 71 = .ok (.aload_n 1, 1) := by decide +kernel
theorem dX6_reach_72 : decode cX6_reach 72 = .ok (.invokevirtual 133, 3) := by decide +kernel
theorem dX6_reach_75 : decode cX6_reach 75 = .ok (.iastore, 1) := by decide +kernel
theorem dX6_reach_76 : decode cX6_reach 76 = .ok (.iinc 2 1, 3) := by decide +kernel
theorem dX6_reach_79 : decode cX6_reach 79 = .ok (.goto (-51), 3) := by decide +kernel
theorem dX6_reach_82 : decode cX6_reach 82 = .ok (.return_, 1) := by decide +kernel
theorem dX6_reachAt_0 : decode cX6_reachAt 0 = .ok (.aload_n 1, 1) := by decide +kernel
theorem dX6_reachAt_1 : decode cX6_reachAt 1 = .ok (.aload_n 2, 1) := by decide +kernel
theorem dX6_reachAt_2 : decode cX6_reachAt 2 = .ok (.invokevirtual 137, 3) := by decide +kernel
theorem dX6_reachAt_5 : decode cX6_reachAt 5 = .ok (.ifCond .eq 26, 3) := by decide +kernel
theorem dX6_reachAt_8 : decode cX6_reachAt 8 = .ok (.aload_n 1, 1) := by decide +kernel
theorem dX6_reachAt_9 : decode cX6_reachAt 9 = .ok (.getfield 141, 3) := by decide +kernel
theorem dX6_reachAt_12 : decode cX6_reachAt 12 = .ok (.ifCond .eq 22, 3) := by decide +kernel
theorem dX6_reachAt_15 : decode cX6_reachAt 15 = .ok (.aload_n 0, 1) := by decide +kernel
theorem dX6_reachAt_16 : decode cX6_reachAt 16 = .ok (.getfield 41, 3) := by decide +kernel
theorem dX6_reachAt_19 : decode cX6_reachAt 19 = .ok (.aload_n 2, 1) := by decide +kernel
theorem dX6_reachAt_20 : decode cX6_reachAt 20 = .ok (.getfield 114, 3) := by decide +kernel
theorem dX6_reachAt_23 : decode cX6_reachAt 23 = .ok (.iaload, 1) := by decide +kernel
theorem dX6_reachAt_24 : decode cX6_reachAt 24 = .ok (.aload_n 2, 1) := by decide +kernel
theorem dX6_reachAt_25 : decode cX6_reachAt 25 = .ok (.getfield 83, 3) := by decide +kernel
theorem dX6_reachAt_28 : decode cX6_reachAt 28 = .ok (.if_icmp .ge 6, 3) := by decide +kernel
theorem dX6_reachAt_31 : decode cX6_reachAt 31 = .ok (.bipush (-2), 2) := by decide +kernel
theorem dX6_reachAt_33 : decode cX6_reachAt 33 = .ok (.ireturn, 1) := by decide +kernel
theorem dX6_reachAt_34 : decode cX6_reachAt 34 = .ok (.aload_n 0, 1) := by decide +kernel
theorem dX6_reachAt_35 : decode cX6_reachAt 35 = .ok (.getfield 22, 3) := by decide +kernel
theorem dX6_reachAt_38 : decode cX6_reachAt 38 = .ok (.aload_n 1, 1) := by decide +kernel
theorem dX6_reachAt_39 : decode cX6_reachAt 39 = .ok (.getfield 130, 3) := by decide +kernel
theorem dX6_reachAt_42 : decode cX6_reachAt 42 = .ok (.dup2, 1) := by decide +kernel
theorem dX6_reachAt_43 : decode cX6_reachAt 43 = .ok (.iaload, 1) := by decide +kernel
theorem dX6_reachAt_44 : decode cX6_reachAt 44 = .ok (.iconst 1, 1) := by decide +kernel
theorem dX6_reachAt_45 : decode cX6_reachAt 45 = .ok (.iadd, 1) := by decide +kernel
theorem dX6_reachAt_46 : decode cX6_reachAt 46 = .ok (.iastore, 1) := by decide +kernel
theorem dX6_reachAt_47 : decode cX6_reachAt 47 = .ok (.aload_n 2, 1) := by decide +kernel
theorem dX6_reachAt_48 : decode cX6_reachAt 48 = .ok (.aload_n 0, 1) := by decide +kernel
theorem dX6_reachAt_49 : decode cX6_reachAt 49 = .ok (.getfield 47, 3) := by decide +kernel
theorem dX6_reachAt_52 : decode cX6_reachAt 52 = .ok (.getfield 144, 3) := by decide +kernel
theorem dX6_reachAt_55 : decode cX6_reachAt 55 = .ok (.invokevirtual 147, 3) := by decide +kernel
theorem dX6_reachAt_58 : decode cX6_reachAt 58 = .ok (.istore_n 3, 1) := by decide +kernel
theorem dX6_reachAt_59 : decode cX6_reachAt 59 = .ok (.aload_n 1, 1) := by decide +kernel
theorem dX6_reachAt_60 : decode cX6_reachAt 60 = .ok (.getfield 130, 3) := by decide +kernel
theorem dX6_reachAt_63 : decode cX6_reachAt 63 = .ok (.aload_n 0, 1) := by decide +kernel
theorem dX6_reachAt_64 : decode cX6_reachAt 64 = .ok (.getfield 47, 3) := by decide +kernel
theorem dX6_reachAt_67 : decode cX6_reachAt 67 = .ok (.getfield 150, 3) := by decide +kernel
theorem dX6_reachAt_70 : decode cX6_reachAt 70 = .ok (.iconst 1, 1) := by decide +kernel
theorem dX6_reachAt_71 : decode cX6_reachAt 71 = .ok (.isub, 1) := by decide +kernel
theorem dX6_reachAt_72 : decode cX6_reachAt 72 = .ok (.if_icmp .ne 36, 3) := by decide +kernel
theorem dX6_reachAt_75 : decode cX6_reachAt 75 = .ok (.aload_n 0, 1) := by decide +kernel
theorem dX6_reachAt_76 : decode cX6_reachAt 76 = .ok (.getfield 47, 3) := by decide +kernel
theorem dX6_reachAt_79 : decode cX6_reachAt 79 = .ok (.getfield 110, 3) := by decide +kernel
theorem dX6_reachAt_82 : decode cX6_reachAt 82 = .ok (.iconst (-1), 1) := by decide +kernel
theorem dX6_reachAt_83 : decode cX6_reachAt 83 = .ok (.if_icmp .eq 25, 3) := by decide +kernel
theorem dX6_reachAt_86 : decode cX6_reachAt 86 = .ok (.aload_n 0, 1) := by decide +kernel
theorem dX6_reachAt_87 : decode cX6_reachAt 87 = .ok (.getfield 38, 3) := by decide +kernel
theorem dX6_reachAt_90 : decode cX6_reachAt 90 = .ok (.iload_n 3, 1) := by decide +kernel
theorem dX6_reachAt_91 : decode cX6_reachAt 91 = .ok (.aaload, 1) := by decide +kernel
theorem dX6_reachAt_92 : decode cX6_reachAt 92 = .ok (.aload_n 2, 1) := by decide +kernel
theorem dX6_reachAt_93 : decode cX6_reachAt 93 = .ok (.aload_n 0, 1) := by decide +kernel
theorem dX6_reachAt_94 : decode cX6_reachAt 94 = .ok (.getfield 47, 3) := by decide +kernel
theorem dX6_reachAt_97 : decode cX6_reachAt 97 = .ok (.getfield 110, 3) := by decide +kernel
theorem dX6_reachAt_100 : decode cX6_reachAt 100 = .ok (.invokevirtual 147, 3) := by decide +kernel
theorem dX6_reachAt_103 : decode cX6_reachAt 103 = .ok (.aload_n 2, 1) := by decide +kernel
theorem dX6_reachAt_104 : decode cX6_reachAt 104 = .ok (.getfield 83, 3) := by decide +kernel
theorem dX6_reachAt_107 : decode cX6_reachAt 107 = .ok (.iastore, 1) := by decide +kernel
theorem dX6_reachAt_108 : decode cX6_reachAt 108 = .ok (.aload_n 1, 1) := by decide +kernel
theorem dX6_reachAt_109 : decode cX6_reachAt 109 = .ok (.getfield 130, 3) := by decide +kernel
theorem dX6_reachAt_112 : decode cX6_reachAt 112 = .ok (.ifCond .ne 7, 3) := by decide +kernel
theorem dX6_reachAt_115 : decode cX6_reachAt 115 = .ok (.iconst (-1), 1) := by decide +kernel
theorem dX6_reachAt_116 : decode cX6_reachAt 116 = .ok (.goto 13, 3) := by decide +kernel
theorem dX6_reachAt_119 : decode cX6_reachAt 119 = .ok (.aload_n 0, 1) := by decide +kernel
theorem dX6_reachAt_120 : decode cX6_reachAt 120 = .ok (.aload_n 1, 1) := by decide +kernel
theorem dX6_reachAt_121 : decode cX6_reachAt 121 = .ok (.aload_n 2, 1) := by decide +kernel
theorem dX6_reachAt_122 : decode cX6_reachAt 122 = .ok (.getfield 83, 3) := by decide +kernel
theorem dX6_reachAt_125 : decode cX6_reachAt 125 = .ok (.iload_n 3, 1) := by decide +kernel
theorem dX6_reachAt_126 : decode cX6_reachAt 126 = .ok (.invokevirtual 153, 3) := by decide +kernel
theorem dX6_reachAt_129 : decode cX6_reachAt 129 = .ok (.ireturn, 1) := by decide +kernel
theorem dX6_actAhead_0 : decode cX6_actAhead 0 = .ok (.aload_n 0, 1) := by decide +kernel
theorem dX6_actAhead_1 : decode cX6_actAhead 1 = .ok (.getfield 29, 3) := by decide +kernel
theorem dX6_actAhead_4 : decode cX6_actAhead 4 = .ok (.aload_n 1, 1) := by decide +kernel
theorem dX6_actAhead_5 : decode cX6_actAhead 5 = .ok (.getfield 130, 3) := by decide +kernel
theorem dX6_actAhead_8 : decode cX6_actAhead 8 = .ok (.iconst 1, 1) := by decide +kernel
theorem dX6_actAhead_9 : decode cX6_actAhead 9 = .ok (.isub, 1) := by decide +kernel
theorem dX6_actAhead_10 : decode cX6_actAhead 10 = .ok (.aaload, 1) := by decide +kernel
theorem dX6_actAhead_11 : decode cX6_actAhead 11 = .ok (.iload_n 3, 1) := by decide +kernel
theorem dX6_actAhead_12 : decode cX6_actAhead 12 = .ok (.iaload, 1) := by decide +kernel
theorem dX6_actAhead_13 : decode cX6_actAhead 13 = .ok (.istore 4, 2) := by decide +kernel
theorem dX6_actAhead_15 : decode cX6_actAhead 15 = .ok (.iload 4, 2) := by decide +kernel
theorem dX6_actAhead_17 : decode cX6_actAhead 17 = .ok (.iconst (-1), 1) := by decide +kernel
theorem dX6_actAhead_18 : decode cX6_actAhead 18 = .ok (.if_icmp .eq 19, 3) := by decide +kernel
theorem dX6_actAhead_21 : decode cX6_actAhead 21 = .ok (.aload_n 0, 1) := by decide +kernel
theorem dX6_actAhead_22 : decode cX6_actAhead 22 = .ok (.getfield 32, 3) := by decide +kernel
theorem dX6_actAhead_25 : decode cX6_actAhead 25 = .ok (.aload_n 1, 1) := by decide +kernel
theorem dX6_actAhead_26 : decode cX6_actAhead 26 = .ok (.getfield 130, 3) := by decide +kernel
theorem dX6_actAhead_29 : decode cX6_actAhead 29 = .ok (.aaload, 1) := by decide +kernel
theorem dX6_actAhead_30 : decode cX6_actAhead 30 = .ok (.iload_n 3, 1) := by decide +kernel
theorem dX6_actAhead_31 : decode cX6_actAhead 31 = .ok (.iaload, 1) := by decide +kernel
theorem dX6_actAhead_32 : decode cX6_actAhead 32 = .ok (.iload 4, 2) := by decide +kernel
theorem dX6_actAhead_34 : decode cX6_actAhead 34 = .ok (.if_icmp .le 6, 3) := by decide +kernel
theorem dX6_actAhead_37 : decode cX6_actAhead 37 = .ok (.bipush (-2), 2) := by decide +kernel
theorem dX6_actAhead_39 : decode cX6_actAhead 39 = .ok (.ireturn, 1) := by decide +kernel
theorem dX6_actAhead_40 : decode cX6_actAhead 40 = .ok (.aload_n 1, 1) := by decide +kernel
theorem dX6_actAhead_41 : decode cX6_actAhead 41 = .ok (.getfield 157, 3) := by decide +kernel
theorem dX6_actAhead_44 : decode cX6_actAhead 44 = .ok (.iconst (-1), 1) := by decide +kernel
theorem dX6_actAhead_45 : decode cX6_actAhead 45 = .ok (.if_icmp .eq 18, 3) := by decide +kernel
theorem dX6_actAhead_48 : decode cX6_actAhead 48 = .ok (.iload_n 2, 1) := by decide +kernel
theorem dX6_actAhead_49 : decode cX6_actAhead 49 = .ok (.iload 4, 2) := by decide +kernel
theorem dX6_actAhead_51 : decode cX6_actAhead 51 = .ok (.isub, 1) := by decide +kernel
theorem dX6_actAhead_52 : decode cX6_actAhead 52 = .ok (.aload_n 1, 1) := by decide +kernel
theorem dX6_actAhead_53 : decode cX6_actAhead 53 = .ok (.getfield 157, 3) := by decide +kernel
theorem dX6_actAhead_56 : decode cX6_actAhead 56 = .ok (.if_icmp .le 7, 3) := by decide +kernel
theorem dX6_actAhead_59 : decode cX6_actAhead 59 = .ok (.iconst 1, 1) := by decide +kernel
theorem dX6_actAhead_60 : decode cX6_actAhead 60 = .ok (.goto 4, 3) := by decide +kernel
theorem dX6_actAhead_63 : decode cX6_actAhead 63 = .ok (.iconst 0, 1) := by decide +kernel
theorem dX6_actAhead_64 : decode cX6_actAhead 64 = .ok (.istore 5, 2) := by decide +kernel
theorem dX6_actAhead_66 : decode cX6_actAhead 66 = .ok (.iload 5, 2) := by decide +kernel
theorem dX6_actAhead_68 : decode cX6_actAhead 68 = .ok (.ifCond .eq 8, 3) := by decide +kernel
theorem dX6_actAhead_71 : decode cX6_actAhead 71 = .ok (.bipush (-2), 2) := by decide +kernel
theorem dX6_actAhead_73 : decode cX6_actAhead 73 = .ok (.goto 16, 3) := by decide +kernel
theorem dX6_actAhead_76 : decode cX6_actAhead 76 = .ok (.aload_n 0, 1) := by decide +kernel
theorem dX6_actAhead_77 : decode cX6_actAhead 77 = .ok (.getfield 26, 3) := by decide +kernel
theorem dX6_actAhead_80 : decode cX6_actAhead 80 = .ok (.aload_n 1, 1) := by decide +kernel
theorem dX6_actAhead_81 : decode cX6_actAhead 81 = .ok (.getfield 130, 3) := by decide +kernel
theorem dX6_actAhead_84 : decode cX6_actAhead 84 = .ok (.iconst 1, 1) := by decide +kernel
theorem dX6_actAhead_85 : decode cX6_actAhead 85 = .ok (.isub, 1) := by decide +kernel
theorem dX6_actAhead_86 : decode cX6_actAhead 86 = .ok (.aaload, 1) := by decide +kernel
theorem dX6_actAhead_87 : decode cX6_actAhead 87 = .ok (.iload_n 3, 1) := by decide +kernel
theorem dX6_actAhead_88 : decode cX6_actAhead 88 = .ok (.iaload, 1) := by decide +kernel
theorem dX6_actAhead_89 : decode cX6_actAhead 89 = .ok (.ireturn, 1) := by decide +kernel
theorem dX6_settle_0 : decode cX6_settle 0 = .ok (.iload_n 1, 1) := by decide +kernel
theorem dX6_settle_1 : decode cX6_settle 1 = .ok (.istore_n 3, 1) := by decide +kernel
theorem dX6_settle_2 : decode cX6_settle 2 = .ok (.iload_n 3, 1) := by decide +kernel
theorem dX6_settle_3 : decode cX6_settle 3 = .ok (.iload_n 2, 1) := by decide +kernel
theorem dX6_settle_4 : decode cX6_settle 4 = .ok (.if_icmp .ge 44, 3) := by decide +kernel
theorem dX6_settle_7 : decode cX6_settle 7 = .ok (.aload_n 0, 1) := by decide +kernel
theorem dX6_settle_8 : decode cX6_settle 8 = .ok (.getfield 55, 3) := by decide +kernel
theorem dX6_settle_11 : decode cX6_settle 11 = .ok (.getfield 80, 3) := by decide +kernel
theorem dX6_settle_14 : decode cX6_settle 14 = .ok (.iload_n 3, 1) := by decide +kernel
theorem dX6_settle_15 : decode cX6_settle 15 = .ok (.aaload, 1) := by decide +kernel
theorem dX6_settle_16 : decode cX6_settle 16 = .ok (.astore 4, 2) := by decide +kernel
theorem dX6_settle_18 : decode cX6_settle 18 = .ok (.aload 4, 2) := by decide +kernel
theorem dX6_settle_20 : decode cX6_settle 20 = .ok (.getfield 90, 3) := by decide +kernel
theorem dX6_settle_23 : decode cX6_settle 23 = .ok (.aload_n 0, 1) := by decide +kernel
theorem dX6_settle_24 : decode cX6_settle 24 = .ok (.getfield 74, 3) := by decide +kernel
theorem dX6_settle_27 : decode cX6_settle 27 = .ok (.if_icmp .ge 15, 3) := by decide +kernel
theorem dX6_settle_30 : decode cX6_settle 30 = .ok (.aload_n 0, 1) := by decide +kernel
theorem dX6_settle_31 : decode cX6_settle 31 = .ok (.aload 4, 2) := by decide +kernel
theorem dX6_settle_33 : decode cX6_settle 33 = .ok (.invokevirtual 160, 3) := by decide +kernel
theorem dX6_settle_36 : decode cX6_settle 36 = .ok (.aload_n 0, 1) := by decide +kernel
theorem dX6_settle_37 : decode cX6_settle 37 = .ok (.aload 4, 2) := by decide +kernel
theorem dX6_settle_39 : decode cX6_settle 39 = .ok (.invokevirtual 163, 3) := by decide +kernel
theorem dX6_settle_42 : decode cX6_settle 42 = .ok (.iinc 3 1, 3) := by decide +kernel
theorem dX6_settle_45 : decode cX6_settle 45 = .ok (.goto (-43), 3) := by decide +kernel
theorem dX6_settle_48 : decode cX6_settle 48 = .ok (.return_, 1) := by decide +kernel
theorem dX6_settleSteps_0 : decode cX6_settleSteps 0 = .ok (.aload_n 1, 1) := by decide +kernel
theorem dX6_settleSteps_1 : decode cX6_settleSteps 1 = .ok (.aload_n 0, 1) := by decide +kernel
theorem dX6_settleSteps_2 : decode cX6_settleSteps 2 = .ok (.getfield 47, 3) := by decide +kernel
theorem dX6_settleSteps_5 : decode cX6_settleSteps 5 = .ok (.getfield 144, 3) := by decide +kernel
theorem dX6_settleSteps_8 : decode cX6_settleSteps 8 = .ok (.invokevirtual 147, 3) := by decide +kernel
theorem dX6_settleSteps_11 : decode cX6_settleSteps 11 = .ok (.istore_n 2, 1) := by decide +kernel
theorem dX6_settleSteps_12 : decode cX6_settleSteps 12 = .ok (.iconst 0, 1) := by decide +kernel
theorem dX6_settleSteps_13 : decode cX6_settleSteps 13 = .ok (.istore_n 3, 1) := by decide +kernel
theorem dX6_settleSteps_14 : decode cX6_settleSteps 14 = .ok (.iload_n 3, 1) := by decide +kernel
theorem dX6_settleSteps_15 : decode cX6_settleSteps 15 = .ok (.aload_n 0, 1) := by decide +kernel
theorem dX6_settleSteps_16 : decode cX6_settleSteps 16 = .ok (.getfield 47, 3) := by decide +kernel
theorem dX6_settleSteps_19 : decode cX6_settleSteps 19 = .ok (.getfield 117, 3) := by decide +kernel
theorem dX6_settleSteps_22 : decode cX6_settleSteps 22 = .ok (.if_icmp .ge 108, 3) := by decide +kernel
theorem dX6_settleSteps_25 : decode cX6_settleSteps 25 = .ok (.aload_n 0, 1) := by decide +kernel
theorem dX6_settleSteps_26 : decode cX6_settleSteps 26 = .ok (.getfield 47, 3) := by decide +kernel
theorem dX6_settleSteps_29 : decode cX6_settleSteps 29 = .ok (.getfield 120, 3) := by decide +kernel
theorem dX6_settleSteps_32 : decode cX6_settleSteps 32 = .ok (.iload_n 3, 1) := by decide +kernel
theorem dX6_settleSteps_33 : decode cX6_settleSteps 33 = .ok (.aaload, 1) := by decide +kernel
theorem dX6_settleSteps_34 : decode cX6_settleSteps 34 = .ok (.astore 4, 2) := by decide +kernel
theorem dX6_settleSteps_36 : decode cX6_settleSteps 36 = .ok (.aload 4, 2) := by decide +kernel
theorem dX6_settleSteps_38 : decode cX6_settleSteps 38 = .ok (.getfield 124, 3) := by decide +kernel
theorem dX6_settleSteps_41 : decode cX6_settleSteps 41 = .ok (.ifCond .eq 31, 3) := by decide +kernel
theorem dX6_settleSteps_44 : decode cX6_settleSteps 44 = .ok (.aload 4, 2) := by decide +kernel
theorem dX6_settleSteps_46 : decode cX6_settleSteps 46 = .ok (.aload_n 1, 1) := by decide +kernel
theorem dX6_settleSteps_47 : decode cX6_settleSteps 47 = .ok (.invokevirtual 137, 3) := by decide +kernel
theorem dX6_settleSteps_50 : decode cX6_settleSteps 50 = .ok (.ifCond .eq 74, 3) := by decide +kernel
theorem dX6_settleSteps_53 : decode cX6_settleSteps 53 = .ok (.aload_n 0, 1) := by decide +kernel
theorem dX6_settleSteps_54 : decode cX6_settleSteps 54 = .ok (.getfield 32, 3) := by decide +kernel
theorem dX6_settleSteps_57 : decode cX6_settleSteps 57 = .ok (.aload 4, 2) := by decide +kernel
theorem dX6_settleSteps_59 : decode cX6_settleSteps 59 = .ok (.getfield 130, 3) := by decide +kernel
theorem dX6_settleSteps_62 : decode cX6_settleSteps 62 = .ok (.aaload, 1) := by decide +kernel
theorem dX6_settleSteps_63 : decode cX6_settleSteps 63 = .ok (.iload_n 2, 1) := by decide +kernel
theorem dX6_settleSteps_64 : decode cX6_settleSteps 64 = .ok (.aload_n 1, 1) := by decide +kernel
theorem dX6_settleSteps_65 : decode cX6_settleSteps 65 = .ok (.getfield 83, 3) := by decide +kernel
theorem dX6_settleSteps_68 : decode cX6_settleSteps 68 = .ok (.iastore, 1) := by decide +kernel
theorem dX6_settleSteps_69 : decode cX6_settleSteps 69 = .ok (.goto 55, 3) := by decide +kernel
theorem dX6_settleSteps_72 : decode cX6_settleSteps 72 = .ok (.aload_n 0, 1) := by decide +kernel
theorem dX6_settleSteps_73 : decode cX6_settleSteps 73 = .ok (.getfield 19, 3) := by decide +kernel
theorem dX6_settleSteps_76 : decode cX6_settleSteps 76 = .ok (.aload 4, 2) := by decide +kernel
theorem dX6_settleSteps_78 : decode cX6_settleSteps 78 = .ok (.getfield 130, 3) := by decide +kernel
theorem dX6_settleSteps_81 : decode cX6_settleSteps 81 = .ok (.aaload, 1) := by decide +kernel
theorem dX6_settleSteps_82 : decode cX6_settleSteps 82 = .ok (.aload_n 1, 1) := by decide +kernel
theorem dX6_settleSteps_83 : decode cX6_settleSteps 83 = .ok (.getfield 90, 3) := by decide +kernel
theorem dX6_settleSteps_86 : decode cX6_settleSteps 86 = .ok (.iaload, 1) := by decide +kernel
theorem dX6_settleSteps_87 : decode cX6_settleSteps 87 = .ok (.bipush (-2), 2) := by decide +kernel
theorem dX6_settleSteps_89 : decode cX6_settleSteps 89 = .ok (.if_icmp .eq 35, 3) := by decide +kernel
theorem dX6_settleSteps_92 : decode cX6_settleSteps 92 = .ok (.aload_n 0, 1) := by decide +kernel
theorem dX6_settleSteps_93 : decode cX6_settleSteps 93 = .ok (.getfield 26, 3) := by decide +kernel
theorem dX6_settleSteps_96 : decode cX6_settleSteps 96 = .ok (.aload 4, 2) := by decide +kernel
theorem dX6_settleSteps_98 : decode cX6_settleSteps 98 = .ok (.getfield 130, 3) := by decide +kernel
theorem dX6_settleSteps_101 : decode cX6_settleSteps 101 = .ok (.aaload, 1) := by decide +kernel
theorem dX6_settleSteps_102 : decode cX6_settleSteps 102 = .ok (.iload_n 2, 1) := by decide +kernel
theorem dX6_settleSteps_103 : decode cX6_settleSteps 103 = .ok (.aload_n 1, 1) := by decide +kernel
theorem dX6_settleSteps_104 : decode cX6_settleSteps 104 = .ok (.getfield 90, 3) := by decide +kernel
theorem dX6_settleSteps_107 : decode cX6_settleSteps 107 = .ok (.iastore, 1) := by decide +kernel
theorem dX6_settleSteps_108 : decode cX6_settleSteps 108 = .ok (.aload_n 0, 1) := by decide +kernel
theorem dX6_settleSteps_109 : decode cX6_settleSteps 109 = .ok (.getfield 29, 3) := by decide +kernel
theorem dX6_settleSteps_112 : decode cX6_settleSteps 112 = .ok (.aload 4, 2) := by decide +kernel
theorem dX6_settleSteps_114 : decode cX6_settleSteps 114 = .ok (.getfield 130, 3) := by decide +kernel
theorem dX6_settleSteps_117 : decode cX6_settleSteps 117 = .ok (.aaload, 1) := by decide +kernel
theorem dX6_settleSteps_118 : decode cX6_settleSteps 118 = .ok (.iload_n 2, 1) := by decide +kernel
theorem dX6_settleSteps_119 : decode cX6_settleSteps 119 = .ok (.aload_n 1, 1) := by decide +kernel
theorem dX6_settleSteps_120 : decode cX6_settleSteps 120 = .ok (.getfield 83, 3) := by decide +kernel
theorem dX6_settleSteps_123 : decode cX6_settleSteps 123 = .ok (.iastore, 1) := by decide +kernel
theorem dX6_settleSteps_124 : decode cX6_settleSteps 124 = .ok (.iinc 3 1, 3) := by decide +kernel
theorem dX6_settleSteps_127 : decode cX6_settleSteps 127 = .ok (.goto (-113), 3) := by decide +kernel
theorem dX6_settleSteps_130 : decode cX6_settleSteps 130 = .ok (.return_, 1) := by decide +kernel
theorem dX6_settleEnd_0 : decode cX6_settleEnd 0 = .ok (.aload_n 0, 1) := by decide +kernel
theorem dX6_settleEnd_1 : decode cX6_settleEnd 1 = .ok (.getfield 47, 3) := by decide +kernel
theorem dX6_settleEnd_4 : decode cX6_settleEnd 4 = .ok (.getfield 150, 3) := by decide +kernel
theorem dX6_settleEnd_7 : decode cX6_settleEnd 7 = .ok (.iconst 1, 1) := by decide +kernel
theorem dX6_settleEnd_8 : decode cX6_settleEnd 8 = .ok (.isub, 1) := by decide +kernel
theorem dX6_settleEnd_9 : decode cX6_settleEnd 9 = .ok (.istore_n 2, 1) := by decide +kernel
theorem dX6_settleEnd_10 : decode cX6_settleEnd 10 = .ok (.iload_n 2, 1) := by decide +kernel
theorem dX6_settleEnd_11 : decode cX6_settleEnd 11 = .ok (.ifCond .lt 23, 3) := by decide +kernel
theorem dX6_settleEnd_14 : decode cX6_settleEnd 14 = .ok (.aload_n 0, 1) := by decide +kernel
theorem dX6_settleEnd_15 : decode cX6_settleEnd 15 = .ok (.getfield 19, 3) := by decide +kernel
theorem dX6_settleEnd_18 : decode cX6_settleEnd 18 = .ok (.iload_n 2, 1) := by decide +kernel
theorem dX6_settleEnd_19 : decode cX6_settleEnd 19 = .ok (.aaload, 1) := by decide +kernel
theorem dX6_settleEnd_20 : decode cX6_settleEnd 20 = .ok (.aload_n 1, 1) := by decide +kernel
theorem dX6_settleEnd_21 : decode cX6_settleEnd 21 = .ok (.getfield 90, 3) := by decide +kernel
theorem dX6_settleEnd_24 : decode cX6_settleEnd 24 = .ok (.iaload, 1) := by decide +kernel
theorem dX6_settleEnd_25 : decode cX6_settleEnd 25 = .ok (.bipush (-2), 2) := by decide +kernel
theorem dX6_settleEnd_27 : decode cX6_settleEnd 27 = .ok (.if_icmp .eq 7, 3) := by decide +kernel
theorem dX6_settleEnd_30 : decode cX6_settleEnd 30 = .ok (.iconst 1, 1) := by decide +kernel
theorem dX6_settleEnd_31 : decode cX6_settleEnd 31 = .ok (.goto 4, 3) := by decide +kernel
theorem dX6_settleEnd_34 : decode cX6_settleEnd 34 = .ok (.iconst 0, 1) := by decide +kernel
theorem dX6_settleEnd_35 : decode cX6_settleEnd 35 = .ok (.istore_n 3, 1) := by decide +kernel
theorem dX6_settleEnd_36 : decode cX6_settleEnd 36 = .ok (.iload_n 3, 1) := by decide +kernel
theorem dX6_settleEnd_37 : decode cX6_settleEnd 37 = .ok (.ifCond .eq 55, 3) := by decide +kernel
theorem dX6_settleEnd_40 : decode cX6_settleEnd 40 = .ok (.aload_n 0, 1) := by decide +kernel
theorem dX6_settleEnd_41 : decode cX6_settleEnd 41 = .ok (.aload_n 1, 1) := by decide +kernel
theorem dX6_settleEnd_42 : decode cX6_settleEnd 42 = .ok (.getfield 83, 3) := by decide +kernel
theorem dX6_settleEnd_45 : decode cX6_settleEnd 45 = .ok (.aload_n 1, 1) := by decide +kernel
theorem dX6_settleEnd_46 : decode cX6_settleEnd 46 = .ok (.aload_n 0, 1) := by decide +kernel
theorem dX6_settleEnd_47 : decode cX6_settleEnd 47 = .ok (.getfield 47, 3) := by decide +kernel
theorem dX6_settleEnd_50 : decode cX6_settleEnd 50 = .ok (.getfield 144, 3) := by decide +kernel
theorem dX6_settleEnd_53 : decode cX6_settleEnd 53 = .ok (.invokevirtual 147, 3) := by decide +kernel
theorem dX6_settleEnd_56 : decode cX6_settleEnd 56 = .ok (.invokevirtual 166, 3) := by decide +kernel
theorem dX6_settleEnd_59 : decode cX6_settleEnd 59 = .ok (.ifCond .eq 33, 3) := by decide +kernel
theorem dX6_settleEnd_62 : decode cX6_settleEnd 62 = .ok (.aload_n 0, 1) := by decide +kernel
theorem dX6_settleEnd_63 : decode cX6_settleEnd 63 = .ok (.getfield 100, 3) := by decide +kernel
theorem dX6_settleEnd_66 : decode cX6_settleEnd 66 = .ok (.sipush 250, 3) := by decide +kernel
theorem dX6_settleEnd_69 : decode cX6_settleEnd 69 = .ok (.if_icmp .ge 23, 3) := by decide +kernel
theorem dX6_settleEnd_72 : decode cX6_settleEnd 72 = .ok (.aload_n 0, 1) := by decide +kernel
theorem dX6_settleEnd_73 : decode cX6_settleEnd 73 = .ok (.getfield 11, 3) := by decide +kernel
theorem dX6_settleEnd_76 : decode cX6_settleEnd 76 = .ok (.aload_n 0, 1) := by decide +kernel
theorem dX6_settleEnd_77 : decode cX6_settleEnd 77 = .ok (.getfield 100, 3) := by decide +kernel
theorem dX6_settleEnd_80 : decode cX6_settleEnd 80 = .ok (.aload_n 1, 1) := by decide +kernel
theorem dX6_settleEnd_81 : decode cX6_settleEnd 81 = .ok (.aastore, 1) := by decide +kernel
theorem dX6_settleEnd_82 : decode cX6_settleEnd 82 = .ok (.aload_n 0, 1) := by decide +kernel
theorem dX6_settleEnd_83 : decode cX6_settleEnd 83 = .ok (.dup, 1) := by decide +kernel
theorem dX6_settleEnd_84 : decode cX6_settleEnd 84 = .ok (.getfield 100, 3) := by decide +kernel
theorem dX6_settleEnd_87 : decode cX6_settleEnd 87 = .ok (.iconst 1, 1) := by decide +kernel
theorem dX6_settleEnd_88 : decode cX6_settleEnd 88 = .ok (.iadd, 1) := by decide +kernel
theorem dX6_settleEnd_89 : decode cX6_settleEnd 89 = .ok (.putfield 100, 3) := by decide +kernel
theorem dX6_settleEnd_92 : decode cX6_settleEnd 92 = .ok (.return_, 1) := by decide +kernel
theorem dX6_isSpread_0 : decode cX6_isSpread 0 = .ok (.aload_n 0, 1) := by decide +kernel
theorem dX6_isSpread_1 : decode cX6_isSpread 1 = .ok (.getfield 47, 3) := by decide +kernel
theorem dX6_isSpread_4 : decode cX6_isSpread 4 = .ok (.getfield 110, 3) := by decide +kernel
theorem dX6_isSpread_7 : decode cX6_isSpread 7 = .ok (.iconst (-1), 1) := by decide +kernel
theorem dX6_isSpread_8 : decode cX6_isSpread 8 = .ok (.if_icmp .ne 5, 3) := by decide +kernel
theorem dX6_isSpread_11 : decode cX6_isSpread 11 = .ok (.iconst 1, 1) := by decide +kernel
theorem dX6_isSpread_12 : decode cX6_isSpread 12 = .ok (.ireturn, 1) := by decide +kernel
theorem dX6_isSpread_13 : decode cX6_isSpread 13 = .ok (.iconst 0, 1) := by decide +kernel
theorem dX6_isSpread_14 : decode cX6_isSpread 14 = .ok (.istore_n 3, 1) := by decide +kernel
theorem dX6_isSpread_15 : decode cX6_isSpread 15 = .ok (.iconst 0, 1) := by decide +kernel
theorem dX6_isSpread_16 : decode cX6_isSpread 16 = .ok (.istore 4, 2) := by decide +kernel
theorem dX6_isSpread_18 : decode cX6_isSpread 18 = .ok (.iload 4, 2) := by decide +kernel
theorem dX6_isSpread_20 : decode cX6_isSpread 20 = .ok (.bipush 31, 2) := by decide +kernel
theorem dX6_isSpread_22 : decode cX6_isSpread 22 = .ok (.if_icmp .ge 33, 3) := by decide +kernel
theorem dX6_isSpread_25 : decode cX6_isSpread 25 = .ok (.aload_n 0, 1) := by decide +kernel
theorem dX6_isSpread_26 : decode cX6_isSpread 26 = .ok (.getfield 38, 3) := by decide +kernel
theorem dX6_isSpread_29 : decode cX6_isSpread 29 = .ok (.iload_n 2, 1) := by decide +kernel
theorem dX6_isSpread_30 : decode cX6_isSpread 30 = .ok (.aaload, 1) := by decide +kernel
theorem dX6_isSpread_31 : decode cX6_isSpread 31 = .ok (.iload 4, 2) := by decide +kernel
theorem dX6_isSpread_33 : decode cX6_isSpread 33 = .ok (.iaload, 1) := by decide +kernel
theorem dX6_isSpread_34 : decode cX6_isSpread 34 = .ok (.iload_n 1, 1) := by decide +kernel
theorem dX6_isSpread_35 : decode cX6_isSpread 35 = .ok (.aload_n 0, 1) := by decide +kernel
theorem dX6_isSpread_36 : decode cX6_isSpread 36 = .ok (.getfield 47, 3) := by decide +kernel
theorem dX6_isSpread_39 : decode cX6_isSpread 39 = .ok (.getfield 170, 3) := by decide +kernel
theorem dX6_isSpread_42 : decode cX6_isSpread 42 = .ok (.isub, 1) := by decide +kernel
theorem dX6_isSpread_43 : decode cX6_isSpread 43 = .ok (.if_icmp .le 6, 3) := by decide +kernel
theorem dX6_isSpread_46 : decode cX6_isSpread 46 = .ok (.iinc 3 1, 3) := by decide +kernel
theorem dX6_isSpread_49 : decode cX6_isSpread 49 = .ok (.iinc 4 1, 3) := by decide +kernel
theorem dX6_isSpread_52 : decode cX6_isSpread 52 = .ok (.goto (-34), 3) := by decide +kernel
theorem dX6_isSpread_55 : decode cX6_isSpread 55 = .ok (.iload_n 3, 1) := by decide +kernel
theorem dX6_isSpread_56 : decode cX6_isSpread 56 = .ok (.aload_n 0, 1) := by decide +kernel
theorem dX6_isSpread_57 : decode cX6_isSpread 57 = .ok (.getfield 47, 3) := by decide +kernel
theorem dX6_isSpread_60 : decode cX6_isSpread 60 = .ok (.getfield 173, 3) := by decide +kernel
theorem dX6_isSpread_63 : decode cX6_isSpread 63 = .ok (.if_icmp .lt 7, 3) := by decide +kernel
theorem dX6_isSpread_66 : decode cX6_isSpread 66 = .ok (.iconst 1, 1) := by decide +kernel
theorem dX6_isSpread_67 : decode cX6_isSpread 67 = .ok (.goto 4, 3) := by decide +kernel
theorem dX6_isSpread_70 : decode cX6_isSpread 70 = .ok (.iconst 0, 1) := by decide +kernel
theorem dX6_isSpread_71 : decode cX6_isSpread 71 = .ok (.ireturn, 1) := by decide +kernel
theorem dX6_dropDisturbed_0 : decode cX6_dropDisturbed 0 = .ok (.aload_n 0, 1) := by decide +kernel
theorem dX6_dropDisturbed_1 : decode cX6_dropDisturbed 1 = .ok (.getfield 47, 3) := by decide +kernel
theorem dX6_dropDisturbed_4 : decode cX6_dropDisturbed 4 = .ok (.getfield 117, 3) := by decide +kernel
theorem dX6_dropDisturbed_7 : decode cX6_dropDisturbed 7 = .ok (.iconst 1, 1) := by decide +kernel
theorem dX6_dropDisturbed_8 : decode cX6_dropDisturbed 8 = .ok (.isub, 1) := by decide +kernel
theorem dX6_dropDisturbed_9 : decode cX6_dropDisturbed 9 = .ok (.istore_n 1, 1) := by decide +kernel
theorem dX6_dropDisturbed_10 : decode cX6_dropDisturbed 10 = .ok (.iload_n 1, 1) := by decide +kernel
theorem dX6_dropDisturbed_11 : decode cX6_dropDisturbed 11 = .ok (.ifCond .lt 18, 3) := by decide +kernel
theorem dX6_dropDisturbed_14 : decode cX6_dropDisturbed 14 = .ok (.aload_n 0, 1) := by decide +kernel
theorem dX6_dropDisturbed_15 : decode cX6_dropDisturbed 15 = .ok (.getfield 47, 3) := by decide +kernel
theorem dX6_dropDisturbed_18 : decode cX6_dropDisturbed 18 = .ok (.getfield 120, 3) := by decide +kernel
theorem dX6_dropDisturbed_21 : decode cX6_dropDisturbed 21 = .ok (.iload_n 1, 1) := by decide +kernel
theorem dX6_dropDisturbed_22 : decode cX6_dropDisturbed 22 = .ok (.aaload, 1) := by decide +kernel
theorem dX6_dropDisturbed_23 : decode cX6_dropDisturbed 23 = .ok (.getfield 124, 3) := by decide +kernel
theorem dX6_dropDisturbed_26 : decode cX6_dropDisturbed 26 = .ok (.ifCond .ne 4, 3) := by decide +kernel
theorem dX6_dropDisturbed_29 : decode cX6_dropDisturbed 29 = .ok (.return_, 1) := by decide +kernel
theorem dX6_dropDisturbed_30 : decode cX6_dropDisturbed 30 = .ok (.aload_n 0, 1) := by decide +kernel
theorem dX6_dropDisturbed_31 : decode cX6_dropDisturbed 31 = .ok (.getfield 100, 3) := by decide +kernel
theorem dX6_dropDisturbed_34 : decode cX6_dropDisturbed 34 = .ok (.istore_n 2, 1) := by decide +kernel
theorem dX6_dropDisturbed_35 : decode cX6_dropDisturbed 35 = .ok (.aload_n 0, 1) := by decide +kernel
theorem dX6_dropDisturbed_36 : decode cX6_dropDisturbed 36 = .ok (.getfield 100, 3) := by decide +kernel
theorem dX6_dropDisturbed_39 : decode cX6_dropDisturbed 39 = .ok (.istore_n 3, 1) := by decide +kernel
theorem dX6_dropDisturbed_40 : decode cX6_dropDisturbed 40 = .ok (.aload_n 0, 1) := by decide +kernel
theorem dX6_dropDisturbed_41 : decode cX6_dropDisturbed 41 = .ok (.getfield 55, 3) := by decide +kernel
theorem dX6_dropDisturbed_44 : decode cX6_dropDisturbed 44 = .ok (.getfield 62, 3) := by decide +kernel
theorem dX6_dropDisturbed_47 : decode cX6_dropDisturbed 47 = .ok (.iconst 1, 1) := by decide +kernel
theorem dX6_dropDisturbed_48 : decode cX6_dropDisturbed 48 = .ok (.isub, 1) := by decide +kernel
theorem dX6_dropDisturbed_49 : decode cX6_dropDisturbed 49 = .ok (.istore 4, 2) := by decide +kernel
theorem dX6_dropDisturbed_51 : decode cX6_dropDisturbed 51 = .ok (.iload 4, 2) := by decide +kernel
theorem dX6_dropDisturbed_53 : decode cX6_dropDisturbed 53 = .ok (.ifCond .lt 100, 3) := by decide +kernel
theorem dX6_dropDisturbed_56 : decode cX6_dropDisturbed 56 = .ok (.aload_n 0, 1) := by decide +kernel
theorem dX6_dropDisturbed_57 : decode cX6_dropDisturbed 57 = .ok (.getfield 55, 3) := by decide +kernel
theorem dX6_dropDisturbed_60 : decode cX6_dropDisturbed 60 = .ok (.getfield 80, 3) := by decide +kernel
theorem dX6_dropDisturbed_63 : decode cX6_dropDisturbed 63 = .ok (.iload 4, 2) := by decide +kernel
theorem dX6_dropDisturbed_65 : decode cX6_dropDisturbed 65 = .ok (.aaload, 1) := by decide +kernel
theorem dX6_dropDisturbed_66 : decode cX6_dropDisturbed 66 = .ok (.astore 5, 2) := by decide +kernel
theorem dX6_dropDisturbed_68 : decode cX6_dropDisturbed 68 = .ok (.iload_n 2, 1) := by decide +kernel
theorem dX6_dropDisturbed_69 : decode cX6_dropDisturbed 69 = .ok (.ifCond .le 60, 3) := by decide +kernel
theorem dX6_dropDisturbed_72 : decode cX6_dropDisturbed 72 = .ok (.aload_n 0, 1) := by decide +kernel
theorem dX6_dropDisturbed_73 : decode cX6_dropDisturbed 73 = .ok (.getfield 11, 3) := by decide +kernel
theorem dX6_dropDisturbed_76 : decode cX6_dropDisturbed 76 = .ok (.iload_n 2, 1) := by decide +kernel
theorem dX6_dropDisturbed_77 : decode cX6_dropDisturbed 77 = .ok (.iconst 1, 1) := by decide +kernel
theorem dX6_dropDisturbed_78 : decode cX6_dropDisturbed 78 = .ok (.isub, 1) := by decide +kernel
theorem dX6_dropDisturbed_79 : decode cX6_dropDisturbed 79 = .ok (.aaload, 1) := by decide +kernel
theorem dX6_dropDisturbed_80 : decode cX6_dropDisturbed 80 = .ok (.getfield 83, 3) := by decide +kernel
theorem dX6_dropDisturbed_83 : decode cX6_dropDisturbed 83 = .ok (.aload 5, 2) := by decide +kernel
theorem dX6_dropDisturbed_85 : decode cX6_dropDisturbed 85 = .ok (.getfield 83, 3) := by decide +kernel
theorem dX6_dropDisturbed_88 : decode cX6_dropDisturbed 88 = .ok (.if_icmp .lt 41, 3) := by decide +kernel
theorem dX6_dropDisturbed_91 : decode cX6_dropDisturbed 91 = .ok (.aload_n 0, 1) := by decide +kernel
theorem dX6_dropDisturbed_92 : decode cX6_dropDisturbed 92 = .ok (.aload_n 0, 1) := by decide +kernel
theorem dX6_dropDisturbed_93 : decode cX6_dropDisturbed 93 = .ok (.getfield 11, 3) := by decide +kernel
theorem dX6_dropDisturbed_96 : decode cX6_dropDisturbed 96 = .ok (.iload_n 2, 1) := by decide +kernel
theorem dX6_dropDisturbed_97 : decode cX6_dropDisturbed 97 = .ok (.iconst 1, 1) := by decide +kernel
theorem dX6_dropDisturbed_98 : decode cX6_dropDisturbed 98 = .ok (.isub, 1) := by decide +kernel
theorem dX6_dropDisturbed_99 : decode cX6_dropDisturbed 99 = .ok (.aaload, 1) := by decide +kernel
theorem dX6_dropDisturbed_100 : decode cX6_dropDisturbed 100 = .ok (.invokevirtual 176, 3) := by decide +kernel
theorem dX6_dropDisturbed_103 : decode cX6_dropDisturbed 103 = .ok (.ifCond .eq 20, 3) := by decide +kernel
theorem dX6_dropDisturbed_106 : decode cX6_dropDisturbed 106 = .ok (.iinc 3 (-1), 3) := by decide +kernel
theorem dX6_dropDisturbed_109 : decode cX6_dropDisturbed 109 = .ok (.aload_n 0, 1) := by decide +kernel
theorem dX6_dropDisturbed_110 : decode cX6_dropDisturbed 110 = .ok (.getfield 11, 3) := by decide +kernel
theorem dX6_dropDisturbed_113 : decode cX6_dropDisturbed 113 = .ok (.iload_n 3, 1) := by decide +kernel
theorem dX6_dropDisturbed_114 : decode cX6_dropDisturbed 114 = .ok (.aload_n 0, 1) := by decide +kernel
theorem dX6_dropDisturbed_115 : decode cX6_dropDisturbed 115 = .ok (.getfield 11, 3) := by decide +kernel
theorem dX6_dropDisturbed_118 : decode cX6_dropDisturbed 118 = .ok (.iload_n 2, 1) := by decide +kernel
theorem dX6_dropDisturbed_119 : decode cX6_dropDisturbed 119 = .ok (.iconst 1, 1) := by decide +kernel
theorem dX6_dropDisturbed_120 : decode cX6_dropDisturbed 120 = .ok (.isub, 1) := by decide +kernel
theorem dX6_dropDisturbed_121 : decode cX6_dropDisturbed 121 = .ok (.aaload, 1) := by decide +kernel
theorem dX6_dropDisturbed_122 : decode cX6_dropDisturbed 122 = .ok (.aastore, 1) := by decide +kernel
theorem dX6_dropDisturbed_123 : decode cX6_dropDisturbed 123 = .ok (.iinc 2 (-1), 3) := by decide +kernel
theorem dX6_dropDisturbed_126 : decode cX6_dropDisturbed 126 = .ok (.goto (-58), 3) := by decide +kernel
theorem dX6_dropDisturbed_129 : decode cX6_dropDisturbed 129 = .ok (.aload 5, 2) := by decide +kernel
theorem dX6_dropDisturbed_131 : decode cX6_dropDisturbed 131 = .ok (.getfield 90, 3) := by decide +kernel
theorem dX6_dropDisturbed_134 : decode cX6_dropDisturbed 134 = .ok (.aload_n 0, 1) := by decide +kernel
theorem dX6_dropDisturbed_135 : decode cX6_dropDisturbed 135 = .ok (.getfield 74, 3) := by decide +kernel
theorem dX6_dropDisturbed_138 : decode cX6_dropDisturbed 138 = .ok (.if_icmp .ge 9, 3) := by decide +kernel
theorem dX6_dropDisturbed_141 : decode cX6_dropDisturbed 141 = .ok (.aload_n 0, 1) := by decide +kernel
theorem dX6_dropDisturbed_142 : decode cX6_dropDisturbed 142 = .ok (.aload 5, 2) := by decide +kernel
theorem dX6_dropDisturbed_144 : decode cX6_dropDisturbed 144 = .ok (.invokevirtual 179, 3) := by decide +kernel
theorem dX6_dropDisturbed_147 : decode cX6_dropDisturbed 147 = .ok (.iinc 4 (-1), 3) := by decide +kernel
theorem dX6_dropDisturbed_150 : decode cX6_dropDisturbed 150 = .ok (.goto (-99), 3) := by decide +kernel
theorem dX6_dropDisturbed_153 : decode cX6_dropDisturbed 153 = .ok (.iload_n 3, 1) := by decide +kernel
theorem dX6_dropDisturbed_154 : decode cX6_dropDisturbed 154 = .ok (.istore 4, 2) := by decide +kernel
theorem dX6_dropDisturbed_156 : decode cX6_dropDisturbed 156 = .ok (.iload 4, 2) := by decide +kernel
theorem dX6_dropDisturbed_158 : decode cX6_dropDisturbed 158 = .ok (.aload_n 0, 1) := by decide +kernel
theorem dX6_dropDisturbed_159 : decode cX6_dropDisturbed 159 = .ok (.getfield 100, 3) := by decide +kernel
theorem dX6_dropDisturbed_162 : decode cX6_dropDisturbed 162 = .ok (.if_icmp .ge 25, 3) := by decide +kernel
theorem dX6_dropDisturbed_165 : decode cX6_dropDisturbed 165 = .ok (.aload_n 0, 1) := by decide +kernel
theorem dX6_dropDisturbed_166 : decode cX6_dropDisturbed 166 = .ok (.getfield 11, 3) := by decide +kernel
theorem dX6_dropDisturbed_169 : decode cX6_dropDisturbed 169 = .ok (.iload 4, 2) := by decide +kernel
theorem dX6_dropDisturbed_171 : decode cX6_dropDisturbed 171 = .ok (.iload_n 3, 1) := by decide +kernel
theorem dX6_dropDisturbed_172 : decode cX6_dropDisturbed 172 = .ok (.isub, 1) := by decide +kernel
theorem dX6_dropDisturbed_173 : decode cX6_dropDisturbed 173 = .ok (.aload_n 0, 1) := by decide +kernel
theorem dX6_dropDisturbed_174 : decode cX6_dropDisturbed 174 = .ok (.getfield 11, 3) := by decide +kernel
theorem dX6_dropDisturbed_177 : decode cX6_dropDisturbed 177 = .ok (.iload 4, 2) := by decide +kernel
theorem dX6_dropDisturbed_179 : decode cX6_dropDisturbed 179 = .ok (.aaload, 1) := by decide +kernel
theorem dX6_dropDisturbed_180 : decode cX6_dropDisturbed 180 = .ok (.aastore, 1) := by decide +kernel
theorem dX6_dropDisturbed_181 : decode cX6_dropDisturbed 181 = .ok (.iinc 4 1, 3) := by decide +kernel
theorem dX6_dropDisturbed_184 : decode cX6_dropDisturbed 184 = .ok (.goto (-28), 3) := by decide +kernel
theorem dX6_dropDisturbed_187 : decode cX6_dropDisturbed 187 = .ok (.aload_n 0, 1) := by decide +kernel
theorem dX6_dropDisturbed_188 : decode cX6_dropDisturbed 188 = .ok (.dup, 1) := by decide +kernel
theorem dX6_dropDisturbed_189 : decode cX6_dropDisturbed 189 = .ok (.getfield 100, 3) := by decide +kernel
theorem dX6_dropDisturbed_192 : decode cX6_dropDisturbed 192 = .ok (.iload_n 3, 1) := by decide +kernel
theorem dX6_dropDisturbed_193 : decode cX6_dropDisturbed 193 = .ok (.isub, 1) := by decide +kernel
theorem dX6_dropDisturbed_194 : decode cX6_dropDisturbed 194 = .ok (.putfield 100, 3) := by decide +kernel
theorem dX6_dropDisturbed_197 : decode cX6_dropDisturbed 197 = .ok (.return_, 1) := by decide +kernel
theorem dX6_isBehindRow_0 : decode cX6_isBehindRow 0 = .ok (.aload_n 1, 1) := by decide +kernel
theorem dX6_isBehindRow_1 : decode cX6_isBehindRow 1 = .ok (.getfield 124, 3) := by decide +kernel
theorem dX6_isBehindRow_4 : decode cX6_isBehindRow 4 = .ok (.ifCond .eq 21, 3) := by decide +kernel
theorem dX6_isBehindRow_7 : decode cX6_isBehindRow 7 = .ok (.aload_n 1, 1) := by decide +kernel
theorem dX6_isBehindRow_8 : decode cX6_isBehindRow 8 = .ok (.getfield 130, 3) := by decide +kernel
theorem dX6_isBehindRow_11 : decode cX6_isBehindRow 11 = .ok (.aload_n 0, 1) := by decide +kernel
theorem dX6_isBehindRow_12 : decode cX6_isBehindRow 12 = .ok (.getfield 47, 3) := by decide +kernel
theorem dX6_isBehindRow_15 : decode cX6_isBehindRow 15 = .ok (.getfield 150, 3) := by decide +kernel
theorem dX6_isBehindRow_18 : decode cX6_isBehindRow 18 = .ok (.if_icmp .ne 7, 3) := by decide +kernel
theorem dX6_isBehindRow_21 : decode cX6_isBehindRow 21 = .ok (.iconst 1, 1) := by decide +kernel
theorem dX6_isBehindRow_22 : decode cX6_isBehindRow 22 = .ok (.goto 4, 3) := by decide +kernel
theorem dX6_isBehindRow_25 : decode cX6_isBehindRow 25 = .ok (.iconst 0, 1) := by decide +kernel
theorem dX6_isBehindRow_26 : decode cX6_isBehindRow 26 = .ok (.ireturn, 1) := by decide +kernel
theorem dX6_isUndisturbed_0 : decode cX6_isUndisturbed 0 = .ok (.aload_n 1, 1) := by decide +kernel
theorem dX6_isUndisturbed_1 : decode cX6_isUndisturbed 1 = .ok (.aload_n 0, 1) := by decide +kernel
theorem dX6_isUndisturbed_2 : decode cX6_isUndisturbed 2 = .ok (.getfield 47, 3) := by decide +kernel
theorem dX6_isUndisturbed_5 : decode cX6_isUndisturbed 5 = .ok (.getfield 144, 3) := by decide +kernel
theorem dX6_isUndisturbed_8 : decode cX6_isUndisturbed 8 = .ok (.invokevirtual 147, 3) := by decide +kernel
theorem dX6_isUndisturbed_11 : decode cX6_isUndisturbed 11 = .ok (.istore_n 2, 1) := by decide +kernel
theorem dX6_isUndisturbed_12 : decode cX6_isUndisturbed 12 = .ok (.iconst 0, 1) := by decide +kernel
theorem dX6_isUndisturbed_13 : decode cX6_isUndisturbed 13 = .ok (.istore_n 3, 1) := by decide +kernel
theorem dX6_isUndisturbed_14 : decode cX6_isUndisturbed 14 = .ok (.iload_n 3, 1) := by decide +kernel
theorem dX6_isUndisturbed_15 : decode cX6_isUndisturbed 15 = .ok (.aload_n 0, 1) := by decide +kernel
theorem dX6_isUndisturbed_16 : decode cX6_isUndisturbed 16 = .ok (.getfield 47, 3) := by decide +kernel
theorem dX6_isUndisturbed_19 : decode cX6_isUndisturbed 19 = .ok (.getfield 117, 3) := by decide +kernel
theorem dX6_isUndisturbed_22 : decode cX6_isUndisturbed 22 = .ok (.if_icmp .ge 65, 3) := by decide +kernel
theorem dX6_isUndisturbed_25 : decode cX6_isUndisturbed 25 = .ok (.aload_n 0, 1) := by decide +kernel
theorem dX6_isUndisturbed_26 : decode cX6_isUndisturbed 26 = .ok (.getfield 47, 3) := by decide +kernel
theorem dX6_isUndisturbed_29 : decode cX6_isUndisturbed 29 = .ok (.getfield 120, 3) := by decide +kernel
theorem dX6_isUndisturbed_32 : decode cX6_isUndisturbed 32 = .ok (.iload_n 3, 1) := by decide +kernel
theorem dX6_isUndisturbed_33 : decode cX6_isUndisturbed 33 = .ok (.aaload, 1) := by decide +kernel
theorem dX6_isUndisturbed_34 : decode cX6_isUndisturbed 34 = .ok (.astore 4, 2) := by decide +kernel
theorem dX6_isUndisturbed_36 : decode cX6_isUndisturbed 36 = .ok (.aload_n 1, 1) := by decide +kernel
theorem dX6_isUndisturbed_37 : decode cX6_isUndisturbed 37 = .ok (.getfield 83, 3) := by decide +kernel
theorem dX6_isUndisturbed_40 : decode cX6_isUndisturbed 40 = .ok (.aload 4, 2) := by decide +kernel
theorem dX6_isUndisturbed_42 : decode cX6_isUndisturbed 42 = .ok (.getfield 157, 3) := by decide +kernel
theorem dX6_isUndisturbed_45 : decode cX6_isUndisturbed 45 = .ok (.iadd, 1) := by decide +kernel
theorem dX6_isUndisturbed_46 : decode cX6_isUndisturbed 46 = .ok (.istore 5, 2) := by decide +kernel
theorem dX6_isUndisturbed_48 : decode cX6_isUndisturbed 48 = .ok (.aload_n 0, 1) := by decide +kernel
theorem dX6_isUndisturbed_49 : decode cX6_isUndisturbed 49 = .ok (.aload 4, 2) := by decide +kernel
theorem dX6_isUndisturbed_51 : decode cX6_isUndisturbed 51 = .ok (.invokevirtual 182, 3) := by decide +kernel
theorem dX6_isUndisturbed_54 : decode cX6_isUndisturbed 54 = .ok (.ifCond .eq 27, 3) := by decide +kernel
theorem dX6_isUndisturbed_57 : decode cX6_isUndisturbed 57 = .ok (.aload_n 0, 1) := by decide +kernel
theorem dX6_isUndisturbed_58 : decode cX6_isUndisturbed 58 = .ok (.getfield 59, 3) := by decide +kernel
theorem dX6_isUndisturbed_61 : decode cX6_isUndisturbed 61 = .ok (.iload 5, 2) := by decide +kernel
theorem dX6_isUndisturbed_63 : decode cX6_isUndisturbed 63 = .ok (.if_icmp .lt 16, 3) := by decide +kernel
theorem dX6_isUndisturbed_66 : decode cX6_isUndisturbed 66 = .ok (.aload_n 0, 1) := by decide +kernel
theorem dX6_isUndisturbed_67 : decode cX6_isUndisturbed 67 = .ok (.getfield 35, 3) := by decide +kernel
theorem dX6_isUndisturbed_70 : decode cX6_isUndisturbed 70 = .ok (.iload_n 3, 1) := by decide +kernel
theorem dX6_isUndisturbed_71 : decode cX6_isUndisturbed 71 = .ok (.aaload, 1) := by decide +kernel
theorem dX6_isUndisturbed_72 : decode cX6_isUndisturbed 72 = .ok (.iload_n 2, 1) := by decide +kernel
theorem dX6_isUndisturbed_73 : decode cX6_isUndisturbed 73 = .ok (.iaload, 1) := by decide +kernel
theorem dX6_isUndisturbed_74 : decode cX6_isUndisturbed 74 = .ok (.iload 5, 2) := by decide +kernel
theorem dX6_isUndisturbed_76 : decode cX6_isUndisturbed 76 = .ok (.if_icmp .gt 5, 3) := by decide +kernel
theorem dX6_isUndisturbed_79 : decode cX6_isUndisturbed 79 = .ok (.iconst 0, 1) := by decide +kernel
theorem dX6_isUndisturbed_80 : decode cX6_isUndisturbed 80 = .ok (.ireturn, 1) := by decide +kernel
theorem dX6_isUndisturbed_81 : decode cX6_isUndisturbed 81 = .ok (.iinc 3 1, 3) := by decide +kernel
theorem dX6_isUndisturbed_84 : decode cX6_isUndisturbed 84 = .ok (.goto (-70), 3) := by decide +kernel
theorem dX6_isUndisturbed_87 : decode cX6_isUndisturbed 87 = .ok (.iconst 1, 1) := by decide +kernel
theorem dX6_isUndisturbed_88 : decode cX6_isUndisturbed 88 = .ok (.ireturn, 1) := by decide +kernel
theorem dX6_noteNot_0 : decode cX6_noteNot 0 = .ok (.aload_n 1, 1) := by decide +kernel
theorem dX6_noteNot_1 : decode cX6_noteNot 1 = .ok (.aload_n 0, 1) := by decide +kernel
theorem dX6_noteNot_2 : decode cX6_noteNot 2 = .ok (.getfield 47, 3) := by decide +kernel
theorem dX6_noteNot_5 : decode cX6_noteNot 5 = .ok (.getfield 144, 3) := by decide +kernel
theorem dX6_noteNot_8 : decode cX6_noteNot 8 = .ok (.invokevirtual 147, 3) := by decide +kernel
theorem dX6_noteNot_11 : decode cX6_noteNot 11 = .ok (.istore_n 2, 1) := by decide +kernel
theorem dX6_noteNot_12 : decode cX6_noteNot 12 = .ok (.iconst 0, 1) := by decide +kernel
theorem dX6_noteNot_13 : decode cX6_noteNot 13 = .ok (.istore_n 3, 1) := by decide +kernel
theorem dX6_noteNot_14 : decode cX6_noteNot 14 = .ok (.iload_n 3, 1) := by decide +kernel
theorem dX6_noteNot_15 : decode cX6_noteNot 15 = .ok (.aload_n 0, 1) := by decide +kernel
theorem dX6_noteNot_16 : decode cX6_noteNot 16 = .ok (.getfield 47, 3) := by decide +kernel
theorem dX6_noteNot_19 : decode cX6_noteNot 19 = .ok (.getfield 117, 3) := by decide +kernel
theorem dX6_noteNot_22 : decode cX6_noteNot 22 = .ok (.if_icmp .ge 50, 3) := by decide +kernel
theorem dX6_noteNot_25 : decode cX6_noteNot 25 = .ok (.aload_n 0, 1) := by decide +kernel
theorem dX6_noteNot_26 : decode cX6_noteNot 26 = .ok (.getfield 47, 3) := by decide +kernel
theorem dX6_noteNot_29 : decode cX6_noteNot 29 = .ok (.getfield 120, 3) := by decide +kernel
theorem dX6_noteNot_32 : decode cX6_noteNot 32 = .ok (.iload_n 3, 1) := by decide +kernel
theorem dX6_noteNot_33 : decode cX6_noteNot 33 = .ok (.aaload, 1) := by decide +kernel
theorem dX6_noteNot_34 : decode cX6_noteNot 34 = .ok (.astore 4, 2) := by decide +kernel
theorem dX6_noteNot_36 : decode cX6_noteNot 36 = .ok (.aload_n 0, 1) := by decide +kernel
theorem dX6_noteNot_37 : decode cX6_noteNot 37 = .ok (.aload 4, 2) := by decide +kernel
theorem dX6_noteNot_39 : decode cX6_noteNot 39 = .ok (.invokevirtual 182, 3) := by decide +kernel
theorem dX6_noteNot_42 : decode cX6_noteNot 42 = .ok (.ifCond .eq 24, 3) := by decide +kernel
theorem dX6_noteNot_45 : decode cX6_noteNot 45 = .ok (.aload 4, 2) := by decide +kernel
theorem dX6_noteNot_47 : decode cX6_noteNot 47 = .ok (.aload_n 1, 1) := by decide +kernel
theorem dX6_noteNot_48 : decode cX6_noteNot 48 = .ok (.invokevirtual 137, 3) := by decide +kernel
theorem dX6_noteNot_51 : decode cX6_noteNot 51 = .ok (.ifCond .eq 15, 3) := by decide +kernel
theorem dX6_noteNot_54 : decode cX6_noteNot 54 = .ok (.aload_n 0, 1) := by decide +kernel
theorem dX6_noteNot_55 : decode cX6_noteNot 55 = .ok (.getfield 35, 3) := by decide +kernel
theorem dX6_noteNot_58 : decode cX6_noteNot 58 = .ok (.iload_n 3, 1) := by decide +kernel
theorem dX6_noteNot_59 : decode cX6_noteNot 59 = .ok (.aaload, 1) := by decide +kernel
theorem dX6_noteNot_60 : decode cX6_noteNot 60 = .ok (.iload_n 2, 1) := by decide +kernel
theorem dX6_noteNot_61 : decode cX6_noteNot 61 = .ok (.aload_n 1, 1) := by decide +kernel
theorem dX6_noteNot_62 : decode cX6_noteNot 62 = .ok (.getfield 83, 3) := by decide +kernel
theorem dX6_noteNot_65 : decode cX6_noteNot 65 = .ok (.iastore, 1) := by decide +kernel
theorem dX6_noteNot_66 : decode cX6_noteNot 66 = .ok (.iinc 3 1, 3) := by decide +kernel
theorem dX6_noteNot_69 : decode cX6_noteNot 69 = .ok (.goto (-55), 3) := by decide +kernel
theorem dX6_noteNot_72 : decode cX6_noteNot 72 = .ok (.return_, 1) := by decide +kernel
theorem dX6_findAt_0 : decode cX6_findAt 0 = .ok (.iload_n 1, 1) := by decide +kernel
theorem dX6_findAt_1 : decode cX6_findAt 1 = .ok (.ifCond .lt 20, 3) := by decide +kernel
theorem dX6_findAt_4 : decode cX6_findAt 4 = .ok (.iload_n 1, 1) := by decide +kernel
theorem dX6_findAt_5 : decode cX6_findAt 5 = .ok (.aload_n 0, 1) := by decide +kernel
theorem dX6_findAt_6 : decode cX6_findAt 6 = .ok (.getfield 100, 3) := by decide +kernel
theorem dX6_findAt_9 : decode cX6_findAt 9 = .ok (.if_icmp .ge 12, 3) := by decide +kernel
theorem dX6_findAt_12 : decode cX6_findAt 12 = .ok (.aload_n 0, 1) := by decide +kernel
theorem dX6_findAt_13 : decode cX6_findAt 13 = .ok (.getfield 11, 3) := by decide +kernel
theorem dX6_findAt_16 : decode cX6_findAt 16 = .ok (.iload_n 1, 1) := by decide +kernel
theorem dX6_findAt_17 : decode cX6_findAt 17 = .ok (.aaload, 1) := by decide +kernel
theorem dX6_findAt_18 : decode cX6_findAt 18 = .ok (.goto 4, 3) := by decide +kernel
theorem dX6_findAt_21 : decode cX6_findAt 21 = .ok (.aconst_null, 1) := by decide +kernel
theorem dX6_findAt_22 : decode cX6_findAt 22 = .ok (.areturn, 1) := by decide +kernel
theorem dX6_isFind_0 : decode cX6_isFind 0 = .ok (.iconst 0, 1) := by decide +kernel
theorem dX6_isFind_1 : decode cX6_isFind 1 = .ok (.istore_n 2, 1) := by decide +kernel
theorem dX6_isFind_2 : decode cX6_isFind 2 = .ok (.iload_n 2, 1) := by decide +kernel
theorem dX6_isFind_3 : decode cX6_isFind 3 = .ok (.aload_n 0, 1) := by decide +kernel
theorem dX6_isFind_4 : decode cX6_isFind 4 = .ok (.getfield 100, 3) := by decide +kernel
theorem dX6_isFind_7 : decode cX6_isFind 7 = .ok (.if_icmp .ge 27, 3) := by decide +kernel
theorem dX6_isFind_10 : decode cX6_isFind 10 = .ok (.aload_n 0, 1) := by decide +kernel
theorem dX6_isFind_11 : decode cX6_isFind 11 = .ok (.getfield 11, 3) := by decide +kernel
theorem dX6_isFind_14 : decode cX6_isFind 14 = .ok (.iload_n 2, 1) := by decide +kernel
theorem dX6_isFind_15 : decode cX6_isFind 15 = .ok (.aaload, 1) := by decide +kernel
theorem dX6_isFind_16 : decode cX6_isFind 16 = .ok (.getfield 90, 3) := by decide +kernel
theorem dX6_isFind_19 : decode cX6_isFind 19 = .ok (.aload_n 1, 1) := by decide +kernel
theorem dX6_isFind_20 : decode cX6_isFind 20 = .ok (.getfield 90, 3) := by decide +kernel
theorem dX6_isFind_23 : decode cX6_isFind 23 = .ok (.if_icmp .ne 5, 3) := by decide +kernel
theorem dX6_isFind_26 : decode cX6_isFind 26 = .ok (.iconst 1, 1) := by decide +kernel
theorem dX6_isFind_27 : decode cX6_isFind 27 = .ok (.ireturn, 1) := by decide +kernel
theorem dX6_isFind_28 : decode cX6_isFind 28 = .ok (.iinc 2 1, 3) := by decide +kernel
theorem dX6_isFind_31 : decode cX6_isFind 31 = .ok (.goto (-29), 3) := by decide +kernel
theorem dX6_isFind_34 : decode cX6_isFind 34 = .ok (.iconst 0, 1) := by decide +kernel
theorem dX6_isFind_35 : decode cX6_isFind 35 = .ok (.ireturn, 1) := by decide +kernel
theorem dX6_proofAct_0 : decode cX6_proofAct 0 = .ok (.aload_n 0, 1) := by decide +kernel
theorem dX6_proofAct_1 : decode cX6_proofAct 1 = .ok (.iload_n 1, 1) := by decide +kernel
theorem dX6_proofAct_2 : decode cX6_proofAct 2 = .ok (.invokevirtual 186, 3) := by decide +kernel
theorem dX6_proofAct_5 : decode cX6_proofAct 5 = .ok (.astore_n 3, 1) := by decide +kernel
theorem dX6_proofAct_6 : decode cX6_proofAct 6 = .ok (.aload_n 3, 1) := by decide +kernel
theorem dX6_proofAct_7 : decode cX6_proofAct 7 = .ok (.ifnull 18, 3) := by decide +kernel
theorem dX6_proofAct_10 : decode cX6_proofAct 10 = .ok (.iload_n 2, 1) := by decide +kernel
theorem dX6_proofAct_11 : decode cX6_proofAct 11 = .ok (.ifCond .lt 14, 3) := by decide +kernel
theorem dX6_proofAct_14 : decode cX6_proofAct 14 = .ok (.iload_n 2, 1) := by decide +kernel
theorem dX6_proofAct_15 : decode cX6_proofAct 15 = .ok (.aload_n 0, 1) := by decide +kernel
theorem dX6_proofAct_16 : decode cX6_proofAct 16 = .ok (.getfield 47, 3) := by decide +kernel
theorem dX6_proofAct_19 : decode cX6_proofAct 19 = .ok (.getfield 150, 3) := by decide +kernel
theorem dX6_proofAct_22 : decode cX6_proofAct 22 = .ok (.if_icmp .lt 5, 3) := by decide +kernel
theorem dX6_proofAct_25 : decode cX6_proofAct 25 = .ok (.iconst (-1), 1) := by decide +kernel
theorem dX6_proofAct_26 : decode cX6_proofAct 26 = .ok (.ireturn, 1) := by decide +kernel
theorem dX6_proofAct_27 : decode cX6_proofAct 27 = .ok (.aload_n 3, 1) := by decide +kernel
theorem dX6_proofAct_28 : decode cX6_proofAct 28 = .ok (.getfield 90, 3) := by decide +kernel
theorem dX6_proofAct_31 : decode cX6_proofAct 31 = .ok (.istore 4, 2) := by decide +kernel
theorem dX6_proofAct_33 : decode cX6_proofAct 33 = .ok (.aload_n 0, 1) := by decide +kernel
theorem dX6_proofAct_34 : decode cX6_proofAct 34 = .ok (.getfield 47, 3) := by decide +kernel
theorem dX6_proofAct_37 : decode cX6_proofAct 37 = .ok (.getfield 150, 3) := by decide +kernel
theorem dX6_proofAct_40 : decode cX6_proofAct 40 = .ok (.iconst 1, 1) := by decide +kernel
theorem dX6_proofAct_41 : decode cX6_proofAct 41 = .ok (.isub, 1) := by decide +kernel
theorem dX6_proofAct_42 : decode cX6_proofAct 42 = .ok (.istore 5, 2) := by decide +kernel
theorem dX6_proofAct_44 : decode cX6_proofAct 44 = .ok (.iload 5, 2) := by decide +kernel
theorem dX6_proofAct_46 : decode cX6_proofAct 46 = .ok (.iload_n 2, 1) := by decide +kernel
theorem dX6_proofAct_47 : decode cX6_proofAct 47 = .ok (.if_icmp .le 26, 3) := by decide +kernel
theorem dX6_proofAct_50 : decode cX6_proofAct 50 = .ok (.iload 4, 2) := by decide +kernel
theorem dX6_proofAct_52 : decode cX6_proofAct 52 = .ok (.ifCond .lt 21, 3) := by decide +kernel
theorem dX6_proofAct_55 : decode cX6_proofAct 55 = .ok (.aload_n 0, 1) := by decide +kernel
theorem dX6_proofAct_56 : decode cX6_proofAct 56 = .ok (.getfield 19, 3) := by decide +kernel
theorem dX6_proofAct_59 : decode cX6_proofAct 59 = .ok (.iload 5, 2) := by decide +kernel
theorem dX6_proofAct_61 : decode cX6_proofAct 61 = .ok (.aaload, 1) := by decide +kernel
theorem dX6_proofAct_62 : decode cX6_proofAct 62 = .ok (.iload 4, 2) := by decide +kernel
theorem dX6_proofAct_64 : decode cX6_proofAct 64 = .ok (.iaload, 1) := by decide +kernel
theorem dX6_proofAct_65 : decode cX6_proofAct 65 = .ok (.istore 4, 2) := by decide +kernel
theorem dX6_proofAct_67 : decode cX6_proofAct 67 = .ok (.iinc 5 (-1), 3) := by decide +kernel
theorem dX6_proofAct_70 : decode cX6_proofAct 70 = .ok (.goto (-26), 3) := by decide +kernel
theorem dX6_proofAct_73 : decode cX6_proofAct 73 = .ok (.iload 4, 2) := by decide +kernel
theorem dX6_proofAct_75 : decode cX6_proofAct 75 = .ok (.ireturn, 1) := by decide +kernel
theorem dX6_fewestFits_0 : decode cX6_fewestFits 0 = .ok (.sipush 250, 3) := by decide +kernel
theorem dX6_fewestFits_3 : decode cX6_fewestFits 3 = .ok (.istore_n 1, 1) := by decide +kernel
theorem dX6_fewestFits_4 : decode cX6_fewestFits 4 = .ok (.iconst 0, 1) := by decide +kernel
theorem dX6_fewestFits_5 : decode cX6_fewestFits 5 = .ok (.istore_n 2, 1) := by decide +kernel
theorem dX6_fewestFits_6 : decode cX6_fewestFits 6 = .ok (.iload_n 2, 1) := by decide +kernel
theorem dX6_fewestFits_7 : decode cX6_fewestFits 7 = .ok (.aload_n 0, 1) := by decide +kernel
theorem dX6_fewestFits_8 : decode cX6_fewestFits 8 = .ok (.getfield 47, 3) := by decide +kernel
theorem dX6_fewestFits_11 : decode cX6_fewestFits 11 = .ok (.getfield 150, 3) := by decide +kernel
theorem dX6_fewestFits_14 : decode cX6_fewestFits 14 = .ok (.if_icmp .ge 20, 3) := by decide +kernel
theorem dX6_fewestFits_17 : decode cX6_fewestFits 17 = .ok (.iload_n 1, 1) := by decide +kernel
theorem dX6_fewestFits_18 : decode cX6_fewestFits 18 = .ok (.aload_n 0, 1) := by decide +kernel
theorem dX6_fewestFits_19 : decode cX6_fewestFits 19 = .ok (.getfield 22, 3) := by decide +kernel
theorem dX6_fewestFits_22 : decode cX6_fewestFits 22 = .ok (.iload_n 2, 1) := by decide +kernel
theorem dX6_fewestFits_23 : decode cX6_fewestFits 23 = .ok (.iaload, 1) := by decide +kernel
theorem dX6_fewestFits_24 : decode cX6_fewestFits 24 = .ok (.invokestatic 190, 3) := by decide +kernel
theorem dX6_fewestFits_27 : decode cX6_fewestFits 27 = .ok (.istore_n 1, 1) := by decide +kernel
theorem dX6_fewestFits_28 : decode cX6_fewestFits 28 = .ok (.iinc 2 1, 3) := by decide +kernel
theorem dX6_fewestFits_31 : decode cX6_fewestFits 31 = .ok (.goto (-25), 3) := by decide +kernel
theorem dX6_fewestFits_34 : decode cX6_fewestFits 34 = .ok (.iload_n 1, 1) := by decide +kernel
theorem dX6_fewestFits_35 : decode cX6_fewestFits 35 = .ok (.ireturn, 1) := by decide +kernel
theorem dX6_widestField_0 : decode cX6_widestField 0 = .ok (.iconst (-1), 1) := by decide +kernel
theorem dX6_widestField_1 : decode cX6_widestField 1 = .ok (.istore_n 1, 1) := by decide +kernel
theorem dX6_widestField_2 : decode cX6_widestField 2 = .ok (.iconst 0, 1) := by decide +kernel
theorem dX6_widestField_3 : decode cX6_widestField 3 = .ok (.istore_n 2, 1) := by decide +kernel
theorem dX6_widestField_4 : decode cX6_widestField 4 = .ok (.iconst 0, 1) := by decide +kernel
theorem dX6_widestField_5 : decode cX6_widestField 5 = .ok (.istore_n 3, 1) := by decide +kernel
theorem dX6_widestField_6 : decode cX6_widestField 6 = .ok (.iload_n 3, 1) := by decide +kernel
theorem dX6_widestField_7 : decode cX6_widestField 7 = .ok (.iconst 3, 1) := by decide +kernel
theorem dX6_widestField_8 : decode cX6_widestField 8 = .ok (.if_icmp .ge 65, 3) := by decide +kernel
theorem dX6_widestField_11 : decode cX6_widestField 11 = .ok (.iconst 0, 1) := by decide +kernel
theorem dX6_widestField_12 : decode cX6_widestField 12 = .ok (.istore 4, 2) := by decide +kernel
theorem dX6_widestField_14 : decode cX6_widestField 14 = .ok (.iconst 0, 1) := by decide +kernel
theorem dX6_widestField_15 : decode cX6_widestField 15 = .ok (.istore 5, 2) := by decide +kernel
theorem dX6_widestField_17 : decode cX6_widestField 17 = .ok (.iload 5, 2) := by decide +kernel
theorem dX6_widestField_19 : decode cX6_widestField 19 = .ok (.aload_n 0, 1) := by decide +kernel
theorem dX6_widestField_20 : decode cX6_widestField 20 = .ok (.getfield 100, 3) := by decide +kernel
theorem dX6_widestField_23 : decode cX6_widestField 23 = .ok (.if_icmp .ge 27, 3) := by decide +kernel
theorem dX6_widestField_26 : decode cX6_widestField 26 = .ok (.iload 4, 2) := by decide +kernel
theorem dX6_widestField_28 : decode cX6_widestField 28 = .ok (.iconst 1, 1) := by decide +kernel
theorem dX6_widestField_29 : decode cX6_widestField 29 = .ok (.aload_n 0, 1) := by decide +kernel
theorem dX6_widestField_30 : decode cX6_widestField 30 = .ok (.getfield 11, 3) := by decide +kernel
theorem dX6_widestField_33 : decode cX6_widestField 33 = .ok (.iload 5, 2) := by decide +kernel
theorem dX6_widestField_35 : decode cX6_widestField 35 = .ok (.aaload, 1) := by decide +kernel
theorem dX6_widestField_36 : decode cX6_widestField 36 = .ok (.iload_n 3, 1) := by decide +kernel
theorem dX6_widestField_37 : decode cX6_widestField 37 = .ok (.invokevirtual 147, 3) := by decide +kernel
theorem dX6_widestField_40 : decode cX6_widestField 40 = .ok (.ishl, 1) := by decide +kernel
theorem dX6_widestField_41 : decode cX6_widestField 41 = .ok (.ior, 1) := by decide +kernel
theorem dX6_widestField_42 : decode cX6_widestField 42 = .ok (.istore 4, 2) := by decide +kernel
theorem dX6_widestField_44 : decode cX6_widestField 44 = .ok (.iinc 5 1, 3) := by decide +kernel
theorem dX6_widestField_47 : decode cX6_widestField 47 = .ok (.goto (-30), 3) := by decide +kernel
theorem dX6_widestField_50 : decode cX6_widestField 50 = .ok (.iload 4, 2) := by decide +kernel
theorem dX6_widestField_52 : decode cX6_widestField 52 = .ok (.invokestatic 196, 3) := by decide +kernel
theorem dX6_widestField_55 : decode cX6_widestField 55 = .ok (.iload_n 2, 1) := by decide +kernel
theorem dX6_widestField_56 : decode cX6_widestField 56 = .ok (.if_icmp .le 11, 3) := by decide +kernel
theorem dX6_widestField_59 : decode cX6_widestField 59 = .ok (.iload 4, 2) := by decide +kernel
theorem dX6_widestField_61 : decode cX6_widestField 61 = .ok (.invokestatic 196, 3) := by decide +kernel
theorem dX6_widestField_64 : decode cX6_widestField 64 = .ok (.istore_n 2, 1) := by decide +kernel
theorem dX6_widestField_65 : decode cX6_widestField 65 = .ok (.iload_n 3, 1) := by decide +kernel
theorem dX6_widestField_66 : decode cX6_widestField 66 = .ok (.istore_n 1, 1) := by decide +kernel
theorem dX6_widestField_67 : decode cX6_widestField 67 = .ok (.iinc 3 1, 3) := by decide +kernel
theorem dX6_widestField_70 : decode cX6_widestField 70 = .ok (.goto (-64), 3) := by decide +kernel
theorem dX6_widestField_73 : decode cX6_widestField 73 = .ok (.iload_n 1, 1) := by decide +kernel
theorem dX6_widestField_74 : decode cX6_widestField 74 = .ok (.ireturn, 1) := by decide +kernel
