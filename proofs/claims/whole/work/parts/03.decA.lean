theorem dX0_init_0 : decode cX0_init 0 = .ok (.aload_n 0, 1) := by decide +kernel
theorem dX0_init_1 : decode cX0_init 1 = .ok (.invokespecial 3, 3) := by decide +kernel
theorem dX0_init_4 : decode cX0_init 4 = .ok (.aload_n 0, 1) := by decide +kernel
theorem dX0_init_5 : decode cX0_init 5 = .ok (.iload_n 1, 1) := by decide +kernel
theorem dX0_init_6 : decode cX0_init 6 = .ok (.putfield 9, 3) := by decide +kernel
theorem dX0_init_9 : decode cX0_init 9 = .ok (.aload_n 0, 1) := by decide +kernel
theorem dX0_init_10 : decode cX0_init 10 = .ok (.iload_n 2, 1) := by decide +kernel
theorem dX0_init_11 : decode cX0_init 11 = .ok (.putfield 15, 3) := by decide +kernel
theorem dX0_init_14 : decode cX0_init 14 = .ok (.aload_n 0, 1) := by decide +kernel
theorem dX0_init_15 : decode cX0_init 15 = .ok (.iload_n 3, 1) := by decide +kernel
theorem dX0_init_16 : decode cX0_init 16 = .ok (.putfield 18, 3) := by decide +kernel
theorem dX0_init_19 : decode cX0_init 19 = .ok (.aload_n 0, 1) := by decide +kernel
theorem dX0_init_20 : decode cX0_init 20 = .ok (.iload 4, 2) := by decide +kernel
theorem dX0_init_22 : decode cX0_init 22 = .ok (.putfield 21, 3) := by decide +kernel
theorem dX0_init_25 : decode cX0_init 25 = .ok (.aload_n 0, 1) := by decide +kernel
theorem dX0_init_26 : decode cX0_init 26 = .ok (.iload 5, 2) := by decide +kernel
theorem dX0_init_28 : decode cX0_init 28 = .ok (.putfield 24, 3) := by decide +kernel
theorem dX0_init_31 : decode cX0_init 31 = .ok (.aload_n 0, 1) := by decide +kernel
theorem dX0_init_32 : decode cX0_init 32 = .ok (.iload 6, 2) := by decide +kernel
theorem dX0_init_34 : decode cX0_init 34 = .ok (.putfield 27, 3) := by decide +kernel
theorem dX0_init_37 : decode cX0_init 37 = .ok (.aload_n 0, 1) := by decide +kernel
theorem dX0_init_38 : decode cX0_init 38 = .ok (.iload 7, 2) := by decide +kernel
theorem dX0_init_40 : decode cX0_init 40 = .ok (.putfield 30, 3) := by decide +kernel
theorem dX0_init_43 : decode cX0_init 43 = .ok (.aload_n 0, 1) := by decide +kernel
theorem dX0_init_44 : decode cX0_init 44 = .ok (.iload_n 1, 1) := by decide +kernel
theorem dX0_init_45 : decode cX0_init 45 = .ok (.putfield 33, 3) := by decide +kernel
theorem dX0_init_48 : decode cX0_init 48 = .ok (.return_, 1) := by decide +kernel
theorem dX0_valueIn_0 : decode cX0_valueIn 0 = .ok (.iload_n 1, 1) := by decide +kernel
theorem dX0_valueIn_1 : decode cX0_valueIn 1 = .ok (.ifCond .ne 10, 3) := by decide +kernel
theorem dX0_valueIn_4 : decode cX0_valueIn 4 = .ok (.aload_n 0, 1) := by decide +kernel
theorem dX0_valueIn_5 : decode cX0_valueIn 5 = .ok (.getfield 18, 3) := by decide +kernel
theorem dX0_valueIn_8 : decode cX0_valueIn 8 = .ok (.goto 19, 3) := by decide +kernel
theorem dX0_valueIn_11 : decode cX0_valueIn 11 = .ok (.iload_n 1, 1) := by decide +kernel
theorem dX0_valueIn_12 : decode cX0_valueIn 12 = .ok (.iconst 1, 1) := by decide +kernel
theorem dX0_valueIn_13 : decode cX0_valueIn 13 = .ok (.if_icmp .ne 10, 3) := by decide +kernel
theorem dX0_valueIn_16 : decode cX0_valueIn 16 = .ok (.aload_n 0, 1) := by decide +kernel
theorem dX0_valueIn_17 : decode cX0_valueIn 17 = .ok (.getfield 21, 3) := by decide +kernel
theorem dX0_valueIn_20 : decode cX0_valueIn 20 = .ok (.goto 7, 3) := by decide +kernel
theorem dX0_valueIn_23 : decode cX0_valueIn 23 = .ok (.aload_n 0, 1) := by decide +kernel
theorem dX0_valueIn_24 : decode cX0_valueIn 24 = .ok (.getfield 24, 3) := by decide +kernel
theorem dX0_valueIn_27 : decode cX0_valueIn 27 = .ok (.ireturn, 1) := by decide +kernel
theorem dX0_isAlike_0 : decode cX0_isAlike 0 = .ok (.aload_n 0, 1) := by decide +kernel
theorem dX0_isAlike_1 : decode cX0_isAlike 1 = .ok (.getfield 15, 3) := by decide +kernel
theorem dX0_isAlike_4 : decode cX0_isAlike 4 = .ok (.aload_n 1, 1) := by decide +kernel
theorem dX0_isAlike_5 : decode cX0_isAlike 5 = .ok (.getfield 15, 3) := by decide +kernel
theorem dX0_isAlike_8 : decode cX0_isAlike 8 = .ok (.if_icmp .ne 29, 3) := by decide +kernel
theorem dX0_isAlike_11 : decode cX0_isAlike 11 = .ok (.aload_n 0, 1) := by decide +kernel
theorem dX0_isAlike_12 : decode cX0_isAlike 12 = .ok (.getfield 18, 3) := by decide +kernel
theorem dX0_isAlike_15 : decode cX0_isAlike 15 = .ok (.aload_n 1, 1) := by decide +kernel
theorem dX0_isAlike_16 : decode cX0_isAlike 16 = .ok (.getfield 18, 3) := by decide +kernel
theorem dX0_isAlike_19 : decode cX0_isAlike 19 = .ok (.if_icmp .ne 18, 3) := by decide +kernel
theorem dX0_isAlike_22 : decode cX0_isAlike 22 = .ok (.aload_n 0, 1) := by decide +kernel
theorem dX0_isAlike_23 : decode cX0_isAlike 23 = .ok (.getfield 21, 3) := by decide +kernel
theorem dX0_isAlike_26 : decode cX0_isAlike 26 = .ok (.aload_n 1, 1) := by decide +kernel
theorem dX0_isAlike_27 : decode cX0_isAlike 27 = .ok (.getfield 21, 3) := by decide +kernel
theorem dX0_isAlike_30 : decode cX0_isAlike 30 = .ok (.if_icmp .ne 7, 3) := by decide +kernel
theorem dX0_isAlike_33 : decode cX0_isAlike 33 = .ok (.iconst 1, 1) := by decide +kernel
theorem dX0_isAlike_34 : decode cX0_isAlike 34 = .ok (.goto 4, 3) := by decide +kernel
theorem dX0_isAlike_37 : decode cX0_isAlike 37 = .ok (.iconst 0, 1) := by decide +kernel
theorem dX0_isAlike_38 : decode cX0_isAlike 38 = .ok (.ireturn, 1) := by decide +kernel
theorem dX1_init_0 : decode cX1_init 0 = .ok (.aload_n 0, 1) := by decide +kernel
theorem dX1_init_1 : decode cX1_init 1 = .ok (.invokespecial 3, 3) := by decide +kernel
theorem dX1_init_4 : decode cX1_init 4 = .ok (.aload_n 0, 1) := by decide +kernel
theorem dX1_init_5 : decode cX1_init 5 = .ok (.sipush 250, 3) := by decide +kernel
theorem dX1_init_8 : decode cX1_init 8 = .ok (.newarray .int, 2) := by decide +kernel
theorem dX1_init_10 : decode cX1_init 10 = .ok (.putfield 9, 3) := by decide +kernel
theorem dX1_init_13 : decode cX1_init 13 = .ok (.aload_n 0, 1) := by decide +kernel
theorem dX1_init_14 : decode cX1_init 14 = .ok (.sipush 250, 3) := by decide +kernel
theorem dX1_init_17 : decode cX1_init 17 = .ok (.newarray .int, 2) := by decide +kernel
theorem dX1_init_19 : decode cX1_init 19 = .ok (.putfield 15, 3) := by decide +kernel
theorem dX1_init_22 : decode cX1_init 22 = .ok (.aload_n 0, 1) := by decide +kernel
theorem dX1_init_23 : decode cX1_init 23 = .ok (.sipush 250, 3) := by decide +kernel
theorem dX1_init_26 : decode cX1_init 26 = .ok (.newarray .int, 2) := by decide +kernel
theorem dX1_init_28 : decode cX1_init 28 = .ok (.putfield 18, 3) := by decide +kernel
theorem dX1_init_31 : decode cX1_init 31 = .ok (.aload_n 0, 1) := by decide +kernel
theorem dX1_init_32 : decode cX1_init 32 = .ok (.bipush 31, 2) := by decide +kernel
theorem dX1_init_34 : decode cX1_init 34 = .ok (.anewarray 21, 3) := by decide +kernel
theorem dX1_init_37 : decode cX1_init 37 = .ok (.putfield 23, 3) := by decide +kernel
theorem dX1_init_40 : decode cX1_init 40 = .ok (.aload_n 0, 1) := by decide +kernel
theorem dX1_init_41 : decode cX1_init 41 = .ok (.bipush 16, 2) := by decide +kernel
theorem dX1_init_43 : decode cX1_init 43 = .ok (.anewarray 21, 3) := by decide +kernel
theorem dX1_init_46 : decode cX1_init 46 = .ok (.putfield 27, 3) := by decide +kernel
theorem dX1_init_49 : decode cX1_init 49 = .ok (.aload_n 0, 1) := by decide +kernel
theorem dX1_init_50 : decode cX1_init 50 = .ok (.aload_n 1, 1) := by decide +kernel
theorem dX1_init_51 : decode cX1_init 51 = .ok (.putfield 30, 3) := by decide +kernel
theorem dX1_init_54 : decode cX1_init 54 = .ok (.return_, 1) := by decide +kernel
theorem dX1_clear_0 : decode cX1_clear 0 = .ok (.aload_n 0, 1) := by decide +kernel
theorem dX1_clear_1 : decode cX1_clear 1 = .ok (.iconst 0, 1) := by decide +kernel
theorem dX1_clear_2 : decode cX1_clear 2 = .ok (.putfield 34, 3) := by decide +kernel
theorem dX1_clear_5 : decode cX1_clear 5 = .ok (.aload_n 0, 1) := by decide +kernel
theorem dX1_clear_6 : decode cX1_clear 6 = .ok (.iconst 0, 1) := by decide +kernel
theorem dX1_clear_7 : decode cX1_clear 7 = .ok (.putfield 38, 3) := by decide +kernel
theorem dX1_clear_10 : decode cX1_clear 10 = .ok (.aload_n 0, 1) := by decide +kernel
theorem dX1_clear_11 : decode cX1_clear 11 = .ok (.getfield 9, 3) := by decide +kernel
theorem dX1_clear_14 : decode cX1_clear 14 = .ok (.iconst 0, 1) := by decide +kernel
theorem dX1_clear_15 : decode cX1_clear 15 = .ok (.invokestatic 41, 3) := by decide +kernel
theorem dX1_clear_18 : decode cX1_clear 18 = .ok (.aload_n 0, 1) := by decide +kernel
theorem dX1_clear_19 : decode cX1_clear 19 = .ok (.getfield 18, 3) := by decide +kernel
theorem dX1_clear_22 : decode cX1_clear 22 = .ok (.iconst 0, 1) := by decide +kernel
theorem dX1_clear_23 : decode cX1_clear 23 = .ok (.invokestatic 41, 3) := by decide +kernel
theorem dX1_clear_26 : decode cX1_clear 26 = .ok (.iconst 0, 1) := by decide +kernel
theorem dX1_clear_27 : decode cX1_clear 27 = .ok (.istore_n 1, 1) := by decide +kernel
theorem dX1_clear_28 : decode cX1_clear 28 = .ok (.iload_n 1, 1) := by decide +kernel
theorem dX1_clear_29 : decode cX1_clear 29 = .ok (.sipush 250, 3) := by decide +kernel
theorem dX1_clear_32 : decode cX1_clear 32 = .ok (.if_icmp .ge 16, 3) := by decide +kernel
theorem dX1_clear_35 : decode cX1_clear 35 = .ok (.aload_n 0, 1) := by decide +kernel
theorem dX1_clear_36 : decode cX1_clear 36 = .ok (.getfield 15, 3) := by decide +kernel
theorem dX1_clear_39 : decode cX1_clear 39 = .ok (.iload_n 1, 1) := by decide +kernel
theorem dX1_clear_40 : decode cX1_clear 40 = .ok (.iload_n 1, 1) := by decide +kernel
theorem dX1_clear_41 : decode cX1_clear 41 = .ok (.iastore, 1) := by decide +kernel
theorem dX1_clear_42 : decode cX1_clear 42 = .ok (.iinc 1 1, 3) := by decide +kernel
theorem dX1_clear_45 : decode cX1_clear 45 = .ok (.goto (-17), 3) := by decide +kernel
theorem dX1_clear_48 : decode cX1_clear 48 = .ok (.iconst 0, 1) := by decide +kernel
theorem dX1_clear_49 : decode cX1_clear 49 = .ok (.istore_n 1, 1) := by decide +kernel
theorem dX1_clear_50 : decode cX1_clear 50 = .ok (.iload_n 1, 1) := by decide +kernel
theorem dX1_clear_51 : decode cX1_clear 51 = .ok (.bipush 31, 2) := by decide +kernel
theorem dX1_clear_53 : decode cX1_clear 53 = .ok (.if_icmp .ge 16, 3) := by decide +kernel
theorem dX1_clear_56 : decode cX1_clear 56 = .ok (.aload_n 0, 1) := by decide +kernel
theorem dX1_clear_57 : decode cX1_clear 57 = .ok (.getfield 23, 3) := by decide +kernel
theorem dX1_clear_60 : decode cX1_clear 60 = .ok (.iload_n 1, 1) := by decide +kernel
theorem dX1_clear_61 : decode cX1_clear 61 = .ok (.aconst_null, 1) := by decide +kernel
theorem dX1_clear_62 : decode cX1_clear 62 = .ok (.aastore, 1) := by decide +kernel
theorem dX1_clear_63 : decode cX1_clear 63 = .ok (.iinc 1 1, 3) := by decide +kernel
theorem dX1_clear_66 : decode cX1_clear 66 = .ok (.goto (-16), 3) := by decide +kernel
theorem dX1_clear_69 : decode cX1_clear 69 = .ok (.iconst 0, 1) := by decide +kernel
theorem dX1_clear_70 : decode cX1_clear 70 = .ok (.istore_n 1, 1) := by decide +kernel
theorem dX1_clear_71 : decode cX1_clear 71 = .ok (.iload_n 1, 1) := by decide +kernel
theorem dX1_clear_72 : decode cX1_clear 72 = .ok (.bipush 16, 2) := by decide +kernel
theorem dX1_clear_74 : decode cX1_clear 74 = .ok (.if_icmp .ge 16, 3) := by decide +kernel
theorem dX1_clear_77 : decode cX1_clear 77 = .ok (.aload_n 0, 1) := by decide +kernel
theorem dX1_clear_78 : decode cX1_clear 78 = .ok (.getfield 27, 3) := by decide +kernel
theorem dX1_clear_81 : decode cX1_clear 81 = .ok (.iload_n 1, 1) := by decide +kernel
theorem dX1_clear_82 : decode cX1_clear 82 = .ok (.aconst_null, 1) := by decide +kernel
theorem dX1_clear_83 : decode cX1_clear 83 = .ok (.aastore, 1) := by decide +kernel
theorem dX1_clear_84 : decode cX1_clear 84 = .ok (.iinc 1 1, 3) := by decide +kernel
theorem dX1_clear_87 : decode cX1_clear 87 = .ok (.goto (-16), 3) := by decide +kernel
theorem dX1_clear_90 : decode cX1_clear 90 = .ok (.return_, 1) := by decide +kernel
theorem dX1_add_0 : decode cX1_add 0 = .ok (.aload_n 0, 1) := by decide +kernel
theorem dX1_add_1 : decode cX1_add 1 = .ok (.dup, 1) := by decide +kernel
theorem dX1_add_2 : decode cX1_add 2 = .ok (.getfield 34, 3) := by decide +kernel
theorem dX1_add_5 : decode cX1_add 5 = .ok (.iconst 1, 1) := by decide +kernel
theorem dX1_add_6 : decode cX1_add 6 = .ok (.iadd, 1) := by decide +kernel
theorem dX1_add_7 : decode cX1_add 7 = .ok (.putfield 34, 3) := by decide +kernel
theorem dX1_add_10 : decode cX1_add 10 = .ok (.iload_n 2, 1) := by decide +kernel
theorem dX1_add_11 : decode cX1_add 11 = .ok (.ifCond .ne 16, 3) := by decide +kernel
theorem dX1_add_14 : decode cX1_add 14 = .ok (.aload_n 0, 1) := by decide +kernel
theorem dX1_add_15 : decode cX1_add 15 = .ok (.getfield 9, 3) := by decide +kernel
theorem dX1_add_18 : decode cX1_add 18 = .ok (.aload_n 1, 1) := by decide +kernel
theorem dX1_add_19 : decode cX1_add 19 = .ok (.getfield 47, 3) := by decide +kernel
theorem dX1_add_22 : decode cX1_add 22 = .ok (.dup2, 1) := by decide +kernel
theorem dX1_add_23 : decode cX1_add 23 = .ok (.iaload, 1) := by decide +kernel
theorem dX1_add_24 : decode cX1_add 24 = .ok (.iconst 1, 1) := by decide +kernel
theorem dX1_add_25 : decode cX1_add 25 = .ok (.iadd, 1) := by decide +kernel
theorem dX1_add_26 : decode cX1_add 26 = .ok (.iastore, 1) := by decide +kernel
theorem dX1_add_27 : decode cX1_add 27 = .ok (.return_, 1) := by decide +kernel
theorem dX1_join_0 : decode cX1_join 0 = .ok (.iconst 0, 1) := by decide +kernel
theorem dX1_join_1 : decode cX1_join 1 = .ok (.istore_n 2, 1) := by decide +kernel
theorem dX1_join_2 : decode cX1_join 2 = .ok (.iload_n 2, 1) := by decide +kernel
theorem dX1_join_3 : decode cX1_join 3 = .ok (.aload_n 0, 1) := by decide +kernel
theorem dX1_join_4 : decode cX1_join 4 = .ok (.getfield 30, 3) := by decide +kernel
theorem dX1_join_7 : decode cX1_join 7 = .ok (.getfield 50, 3) := by decide +kernel
theorem dX1_join_10 : decode cX1_join 10 = .ok (.if_icmp .ge 81, 3) := by decide +kernel
theorem dX1_join_13 : decode cX1_join 13 = .ok (.aload_n 0, 1) := by decide +kernel
theorem dX1_join_14 : decode cX1_join 14 = .ok (.getfield 30, 3) := by decide +kernel
theorem dX1_join_17 : decode cX1_join 17 = .ok (.getfield 55, 3) := by decide +kernel
theorem dX1_join_20 : decode cX1_join 20 = .ok (.iload_n 2, 1) := by decide +kernel
theorem dX1_join_21 : decode cX1_join 21 = .ok (.aaload, 1) := by decide +kernel
theorem dX1_join_22 : decode cX1_join 22 = .ok (.astore_n 3, 1) := by decide +kernel
theorem dX1_join_23 : decode cX1_join 23 = .ok (.aload_n 0, 1) := by decide +kernel
theorem dX1_join_24 : decode cX1_join 24 = .ok (.getfield 9, 3) := by decide +kernel
theorem dX1_join_27 : decode cX1_join 27 = .ok (.aload_n 3, 1) := by decide +kernel
theorem dX1_join_28 : decode cX1_join 28 = .ok (.getfield 47, 3) := by decide +kernel
theorem dX1_join_31 : decode cX1_join 31 = .ok (.iaload, 1) := by decide +kernel
theorem dX1_join_32 : decode cX1_join 32 = .ok (.ifCond .le 53, 3) := by decide +kernel
theorem dX1_join_35 : decode cX1_join 35 = .ok (.aload_n 0, 1) := by decide +kernel
theorem dX1_join_36 : decode cX1_join 36 = .ok (.aload_n 0, 1) := by decide +kernel
theorem dX1_join_37 : decode cX1_join 37 = .ok (.getfield 23, 3) := by decide +kernel
theorem dX1_join_40 : decode cX1_join 40 = .ok (.aload_n 3, 1) := by decide +kernel
theorem dX1_join_41 : decode cX1_join 41 = .ok (.getfield 58, 3) := by decide +kernel
theorem dX1_join_44 : decode cX1_join 44 = .ok (.aaload, 1) := by decide +kernel
theorem dX1_join_45 : decode cX1_join 45 = .ok (.aload_n 3, 1) := by decide +kernel
theorem dX1_join_46 : decode cX1_join 46 = .ok (.iload_n 1, 1) := by decide +kernel
theorem dX1_join_47 : decode cX1_join 47 = .ok (.invokevirtual 61, 3) := by decide +kernel
theorem dX1_join_50 : decode cX1_join 50 = .ok (.aload_n 0, 1) := by decide +kernel
theorem dX1_join_51 : decode cX1_join 51 = .ok (.aload_n 0, 1) := by decide +kernel
theorem dX1_join_52 : decode cX1_join 52 = .ok (.getfield 27, 3) := by decide +kernel
theorem dX1_join_55 : decode cX1_join 55 = .ok (.aload_n 3, 1) := by decide +kernel
theorem dX1_join_56 : decode cX1_join 56 = .ok (.getfield 65, 3) := by decide +kernel
theorem dX1_join_59 : decode cX1_join 59 = .ok (.aaload, 1) := by decide +kernel
theorem dX1_join_60 : decode cX1_join 60 = .ok (.aload_n 3, 1) := by decide +kernel
theorem dX1_join_61 : decode cX1_join 61 = .ok (.iload_n 1, 1) := by decide +kernel
theorem dX1_join_62 : decode cX1_join 62 = .ok (.invokevirtual 61, 3) := by decide +kernel
theorem dX1_join_65 : decode cX1_join 65 = .ok (.aload_n 0, 1) := by decide +kernel
theorem dX1_join_66 : decode cX1_join 66 = .ok (.getfield 23, 3) := by decide +kernel
theorem dX1_join_69 : decode cX1_join 69 = .ok (.aload_n 3, 1) := by decide +kernel
theorem dX1_join_70 : decode cX1_join 70 = .ok (.getfield 58, 3) := by decide +kernel
theorem dX1_join_73 : decode cX1_join 73 = .ok (.aload_n 3, 1) := by decide +kernel
theorem dX1_join_74 : decode cX1_join 74 = .ok (.aastore, 1) := by decide +kernel
theorem dX1_join_75 : decode cX1_join 75 = .ok (.aload_n 0, 1) := by decide +kernel
theorem dX1_join_76 : decode cX1_join 76 = .ok (.getfield 27, 3) := by decide +kernel
theorem dX1_join_79 : decode cX1_join 79 = .ok (.aload_n 3, 1) := by decide +kernel
theorem dX1_join_80 : decode cX1_join 80 = .ok (.getfield 65, 3) := by decide +kernel
theorem dX1_join_83 : decode cX1_join 83 = .ok (.aload_n 3, 1) := by decide +kernel
theorem dX1_join_84 : decode cX1_join 84 = .ok (.aastore, 1) := by decide +kernel
theorem dX1_join_85 : decode cX1_join 85 = .ok (.iinc 2 1, 3) := by decide +kernel
theorem dX1_join_88 : decode cX1_join 88 = .ok (.goto (-86), 3) := by decide +kernel
theorem dX1_join_91 : decode cX1_join 91 = .ok (.iconst 0, 1) := by decide +kernel
theorem dX1_join_92 : decode cX1_join 92 = .ok (.istore_n 2, 1) := by decide +kernel
theorem dX1_join_93 : decode cX1_join 93 = .ok (.iload_n 2, 1) := by decide +kernel
theorem dX1_join_94 : decode cX1_join 94 = .ok (.aload_n 0, 1) := by decide +kernel
theorem dX1_join_95 : decode cX1_join 95 = .ok (.getfield 30, 3) := by decide +kernel
theorem dX1_join_98 : decode cX1_join 98 = .ok (.getfield 50, 3) := by decide +kernel
theorem dX1_join_101 : decode cX1_join 101 = .ok (.if_icmp .ge 57, 3) := by decide +kernel
theorem dX1_join_104 : decode cX1_join 104 = .ok (.aload_n 0, 1) := by decide +kernel
theorem dX1_join_105 : decode cX1_join 105 = .ok (.getfield 9, 3) := by decide +kernel
theorem dX1_join_108 : decode cX1_join 108 = .ok (.iload_n 2, 1) := by decide +kernel
theorem dX1_join_109 : decode cX1_join 109 = .ok (.iaload, 1) := by decide +kernel
theorem dX1_join_110 : decode cX1_join 110 = .ok (.ifCond .le 23, 3) := by decide +kernel
theorem dX1_join_113 : decode cX1_join 113 = .ok (.aload_n 0, 1) := by decide +kernel
theorem dX1_join_114 : decode cX1_join 114 = .ok (.getfield 15, 3) := by decide +kernel
theorem dX1_join_117 : decode cX1_join 117 = .ok (.iload_n 2, 1) := by decide +kernel
theorem dX1_join_118 : decode cX1_join 118 = .ok (.iaload, 1) := by decide +kernel
theorem dX1_join_119 : decode cX1_join 119 = .ok (.iload_n 2, 1) := by decide +kernel
theorem dX1_join_120 : decode cX1_join 120 = .ok (.if_icmp .ne 13, 3) := by decide +kernel
theorem dX1_join_123 : decode cX1_join 123 = .ok (.aload_n 0, 1) := by decide +kernel
theorem dX1_join_124 : decode cX1_join 124 = .ok (.dup, 1) := by decide +kernel
theorem dX1_join_125 : decode cX1_join 125 = .ok (.getfield 38, 3) := by decide +kernel
theorem dX1_join_128 : decode cX1_join 128 = .ok (.iconst 1, 1) := by decide +kernel
theorem dX1_join_129 : decode cX1_join 129 = .ok (.iadd, 1) := by decide +kernel
theorem dX1_join_130 : decode cX1_join 130 = .ok (.putfield 38, 3) := by decide +kernel
theorem dX1_join_133 : decode cX1_join 133 = .ok (.aload_n 0, 1) := by decide +kernel
theorem dX1_join_134 : decode cX1_join 134 = .ok (.getfield 18, 3) := by decide +kernel
theorem dX1_join_137 : decode cX1_join 137 = .ok (.aload_n 0, 1) := by decide +kernel
theorem dX1_join_138 : decode cX1_join 138 = .ok (.iload_n 2, 1) := by decide +kernel
theorem dX1_join_139 : decode cX1_join 139 = .ok (.invokevirtual 68, 3) := by decide +kernel
theorem dX1_join_142 : decode cX1_join 142 = .ok (.dup2, 1) := by decide +kernel
theorem dX1_join_143 : decode cX1_join 143 = .ok (.iaload, 1) := by decide +kernel
theorem dX1_join_144 : decode cX1_join 144 = .ok (.aload_n 0, 1) := by decide +kernel
theorem dX1_join_145 : decode cX1_join 145 = .ok (.getfield 9, 3) := by decide +kernel
theorem dX1_join_148 : decode cX1_join 148 = .ok (.iload_n 2, 1) := by decide +kernel
theorem dX1_join_149 : decode cX1_join 149 = .ok (.iaload, 1) := by decide +kernel
theorem dX1_join_150 : decode cX1_join 150 = .ok (.iadd, 1) := by decide +kernel
theorem dX1_join_151 : decode cX1_join 151 = .ok (.iastore, 1) := by decide +kernel
theorem dX1_join_152 : decode cX1_join 152 = .ok (.iinc 2 1, 3) := by decide +kernel
theorem dX1_join_155 : decode cX1_join 155 = .ok (.goto (-62), 3) := by decide +kernel
theorem dX1_join_158 : decode cX1_join 158 = .ok (.return_, 1) := by decide +kernel
theorem dX1_link_0 : decode cX1_link 0 = .ok (.aload_n 1, 1) := by decide +kernel
theorem dX1_link_1 : decode cX1_link 1 = .ok (.ifnull 37, 3) := by decide +kernel
theorem dX1_link_4 : decode cX1_link 4 = .ok (.aload_n 2, 1) := by decide +kernel
theorem dX1_link_5 : decode cX1_link 5 = .ok (.getfield 72, 3) := by decide +kernel
theorem dX1_link_8 : decode cX1_link 8 = .ok (.aload_n 1, 1) := by decide +kernel
theorem dX1_link_9 : decode cX1_link 9 = .ok (.getfield 72, 3) := by decide +kernel
theorem dX1_link_12 : decode cX1_link 12 = .ok (.isub, 1) := by decide +kernel
theorem dX1_link_13 : decode cX1_link 13 = .ok (.iload_n 3, 1) := by decide +kernel
theorem dX1_link_14 : decode cX1_link 14 = .ok (.if_icmp .gt 24, 3) := by decide +kernel
theorem dX1_link_17 : decode cX1_link 17 = .ok (.aload_n 0, 1) := by decide +kernel
theorem dX1_link_18 : decode cX1_link 18 = .ok (.getfield 15, 3) := by decide +kernel
theorem dX1_link_21 : decode cX1_link 21 = .ok (.aload_n 0, 1) := by decide +kernel
theorem dX1_link_22 : decode cX1_link 22 = .ok (.aload_n 2, 1) := by decide +kernel
theorem dX1_link_23 : decode cX1_link 23 = .ok (.getfield 47, 3) := by decide +kernel
theorem dX1_link_26 : decode cX1_link 26 = .ok (.invokevirtual 68, 3) := by decide +kernel
theorem dX1_link_29 : decode cX1_link 29 = .ok (.aload_n 0, 1) := by decide +kernel
theorem dX1_link_30 : decode cX1_link 30 = .ok (.aload_n 1, 1) := by decide +kernel
theorem dX1_link_31 : decode cX1_link 31 = .ok (.getfield 47, 3) := by decide +kernel
theorem dX1_link_34 : decode cX1_link 34 = .ok (.invokevirtual 68, 3) := by decide +kernel
theorem dX1_link_37 : decode cX1_link 37 = .ok (.iastore, 1) := by decide +kernel
theorem dX1_link_38 : decode cX1_link 38 = .ok (.return_, 1) := by decide +kernel
theorem dX1_rootOf_0 : decode cX1_rootOf 0 = .ok (.iload_n 1, 1) := by decide +kernel
theorem dX1_rootOf_1 : decode cX1_rootOf 1 = .ok (.istore_n 2, 1) := by decide +kernel
theorem dX1_rootOf_2 : decode cX1_rootOf 2 = .ok (.iconst 0, 1) := by decide +kernel
theorem dX1_rootOf_3 : decode cX1_rootOf 3 = .ok (.istore_n 3, 1) := by decide +kernel
theorem dX1_rootOf_4 : decode cX1_rootOf 4 = .ok (.iload_n 3, 1) := by decide +kernel
theorem dX1_rootOf_5 : decode cX1_rootOf 5 = .ok (.sipush 250, 3) := by decide +kernel
theorem dX1_rootOf_8 : decode cX1_rootOf 8 = .ok (.if_icmp .ge 43, 3) := by decide +kernel
theorem dX1_rootOf_11 : decode cX1_rootOf 11 = .ok (.aload_n 0, 1) := by decide +kernel
theorem dX1_rootOf_12 : decode cX1_rootOf 12 = .ok (.getfield 15, 3) := by decide +kernel
theorem dX1_rootOf_15 : decode cX1_rootOf 15 = .ok (.iload_n 2, 1) := by decide +kernel
theorem dX1_rootOf_16 : decode cX1_rootOf 16 = .ok (.iaload, 1) := by decide +kernel
theorem dX1_rootOf_17 : decode cX1_rootOf 17 = .ok (.iload_n 2, 1) := by decide +kernel
theorem dX1_rootOf_18 : decode cX1_rootOf 18 = .ok (.if_icmp .eq 33, 3) := by decide +kernel
theorem dX1_rootOf_21 : decode cX1_rootOf 21 = .ok (.aload_n 0, 1) := by decide +kernel
theorem dX1_rootOf_22 : decode cX1_rootOf 22 = .ok (.getfield 15, 3) := by decide +kernel
theorem dX1_rootOf_25 : decode cX1_rootOf 25 = .ok (.iload_n 2, 1) := by decide +kernel
theorem dX1_rootOf_26 : decode cX1_rootOf 26 = .ok (.aload_n 0, 1) := by decide +kernel
theorem dX1_rootOf_27 : decode cX1_rootOf 27 = .ok (.getfield 15, 3) := by decide +kernel
theorem dX1_rootOf_30 : decode cX1_rootOf 30 = .ok (.aload_n 0, 1) := by decide +kernel
theorem dX1_rootOf_31 : decode cX1_rootOf 31 = .ok (.getfield 15, 3) := by decide +kernel
theorem dX1_rootOf_34 : decode cX1_rootOf 34 = .ok (.iload_n 2, 1) := by decide +kernel
theorem dX1_rootOf_35 : decode cX1_rootOf 35 = .ok (.iaload, 1) := by decide +kernel
theorem dX1_rootOf_36 : decode cX1_rootOf 36 = .ok (.iaload, 1) := by decide +kernel
theorem dX1_rootOf_37 : decode cX1_rootOf 37 = .ok (.iastore, 1) := by decide +kernel
theorem dX1_rootOf_38 : decode cX1_rootOf 38 = .ok (.aload_n 0, 1) := by decide +kernel
theorem dX1_rootOf_39 : decode cX1_rootOf 39 = .ok (.getfield 15, 3) := by decide +kernel
theorem dX1_rootOf_42 : decode cX1_rootOf 42 = .ok (.iload_n 2, 1) := by decide +kernel
theorem dX1_rootOf_43 : decode cX1_rootOf 43 = .ok (.iaload, 1) := by decide +kernel
theorem dX1_rootOf_44 : decode cX1_rootOf 44 = .ok (.istore_n 2, 1) := by decide +kernel
theorem dX1_rootOf_45 : decode cX1_rootOf 45 = .ok (.iinc 3 1, 3) := by decide +kernel
theorem dX1_rootOf_48 : decode cX1_rootOf 48 = .ok (.goto (-44), 3) := by decide +kernel
theorem dX1_rootOf_51 : decode cX1_rootOf 51 = .ok (.iload_n 2, 1) := by decide +kernel
theorem dX1_rootOf_52 : decode cX1_rootOf 52 = .ok (.ireturn, 1) := by decide +kernel
theorem dX1_findsBeside_0 : decode cX1_findsBeside 0 = .ok (.aload_n 0, 1) := by decide +kernel
theorem dX1_findsBeside_1 : decode cX1_findsBeside 1 = .ok (.getfield 18, 3) := by decide +kernel
theorem dX1_findsBeside_4 : decode cX1_findsBeside 4 = .ok (.aload_n 0, 1) := by decide +kernel
theorem dX1_findsBeside_5 : decode cX1_findsBeside 5 = .ok (.aload_n 1, 1) := by decide +kernel
theorem dX1_findsBeside_6 : decode cX1_findsBeside 6 = .ok (.getfield 47, 3) := by decide +kernel
theorem dX1_findsBeside_9 : decode cX1_findsBeside 9 = .ok (.invokevirtual 68, 3) := by decide +kernel
theorem dX1_findsBeside_12 : decode cX1_findsBeside 12 = .ok (.iaload, 1) := by decide +kernel
theorem dX1_findsBeside_13 : decode cX1_findsBeside 13 = .ok (.ireturn, 1) := by decide +kernel
theorem dX2_init_0 : decode cX2_init 0 = .ok (.aload_n 0, 1) := by decide +kernel
theorem dX2_init_1 : decode cX2_init 1 = .ok (.invokespecial 3, 3) := by decide +kernel
theorem dX2_init_4 : decode cX2_init 4 = .ok (.aload_n 0, 1) := by decide +kernel
theorem dX2_init_5 : decode cX2_init 5 = .ok (.sipush 250, 3) := by decide +kernel
theorem dX2_init_8 : decode cX2_init 8 = .ok (.anewarray 9, 3) := by decide +kernel
theorem dX2_init_11 : decode cX2_init 11 = .ok (.putfield 11, 3) := by decide +kernel
theorem dX2_init_14 : decode cX2_init 14 = .ok (.aload_n 0, 1) := by decide +kernel
theorem dX2_init_15 : decode cX2_init 15 = .ok (.sipush 250, 3) := by decide +kernel
theorem dX2_init_18 : decode cX2_init 18 = .ok (.anewarray 9, 3) := by decide +kernel
theorem dX2_init_21 : decode cX2_init 21 = .ok (.putfield 17, 3) := by decide +kernel
theorem dX2_init_24 : decode cX2_init 24 = .ok (.return_, 1) := by decide +kernel
theorem dX2_actAt_0 : decode cX2_actAt 0 = .ok (.iload_n 1, 1) := by decide +kernel
theorem dX2_actAt_1 : decode cX2_actAt 1 = .ok (.ifCond .lt 20, 3) := by decide +kernel
theorem dX2_actAt_4 : decode cX2_actAt 4 = .ok (.iload_n 1, 1) := by decide +kernel
theorem dX2_actAt_5 : decode cX2_actAt 5 = .ok (.aload_n 0, 1) := by decide +kernel
theorem dX2_actAt_6 : decode cX2_actAt 6 = .ok (.getfield 20, 3) := by decide +kernel
theorem dX2_actAt_9 : decode cX2_actAt 9 = .ok (.if_icmp .ge 12, 3) := by decide +kernel
theorem dX2_actAt_12 : decode cX2_actAt 12 = .ok (.aload_n 0, 1) := by decide +kernel
theorem dX2_actAt_13 : decode cX2_actAt 13 = .ok (.getfield 11, 3) := by decide +kernel
theorem dX2_actAt_16 : decode cX2_actAt 16 = .ok (.iload_n 1, 1) := by decide +kernel
theorem dX2_actAt_17 : decode cX2_actAt 17 = .ok (.aaload, 1) := by decide +kernel
theorem dX2_actAt_18 : decode cX2_actAt 18 = .ok (.goto 4, 3) := by decide +kernel
theorem dX2_actAt_21 : decode cX2_actAt 21 = .ok (.aconst_null, 1) := by decide +kernel
theorem dX2_actAt_22 : decode cX2_actAt 22 = .ok (.areturn, 1) := by decide +kernel
theorem dX2_tookDouble_0 : decode cX2_tookDouble 0 = .ok (.iconst 0, 1) := by decide +kernel
theorem dX2_tookDouble_1 : decode cX2_tookDouble 1 = .ok (.istore 6, 2) := by decide +kernel
theorem dX2_tookDouble_3 : decode cX2_tookDouble 3 = .ok (.iload 6, 2) := by decide +kernel
theorem dX2_tookDouble_5 : decode cX2_tookDouble 5 = .ok (.aload_n 0, 1) := by decide +kernel
theorem dX2_tookDouble_6 : decode cX2_tookDouble 6 = .ok (.getfield 20, 3) := by decide +kernel
theorem dX2_tookDouble_9 : decode cX2_tookDouble 9 = .ok (.if_icmp .ge 88, 3) := by decide +kernel
theorem dX2_tookDouble_12 : decode cX2_tookDouble 12 = .ok (.aload_n 0, 1) := by decide +kernel
theorem dX2_tookDouble_13 : decode cX2_tookDouble 13 = .ok (.getfield 11, 3) := by decide +kernel
theorem dX2_tookDouble_16 : decode cX2_tookDouble 16 = .ok (.iload 6, 2) := by decide +kernel
theorem dX2_tookDouble_18 : decode cX2_tookDouble 18 = .ok (.aaload, 1) := by decide +kernel
theorem dX2_tookDouble_19 : decode cX2_tookDouble 19 = .ok (.astore 7, 2) := by decide +kernel
theorem dX2_tookDouble_21 : decode cX2_tookDouble 21 = .ok (.aload 7, 2) := by decide +kernel
theorem dX2_tookDouble_23 : decode cX2_tookDouble 23 = .ok (.getfield 24, 3) := by decide +kernel
theorem dX2_tookDouble_26 : decode cX2_tookDouble 26 = .ok (.iload 5, 2) := by decide +kernel
theorem dX2_tookDouble_28 : decode cX2_tookDouble 28 = .ok (.if_icmp .ne 63, 3) := by decide +kernel
theorem dX2_tookDouble_31 : decode cX2_tookDouble 31 = .ok (.aload 7, 2) := by decide +kernel
theorem dX2_tookDouble_33 : decode cX2_tookDouble 33 = .ok (.getfield 27, 3) := by decide +kernel
theorem dX2_tookDouble_36 : decode cX2_tookDouble 36 = .ok (.iload_n 1, 1) := by decide +kernel
theorem dX2_tookDouble_37 : decode cX2_tookDouble 37 = .ok (.if_icmp .ne 54, 3) := by decide +kernel
theorem dX2_tookDouble_40 : decode cX2_tookDouble 40 = .ok (.aload 7, 2) := by decide +kernel
theorem dX2_tookDouble_42 : decode cX2_tookDouble 42 = .ok (.getfield 30, 3) := by decide +kernel
theorem dX2_tookDouble_45 : decode cX2_tookDouble 45 = .ok (.iload_n 2, 1) := by decide +kernel
theorem dX2_tookDouble_46 : decode cX2_tookDouble 46 = .ok (.if_icmp .ne 45, 3) := by decide +kernel
theorem dX2_tookDouble_49 : decode cX2_tookDouble 49 = .ok (.aload 7, 2) := by decide +kernel
theorem dX2_tookDouble_51 : decode cX2_tookDouble 51 = .ok (.getfield 33, 3) := by decide +kernel
theorem dX2_tookDouble_54 : decode cX2_tookDouble 54 = .ok (.iload_n 3, 1) := by decide +kernel
theorem dX2_tookDouble_55 : decode cX2_tookDouble 55 = .ok (.if_icmp .ne 36, 3) := by decide +kernel
theorem dX2_tookDouble_58 : decode cX2_tookDouble 58 = .ok (.aload 7, 2) := by decide +kernel
theorem dX2_tookDouble_60 : decode cX2_tookDouble 60 = .ok (.getfield 36, 3) := by decide +kernel
theorem dX2_tookDouble_63 : decode cX2_tookDouble 63 = .ok (.iload 4, 2) := by decide +kernel
theorem dX2_tookDouble_65 : decode cX2_tookDouble 65 = .ok (.if_icmp .ne 26, 3) := by decide +kernel
theorem dX2_tookDouble_68 : decode cX2_tookDouble 68 = .ok (.aload 7, 2) := by decide +kernel
theorem dX2_tookDouble_70 : decode cX2_tookDouble 70 = .ok (.dup, 1) := by decide +kernel
theorem dX2_tookDouble_71 : decode cX2_tookDouble 71 = .ok (.getfield 39, 3) := by decide +kernel
theorem dX2_tookDouble_74 : decode cX2_tookDouble 74 = .ok (.iconst 1, 1) := by decide +kernel
theorem dX2_tookDouble_75 : decode cX2_tookDouble 75 = .ok (.iadd, 1) := by decide +kernel
theorem dX2_tookDouble_76 : decode cX2_tookDouble 76 = .ok (.putfield 39, 3) := by decide +kernel
theorem dX2_tookDouble_79 : decode cX2_tookDouble 79 = .ok (.aload_n 0, 1) := by decide +kernel
theorem dX2_tookDouble_80 : decode cX2_tookDouble 80 = .ok (.dup, 1) := by decide +kernel
theorem dX2_tookDouble_81 : decode cX2_tookDouble 81 = .ok (.getfield 42, 3) := by decide +kernel
theorem dX2_tookDouble_84 : decode cX2_tookDouble 84 = .ok (.iconst 1, 1) := by decide +kernel
theorem dX2_tookDouble_85 : decode cX2_tookDouble 85 = .ok (.iadd, 1) := by decide +kernel
theorem dX2_tookDouble_86 : decode cX2_tookDouble 86 = .ok (.putfield 42, 3) := by decide +kernel
theorem dX2_tookDouble_89 : decode cX2_tookDouble 89 = .ok (.iconst 1, 1) := by decide +kernel
theorem dX2_tookDouble_90 : decode cX2_tookDouble 90 = .ok (.ireturn, 1) := by decide +kernel
theorem dX2_tookDouble_91 : decode cX2_tookDouble 91 = .ok (.iinc 6 1, 3) := by decide +kernel
theorem dX2_tookDouble_94 : decode cX2_tookDouble 94 = .ok (.goto (-91), 3) := by decide +kernel
theorem dX2_tookDouble_97 : decode cX2_tookDouble 97 = .ok (.iconst 0, 1) := by decide +kernel
theorem dX2_tookDouble_98 : decode cX2_tookDouble 98 = .ok (.ireturn, 1) := by decide +kernel
theorem dX2_add_0 : decode cX2_add 0 = .ok (.aload_n 0, 1) := by decide +kernel
theorem dX2_add_1 : decode cX2_add 1 = .ok (.getfield 20, 3) := by decide +kernel
theorem dX2_add_4 : decode cX2_add 4 = .ok (.sipush 250, 3) := by decide +kernel
theorem dX2_add_7 : decode cX2_add 7 = .ok (.if_icmp .lt 4, 3) := by decide +kernel
theorem dX2_add_10 : decode cX2_add 10 = .ok (.return_, 1) := by decide +kernel
theorem dX2_add_11 : decode cX2_add 11 = .ok (.aload_n 1, 1) := by decide +kernel
theorem dX2_add_12 : decode cX2_add 12 = .ok (.aload_n 0, 1) := by decide +kernel
theorem dX2_add_13 : decode cX2_add 13 = .ok (.aload_n 1, 1) := by decide +kernel
theorem dX2_add_14 : decode cX2_add 14 = .ok (.invokevirtual 43, 3) := by decide +kernel
theorem dX2_add_17 : decode cX2_add 17 = .ok (.putfield 47, 3) := by decide +kernel
theorem dX2_add_20 : decode cX2_add 20 = .ok (.aload_n 1, 1) := by decide +kernel
theorem dX2_add_21 : decode cX2_add 21 = .ok (.getfield 50, 3) := by decide +kernel
theorem dX2_add_24 : decode cX2_add 24 = .ok (.aload_n 1, 1) := by decide +kernel
theorem dX2_add_25 : decode cX2_add 25 = .ok (.getfield 24, 3) := by decide +kernel
theorem dX2_add_28 : decode cX2_add 28 = .ok (.if_icmp .le 13, 3) := by decide +kernel
theorem dX2_add_31 : decode cX2_add 31 = .ok (.aload_n 0, 1) := by decide +kernel
theorem dX2_add_32 : decode cX2_add 32 = .ok (.dup, 1) := by decide +kernel
theorem dX2_add_33 : decode cX2_add 33 = .ok (.getfield 53, 3) := by decide +kernel
theorem dX2_add_36 : decode cX2_add 36 = .ok (.iconst 1, 1) := by decide +kernel
theorem dX2_add_37 : decode cX2_add 37 = .ok (.iadd, 1) := by decide +kernel
theorem dX2_add_38 : decode cX2_add 38 = .ok (.putfield 53, 3) := by decide +kernel
theorem dX2_add_41 : decode cX2_add 41 = .ok (.aload_n 0, 1) := by decide +kernel
theorem dX2_add_42 : decode cX2_add 42 = .ok (.getfield 11, 3) := by decide +kernel
theorem dX2_add_45 : decode cX2_add 45 = .ok (.aload_n 0, 1) := by decide +kernel
theorem dX2_add_46 : decode cX2_add 46 = .ok (.getfield 20, 3) := by decide +kernel
theorem dX2_add_49 : decode cX2_add 49 = .ok (.aload_n 1, 1) := by decide +kernel
theorem dX2_add_50 : decode cX2_add 50 = .ok (.aastore, 1) := by decide +kernel
theorem dX2_add_51 : decode cX2_add 51 = .ok (.aload_n 0, 1) := by decide +kernel
theorem dX2_add_52 : decode cX2_add 52 = .ok (.getfield 20, 3) := by decide +kernel
theorem dX2_add_55 : decode cX2_add 55 = .ok (.istore_n 2, 1) := by decide +kernel
theorem dX2_add_56 : decode cX2_add 56 = .ok (.iload_n 2, 1) := by decide +kernel
theorem dX2_add_57 : decode cX2_add 57 = .ok (.ifCond .le 41, 3) := by decide +kernel
theorem dX2_add_60 : decode cX2_add 60 = .ok (.aload_n 0, 1) := by decide +kernel
theorem dX2_add_61 : decode cX2_add 61 = .ok (.getfield 17, 3) := by decide +kernel
theorem dX2_add_64 : decode cX2_add 64 = .ok (.iload_n 2, 1) := by decide +kernel
theorem dX2_add_65 : decode cX2_add 65 = .ok (.iconst 1, 1) := by decide +kernel
theorem dX2_add_66 : decode cX2_add 66 = .ok (.isub, 1) := by decide +kernel
theorem dX2_add_67 : decode cX2_add 67 = .ok (.aaload, 1) := by decide +kernel
theorem dX2_add_68 : decode cX2_add 68 = .ok (.getfield 24, 3) := by decide +kernel
theorem dX2_add_71 : decode cX2_add 71 = .ok (.aload_n 1, 1) := by decide +kernel
theorem dX2_add_72 : decode cX2_add 72 = .ok (.getfield 24, 3) := by decide +kernel
theorem dX2_add_75 : decode cX2_add 75 = .ok (.if_icmp .le 23, 3) := by decide +kernel
theorem dX2_add_78 : decode cX2_add 78 = .ok (.aload_n 0, 1) := by decide +kernel
theorem dX2_add_79 : decode cX2_add 79 = .ok (.getfield 17, 3) := by decide +kernel
theorem dX2_add_82 : decode cX2_add 82 = .ok (.iload_n 2, 1) := by decide +kernel
theorem dX2_add_83 : decode cX2_add 83 = .ok (.aload_n 0, 1) := by decide +kernel
theorem dX2_add_84 : decode cX2_add 84 = .ok (.getfield 17, 3) := by decide +kernel
theorem dX2_add_87 : decode cX2_add 87 = .ok (.iload_n 2, 1) := by decide +kernel
theorem dX2_add_88 : decode cX2_add 88 = .ok (.iconst 1, 1) := by decide +kernel
theorem dX2_add_89 : decode cX2_add 89 = .ok (.isub, 1) := by decide +kernel
theorem dX2_add_90 : decode cX2_add 90 = .ok (.aaload, 1) := by decide +kernel
theorem dX2_add_91 : decode cX2_add 91 = .ok (.aastore, 1) := by decide +kernel
theorem dX2_add_92 : decode cX2_add 92 = .ok (.iinc 2 (-1), 3) := by decide +kernel
theorem dX2_add_95 : decode cX2_add 95 = .ok (.goto (-39), 3) := by decide +kernel
theorem dX2_add_98 : decode cX2_add 98 = .ok (.aload_n 0, 1) := by decide +kernel
theorem dX2_add_99 : decode cX2_add 99 = .ok (.getfield 17, 3) := by decide +kernel
theorem dX2_add_102 : decode cX2_add 102 = .ok (.iload_n 2, 1) := by decide +kernel
theorem dX2_add_103 : decode cX2_add 103 = .ok (.aload_n 1, 1) := by decide +kernel
theorem dX2_add_104 : decode cX2_add 104 = .ok (.aastore, 1) := by decide +kernel
theorem dX2_add_105 : decode cX2_add 105 = .ok (.aload_n 0, 1) := by decide +kernel
theorem dX2_add_106 : decode cX2_add 106 = .ok (.dup, 1) := by decide +kernel
theorem dX2_add_107 : decode cX2_add 107 = .ok (.getfield 20, 3) := by decide +kernel
theorem dX2_add_110 : decode cX2_add 110 = .ok (.iconst 1, 1) := by decide +kernel
theorem dX2_add_111 : decode cX2_add 111 = .ok (.iadd, 1) := by decide +kernel
theorem dX2_add_112 : decode cX2_add 112 = .ok (.putfield 20, 3) := by decide +kernel
theorem dX2_add_115 : decode cX2_add 115 = .ok (.return_, 1) := by decide +kernel
theorem dX2_familyOf_0 : decode cX2_familyOf 0 = .ok (.iconst 0, 1) := by decide +kernel
theorem dX2_familyOf_1 : decode cX2_familyOf 1 = .ok (.istore_n 2, 1) := by decide +kernel
theorem dX2_familyOf_2 : decode cX2_familyOf 2 = .ok (.iload_n 2, 1) := by decide +kernel
theorem dX2_familyOf_3 : decode cX2_familyOf 3 = .ok (.aload_n 0, 1) := by decide +kernel
theorem dX2_familyOf_4 : decode cX2_familyOf 4 = .ok (.getfield 20, 3) := by decide +kernel
theorem dX2_familyOf_7 : decode cX2_familyOf 7 = .ok (.if_icmp .ge 24, 3) := by decide +kernel
theorem dX2_familyOf_10 : decode cX2_familyOf 10 = .ok (.aload_n 0, 1) := by decide +kernel
theorem dX2_familyOf_11 : decode cX2_familyOf 11 = .ok (.getfield 11, 3) := by decide +kernel
theorem dX2_familyOf_14 : decode cX2_familyOf 14 = .ok (.iload_n 2, 1) := by decide +kernel
theorem dX2_familyOf_15 : decode cX2_familyOf 15 = .ok (.aaload, 1) := by decide +kernel
theorem dX2_familyOf_16 : decode cX2_familyOf 16 = .ok (.aload_n 1, 1) := by decide +kernel
theorem dX2_familyOf_17 : decode cX2_familyOf 17 = .ok (.invokevirtual 56, 3) := by decide +kernel
theorem dX2_familyOf_20 : decode cX2_familyOf 20 = .ok (.ifCond .eq 5, 3) := by decide +kernel
theorem dX2_familyOf_23 : decode cX2_familyOf 23 = .ok (.iload_n 2, 1) := by decide +kernel
theorem dX2_familyOf_24 : decode cX2_familyOf 24 = .ok (.ireturn, 1) := by decide +kernel
theorem dX2_familyOf_25 : decode cX2_familyOf 25 = .ok (.iinc 2 1, 3) := by decide +kernel
theorem dX2_familyOf_28 : decode cX2_familyOf 28 = .ok (.goto (-26), 3) := by decide +kernel
theorem dX2_familyOf_31 : decode cX2_familyOf 31 = .ok (.aload_n 1, 1) := by decide +kernel
theorem dX2_familyOf_32 : decode cX2_familyOf 32 = .ok (.getfield 60, 3) := by decide +kernel
theorem dX2_familyOf_35 : decode cX2_familyOf 35 = .ok (.ireturn, 1) := by decide +kernel
theorem dX2_knownAt_0 : decode cX2_knownAt 0 = .ok (.aload_n 0, 1) := by decide +kernel
theorem dX2_knownAt_1 : decode cX2_knownAt 1 = .ok (.getfield 20, 3) := by decide +kernel
theorem dX2_knownAt_4 : decode cX2_knownAt 4 = .ok (.istore_n 2, 1) := by decide +kernel
theorem dX2_knownAt_5 : decode cX2_knownAt 5 = .ok (.iload_n 2, 1) := by decide +kernel
theorem dX2_knownAt_6 : decode cX2_knownAt 6 = .ok (.ifCond .le 24, 3) := by decide +kernel
theorem dX2_knownAt_9 : decode cX2_knownAt 9 = .ok (.aload_n 0, 1) := by decide +kernel
theorem dX2_knownAt_10 : decode cX2_knownAt 10 = .ok (.getfield 11, 3) := by decide +kernel
theorem dX2_knownAt_13 : decode cX2_knownAt 13 = .ok (.iload_n 2, 1) := by decide +kernel
theorem dX2_knownAt_14 : decode cX2_knownAt 14 = .ok (.iconst 1, 1) := by decide +kernel
theorem dX2_knownAt_15 : decode cX2_knownAt 15 = .ok (.isub, 1) := by decide +kernel
theorem dX2_knownAt_16 : decode cX2_knownAt 16 = .ok (.aaload, 1) := by decide +kernel
theorem dX2_knownAt_17 : decode cX2_knownAt 17 = .ok (.getfield 50, 3) := by decide +kernel
theorem dX2_knownAt_20 : decode cX2_knownAt 20 = .ok (.iload_n 1, 1) := by decide +kernel
theorem dX2_knownAt_21 : decode cX2_knownAt 21 = .ok (.if_icmp .le 9, 3) := by decide +kernel
theorem dX2_knownAt_24 : decode cX2_knownAt 24 = .ok (.iinc 2 (-1), 3) := by decide +kernel
theorem dX2_knownAt_27 : decode cX2_knownAt 27 = .ok (.goto (-22), 3) := by decide +kernel
theorem dX2_knownAt_30 : decode cX2_knownAt 30 = .ok (.iload_n 2, 1) := by decide +kernel
theorem dX2_knownAt_31 : decode cX2_knownAt 31 = .ok (.ireturn, 1) := by decide +kernel
theorem dX3_init_0 : decode cX3_init 0 = .ok (.aload_n 0, 1) := by decide +kernel
theorem dX3_init_1 : decode cX3_init 1 = .ok (.invokespecial 3, 3) := by decide +kernel
theorem dX3_init_4 : decode cX3_init 4 = .ok (.aload_n 0, 1) := by decide +kernel
theorem dX3_init_5 : decode cX3_init 5 = .ok (.bipush 6, 2) := by decide +kernel
theorem dX3_init_7 : decode cX3_init 7 = .ok (.anewarray 9, 3) := by decide +kernel
theorem dX3_init_10 : decode cX3_init 10 = .ok (.putfield 11, 3) := by decide +kernel
theorem dX3_init_13 : decode cX3_init 13 = .ok (.iconst 0, 1) := by decide +kernel
theorem dX3_init_14 : decode cX3_init 14 = .ok (.istore_n 1, 1) := by decide +kernel
theorem dX3_init_15 : decode cX3_init 15 = .ok (.iload_n 1, 1) := by decide +kernel
theorem dX3_init_16 : decode cX3_init 16 = .ok (.bipush 6, 2) := by decide +kernel
theorem dX3_init_18 : decode cX3_init 18 = .ok (.if_icmp .ge 22, 3) := by decide +kernel
theorem dX3_init_21 : decode cX3_init 21 = .ok (.aload_n 0, 1) := by decide +kernel
theorem dX3_init_22 : decode cX3_init 22 = .ok (.getfield 11, 3) := by decide +kernel
theorem dX3_init_25 : decode cX3_init 25 = .ok (.iload_n 1, 1) := by decide +kernel
theorem dX3_init_26 : decode cX3_init 26 = .ok (.new 9, 3) := by decide +kernel
theorem dX3_init_29 : decode cX3_init 29 = .ok (.dup, 1) := by decide +kernel
theorem dX3_init_30 : decode cX3_init 30 = .ok (.invokespecial 17, 3) := by decide +kernel
theorem dX3_init_33 : decode cX3_init 33 = .ok (.aastore, 1) := by decide +kernel
theorem dX3_init_34 : decode cX3_init 34 = .ok (.iinc 1 1, 3) := by decide +kernel
theorem dX3_init_37 : decode cX3_init 37 = .ok (.goto (-22), 3) := by decide +kernel
theorem dX3_init_40 : decode cX3_init 40 = .ok (.return_, 1) := by decide +kernel
theorem dX3_clear_0 : decode cX3_clear 0 = .ok (.aload_n 0, 1) := by decide +kernel
theorem dX3_clear_1 : decode cX3_clear 1 = .ok (.iconst 0, 1) := by decide +kernel
theorem dX3_clear_2 : decode cX3_clear 2 = .ok (.putfield 18, 3) := by decide +kernel
theorem dX3_clear_5 : decode cX3_clear 5 = .ok (.aload_n 0, 1) := by decide +kernel
theorem dX3_clear_6 : decode cX3_clear 6 = .ok (.iconst 0, 1) := by decide +kernel
theorem dX3_clear_7 : decode cX3_clear 7 = .ok (.putfield 22, 3) := by decide +kernel
theorem dX3_clear_10 : decode cX3_clear 10 = .ok (.aload_n 0, 1) := by decide +kernel
theorem dX3_clear_11 : decode cX3_clear 11 = .ok (.iconst 0, 1) := by decide +kernel
theorem dX3_clear_12 : decode cX3_clear 12 = .ok (.putfield 25, 3) := by decide +kernel
theorem dX3_clear_15 : decode cX3_clear 15 = .ok (.aload_n 0, 1) := by decide +kernel
theorem dX3_clear_16 : decode cX3_clear 16 = .ok (.iconst (-1), 1) := by decide +kernel
theorem dX3_clear_17 : decode cX3_clear 17 = .ok (.putfield 28, 3) := by decide +kernel
theorem dX3_clear_20 : decode cX3_clear 20 = .ok (.aload_n 0, 1) := by decide +kernel
theorem dX3_clear_21 : decode cX3_clear 21 = .ok (.iconst 0, 1) := by decide +kernel
theorem dX3_clear_22 : decode cX3_clear 22 = .ok (.putfield 31, 3) := by decide +kernel
theorem dX3_clear_25 : decode cX3_clear 25 = .ok (.aload_n 0, 1) := by decide +kernel
theorem dX3_clear_26 : decode cX3_clear 26 = .ok (.iconst 0, 1) := by decide +kernel
theorem dX3_clear_27 : decode cX3_clear 27 = .ok (.putfield 34, 3) := by decide +kernel
theorem dX3_clear_30 : decode cX3_clear 30 = .ok (.aload_n 0, 1) := by decide +kernel
theorem dX3_clear_31 : decode cX3_clear 31 = .ok (.iconst 0, 1) := by decide +kernel
theorem dX3_clear_32 : decode cX3_clear 32 = .ok (.putfield 37, 3) := by decide +kernel
theorem dX3_clear_35 : decode cX3_clear 35 = .ok (.return_, 1) := by decide +kernel
theorem dX3_note_0 : decode cX3_note 0 = .ok (.aload_n 0, 1) := by decide +kernel
theorem dX3_note_1 : decode cX3_note 1 = .ok (.dup, 1) := by decide +kernel
theorem dX3_note_2 : decode cX3_note 2 = .ok (.getfield 37, 3) := by decide +kernel
theorem dX3_note_5 : decode cX3_note 5 = .ok (.iconst 1, 1) := by decide +kernel
theorem dX3_note_6 : decode cX3_note 6 = .ok (.iload_n 1, 1) := by decide +kernel
theorem dX3_note_7 : decode cX3_note 7 = .ok (.ishl, 1) := by decide +kernel
theorem dX3_note_8 : decode cX3_note 8 = .ok (.ior, 1) := by decide +kernel
theorem dX3_note_9 : decode cX3_note 9 = .ok (.putfield 37, 3) := by decide +kernel
theorem dX3_note_12 : decode cX3_note 12 = .ok (.return_, 1) := by decide +kernel
theorem dX3_addStep_0 : decode cX3_addStep 0 = .ok (.aload_n 0, 1) := by decide +kernel
theorem dX3_addStep_1 : decode cX3_addStep 1 = .ok (.getfield 18, 3) := by decide +kernel
theorem dX3_addStep_4 : decode cX3_addStep 4 = .ok (.bipush 6, 2) := by decide +kernel
theorem dX3_addStep_6 : decode cX3_addStep 6 = .ok (.if_icmp .lt 5, 3) := by decide +kernel
theorem dX3_addStep_9 : decode cX3_addStep 9 = .ok (.aconst_null, 1) := by decide +kernel
theorem dX3_addStep_10 : decode cX3_addStep 10 = .ok (.areturn, 1) := by decide +kernel
theorem dX3_addStep_11 : decode cX3_addStep 11 = .ok (.aload_n 0, 1) := by decide +kernel
theorem dX3_addStep_12 : decode cX3_addStep 12 = .ok (.getfield 11, 3) := by decide +kernel
theorem dX3_addStep_15 : decode cX3_addStep 15 = .ok (.aload_n 0, 1) := by decide +kernel
theorem dX3_addStep_16 : decode cX3_addStep 16 = .ok (.getfield 18, 3) := by decide +kernel
theorem dX3_addStep_19 : decode cX3_addStep 19 = .ok (.aaload, 1) := by decide +kernel
theorem dX3_addStep_20 : decode cX3_addStep 20 = .ok (.astore_n 2, 1) := by decide +kernel
theorem dX3_addStep_21 : decode cX3_addStep 21 = .ok (.aload_n 2, 1) := by decide +kernel
theorem dX3_addStep_22 : decode cX3_addStep 22 = .ok (.iload_n 1, 1) := by decide +kernel
theorem dX3_addStep_23 : decode cX3_addStep 23 = .ok (.aload_n 0, 1) := by decide +kernel
theorem dX3_addStep_24 : decode cX3_addStep 24 = .ok (.getfield 22, 3) := by decide +kernel
theorem dX3_addStep_27 : decode cX3_addStep 27 = .ok (.invokevirtual 40, 3) := by decide +kernel
theorem dX3_addStep_30 : decode cX3_addStep 30 = .ok (.aload_n 0, 1) := by decide +kernel
theorem dX3_addStep_31 : decode cX3_addStep 31 = .ok (.dup, 1) := by decide +kernel
theorem dX3_addStep_32 : decode cX3_addStep 32 = .ok (.getfield 18, 3) := by decide +kernel
theorem dX3_addStep_35 : decode cX3_addStep 35 = .ok (.iconst 1, 1) := by decide +kernel
theorem dX3_addStep_36 : decode cX3_addStep 36 = .ok (.iadd, 1) := by decide +kernel
theorem dX3_addStep_37 : decode cX3_addStep 37 = .ok (.putfield 18, 3) := by decide +kernel
theorem dX3_addStep_40 : decode cX3_addStep 40 = .ok (.iload_n 1, 1) := by decide +kernel
theorem dX3_addStep_41 : decode cX3_addStep 41 = .ok (.ifCond .ne 13, 3) := by decide +kernel
theorem dX3_addStep_44 : decode cX3_addStep 44 = .ok (.aload_n 0, 1) := by decide +kernel
theorem dX3_addStep_45 : decode cX3_addStep 45 = .ok (.dup, 1) := by decide +kernel
theorem dX3_addStep_46 : decode cX3_addStep 46 = .ok (.getfield 22, 3) := by decide +kernel
theorem dX3_addStep_49 : decode cX3_addStep 49 = .ok (.iconst 1, 1) := by decide +kernel
theorem dX3_addStep_50 : decode cX3_addStep 50 = .ok (.iadd, 1) := by decide +kernel
theorem dX3_addStep_51 : decode cX3_addStep 51 = .ok (.putfield 22, 3) := by decide +kernel
theorem dX3_addStep_54 : decode cX3_addStep 54 = .ok (.aload_n 2, 1) := by decide +kernel
theorem dX3_addStep_55 : decode cX3_addStep 55 = .ok (.areturn, 1) := by decide +kernel
theorem dX5_init_0 : decode cX5_init 0 = .ok (.aload_n 0, 1) := by decide +kernel
theorem dX5_init_1 : decode cX5_init 1 = .ok (.invokespecial 3, 3) := by decide +kernel
theorem dX5_init_4 : decode cX5_init 4 = .ok (.return_, 1) := by decide +kernel
theorem dX5_clear_0 : decode cX5_clear 0 = .ok (.aload_n 0, 1) := by decide +kernel
theorem dX5_clear_1 : decode cX5_clear 1 = .ok (.iconst 0, 1) := by decide +kernel
theorem dX5_clear_2 : decode cX5_clear 2 = .ok (.putfield 9, 3) := by decide +kernel
theorem dX5_clear_5 : decode cX5_clear 5 = .ok (.aload_n 0, 1) := by decide +kernel
theorem dX5_clear_6 : decode cX5_clear 6 = .ok (.iconst (-1), 1) := by decide +kernel
theorem dX5_clear_7 : decode cX5_clear 7 = .ok (.putfield 15, 3) := by decide +kernel
theorem dX5_clear_10 : decode cX5_clear 10 = .ok (.aload_n 0, 1) := by decide +kernel
theorem dX5_clear_11 : decode cX5_clear 11 = .ok (.iconst (-1), 1) := by decide +kernel
theorem dX5_clear_12 : decode cX5_clear 12 = .ok (.putfield 18, 3) := by decide +kernel
theorem dX5_clear_15 : decode cX5_clear 15 = .ok (.aload_n 0, 1) := by decide +kernel
theorem dX5_clear_16 : decode cX5_clear 16 = .ok (.iconst (-1), 1) := by decide +kernel
theorem dX5_clear_17 : decode cX5_clear 17 = .ok (.putfield 21, 3) := by decide +kernel
theorem dX5_clear_20 : decode cX5_clear 20 = .ok (.aload_n 0, 1) := by decide +kernel
theorem dX5_clear_21 : decode cX5_clear 21 = .ok (.iload_n 1, 1) := by decide +kernel
theorem dX5_clear_22 : decode cX5_clear 22 = .ok (.putfield 24, 3) := by decide +kernel
theorem dX5_clear_25 : decode cX5_clear 25 = .ok (.aload_n 0, 1) := by decide +kernel
theorem dX5_clear_26 : decode cX5_clear 26 = .ok (.iconst 0, 1) := by decide +kernel
theorem dX5_clear_27 : decode cX5_clear 27 = .ok (.putfield 28, 3) := by decide +kernel
theorem dX5_clear_30 : decode cX5_clear 30 = .ok (.aload_n 0, 1) := by decide +kernel
theorem dX5_clear_31 : decode cX5_clear 31 = .ok (.iconst (-1), 1) := by decide +kernel
theorem dX5_clear_32 : decode cX5_clear 32 = .ok (.putfield 31, 3) := by decide +kernel
theorem dX5_clear_35 : decode cX5_clear 35 = .ok (.aload_n 0, 1) := by decide +kernel
theorem dX5_clear_36 : decode cX5_clear 36 = .ok (.iload_n 2, 1) := by decide +kernel
theorem dX5_clear_37 : decode cX5_clear 37 = .ok (.putfield 34, 3) := by decide +kernel
theorem dX5_clear_40 : decode cX5_clear 40 = .ok (.return_, 1) := by decide +kernel
theorem dX5_tells_0 : decode cX5_tells 0 = .ok (.iload_n 1, 1) := by decide +kernel
theorem dX5_tells_1 : decode cX5_tells 1 = .ok (.ifCond .ne 10, 3) := by decide +kernel
theorem dX5_tells_4 : decode cX5_tells 4 = .ok (.aload_n 0, 1) := by decide +kernel
theorem dX5_tells_5 : decode cX5_tells 5 = .ok (.getfield 15, 3) := by decide +kernel
theorem dX5_tells_8 : decode cX5_tells 8 = .ok (.goto 19, 3) := by decide +kernel
theorem dX5_tells_11 : decode cX5_tells 11 = .ok (.iload_n 1, 1) := by decide +kernel
theorem dX5_tells_12 : decode cX5_tells 12 = .ok (.iconst 1, 1) := by decide +kernel
theorem dX5_tells_13 : decode cX5_tells 13 = .ok (.if_icmp .ne 10, 3) := by decide +kernel
theorem dX5_tells_16 : decode cX5_tells 16 = .ok (.aload_n 0, 1) := by decide +kernel
theorem dX5_tells_17 : decode cX5_tells 17 = .ok (.getfield 18, 3) := by decide +kernel
theorem dX5_tells_20 : decode cX5_tells 20 = .ok (.goto 7, 3) := by decide +kernel
theorem dX5_tells_23 : decode cX5_tells 23 = .ok (.aload_n 0, 1) := by decide +kernel
theorem dX5_tells_24 : decode cX5_tells 24 = .ok (.getfield 21, 3) := by decide +kernel
theorem dX5_tells_27 : decode cX5_tells 27 = .ok (.iconst (-1), 1) := by decide +kernel
theorem dX5_tells_28 : decode cX5_tells 28 = .ok (.if_icmp .eq 7, 3) := by decide +kernel
theorem dX5_tells_31 : decode cX5_tells 31 = .ok (.iconst 1, 1) := by decide +kernel
theorem dX5_tells_32 : decode cX5_tells 32 = .ok (.goto 4, 3) := by decide +kernel
theorem dX5_tells_35 : decode cX5_tells 35 = .ok (.iconst 0, 1) := by decide +kernel
theorem dX5_tells_36 : decode cX5_tells 36 = .ok (.ireturn, 1) := by decide +kernel
theorem dX5_tell_0 : decode cX5_tell 0 = .ok (.iload_n 1, 1) := by decide +kernel
theorem dX5_tell_1 : decode cX5_tell 1 = .ok (.ifCond .ne 11, 3) := by decide +kernel
theorem dX5_tell_4 : decode cX5_tell 4 = .ok (.aload_n 0, 1) := by decide +kernel
theorem dX5_tell_5 : decode cX5_tell 5 = .ok (.iload_n 2, 1) := by decide +kernel
theorem dX5_tell_6 : decode cX5_tell 6 = .ok (.putfield 15, 3) := by decide +kernel
theorem dX5_tell_9 : decode cX5_tell 9 = .ok (.goto 21, 3) := by decide +kernel
theorem dX5_tell_12 : decode cX5_tell 12 = .ok (.iload_n 1, 1) := by decide +kernel
theorem dX5_tell_13 : decode cX5_tell 13 = .ok (.iconst 1, 1) := by decide +kernel
theorem dX5_tell_14 : decode cX5_tell 14 = .ok (.if_icmp .ne 11, 3) := by decide +kernel
theorem dX5_tell_17 : decode cX5_tell 17 = .ok (.aload_n 0, 1) := by decide +kernel
theorem dX5_tell_18 : decode cX5_tell 18 = .ok (.iload_n 2, 1) := by decide +kernel
theorem dX5_tell_19 : decode cX5_tell 19 = .ok (.putfield 18, 3) := by decide +kernel
theorem dX5_tell_22 : decode cX5_tell 22 = .ok (.goto 8, 3) := by decide +kernel
theorem dX5_tell_25 : decode cX5_tell 25 = .ok (.aload_n 0, 1) := by decide +kernel
theorem dX5_tell_26 : decode cX5_tell 26 = .ok (.iload_n 2, 1) := by decide +kernel
theorem dX5_tell_27 : decode cX5_tell 27 = .ok (.putfield 21, 3) := by decide +kernel
theorem dX5_tell_30 : decode cX5_tell 30 = .ok (.return_, 1) := by decide +kernel
theorem dX5_admits_0 : decode cX5_admits 0 = .ok (.aload_n 1, 1) := by decide +kernel
theorem dX5_admits_1 : decode cX5_admits 1 = .ok (.getfield 37, 3) := by decide +kernel
theorem dX5_admits_4 : decode cX5_admits 4 = .ok (.aload_n 0, 1) := by decide +kernel
theorem dX5_admits_5 : decode cX5_admits 5 = .ok (.getfield 9, 3) := by decide +kernel
theorem dX5_admits_8 : decode cX5_admits 8 = .ok (.if_icmp .ne 64, 3) := by decide +kernel
theorem dX5_admits_11 : decode cX5_admits 11 = .ok (.aload_n 0, 1) := by decide +kernel
theorem dX5_admits_12 : decode cX5_admits 12 = .ok (.getfield 15, 3) := by decide +kernel
theorem dX5_admits_15 : decode cX5_admits 15 = .ok (.iconst (-1), 1) := by decide +kernel
theorem dX5_admits_16 : decode cX5_admits 16 = .ok (.if_icmp .eq 14, 3) := by decide +kernel
theorem dX5_admits_19 : decode cX5_admits 19 = .ok (.aload_n 1, 1) := by decide +kernel
theorem dX5_admits_20 : decode cX5_admits 20 = .ok (.getfield 40, 3) := by decide +kernel
theorem dX5_admits_23 : decode cX5_admits 23 = .ok (.aload_n 0, 1) := by decide +kernel
theorem dX5_admits_24 : decode cX5_admits 24 = .ok (.getfield 15, 3) := by decide +kernel
theorem dX5_admits_27 : decode cX5_admits 27 = .ok (.if_icmp .ne 45, 3) := by decide +kernel
theorem dX5_admits_30 : decode cX5_admits 30 = .ok (.aload_n 0, 1) := by decide +kernel
theorem dX5_admits_31 : decode cX5_admits 31 = .ok (.getfield 18, 3) := by decide +kernel
theorem dX5_admits_34 : decode cX5_admits 34 = .ok (.iconst (-1), 1) := by decide +kernel
theorem dX5_admits_35 : decode cX5_admits 35 = .ok (.if_icmp .eq 14, 3) := by decide +kernel
theorem dX5_admits_38 : decode cX5_admits 38 = .ok (.aload_n 1, 1) := by decide +kernel
theorem dX5_admits_39 : decode cX5_admits 39 = .ok (.getfield 41, 3) := by decide +kernel
theorem dX5_admits_42 : decode cX5_admits 42 = .ok (.aload_n 0, 1) := by decide +kernel
theorem dX5_admits_43 : decode cX5_admits 43 = .ok (.getfield 18, 3) := by decide +kernel
theorem dX5_admits_46 : decode cX5_admits 46 = .ok (.if_icmp .ne 26, 3) := by decide +kernel
theorem dX5_admits_49 : decode cX5_admits 49 = .ok (.aload_n 0, 1) := by decide +kernel
theorem dX5_admits_50 : decode cX5_admits 50 = .ok (.getfield 21, 3) := by decide +kernel
theorem dX5_admits_53 : decode cX5_admits 53 = .ok (.iconst (-1), 1) := by decide +kernel
theorem dX5_admits_54 : decode cX5_admits 54 = .ok (.if_icmp .eq 14, 3) := by decide +kernel
theorem dX5_admits_57 : decode cX5_admits 57 = .ok (.aload_n 1, 1) := by decide +kernel
theorem dX5_admits_58 : decode cX5_admits 58 = .ok (.getfield 42, 3) := by decide +kernel
theorem dX5_admits_61 : decode cX5_admits 61 = .ok (.aload_n 0, 1) := by decide +kernel
theorem dX5_admits_62 : decode cX5_admits 62 = .ok (.getfield 21, 3) := by decide +kernel
theorem dX5_admits_65 : decode cX5_admits 65 = .ok (.if_icmp .ne 7, 3) := by decide +kernel
theorem dX5_admits_68 : decode cX5_admits 68 = .ok (.iconst 1, 1) := by decide +kernel
theorem dX5_admits_69 : decode cX5_admits 69 = .ok (.goto 4, 3) := by decide +kernel
theorem dX5_admits_72 : decode cX5_admits 72 = .ok (.iconst 0, 1) := by decide +kernel
theorem dX5_admits_73 : decode cX5_admits 73 = .ok (.ireturn, 1) := by decide +kernel
theorem dX7_init_0 : decode cX7_init 0 = .ok (.aload_n 0, 1) := by decide +kernel
theorem dX7_init_1 : decode cX7_init 1 = .ok (.invokespecial 3, 3) := by decide +kernel
theorem dX7_init_4 : decode cX7_init 4 = .ok (.aload_n 0, 1) := by decide +kernel
theorem dX7_init_5 : decode cX7_init 5 = .ok (.sipush 400, 3) := by decide +kernel
theorem dX7_init_8 : decode cX7_init 8 = .ok (.newarray .int, 2) := by decide +kernel
theorem dX7_init_10 : decode cX7_init 10 = .ok (.putfield 9, 3) := by decide +kernel
theorem dX7_init_13 : decode cX7_init 13 = .ok (.return_, 1) := by decide +kernel
theorem dX7_hasRoomFor_0 : decode cX7_hasRoomFor 0 = .ok (.aload_n 0, 1) := by decide +kernel
theorem dX7_hasRoomFor_1 : decode cX7_hasRoomFor 1 = .ok (.getfield 15, 3) := by decide +kernel
theorem dX7_hasRoomFor_4 : decode cX7_hasRoomFor 4 = .ok (.iload_n 1, 1) := by decide +kernel
theorem dX7_hasRoomFor_5 : decode cX7_hasRoomFor 5 = .ok (.iadd, 1) := by decide +kernel
theorem dX7_hasRoomFor_6 : decode cX7_hasRoomFor 6 = .ok (.sipush 400, 3) := by decide +kernel
theorem dX7_hasRoomFor_9 : decode cX7_hasRoomFor 9 = .ok (.if_icmp .gt 7, 3) := by decide +kernel
theorem dX7_hasRoomFor_12 : decode cX7_hasRoomFor 12 = .ok (.iconst 1, 1) := by decide +kernel
theorem dX7_hasRoomFor_13 : decode cX7_hasRoomFor 13 = .ok (.goto 4, 3) := by decide +kernel
theorem dX7_hasRoomFor_16 : decode cX7_hasRoomFor 16 = .ok (.iconst 0, 1) := by decide +kernel
theorem dX7_hasRoomFor_17 : decode cX7_hasRoomFor 17 = .ok (.ireturn, 1) := by decide +kernel
theorem dX7_put_0 : decode cX7_put 0 = .ok (.bipush 24, 2) := by decide +kernel
theorem dX7_put_2 : decode cX7_put 2 = .ok (.istore_n 2, 1) := by decide +kernel
theorem dX7_put_3 : decode cX7_put 3 = .ok (.iload_n 2, 1) := by decide +kernel
theorem dX7_put_4 : decode cX7_put 4 = .ok (.ifCond .lt 45, 3) := by decide +kernel
theorem dX7_put_7 : decode cX7_put 7 = .ok (.aload_n 0, 1) := by decide +kernel
theorem dX7_put_8 : decode cX7_put 8 = .ok (.getfield 15, 3) := by decide +kernel
theorem dX7_put_11 : decode cX7_put 11 = .ok (.sipush 400, 3) := by decide +kernel
theorem dX7_put_14 : decode cX7_put 14 = .ok (.if_icmp .ge 35, 3) := by decide +kernel
theorem dX7_put_17 : decode cX7_put 17 = .ok (.aload_n 0, 1) := by decide +kernel
theorem dX7_put_18 : decode cX7_put 18 = .ok (.getfield 9, 3) := by decide +kernel
theorem dX7_put_21 : decode cX7_put 21 = .ok (.aload_n 0, 1) := by decide +kernel
theorem dX7_put_22 : decode cX7_put 22 = .ok (.getfield 15, 3) := by decide +kernel
theorem dX7_put_25 : decode cX7_put 25 = .ok (.iload_n 1, 1) := by decide +kernel
theorem dX7_put_26 : decode cX7_put 26 = .ok (.iload_n 2, 1) := by decide +kernel
theorem dX7_put_27 : decode cX7_put 27 = .ok (.iushr, 1) := by decide +kernel
theorem dX7_put_28 : decode cX7_put 28 = .ok (.sipush 255, 3) := by decide +kernel
theorem dX7_put_31 : decode cX7_put 31 = .ok (.iand, 1) := by decide +kernel
theorem dX7_put_32 : decode cX7_put 32 = .ok (.iastore, 1) := by decide +kernel
theorem dX7_put_33 : decode cX7_put 33 = .ok (.aload_n 0, 1) := by decide +kernel
theorem dX7_put_34 : decode cX7_put 34 = .ok (.dup, 1) := by decide +kernel
theorem dX7_put_35 : decode cX7_put 35 = .ok (.getfield 15, 3) := by decide +kernel
theorem dX7_put_38 : decode cX7_put 38 = .ok (.iconst 1, 1) := by decide +kernel
theorem dX7_put_39 : decode cX7_put 39 = .ok (.iadd, 1) := by decide +kernel
theorem dX7_put_40 : decode cX7_put 40 = .ok (.putfield 15, 3) := by decide +kernel
theorem dX7_put_43 : decode cX7_put 43 = .ok (.iinc 2 (-8), 3) := by decide +kernel
theorem dX7_put_46 : decode cX7_put 46 = .ok (.goto (-43), 3) := by decide +kernel
theorem dX7_put_49 : decode cX7_put 49 = .ok (.return_, 1) := by decide +kernel
