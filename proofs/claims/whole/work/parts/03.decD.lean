theorem dX9_init_0 : decode cX9_init 0 = .ok (.aload_n 0, 1) := by decide +kernel
theorem dX9_init_1 : decode cX9_init 1 = .ok (.invokespecial 1, 3) := by decide +kernel
theorem dX9_init_4 : decode cX9_init 4 = .ok (.aload_n 0, 1) := by decide +kernel
theorem dX9_init_5 : decode cX9_init 5 = .ok (.bipush 100, 2) := by decide +kernel
theorem dX9_init_7 : decode cX9_init 7 = .ok (.putfield 7, 3) := by decide +kernel
theorem dX9_init_10 : decode cX9_init 10 = .ok (.aload_n 0, 1) := by decide +kernel
theorem dX9_init_11 : decode cX9_init 11 = .ok (.iconst 4, 1) := by decide +kernel
theorem dX9_init_12 : decode cX9_init 12 = .ok (.newarray .int, 2) := by decide +kernel
theorem dX9_init_14 : decode cX9_init 14 = .ok (.putfield 13, 3) := by decide +kernel
theorem dX9_init_17 : decode cX9_init 17 = .ok (.aload_n 0, 1) := by decide +kernel
theorem dX9_init_18 : decode cX9_init 18 = .ok (.sipush 250, 3) := by decide +kernel
theorem dX9_init_21 : decode cX9_init 21 = .ok (.newarray .int, 2) := by decide +kernel
theorem dX9_init_23 : decode cX9_init 23 = .ok (.putfield 17, 3) := by decide +kernel
theorem dX9_init_26 : decode cX9_init 26 = .ok (.aload_n 0, 1) := by decide +kernel
theorem dX9_init_27 : decode cX9_init 27 = .ok (.sipush 750, 3) := by decide +kernel
theorem dX9_init_30 : decode cX9_init 30 = .ok (.newarray .int, 2) := by decide +kernel
theorem dX9_init_32 : decode cX9_init 32 = .ok (.putfield 20, 3) := by decide +kernel
theorem dX9_init_35 : decode cX9_init 35 = .ok (.aload_n 0, 1) := by decide +kernel
theorem dX9_init_36 : decode cX9_init 36 = .ok (.sipush 250, 3) := by decide +kernel
theorem dX9_init_39 : decode cX9_init 39 = .ok (.newarray .int, 2) := by decide +kernel
theorem dX9_init_41 : decode cX9_init 41 = .ok (.putfield 23, 3) := by decide +kernel
theorem dX9_init_44 : decode cX9_init 44 = .ok (.aload_n 0, 1) := by decide +kernel
theorem dX9_init_45 : decode cX9_init 45 = .ok (.sipush 250, 3) := by decide +kernel
theorem dX9_init_48 : decode cX9_init 48 = .ok (.newarray .int, 2) := by decide +kernel
theorem dX9_init_50 : decode cX9_init 50 = .ok (.putfield 26, 3) := by decide +kernel
theorem dX9_init_53 : decode cX9_init 53 = .ok (.aload_n 0, 1) := by decide +kernel
theorem dX9_init_54 : decode cX9_init 54 = .ok (.sipush 250, 3) := by decide +kernel
theorem dX9_init_57 : decode cX9_init 57 = .ok (.newarray .int, 2) := by decide +kernel
theorem dX9_init_59 : decode cX9_init 59 = .ok (.putfield 29, 3) := by decide +kernel
theorem dX9_init_62 : decode cX9_init 62 = .ok (.aload_n 0, 1) := by decide +kernel
theorem dX9_init_63 : decode cX9_init 63 = .ok (.bipush 9, 2) := by decide +kernel
theorem dX9_init_65 : decode cX9_init 65 = .ok (.newarray .int, 2) := by decide +kernel
theorem dX9_init_67 : decode cX9_init 67 = .ok (.putfield 32, 3) := by decide +kernel
theorem dX9_init_70 : decode cX9_init 70 = .ok (.aload_n 0, 1) := by decide +kernel
theorem dX9_init_71 : decode cX9_init 71 = .ok (.bipush 9, 2) := by decide +kernel
theorem dX9_init_73 : decode cX9_init 73 = .ok (.newarray .int, 2) := by decide +kernel
theorem dX9_init_75 : decode cX9_init 75 = .ok (.putfield 35, 3) := by decide +kernel
theorem dX9_init_78 : decode cX9_init 78 = .ok (.aload_n 0, 1) := by decide +kernel
theorem dX9_init_79 : decode cX9_init 79 = .ok (.bipush 54, 2) := by decide +kernel
theorem dX9_init_81 : decode cX9_init 81 = .ok (.newarray .boolean, 2) := by decide +kernel
theorem dX9_init_83 : decode cX9_init 83 = .ok (.putfield 38, 3) := by decide +kernel
theorem dX9_init_86 : decode cX9_init 86 = .ok (.aload_n 0, 1) := by decide +kernel
theorem dX9_init_87 : decode cX9_init 87 = .ok (.bipush 54, 2) := by decide +kernel
theorem dX9_init_89 : decode cX9_init 89 = .ok (.newarray .int, 2) := by decide +kernel
theorem dX9_init_91 : decode cX9_init 91 = .ok (.putfield 42, 3) := by decide +kernel
theorem dX9_init_94 : decode cX9_init 94 = .ok (.aload_n 0, 1) := by decide +kernel
theorem dX9_init_95 : decode cX9_init 95 = .ok (.sipush 162, 3) := by decide +kernel
theorem dX9_init_98 : decode cX9_init 98 = .ok (.newarray .int, 2) := by decide +kernel
theorem dX9_init_100 : decode cX9_init 100 = .ok (.putfield 45, 3) := by decide +kernel
theorem dX9_init_103 : decode cX9_init 103 = .ok (.aload_n 0, 1) := by decide +kernel
theorem dX9_init_104 : decode cX9_init 104 = .ok (.bipush 54, 2) := by decide +kernel
theorem dX9_init_106 : decode cX9_init 106 = .ok (.newarray .boolean, 2) := by decide +kernel
theorem dX9_init_108 : decode cX9_init 108 = .ok (.putfield 48, 3) := by decide +kernel
theorem dX9_init_111 : decode cX9_init 111 = .ok (.aload_n 0, 1) := by decide +kernel
theorem dX9_init_112 : decode cX9_init 112 = .ok (.bipush 54, 2) := by decide +kernel
theorem dX9_init_114 : decode cX9_init 114 = .ok (.newarray .int, 2) := by decide +kernel
theorem dX9_init_116 : decode cX9_init 116 = .ok (.putfield 51, 3) := by decide +kernel
theorem dX9_init_119 : decode cX9_init 119 = .ok (.aload_n 0, 1) := by decide +kernel
theorem dX9_init_120 : decode cX9_init 120 = .ok (.bipush 9, 2) := by decide +kernel
theorem dX9_init_122 : decode cX9_init 122 = .ok (.newarray .int, 2) := by decide +kernel
theorem dX9_init_124 : decode cX9_init 124 = .ok (.putfield 54, 3) := by decide +kernel
theorem dX9_init_127 : decode cX9_init 127 = .ok (.aload_n 0, 1) := by decide +kernel
theorem dX9_init_128 : decode cX9_init 128 = .ok (.bipush 9, 2) := by decide +kernel
theorem dX9_init_130 : decode cX9_init 130 = .ok (.newarray .int, 2) := by decide +kernel
theorem dX9_init_132 : decode cX9_init 132 = .ok (.putfield 57, 3) := by decide +kernel
theorem dX9_init_135 : decode cX9_init 135 = .ok (.aload_n 0, 1) := by decide +kernel
theorem dX9_init_136 : decode cX9_init 136 = .ok (.bipush 9, 2) := by decide +kernel
theorem dX9_init_138 : decode cX9_init 138 = .ok (.newarray .int, 2) := by decide +kernel
theorem dX9_init_140 : decode cX9_init 140 = .ok (.putfield 60, 3) := by decide +kernel
theorem dX9_init_143 : decode cX9_init 143 = .ok (.aload_n 0, 1) := by decide +kernel
theorem dX9_init_144 : decode cX9_init 144 = .ok (.bipush 40, 2) := by decide +kernel
theorem dX9_init_146 : decode cX9_init 146 = .ok (.newarray .int, 2) := by decide +kernel
theorem dX9_init_148 : decode cX9_init 148 = .ok (.putfield 63, 3) := by decide +kernel
theorem dX9_init_151 : decode cX9_init 151 = .ok (.aload_n 0, 1) := by decide +kernel
theorem dX9_init_152 : decode cX9_init 152 = .ok (.bipush 40, 2) := by decide +kernel
theorem dX9_init_154 : decode cX9_init 154 = .ok (.newarray .int, 2) := by decide +kernel
theorem dX9_init_156 : decode cX9_init 156 = .ok (.putfield 66, 3) := by decide +kernel
theorem dX9_init_159 : decode cX9_init 159 = .ok (.aload_n 0, 1) := by decide +kernel
theorem dX9_init_160 : decode cX9_init 160 = .ok (.bipush 40, 2) := by decide +kernel
theorem dX9_init_162 : decode cX9_init 162 = .ok (.newarray .int, 2) := by decide +kernel
theorem dX9_init_164 : decode cX9_init 164 = .ok (.putfield 69, 3) := by decide +kernel
theorem dX9_init_167 : decode cX9_init 167 = .ok (.aload_n 0, 1) := by decide +kernel
theorem dX9_init_168 : decode cX9_init 168 = .ok (.sipush 400, 3) := by decide +kernel
theorem dX9_init_171 : decode cX9_init 171 = .ok (.newarray .int, 2) := by decide +kernel
theorem dX9_init_173 : decode cX9_init 173 = .ok (.putfield 72, 3) := by decide +kernel
theorem dX9_init_176 : decode cX9_init 176 = .ok (.aload_n 0, 1) := by decide +kernel
theorem dX9_init_177 : decode cX9_init 177 = .ok (.iconst (-1), 1) := by decide +kernel
theorem dX9_init_178 : decode cX9_init 178 = .ok (.putfield 75, 3) := by decide +kernel
theorem dX9_init_181 : decode cX9_init 181 = .ok (.aload_n 0, 1) := by decide +kernel
theorem dX9_init_182 : decode cX9_init 182 = .ok (.sipush 1500, 3) := by decide +kernel
theorem dX9_init_185 : decode cX9_init 185 = .ok (.newarray .boolean, 2) := by decide +kernel
theorem dX9_init_187 : decode cX9_init 187 = .ok (.putfield 78, 3) := by decide +kernel
theorem dX9_init_190 : decode cX9_init 190 = .ok (.aload_n 0, 1) := by decide +kernel
theorem dX9_init_191 : decode cX9_init 191 = .ok (.sipush 1500, 3) := by decide +kernel
theorem dX9_init_194 : decode cX9_init 194 = .ok (.newarray .boolean, 2) := by decide +kernel
theorem dX9_init_196 : decode cX9_init 196 = .ok (.putfield 81, 3) := by decide +kernel
theorem dX9_init_199 : decode cX9_init 199 = .ok (.aload_n 0, 1) := by decide +kernel
theorem dX9_init_200 : decode cX9_init 200 = .ok (.bipush 6, 2) := by decide +kernel
theorem dX9_init_202 : decode cX9_init 202 = .ok (.newarray .int, 2) := by decide +kernel
theorem dX9_init_204 : decode cX9_init 204 = .ok (.putfield 84, 3) := by decide +kernel
theorem dX9_init_207 : decode cX9_init 207 = .ok (.aload_n 0, 1) := by decide +kernel
theorem dX9_init_208 : decode cX9_init 208 = .ok (.sipush 250, 3) := by decide +kernel
theorem dX9_init_211 : decode cX9_init 211 = .ok (.newarray .int, 2) := by decide +kernel
theorem dX9_init_213 : decode cX9_init 213 = .ok (.putfield 87, 3) := by decide +kernel
theorem dX9_init_216 : decode cX9_init 216 = .ok (.aload_n 0, 1) := by decide +kernel
theorem dX9_init_217 : decode cX9_init 217 = .ok (.sipush 2000, 3) := by decide +kernel
theorem dX9_init_220 : decode cX9_init 220 = .ok (.newarray .int, 2) := by decide +kernel
theorem dX9_init_222 : decode cX9_init 222 = .ok (.putfield 90, 3) := by decide +kernel
theorem dX9_init_225 : decode cX9_init 225 = .ok (.aload_n 0, 1) := by decide +kernel
theorem dX9_init_226 : decode cX9_init 226 = .ok (.sipush 2000, 3) := by decide +kernel
theorem dX9_init_229 : decode cX9_init 229 = .ok (.newarray .int, 2) := by decide +kernel
theorem dX9_init_231 : decode cX9_init 231 = .ok (.putfield 93, 3) := by decide +kernel
theorem dX9_init_234 : decode cX9_init 234 = .ok (.aload_n 0, 1) := by decide +kernel
theorem dX9_init_235 : decode cX9_init 235 = .ok (.sipush 2000, 3) := by decide +kernel
theorem dX9_init_238 : decode cX9_init 238 = .ok (.newarray .int, 2) := by decide +kernel
theorem dX9_init_240 : decode cX9_init 240 = .ok (.putfield 96, 3) := by decide +kernel
theorem dX9_init_243 : decode cX9_init 243 = .ok (.iconst 0, 1) := by decide +kernel
theorem dX9_init_244 : decode cX9_init 244 = .ok (.istore_n 1, 1) := by decide +kernel
theorem dX9_init_245 : decode cX9_init 245 = .ok (.iload_n 1, 1) := by decide +kernel
theorem dX9_init_246 : decode cX9_init 246 = .ok (.iconst 4, 1) := by decide +kernel
theorem dX9_init_247 : decode cX9_init 247 = .ok (.if_icmp .ge 17, 3) := by decide +kernel
theorem dX9_init_250 : decode cX9_init 250 = .ok (.aload_n 0, 1) := by decide +kernel
theorem dX9_init_251 : decode cX9_init 251 = .ok (.getfield 13, 3) := by decide +kernel
theorem dX9_init_254 : decode cX9_init 254 = .ok (.iload_n 1, 1) := by decide +kernel
theorem dX9_init_255 : decode cX9_init 255 = .ok (.bipush 7, 2) := by decide +kernel
theorem dX9_init_257 : decode cX9_init 257 = .ok (.iastore, 1) := by decide +kernel
theorem dX9_init_258 : decode cX9_init 258 = .ok (.iinc 1 1, 3) := by decide +kernel
theorem dX9_init_261 : decode cX9_init 261 = .ok (.goto (-16), 3) := by decide +kernel
theorem dX9_init_264 : decode cX9_init 264 = .ok (.return_, 1) := by decide +kernel
theorem dX9_isIn_0 : decode cX9_isIn 0 = .ok (.iload_n 0, 1) := by decide +kernel
theorem dX9_isIn_1 : decode cX9_isIn 1 = .ok (.iload_n 1, 1) := by decide +kernel
theorem dX9_isIn_2 : decode cX9_isIn 2 = .ok (.if_icmp .lt 12, 3) := by decide +kernel
theorem dX9_isIn_5 : decode cX9_isIn 5 = .ok (.iload_n 0, 1) := by decide +kernel
theorem dX9_isIn_6 : decode cX9_isIn 6 = .ok (.iload_n 2, 1) := by decide +kernel
theorem dX9_isIn_7 : decode cX9_isIn 7 = .ok (.if_icmp .gt 7, 3) := by decide +kernel
theorem dX9_isIn_10 : decode cX9_isIn 10 = .ok (.iconst 1, 1) := by decide +kernel
theorem dX9_isIn_11 : decode cX9_isIn 11 = .ok (.goto 4, 3) := by decide +kernel
theorem dX9_isIn_14 : decode cX9_isIn 14 = .ok (.iconst 0, 1) := by decide +kernel
theorem dX9_isIn_15 : decode cX9_isIn 15 = .ok (.ireturn, 1) := by decide +kernel
theorem dX9_isQuestion_0 : decode cX9_isQuestion 0 = .ok (.iload_n 1, 1) := by decide +kernel
theorem dX9_isQuestion_1 : decode cX9_isQuestion 1 = .ok (.ifCond .lt 15, 3) := by decide +kernel
theorem dX9_isQuestion_4 : decode cX9_isQuestion 4 = .ok (.iload_n 1, 1) := by decide +kernel
theorem dX9_isQuestion_5 : decode cX9_isQuestion 5 = .ok (.aload_n 0, 1) := by decide +kernel
theorem dX9_isQuestion_6 : decode cX9_isQuestion 6 = .ok (.getfield 102, 3) := by decide +kernel
theorem dX9_isQuestion_9 : decode cX9_isQuestion 9 = .ok (.if_icmp .ge 7, 3) := by decide +kernel
theorem dX9_isQuestion_12 : decode cX9_isQuestion 12 = .ok (.iconst 1, 1) := by decide +kernel
theorem dX9_isQuestion_13 : decode cX9_isQuestion 13 = .ok (.goto 4, 3) := by decide +kernel
theorem dX9_isQuestion_16 : decode cX9_isQuestion 16 = .ok (.iconst 0, 1) := by decide +kernel
theorem dX9_isQuestion_17 : decode cX9_isQuestion 17 = .ok (.ireturn, 1) := by decide +kernel
theorem dX9_isAct_0 : decode cX9_isAct 0 = .ok (.iload_n 1, 1) := by decide +kernel
theorem dX9_isAct_1 : decode cX9_isAct 1 = .ok (.ifCond .lt 15, 3) := by decide +kernel
theorem dX9_isAct_4 : decode cX9_isAct 4 = .ok (.iload_n 1, 1) := by decide +kernel
theorem dX9_isAct_5 : decode cX9_isAct 5 = .ok (.aload_n 0, 1) := by decide +kernel
theorem dX9_isAct_6 : decode cX9_isAct 6 = .ok (.getfield 105, 3) := by decide +kernel
theorem dX9_isAct_9 : decode cX9_isAct 9 = .ok (.if_icmp .ge 7, 3) := by decide +kernel
theorem dX9_isAct_12 : decode cX9_isAct 12 = .ok (.iconst 1, 1) := by decide +kernel
theorem dX9_isAct_13 : decode cX9_isAct 13 = .ok (.goto 4, 3) := by decide +kernel
theorem dX9_isAct_16 : decode cX9_isAct 16 = .ok (.iconst 0, 1) := by decide +kernel
theorem dX9_isAct_17 : decode cX9_isAct 17 = .ok (.ireturn, 1) := by decide +kernel
theorem dX9_byteCame_0 : decode cX9_byteCame 0 = .ok (.aload_n 0, 1) := by decide +kernel
theorem dX9_byteCame_1 : decode cX9_byteCame 1 = .ok (.getfield 72, 3) := by decide +kernel
theorem dX9_byteCame_4 : decode cX9_byteCame 4 = .ok (.aload_n 0, 1) := by decide +kernel
theorem dX9_byteCame_5 : decode cX9_byteCame 5 = .ok (.getfield 108, 3) := by decide +kernel
theorem dX9_byteCame_8 : decode cX9_byteCame 8 = .ok (.iload_n 1, 1) := by decide +kernel
theorem dX9_byteCame_9 : decode cX9_byteCame 9 = .ok (.sipush 255, 3) := by decide +kernel
theorem dX9_byteCame_12 : decode cX9_byteCame 12 = .ok (.iand, 1) := by decide +kernel
theorem dX9_byteCame_13 : decode cX9_byteCame 13 = .ok (.iastore, 1) := by decide +kernel
theorem dX9_byteCame_14 : decode cX9_byteCame 14 = .ok (.aload_n 0, 1) := by decide +kernel
theorem dX9_byteCame_15 : decode cX9_byteCame 15 = .ok (.dup, 1) := by decide +kernel
theorem dX9_byteCame_16 : decode cX9_byteCame 16 = .ok (.getfield 108, 3) := by decide +kernel
theorem dX9_byteCame_19 : decode cX9_byteCame 19 = .ok (.iconst 1, 1) := by decide +kernel
theorem dX9_byteCame_20 : decode cX9_byteCame 20 = .ok (.iadd, 1) := by decide +kernel
theorem dX9_byteCame_21 : decode cX9_byteCame 21 = .ok (.putfield 108, 3) := by decide +kernel
theorem dX9_byteCame_24 : decode cX9_byteCame 24 = .ok (.return_, 1) := by decide +kernel
theorem dX9_feed_0 : decode cX9_feed 0 = .ok (.aload_n 0, 1) := by decide +kernel
theorem dX9_feed_1 : decode cX9_feed 1 = .ok (.iconst 0, 1) := by decide +kernel
theorem dX9_feed_2 : decode cX9_feed 2 = .ok (.putfield 99, 3) := by decide +kernel
theorem dX9_feed_5 : decode cX9_feed 5 = .ok (.aload_n 0, 1) := by decide +kernel
theorem dX9_feed_6 : decode cX9_feed 6 = .ok (.getfield 108, 3) := by decide +kernel
theorem dX9_feed_9 : decode cX9_feed 9 = .ok (.bipush 20, 2) := by decide +kernel
theorem dX9_feed_11 : decode cX9_feed 11 = .ok (.iadd, 1) := by decide +kernel
theorem dX9_feed_12 : decode cX9_feed 12 = .ok (.sipush 400, 3) := by decide +kernel
theorem dX9_feed_15 : decode cX9_feed 15 = .ok (.if_icmp .le 5, 3) := by decide +kernel
theorem dX9_feed_18 : decode cX9_feed 18 = .ok (.iconst (-1), 1) := by decide +kernel
theorem dX9_feed_19 : decode cX9_feed 19 = .ok (.ireturn, 1) := by decide +kernel
theorem dX9_feed_20 : decode cX9_feed 20 = .ok (.bipush 24, 2) := by decide +kernel
theorem dX9_feed_22 : decode cX9_feed 22 = .ok (.istore 6, 2) := by decide +kernel
theorem dX9_feed_24 : decode cX9_feed 24 = .ok (.iload 6, 2) := by decide +kernel
theorem dX9_feed_26 : decode cX9_feed 26 = .ok (.ifCond .lt 17, 3) := by decide +kernel
theorem dX9_feed_29 : decode cX9_feed 29 = .ok (.aload_n 0, 1) := by decide +kernel
theorem dX9_feed_30 : decode cX9_feed 30 = .ok (.iload_n 1, 1) := by decide +kernel
theorem dX9_feed_31 : decode cX9_feed 31 = .ok (.iload 6, 2) := by decide +kernel
theorem dX9_feed_33 : decode cX9_feed 33 = .ok (.ishr, 1) := by decide +kernel
theorem dX9_feed_34 : decode cX9_feed 34 = .ok (.invokevirtual 111, 3) := by decide +kernel
theorem dX9_feed_37 : decode cX9_feed 37 = .ok (.iinc 6 (-8), 3) := by decide +kernel
theorem dX9_feed_40 : decode cX9_feed 40 = .ok (.goto (-16), 3) := by decide +kernel
theorem dX9_feed_43 : decode cX9_feed 43 = .ok (.bipush 24, 2) := by decide +kernel
theorem dX9_feed_45 : decode cX9_feed 45 = .ok (.istore 6, 2) := by decide +kernel
theorem dX9_feed_47 : decode cX9_feed 47 = .ok (.iload 6, 2) := by decide +kernel
theorem dX9_feed_49 : decode cX9_feed 49 = .ok (.ifCond .lt 17, 3) := by decide +kernel
theorem dX9_feed_52 : decode cX9_feed 52 = .ok (.aload_n 0, 1) := by decide +kernel
theorem dX9_feed_53 : decode cX9_feed 53 = .ok (.iload_n 2, 1) := by decide +kernel
theorem dX9_feed_54 : decode cX9_feed 54 = .ok (.iload 6, 2) := by decide +kernel
theorem dX9_feed_56 : decode cX9_feed 56 = .ok (.ishr, 1) := by decide +kernel
theorem dX9_feed_57 : decode cX9_feed 57 = .ok (.invokevirtual 111, 3) := by decide +kernel
theorem dX9_feed_60 : decode cX9_feed 60 = .ok (.iinc 6 (-8), 3) := by decide +kernel
theorem dX9_feed_63 : decode cX9_feed 63 = .ok (.goto (-16), 3) := by decide +kernel
theorem dX9_feed_66 : decode cX9_feed 66 = .ok (.bipush 24, 2) := by decide +kernel
theorem dX9_feed_68 : decode cX9_feed 68 = .ok (.istore 6, 2) := by decide +kernel
theorem dX9_feed_70 : decode cX9_feed 70 = .ok (.iload 6, 2) := by decide +kernel
theorem dX9_feed_72 : decode cX9_feed 72 = .ok (.ifCond .lt 17, 3) := by decide +kernel
theorem dX9_feed_75 : decode cX9_feed 75 = .ok (.aload_n 0, 1) := by decide +kernel
theorem dX9_feed_76 : decode cX9_feed 76 = .ok (.iload_n 3, 1) := by decide +kernel
theorem dX9_feed_77 : decode cX9_feed 77 = .ok (.iload 6, 2) := by decide +kernel
theorem dX9_feed_79 : decode cX9_feed 79 = .ok (.ishr, 1) := by decide +kernel
theorem dX9_feed_80 : decode cX9_feed 80 = .ok (.invokevirtual 111, 3) := by decide +kernel
theorem dX9_feed_83 : decode cX9_feed 83 = .ok (.iinc 6 (-8), 3) := by decide +kernel
theorem dX9_feed_86 : decode cX9_feed 86 = .ok (.goto (-16), 3) := by decide +kernel
theorem dX9_feed_89 : decode cX9_feed 89 = .ok (.bipush 24, 2) := by decide +kernel
theorem dX9_feed_91 : decode cX9_feed 91 = .ok (.istore 6, 2) := by decide +kernel
theorem dX9_feed_93 : decode cX9_feed 93 = .ok (.iload 6, 2) := by decide +kernel
theorem dX9_feed_95 : decode cX9_feed 95 = .ok (.ifCond .lt 18, 3) := by decide +kernel
theorem dX9_feed_98 : decode cX9_feed 98 = .ok (.aload_n 0, 1) := by decide +kernel
theorem dX9_feed_99 : decode cX9_feed 99 = .ok (.iload 4, 2) := by decide +kernel
theorem dX9_feed_101 : decode cX9_feed 101 = .ok (.iload 6, 2) := by decide +kernel
theorem dX9_feed_103 : decode cX9_feed 103 = .ok (.ishr, 1) := by decide +kernel
theorem dX9_feed_104 : decode cX9_feed 104 = .ok (.invokevirtual 111, 3) := by decide +kernel
theorem dX9_feed_107 : decode cX9_feed 107 = .ok (.iinc 6 (-8), 3) := by decide +kernel
theorem dX9_feed_110 : decode cX9_feed 110 = .ok (.goto (-17), 3) := by decide +kernel
theorem dX9_feed_113 : decode cX9_feed 113 = .ok (.bipush 24, 2) := by decide +kernel
theorem dX9_feed_115 : decode cX9_feed 115 = .ok (.istore 6, 2) := by decide +kernel
theorem dX9_feed_117 : decode cX9_feed 117 = .ok (.iload 6, 2) := by decide +kernel
theorem dX9_feed_119 : decode cX9_feed 119 = .ok (.ifCond .lt 18, 3) := by decide +kernel
theorem dX9_feed_122 : decode cX9_feed 122 = .ok (.aload_n 0, 1) := by decide +kernel
theorem dX9_feed_123 : decode cX9_feed 123 = .ok (.iload 5, 2) := by decide +kernel
theorem dX9_feed_125 : decode cX9_feed 125 = .ok (.iload 6, 2) := by decide +kernel
theorem dX9_feed_127 : decode cX9_feed 127 = .ok (.ishr, 1) := by decide +kernel
theorem dX9_feed_128 : decode cX9_feed 128 = .ok (.invokevirtual 111, 3) := by decide +kernel
theorem dX9_feed_131 : decode cX9_feed 131 = .ok (.iinc 6 (-8), 3) := by decide +kernel
theorem dX9_feed_134 : decode cX9_feed 134 = .ok (.goto (-17), 3) := by decide +kernel
theorem dX9_feed_137 : decode cX9_feed 137 = .ok (.aload_n 0, 1) := by decide +kernel
theorem dX9_feed_138 : decode cX9_feed 138 = .ok (.getfield 108, 3) := by decide +kernel
theorem dX9_feed_141 : decode cX9_feed 141 = .ok (.ireturn, 1) := by decide +kernel
theorem dX9_end_0 : decode cX9_end 0 = .ok (.aload_n 0, 1) := by decide +kernel
theorem dX9_end_1 : decode cX9_end 1 = .ok (.iconst 0, 1) := by decide +kernel
theorem dX9_end_2 : decode cX9_end 2 = .ok (.putfield 99, 3) := by decide +kernel
theorem dX9_end_5 : decode cX9_end 5 = .ok (.iload_n 1, 1) := by decide +kernel
theorem dX9_end_6 : decode cX9_end 6 = .ok (.ifCond .lt 11, 3) := by decide +kernel
theorem dX9_end_9 : decode cX9_end 9 = .ok (.iload_n 1, 1) := by decide +kernel
theorem dX9_end_10 : decode cX9_end 10 = .ok (.aload_n 0, 1) := by decide +kernel
theorem dX9_end_11 : decode cX9_end 11 = .ok (.getfield 108, 3) := by decide +kernel
theorem dX9_end_14 : decode cX9_end 14 = .ok (.if_icmp .le 5, 3) := by decide +kernel
theorem dX9_end_17 : decode cX9_end 17 = .ok (.iconst 0, 1) := by decide +kernel
theorem dX9_end_18 : decode cX9_end 18 = .ok (.ireturn, 1) := by decide +kernel
theorem dX9_end_19 : decode cX9_end 19 = .ok (.aload_n 0, 1) := by decide +kernel
theorem dX9_end_20 : decode cX9_end 20 = .ok (.iload_n 1, 1) := by decide +kernel
theorem dX9_end_21 : decode cX9_end 21 = .ok (.putfield 108, 3) := by decide +kernel
theorem dX9_end_24 : decode cX9_end 24 = .ok (.iconst 1, 1) := by decide +kernel
theorem dX9_end_25 : decode cX9_end 25 = .ok (.ireturn, 1) := by decide +kernel
theorem dX9_act_0 : decode cX9_act 0 = .ok (.iload_n 1, 1) := by decide +kernel
theorem dX9_act_1 : decode cX9_act 1 = .ok (.iconst 0, 1) := by decide +kernel
theorem dX9_act_2 : decode cX9_act 2 = .ok (.bipush 7, 2) := by decide +kernel
theorem dX9_act_4 : decode cX9_act 4 = .ok (.invokestatic 116, 3) := by decide +kernel
theorem dX9_act_7 : decode cX9_act 7 = .ok (.ifCond .eq 51, 3) := by decide +kernel
theorem dX9_act_10 : decode cX9_act 10 = .ok (.iload_n 2, 1) := by decide +kernel
theorem dX9_act_11 : decode cX9_act 11 = .ok (.iconst 0, 1) := by decide +kernel
theorem dX9_act_12 : decode cX9_act 12 = .ok (.bipush 30, 2) := by decide +kernel
theorem dX9_act_14 : decode cX9_act 14 = .ok (.invokestatic 116, 3) := by decide +kernel
theorem dX9_act_17 : decode cX9_act 17 = .ok (.ifCond .eq 41, 3) := by decide +kernel
theorem dX9_act_20 : decode cX9_act 20 = .ok (.iload_n 3, 1) := by decide +kernel
theorem dX9_act_21 : decode cX9_act 21 = .ok (.iconst 0, 1) := by decide +kernel
theorem dX9_act_22 : decode cX9_act 22 = .ok (.bipush 30, 2) := by decide +kernel
theorem dX9_act_24 : decode cX9_act 24 = .ok (.invokestatic 116, 3) := by decide +kernel
theorem dX9_act_27 : decode cX9_act 27 = .ok (.ifCond .eq 31, 3) := by decide +kernel
theorem dX9_act_30 : decode cX9_act 30 = .ok (.iload 4, 2) := by decide +kernel
theorem dX9_act_32 : decode cX9_act 32 = .ok (.iconst 0, 1) := by decide +kernel
theorem dX9_act_33 : decode cX9_act 33 = .ok (.bipush 15, 2) := by decide +kernel
theorem dX9_act_35 : decode cX9_act 35 = .ok (.invokestatic 116, 3) := by decide +kernel
theorem dX9_act_38 : decode cX9_act 38 = .ok (.ifCond .eq 20, 3) := by decide +kernel
theorem dX9_act_41 : decode cX9_act 41 = .ok (.iload 5, 2) := by decide +kernel
theorem dX9_act_43 : decode cX9_act 43 = .ok (.iconst 0, 1) := by decide +kernel
theorem dX9_act_44 : decode cX9_act 44 = .ok (.aload_n 0, 1) := by decide +kernel
theorem dX9_act_45 : decode cX9_act 45 = .ok (.getfield 120, 3) := by decide +kernel
theorem dX9_act_48 : decode cX9_act 48 = .ok (.invokestatic 116, 3) := by decide +kernel
theorem dX9_act_51 : decode cX9_act 51 = .ok (.ifCond .eq 7, 3) := by decide +kernel
theorem dX9_act_54 : decode cX9_act 54 = .ok (.iconst 1, 1) := by decide +kernel
theorem dX9_act_55 : decode cX9_act 55 = .ok (.goto 4, 3) := by decide +kernel
theorem dX9_act_58 : decode cX9_act 58 = .ok (.iconst 0, 1) := by decide +kernel
theorem dX9_act_59 : decode cX9_act 59 = .ok (.istore 6, 2) := by decide +kernel
theorem dX9_act_61 : decode cX9_act 61 = .ok (.aload_n 0, 1) := by decide +kernel
theorem dX9_act_62 : decode cX9_act 62 = .ok (.iload 6, 2) := by decide +kernel
theorem dX9_act_64 : decode cX9_act 64 = .ok (.ifCond .ne 7, 3) := by decide +kernel
theorem dX9_act_67 : decode cX9_act 67 = .ok (.iconst 1, 1) := by decide +kernel
theorem dX9_act_68 : decode cX9_act 68 = .ok (.goto 4, 3) := by decide +kernel
theorem dX9_act_71 : decode cX9_act 71 = .ok (.iconst 0, 1) := by decide +kernel
theorem dX9_act_72 : decode cX9_act 72 = .ok (.putfield 99, 3) := by decide +kernel
theorem dX9_act_75 : decode cX9_act 75 = .ok (.aload_n 0, 1) := by decide +kernel
theorem dX9_act_76 : decode cX9_act 76 = .ok (.getfield 99, 3) := by decide +kernel
theorem dX9_act_79 : decode cX9_act 79 = .ok (.ifCond .le 5, 3) := by decide +kernel
theorem dX9_act_82 : decode cX9_act 82 = .ok (.iconst 0, 1) := by decide +kernel
theorem dX9_act_83 : decode cX9_act 83 = .ok (.ireturn, 1) := by decide +kernel
theorem dX9_act_84 : decode cX9_act 84 = .ok (.iconst 0, 1) := by decide +kernel
theorem dX9_act_85 : decode cX9_act 85 = .ok (.istore 7, 2) := by decide +kernel
theorem dX9_act_87 : decode cX9_act 87 = .ok (.iload 7, 2) := by decide +kernel
theorem dX9_act_89 : decode cX9_act 89 = .ok (.aload_n 0, 1) := by decide +kernel
theorem dX9_act_90 : decode cX9_act 90 = .ok (.getfield 105, 3) := by decide +kernel
theorem dX9_act_93 : decode cX9_act 93 = .ok (.if_icmp .ge 114, 3) := by decide +kernel
theorem dX9_act_96 : decode cX9_act 96 = .ok (.aload_n 0, 1) := by decide +kernel
theorem dX9_act_97 : decode cX9_act 97 = .ok (.getfield 17, 3) := by decide +kernel
theorem dX9_act_100 : decode cX9_act 100 = .ok (.iload 7, 2) := by decide +kernel
theorem dX9_act_102 : decode cX9_act 102 = .ok (.iaload, 1) := by decide +kernel
theorem dX9_act_103 : decode cX9_act 103 = .ok (.iload_n 1, 1) := by decide +kernel
theorem dX9_act_104 : decode cX9_act 104 = .ok (.if_icmp .ne 63, 3) := by decide +kernel
theorem dX9_act_107 : decode cX9_act 107 = .ok (.aload_n 0, 1) := by decide +kernel
theorem dX9_act_108 : decode cX9_act 108 = .ok (.getfield 20, 3) := by decide +kernel
theorem dX9_act_111 : decode cX9_act 111 = .ok (.iconst 3, 1) := by decide +kernel
theorem dX9_act_112 : decode cX9_act 112 = .ok (.iload 7, 2) := by decide +kernel
theorem dX9_act_114 : decode cX9_act 114 = .ok (.imul, 1) := by decide +kernel
theorem dX9_act_115 : decode cX9_act 115 = .ok (.iaload, 1) := by decide +kernel
theorem dX9_act_116 : decode cX9_act 116 = .ok (.iload_n 2, 1) := by decide +kernel
theorem dX9_act_117 : decode cX9_act 117 = .ok (.if_icmp .ne 50, 3) := by decide +kernel
theorem dX9_act_120 : decode cX9_act 120 = .ok (.aload_n 0, 1) := by decide +kernel
theorem dX9_act_121 : decode cX9_act 121 = .ok (.getfield 20, 3) := by decide +kernel
theorem dX9_act_124 : decode cX9_act 124 = .ok (.iconst 3, 1) := by decide +kernel
theorem dX9_act_125 : decode cX9_act 125 = .ok (.iload 7, 2) := by decide +kernel
theorem dX9_act_127 : decode cX9_act 127 = .ok (.imul, 1) := by decide +kernel
theorem dX9_act_128 : decode cX9_act 128 = .ok (.iconst 1, 1) := by decide +kernel
theorem dX9_act_129 : decode cX9_act 129 = .ok (.iadd, 1) := by decide +kernel
theorem dX9_act_130 : decode cX9_act 130 = .ok (.iaload, 1) := by decide +kernel
theorem dX9_act_131 : decode cX9_act 131 = .ok (.iload_n 3, 1) := by decide +kernel
theorem dX9_act_132 : decode cX9_act 132 = .ok (.if_icmp .ne 35, 3) := by decide +kernel
theorem dX9_act_135 : decode cX9_act 135 = .ok (.aload_n 0, 1) := by decide +kernel
theorem dX9_act_136 : decode cX9_act 136 = .ok (.getfield 20, 3) := by decide +kernel
theorem dX9_act_139 : decode cX9_act 139 = .ok (.iconst 3, 1) := by decide +kernel
theorem dX9_act_140 : decode cX9_act 140 = .ok (.iload 7, 2) := by decide +kernel
theorem dX9_act_142 : decode cX9_act 142 = .ok (.imul, 1) := by decide +kernel
theorem dX9_act_143 : decode cX9_act 143 = .ok (.iconst 2, 1) := by decide +kernel
theorem dX9_act_144 : decode cX9_act 144 = .ok (.iadd, 1) := by decide +kernel
theorem dX9_act_145 : decode cX9_act 145 = .ok (.iaload, 1) := by decide +kernel
theorem dX9_act_146 : decode cX9_act 146 = .ok (.iload 4, 2) := by decide +kernel
theorem dX9_act_148 : decode cX9_act 148 = .ok (.if_icmp .ne 19, 3) := by decide +kernel
theorem dX9_act_151 : decode cX9_act 151 = .ok (.aload_n 0, 1) := by decide +kernel
theorem dX9_act_152 : decode cX9_act 152 = .ok (.getfield 23, 3) := by decide +kernel
theorem dX9_act_155 : decode cX9_act 155 = .ok (.iload 7, 2) := by decide +kernel
theorem dX9_act_157 : decode cX9_act 157 = .ok (.iaload, 1) := by decide +kernel
theorem dX9_act_158 : decode cX9_act 158 = .ok (.iload 5, 2) := by decide +kernel
theorem dX9_act_160 : decode cX9_act 160 = .ok (.if_icmp .ne 7, 3) := by decide +kernel
theorem dX9_act_163 : decode cX9_act 163 = .ok (.iconst 1, 1) := by decide +kernel
theorem dX9_act_164 : decode cX9_act 164 = .ok (.goto 4, 3) := by decide +kernel
theorem dX9_act_167 : decode cX9_act 167 = .ok (.iconst 0, 1) := by decide +kernel
theorem dX9_act_168 : decode cX9_act 168 = .ok (.istore 8, 2) := by decide +kernel
theorem dX9_act_170 : decode cX9_act 170 = .ok (.iload 8, 2) := by decide +kernel
theorem dX9_act_172 : decode cX9_act 172 = .ok (.ifCond .ne 6, 3) := by decide +kernel
theorem dX9_act_175 : decode cX9_act 175 = .ok (.goto 26, 3) := by decide +kernel
theorem dX9_act_178 : decode cX9_act 178 = .ok (.aload_n 0, 1) := by decide +kernel
theorem dX9_act_179 : decode cX9_act 179 = .ok (.getfield 29, 3) := by decide +kernel
theorem dX9_act_182 : decode cX9_act 182 = .ok (.iload 7, 2) := by decide +kernel
theorem dX9_act_184 : decode cX9_act 184 = .ok (.dup2, 1) := by decide +kernel
theorem dX9_act_185 : decode cX9_act 185 = .ok (.iaload, 1) := by decide +kernel
theorem dX9_act_186 : decode cX9_act 186 = .ok (.iconst 1, 1) := by decide +kernel
theorem dX9_act_187 : decode cX9_act 187 = .ok (.iadd, 1) := by decide +kernel
theorem dX9_act_188 : decode cX9_act 188 = .ok (.iastore, 1) := by decide +kernel
theorem dX9_act_189 : decode cX9_act 189 = .ok (.aload_n 0, 1) := by decide +kernel
theorem dX9_act_190 : decode cX9_act 190 = .ok (.dup, 1) := by decide +kernel
theorem dX9_act_191 : decode cX9_act 191 = .ok (.getfield 124, 3) := by decide +kernel
theorem dX9_act_194 : decode cX9_act 194 = .ok (.iconst 1, 1) := by decide +kernel
theorem dX9_act_195 : decode cX9_act 195 = .ok (.iadd, 1) := by decide +kernel
theorem dX9_act_196 : decode cX9_act 196 = .ok (.putfield 124, 3) := by decide +kernel
theorem dX9_act_199 : decode cX9_act 199 = .ok (.iconst (-1), 1) := by decide +kernel
theorem dX9_act_200 : decode cX9_act 200 = .ok (.ireturn, 1) := by decide +kernel
theorem dX9_act_201 : decode cX9_act 201 = .ok (.iinc 7 1, 3) := by decide +kernel
theorem dX9_act_204 : decode cX9_act 204 = .ok (.goto (-117), 3) := by decide +kernel
theorem dX9_act_207 : decode cX9_act 207 = .ok (.aload_n 0, 1) := by decide +kernel
theorem dX9_act_208 : decode cX9_act 208 = .ok (.aload_n 0, 1) := by decide +kernel
theorem dX9_act_209 : decode cX9_act 209 = .ok (.getfield 105, 3) := by decide +kernel
theorem dX9_act_212 : decode cX9_act 212 = .ok (.sipush 250, 3) := by decide +kernel
theorem dX9_act_215 : decode cX9_act 215 = .ok (.if_icmp .ne 7, 3) := by decide +kernel
theorem dX9_act_218 : decode cX9_act 218 = .ok (.iconst 2, 1) := by decide +kernel
theorem dX9_act_219 : decode cX9_act 219 = .ok (.goto 4, 3) := by decide +kernel
theorem dX9_act_222 : decode cX9_act 222 = .ok (.iconst 0, 1) := by decide +kernel
theorem dX9_act_223 : decode cX9_act 223 = .ok (.putfield 99, 3) := by decide +kernel
theorem dX9_act_226 : decode cX9_act 226 = .ok (.aload_n 0, 1) := by decide +kernel
theorem dX9_act_227 : decode cX9_act 227 = .ok (.getfield 99, 3) := by decide +kernel
theorem dX9_act_230 : decode cX9_act 230 = .ok (.ifCond .le 5, 3) := by decide +kernel
theorem dX9_act_233 : decode cX9_act 233 = .ok (.iconst 0, 1) := by decide +kernel
theorem dX9_act_234 : decode cX9_act 234 = .ok (.ireturn, 1) := by decide +kernel
theorem dX9_act_235 : decode cX9_act 235 = .ok (.aload_n 0, 1) := by decide +kernel
theorem dX9_act_236 : decode cX9_act 236 = .ok (.getfield 17, 3) := by decide +kernel
theorem dX9_act_239 : decode cX9_act 239 = .ok (.aload_n 0, 1) := by decide +kernel
theorem dX9_act_240 : decode cX9_act 240 = .ok (.getfield 105, 3) := by decide +kernel
theorem dX9_act_243 : decode cX9_act 243 = .ok (.iload_n 1, 1) := by decide +kernel
theorem dX9_act_244 : decode cX9_act 244 = .ok (.iastore, 1) := by decide +kernel
theorem dX9_act_245 : decode cX9_act 245 = .ok (.aload_n 0, 1) := by decide +kernel
theorem dX9_act_246 : decode cX9_act 246 = .ok (.getfield 20, 3) := by decide +kernel
theorem dX9_act_249 : decode cX9_act 249 = .ok (.iconst 3, 1) := by decide +kernel
theorem dX9_act_250 : decode cX9_act 250 = .ok (.aload_n 0, 1) := by decide +kernel
theorem dX9_act_251 : decode cX9_act 251 = .ok (.getfield 105, 3) := by decide +kernel
theorem dX9_act_254 : decode cX9_act 254 = .ok (.imul, 1) := by decide +kernel
theorem dX9_act_255 : decode cX9_act 255 = .ok (.iload_n 2, 1) := by decide +kernel
theorem dX9_act_256 : decode cX9_act 256 = .ok (.iastore, 1) := by decide +kernel
theorem dX9_act_257 : decode cX9_act 257 = .ok (.aload_n 0, 1) := by decide +kernel
theorem dX9_act_258 : decode cX9_act 258 = .ok (.getfield 20, 3) := by decide +kernel
theorem dX9_act_261 : decode cX9_act 261 = .ok (.iconst 3, 1) := by decide +kernel
theorem dX9_act_262 : decode cX9_act 262 = .ok (.aload_n 0, 1) := by decide +kernel
theorem dX9_act_263 : decode cX9_act 263 = .ok (.getfield 105, 3) := by decide +kernel
theorem dX9_act_266 : decode cX9_act 266 = .ok (.imul, 1) := by decide +kernel
theorem dX9_act_267 : decode cX9_act 267 = .ok (.iconst 1, 1) := by decide +kernel
theorem dX9_act_268 : decode cX9_act 268 = .ok (.iadd, 1) := by decide +kernel
theorem dX9_act_269 : decode cX9_act 269 = .ok (.iload_n 3, 1) := by decide +kernel
theorem dX9_act_270 : decode cX9_act 270 = .ok (.iastore, 1) := by decide +kernel
theorem dX9_act_271 : decode cX9_act 271 = .ok (.aload_n 0, 1) := by decide +kernel
theorem dX9_act_272 : decode cX9_act 272 = .ok (.getfield 20, 3) := by decide +kernel
theorem dX9_act_275 : decode cX9_act 275 = .ok (.iconst 3, 1) := by decide +kernel
theorem dX9_act_276 : decode cX9_act 276 = .ok (.aload_n 0, 1) := by decide +kernel
theorem dX9_act_277 : decode cX9_act 277 = .ok (.getfield 105, 3) := by decide +kernel
theorem dX9_act_280 : decode cX9_act 280 = .ok (.imul, 1) := by decide +kernel
theorem dX9_act_281 : decode cX9_act 281 = .ok (.iconst 2, 1) := by decide +kernel
theorem dX9_act_282 : decode cX9_act 282 = .ok (.iadd, 1) := by decide +kernel
theorem dX9_act_283 : decode cX9_act 283 = .ok (.iload 4, 2) := by decide +kernel
theorem dX9_act_285 : decode cX9_act 285 = .ok (.iastore, 1) := by decide +kernel
theorem dX9_act_286 : decode cX9_act 286 = .ok (.aload_n 0, 1) := by decide +kernel
theorem dX9_act_287 : decode cX9_act 287 = .ok (.getfield 23, 3) := by decide +kernel
theorem dX9_act_290 : decode cX9_act 290 = .ok (.aload_n 0, 1) := by decide +kernel
theorem dX9_act_291 : decode cX9_act 291 = .ok (.getfield 105, 3) := by decide +kernel
theorem dX9_act_294 : decode cX9_act 294 = .ok (.iload 5, 2) := by decide +kernel
theorem dX9_act_296 : decode cX9_act 296 = .ok (.iastore, 1) := by decide +kernel
theorem dX9_act_297 : decode cX9_act 297 = .ok (.aload_n 0, 1) := by decide +kernel
theorem dX9_act_298 : decode cX9_act 298 = .ok (.getfield 26, 3) := by decide +kernel
theorem dX9_act_301 : decode cX9_act 301 = .ok (.aload_n 0, 1) := by decide +kernel
theorem dX9_act_302 : decode cX9_act 302 = .ok (.getfield 105, 3) := by decide +kernel
theorem dX9_act_305 : decode cX9_act 305 = .ok (.aload_n 0, 1) := by decide +kernel
theorem dX9_act_306 : decode cX9_act 306 = .ok (.getfield 120, 3) := by decide +kernel
theorem dX9_act_309 : decode cX9_act 309 = .ok (.iastore, 1) := by decide +kernel
theorem dX9_act_310 : decode cX9_act 310 = .ok (.aload_n 0, 1) := by decide +kernel
theorem dX9_act_311 : decode cX9_act 311 = .ok (.getfield 29, 3) := by decide +kernel
theorem dX9_act_314 : decode cX9_act 314 = .ok (.aload_n 0, 1) := by decide +kernel
theorem dX9_act_315 : decode cX9_act 315 = .ok (.getfield 105, 3) := by decide +kernel
theorem dX9_act_318 : decode cX9_act 318 = .ok (.iconst 0, 1) := by decide +kernel
theorem dX9_act_319 : decode cX9_act 319 = .ok (.iastore, 1) := by decide +kernel
theorem dX9_act_320 : decode cX9_act 320 = .ok (.aload_n 0, 1) := by decide +kernel
theorem dX9_act_321 : decode cX9_act 321 = .ok (.dup, 1) := by decide +kernel
theorem dX9_act_322 : decode cX9_act 322 = .ok (.getfield 105, 3) := by decide +kernel
theorem dX9_act_325 : decode cX9_act 325 = .ok (.iconst 1, 1) := by decide +kernel
theorem dX9_act_326 : decode cX9_act 326 = .ok (.iadd, 1) := by decide +kernel
theorem dX9_act_327 : decode cX9_act 327 = .ok (.putfield 105, 3) := by decide +kernel
theorem dX9_act_330 : decode cX9_act 330 = .ok (.aload_n 0, 1) := by decide +kernel
theorem dX9_act_331 : decode cX9_act 331 = .ok (.getfield 105, 3) := by decide +kernel
theorem dX9_act_334 : decode cX9_act 334 = .ok (.iconst 1, 1) := by decide +kernel
theorem dX9_act_335 : decode cX9_act 335 = .ok (.isub, 1) := by decide +kernel
theorem dX9_act_336 : decode cX9_act 336 = .ok (.ireturn, 1) := by decide +kernel
theorem dX9_isWord_0 : decode cX9_isWord 0 = .ok (.aload_n 0, 1) := by decide +kernel
theorem dX9_isWord_1 : decode cX9_isWord 1 = .ok (.invokevirtual 137, 3) := by decide +kernel
theorem dX9_isWord_4 : decode cX9_isWord 4 = .ok (.istore_n 3, 1) := by decide +kernel
theorem dX9_isWord_5 : decode cX9_isWord 5 = .ok (.aload_n 0, 1) := by decide +kernel
theorem dX9_isWord_6 : decode cX9_isWord 6 = .ok (.invokevirtual 141, 3) := by decide +kernel
theorem dX9_isWord_9 : decode cX9_isWord 9 = .ok (.istore 4, 2) := by decide +kernel
theorem dX9_isWord_11 : decode cX9_isWord 11 = .ok (.iload 4, 2) := by decide +kernel
theorem dX9_isWord_13 : decode cX9_isWord 13 = .ok (.aload_n 0, 1) := by decide +kernel
theorem dX9_isWord_14 : decode cX9_isWord 14 = .ok (.getfield 131, 3) := by decide +kernel
theorem dX9_isWord_17 : decode cX9_isWord 17 = .ok (.if_icmp .eq 15, 3) := by decide +kernel
theorem dX9_isWord_20 : decode cX9_isWord 20 = .ok (.iload 4, 2) := by decide +kernel
theorem dX9_isWord_22 : decode cX9_isWord 22 = .ok (.aload_n 0, 1) := by decide +kernel
theorem dX9_isWord_23 : decode cX9_isWord 23 = .ok (.getfield 131, 3) := by decide +kernel
theorem dX9_isWord_26 : decode cX9_isWord 26 = .ok (.isub, 1) := by decide +kernel
theorem dX9_isWord_27 : decode cX9_isWord 27 = .ok (.bipush 7, 2) := by decide +kernel
theorem dX9_isWord_29 : decode cX9_isWord 29 = .ok (.if_icmp .le 5, 3) := by decide +kernel
theorem dX9_isWord_32 : decode cX9_isWord 32 = .ok (.iconst 0, 1) := by decide +kernel
theorem dX9_isWord_33 : decode cX9_isWord 33 = .ok (.ireturn, 1) := by decide +kernel
theorem dX9_isWord_34 : decode cX9_isWord 34 = .ok (.lconst 0, 1) := by decide +kernel
theorem dX9_isWord_35 : decode cX9_isWord 35 = .ok (.lstore 5, 2) := by decide +kernel
theorem dX9_isWord_37 : decode cX9_isWord 37 = .ok (.aload_n 0, 1) := by decide +kernel
theorem dX9_isWord_38 : decode cX9_isWord 38 = .ok (.getfield 131, 3) := by decide +kernel
theorem dX9_isWord_41 : decode cX9_isWord 41 = .ok (.istore 7, 2) := by decide +kernel
theorem dX9_isWord_43 : decode cX9_isWord 43 = .ok (.iload 7, 2) := by decide +kernel
theorem dX9_isWord_45 : decode cX9_isWord 45 = .ok (.iload 4, 2) := by decide +kernel
theorem dX9_isWord_47 : decode cX9_isWord 47 = .ok (.if_icmp .ge 25, 3) := by decide +kernel
theorem dX9_isWord_50 : decode cX9_isWord 50 = .ok (.lload 5, 2) := by decide +kernel
theorem dX9_isWord_52 : decode cX9_isWord 52 = .ok (.bipush 8, 2) := by decide +kernel
theorem dX9_isWord_54 : decode cX9_isWord 54 = .ok (.lshl, 1) := by decide +kernel
theorem dX9_isWord_55 : decode cX9_isWord 55 = .ok (.aload_n 0, 1) := by decide +kernel
theorem dX9_isWord_56 : decode cX9_isWord 56 = .ok (.getfield 72, 3) := by decide +kernel
theorem dX9_isWord_59 : decode cX9_isWord 59 = .ok (.iload 7, 2) := by decide +kernel
theorem dX9_isWord_61 : decode cX9_isWord 61 = .ok (.iaload, 1) := by decide +kernel
theorem dX9_isWord_62 : decode cX9_isWord 62 = .ok (.i2l, 1) := by decide +kernel
theorem dX9_isWord_63 : decode cX9_isWord 63 = .ok (.lor, 1) := by decide +kernel
theorem dX9_isWord_64 : decode cX9_isWord 64 = .ok (.lstore 5, 2) := by decide +kernel
theorem dX9_isWord_66 : decode cX9_isWord 66 = .ok (.iinc 7 1, 3) := by decide +kernel
theorem dX9_isWord_69 : decode cX9_isWord 69 = .ok (.goto (-26), 3) := by decide +kernel
theorem dX9_isWord_72 : decode cX9_isWord 72 = .ok (.lload 5, 2) := by decide +kernel
theorem dX9_isWord_74 : decode cX9_isWord 74 = .ok (.lload_n 1, 1) := by decide +kernel
theorem dX9_isWord_75 : decode cX9_isWord 75 = .ok (.lcmp, 1) := by decide +kernel
theorem dX9_isWord_76 : decode cX9_isWord 76 = .ok (.ifCond .ne 7, 3) := by decide +kernel
theorem dX9_isWord_79 : decode cX9_isWord 79 = .ok (.iconst 1, 1) := by decide +kernel
theorem dX9_isWord_80 : decode cX9_isWord 80 = .ok (.goto 4, 3) := by decide +kernel
theorem dX9_isWord_83 : decode cX9_isWord 83 = .ok (.iconst 0, 1) := by decide +kernel
theorem dX9_isWord_84 : decode cX9_isWord 84 = .ok (.ireturn, 1) := by decide +kernel
theorem dX9_digits_0 : decode cX9_digits 0 = .ok (.aload_n 0, 1) := by decide +kernel
theorem dX9_digits_1 : decode cX9_digits 1 = .ok (.invokevirtual 137, 3) := by decide +kernel
theorem dX9_digits_4 : decode cX9_digits 4 = .ok (.istore_n 3, 1) := by decide +kernel
theorem dX9_digits_5 : decode cX9_digits 5 = .ok (.aload_n 0, 1) := by decide +kernel
theorem dX9_digits_6 : decode cX9_digits 6 = .ok (.getfield 131, 3) := by decide +kernel
theorem dX9_digits_9 : decode cX9_digits 9 = .ok (.istore 4, 2) := by decide +kernel
theorem dX9_digits_11 : decode cX9_digits 11 = .ok (.iconst 0, 1) := by decide +kernel
theorem dX9_digits_12 : decode cX9_digits 12 = .ok (.istore 5, 2) := by decide +kernel
theorem dX9_digits_14 : decode cX9_digits 14 = .ok (.aload_n 0, 1) := by decide +kernel
theorem dX9_digits_15 : decode cX9_digits 15 = .ok (.getfield 131, 3) := by decide +kernel
theorem dX9_digits_18 : decode cX9_digits 18 = .ok (.aload_n 0, 1) := by decide +kernel
theorem dX9_digits_19 : decode cX9_digits 19 = .ok (.getfield 134, 3) := by decide +kernel
theorem dX9_digits_22 : decode cX9_digits 22 = .ok (.if_icmp .ge 83, 3) := by decide +kernel
theorem dX9_digits_25 : decode cX9_digits 25 = .ok (.aload_n 0, 1) := by decide +kernel
theorem dX9_digits_26 : decode cX9_digits 26 = .ok (.getfield 72, 3) := by decide +kernel
theorem dX9_digits_29 : decode cX9_digits 29 = .ok (.aload_n 0, 1) := by decide +kernel
theorem dX9_digits_30 : decode cX9_digits 30 = .ok (.getfield 131, 3) := by decide +kernel
theorem dX9_digits_33 : decode cX9_digits 33 = .ok (.iaload, 1) := by decide +kernel
theorem dX9_digits_34 : decode cX9_digits 34 = .ok (.bipush 48, 2) := by decide +kernel
theorem dX9_digits_36 : decode cX9_digits 36 = .ok (.if_icmp .lt 69, 3) := by decide +kernel
theorem dX9_digits_39 : decode cX9_digits 39 = .ok (.aload_n 0, 1) := by decide +kernel
theorem dX9_digits_40 : decode cX9_digits 40 = .ok (.getfield 72, 3) := by decide +kernel
theorem dX9_digits_43 : decode cX9_digits 43 = .ok (.aload_n 0, 1) := by decide +kernel
theorem dX9_digits_44 : decode cX9_digits 44 = .ok (.getfield 131, 3) := by decide +kernel
theorem dX9_digits_47 : decode cX9_digits 47 = .ok (.iaload, 1) := by decide +kernel
theorem dX9_digits_48 : decode cX9_digits 48 = .ok (.bipush 57, 2) := by decide +kernel
theorem dX9_digits_50 : decode cX9_digits 50 = .ok (.if_icmp .gt 55, 3) := by decide +kernel
theorem dX9_digits_53 : decode cX9_digits 53 = .ok (.aload_n 0, 1) := by decide +kernel
theorem dX9_digits_54 : decode cX9_digits 54 = .ok (.getfield 131, 3) := by decide +kernel
theorem dX9_digits_57 : decode cX9_digits 57 = .ok (.iload 4, 2) := by decide +kernel
theorem dX9_digits_59 : decode cX9_digits 59 = .ok (.isub, 1) := by decide +kernel
theorem dX9_digits_60 : decode cX9_digits 60 = .ok (.bipush 6, 2) := by decide +kernel
theorem dX9_digits_62 : decode cX9_digits 62 = .ok (.if_icmp .ne 10, 3) := by decide +kernel
theorem dX9_digits_65 : decode cX9_digits 65 = .ok (.aload_n 0, 1) := by decide +kernel
theorem dX9_digits_66 : decode cX9_digits 66 = .ok (.iload 4, 2) := by decide +kernel
theorem dX9_digits_68 : decode cX9_digits 68 = .ok (.invokevirtual 151, 3) := by decide +kernel
theorem dX9_digits_71 : decode cX9_digits 71 = .ok (.ireturn, 1) := by decide +kernel
theorem dX9_digits_72 : decode cX9_digits 72 = .ok (.bipush 10, 2) := by decide +kernel
theorem dX9_digits_74 : decode cX9_digits 74 = .ok (.iload 5, 2) := by decide +kernel
theorem dX9_digits_76 : decode cX9_digits 76 = .ok (.imul, 1) := by decide +kernel
theorem dX9_digits_77 : decode cX9_digits 77 = .ok (.aload_n 0, 1) := by decide +kernel
theorem dX9_digits_78 : decode cX9_digits 78 = .ok (.getfield 72, 3) := by decide +kernel
theorem dX9_digits_81 : decode cX9_digits 81 = .ok (.aload_n 0, 1) := by decide +kernel
theorem dX9_digits_82 : decode cX9_digits 82 = .ok (.getfield 131, 3) := by decide +kernel
theorem dX9_digits_85 : decode cX9_digits 85 = .ok (.iaload, 1) := by decide +kernel
theorem dX9_digits_86 : decode cX9_digits 86 = .ok (.iadd, 1) := by decide +kernel
theorem dX9_digits_87 : decode cX9_digits 87 = .ok (.bipush 48, 2) := by decide +kernel
theorem dX9_digits_89 : decode cX9_digits 89 = .ok (.isub, 1) := by decide +kernel
theorem dX9_digits_90 : decode cX9_digits 90 = .ok (.istore 5, 2) := by decide +kernel
theorem dX9_digits_92 : decode cX9_digits 92 = .ok (.aload_n 0, 1) := by decide +kernel
theorem dX9_digits_93 : decode cX9_digits 93 = .ok (.dup, 1) := by decide +kernel
theorem dX9_digits_94 : decode cX9_digits 94 = .ok (.getfield 131, 3) := by decide +kernel
theorem dX9_digits_97 : decode cX9_digits 97 = .ok (.iconst 1, 1) := by decide +kernel
theorem dX9_digits_98 : decode cX9_digits 98 = .ok (.iadd, 1) := by decide +kernel
theorem dX9_digits_99 : decode cX9_digits 99 = .ok (.putfield 131, 3) := by decide +kernel
theorem dX9_digits_102 : decode cX9_digits 102 = .ok (.goto (-88), 3) := by decide +kernel
theorem dX9_digits_105 : decode cX9_digits 105 = .ok (.aload_n 0, 1) := by decide +kernel
theorem dX9_digits_106 : decode cX9_digits 106 = .ok (.getfield 131, 3) := by decide +kernel
theorem dX9_digits_109 : decode cX9_digits 109 = .ok (.iload 4, 2) := by decide +kernel
theorem dX9_digits_111 : decode cX9_digits 111 = .ok (.if_icmp .eq 15, 3) := by decide +kernel
theorem dX9_digits_114 : decode cX9_digits 114 = .ok (.iload 5, 2) := by decide +kernel
theorem dX9_digits_116 : decode cX9_digits 116 = .ok (.iload_n 1, 1) := by decide +kernel
theorem dX9_digits_117 : decode cX9_digits 117 = .ok (.if_icmp .lt 9, 3) := by decide +kernel
theorem dX9_digits_120 : decode cX9_digits 120 = .ok (.iload 5, 2) := by decide +kernel
theorem dX9_digits_122 : decode cX9_digits 122 = .ok (.iload_n 2, 1) := by decide +kernel
theorem dX9_digits_123 : decode cX9_digits 123 = .ok (.if_icmp .le 10, 3) := by decide +kernel
theorem dX9_digits_126 : decode cX9_digits 126 = .ok (.aload_n 0, 1) := by decide +kernel
theorem dX9_digits_127 : decode cX9_digits 127 = .ok (.iload 4, 2) := by decide +kernel
theorem dX9_digits_129 : decode cX9_digits 129 = .ok (.invokevirtual 151, 3) := by decide +kernel
theorem dX9_digits_132 : decode cX9_digits 132 = .ok (.ireturn, 1) := by decide +kernel
theorem dX9_digits_133 : decode cX9_digits 133 = .ok (.aload_n 0, 1) := by decide +kernel
theorem dX9_digits_134 : decode cX9_digits 134 = .ok (.iload 5, 2) := by decide +kernel
theorem dX9_digits_136 : decode cX9_digits 136 = .ok (.putfield 154, 3) := by decide +kernel
theorem dX9_digits_139 : decode cX9_digits 139 = .ok (.iconst 1, 1) := by decide +kernel
theorem dX9_digits_140 : decode cX9_digits 140 = .ok (.ireturn, 1) := by decide +kernel
theorem dX9_fieldHere_0 : decode cX9_fieldHere 0 = .ok (.aload_n 0, 1) := by decide +kernel
theorem dX9_fieldHere_1 : decode cX9_fieldHere 1 = .ok (.ldc2_w 157, 3) := by decide +kernel
theorem dX9_fieldHere_4 : decode cX9_fieldHere 4 = .ok (.invokevirtual 144, 3) := by decide +kernel
theorem dX9_fieldHere_7 : decode cX9_fieldHere 7 = .ok (.ifCond .eq 7, 3) := by decide +kernel
theorem dX9_fieldHere_10 : decode cX9_fieldHere 10 = .ok (.iconst 0, 1) := by decide +kernel
theorem dX9_fieldHere_11 : decode cX9_fieldHere 11 = .ok (.goto 32, 3) := by decide +kernel
theorem dX9_fieldHere_14 : decode cX9_fieldHere 14 = .ok (.aload_n 0, 1) := by decide +kernel
theorem dX9_fieldHere_15 : decode cX9_fieldHere 15 = .ok (.ldc2_w 159, 3) := by decide +kernel
theorem dX9_fieldHere_18 : decode cX9_fieldHere 18 = .ok (.invokevirtual 144, 3) := by decide +kernel
theorem dX9_fieldHere_21 : decode cX9_fieldHere 21 = .ok (.ifCond .eq 7, 3) := by decide +kernel
theorem dX9_fieldHere_24 : decode cX9_fieldHere 24 = .ok (.iconst 1, 1) := by decide +kernel
theorem dX9_fieldHere_25 : decode cX9_fieldHere 25 = .ok (.goto 18, 3) := by decide +kernel
theorem dX9_fieldHere_28 : decode cX9_fieldHere 28 = .ok (.aload_n 0, 1) := by decide +kernel
theorem dX9_fieldHere_29 : decode cX9_fieldHere 29 = .ok (.ldc2_w 161, 3) := by decide +kernel
theorem dX9_fieldHere_32 : decode cX9_fieldHere 32 = .ok (.invokevirtual 144, 3) := by decide +kernel
theorem dX9_fieldHere_35 : decode cX9_fieldHere 35 = .ok (.ifCond .eq 7, 3) := by decide +kernel
theorem dX9_fieldHere_38 : decode cX9_fieldHere 38 = .ok (.iconst 2, 1) := by decide +kernel
theorem dX9_fieldHere_39 : decode cX9_fieldHere 39 = .ok (.goto 4, 3) := by decide +kernel
theorem dX9_fieldHere_42 : decode cX9_fieldHere 42 = .ok (.iconst (-1), 1) := by decide +kernel
theorem dX9_fieldHere_43 : decode cX9_fieldHere 43 = .ok (.ireturn, 1) := by decide +kernel
theorem dX9_ask_0 : decode cX9_ask 0 = .ok (.aload_n 0, 1) := by decide +kernel
theorem dX9_ask_1 : decode cX9_ask 1 = .ok (.aload_n 0, 1) := by decide +kernel
theorem dX9_ask_2 : decode cX9_ask 2 = .ok (.getfield 108, 3) := by decide +kernel
theorem dX9_ask_5 : decode cX9_ask 5 = .ok (.putfield 134, 3) := by decide +kernel
theorem dX9_ask_8 : decode cX9_ask 8 = .ok (.aload_n 0, 1) := by decide +kernel
theorem dX9_ask_9 : decode cX9_ask 9 = .ok (.iconst 0, 1) := by decide +kernel
theorem dX9_ask_10 : decode cX9_ask 10 = .ok (.putfield 108, 3) := by decide +kernel
theorem dX9_ask_13 : decode cX9_ask 13 = .ok (.aload_n 0, 1) := by decide +kernel
theorem dX9_ask_14 : decode cX9_ask 14 = .ok (.iconst 0, 1) := by decide +kernel
theorem dX9_ask_15 : decode cX9_ask 15 = .ok (.putfield 131, 3) := by decide +kernel
theorem dX9_ask_18 : decode cX9_ask 18 = .ok (.aload_n 0, 1) := by decide +kernel
theorem dX9_ask_19 : decode cX9_ask 19 = .ok (.iload_n 1, 1) := by decide +kernel
theorem dX9_ask_20 : decode cX9_ask 20 = .ok (.iconst 0, 1) := by decide +kernel
theorem dX9_ask_21 : decode cX9_ask 21 = .ok (.iconst 3, 1) := by decide +kernel
theorem dX9_ask_22 : decode cX9_ask 22 = .ok (.invokestatic 116, 3) := by decide +kernel
theorem dX9_ask_25 : decode cX9_ask 25 = .ok (.ifCond .ne 7, 3) := by decide +kernel
theorem dX9_ask_28 : decode cX9_ask 28 = .ok (.iconst 1, 1) := by decide +kernel
theorem dX9_ask_29 : decode cX9_ask 29 = .ok (.goto 4, 3) := by decide +kernel
theorem dX9_ask_32 : decode cX9_ask 32 = .ok (.iconst 0, 1) := by decide +kernel
theorem dX9_ask_33 : decode cX9_ask 33 = .ok (.putfield 99, 3) := by decide +kernel
theorem dX9_ask_36 : decode cX9_ask 36 = .ok (.aload_n 0, 1) := by decide +kernel
theorem dX9_ask_37 : decode cX9_ask 37 = .ok (.getfield 99, 3) := by decide +kernel
theorem dX9_ask_40 : decode cX9_ask 40 = .ok (.ifCond .le 5, 3) := by decide +kernel
theorem dX9_ask_43 : decode cX9_ask 43 = .ok (.iconst 0, 1) := by decide +kernel
theorem dX9_ask_44 : decode cX9_ask 44 = .ok (.ireturn, 1) := by decide +kernel
theorem dX9_ask_45 : decode cX9_ask 45 = .ok (.aload_n 0, 1) := by decide +kernel
theorem dX9_ask_46 : decode cX9_ask 46 = .ok (.iconst (-1), 1) := by decide +kernel
theorem dX9_ask_47 : decode cX9_ask 47 = .ok (.putfield 75, 3) := by decide +kernel
theorem dX9_ask_50 : decode cX9_ask 50 = .ok (.aload_n 0, 1) := by decide +kernel
theorem dX9_ask_51 : decode cX9_ask 51 = .ok (.invokevirtual 202, 3) := by decide +kernel
theorem dX9_ask_54 : decode cX9_ask 54 = .ok (.ifCond .ne 11, 3) := by decide +kernel
theorem dX9_ask_57 : decode cX9_ask 57 = .ok (.aload_n 0, 1) := by decide +kernel
theorem dX9_ask_58 : decode cX9_ask 58 = .ok (.iconst 2, 1) := by decide +kernel
theorem dX9_ask_59 : decode cX9_ask 59 = .ok (.putfield 99, 3) := by decide +kernel
theorem dX9_ask_62 : decode cX9_ask 62 = .ok (.goto 41, 3) := by decide +kernel
theorem dX9_ask_65 : decode cX9_ask 65 = .ok (.aload_n 0, 1) := by decide +kernel
theorem dX9_ask_66 : decode cX9_ask 66 = .ok (.getfield 166, 3) := by decide +kernel
theorem dX9_ask_69 : decode cX9_ask 69 = .ok (.aload_n 0, 1) := by decide +kernel
theorem dX9_ask_70 : decode cX9_ask 70 = .ok (.getfield 13, 3) := by decide +kernel
theorem dX9_ask_73 : decode cX9_ask 73 = .ok (.iload_n 1, 1) := by decide +kernel
theorem dX9_ask_74 : decode cX9_ask 74 = .ok (.iaload, 1) := by decide +kernel
theorem dX9_ask_75 : decode cX9_ask 75 = .ok (.iconst (-1), 1) := by decide +kernel
theorem dX9_ask_76 : decode cX9_ask 76 = .ok (.ixor, 1) := by decide +kernel
theorem dX9_ask_77 : decode cX9_ask 77 = .ok (.iand, 1) := by decide +kernel
theorem dX9_ask_78 : decode cX9_ask 78 = .ok (.ifCond .eq 11, 3) := by decide +kernel
theorem dX9_ask_81 : decode cX9_ask 81 = .ok (.aload_n 0, 1) := by decide +kernel
theorem dX9_ask_82 : decode cX9_ask 82 = .ok (.iconst 3, 1) := by decide +kernel
theorem dX9_ask_83 : decode cX9_ask 83 = .ok (.putfield 99, 3) := by decide +kernel
theorem dX9_ask_86 : decode cX9_ask 86 = .ok (.goto 17, 3) := by decide +kernel
theorem dX9_ask_89 : decode cX9_ask 89 = .ok (.aload_n 0, 1) := by decide +kernel
theorem dX9_ask_90 : decode cX9_ask 90 = .ok (.getfield 102, 3) := by decide +kernel
theorem dX9_ask_93 : decode cX9_ask 93 = .ok (.bipush 8, 2) := by decide +kernel
theorem dX9_ask_95 : decode cX9_ask 95 = .ok (.if_icmp .ne 8, 3) := by decide +kernel
theorem dX9_ask_98 : decode cX9_ask 98 = .ok (.aload_n 0, 1) := by decide +kernel
theorem dX9_ask_99 : decode cX9_ask 99 = .ok (.iconst 4, 1) := by decide +kernel
theorem dX9_ask_100 : decode cX9_ask 100 = .ok (.putfield 99, 3) := by decide +kernel
theorem dX9_ask_103 : decode cX9_ask 103 = .ok (.aload_n 0, 1) := by decide +kernel
theorem dX9_ask_104 : decode cX9_ask 104 = .ok (.getfield 99, 3) := by decide +kernel
theorem dX9_ask_107 : decode cX9_ask 107 = .ok (.ifCond .le 5, 3) := by decide +kernel
theorem dX9_ask_110 : decode cX9_ask 110 = .ok (.iconst 0, 1) := by decide +kernel
theorem dX9_ask_111 : decode cX9_ask 111 = .ok (.ireturn, 1) := by decide +kernel
theorem dX9_ask_112 : decode cX9_ask 112 = .ok (.aload_n 0, 1) := by decide +kernel
theorem dX9_ask_113 : decode cX9_ask 113 = .ok (.getfield 102, 3) := by decide +kernel
theorem dX9_ask_116 : decode cX9_ask 116 = .ok (.istore_n 2, 1) := by decide +kernel
theorem dX9_ask_117 : decode cX9_ask 117 = .ok (.aload_n 0, 1) := by decide +kernel
theorem dX9_ask_118 : decode cX9_ask 118 = .ok (.dup, 1) := by decide +kernel
theorem dX9_ask_119 : decode cX9_ask 119 = .ok (.getfield 102, 3) := by decide +kernel
theorem dX9_ask_122 : decode cX9_ask 122 = .ok (.iconst 1, 1) := by decide +kernel
theorem dX9_ask_123 : decode cX9_ask 123 = .ok (.iadd, 1) := by decide +kernel
theorem dX9_ask_124 : decode cX9_ask 124 = .ok (.putfield 102, 3) := by decide +kernel
theorem dX9_ask_127 : decode cX9_ask 127 = .ok (.aload_n 0, 1) := by decide +kernel
theorem dX9_ask_128 : decode cX9_ask 128 = .ok (.getfield 32, 3) := by decide +kernel
theorem dX9_ask_131 : decode cX9_ask 131 = .ok (.iload_n 2, 1) := by decide +kernel
theorem dX9_ask_132 : decode cX9_ask 132 = .ok (.aload_n 0, 1) := by decide +kernel
theorem dX9_ask_133 : decode cX9_ask 133 = .ok (.getfield 32, 3) := by decide +kernel
theorem dX9_ask_136 : decode cX9_ask 136 = .ok (.bipush 8, 2) := by decide +kernel
theorem dX9_ask_138 : decode cX9_ask 138 = .ok (.iaload, 1) := by decide +kernel
theorem dX9_ask_139 : decode cX9_ask 139 = .ok (.iastore, 1) := by decide +kernel
theorem dX9_ask_140 : decode cX9_ask 140 = .ok (.aload_n 0, 1) := by decide +kernel
theorem dX9_ask_141 : decode cX9_ask 141 = .ok (.getfield 35, 3) := by decide +kernel
theorem dX9_ask_144 : decode cX9_ask 144 = .ok (.iload_n 2, 1) := by decide +kernel
theorem dX9_ask_145 : decode cX9_ask 145 = .ok (.aload_n 0, 1) := by decide +kernel
theorem dX9_ask_146 : decode cX9_ask 146 = .ok (.getfield 35, 3) := by decide +kernel
theorem dX9_ask_149 : decode cX9_ask 149 = .ok (.bipush 8, 2) := by decide +kernel
theorem dX9_ask_151 : decode cX9_ask 151 = .ok (.iaload, 1) := by decide +kernel
theorem dX9_ask_152 : decode cX9_ask 152 = .ok (.iastore, 1) := by decide +kernel
theorem dX9_ask_153 : decode cX9_ask 153 = .ok (.aload_n 0, 1) := by decide +kernel
theorem dX9_ask_154 : decode cX9_ask 154 = .ok (.getfield 54, 3) := by decide +kernel
theorem dX9_ask_157 : decode cX9_ask 157 = .ok (.iload_n 2, 1) := by decide +kernel
theorem dX9_ask_158 : decode cX9_ask 158 = .ok (.aload_n 0, 1) := by decide +kernel
theorem dX9_ask_159 : decode cX9_ask 159 = .ok (.getfield 54, 3) := by decide +kernel
theorem dX9_ask_162 : decode cX9_ask 162 = .ok (.bipush 8, 2) := by decide +kernel
theorem dX9_ask_164 : decode cX9_ask 164 = .ok (.iaload, 1) := by decide +kernel
theorem dX9_ask_165 : decode cX9_ask 165 = .ok (.iastore, 1) := by decide +kernel
theorem dX9_ask_166 : decode cX9_ask 166 = .ok (.aload_n 0, 1) := by decide +kernel
theorem dX9_ask_167 : decode cX9_ask 167 = .ok (.getfield 57, 3) := by decide +kernel
theorem dX9_ask_170 : decode cX9_ask 170 = .ok (.iload_n 2, 1) := by decide +kernel
theorem dX9_ask_171 : decode cX9_ask 171 = .ok (.aload_n 0, 1) := by decide +kernel
theorem dX9_ask_172 : decode cX9_ask 172 = .ok (.getfield 57, 3) := by decide +kernel
theorem dX9_ask_175 : decode cX9_ask 175 = .ok (.bipush 8, 2) := by decide +kernel
theorem dX9_ask_177 : decode cX9_ask 177 = .ok (.iaload, 1) := by decide +kernel
theorem dX9_ask_178 : decode cX9_ask 178 = .ok (.iastore, 1) := by decide +kernel
theorem dX9_ask_179 : decode cX9_ask 179 = .ok (.aload_n 0, 1) := by decide +kernel
theorem dX9_ask_180 : decode cX9_ask 180 = .ok (.getfield 60, 3) := by decide +kernel
theorem dX9_ask_183 : decode cX9_ask 183 = .ok (.iload_n 2, 1) := by decide +kernel
theorem dX9_ask_184 : decode cX9_ask 184 = .ok (.aload_n 0, 1) := by decide +kernel
theorem dX9_ask_185 : decode cX9_ask 185 = .ok (.getfield 60, 3) := by decide +kernel
theorem dX9_ask_188 : decode cX9_ask 188 = .ok (.bipush 8, 2) := by decide +kernel
theorem dX9_ask_190 : decode cX9_ask 190 = .ok (.iaload, 1) := by decide +kernel
theorem dX9_ask_191 : decode cX9_ask 191 = .ok (.iastore, 1) := by decide +kernel
theorem dX9_ask_192 : decode cX9_ask 192 = .ok (.iconst 0, 1) := by decide +kernel
theorem dX9_ask_193 : decode cX9_ask 193 = .ok (.istore_n 3, 1) := by decide +kernel
theorem dX9_ask_194 : decode cX9_ask 194 = .ok (.iload_n 3, 1) := by decide +kernel
theorem dX9_ask_195 : decode cX9_ask 195 = .ok (.bipush 6, 2) := by decide +kernel
theorem dX9_ask_197 : decode cX9_ask 197 = .ok (.if_icmp .ge 118, 3) := by decide +kernel
theorem dX9_ask_200 : decode cX9_ask 200 = .ok (.bipush 48, 2) := by decide +kernel
theorem dX9_ask_202 : decode cX9_ask 202 = .ok (.iload_n 3, 1) := by decide +kernel
theorem dX9_ask_203 : decode cX9_ask 203 = .ok (.iadd, 1) := by decide +kernel
theorem dX9_ask_204 : decode cX9_ask 204 = .ok (.istore 4, 2) := by decide +kernel
theorem dX9_ask_206 : decode cX9_ask 206 = .ok (.bipush 6, 2) := by decide +kernel
theorem dX9_ask_208 : decode cX9_ask 208 = .ok (.iload_n 2, 1) := by decide +kernel
theorem dX9_ask_209 : decode cX9_ask 209 = .ok (.imul, 1) := by decide +kernel
theorem dX9_ask_210 : decode cX9_ask 210 = .ok (.iload_n 3, 1) := by decide +kernel
theorem dX9_ask_211 : decode cX9_ask 211 = .ok (.iadd, 1) := by decide +kernel
theorem dX9_ask_212 : decode cX9_ask 212 = .ok (.istore 5, 2) := by decide +kernel
theorem dX9_ask_214 : decode cX9_ask 214 = .ok (.aload_n 0, 1) := by decide +kernel
theorem dX9_ask_215 : decode cX9_ask 215 = .ok (.getfield 38, 3) := by decide +kernel
theorem dX9_ask_218 : decode cX9_ask 218 = .ok (.iload 5, 2) := by decide +kernel
theorem dX9_ask_220 : decode cX9_ask 220 = .ok (.aload_n 0, 1) := by decide +kernel
theorem dX9_ask_221 : decode cX9_ask 221 = .ok (.getfield 38, 3) := by decide +kernel
theorem dX9_ask_224 : decode cX9_ask 224 = .ok (.iload 4, 2) := by decide +kernel
theorem dX9_ask_226 : decode cX9_ask 226 = .ok (.baload, 1) := by decide +kernel
theorem dX9_ask_227 : decode cX9_ask 227 = .ok (.bastore, 1) := by decide +kernel
theorem dX9_ask_228 : decode cX9_ask 228 = .ok (.aload_n 0, 1) := by decide +kernel
theorem dX9_ask_229 : decode cX9_ask 229 = .ok (.getfield 42, 3) := by decide +kernel
theorem dX9_ask_232 : decode cX9_ask 232 = .ok (.iload 5, 2) := by decide +kernel
theorem dX9_ask_234 : decode cX9_ask 234 = .ok (.aload_n 0, 1) := by decide +kernel
theorem dX9_ask_235 : decode cX9_ask 235 = .ok (.getfield 42, 3) := by decide +kernel
theorem dX9_ask_238 : decode cX9_ask 238 = .ok (.iload 4, 2) := by decide +kernel
theorem dX9_ask_240 : decode cX9_ask 240 = .ok (.iaload, 1) := by decide +kernel
theorem dX9_ask_241 : decode cX9_ask 241 = .ok (.iastore, 1) := by decide +kernel
theorem dX9_ask_242 : decode cX9_ask 242 = .ok (.aload_n 0, 1) := by decide +kernel
theorem dX9_ask_243 : decode cX9_ask 243 = .ok (.getfield 48, 3) := by decide +kernel
theorem dX9_ask_246 : decode cX9_ask 246 = .ok (.iload 5, 2) := by decide +kernel
theorem dX9_ask_248 : decode cX9_ask 248 = .ok (.aload_n 0, 1) := by decide +kernel
theorem dX9_ask_249 : decode cX9_ask 249 = .ok (.getfield 48, 3) := by decide +kernel
theorem dX9_ask_252 : decode cX9_ask 252 = .ok (.iload 4, 2) := by decide +kernel
theorem dX9_ask_254 : decode cX9_ask 254 = .ok (.baload, 1) := by decide +kernel
theorem dX9_ask_255 : decode cX9_ask 255 = .ok (.bastore, 1) := by decide +kernel
theorem dX9_ask_256 : decode cX9_ask 256 = .ok (.aload_n 0, 1) := by decide +kernel
theorem dX9_ask_257 : decode cX9_ask 257 = .ok (.getfield 51, 3) := by decide +kernel
theorem dX9_ask_260 : decode cX9_ask 260 = .ok (.iload 5, 2) := by decide +kernel
theorem dX9_ask_262 : decode cX9_ask 262 = .ok (.aload_n 0, 1) := by decide +kernel
theorem dX9_ask_263 : decode cX9_ask 263 = .ok (.getfield 51, 3) := by decide +kernel
theorem dX9_ask_266 : decode cX9_ask 266 = .ok (.iload 4, 2) := by decide +kernel
theorem dX9_ask_268 : decode cX9_ask 268 = .ok (.iaload, 1) := by decide +kernel
theorem dX9_ask_269 : decode cX9_ask 269 = .ok (.iastore, 1) := by decide +kernel
theorem dX9_ask_270 : decode cX9_ask 270 = .ok (.iconst 0, 1) := by decide +kernel
theorem dX9_ask_271 : decode cX9_ask 271 = .ok (.istore 6, 2) := by decide +kernel
theorem dX9_ask_273 : decode cX9_ask 273 = .ok (.iload 6, 2) := by decide +kernel
theorem dX9_ask_275 : decode cX9_ask 275 = .ok (.iconst 3, 1) := by decide +kernel
theorem dX9_ask_276 : decode cX9_ask 276 = .ok (.if_icmp .ge 33, 3) := by decide +kernel
theorem dX9_ask_279 : decode cX9_ask 279 = .ok (.aload_n 0, 1) := by decide +kernel
theorem dX9_ask_280 : decode cX9_ask 280 = .ok (.getfield 45, 3) := by decide +kernel
theorem dX9_ask_283 : decode cX9_ask 283 = .ok (.iconst 3, 1) := by decide +kernel
theorem dX9_ask_284 : decode cX9_ask 284 = .ok (.iload 5, 2) := by decide +kernel
theorem dX9_ask_286 : decode cX9_ask 286 = .ok (.imul, 1) := by decide +kernel
theorem dX9_ask_287 : decode cX9_ask 287 = .ok (.iload 6, 2) := by decide +kernel
theorem dX9_ask_289 : decode cX9_ask 289 = .ok (.iadd, 1) := by decide +kernel
theorem dX9_ask_290 : decode cX9_ask 290 = .ok (.aload_n 0, 1) := by decide +kernel
theorem dX9_ask_291 : decode cX9_ask 291 = .ok (.getfield 45, 3) := by decide +kernel
theorem dX9_ask_294 : decode cX9_ask 294 = .ok (.iconst 3, 1) := by decide +kernel
theorem dX9_ask_295 : decode cX9_ask 295 = .ok (.iload 4, 2) := by decide +kernel
theorem dX9_ask_297 : decode cX9_ask 297 = .ok (.imul, 1) := by decide +kernel
theorem dX9_ask_298 : decode cX9_ask 298 = .ok (.iload 6, 2) := by decide +kernel
theorem dX9_ask_300 : decode cX9_ask 300 = .ok (.iadd, 1) := by decide +kernel
theorem dX9_ask_301 : decode cX9_ask 301 = .ok (.iaload, 1) := by decide +kernel
theorem dX9_ask_302 : decode cX9_ask 302 = .ok (.iastore, 1) := by decide +kernel
theorem dX9_ask_303 : decode cX9_ask 303 = .ok (.iinc 6 1, 3) := by decide +kernel
theorem dX9_ask_306 : decode cX9_ask 306 = .ok (.goto (-33), 3) := by decide +kernel
theorem dX9_ask_309 : decode cX9_ask 309 = .ok (.iinc 3 1, 3) := by decide +kernel
theorem dX9_ask_312 : decode cX9_ask 312 = .ok (.goto (-118), 3) := by decide +kernel
theorem dX9_ask_315 : decode cX9_ask 315 = .ok (.iload_n 2, 1) := by decide +kernel
theorem dX9_ask_316 : decode cX9_ask 316 = .ok (.ireturn, 1) := by decide +kernel
theorem dX9_fault_0 : decode cX9_fault 0 = .ok (.aload_n 0, 1) := by decide +kernel
theorem dX9_fault_1 : decode cX9_fault 1 = .ok (.iconst 0, 1) := by decide +kernel
theorem dX9_fault_2 : decode cX9_fault 2 = .ok (.putfield 99, 3) := by decide +kernel
theorem dX9_fault_5 : decode cX9_fault 5 = .ok (.aload_n 0, 1) := by decide +kernel
theorem dX9_fault_6 : decode cX9_fault 6 = .ok (.getfield 75, 3) := by decide +kernel
theorem dX9_fault_9 : decode cX9_fault 9 = .ok (.ireturn, 1) := by decide +kernel
theorem dX9_fits_0 : decode cX9_fits 0 = .ok (.bipush 6, 2) := by decide +kernel
theorem dX9_fits_2 : decode cX9_fits 2 = .ok (.iload_n 1, 1) := by decide +kernel
theorem dX9_fits_3 : decode cX9_fits 3 = .ok (.imul, 1) := by decide +kernel
theorem dX9_fits_4 : decode cX9_fits 4 = .ok (.iload_n 2, 1) := by decide +kernel
theorem dX9_fits_5 : decode cX9_fits 5 = .ok (.iadd, 1) := by decide +kernel
theorem dX9_fits_6 : decode cX9_fits 6 = .ok (.istore 5, 2) := by decide +kernel
theorem dX9_fits_8 : decode cX9_fits 8 = .ok (.aload_n 0, 1) := by decide +kernel
theorem dX9_fits_9 : decode cX9_fits 9 = .ok (.getfield 26, 3) := by decide +kernel
theorem dX9_fits_12 : decode cX9_fits 12 = .ok (.iload_n 3, 1) := by decide +kernel
theorem dX9_fits_13 : decode cX9_fits 13 = .ok (.iaload, 1) := by decide +kernel
theorem dX9_fits_14 : decode cX9_fits 14 = .ok (.iload 4, 2) := by decide +kernel
theorem dX9_fits_16 : decode cX9_fits 16 = .ok (.if_icmp .gt 19, 3) := by decide +kernel
theorem dX9_fits_19 : decode cX9_fits 19 = .ok (.aload_n 0, 1) := by decide +kernel
theorem dX9_fits_20 : decode cX9_fits 20 = .ok (.getfield 17, 3) := by decide +kernel
theorem dX9_fits_23 : decode cX9_fits 23 = .ok (.iload_n 3, 1) := by decide +kernel
theorem dX9_fits_24 : decode cX9_fits 24 = .ok (.iaload, 1) := by decide +kernel
theorem dX9_fits_25 : decode cX9_fits 25 = .ok (.aload_n 0, 1) := by decide +kernel
theorem dX9_fits_26 : decode cX9_fits 26 = .ok (.getfield 42, 3) := by decide +kernel
theorem dX9_fits_29 : decode cX9_fits 29 = .ok (.iload 5, 2) := by decide +kernel
theorem dX9_fits_31 : decode cX9_fits 31 = .ok (.iaload, 1) := by decide +kernel
theorem dX9_fits_32 : decode cX9_fits 32 = .ok (.if_icmp .eq 5, 3) := by decide +kernel
theorem dX9_fits_35 : decode cX9_fits 35 = .ok (.iconst 0, 1) := by decide +kernel
theorem dX9_fits_36 : decode cX9_fits 36 = .ok (.ireturn, 1) := by decide +kernel
theorem dX9_fits_37 : decode cX9_fits 37 = .ok (.iconst 0, 1) := by decide +kernel
theorem dX9_fits_38 : decode cX9_fits 38 = .ok (.istore 6, 2) := by decide +kernel
theorem dX9_fits_40 : decode cX9_fits 40 = .ok (.iload 6, 2) := by decide +kernel
theorem dX9_fits_42 : decode cX9_fits 42 = .ok (.iconst 3, 1) := by decide +kernel
theorem dX9_fits_43 : decode cX9_fits 43 = .ok (.if_icmp .ge 53, 3) := by decide +kernel
theorem dX9_fits_46 : decode cX9_fits 46 = .ok (.aload_n 0, 1) := by decide +kernel
theorem dX9_fits_47 : decode cX9_fits 47 = .ok (.getfield 45, 3) := by decide +kernel
theorem dX9_fits_50 : decode cX9_fits 50 = .ok (.iconst 3, 1) := by decide +kernel
theorem dX9_fits_51 : decode cX9_fits 51 = .ok (.iload 5, 2) := by decide +kernel
theorem dX9_fits_53 : decode cX9_fits 53 = .ok (.imul, 1) := by decide +kernel
theorem dX9_fits_54 : decode cX9_fits 54 = .ok (.iload 6, 2) := by decide +kernel
theorem dX9_fits_56 : decode cX9_fits 56 = .ok (.iadd, 1) := by decide +kernel
theorem dX9_fits_57 : decode cX9_fits 57 = .ok (.iaload, 1) := by decide +kernel
theorem dX9_fits_58 : decode cX9_fits 58 = .ok (.iconst (-1), 1) := by decide +kernel
theorem dX9_fits_59 : decode cX9_fits 59 = .ok (.if_icmp .eq 31, 3) := by decide +kernel
theorem dX9_fits_62 : decode cX9_fits 62 = .ok (.aload_n 0, 1) := by decide +kernel
theorem dX9_fits_63 : decode cX9_fits 63 = .ok (.getfield 45, 3) := by decide +kernel
theorem dX9_fits_66 : decode cX9_fits 66 = .ok (.iconst 3, 1) := by decide +kernel
theorem dX9_fits_67 : decode cX9_fits 67 = .ok (.iload 5, 2) := by decide +kernel
theorem dX9_fits_69 : decode cX9_fits 69 = .ok (.imul, 1) := by decide +kernel
theorem dX9_fits_70 : decode cX9_fits 70 = .ok (.iload 6, 2) := by decide +kernel
theorem dX9_fits_72 : decode cX9_fits 72 = .ok (.iadd, 1) := by decide +kernel
theorem dX9_fits_73 : decode cX9_fits 73 = .ok (.iaload, 1) := by decide +kernel
theorem dX9_fits_74 : decode cX9_fits 74 = .ok (.aload_n 0, 1) := by decide +kernel
theorem dX9_fits_75 : decode cX9_fits 75 = .ok (.getfield 20, 3) := by decide +kernel
theorem dX9_fits_78 : decode cX9_fits 78 = .ok (.iconst 3, 1) := by decide +kernel
theorem dX9_fits_79 : decode cX9_fits 79 = .ok (.iload_n 3, 1) := by decide +kernel
theorem dX9_fits_80 : decode cX9_fits 80 = .ok (.imul, 1) := by decide +kernel
theorem dX9_fits_81 : decode cX9_fits 81 = .ok (.iload 6, 2) := by decide +kernel
theorem dX9_fits_83 : decode cX9_fits 83 = .ok (.iadd, 1) := by decide +kernel
theorem dX9_fits_84 : decode cX9_fits 84 = .ok (.iaload, 1) := by decide +kernel
theorem dX9_fits_85 : decode cX9_fits 85 = .ok (.if_icmp .eq 5, 3) := by decide +kernel
theorem dX9_fits_88 : decode cX9_fits 88 = .ok (.iconst 0, 1) := by decide +kernel
theorem dX9_fits_89 : decode cX9_fits 89 = .ok (.ireturn, 1) := by decide +kernel
theorem dX9_fits_90 : decode cX9_fits 90 = .ok (.iinc 6 1, 3) := by decide +kernel
theorem dX9_fits_93 : decode cX9_fits 93 = .ok (.goto (-53), 3) := by decide +kernel
theorem dX9_fits_96 : decode cX9_fits 96 = .ok (.iconst 0, 1) := by decide +kernel
theorem dX9_fits_97 : decode cX9_fits 97 = .ok (.istore 6, 2) := by decide +kernel
theorem dX9_fits_99 : decode cX9_fits 99 = .ok (.iload 6, 2) := by decide +kernel
theorem dX9_fits_101 : decode cX9_fits 101 = .ok (.aload_n 0, 1) := by decide +kernel
theorem dX9_fits_102 : decode cX9_fits 102 = .ok (.getfield 105, 3) := by decide +kernel
theorem dX9_fits_105 : decode cX9_fits 105 = .ok (.if_icmp .ge 121, 3) := by decide +kernel
theorem dX9_fits_108 : decode cX9_fits 108 = .ok (.aload_n 0, 1) := by decide +kernel
theorem dX9_fits_109 : decode cX9_fits 109 = .ok (.getfield 48, 3) := by decide +kernel
theorem dX9_fits_112 : decode cX9_fits 112 = .ok (.iload 5, 2) := by decide +kernel
theorem dX9_fits_114 : decode cX9_fits 114 = .ok (.baload, 1) := by decide +kernel
theorem dX9_fits_115 : decode cX9_fits 115 = .ok (.ifCond .eq 111, 3) := by decide +kernel
theorem dX9_fits_118 : decode cX9_fits 118 = .ok (.aload_n 0, 1) := by decide +kernel
theorem dX9_fits_119 : decode cX9_fits 119 = .ok (.getfield 26, 3) := by decide +kernel
theorem dX9_fits_122 : decode cX9_fits 122 = .ok (.iload 6, 2) := by decide +kernel
theorem dX9_fits_124 : decode cX9_fits 124 = .ok (.iaload, 1) := by decide +kernel
theorem dX9_fits_125 : decode cX9_fits 125 = .ok (.iload 4, 2) := by decide +kernel
theorem dX9_fits_127 : decode cX9_fits 127 = .ok (.if_icmp .gt 67, 3) := by decide +kernel
theorem dX9_fits_130 : decode cX9_fits 130 = .ok (.aload_n 0, 1) := by decide +kernel
theorem dX9_fits_131 : decode cX9_fits 131 = .ok (.getfield 17, 3) := by decide +kernel
theorem dX9_fits_134 : decode cX9_fits 134 = .ok (.iload 6, 2) := by decide +kernel
theorem dX9_fits_136 : decode cX9_fits 136 = .ok (.iaload, 1) := by decide +kernel
theorem dX9_fits_137 : decode cX9_fits 137 = .ok (.aload_n 0, 1) := by decide +kernel
theorem dX9_fits_138 : decode cX9_fits 138 = .ok (.getfield 17, 3) := by decide +kernel
theorem dX9_fits_141 : decode cX9_fits 141 = .ok (.iload_n 3, 1) := by decide +kernel
theorem dX9_fits_142 : decode cX9_fits 142 = .ok (.iaload, 1) := by decide +kernel
theorem dX9_fits_143 : decode cX9_fits 143 = .ok (.if_icmp .ne 51, 3) := by decide +kernel
theorem dX9_fits_146 : decode cX9_fits 146 = .ok (.aload_n 0, 1) := by decide +kernel
theorem dX9_fits_147 : decode cX9_fits 147 = .ok (.getfield 20, 3) := by decide +kernel
theorem dX9_fits_150 : decode cX9_fits 150 = .ok (.iconst 3, 1) := by decide +kernel
theorem dX9_fits_151 : decode cX9_fits 151 = .ok (.iload 6, 2) := by decide +kernel
theorem dX9_fits_153 : decode cX9_fits 153 = .ok (.imul, 1) := by decide +kernel
theorem dX9_fits_154 : decode cX9_fits 154 = .ok (.iaload, 1) := by decide +kernel
theorem dX9_fits_155 : decode cX9_fits 155 = .ok (.aload_n 0, 1) := by decide +kernel
theorem dX9_fits_156 : decode cX9_fits 156 = .ok (.getfield 20, 3) := by decide +kernel
theorem dX9_fits_159 : decode cX9_fits 159 = .ok (.iconst 3, 1) := by decide +kernel
theorem dX9_fits_160 : decode cX9_fits 160 = .ok (.iload_n 3, 1) := by decide +kernel
theorem dX9_fits_161 : decode cX9_fits 161 = .ok (.imul, 1) := by decide +kernel
theorem dX9_fits_162 : decode cX9_fits 162 = .ok (.iaload, 1) := by decide +kernel
theorem dX9_fits_163 : decode cX9_fits 163 = .ok (.if_icmp .ne 31, 3) := by decide +kernel
theorem dX9_fits_166 : decode cX9_fits 166 = .ok (.aload_n 0, 1) := by decide +kernel
theorem dX9_fits_167 : decode cX9_fits 167 = .ok (.getfield 20, 3) := by decide +kernel
theorem dX9_fits_170 : decode cX9_fits 170 = .ok (.iconst 3, 1) := by decide +kernel
theorem dX9_fits_171 : decode cX9_fits 171 = .ok (.iload 6, 2) := by decide +kernel
theorem dX9_fits_173 : decode cX9_fits 173 = .ok (.imul, 1) := by decide +kernel
theorem dX9_fits_174 : decode cX9_fits 174 = .ok (.iconst 1, 1) := by decide +kernel
theorem dX9_fits_175 : decode cX9_fits 175 = .ok (.iadd, 1) := by decide +kernel
theorem dX9_fits_176 : decode cX9_fits 176 = .ok (.iaload, 1) := by decide +kernel
theorem dX9_fits_177 : decode cX9_fits 177 = .ok (.aload_n 0, 1) := by decide +kernel
theorem dX9_fits_178 : decode cX9_fits 178 = .ok (.getfield 20, 3) := by decide +kernel
theorem dX9_fits_181 : decode cX9_fits 181 = .ok (.iconst 3, 1) := by decide +kernel
theorem dX9_fits_182 : decode cX9_fits 182 = .ok (.iload_n 3, 1) := by decide +kernel
theorem dX9_fits_183 : decode cX9_fits 183 = .ok (.imul, 1) := by decide +kernel
theorem dX9_fits_184 : decode cX9_fits 184 = .ok (.iconst 1, 1) := by decide +kernel
theorem dX9_fits_185 : decode cX9_fits 185 = .ok (.iadd, 1) := by decide +kernel
theorem dX9_fits_186 : decode cX9_fits 186 = .ok (.iaload, 1) := by decide +kernel
theorem dX9_fits_187 : decode cX9_fits 187 = .ok (.if_icmp .ne 7, 3) := by decide +kernel
theorem dX9_fits_190 : decode cX9_fits 190 = .ok (.iconst 1, 1) := by decide +kernel
theorem dX9_fits_191 : decode cX9_fits 191 = .ok (.goto 4, 3) := by decide +kernel
theorem dX9_fits_194 : decode cX9_fits 194 = .ok (.iconst 0, 1) := by decide +kernel
theorem dX9_fits_195 : decode cX9_fits 195 = .ok (.istore 7, 2) := by decide +kernel
theorem dX9_fits_197 : decode cX9_fits 197 = .ok (.iload 7, 2) := by decide +kernel
theorem dX9_fits_199 : decode cX9_fits 199 = .ok (.ifCond .eq 21, 3) := by decide +kernel
theorem dX9_fits_202 : decode cX9_fits 202 = .ok (.aload_n 0, 1) := by decide +kernel
theorem dX9_fits_203 : decode cX9_fits 203 = .ok (.getfield 23, 3) := by decide +kernel
theorem dX9_fits_206 : decode cX9_fits 206 = .ok (.iload 6, 2) := by decide +kernel
theorem dX9_fits_208 : decode cX9_fits 208 = .ok (.iaload, 1) := by decide +kernel
theorem dX9_fits_209 : decode cX9_fits 209 = .ok (.aload_n 0, 1) := by decide +kernel
theorem dX9_fits_210 : decode cX9_fits 210 = .ok (.getfield 23, 3) := by decide +kernel
theorem dX9_fits_213 : decode cX9_fits 213 = .ok (.iload_n 3, 1) := by decide +kernel
theorem dX9_fits_214 : decode cX9_fits 214 = .ok (.iaload, 1) := by decide +kernel
theorem dX9_fits_215 : decode cX9_fits 215 = .ok (.if_icmp .ge 5, 3) := by decide +kernel
theorem dX9_fits_218 : decode cX9_fits 218 = .ok (.iconst 0, 1) := by decide +kernel
theorem dX9_fits_219 : decode cX9_fits 219 = .ok (.ireturn, 1) := by decide +kernel
theorem dX9_fits_220 : decode cX9_fits 220 = .ok (.iinc 6 1, 3) := by decide +kernel
theorem dX9_fits_223 : decode cX9_fits 223 = .ok (.goto (-124), 3) := by decide +kernel
theorem dX9_fits_226 : decode cX9_fits 226 = .ok (.iconst 1, 1) := by decide +kernel
theorem dX9_fits_227 : decode cX9_fits 227 = .ok (.ireturn, 1) := by decide +kernel
theorem dX9_before_0 : decode cX9_before 0 = .ok (.iload_n 2, 1) := by decide +kernel
theorem dX9_before_1 : decode cX9_before 1 = .ok (.iconst 1, 1) := by decide +kernel
theorem dX9_before_2 : decode cX9_before 2 = .ok (.isub, 1) := by decide +kernel
theorem dX9_before_3 : decode cX9_before 3 = .ok (.istore_n 3, 1) := by decide +kernel
theorem dX9_before_4 : decode cX9_before 4 = .ok (.iload_n 3, 1) := by decide +kernel
theorem dX9_before_5 : decode cX9_before 5 = .ok (.ifCond .lt 23, 3) := by decide +kernel
theorem dX9_before_8 : decode cX9_before 8 = .ok (.aload_n 0, 1) := by decide +kernel
theorem dX9_before_9 : decode cX9_before 9 = .ok (.getfield 38, 3) := by decide +kernel
theorem dX9_before_12 : decode cX9_before 12 = .ok (.bipush 6, 2) := by decide +kernel
theorem dX9_before_14 : decode cX9_before 14 = .ok (.iload_n 1, 1) := by decide +kernel
theorem dX9_before_15 : decode cX9_before 15 = .ok (.imul, 1) := by decide +kernel
theorem dX9_before_16 : decode cX9_before 16 = .ok (.iload_n 3, 1) := by decide +kernel
theorem dX9_before_17 : decode cX9_before 17 = .ok (.iadd, 1) := by decide +kernel
theorem dX9_before_18 : decode cX9_before 18 = .ok (.baload, 1) := by decide +kernel
theorem dX9_before_19 : decode cX9_before 19 = .ok (.ifCond .eq 9, 3) := by decide +kernel
theorem dX9_before_22 : decode cX9_before 22 = .ok (.iinc 3 (-1), 3) := by decide +kernel
theorem dX9_before_25 : decode cX9_before 25 = .ok (.goto (-21), 3) := by decide +kernel
theorem dX9_before_28 : decode cX9_before 28 = .ok (.iload_n 3, 1) := by decide +kernel
theorem dX9_before_29 : decode cX9_before 29 = .ok (.ireturn, 1) := by decide +kernel
theorem dX9_finds_0 : decode cX9_finds 0 = .ok (.aload_n 0, 1) := by decide +kernel
theorem dX9_finds_1 : decode cX9_finds 1 = .ok (.aload_n 0, 1) := by decide +kernel
theorem dX9_finds_2 : decode cX9_finds 2 = .ok (.iload_n 1, 1) := by decide +kernel
theorem dX9_finds_3 : decode cX9_finds 3 = .ok (.invokevirtual 233, 3) := by decide +kernel
theorem dX9_finds_6 : decode cX9_finds 6 = .ok (.ifCond .ne 7, 3) := by decide +kernel
theorem dX9_finds_9 : decode cX9_finds 9 = .ok (.iconst 1, 1) := by decide +kernel
theorem dX9_finds_10 : decode cX9_finds 10 = .ok (.goto 4, 3) := by decide +kernel
theorem dX9_finds_13 : decode cX9_finds 13 = .ok (.iconst 0, 1) := by decide +kernel
theorem dX9_finds_14 : decode cX9_finds 14 = .ok (.putfield 99, 3) := by decide +kernel
theorem dX9_finds_17 : decode cX9_finds 17 = .ok (.aload_n 0, 1) := by decide +kernel
theorem dX9_finds_18 : decode cX9_finds 18 = .ok (.getfield 99, 3) := by decide +kernel
theorem dX9_finds_21 : decode cX9_finds 21 = .ok (.ifCond .le 5, 3) := by decide +kernel
theorem dX9_finds_24 : decode cX9_finds 24 = .ok (.iconst 0, 1) := by decide +kernel
theorem dX9_finds_25 : decode cX9_finds 25 = .ok (.ireturn, 1) := by decide +kernel
theorem dX9_finds_26 : decode cX9_finds 26 = .ok (.aload_n 0, 1) := by decide +kernel
theorem dX9_finds_27 : decode cX9_finds 27 = .ok (.iload_n 1, 1) := by decide +kernel
theorem dX9_finds_28 : decode cX9_finds 28 = .ok (.iload_n 2, 1) := by decide +kernel
theorem dX9_finds_29 : decode cX9_finds 29 = .ok (.invokevirtual 236, 3) := by decide +kernel
theorem dX9_finds_32 : decode cX9_finds 32 = .ok (.aload_n 0, 1) := by decide +kernel
theorem dX9_finds_33 : decode cX9_finds 33 = .ok (.getfield 212, 3) := by decide +kernel
theorem dX9_finds_36 : decode cX9_finds 36 = .ok (.ireturn, 1) := by decide +kernel
theorem dX9_found_0 : decode cX9_found 0 = .ok (.aload_n 0, 1) := by decide +kernel
theorem dX9_found_1 : decode cX9_found 1 = .ok (.aload_n 0, 1) := by decide +kernel
theorem dX9_found_2 : decode cX9_found 2 = .ok (.iload_n 1, 1) := by decide +kernel
theorem dX9_found_3 : decode cX9_found 3 = .ok (.invokevirtual 233, 3) := by decide +kernel
theorem dX9_found_6 : decode cX9_found 6 = .ok (.ifCond .ne 7, 3) := by decide +kernel
theorem dX9_found_9 : decode cX9_found 9 = .ok (.iconst 1, 1) := by decide +kernel
theorem dX9_found_10 : decode cX9_found 10 = .ok (.goto 4, 3) := by decide +kernel
theorem dX9_found_13 : decode cX9_found 13 = .ok (.iconst 0, 1) := by decide +kernel
theorem dX9_found_14 : decode cX9_found 14 = .ok (.putfield 99, 3) := by decide +kernel
theorem dX9_found_17 : decode cX9_found 17 = .ok (.aload_n 0, 1) := by decide +kernel
theorem dX9_found_18 : decode cX9_found 18 = .ok (.getfield 99, 3) := by decide +kernel
theorem dX9_found_21 : decode cX9_found 21 = .ok (.ifCond .le 5, 3) := by decide +kernel
theorem dX9_found_24 : decode cX9_found 24 = .ok (.iconst 0, 1) := by decide +kernel
theorem dX9_found_25 : decode cX9_found 25 = .ok (.ireturn, 1) := by decide +kernel
theorem dX9_found_26 : decode cX9_found 26 = .ok (.aload_n 0, 1) := by decide +kernel
theorem dX9_found_27 : decode cX9_found 27 = .ok (.iload_n 1, 1) := by decide +kernel
theorem dX9_found_28 : decode cX9_found 28 = .ok (.iload_n 2, 1) := by decide +kernel
theorem dX9_found_29 : decode cX9_found 29 = .ok (.invokevirtual 236, 3) := by decide +kernel
theorem dX9_found_32 : decode cX9_found 32 = .ok (.iload_n 3, 1) := by decide +kernel
theorem dX9_found_33 : decode cX9_found 33 = .ok (.ifCond .lt 20, 3) := by decide +kernel
theorem dX9_found_36 : decode cX9_found 36 = .ok (.iload_n 3, 1) := by decide +kernel
theorem dX9_found_37 : decode cX9_found 37 = .ok (.aload_n 0, 1) := by decide +kernel
theorem dX9_found_38 : decode cX9_found 38 = .ok (.getfield 212, 3) := by decide +kernel
theorem dX9_found_41 : decode cX9_found 41 = .ok (.if_icmp .ge 12, 3) := by decide +kernel
theorem dX9_found_44 : decode cX9_found 44 = .ok (.aload_n 0, 1) := by decide +kernel
theorem dX9_found_45 : decode cX9_found 45 = .ok (.getfield 87, 3) := by decide +kernel
theorem dX9_found_48 : decode cX9_found 48 = .ok (.iload_n 3, 1) := by decide +kernel
theorem dX9_found_49 : decode cX9_found 49 = .ok (.iaload, 1) := by decide +kernel
theorem dX9_found_50 : decode cX9_found 50 = .ok (.goto 4, 3) := by decide +kernel
theorem dX9_found_53 : decode cX9_found 53 = .ok (.iconst (-1), 1) := by decide +kernel
theorem dX9_found_54 : decode cX9_found 54 = .ok (.ireturn, 1) := by decide +kernel
theorem dX9_isLater_0 : decode cX9_isLater 0 = .ok (.iload_n 2, 1) := by decide +kernel
theorem dX9_isLater_1 : decode cX9_isLater 1 = .ok (.iconst (-1), 1) := by decide +kernel
theorem dX9_isLater_2 : decode cX9_isLater 2 = .ok (.if_icmp .eq 38, 3) := by decide +kernel
theorem dX9_isLater_5 : decode cX9_isLater 5 = .ok (.aload_n 0, 1) := by decide +kernel
theorem dX9_isLater_6 : decode cX9_isLater 6 = .ok (.getfield 23, 3) := by decide +kernel
theorem dX9_isLater_9 : decode cX9_isLater 9 = .ok (.iload_n 1, 1) := by decide +kernel
theorem dX9_isLater_10 : decode cX9_isLater 10 = .ok (.iaload, 1) := by decide +kernel
theorem dX9_isLater_11 : decode cX9_isLater 11 = .ok (.aload_n 0, 1) := by decide +kernel
theorem dX9_isLater_12 : decode cX9_isLater 12 = .ok (.getfield 23, 3) := by decide +kernel
theorem dX9_isLater_15 : decode cX9_isLater 15 = .ok (.iload_n 2, 1) := by decide +kernel
theorem dX9_isLater_16 : decode cX9_isLater 16 = .ok (.iaload, 1) := by decide +kernel
theorem dX9_isLater_17 : decode cX9_isLater 17 = .ok (.if_icmp .gt 23, 3) := by decide +kernel
theorem dX9_isLater_20 : decode cX9_isLater 20 = .ok (.aload_n 0, 1) := by decide +kernel
theorem dX9_isLater_21 : decode cX9_isLater 21 = .ok (.getfield 23, 3) := by decide +kernel
theorem dX9_isLater_24 : decode cX9_isLater 24 = .ok (.iload_n 1, 1) := by decide +kernel
theorem dX9_isLater_25 : decode cX9_isLater 25 = .ok (.iaload, 1) := by decide +kernel
theorem dX9_isLater_26 : decode cX9_isLater 26 = .ok (.aload_n 0, 1) := by decide +kernel
theorem dX9_isLater_27 : decode cX9_isLater 27 = .ok (.getfield 23, 3) := by decide +kernel
theorem dX9_isLater_30 : decode cX9_isLater 30 = .ok (.iload_n 2, 1) := by decide +kernel
theorem dX9_isLater_31 : decode cX9_isLater 31 = .ok (.iaload, 1) := by decide +kernel
theorem dX9_isLater_32 : decode cX9_isLater 32 = .ok (.if_icmp .ne 12, 3) := by decide +kernel
theorem dX9_isLater_35 : decode cX9_isLater 35 = .ok (.iload_n 1, 1) := by decide +kernel
theorem dX9_isLater_36 : decode cX9_isLater 36 = .ok (.iload_n 2, 1) := by decide +kernel
theorem dX9_isLater_37 : decode cX9_isLater 37 = .ok (.if_icmp .le 7, 3) := by decide +kernel
theorem dX9_isLater_40 : decode cX9_isLater 40 = .ok (.iconst 1, 1) := by decide +kernel
theorem dX9_isLater_41 : decode cX9_isLater 41 = .ok (.goto 4, 3) := by decide +kernel
theorem dX9_isLater_44 : decode cX9_isLater 44 = .ok (.iconst 0, 1) := by decide +kernel
theorem dX9_isLater_45 : decode cX9_isLater 45 = .ok (.ireturn, 1) := by decide +kernel
theorem dX9_exempt_0 : decode cX9_exempt 0 = .ok (.aload_n 0, 1) := by decide +kernel
theorem dX9_exempt_1 : decode cX9_exempt 1 = .ok (.aload_n 0, 1) := by decide +kernel
theorem dX9_exempt_2 : decode cX9_exempt 2 = .ok (.iload_n 1, 1) := by decide +kernel
theorem dX9_exempt_3 : decode cX9_exempt 3 = .ok (.invokevirtual 233, 3) := by decide +kernel
theorem dX9_exempt_6 : decode cX9_exempt 6 = .ok (.ifCond .ne 7, 3) := by decide +kernel
theorem dX9_exempt_9 : decode cX9_exempt 9 = .ok (.iconst 1, 1) := by decide +kernel
theorem dX9_exempt_10 : decode cX9_exempt 10 = .ok (.goto 28, 3) := by decide +kernel
theorem dX9_exempt_13 : decode cX9_exempt 13 = .ok (.iload_n 2, 1) := by decide +kernel
theorem dX9_exempt_14 : decode cX9_exempt 14 = .ok (.iconst 0, 1) := by decide +kernel
theorem dX9_exempt_15 : decode cX9_exempt 15 = .ok (.bipush 30, 2) := by decide +kernel
theorem dX9_exempt_17 : decode cX9_exempt 17 = .ok (.invokestatic 116, 3) := by decide +kernel
theorem dX9_exempt_20 : decode cX9_exempt 20 = .ok (.ifCond .eq 13, 3) := by decide +kernel
theorem dX9_exempt_23 : decode cX9_exempt 23 = .ok (.iload_n 3, 1) := by decide +kernel
theorem dX9_exempt_24 : decode cX9_exempt 24 = .ok (.iconst 0, 1) := by decide +kernel
theorem dX9_exempt_25 : decode cX9_exempt 25 = .ok (.ldc 123, 2) := by decide +kernel
theorem dX9_exempt_27 : decode cX9_exempt 27 = .ok (.invokestatic 116, 3) := by decide +kernel
theorem dX9_exempt_30 : decode cX9_exempt 30 = .ok (.ifCond .ne 7, 3) := by decide +kernel
theorem dX9_exempt_33 : decode cX9_exempt 33 = .ok (.iconst 2, 1) := by decide +kernel
theorem dX9_exempt_34 : decode cX9_exempt 34 = .ok (.goto 4, 3) := by decide +kernel
theorem dX9_exempt_37 : decode cX9_exempt 37 = .ok (.iconst 0, 1) := by decide +kernel
theorem dX9_exempt_38 : decode cX9_exempt 38 = .ok (.putfield 99, 3) := by decide +kernel
theorem dX9_exempt_41 : decode cX9_exempt 41 = .ok (.aload_n 0, 1) := by decide +kernel
theorem dX9_exempt_42 : decode cX9_exempt 42 = .ok (.getfield 99, 3) := by decide +kernel
theorem dX9_exempt_45 : decode cX9_exempt 45 = .ok (.ifCond .le 5, 3) := by decide +kernel
theorem dX9_exempt_48 : decode cX9_exempt 48 = .ok (.iconst 0, 1) := by decide +kernel
theorem dX9_exempt_49 : decode cX9_exempt 49 = .ok (.ireturn, 1) := by decide +kernel
theorem dX9_exempt_50 : decode cX9_exempt 50 = .ok (.aload_n 0, 1) := by decide +kernel
theorem dX9_exempt_51 : decode cX9_exempt 51 = .ok (.getfield 243, 3) := by decide +kernel
theorem dX9_exempt_54 : decode cX9_exempt 54 = .ok (.bipush 40, 2) := by decide +kernel
theorem dX9_exempt_56 : decode cX9_exempt 56 = .ok (.if_icmp .ne 5, 3) := by decide +kernel
theorem dX9_exempt_59 : decode cX9_exempt 59 = .ok (.iconst (-1), 1) := by decide +kernel
theorem dX9_exempt_60 : decode cX9_exempt 60 = .ok (.ireturn, 1) := by decide +kernel
theorem dX9_exempt_61 : decode cX9_exempt 61 = .ok (.aload_n 0, 1) := by decide +kernel
theorem dX9_exempt_62 : decode cX9_exempt 62 = .ok (.getfield 63, 3) := by decide +kernel
theorem dX9_exempt_65 : decode cX9_exempt 65 = .ok (.aload_n 0, 1) := by decide +kernel
theorem dX9_exempt_66 : decode cX9_exempt 66 = .ok (.getfield 243, 3) := by decide +kernel
theorem dX9_exempt_69 : decode cX9_exempt 69 = .ok (.iload_n 1, 1) := by decide +kernel
theorem dX9_exempt_70 : decode cX9_exempt 70 = .ok (.iastore, 1) := by decide +kernel
theorem dX9_exempt_71 : decode cX9_exempt 71 = .ok (.aload_n 0, 1) := by decide +kernel
theorem dX9_exempt_72 : decode cX9_exempt 72 = .ok (.getfield 66, 3) := by decide +kernel
theorem dX9_exempt_75 : decode cX9_exempt 75 = .ok (.aload_n 0, 1) := by decide +kernel
theorem dX9_exempt_76 : decode cX9_exempt 76 = .ok (.getfield 243, 3) := by decide +kernel
theorem dX9_exempt_79 : decode cX9_exempt 79 = .ok (.iload_n 2, 1) := by decide +kernel
theorem dX9_exempt_80 : decode cX9_exempt 80 = .ok (.iastore, 1) := by decide +kernel
theorem dX9_exempt_81 : decode cX9_exempt 81 = .ok (.aload_n 0, 1) := by decide +kernel
theorem dX9_exempt_82 : decode cX9_exempt 82 = .ok (.getfield 69, 3) := by decide +kernel
theorem dX9_exempt_85 : decode cX9_exempt 85 = .ok (.aload_n 0, 1) := by decide +kernel
theorem dX9_exempt_86 : decode cX9_exempt 86 = .ok (.getfield 243, 3) := by decide +kernel
theorem dX9_exempt_89 : decode cX9_exempt 89 = .ok (.iload_n 3, 1) := by decide +kernel
theorem dX9_exempt_90 : decode cX9_exempt 90 = .ok (.iastore, 1) := by decide +kernel
theorem dX9_exempt_91 : decode cX9_exempt 91 = .ok (.aload_n 0, 1) := by decide +kernel
theorem dX9_exempt_92 : decode cX9_exempt 92 = .ok (.dup, 1) := by decide +kernel
theorem dX9_exempt_93 : decode cX9_exempt 93 = .ok (.getfield 243, 3) := by decide +kernel
theorem dX9_exempt_96 : decode cX9_exempt 96 = .ok (.iconst 1, 1) := by decide +kernel
theorem dX9_exempt_97 : decode cX9_exempt 97 = .ok (.iadd, 1) := by decide +kernel
theorem dX9_exempt_98 : decode cX9_exempt 98 = .ok (.putfield 243, 3) := by decide +kernel
theorem dX9_exempt_101 : decode cX9_exempt 101 = .ok (.aload_n 0, 1) := by decide +kernel
theorem dX9_exempt_102 : decode cX9_exempt 102 = .ok (.getfield 243, 3) := by decide +kernel
theorem dX9_exempt_105 : decode cX9_exempt 105 = .ok (.ireturn, 1) := by decide +kernel
theorem dX9_isExempt_0 : decode cX9_isExempt 0 = .ok (.iconst 0, 1) := by decide +kernel
theorem dX9_isExempt_1 : decode cX9_isExempt 1 = .ok (.istore_n 3, 1) := by decide +kernel
theorem dX9_isExempt_2 : decode cX9_isExempt 2 = .ok (.iload_n 3, 1) := by decide +kernel
theorem dX9_isExempt_3 : decode cX9_isExempt 3 = .ok (.aload_n 0, 1) := by decide +kernel
theorem dX9_isExempt_4 : decode cX9_isExempt 4 = .ok (.getfield 243, 3) := by decide +kernel
theorem dX9_isExempt_7 : decode cX9_isExempt 7 = .ok (.if_icmp .ge 53, 3) := by decide +kernel
theorem dX9_isExempt_10 : decode cX9_isExempt 10 = .ok (.aload_n 0, 1) := by decide +kernel
theorem dX9_isExempt_11 : decode cX9_isExempt 11 = .ok (.getfield 63, 3) := by decide +kernel
theorem dX9_isExempt_14 : decode cX9_isExempt 14 = .ok (.iload_n 3, 1) := by decide +kernel
theorem dX9_isExempt_15 : decode cX9_isExempt 15 = .ok (.iaload, 1) := by decide +kernel
theorem dX9_isExempt_16 : decode cX9_isExempt 16 = .ok (.iload_n 1, 1) := by decide +kernel
theorem dX9_isExempt_17 : decode cX9_isExempt 17 = .ok (.if_icmp .ne 37, 3) := by decide +kernel
theorem dX9_isExempt_20 : decode cX9_isExempt 20 = .ok (.aload_n 0, 1) := by decide +kernel
theorem dX9_isExempt_21 : decode cX9_isExempt 21 = .ok (.getfield 66, 3) := by decide +kernel
theorem dX9_isExempt_24 : decode cX9_isExempt 24 = .ok (.iload_n 3, 1) := by decide +kernel
theorem dX9_isExempt_25 : decode cX9_isExempt 25 = .ok (.iaload, 1) := by decide +kernel
theorem dX9_isExempt_26 : decode cX9_isExempt 26 = .ok (.aload_n 0, 1) := by decide +kernel
theorem dX9_isExempt_27 : decode cX9_isExempt 27 = .ok (.getfield 20, 3) := by decide +kernel
theorem dX9_isExempt_30 : decode cX9_isExempt 30 = .ok (.iconst 3, 1) := by decide +kernel
theorem dX9_isExempt_31 : decode cX9_isExempt 31 = .ok (.iload_n 2, 1) := by decide +kernel
theorem dX9_isExempt_32 : decode cX9_isExempt 32 = .ok (.imul, 1) := by decide +kernel
theorem dX9_isExempt_33 : decode cX9_isExempt 33 = .ok (.iaload, 1) := by decide +kernel
theorem dX9_isExempt_34 : decode cX9_isExempt 34 = .ok (.if_icmp .ne 20, 3) := by decide +kernel
theorem dX9_isExempt_37 : decode cX9_isExempt 37 = .ok (.aload_n 0, 1) := by decide +kernel
theorem dX9_isExempt_38 : decode cX9_isExempt 38 = .ok (.getfield 23, 3) := by decide +kernel
theorem dX9_isExempt_41 : decode cX9_isExempt 41 = .ok (.iload_n 2, 1) := by decide +kernel
theorem dX9_isExempt_42 : decode cX9_isExempt 42 = .ok (.iaload, 1) := by decide +kernel
theorem dX9_isExempt_43 : decode cX9_isExempt 43 = .ok (.aload_n 0, 1) := by decide +kernel
theorem dX9_isExempt_44 : decode cX9_isExempt 44 = .ok (.getfield 69, 3) := by decide +kernel
theorem dX9_isExempt_47 : decode cX9_isExempt 47 = .ok (.iload_n 3, 1) := by decide +kernel
theorem dX9_isExempt_48 : decode cX9_isExempt 48 = .ok (.iaload, 1) := by decide +kernel
theorem dX9_isExempt_49 : decode cX9_isExempt 49 = .ok (.if_icmp .gt 5, 3) := by decide +kernel
theorem dX9_isExempt_52 : decode cX9_isExempt 52 = .ok (.iconst 1, 1) := by decide +kernel
theorem dX9_isExempt_53 : decode cX9_isExempt 53 = .ok (.ireturn, 1) := by decide +kernel
theorem dX9_isExempt_54 : decode cX9_isExempt 54 = .ok (.iinc 3 1, 3) := by decide +kernel
theorem dX9_isExempt_57 : decode cX9_isExempt 57 = .ok (.goto (-55), 3) := by decide +kernel
theorem dX9_isExempt_60 : decode cX9_isExempt 60 = .ok (.iconst 0, 1) := by decide +kernel
theorem dX9_isExempt_61 : decode cX9_isExempt 61 = .ok (.ireturn, 1) := by decide +kernel
theorem dX9_gap_0 : decode cX9_gap 0 = .ok (.aload_n 0, 1) := by decide +kernel
theorem dX9_gap_1 : decode cX9_gap 1 = .ok (.iload_n 1, 1) := by decide +kernel
theorem dX9_gap_2 : decode cX9_gap 2 = .ok (.iconst 0, 1) := by decide +kernel
theorem dX9_gap_3 : decode cX9_gap 3 = .ok (.ldc 115, 2) := by decide +kernel
theorem dX9_gap_5 : decode cX9_gap 5 = .ok (.invokestatic 116, 3) := by decide +kernel
theorem dX9_gap_8 : decode cX9_gap 8 = .ok (.ifCond .ne 7, 3) := by decide +kernel
theorem dX9_gap_11 : decode cX9_gap 11 = .ok (.iconst 1, 1) := by decide +kernel
theorem dX9_gap_12 : decode cX9_gap 12 = .ok (.goto 4, 3) := by decide +kernel
theorem dX9_gap_15 : decode cX9_gap 15 = .ok (.iconst 0, 1) := by decide +kernel
theorem dX9_gap_16 : decode cX9_gap 16 = .ok (.putfield 99, 3) := by decide +kernel
theorem dX9_gap_19 : decode cX9_gap 19 = .ok (.aload_n 0, 1) := by decide +kernel
theorem dX9_gap_20 : decode cX9_gap 20 = .ok (.getfield 99, 3) := by decide +kernel
theorem dX9_gap_23 : decode cX9_gap 23 = .ok (.ifCond .ne 8, 3) := by decide +kernel
theorem dX9_gap_26 : decode cX9_gap 26 = .ok (.aload_n 0, 1) := by decide +kernel
theorem dX9_gap_27 : decode cX9_gap 27 = .ok (.iload_n 1, 1) := by decide +kernel
theorem dX9_gap_28 : decode cX9_gap 28 = .ok (.putfield 7, 3) := by decide +kernel
theorem dX9_gap_31 : decode cX9_gap 31 = .ok (.return_, 1) := by decide +kernel
theorem dX9_gather_0 : decode cX9_gather 0 = .ok (.aload_n 0, 1) := by decide +kernel
theorem dX9_gather_1 : decode cX9_gather 1 = .ok (.iconst 0, 1) := by decide +kernel
theorem dX9_gather_2 : decode cX9_gather 2 = .ok (.putfield 249, 3) := by decide +kernel
theorem dX9_gather_5 : decode cX9_gather 5 = .ok (.iconst 0, 1) := by decide +kernel
theorem dX9_gather_6 : decode cX9_gather 6 = .ok (.istore_n 1, 1) := by decide +kernel
theorem dX9_gather_7 : decode cX9_gather 7 = .ok (.iload_n 1, 1) := by decide +kernel
theorem dX9_gather_8 : decode cX9_gather 8 = .ok (.aload_n 0, 1) := by decide +kernel
theorem dX9_gather_9 : decode cX9_gather 9 = .ok (.getfield 102, 3) := by decide +kernel
theorem dX9_gather_12 : decode cX9_gather 12 = .ok (.if_icmp .ge 99, 3) := by decide +kernel
theorem dX9_gather_15 : decode cX9_gather 15 = .ok (.aload_n 0, 1) := by decide +kernel
theorem dX9_gather_16 : decode cX9_gather 16 = .ok (.iload_n 1, 1) := by decide +kernel
theorem dX9_gather_17 : decode cX9_gather 17 = .ok (.aload_n 0, 1) := by decide +kernel
theorem dX9_gather_18 : decode cX9_gather 18 = .ok (.getfield 120, 3) := by decide +kernel
theorem dX9_gather_21 : decode cX9_gather 21 = .ok (.invokevirtual 236, 3) := by decide +kernel
theorem dX9_gather_24 : decode cX9_gather 24 = .ok (.iconst 0, 1) := by decide +kernel
theorem dX9_gather_25 : decode cX9_gather 25 = .ok (.istore_n 2, 1) := by decide +kernel
theorem dX9_gather_26 : decode cX9_gather 26 = .ok (.iload_n 2, 1) := by decide +kernel
theorem dX9_gather_27 : decode cX9_gather 27 = .ok (.aload_n 0, 1) := by decide +kernel
theorem dX9_gather_28 : decode cX9_gather 28 = .ok (.getfield 212, 3) := by decide +kernel
theorem dX9_gather_31 : decode cX9_gather 31 = .ok (.if_icmp .ge 74, 3) := by decide +kernel
theorem dX9_gather_34 : decode cX9_gather 34 = .ok (.aload_n 0, 1) := by decide +kernel
theorem dX9_gather_35 : decode cX9_gather 35 = .ok (.iload_n 1, 1) := by decide +kernel
theorem dX9_gather_36 : decode cX9_gather 36 = .ok (.aload_n 0, 1) := by decide +kernel
theorem dX9_gather_37 : decode cX9_gather 37 = .ok (.getfield 87, 3) := by decide +kernel
theorem dX9_gather_40 : decode cX9_gather 40 = .ok (.iload_n 2, 1) := by decide +kernel
theorem dX9_gather_41 : decode cX9_gather 41 = .ok (.iaload, 1) := by decide +kernel
theorem dX9_gather_42 : decode cX9_gather 42 = .ok (.invokevirtual 246, 3) := by decide +kernel
theorem dX9_gather_45 : decode cX9_gather 45 = .ok (.ifCond .eq 6, 3) := by decide +kernel
theorem dX9_gather_48 : decode cX9_gather 48 = .ok (.goto 51, 3) := by decide +kernel
theorem dX9_gather_51 : decode cX9_gather 51 = .ok (.aload_n 0, 1) := by decide +kernel
theorem dX9_gather_52 : decode cX9_gather 52 = .ok (.getfield 90, 3) := by decide +kernel
theorem dX9_gather_55 : decode cX9_gather 55 = .ok (.aload_n 0, 1) := by decide +kernel
theorem dX9_gather_56 : decode cX9_gather 56 = .ok (.getfield 249, 3) := by decide +kernel
theorem dX9_gather_59 : decode cX9_gather 59 = .ok (.iload_n 1, 1) := by decide +kernel
theorem dX9_gather_60 : decode cX9_gather 60 = .ok (.iastore, 1) := by decide +kernel
theorem dX9_gather_61 : decode cX9_gather 61 = .ok (.aload_n 0, 1) := by decide +kernel
theorem dX9_gather_62 : decode cX9_gather 62 = .ok (.getfield 93, 3) := by decide +kernel
theorem dX9_gather_65 : decode cX9_gather 65 = .ok (.aload_n 0, 1) := by decide +kernel
theorem dX9_gather_66 : decode cX9_gather 66 = .ok (.getfield 249, 3) := by decide +kernel
theorem dX9_gather_69 : decode cX9_gather 69 = .ok (.aload_n 0, 1) := by decide +kernel
theorem dX9_gather_70 : decode cX9_gather 70 = .ok (.getfield 87, 3) := by decide +kernel
theorem dX9_gather_73 : decode cX9_gather 73 = .ok (.iload_n 2, 1) := by decide +kernel
theorem dX9_gather_74 : decode cX9_gather 74 = .ok (.iaload, 1) := by decide +kernel
theorem dX9_gather_75 : decode cX9_gather 75 = .ok (.iastore, 1) := by decide +kernel
theorem dX9_gather_76 : decode cX9_gather 76 = .ok (.aload_n 0, 1) := by decide +kernel
theorem dX9_gather_77 : decode cX9_gather 77 = .ok (.getfield 96, 3) := by decide +kernel
theorem dX9_gather_80 : decode cX9_gather 80 = .ok (.aload_n 0, 1) := by decide +kernel
theorem dX9_gather_81 : decode cX9_gather 81 = .ok (.getfield 249, 3) := by decide +kernel
theorem dX9_gather_84 : decode cX9_gather 84 = .ok (.aload_n 0, 1) := by decide +kernel
theorem dX9_gather_85 : decode cX9_gather 85 = .ok (.getfield 249, 3) := by decide +kernel
theorem dX9_gather_88 : decode cX9_gather 88 = .ok (.iastore, 1) := by decide +kernel
theorem dX9_gather_89 : decode cX9_gather 89 = .ok (.aload_n 0, 1) := by decide +kernel
theorem dX9_gather_90 : decode cX9_gather 90 = .ok (.dup, 1) := by decide +kernel
theorem dX9_gather_91 : decode cX9_gather 91 = .ok (.getfield 249, 3) := by decide +kernel
theorem dX9_gather_94 : decode cX9_gather 94 = .ok (.iconst 1, 1) := by decide +kernel
theorem dX9_gather_95 : decode cX9_gather 95 = .ok (.iadd, 1) := by decide +kernel
theorem dX9_gather_96 : decode cX9_gather 96 = .ok (.putfield 249, 3) := by decide +kernel
theorem dX9_gather_99 : decode cX9_gather 99 = .ok (.iinc 2 1, 3) := by decide +kernel
theorem dX9_gather_102 : decode cX9_gather 102 = .ok (.goto (-76), 3) := by decide +kernel
theorem dX9_gather_105 : decode cX9_gather 105 = .ok (.iinc 1 1, 3) := by decide +kernel
theorem dX9_gather_108 : decode cX9_gather 108 = .ok (.goto (-101), 3) := by decide +kernel
theorem dX9_gather_111 : decode cX9_gather 111 = .ok (.iconst 0, 1) := by decide +kernel
theorem dX9_gather_112 : decode cX9_gather 112 = .ok (.istore_n 1, 1) := by decide +kernel
theorem dX9_gather_113 : decode cX9_gather 113 = .ok (.iload_n 1, 1) := by decide +kernel
theorem dX9_gather_114 : decode cX9_gather 114 = .ok (.aload_n 0, 1) := by decide +kernel
theorem dX9_gather_115 : decode cX9_gather 115 = .ok (.getfield 249, 3) := by decide +kernel
theorem dX9_gather_118 : decode cX9_gather 118 = .ok (.if_icmp .ge 100, 3) := by decide +kernel
theorem dX9_gather_121 : decode cX9_gather 121 = .ok (.iconst 0, 1) := by decide +kernel
theorem dX9_gather_122 : decode cX9_gather 122 = .ok (.istore_n 2, 1) := by decide +kernel
theorem dX9_gather_123 : decode cX9_gather 123 = .ok (.iload_n 2, 1) := by decide +kernel
theorem dX9_gather_124 : decode cX9_gather 124 = .ok (.iload_n 1, 1) := by decide +kernel
theorem dX9_gather_125 : decode cX9_gather 125 = .ok (.if_icmp .ge 87, 3) := by decide +kernel
theorem dX9_gather_128 : decode cX9_gather 128 = .ok (.aload_n 0, 1) := by decide +kernel
theorem dX9_gather_129 : decode cX9_gather 129 = .ok (.getfield 96, 3) := by decide +kernel
theorem dX9_gather_132 : decode cX9_gather 132 = .ok (.iload_n 1, 1) := by decide +kernel
theorem dX9_gather_133 : decode cX9_gather 133 = .ok (.iaload, 1) := by decide +kernel
theorem dX9_gather_134 : decode cX9_gather 134 = .ok (.istore_n 3, 1) := by decide +kernel
theorem dX9_gather_135 : decode cX9_gather 135 = .ok (.aload_n 0, 1) := by decide +kernel
theorem dX9_gather_136 : decode cX9_gather 136 = .ok (.getfield 96, 3) := by decide +kernel
theorem dX9_gather_139 : decode cX9_gather 139 = .ok (.iload_n 2, 1) := by decide +kernel
theorem dX9_gather_140 : decode cX9_gather 140 = .ok (.iaload, 1) := by decide +kernel
theorem dX9_gather_141 : decode cX9_gather 141 = .ok (.istore 4, 2) := by decide +kernel
theorem dX9_gather_143 : decode cX9_gather 143 = .ok (.iload_n 3, 1) := by decide +kernel
theorem dX9_gather_144 : decode cX9_gather 144 = .ok (.iload 4, 2) := by decide +kernel
theorem dX9_gather_146 : decode cX9_gather 146 = .ok (.if_icmp .eq 60, 3) := by decide +kernel
theorem dX9_gather_149 : decode cX9_gather 149 = .ok (.aload_n 0, 1) := by decide +kernel
theorem dX9_gather_150 : decode cX9_gather 150 = .ok (.aload_n 0, 1) := by decide +kernel
theorem dX9_gather_151 : decode cX9_gather 151 = .ok (.getfield 93, 3) := by decide +kernel
theorem dX9_gather_154 : decode cX9_gather 154 = .ok (.iload_n 1, 1) := by decide +kernel
theorem dX9_gather_155 : decode cX9_gather 155 = .ok (.iaload, 1) := by decide +kernel
theorem dX9_gather_156 : decode cX9_gather 156 = .ok (.aload_n 0, 1) := by decide +kernel
theorem dX9_gather_157 : decode cX9_gather 157 = .ok (.getfield 93, 3) := by decide +kernel
theorem dX9_gather_160 : decode cX9_gather 160 = .ok (.iload_n 2, 1) := by decide +kernel
theorem dX9_gather_161 : decode cX9_gather 161 = .ok (.iaload, 1) := by decide +kernel
theorem dX9_gather_162 : decode cX9_gather 162 = .ok (.invokevirtual 252, 3) := by decide +kernel
theorem dX9_gather_165 : decode cX9_gather 165 = .ok (.ifCond .ne 6, 3) := by decide +kernel
theorem dX9_gather_168 : decode cX9_gather 168 = .ok (.goto 38, 3) := by decide +kernel
theorem dX9_gather_171 : decode cX9_gather 171 = .ok (.iconst 0, 1) := by decide +kernel
theorem dX9_gather_172 : decode cX9_gather 172 = .ok (.istore 5, 2) := by decide +kernel
theorem dX9_gather_174 : decode cX9_gather 174 = .ok (.iload 5, 2) := by decide +kernel
theorem dX9_gather_176 : decode cX9_gather 176 = .ok (.iload_n 1, 1) := by decide +kernel
theorem dX9_gather_177 : decode cX9_gather 177 = .ok (.if_icmp .gt 29, 3) := by decide +kernel
theorem dX9_gather_180 : decode cX9_gather 180 = .ok (.aload_n 0, 1) := by decide +kernel
theorem dX9_gather_181 : decode cX9_gather 181 = .ok (.getfield 96, 3) := by decide +kernel
theorem dX9_gather_184 : decode cX9_gather 184 = .ok (.iload 5, 2) := by decide +kernel
theorem dX9_gather_186 : decode cX9_gather 186 = .ok (.iaload, 1) := by decide +kernel
theorem dX9_gather_187 : decode cX9_gather 187 = .ok (.iload_n 3, 1) := by decide +kernel
theorem dX9_gather_188 : decode cX9_gather 188 = .ok (.if_icmp .ne 12, 3) := by decide +kernel
theorem dX9_gather_191 : decode cX9_gather 191 = .ok (.aload_n 0, 1) := by decide +kernel
theorem dX9_gather_192 : decode cX9_gather 192 = .ok (.getfield 96, 3) := by decide +kernel
theorem dX9_gather_195 : decode cX9_gather 195 = .ok (.iload 5, 2) := by decide +kernel
theorem dX9_gather_197 : decode cX9_gather 197 = .ok (.iload 4, 2) := by decide +kernel
theorem dX9_gather_199 : decode cX9_gather 199 = .ok (.iastore, 1) := by decide +kernel
theorem dX9_gather_200 : decode cX9_gather 200 = .ok (.iinc 5 1, 3) := by decide +kernel
theorem dX9_gather_203 : decode cX9_gather 203 = .ok (.goto (-29), 3) := by decide +kernel
theorem dX9_gather_206 : decode cX9_gather 206 = .ok (.iinc 2 1, 3) := by decide +kernel
theorem dX9_gather_209 : decode cX9_gather 209 = .ok (.goto (-86), 3) := by decide +kernel
theorem dX9_gather_212 : decode cX9_gather 212 = .ok (.iinc 1 1, 3) := by decide +kernel
theorem dX9_gather_215 : decode cX9_gather 215 = .ok (.goto (-102), 3) := by decide +kernel
theorem dX9_gather_218 : decode cX9_gather 218 = .ok (.return_, 1) := by decide +kernel
theorem dX9_cases_0 : decode cX9_cases 0 = .ok (.aload_n 0, 1) := by decide +kernel
theorem dX9_cases_1 : decode cX9_cases 1 = .ok (.iconst 0, 1) := by decide +kernel
theorem dX9_cases_2 : decode cX9_cases 2 = .ok (.putfield 99, 3) := by decide +kernel
theorem dX9_cases_5 : decode cX9_cases 5 = .ok (.aload_n 0, 1) := by decide +kernel
theorem dX9_cases_6 : decode cX9_cases 6 = .ok (.invokevirtual 255, 3) := by decide +kernel
theorem dX9_cases_9 : decode cX9_cases 9 = .ok (.iconst 0, 1) := by decide +kernel
theorem dX9_cases_10 : decode cX9_cases 10 = .ok (.istore_n 1, 1) := by decide +kernel
theorem dX9_cases_11 : decode cX9_cases 11 = .ok (.iconst 0, 1) := by decide +kernel
theorem dX9_cases_12 : decode cX9_cases 12 = .ok (.istore_n 2, 1) := by decide +kernel
theorem dX9_cases_13 : decode cX9_cases 13 = .ok (.iload_n 2, 1) := by decide +kernel
theorem dX9_cases_14 : decode cX9_cases 14 = .ok (.aload_n 0, 1) := by decide +kernel
theorem dX9_cases_15 : decode cX9_cases 15 = .ok (.getfield 249, 3) := by decide +kernel
theorem dX9_cases_18 : decode cX9_cases 18 = .ok (.if_icmp .ge 64, 3) := by decide +kernel
theorem dX9_cases_21 : decode cX9_cases 21 = .ok (.iconst 1, 1) := by decide +kernel
theorem dX9_cases_22 : decode cX9_cases 22 = .ok (.istore_n 3, 1) := by decide +kernel
theorem dX9_cases_23 : decode cX9_cases 23 = .ok (.iconst 0, 1) := by decide +kernel
theorem dX9_cases_24 : decode cX9_cases 24 = .ok (.istore 4, 2) := by decide +kernel
theorem dX9_cases_26 : decode cX9_cases 26 = .ok (.iload 4, 2) := by decide +kernel
theorem dX9_cases_28 : decode cX9_cases 28 = .ok (.iload_n 2, 1) := by decide +kernel
theorem dX9_cases_29 : decode cX9_cases 29 = .ok (.if_icmp .ge 35, 3) := by decide +kernel
theorem dX9_cases_32 : decode cX9_cases 32 = .ok (.iload_n 3, 1) := by decide +kernel
theorem dX9_cases_33 : decode cX9_cases 33 = .ok (.ifCond .eq 23, 3) := by decide +kernel
theorem dX9_cases_36 : decode cX9_cases 36 = .ok (.aload_n 0, 1) := by decide +kernel
theorem dX9_cases_37 : decode cX9_cases 37 = .ok (.getfield 96, 3) := by decide +kernel
theorem dX9_cases_40 : decode cX9_cases 40 = .ok (.iload 4, 2) := by decide +kernel
theorem dX9_cases_42 : decode cX9_cases 42 = .ok (.iaload, 1) := by decide +kernel
theorem dX9_cases_43 : decode cX9_cases 43 = .ok (.aload_n 0, 1) := by decide +kernel
theorem dX9_cases_44 : decode cX9_cases 44 = .ok (.getfield 96, 3) := by decide +kernel
theorem dX9_cases_47 : decode cX9_cases 47 = .ok (.iload_n 2, 1) := by decide +kernel
theorem dX9_cases_48 : decode cX9_cases 48 = .ok (.iaload, 1) := by decide +kernel
theorem dX9_cases_49 : decode cX9_cases 49 = .ok (.if_icmp .eq 7, 3) := by decide +kernel
theorem dX9_cases_52 : decode cX9_cases 52 = .ok (.iconst 1, 1) := by decide +kernel
theorem dX9_cases_53 : decode cX9_cases 53 = .ok (.goto 4, 3) := by decide +kernel
theorem dX9_cases_56 : decode cX9_cases 56 = .ok (.iconst 0, 1) := by decide +kernel
theorem dX9_cases_57 : decode cX9_cases 57 = .ok (.istore_n 3, 1) := by decide +kernel
theorem dX9_cases_58 : decode cX9_cases 58 = .ok (.iinc 4 1, 3) := by decide +kernel
theorem dX9_cases_61 : decode cX9_cases 61 = .ok (.goto (-35), 3) := by decide +kernel
theorem dX9_cases_64 : decode cX9_cases 64 = .ok (.iload_n 1, 1) := by decide +kernel
theorem dX9_cases_65 : decode cX9_cases 65 = .ok (.iload_n 3, 1) := by decide +kernel
theorem dX9_cases_66 : decode cX9_cases 66 = .ok (.ifCond .eq 7, 3) := by decide +kernel
theorem dX9_cases_69 : decode cX9_cases 69 = .ok (.iconst 1, 1) := by decide +kernel
theorem dX9_cases_70 : decode cX9_cases 70 = .ok (.goto 4, 3) := by decide +kernel
theorem dX9_cases_73 : decode cX9_cases 73 = .ok (.iconst 0, 1) := by decide +kernel
theorem dX9_cases_74 : decode cX9_cases 74 = .ok (.iadd, 1) := by decide +kernel
theorem dX9_cases_75 : decode cX9_cases 75 = .ok (.istore_n 1, 1) := by decide +kernel
theorem dX9_cases_76 : decode cX9_cases 76 = .ok (.iinc 2 1, 3) := by decide +kernel
theorem dX9_cases_79 : decode cX9_cases 79 = .ok (.goto (-66), 3) := by decide +kernel
theorem dX9_cases_82 : decode cX9_cases 82 = .ok (.iload_n 1, 1) := by decide +kernel
theorem dX9_cases_83 : decode cX9_cases 83 = .ok (.ireturn, 1) := by decide +kernel
theorem dX9_joined_0 : decode cX9_joined 0 = .ok (.aload_n 0, 1) := by decide +kernel
theorem dX9_joined_1 : decode cX9_joined 1 = .ok (.aload_n 0, 1) := by decide +kernel
theorem dX9_joined_2 : decode cX9_joined 2 = .ok (.iload_n 1, 1) := by decide +kernel
theorem dX9_joined_3 : decode cX9_joined 3 = .ok (.invokevirtual 233, 3) := by decide +kernel
theorem dX9_joined_6 : decode cX9_joined 6 = .ok (.ifCond .eq 11, 3) := by decide +kernel
theorem dX9_joined_9 : decode cX9_joined 9 = .ok (.aload_n 0, 1) := by decide +kernel
theorem dX9_joined_10 : decode cX9_joined 10 = .ok (.iload_n 2, 1) := by decide +kernel
theorem dX9_joined_11 : decode cX9_joined 11 = .ok (.invokevirtual 127, 3) := by decide +kernel
theorem dX9_joined_14 : decode cX9_joined 14 = .ok (.ifCond .ne 7, 3) := by decide +kernel
theorem dX9_joined_17 : decode cX9_joined 17 = .ok (.iconst 1, 1) := by decide +kernel
theorem dX9_joined_18 : decode cX9_joined 18 = .ok (.goto 4, 3) := by decide +kernel
theorem dX9_joined_21 : decode cX9_joined 21 = .ok (.iconst 0, 1) := by decide +kernel
theorem dX9_joined_22 : decode cX9_joined 22 = .ok (.putfield 99, 3) := by decide +kernel
theorem dX9_joined_25 : decode cX9_joined 25 = .ok (.aload_n 0, 1) := by decide +kernel
theorem dX9_joined_26 : decode cX9_joined 26 = .ok (.getfield 99, 3) := by decide +kernel
theorem dX9_joined_29 : decode cX9_joined 29 = .ok (.ifCond .le 5, 3) := by decide +kernel
theorem dX9_joined_32 : decode cX9_joined 32 = .ok (.iconst 0, 1) := by decide +kernel
theorem dX9_joined_33 : decode cX9_joined 33 = .ok (.ireturn, 1) := by decide +kernel
theorem dX9_joined_34 : decode cX9_joined 34 = .ok (.aload_n 0, 1) := by decide +kernel
theorem dX9_joined_35 : decode cX9_joined 35 = .ok (.invokevirtual 255, 3) := by decide +kernel
theorem dX9_joined_38 : decode cX9_joined 38 = .ok (.iconst 0, 1) := by decide +kernel
theorem dX9_joined_39 : decode cX9_joined 39 = .ok (.istore_n 3, 1) := by decide +kernel
theorem dX9_joined_40 : decode cX9_joined 40 = .ok (.iconst 0, 1) := by decide +kernel
theorem dX9_joined_41 : decode cX9_joined 41 = .ok (.istore 4, 2) := by decide +kernel
theorem dX9_joined_43 : decode cX9_joined 43 = .ok (.iload 4, 2) := by decide +kernel
theorem dX9_joined_45 : decode cX9_joined 45 = .ok (.aload_n 0, 1) := by decide +kernel
theorem dX9_joined_46 : decode cX9_joined 46 = .ok (.getfield 249, 3) := by decide +kernel
theorem dX9_joined_49 : decode cX9_joined 49 = .ok (.if_icmp .ge 77, 3) := by decide +kernel
theorem dX9_joined_52 : decode cX9_joined 52 = .ok (.aload_n 0, 1) := by decide +kernel
theorem dX9_joined_53 : decode cX9_joined 53 = .ok (.getfield 90, 3) := by decide +kernel
theorem dX9_joined_56 : decode cX9_joined 56 = .ok (.iload 4, 2) := by decide +kernel
theorem dX9_joined_58 : decode cX9_joined 58 = .ok (.iaload, 1) := by decide +kernel
theorem dX9_joined_59 : decode cX9_joined 59 = .ok (.iload_n 1, 1) := by decide +kernel
theorem dX9_joined_60 : decode cX9_joined 60 = .ok (.if_icmp .ne 60, 3) := by decide +kernel
theorem dX9_joined_63 : decode cX9_joined 63 = .ok (.aload_n 0, 1) := by decide +kernel
theorem dX9_joined_64 : decode cX9_joined 64 = .ok (.getfield 93, 3) := by decide +kernel
theorem dX9_joined_67 : decode cX9_joined 67 = .ok (.iload 4, 2) := by decide +kernel
theorem dX9_joined_69 : decode cX9_joined 69 = .ok (.iaload, 1) := by decide +kernel
theorem dX9_joined_70 : decode cX9_joined 70 = .ok (.iload_n 2, 1) := by decide +kernel
theorem dX9_joined_71 : decode cX9_joined 71 = .ok (.if_icmp .eq 6, 3) := by decide +kernel
theorem dX9_joined_74 : decode cX9_joined 74 = .ok (.goto 46, 3) := by decide +kernel
theorem dX9_joined_77 : decode cX9_joined 77 = .ok (.iconst 0, 1) := by decide +kernel
theorem dX9_joined_78 : decode cX9_joined 78 = .ok (.istore 5, 2) := by decide +kernel
theorem dX9_joined_80 : decode cX9_joined 80 = .ok (.iload 5, 2) := by decide +kernel
theorem dX9_joined_82 : decode cX9_joined 82 = .ok (.aload_n 0, 1) := by decide +kernel
theorem dX9_joined_83 : decode cX9_joined 83 = .ok (.getfield 249, 3) := by decide +kernel
theorem dX9_joined_86 : decode cX9_joined 86 = .ok (.if_icmp .ge 34, 3) := by decide +kernel
theorem dX9_joined_89 : decode cX9_joined 89 = .ok (.iload_n 3, 1) := by decide +kernel
theorem dX9_joined_90 : decode cX9_joined 90 = .ok (.aload_n 0, 1) := by decide +kernel
theorem dX9_joined_91 : decode cX9_joined 91 = .ok (.getfield 96, 3) := by decide +kernel
theorem dX9_joined_94 : decode cX9_joined 94 = .ok (.iload 5, 2) := by decide +kernel
theorem dX9_joined_96 : decode cX9_joined 96 = .ok (.iaload, 1) := by decide +kernel
theorem dX9_joined_97 : decode cX9_joined 97 = .ok (.aload_n 0, 1) := by decide +kernel
theorem dX9_joined_98 : decode cX9_joined 98 = .ok (.getfield 96, 3) := by decide +kernel
theorem dX9_joined_101 : decode cX9_joined 101 = .ok (.iload 4, 2) := by decide +kernel
theorem dX9_joined_103 : decode cX9_joined 103 = .ok (.iaload, 1) := by decide +kernel
theorem dX9_joined_104 : decode cX9_joined 104 = .ok (.if_icmp .ne 7, 3) := by decide +kernel
theorem dX9_joined_107 : decode cX9_joined 107 = .ok (.iconst 1, 1) := by decide +kernel
theorem dX9_joined_108 : decode cX9_joined 108 = .ok (.goto 4, 3) := by decide +kernel
theorem dX9_joined_111 : decode cX9_joined 111 = .ok (.iconst 0, 1) := by decide +kernel
theorem dX9_joined_112 : decode cX9_joined 112 = .ok (.iadd, 1) := by decide +kernel
theorem dX9_joined_113 : decode cX9_joined 113 = .ok (.istore_n 3, 1) := by decide +kernel
theorem dX9_joined_114 : decode cX9_joined 114 = .ok (.iinc 5 1, 3) := by decide +kernel
theorem dX9_joined_117 : decode cX9_joined 117 = .ok (.goto (-37), 3) := by decide +kernel
theorem dX9_joined_120 : decode cX9_joined 120 = .ok (.iinc 4 1, 3) := by decide +kernel
theorem dX9_joined_123 : decode cX9_joined 123 = .ok (.goto (-80), 3) := by decide +kernel
theorem dX9_joined_126 : decode cX9_joined 126 = .ok (.iload_n 3, 1) := by decide +kernel
theorem dX9_joined_127 : decode cX9_joined 127 = .ok (.ireturn, 1) := by decide +kernel
theorem dX9_cost_0 : decode cX9_cost 0 = .ok (.aload_n 0, 1) := by decide +kernel
theorem dX9_cost_1 : decode cX9_cost 1 = .ok (.aload_n 0, 1) := by decide +kernel
theorem dX9_cost_2 : decode cX9_cost 2 = .ok (.iload_n 1, 1) := by decide +kernel
theorem dX9_cost_3 : decode cX9_cost 3 = .ok (.invokevirtual 233, 3) := by decide +kernel
theorem dX9_cost_6 : decode cX9_cost 6 = .ok (.ifCond .ne 7, 3) := by decide +kernel
theorem dX9_cost_9 : decode cX9_cost 9 = .ok (.iconst 1, 1) := by decide +kernel
theorem dX9_cost_10 : decode cX9_cost 10 = .ok (.goto 4, 3) := by decide +kernel
theorem dX9_cost_13 : decode cX9_cost 13 = .ok (.iconst 0, 1) := by decide +kernel
theorem dX9_cost_14 : decode cX9_cost 14 = .ok (.putfield 99, 3) := by decide +kernel
theorem dX9_cost_17 : decode cX9_cost 17 = .ok (.aload_n 0, 1) := by decide +kernel
theorem dX9_cost_18 : decode cX9_cost 18 = .ok (.getfield 99, 3) := by decide +kernel
theorem dX9_cost_21 : decode cX9_cost 21 = .ok (.ifCond .le 5, 3) := by decide +kernel
theorem dX9_cost_24 : decode cX9_cost 24 = .ok (.iconst 0, 1) := by decide +kernel
theorem dX9_cost_25 : decode cX9_cost 25 = .ok (.ireturn, 1) := by decide +kernel
theorem dX9_cost_26 : decode cX9_cost 26 = .ok (.iconst (-1), 1) := by decide +kernel
theorem dX9_cost_27 : decode cX9_cost 27 = .ok (.istore_n 3, 1) := by decide +kernel
theorem dX9_cost_28 : decode cX9_cost 28 = .ok (.iconst 0, 1) := by decide +kernel
theorem dX9_cost_29 : decode cX9_cost 29 = .ok (.istore 4, 2) := by decide +kernel
theorem dX9_cost_31 : decode cX9_cost 31 = .ok (.iload 4, 2) := by decide +kernel
theorem dX9_cost_33 : decode cX9_cost 33 = .ok (.aload_n 0, 1) := by decide +kernel
theorem dX9_cost_34 : decode cX9_cost 34 = .ok (.getfield 35, 3) := by decide +kernel
theorem dX9_cost_37 : decode cX9_cost 37 = .ok (.iload_n 1, 1) := by decide +kernel
theorem dX9_cost_38 : decode cX9_cost 38 = .ok (.iaload, 1) := by decide +kernel
theorem dX9_cost_39 : decode cX9_cost 39 = .ok (.if_icmp .ge 85, 3) := by decide +kernel
theorem dX9_cost_42 : decode cX9_cost 42 = .ok (.iconst 0, 1) := by decide +kernel
theorem dX9_cost_43 : decode cX9_cost 43 = .ok (.istore 5, 2) := by decide +kernel
theorem dX9_cost_45 : decode cX9_cost 45 = .ok (.aload_n 0, 1) := by decide +kernel
theorem dX9_cost_46 : decode cX9_cost 46 = .ok (.getfield 38, 3) := by decide +kernel
theorem dX9_cost_49 : decode cX9_cost 49 = .ok (.bipush 6, 2) := by decide +kernel
theorem dX9_cost_51 : decode cX9_cost 51 = .ok (.iload_n 1, 1) := by decide +kernel
theorem dX9_cost_52 : decode cX9_cost 52 = .ok (.imul, 1) := by decide +kernel
theorem dX9_cost_53 : decode cX9_cost 53 = .ok (.iload 4, 2) := by decide +kernel
theorem dX9_cost_55 : decode cX9_cost 55 = .ok (.iadd, 1) := by decide +kernel
theorem dX9_cost_56 : decode cX9_cost 56 = .ok (.baload, 1) := by decide +kernel
theorem dX9_cost_57 : decode cX9_cost 57 = .ok (.ifCond .eq 6, 3) := by decide +kernel
theorem dX9_cost_60 : decode cX9_cost 60 = .ok (.goto 58, 3) := by decide +kernel
theorem dX9_cost_63 : decode cX9_cost 63 = .ok (.iconst 0, 1) := by decide +kernel
theorem dX9_cost_64 : decode cX9_cost 64 = .ok (.istore 6, 2) := by decide +kernel
theorem dX9_cost_66 : decode cX9_cost 66 = .ok (.iload 6, 2) := by decide +kernel
theorem dX9_cost_68 : decode cX9_cost 68 = .ok (.aload_n 0, 1) := by decide +kernel
theorem dX9_cost_69 : decode cX9_cost 69 = .ok (.getfield 105, 3) := by decide +kernel
theorem dX9_cost_72 : decode cX9_cost 72 = .ok (.if_icmp .ge 32, 3) := by decide +kernel
theorem dX9_cost_75 : decode cX9_cost 75 = .ok (.iload 5, 2) := by decide +kernel
theorem dX9_cost_77 : decode cX9_cost 77 = .ok (.aload_n 0, 1) := by decide +kernel
theorem dX9_cost_78 : decode cX9_cost 78 = .ok (.iload_n 1, 1) := by decide +kernel
theorem dX9_cost_79 : decode cX9_cost 79 = .ok (.iload 4, 2) := by decide +kernel
theorem dX9_cost_81 : decode cX9_cost 81 = .ok (.iload 6, 2) := by decide +kernel
theorem dX9_cost_83 : decode cX9_cost 83 = .ok (.iload_n 2, 1) := by decide +kernel
theorem dX9_cost_84 : decode cX9_cost 84 = .ok (.invokevirtual 215, 3) := by decide +kernel
theorem dX9_cost_87 : decode cX9_cost 87 = .ok (.ifCond .eq 7, 3) := by decide +kernel
theorem dX9_cost_90 : decode cX9_cost 90 = .ok (.iconst 1, 1) := by decide +kernel
theorem dX9_cost_91 : decode cX9_cost 91 = .ok (.goto 4, 3) := by decide +kernel
theorem dX9_cost_94 : decode cX9_cost 94 = .ok (.iconst 0, 1) := by decide +kernel
theorem dX9_cost_95 : decode cX9_cost 95 = .ok (.iadd, 1) := by decide +kernel
theorem dX9_cost_96 : decode cX9_cost 96 = .ok (.istore 5, 2) := by decide +kernel
theorem dX9_cost_98 : decode cX9_cost 98 = .ok (.iinc 6 1, 3) := by decide +kernel
theorem dX9_cost_101 : decode cX9_cost 101 = .ok (.goto (-35), 3) := by decide +kernel
theorem dX9_cost_104 : decode cX9_cost 104 = .ok (.iload_n 3, 1) := by decide +kernel
theorem dX9_cost_105 : decode cX9_cost 105 = .ok (.iconst (-1), 1) := by decide +kernel
theorem dX9_cost_106 : decode cX9_cost 106 = .ok (.if_icmp .eq 9, 3) := by decide +kernel
theorem dX9_cost_109 : decode cX9_cost 109 = .ok (.iload 5, 2) := by decide +kernel
theorem dX9_cost_111 : decode cX9_cost 111 = .ok (.iload_n 3, 1) := by decide +kernel
theorem dX9_cost_112 : decode cX9_cost 112 = .ok (.if_icmp .ge 6, 3) := by decide +kernel
theorem dX9_cost_115 : decode cX9_cost 115 = .ok (.iload 5, 2) := by decide +kernel
theorem dX9_cost_117 : decode cX9_cost 117 = .ok (.istore_n 3, 1) := by decide +kernel
theorem dX9_cost_118 : decode cX9_cost 118 = .ok (.iinc 4 1, 3) := by decide +kernel
theorem dX9_cost_121 : decode cX9_cost 121 = .ok (.goto (-90), 3) := by decide +kernel
theorem dX9_cost_124 : decode cX9_cost 124 = .ok (.iload_n 3, 1) := by decide +kernel
theorem dX9_cost_125 : decode cX9_cost 125 = .ok (.ireturn, 1) := by decide +kernel
theorem dX9_count_0 : decode cX9_count 0 = .ok (.aload_n 0, 1) := by decide +kernel
theorem dX9_count_1 : decode cX9_count 1 = .ok (.iconst 0, 1) := by decide +kernel
theorem dX9_count_2 : decode cX9_count 2 = .ok (.putfield 99, 3) := by decide +kernel
theorem dX9_count_5 : decode cX9_count 5 = .ok (.iconst 0, 1) := by decide +kernel
theorem dX9_count_6 : decode cX9_count 6 = .ok (.istore_n 2, 1) := by decide +kernel
theorem dX9_count_7 : decode cX9_count 7 = .ok (.iload_n 1, 1) := by decide +kernel
theorem dX9_count_8 : decode cX9_count 8 = .ok (.tableswitch 153 0 7 #[48, 53, 58, 63, 68, 73, 78, 119], 48) := by decide +kernel
theorem dX9_count_56 : decode cX9_count 56 = .ok (.aload_n 0, 1) := by decide +kernel
theorem dX9_count_57 : decode cX9_count 57 = .ok (.getfield 120, 3) := by decide +kernel
theorem dX9_count_60 : decode cX9_count 60 = .ok (.ireturn, 1) := by decide +kernel
theorem dX9_count_61 : decode cX9_count 61 = .ok (.aload_n 0, 1) := by decide +kernel
theorem dX9_count_62 : decode cX9_count 62 = .ok (.getfield 105, 3) := by decide +kernel
theorem dX9_count_65 : decode cX9_count 65 = .ok (.ireturn, 1) := by decide +kernel
theorem dX9_count_66 : decode cX9_count 66 = .ok (.aload_n 0, 1) := by decide +kernel
theorem dX9_count_67 : decode cX9_count 67 = .ok (.getfield 124, 3) := by decide +kernel
theorem dX9_count_70 : decode cX9_count 70 = .ok (.ireturn, 1) := by decide +kernel
theorem dX9_count_71 : decode cX9_count 71 = .ok (.aload_n 0, 1) := by decide +kernel
theorem dX9_count_72 : decode cX9_count 72 = .ok (.getfield 102, 3) := by decide +kernel
theorem dX9_count_75 : decode cX9_count 75 = .ok (.ireturn, 1) := by decide +kernel
theorem dX9_count_76 : decode cX9_count 76 = .ok (.aload_n 0, 1) := by decide +kernel
theorem dX9_count_77 : decode cX9_count 77 = .ok (.getfield 243, 3) := by decide +kernel
theorem dX9_count_80 : decode cX9_count 80 = .ok (.ireturn, 1) := by decide +kernel
theorem dX9_count_81 : decode cX9_count 81 = .ok (.aload_n 0, 1) := by decide +kernel
theorem dX9_count_82 : decode cX9_count 82 = .ok (.getfield 7, 3) := by decide +kernel
theorem dX9_count_85 : decode cX9_count 85 = .ok (.ireturn, 1) := by decide +kernel
theorem dX9_count_86 : decode cX9_count 86 = .ok (.iconst 0, 1) := by decide +kernel
theorem dX9_count_87 : decode cX9_count 87 = .ok (.istore_n 3, 1) := by decide +kernel
theorem dX9_count_88 : decode cX9_count 88 = .ok (.iload_n 3, 1) := by decide +kernel
theorem dX9_count_89 : decode cX9_count 89 = .ok (.aload_n 0, 1) := by decide +kernel
theorem dX9_count_90 : decode cX9_count 90 = .ok (.getfield 105, 3) := by decide +kernel
theorem dX9_count_93 : decode cX9_count 93 = .ok (.if_icmp .ge 32, 3) := by decide +kernel
theorem dX9_count_96 : decode cX9_count 96 = .ok (.iload_n 2, 1) := by decide +kernel
theorem dX9_count_97 : decode cX9_count 97 = .ok (.aload_n 0, 1) := by decide +kernel
theorem dX9_count_98 : decode cX9_count 98 = .ok (.getfield 26, 3) := by decide +kernel
theorem dX9_count_101 : decode cX9_count 101 = .ok (.iload_n 3, 1) := by decide +kernel
theorem dX9_count_102 : decode cX9_count 102 = .ok (.iaload, 1) := by decide +kernel
theorem dX9_count_103 : decode cX9_count 103 = .ok (.aload_n 0, 1) := by decide +kernel
theorem dX9_count_104 : decode cX9_count 104 = .ok (.getfield 23, 3) := by decide +kernel
theorem dX9_count_107 : decode cX9_count 107 = .ok (.iload_n 3, 1) := by decide +kernel
theorem dX9_count_108 : decode cX9_count 108 = .ok (.iaload, 1) := by decide +kernel
theorem dX9_count_109 : decode cX9_count 109 = .ok (.if_icmp .le 7, 3) := by decide +kernel
theorem dX9_count_112 : decode cX9_count 112 = .ok (.iconst 1, 1) := by decide +kernel
theorem dX9_count_113 : decode cX9_count 113 = .ok (.goto 4, 3) := by decide +kernel
theorem dX9_count_116 : decode cX9_count 116 = .ok (.iconst 0, 1) := by decide +kernel
theorem dX9_count_117 : decode cX9_count 117 = .ok (.iadd, 1) := by decide +kernel
theorem dX9_count_118 : decode cX9_count 118 = .ok (.istore_n 2, 1) := by decide +kernel
theorem dX9_count_119 : decode cX9_count 119 = .ok (.iinc 3 1, 3) := by decide +kernel
theorem dX9_count_122 : decode cX9_count 122 = .ok (.goto (-34), 3) := by decide +kernel
theorem dX9_count_125 : decode cX9_count 125 = .ok (.iload_n 2, 1) := by decide +kernel
theorem dX9_count_126 : decode cX9_count 126 = .ok (.ireturn, 1) := by decide +kernel
theorem dX9_count_127 : decode cX9_count 127 = .ok (.iconst 0, 1) := by decide +kernel
theorem dX9_count_128 : decode cX9_count 128 = .ok (.istore_n 3, 1) := by decide +kernel
theorem dX9_count_129 : decode cX9_count 129 = .ok (.iload_n 3, 1) := by decide +kernel
theorem dX9_count_130 : decode cX9_count 130 = .ok (.aload_n 0, 1) := by decide +kernel
theorem dX9_count_131 : decode cX9_count 131 = .ok (.getfield 102, 3) := by decide +kernel
theorem dX9_count_134 : decode cX9_count 134 = .ok (.if_icmp .ge 25, 3) := by decide +kernel
theorem dX9_count_137 : decode cX9_count 137 = .ok (.aload_n 0, 1) := by decide +kernel
theorem dX9_count_138 : decode cX9_count 138 = .ok (.iload_n 3, 1) := by decide +kernel
theorem dX9_count_139 : decode cX9_count 139 = .ok (.aload_n 0, 1) := by decide +kernel
theorem dX9_count_140 : decode cX9_count 140 = .ok (.getfield 120, 3) := by decide +kernel
theorem dX9_count_143 : decode cX9_count 143 = .ok (.invokevirtual 236, 3) := by decide +kernel
theorem dX9_count_146 : decode cX9_count 146 = .ok (.iload_n 2, 1) := by decide +kernel
theorem dX9_count_147 : decode cX9_count 147 = .ok (.aload_n 0, 1) := by decide +kernel
theorem dX9_count_148 : decode cX9_count 148 = .ok (.getfield 212, 3) := by decide +kernel
theorem dX9_count_151 : decode cX9_count 151 = .ok (.iadd, 1) := by decide +kernel
theorem dX9_count_152 : decode cX9_count 152 = .ok (.istore_n 2, 1) := by decide +kernel
theorem dX9_count_153 : decode cX9_count 153 = .ok (.iinc 3 1, 3) := by decide +kernel
theorem dX9_count_156 : decode cX9_count 156 = .ok (.goto (-27), 3) := by decide +kernel
theorem dX9_count_159 : decode cX9_count 159 = .ok (.iload_n 2, 1) := by decide +kernel
theorem dX9_count_160 : decode cX9_count 160 = .ok (.ireturn, 1) := by decide +kernel
theorem dX9_count_161 : decode cX9_count 161 = .ok (.iconst (-1), 1) := by decide +kernel
theorem dX9_count_162 : decode cX9_count 162 = .ok (.ireturn, 1) := by decide +kernel
