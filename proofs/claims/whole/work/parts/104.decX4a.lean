theorem dX4_init_0 : decode cX4_init 0 = .ok (.aload_n 0, 1) := by decide +kernel
theorem dX4_init_1 : decode cX4_init 1 = .ok (.invokespecial 3, 3) := by decide +kernel
theorem dX4_init_4 : decode cX4_init 4 = .ok (.aload_n 0, 1) := by decide +kernel
theorem dX4_init_5 : decode cX4_init 5 = .ok (.iconst 3, 1) := by decide +kernel
theorem dX4_init_6 : decode cX4_init 6 = .ok (.putfield 9, 3) := by decide +kernel
theorem dX4_init_9 : decode cX4_init 9 = .ok (.aload_n 0, 1) := by decide +kernel
theorem dX4_init_10 : decode cX4_init 10 = .ok (.iconst 0, 1) := by decide +kernel
theorem dX4_init_11 : decode cX4_init 11 = .ok (.putfield 15, 3) := by decide +kernel
theorem dX4_init_14 : decode cX4_init 14 = .ok (.aload_n 0, 1) := by decide +kernel
theorem dX4_init_15 : decode cX4_init 15 = .ok (.iconst 0, 1) := by decide +kernel
theorem dX4_init_16 : decode cX4_init 16 = .ok (.putfield 18, 3) := by decide +kernel
theorem dX4_init_19 : decode cX4_init 19 = .ok (.return_, 1) := by decide +kernel
theorem dX4_turn_0 : decode cX4_turn 0 = .ok (.aload_n 0, 1) := by decide +kernel
theorem dX4_turn_1 : decode cX4_turn 1 = .ok (.iload_n 1, 1) := by decide +kernel
theorem dX4_turn_2 : decode cX4_turn 2 = .ok (.putfield 9, 3) := by decide +kernel
theorem dX4_turn_5 : decode cX4_turn 5 = .ok (.aload_n 0, 1) := by decide +kernel
theorem dX4_turn_6 : decode cX4_turn 6 = .ok (.iload_n 2, 1) := by decide +kernel
theorem dX4_turn_7 : decode cX4_turn 7 = .ok (.putfield 15, 3) := by decide +kernel
theorem dX4_turn_10 : decode cX4_turn 10 = .ok (.return_, 1) := by decide +kernel
theorem dX4_of_0 : decode cX4_of 0 = .ok (.aload_n 1, 1) := by decide +kernel
theorem dX4_of_1 : decode cX4_of 1 = .ok (.getfield 22, 3) := by decide +kernel
theorem dX4_of_4 : decode cX4_of 4 = .ok (.lconst 0, 1) := by decide +kernel
theorem dX4_of_5 : decode cX4_of 5 = .ok (.lcmp, 1) := by decide +kernel
theorem dX4_of_6 : decode cX4_of 6 = .ok (.ifCond .ne 5, 3) := by decide +kernel
theorem dX4_of_9 : decode cX4_of 9 = .ok (.lconst 0, 1) := by decide +kernel
theorem dX4_of_10 : decode cX4_of 10 = .ok (.lreturn, 1) := by decide +kernel
theorem dX4_of_11 : decode cX4_of 11 = .ok (.aload_n 1, 1) := by decide +kernel
theorem dX4_of_12 : decode cX4_of 12 = .ok (.getfield 22, 3) := by decide +kernel
theorem dX4_of_15 : decode cX4_of 15 = .ok (.lconst 0, 1) := by decide +kernel
theorem dX4_of_16 : decode cX4_of 16 = .ok (.lcmp, 1) := by decide +kernel
theorem dX4_of_17 : decode cX4_of 17 = .ok (.ifCond .ge 7, 3) := by decide +kernel
theorem dX4_of_20 : decode cX4_of 20 = .ok (.iconst 1, 1) := by decide +kernel
theorem dX4_of_21 : decode cX4_of 21 = .ok (.goto 4, 3) := by decide +kernel
theorem dX4_of_24 : decode cX4_of 24 = .ok (.iconst 0, 1) := by decide +kernel
theorem dX4_of_25 : decode cX4_of 25 = .ok (.istore_n 2, 1) := by decide +kernel
theorem dX4_of_26 : decode cX4_of 26 = .ok (.aload_n 1, 1) := by decide +kernel
theorem dX4_of_27 : decode cX4_of 27 = .ok (.getfield 22, 3) := by decide +kernel
theorem dX4_of_30 : decode cX4_of 30 = .ok (.invokestatic 28, 3) := by decide +kernel
theorem dX4_of_33 : decode cX4_of 33 = .ok (.lstore_n 3, 1) := by decide +kernel
theorem dX4_of_34 : decode cX4_of 34 = .ok (.aload_n 1, 1) := by decide +kernel
theorem dX4_of_35 : decode cX4_of 35 = .ok (.getfield 34, 3) := by decide +kernel
theorem dX4_of_38 : decode cX4_of 38 = .ok (.lstore 5, 2) := by decide +kernel
theorem dX4_of_40 : decode cX4_of 40 = .ok (.aload_n 1, 1) := by decide +kernel
theorem dX4_of_41 : decode cX4_of 41 = .ok (.getfield 37, 3) := by decide +kernel
theorem dX4_of_44 : decode cX4_of 44 = .ok (.istore 7, 2) := by decide +kernel
theorem dX4_of_46 : decode cX4_of 46 = .ok (.iconst 0, 1) := by decide +kernel
theorem dX4_of_47 : decode cX4_of 47 = .ok (.istore 8, 2) := by decide +kernel
theorem dX4_of_49 : decode cX4_of 49 = .ok (.iload 8, 2) := by decide +kernel
theorem dX4_of_51 : decode cX4_of 51 = .ok (.iconst 3, 1) := by decide +kernel
theorem dX4_of_52 : decode cX4_of 52 = .ok (.if_icmp .ge 31, 3) := by decide +kernel
theorem dX4_of_55 : decode cX4_of 55 = .ok (.lload_n 3, 1) := by decide +kernel
theorem dX4_of_56 : decode cX4_of 56 = .ok (.ldc2_w 40, 3) := by decide +kernel
theorem dX4_of_59 : decode cX4_of 59 = .ok (.ldiv, 1) := by decide +kernel
theorem dX4_of_60 : decode cX4_of 60 = .ok (.lload 5, 2) := by decide +kernel
theorem dX4_of_62 : decode cX4_of 62 = .ok (.lcmp, 1) := by decide +kernel
theorem dX4_of_63 : decode cX4_of 63 = .ok (.ifCond .lt 20, 3) := by decide +kernel
theorem dX4_of_66 : decode cX4_of 66 = .ok (.lload 5, 2) := by decide +kernel
theorem dX4_of_68 : decode cX4_of 68 = .ok (.ldc2_w 40, 3) := by decide +kernel
theorem dX4_of_71 : decode cX4_of 71 = .ok (.lmul, 1) := by decide +kernel
theorem dX4_of_72 : decode cX4_of 72 = .ok (.lstore 5, 2) := by decide +kernel
theorem dX4_of_74 : decode cX4_of 74 = .ok (.iinc 7 5, 3) := by decide +kernel
theorem dX4_of_77 : decode cX4_of 77 = .ok (.iinc 8 1, 3) := by decide +kernel
theorem dX4_of_80 : decode cX4_of 80 = .ok (.goto (-31), 3) := by decide +kernel
theorem dX4_of_83 : decode cX4_of 83 = .ok (.iconst 0, 1) := by decide +kernel
theorem dX4_of_84 : decode cX4_of 84 = .ok (.istore 8, 2) := by decide +kernel
theorem dX4_of_86 : decode cX4_of 86 = .ok (.iload 8, 2) := by decide +kernel
theorem dX4_of_88 : decode cX4_of 88 = .ok (.bipush 16, 2) := by decide +kernel
theorem dX4_of_90 : decode cX4_of 90 = .ok (.if_icmp .ge 31, 3) := by decide +kernel
theorem dX4_of_93 : decode cX4_of 93 = .ok (.lload_n 3, 1) := by decide +kernel
theorem dX4_of_94 : decode cX4_of 94 = .ok (.ldc2_w 42, 3) := by decide +kernel
theorem dX4_of_97 : decode cX4_of 97 = .ok (.ldiv, 1) := by decide +kernel
theorem dX4_of_98 : decode cX4_of 98 = .ok (.lload 5, 2) := by decide +kernel
theorem dX4_of_100 : decode cX4_of 100 = .ok (.lcmp, 1) := by decide +kernel
theorem dX4_of_101 : decode cX4_of 101 = .ok (.ifCond .lt 20, 3) := by decide +kernel
theorem dX4_of_104 : decode cX4_of 104 = .ok (.lload 5, 2) := by decide +kernel
theorem dX4_of_106 : decode cX4_of 106 = .ok (.ldc2_w 42, 3) := by decide +kernel
theorem dX4_of_109 : decode cX4_of 109 = .ok (.lmul, 1) := by decide +kernel
theorem dX4_of_110 : decode cX4_of 110 = .ok (.lstore 5, 2) := by decide +kernel
theorem dX4_of_112 : decode cX4_of 112 = .ok (.iinc 7 1, 3) := by decide +kernel
theorem dX4_of_115 : decode cX4_of 115 = .ok (.iinc 8 1, 3) := by decide +kernel
theorem dX4_of_118 : decode cX4_of 118 = .ok (.goto (-32), 3) := by decide +kernel
theorem dX4_of_121 : decode cX4_of 121 = .ok (.iconst 0, 1) := by decide +kernel
theorem dX4_of_122 : decode cX4_of 122 = .ok (.istore 8, 2) := by decide +kernel
theorem dX4_of_124 : decode cX4_of 124 = .ok (.iload 8, 2) := by decide +kernel
theorem dX4_of_126 : decode cX4_of 126 = .ok (.bipush 16, 2) := by decide +kernel
theorem dX4_of_128 : decode cX4_of 128 = .ok (.if_icmp .ge 25, 3) := by decide +kernel
theorem dX4_of_131 : decode cX4_of 131 = .ok (.lload_n 3, 1) := by decide +kernel
theorem dX4_of_132 : decode cX4_of 132 = .ok (.lload 5, 2) := by decide +kernel
theorem dX4_of_134 : decode cX4_of 134 = .ok (.lcmp, 1) := by decide +kernel
theorem dX4_of_135 : decode cX4_of 135 = .ok (.ifCond .ge 18, 3) := by decide +kernel
theorem dX4_of_138 : decode cX4_of 138 = .ok (.lload_n 3, 1) := by decide +kernel
theorem dX4_of_139 : decode cX4_of 139 = .ok (.ldc2_w 42, 3) := by decide +kernel
theorem dX4_of_142 : decode cX4_of 142 = .ok (.lmul, 1) := by decide +kernel
theorem dX4_of_143 : decode cX4_of 143 = .ok (.lstore_n 3, 1) := by decide +kernel
theorem dX4_of_144 : decode cX4_of 144 = .ok (.iinc 7 (-1), 3) := by decide +kernel
theorem dX4_of_147 : decode cX4_of 147 = .ok (.iinc 8 1, 3) := by decide +kernel
theorem dX4_of_150 : decode cX4_of 150 = .ok (.goto (-26), 3) := by decide +kernel
theorem dX4_of_153 : decode cX4_of 153 = .ok (.lload 5, 2) := by decide +kernel
theorem dX4_of_155 : decode cX4_of 155 = .ok (.lconst 0, 1) := by decide +kernel
theorem dX4_of_156 : decode cX4_of 156 = .ok (.lcmp, 1) := by decide +kernel
theorem dX4_of_157 : decode cX4_of 157 = .ok (.ifCond .gt 5, 3) := by decide +kernel
theorem dX4_of_160 : decode cX4_of 160 = .ok (.lconst 0, 1) := by decide +kernel
theorem dX4_of_161 : decode cX4_of 161 = .ok (.lreturn, 1) := by decide +kernel
theorem dX4_of_162 : decode cX4_of 162 = .ok (.lload_n 3, 1) := by decide +kernel
theorem dX4_of_163 : decode cX4_of 163 = .ok (.lload 5, 2) := by decide +kernel
theorem dX4_of_165 : decode cX4_of 165 = .ok (.ldiv, 1) := by decide +kernel
theorem dX4_of_166 : decode cX4_of 166 = .ok (.lstore 8, 2) := by decide +kernel
theorem dX4_of_168 : decode cX4_of 168 = .ok (.lload_n 3, 1) := by decide +kernel
theorem dX4_of_169 : decode cX4_of 169 = .ok (.lload 5, 2) := by decide +kernel
theorem dX4_of_171 : decode cX4_of 171 = .ok (.lrem, 1) := by decide +kernel
theorem dX4_of_172 : decode cX4_of 172 = .ok (.lstore 10, 2) := by decide +kernel
theorem dX4_of_174 : decode cX4_of 174 = .ok (.iconst 1, 1) := by decide +kernel
theorem dX4_of_175 : decode cX4_of 175 = .ok (.istore 12, 2) := by decide +kernel
theorem dX4_of_177 : decode cX4_of 177 = .ok (.iload 12, 2) := by decide +kernel
theorem dX4_of_179 : decode cX4_of 179 = .ok (.aload_n 0, 1) := by decide +kernel
theorem dX4_of_180 : decode cX4_of 180 = .ok (.getfield 9, 3) := by decide +kernel
theorem dX4_of_183 : decode cX4_of 183 = .ok (.if_icmp .ge 41, 3) := by decide +kernel
theorem dX4_of_186 : decode cX4_of 186 = .ok (.lload 10, 2) := by decide +kernel
theorem dX4_of_188 : decode cX4_of 188 = .ok (.ldc2_w 42, 3) := by decide +kernel
theorem dX4_of_191 : decode cX4_of 191 = .ok (.lmul, 1) := by decide +kernel
theorem dX4_of_192 : decode cX4_of 192 = .ok (.lstore 10, 2) := by decide +kernel
theorem dX4_of_194 : decode cX4_of 194 = .ok (.lload 8, 2) := by decide +kernel
theorem dX4_of_196 : decode cX4_of 196 = .ok (.ldc2_w 42, 3) := by decide +kernel
theorem dX4_of_199 : decode cX4_of 199 = .ok (.lmul, 1) := by decide +kernel
theorem dX4_of_200 : decode cX4_of 200 = .ok (.lload 10, 2) := by decide +kernel
theorem dX4_of_202 : decode cX4_of 202 = .ok (.lload 5, 2) := by decide +kernel
theorem dX4_of_204 : decode cX4_of 204 = .ok (.ldiv, 1) := by decide +kernel
theorem dX4_of_205 : decode cX4_of 205 = .ok (.ladd, 1) := by decide +kernel
theorem dX4_of_206 : decode cX4_of 206 = .ok (.lstore 8, 2) := by decide +kernel
theorem dX4_of_208 : decode cX4_of 208 = .ok (.lload 10, 2) := by decide +kernel
theorem dX4_of_210 : decode cX4_of 210 = .ok (.lload 5, 2) := by decide +kernel
theorem dX4_of_212 : decode cX4_of 212 = .ok (.lrem, 1) := by decide +kernel
theorem dX4_of_213 : decode cX4_of 213 = .ok (.lstore 10, 2) := by decide +kernel
theorem dX4_of_215 : decode cX4_of 215 = .ok (.iinc 7 (-1), 3) := by decide +kernel
theorem dX4_of_218 : decode cX4_of 218 = .ok (.iinc 12 1, 3) := by decide +kernel
theorem dX4_of_221 : decode cX4_of 221 = .ok (.goto (-44), 3) := by decide +kernel
theorem dX4_of_224 : decode cX4_of 224 = .ok (.aload_n 0, 1) := by decide +kernel
theorem dX4_of_225 : decode cX4_of 225 = .ok (.aload_n 0, 1) := by decide +kernel
theorem dX4_of_226 : decode cX4_of 226 = .ok (.lload 8, 2) := by decide +kernel
theorem dX4_of_228 : decode cX4_of 228 = .ok (.lload 10, 2) := by decide +kernel
theorem dX4_of_230 : decode cX4_of 230 = .ok (.lload 5, 2) := by decide +kernel
theorem dX4_of_232 : decode cX4_of 232 = .ok (.iload_n 2, 1) := by decide +kernel
theorem dX4_of_233 : decode cX4_of 233 = .ok (.invokevirtual 44, 3) := by decide +kernel
theorem dX4_of_236 : decode cX4_of 236 = .ok (.ifCond .eq 10, 3) := by decide +kernel
theorem dX4_of_239 : decode cX4_of 239 = .ok (.lload 8, 2) := by decide +kernel
theorem dX4_of_241 : decode cX4_of 241 = .ok (.lconst 1, 1) := by decide +kernel
theorem dX4_of_242 : decode cX4_of 242 = .ok (.ladd, 1) := by decide +kernel
theorem dX4_of_243 : decode cX4_of 243 = .ok (.goto 5, 3) := by decide +kernel
theorem dX4_of_246 : decode cX4_of 246 = .ok (.lload 8, 2) := by decide +kernel
theorem dX4_of_248 : decode cX4_of 248 = .ok (.iload 7, 2) := by decide +kernel
theorem dX4_of_250 : decode cX4_of 250 = .ok (.iload_n 2, 1) := by decide +kernel
theorem dX4_of_251 : decode cX4_of 251 = .ok (.invokevirtual 48, 3) := by decide +kernel
theorem dX4_of_254 : decode cX4_of 254 = .ok (.lreturn, 1) := by decide +kernel
theorem dX4_goesOn_0 : decode cX4_goesOn 0 = .ok (.aload_n 0, 1) := by decide +kernel
theorem dX4_goesOn_1 : decode cX4_goesOn 1 = .ok (.getfield 15, 3) := by decide +kernel
theorem dX4_goesOn_4 : decode cX4_goesOn 4 = .ok (.iconst 2, 1) := by decide +kernel
theorem dX4_goesOn_5 : decode cX4_goesOn 5 = .ok (.if_icmp .ne 20, 3) := by decide +kernel
theorem dX4_goesOn_8 : decode cX4_goesOn 8 = .ok (.lload_n 3, 1) := by decide +kernel
theorem dX4_goesOn_9 : decode cX4_goesOn 9 = .ok (.lconst 0, 1) := by decide +kernel
theorem dX4_goesOn_10 : decode cX4_goesOn 10 = .ok (.lcmp, 1) := by decide +kernel
theorem dX4_goesOn_11 : decode cX4_goesOn 11 = .ok (.ifCond .le 12, 3) := by decide +kernel
theorem dX4_goesOn_14 : decode cX4_goesOn 14 = .ok (.iload 7, 2) := by decide +kernel
theorem dX4_goesOn_16 : decode cX4_goesOn 16 = .ok (.ifCond .ne 7, 3) := by decide +kernel
theorem dX4_goesOn_19 : decode cX4_goesOn 19 = .ok (.iconst 1, 1) := by decide +kernel
theorem dX4_goesOn_20 : decode cX4_goesOn 20 = .ok (.goto 4, 3) := by decide +kernel
theorem dX4_goesOn_23 : decode cX4_goesOn 23 = .ok (.iconst 0, 1) := by decide +kernel
theorem dX4_goesOn_24 : decode cX4_goesOn 24 = .ok (.ireturn, 1) := by decide +kernel
theorem dX4_goesOn_25 : decode cX4_goesOn 25 = .ok (.aload_n 0, 1) := by decide +kernel
theorem dX4_goesOn_26 : decode cX4_goesOn 26 = .ok (.getfield 15, 3) := by decide +kernel
theorem dX4_goesOn_29 : decode cX4_goesOn 29 = .ok (.iconst 3, 1) := by decide +kernel
theorem dX4_goesOn_30 : decode cX4_goesOn 30 = .ok (.if_icmp .ne 20, 3) := by decide +kernel
theorem dX4_goesOn_33 : decode cX4_goesOn 33 = .ok (.lload_n 3, 1) := by decide +kernel
theorem dX4_goesOn_34 : decode cX4_goesOn 34 = .ok (.lconst 0, 1) := by decide +kernel
theorem dX4_goesOn_35 : decode cX4_goesOn 35 = .ok (.lcmp, 1) := by decide +kernel
theorem dX4_goesOn_36 : decode cX4_goesOn 36 = .ok (.ifCond .le 12, 3) := by decide +kernel
theorem dX4_goesOn_39 : decode cX4_goesOn 39 = .ok (.iload 7, 2) := by decide +kernel
theorem dX4_goesOn_41 : decode cX4_goesOn 41 = .ok (.ifCond .eq 7, 3) := by decide +kernel
theorem dX4_goesOn_44 : decode cX4_goesOn 44 = .ok (.iconst 1, 1) := by decide +kernel
theorem dX4_goesOn_45 : decode cX4_goesOn 45 = .ok (.goto 4, 3) := by decide +kernel
theorem dX4_goesOn_48 : decode cX4_goesOn 48 = .ok (.iconst 0, 1) := by decide +kernel
theorem dX4_goesOn_49 : decode cX4_goesOn 49 = .ok (.ireturn, 1) := by decide +kernel
theorem dX4_goesOn_50 : decode cX4_goesOn 50 = .ok (.aload_n 0, 1) := by decide +kernel
theorem dX4_goesOn_51 : decode cX4_goesOn 51 = .ok (.getfield 15, 3) := by decide +kernel
theorem dX4_goesOn_54 : decode cX4_goesOn 54 = .ok (.ifCond .ne 37, 3) := by decide +kernel
theorem dX4_goesOn_57 : decode cX4_goesOn 57 = .ok (.lload_n 3, 1) := by decide +kernel
theorem dX4_goesOn_58 : decode cX4_goesOn 58 = .ok (.lload 5, 2) := by decide +kernel
theorem dX4_goesOn_60 : decode cX4_goesOn 60 = .ok (.lload_n 3, 1) := by decide +kernel
theorem dX4_goesOn_61 : decode cX4_goesOn 61 = .ok (.lsub, 1) := by decide +kernel
theorem dX4_goesOn_62 : decode cX4_goesOn 62 = .ok (.lcmp, 1) := by decide +kernel
theorem dX4_goesOn_63 : decode cX4_goesOn 63 = .ok (.ifCond .gt 22, 3) := by decide +kernel
theorem dX4_goesOn_66 : decode cX4_goesOn 66 = .ok (.lload_n 3, 1) := by decide +kernel
theorem dX4_goesOn_67 : decode cX4_goesOn 67 = .ok (.lload 5, 2) := by decide +kernel
theorem dX4_goesOn_69 : decode cX4_goesOn 69 = .ok (.lload_n 3, 1) := by decide +kernel
theorem dX4_goesOn_70 : decode cX4_goesOn 70 = .ok (.lsub, 1) := by decide +kernel
theorem dX4_goesOn_71 : decode cX4_goesOn 71 = .ok (.lcmp, 1) := by decide +kernel
theorem dX4_goesOn_72 : decode cX4_goesOn 72 = .ok (.ifCond .ne 17, 3) := by decide +kernel
theorem dX4_goesOn_75 : decode cX4_goesOn 75 = .ok (.lload_n 1, 1) := by decide +kernel
theorem dX4_goesOn_76 : decode cX4_goesOn 76 = .ok (.ldc2_w 52, 3) := by decide +kernel
theorem dX4_goesOn_79 : decode cX4_goesOn 79 = .ok (.lrem, 1) := by decide +kernel
theorem dX4_goesOn_80 : decode cX4_goesOn 80 = .ok (.lconst 1, 1) := by decide +kernel
theorem dX4_goesOn_81 : decode cX4_goesOn 81 = .ok (.lcmp, 1) := by decide +kernel
theorem dX4_goesOn_82 : decode cX4_goesOn 82 = .ok (.ifCond .ne 7, 3) := by decide +kernel
theorem dX4_goesOn_85 : decode cX4_goesOn 85 = .ok (.iconst 1, 1) := by decide +kernel
theorem dX4_goesOn_86 : decode cX4_goesOn 86 = .ok (.goto 4, 3) := by decide +kernel
theorem dX4_goesOn_89 : decode cX4_goesOn 89 = .ok (.iconst 0, 1) := by decide +kernel
theorem dX4_goesOn_90 : decode cX4_goesOn 90 = .ok (.ireturn, 1) := by decide +kernel
theorem dX4_goesOn_91 : decode cX4_goesOn 91 = .ok (.iconst 0, 1) := by decide +kernel
theorem dX4_goesOn_92 : decode cX4_goesOn 92 = .ok (.ireturn, 1) := by decide +kernel
theorem dX4_placed_0 : decode cX4_placed 0 = .ok (.aload_n 0, 1) := by decide +kernel
theorem dX4_placed_1 : decode cX4_placed 1 = .ok (.getfield 9, 3) := by decide +kernel
theorem dX4_placed_4 : decode cX4_placed 4 = .ok (.iconst 1, 1) := by decide +kernel
theorem dX4_placed_5 : decode cX4_placed 5 = .ok (.if_icmp .lt 28, 3) := by decide +kernel
theorem dX4_placed_8 : decode cX4_placed 8 = .ok (.aload_n 0, 1) := by decide +kernel
theorem dX4_placed_9 : decode cX4_placed 9 = .ok (.getfield 9, 3) := by decide +kernel
theorem dX4_placed_12 : decode cX4_placed 12 = .ok (.iconst 4, 1) := by decide +kernel
theorem dX4_placed_13 : decode cX4_placed 13 = .ok (.if_icmp .gt 20, 3) := by decide +kernel
theorem dX4_placed_16 : decode cX4_placed 16 = .ok (.lload_n 1, 1) := by decide +kernel
theorem dX4_placed_17 : decode cX4_placed 17 = .ok (.getstatic 54, 3) := by decide +kernel
theorem dX4_placed_20 : decode cX4_placed 20 = .ok (.aload_n 0, 1) := by decide +kernel
theorem dX4_placed_21 : decode cX4_placed 21 = .ok (.getfield 9, 3) := by decide +kernel
theorem dX4_placed_24 : decode cX4_placed 24 = .ok (.laload, 1) := by decide +kernel
theorem dX4_placed_25 : decode cX4_placed 25 = .ok (.lcmp, 1) := by decide +kernel
theorem dX4_placed_26 : decode cX4_placed 26 = .ok (.ifCond .lt 7, 3) := by decide +kernel
theorem dX4_placed_29 : decode cX4_placed 29 = .ok (.iconst 1, 1) := by decide +kernel
theorem dX4_placed_30 : decode cX4_placed 30 = .ok (.goto 4, 3) := by decide +kernel
theorem dX4_placed_33 : decode cX4_placed 33 = .ok (.iconst 0, 1) := by decide +kernel
theorem dX4_placed_34 : decode cX4_placed 34 = .ok (.istore 5, 2) := by decide +kernel
theorem dX4_placed_36 : decode cX4_placed 36 = .ok (.iload 5, 2) := by decide +kernel
theorem dX4_placed_38 : decode cX4_placed 38 = .ok (.ifCond .eq 11, 3) := by decide +kernel
theorem dX4_placed_41 : decode cX4_placed 41 = .ok (.lload_n 1, 1) := by decide +kernel
theorem dX4_placed_42 : decode cX4_placed 42 = .ok (.ldc2_w 42, 3) := by decide +kernel
theorem dX4_placed_45 : decode cX4_placed 45 = .ok (.ldiv, 1) := by decide +kernel
theorem dX4_placed_46 : decode cX4_placed 46 = .ok (.goto 4, 3) := by decide +kernel
theorem dX4_placed_49 : decode cX4_placed 49 = .ok (.lload_n 1, 1) := by decide +kernel
theorem dX4_placed_50 : decode cX4_placed 50 = .ok (.lstore 6, 2) := by decide +kernel
theorem dX4_placed_52 : decode cX4_placed 52 = .ok (.iload 5, 2) := by decide +kernel
theorem dX4_placed_54 : decode cX4_placed 54 = .ok (.ifCond .eq 9, 3) := by decide +kernel
theorem dX4_placed_57 : decode cX4_placed 57 = .ok (.iload_n 3, 1) := by decide +kernel
theorem dX4_placed_58 : decode cX4_placed 58 = .ok (.iconst 1, 1) := by decide +kernel
theorem dX4_placed_59 : decode cX4_placed 59 = .ok (.iadd, 1) := by decide +kernel
theorem dX4_placed_60 : decode cX4_placed 60 = .ok (.goto 4, 3) := by decide +kernel
theorem dX4_placed_63 : decode cX4_placed 63 = .ok (.iload_n 3, 1) := by decide +kernel
theorem dX4_placed_64 : decode cX4_placed 64 = .ok (.istore 8, 2) := by decide +kernel
theorem dX4_placed_66 : decode cX4_placed 66 = .ok (.iload 8, 2) := by decide +kernel
theorem dX4_placed_68 : decode cX4_placed 68 = .ok (.aload_n 0, 1) := by decide +kernel
theorem dX4_placed_69 : decode cX4_placed 69 = .ok (.getfield 9, 3) := by decide +kernel
theorem dX4_placed_72 : decode cX4_placed 72 = .ok (.iadd, 1) := by decide +kernel
theorem dX4_placed_73 : decode cX4_placed 73 = .ok (.iconst 1, 1) := by decide +kernel
theorem dX4_placed_74 : decode cX4_placed 74 = .ok (.isub, 1) := by decide +kernel
theorem dX4_placed_75 : decode cX4_placed 75 = .ok (.istore 9, 2) := by decide +kernel
theorem dX4_placed_77 : decode cX4_placed 77 = .ok (.iload 9, 2) := by decide +kernel
theorem dX4_placed_79 : decode cX4_placed 79 = .ok (.bipush 16, 2) := by decide +kernel
theorem dX4_placed_81 : decode cX4_placed 81 = .ok (.if_icmp .lt 7, 3) := by decide +kernel
theorem dX4_placed_84 : decode cX4_placed 84 = .ok (.ldc2_w 58, 3) := by decide +kernel
theorem dX4_placed_87 : decode cX4_placed 87 = .ok (.lreturn, 1) := by decide +kernel
theorem dX4_placed_88 : decode cX4_placed 88 = .ok (.lconst 0, 1) := by decide +kernel
theorem dX4_placed_89 : decode cX4_placed 89 = .ok (.lstore 10, 2) := by decide +kernel
theorem dX4_placed_91 : decode cX4_placed 91 = .ok (.iload 9, 2) := by decide +kernel
theorem dX4_placed_93 : decode cX4_placed 93 = .ok (.iconst 3, 1) := by decide +kernel
theorem dX4_placed_94 : decode cX4_placed 94 = .ok (.if_icmp .lt 31, 3) := by decide +kernel
theorem dX4_placed_97 : decode cX4_placed 97 = .ok (.iload 8, 2) := by decide +kernel
theorem dX4_placed_99 : decode cX4_placed 99 = .ok (.ifCond .lt 26, 3) := by decide +kernel
theorem dX4_placed_102 : decode cX4_placed 102 = .ok (.iload 8, 2) := by decide +kernel
theorem dX4_placed_104 : decode cX4_placed 104 = .ok (.getstatic 54, 3) := by decide +kernel
theorem dX4_placed_107 : decode cX4_placed 107 = .ok (.arraylength, 1) := by decide +kernel
theorem dX4_placed_108 : decode cX4_placed 108 = .ok (.if_icmp .ge 17, 3) := by decide +kernel
theorem dX4_placed_111 : decode cX4_placed 111 = .ok (.lload 6, 2) := by decide +kernel
theorem dX4_placed_113 : decode cX4_placed 113 = .ok (.getstatic 54, 3) := by decide +kernel
theorem dX4_placed_116 : decode cX4_placed 116 = .ok (.iload 8, 2) := by decide +kernel
theorem dX4_placed_118 : decode cX4_placed 118 = .ok (.laload, 1) := by decide +kernel
theorem dX4_placed_119 : decode cX4_placed 119 = .ok (.lmul, 1) := by decide +kernel
theorem dX4_placed_120 : decode cX4_placed 120 = .ok (.lstore 10, 2) := by decide +kernel
theorem dX4_placed_122 : decode cX4_placed 122 = .ok (.goto 32, 3) := by decide +kernel
theorem dX4_placed_125 : decode cX4_placed 125 = .ok (.aload_n 0, 1) := by decide +kernel
theorem dX4_placed_126 : decode cX4_placed 126 = .ok (.getfield 18, 3) := by decide +kernel
theorem dX4_placed_129 : decode cX4_placed 129 = .ok (.ifCond .eq 25, 3) := by decide +kernel
theorem dX4_placed_132 : decode cX4_placed 132 = .ok (.aload_n 0, 1) := by decide +kernel
theorem dX4_placed_133 : decode cX4_placed 133 = .ok (.getfield 15, 3) := by decide +kernel
theorem dX4_placed_136 : decode cX4_placed 136 = .ok (.iload 4, 2) := by decide +kernel
theorem dX4_placed_138 : decode cX4_placed 138 = .ok (.ifCond .eq 7, 3) := by decide +kernel
theorem dX4_placed_141 : decode cX4_placed 141 = .ok (.iconst 3, 1) := by decide +kernel
theorem dX4_placed_142 : decode cX4_placed 142 = .ok (.goto 4, 3) := by decide +kernel
theorem dX4_placed_145 : decode cX4_placed 145 = .ok (.iconst 2, 1) := by decide +kernel
theorem dX4_placed_146 : decode cX4_placed 146 = .ok (.if_icmp .ne 8, 3) := by decide +kernel
theorem dX4_placed_149 : decode cX4_placed 149 = .ok (.ldc2_w 60, 3) := by decide +kernel
theorem dX4_placed_152 : decode cX4_placed 152 = .ok (.lstore 10, 2) := by decide +kernel
theorem dX4_placed_154 : decode cX4_placed 154 = .ok (.iload 4, 2) := by decide +kernel
theorem dX4_placed_156 : decode cX4_placed 156 = .ok (.ifCond .eq 9, 3) := by decide +kernel
theorem dX4_placed_159 : decode cX4_placed 159 = .ok (.lload 10, 2) := by decide +kernel
theorem dX4_placed_161 : decode cX4_placed 161 = .ok (.lneg, 1) := by decide +kernel
theorem dX4_placed_162 : decode cX4_placed 162 = .ok (.goto 5, 3) := by decide +kernel
theorem dX4_placed_165 : decode cX4_placed 165 = .ok (.lload 10, 2) := by decide +kernel
theorem dX4_placed_167 : decode cX4_placed 167 = .ok (.lreturn, 1) := by decide +kernel
