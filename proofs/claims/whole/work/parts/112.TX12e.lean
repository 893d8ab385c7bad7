-- LostDigitsModel.findEnds
theorem dX12_findEnds_0 : decode cX12_findEnds 0 = .ok (.aload_n 0, 1) := by decide +kernel
theorem dX12_findEnds_1 : decode cX12_findEnds 1 = .ok (.invokevirtual 223, 3) := by decide +kernel
theorem dX12_findEnds_4 : decode cX12_findEnds 4 = .ok (.aload_n 0, 1) := by decide +kernel
theorem dX12_findEnds_5 : decode cX12_findEnds 5 = .ok (.invokevirtual 195, 3) := by decide +kernel
theorem dX12_findEnds_8 : decode cX12_findEnds 8 = .ok (.aload_n 0, 1) := by decide +kernel
theorem dX12_findEnds_9 : decode cX12_findEnds 9 = .ok (.getfield 192, 3) := by decide +kernel
theorem dX12_findEnds_12 : decode cX12_findEnds 12 = .ok (.iconst 1, 1) := by decide +kernel
theorem dX12_findEnds_13 : decode cX12_findEnds 13 = .ok (.isub, 1) := by decide +kernel
theorem dX12_findEnds_14 : decode cX12_findEnds 14 = .ok (.istore_n 1, 1) := by decide +kernel
theorem dX12_findEnds_15 : decode cX12_findEnds 15 = .ok (.iload_n 1, 1) := by decide +kernel
theorem dX12_findEnds_16 : decode cX12_findEnds 16 = .ok (.ifCond .lt 306, 3) := by decide +kernel
theorem dX12_findEnds_19 : decode cX12_findEnds 19 = .ok (.aload_n 0, 1) := by decide +kernel
theorem dX12_findEnds_20 : decode cX12_findEnds 20 = .ok (.getfield 22, 3) := by decide +kernel
theorem dX12_findEnds_23 : decode cX12_findEnds 23 = .ok (.iload_n 1, 1) := by decide +kernel
theorem dX12_findEnds_24 : decode cX12_findEnds 24 = .ok (.iaload, 1) := by decide +kernel
theorem dX12_findEnds_25 : decode cX12_findEnds 25 = .ok (.istore_n 2, 1) := by decide +kernel
theorem dX12_findEnds_26 : decode cX12_findEnds 26 = .ok (.iload_n 2, 1) := by decide +kernel
theorem dX12_findEnds_27 : decode cX12_findEnds 27 = .ok (.invokestatic 170, 3) := by decide +kernel
theorem dX12_findEnds_30 : decode cX12_findEnds 30 = .ok (.ifCond .ne 66, 3) := by decide +kernel
theorem dX12_findEnds_33 : decode cX12_findEnds 33 = .ok (.ldc2_w 206, 3) := by decide +kernel
theorem dX12_findEnds_36 : decode cX12_findEnds 36 = .ok (.aload_n 0, 1) := by decide +kernel
theorem dX12_findEnds_37 : decode cX12_findEnds 37 = .ok (.iload_n 1, 1) := by decide +kernel
theorem dX12_findEnds_38 : decode cX12_findEnds 38 = .ok (.invokevirtual 208, 3) := by decide +kernel
theorem dX12_findEnds_41 : decode cX12_findEnds 41 = .ok (.i2l, 1) := by decide +kernel
theorem dX12_findEnds_42 : decode cX12_findEnds 42 = .ok (.lmul, 1) := by decide +kernel
theorem dX12_findEnds_43 : decode cX12_findEnds 43 = .ok (.lstore_n 3, 1) := by decide +kernel
theorem dX12_findEnds_44 : decode cX12_findEnds 44 = .ok (.iload_n 2, 1) := by decide +kernel
theorem dX12_findEnds_45 : decode cX12_findEnds 45 = .ok (.invokestatic 173, 3) := by decide +kernel
theorem dX12_findEnds_48 : decode cX12_findEnds 48 = .ok (.ifCond .eq 22, 3) := by decide +kernel
theorem dX12_findEnds_51 : decode cX12_findEnds 51 = .ok (.lload_n 3, 1) := by decide +kernel
theorem dX12_findEnds_52 : decode cX12_findEnds 52 = .ok (.ldc2_w 206, 3) := by decide +kernel
theorem dX12_findEnds_55 : decode cX12_findEnds 55 = .ok (.aload_n 0, 1) := by decide +kernel
theorem dX12_findEnds_56 : decode cX12_findEnds 56 = .ok (.getfield 19, 3) := by decide +kernel
theorem dX12_findEnds_59 : decode cX12_findEnds 59 = .ok (.iload_n 2, 1) := by decide +kernel
theorem dX12_findEnds_60 : decode cX12_findEnds 60 = .ok (.bipush 97, 2) := by decide +kernel
theorem dX12_findEnds_62 : decode cX12_findEnds 62 = .ok (.isub, 1) := by decide +kernel
theorem dX12_findEnds_63 : decode cX12_findEnds 63 = .ok (.iaload, 1) := by decide +kernel
theorem dX12_findEnds_64 : decode cX12_findEnds 64 = .ok (.i2l, 1) := by decide +kernel
theorem dX12_findEnds_65 : decode cX12_findEnds 65 = .ok (.lmul, 1) := by decide +kernel
theorem dX12_findEnds_66 : decode cX12_findEnds 66 = .ok (.ladd, 1) := by decide +kernel
theorem dX12_findEnds_67 : decode cX12_findEnds 67 = .ok (.goto 4, 3) := by decide +kernel
theorem dX12_findEnds_70 : decode cX12_findEnds 70 = .ok (.lload_n 3, 1) := by decide +kernel
theorem dX12_findEnds_71 : decode cX12_findEnds 71 = .ok (.lstore 5, 2) := by decide +kernel
theorem dX12_findEnds_73 : decode cX12_findEnds 73 = .ok (.aload_n 0, 1) := by decide +kernel
theorem dX12_findEnds_74 : decode cX12_findEnds 74 = .ok (.iload_n 1, 1) := by decide +kernel
theorem dX12_findEnds_75 : decode cX12_findEnds 75 = .ok (.aload_n 0, 1) := by decide +kernel
theorem dX12_findEnds_76 : decode cX12_findEnds 76 = .ok (.lload_n 3, 1) := by decide +kernel
theorem dX12_findEnds_77 : decode cX12_findEnds 77 = .ok (.iconst 3, 1) := by decide +kernel
theorem dX12_findEnds_78 : decode cX12_findEnds 78 = .ok (.iconst 1, 1) := by decide +kernel
theorem dX12_findEnds_79 : decode cX12_findEnds 79 = .ok (.invokevirtual 126, 3) := by decide +kernel
theorem dX12_findEnds_82 : decode cX12_findEnds 82 = .ok (.aload_n 0, 1) := by decide +kernel
theorem dX12_findEnds_83 : decode cX12_findEnds 83 = .ok (.lload 5, 2) := by decide +kernel
theorem dX12_findEnds_85 : decode cX12_findEnds 85 = .ok (.iconst 2, 1) := by decide +kernel
theorem dX12_findEnds_86 : decode cX12_findEnds 86 = .ok (.iconst 1, 1) := by decide +kernel
theorem dX12_findEnds_87 : decode cX12_findEnds 87 = .ok (.invokevirtual 126, 3) := by decide +kernel
theorem dX12_findEnds_90 : decode cX12_findEnds 90 = .ok (.invokevirtual 291, 3) := by decide +kernel
theorem dX12_findEnds_93 : decode cX12_findEnds 93 = .ok (.goto 223, 3) := by decide +kernel
theorem dX12_findEnds_96 : decode cX12_findEnds 96 = .ok (.iload_n 1, 1) := by decide +kernel
theorem dX12_findEnds_97 : decode cX12_findEnds 97 = .ok (.iconst 1, 1) := by decide +kernel
theorem dX12_findEnds_98 : decode cX12_findEnds 98 = .ok (.iadd, 1) := by decide +kernel
theorem dX12_findEnds_99 : decode cX12_findEnds 99 = .ok (.istore_n 3, 1) := by decide +kernel
theorem dX12_findEnds_100 : decode cX12_findEnds 100 = .ok (.iload_n 3, 1) := by decide +kernel
theorem dX12_findEnds_101 : decode cX12_findEnds 101 = .ok (.aload_n 0, 1) := by decide +kernel
theorem dX12_findEnds_102 : decode cX12_findEnds 102 = .ok (.getfield 25, 3) := by decide +kernel
theorem dX12_findEnds_105 : decode cX12_findEnds 105 = .ok (.iload_n 3, 1) := by decide +kernel
theorem dX12_findEnds_106 : decode cX12_findEnds 106 = .ok (.iaload, 1) := by decide +kernel
theorem dX12_findEnds_107 : decode cX12_findEnds 107 = .ok (.iadd, 1) := by decide +kernel
theorem dX12_findEnds_108 : decode cX12_findEnds 108 = .ok (.istore 4, 2) := by decide +kernel
theorem dX12_findEnds_110 : decode cX12_findEnds 110 = .ok (.aload_n 0, 1) := by decide +kernel
theorem dX12_findEnds_111 : decode cX12_findEnds 111 = .ok (.getfield 53, 3) := by decide +kernel
theorem dX12_findEnds_114 : decode cX12_findEnds 114 = .ok (.iload_n 3, 1) := by decide +kernel
theorem dX12_findEnds_115 : decode cX12_findEnds 115 = .ok (.laload, 1) := by decide +kernel
theorem dX12_findEnds_116 : decode cX12_findEnds 116 = .ok (.ldc2_w 94, 3) := by decide +kernel
theorem dX12_findEnds_119 : decode cX12_findEnds 119 = .ok (.lcmp, 1) := by decide +kernel
theorem dX12_findEnds_120 : decode cX12_findEnds 120 = .ok (.ifCond .eq 47, 3) := by decide +kernel
theorem dX12_findEnds_123 : decode cX12_findEnds 123 = .ok (.aload_n 0, 1) := by decide +kernel
theorem dX12_findEnds_124 : decode cX12_findEnds 124 = .ok (.getfield 53, 3) := by decide +kernel
theorem dX12_findEnds_127 : decode cX12_findEnds 127 = .ok (.iload 4, 2) := by decide +kernel
theorem dX12_findEnds_129 : decode cX12_findEnds 129 = .ok (.laload, 1) := by decide +kernel
theorem dX12_findEnds_130 : decode cX12_findEnds 130 = .ok (.ldc2_w 94, 3) := by decide +kernel
theorem dX12_findEnds_133 : decode cX12_findEnds 133 = .ok (.lcmp, 1) := by decide +kernel
theorem dX12_findEnds_134 : decode cX12_findEnds 134 = .ok (.ifCond .eq 33, 3) := by decide +kernel
theorem dX12_findEnds_137 : decode cX12_findEnds 137 = .ok (.iload_n 2, 1) := by decide +kernel
theorem dX12_findEnds_138 : decode cX12_findEnds 138 = .ok (.bipush 47, 2) := by decide +kernel
theorem dX12_findEnds_140 : decode cX12_findEnds 140 = .ok (.if_icmp .ne 41, 3) := by decide +kernel
theorem dX12_findEnds_143 : decode cX12_findEnds 143 = .ok (.aload_n 0, 1) := by decide +kernel
theorem dX12_findEnds_144 : decode cX12_findEnds 144 = .ok (.getfield 53, 3) := by decide +kernel
theorem dX12_findEnds_147 : decode cX12_findEnds 147 = .ok (.iload 4, 2) := by decide +kernel
theorem dX12_findEnds_149 : decode cX12_findEnds 149 = .ok (.laload, 1) := by decide +kernel
theorem dX12_findEnds_150 : decode cX12_findEnds 150 = .ok (.lconst 0, 1) := by decide +kernel
theorem dX12_findEnds_151 : decode cX12_findEnds 151 = .ok (.lcmp, 1) := by decide +kernel
theorem dX12_findEnds_152 : decode cX12_findEnds 152 = .ok (.ifCond .gt 29, 3) := by decide +kernel
theorem dX12_findEnds_155 : decode cX12_findEnds 155 = .ok (.aload_n 0, 1) := by decide +kernel
theorem dX12_findEnds_156 : decode cX12_findEnds 156 = .ok (.getfield 56, 3) := by decide +kernel
theorem dX12_findEnds_159 : decode cX12_findEnds 159 = .ok (.iload 4, 2) := by decide +kernel
theorem dX12_findEnds_161 : decode cX12_findEnds 161 = .ok (.laload, 1) := by decide +kernel
theorem dX12_findEnds_162 : decode cX12_findEnds 162 = .ok (.lconst 0, 1) := by decide +kernel
theorem dX12_findEnds_163 : decode cX12_findEnds 163 = .ok (.lcmp, 1) := by decide +kernel
theorem dX12_findEnds_164 : decode cX12_findEnds 164 = .ok (.ifCond .lt 17, 3) := by decide +kernel
theorem dX12_findEnds_167 : decode cX12_findEnds 167 = .ok (.aload_n 0, 1) := by decide +kernel
theorem dX12_findEnds_168 : decode cX12_findEnds 168 = .ok (.iload_n 1, 1) := by decide +kernel
theorem dX12_findEnds_169 : decode cX12_findEnds 169 = .ok (.ldc2_w 94, 3) := by decide +kernel
theorem dX12_findEnds_172 : decode cX12_findEnds 172 = .ok (.ldc2_w 94, 3) := by decide +kernel
theorem dX12_findEnds_175 : decode cX12_findEnds 175 = .ok (.invokevirtual 291, 3) := by decide +kernel
theorem dX12_findEnds_178 : decode cX12_findEnds 178 = .ok (.goto 138, 3) := by decide +kernel
theorem dX12_findEnds_181 : decode cX12_findEnds 181 = .ok (.iload_n 2, 1) := by decide +kernel
theorem dX12_findEnds_182 : decode cX12_findEnds 182 = .ok (.bipush 43, 2) := by decide +kernel
theorem dX12_findEnds_184 : decode cX12_findEnds 184 = .ok (.if_icmp .ne 53, 3) := by decide +kernel
theorem dX12_findEnds_187 : decode cX12_findEnds 187 = .ok (.aload_n 0, 1) := by decide +kernel
theorem dX12_findEnds_188 : decode cX12_findEnds 188 = .ok (.iload_n 1, 1) := by decide +kernel
theorem dX12_findEnds_189 : decode cX12_findEnds 189 = .ok (.aload_n 0, 1) := by decide +kernel
theorem dX12_findEnds_190 : decode cX12_findEnds 190 = .ok (.bipush 43, 2) := by decide +kernel
theorem dX12_findEnds_192 : decode cX12_findEnds 192 = .ok (.aload_n 0, 1) := by decide +kernel
theorem dX12_findEnds_193 : decode cX12_findEnds 193 = .ok (.getfield 53, 3) := by decide +kernel
theorem dX12_findEnds_196 : decode cX12_findEnds 196 = .ok (.iload_n 3, 1) := by decide +kernel
theorem dX12_findEnds_197 : decode cX12_findEnds 197 = .ok (.laload, 1) := by decide +kernel
theorem dX12_findEnds_198 : decode cX12_findEnds 198 = .ok (.aload_n 0, 1) := by decide +kernel
theorem dX12_findEnds_199 : decode cX12_findEnds 199 = .ok (.getfield 53, 3) := by decide +kernel
theorem dX12_findEnds_202 : decode cX12_findEnds 202 = .ok (.iload 4, 2) := by decide +kernel
theorem dX12_findEnds_204 : decode cX12_findEnds 204 = .ok (.laload, 1) := by decide +kernel
theorem dX12_findEnds_205 : decode cX12_findEnds 205 = .ok (.iconst 3, 1) := by decide +kernel
theorem dX12_findEnds_206 : decode cX12_findEnds 206 = .ok (.iconst 1, 1) := by decide +kernel
theorem dX12_findEnds_207 : decode cX12_findEnds 207 = .ok (.invokevirtual 198, 3) := by decide +kernel
theorem dX12_findEnds_210 : decode cX12_findEnds 210 = .ok (.aload_n 0, 1) := by decide +kernel
theorem dX12_findEnds_211 : decode cX12_findEnds 211 = .ok (.bipush 43, 2) := by decide +kernel
theorem dX12_findEnds_213 : decode cX12_findEnds 213 = .ok (.aload_n 0, 1) := by decide +kernel
theorem dX12_findEnds_214 : decode cX12_findEnds 214 = .ok (.getfield 56, 3) := by decide +kernel
theorem dX12_findEnds_217 : decode cX12_findEnds 217 = .ok (.iload_n 3, 1) := by decide +kernel
theorem dX12_findEnds_218 : decode cX12_findEnds 218 = .ok (.laload, 1) := by decide +kernel
theorem dX12_findEnds_219 : decode cX12_findEnds 219 = .ok (.aload_n 0, 1) := by decide +kernel
theorem dX12_findEnds_220 : decode cX12_findEnds 220 = .ok (.getfield 56, 3) := by decide +kernel
theorem dX12_findEnds_223 : decode cX12_findEnds 223 = .ok (.iload 4, 2) := by decide +kernel
theorem dX12_findEnds_225 : decode cX12_findEnds 225 = .ok (.laload, 1) := by decide +kernel
theorem dX12_findEnds_226 : decode cX12_findEnds 226 = .ok (.iconst 2, 1) := by decide +kernel
theorem dX12_findEnds_227 : decode cX12_findEnds 227 = .ok (.iconst 1, 1) := by decide +kernel
theorem dX12_findEnds_228 : decode cX12_findEnds 228 = .ok (.invokevirtual 198, 3) := by decide +kernel
theorem dX12_findEnds_231 : decode cX12_findEnds 231 = .ok (.invokevirtual 291, 3) := by decide +kernel
theorem dX12_findEnds_234 : decode cX12_findEnds 234 = .ok (.goto 82, 3) := by decide +kernel
theorem dX12_findEnds_237 : decode cX12_findEnds 237 = .ok (.iload_n 2, 1) := by decide +kernel
theorem dX12_findEnds_238 : decode cX12_findEnds 238 = .ok (.bipush 45, 2) := by decide +kernel
theorem dX12_findEnds_240 : decode cX12_findEnds 240 = .ok (.if_icmp .ne 53, 3) := by decide +kernel
theorem dX12_findEnds_243 : decode cX12_findEnds 243 = .ok (.aload_n 0, 1) := by decide +kernel
theorem dX12_findEnds_244 : decode cX12_findEnds 244 = .ok (.iload_n 1, 1) := by decide +kernel
theorem dX12_findEnds_245 : decode cX12_findEnds 245 = .ok (.aload_n 0, 1) := by decide +kernel
theorem dX12_findEnds_246 : decode cX12_findEnds 246 = .ok (.bipush 45, 2) := by decide +kernel
theorem dX12_findEnds_248 : decode cX12_findEnds 248 = .ok (.aload_n 0, 1) := by decide +kernel
theorem dX12_findEnds_249 : decode cX12_findEnds 249 = .ok (.getfield 53, 3) := by decide +kernel
theorem dX12_findEnds_252 : decode cX12_findEnds 252 = .ok (.iload_n 3, 1) := by decide +kernel
theorem dX12_findEnds_253 : decode cX12_findEnds 253 = .ok (.laload, 1) := by decide +kernel
theorem dX12_findEnds_254 : decode cX12_findEnds 254 = .ok (.aload_n 0, 1) := by decide +kernel
theorem dX12_findEnds_255 : decode cX12_findEnds 255 = .ok (.getfield 56, 3) := by decide +kernel
theorem dX12_findEnds_258 : decode cX12_findEnds 258 = .ok (.iload 4, 2) := by decide +kernel
theorem dX12_findEnds_260 : decode cX12_findEnds 260 = .ok (.laload, 1) := by decide +kernel
theorem dX12_findEnds_261 : decode cX12_findEnds 261 = .ok (.iconst 3, 1) := by decide +kernel
theorem dX12_findEnds_262 : decode cX12_findEnds 262 = .ok (.iconst 1, 1) := by decide +kernel
theorem dX12_findEnds_263 : decode cX12_findEnds 263 = .ok (.invokevirtual 198, 3) := by decide +kernel
theorem dX12_findEnds_266 : decode cX12_findEnds 266 = .ok (.aload_n 0, 1) := by decide +kernel
theorem dX12_findEnds_267 : decode cX12_findEnds 267 = .ok (.bipush 45, 2) := by decide +kernel
theorem dX12_findEnds_269 : decode cX12_findEnds 269 = .ok (.aload_n 0, 1) := by decide +kernel
theorem dX12_findEnds_270 : decode cX12_findEnds 270 = .ok (.getfield 56, 3) := by decide +kernel
theorem dX12_findEnds_273 : decode cX12_findEnds 273 = .ok (.iload_n 3, 1) := by decide +kernel
theorem dX12_findEnds_274 : decode cX12_findEnds 274 = .ok (.laload, 1) := by decide +kernel
theorem dX12_findEnds_275 : decode cX12_findEnds 275 = .ok (.aload_n 0, 1) := by decide +kernel
theorem dX12_findEnds_276 : decode cX12_findEnds 276 = .ok (.getfield 53, 3) := by decide +kernel
theorem dX12_findEnds_279 : decode cX12_findEnds 279 = .ok (.iload 4, 2) := by decide +kernel
theorem dX12_findEnds_281 : decode cX12_findEnds 281 = .ok (.laload, 1) := by decide +kernel
theorem dX12_findEnds_282 : decode cX12_findEnds 282 = .ok (.iconst 2, 1) := by decide +kernel
theorem dX12_findEnds_283 : decode cX12_findEnds 283 = .ok (.iconst 1, 1) := by decide +kernel
theorem dX12_findEnds_284 : decode cX12_findEnds 284 = .ok (.invokevirtual 198, 3) := by decide +kernel
theorem dX12_findEnds_287 : decode cX12_findEnds 287 = .ok (.invokevirtual 291, 3) := by decide +kernel
theorem dX12_findEnds_290 : decode cX12_findEnds 290 = .ok (.goto 26, 3) := by decide +kernel
theorem dX12_findEnds_293 : decode cX12_findEnds 293 = .ok (.aload_n 0, 1) := by decide +kernel
theorem dX12_findEnds_294 : decode cX12_findEnds 294 = .ok (.iload_n 1, 1) := by decide +kernel
theorem dX12_findEnds_295 : decode cX12_findEnds 295 = .ok (.aload_n 0, 1) := by decide +kernel
theorem dX12_findEnds_296 : decode cX12_findEnds 296 = .ok (.iload_n 2, 1) := by decide +kernel
theorem dX12_findEnds_297 : decode cX12_findEnds 297 = .ok (.iload_n 3, 1) := by decide +kernel
theorem dX12_findEnds_298 : decode cX12_findEnds 298 = .ok (.iload 4, 2) := by decide +kernel
theorem dX12_findEnds_300 : decode cX12_findEnds 300 = .ok (.iconst 0, 1) := by decide +kernel
theorem dX12_findEnds_301 : decode cX12_findEnds 301 = .ok (.invokevirtual 294, 3) := by decide +kernel
theorem dX12_findEnds_304 : decode cX12_findEnds 304 = .ok (.aload_n 0, 1) := by decide +kernel
theorem dX12_findEnds_305 : decode cX12_findEnds 305 = .ok (.iload_n 2, 1) := by decide +kernel
theorem dX12_findEnds_306 : decode cX12_findEnds 306 = .ok (.iload_n 3, 1) := by decide +kernel
theorem dX12_findEnds_307 : decode cX12_findEnds 307 = .ok (.iload 4, 2) := by decide +kernel
theorem dX12_findEnds_309 : decode cX12_findEnds 309 = .ok (.iconst 1, 1) := by decide +kernel
theorem dX12_findEnds_310 : decode cX12_findEnds 310 = .ok (.invokevirtual 294, 3) := by decide +kernel
theorem dX12_findEnds_313 : decode cX12_findEnds 313 = .ok (.invokevirtual 291, 3) := by decide +kernel
theorem dX12_findEnds_316 : decode cX12_findEnds 316 = .ok (.iinc 1 (-1), 3) := by decide +kernel
theorem dX12_findEnds_319 : decode cX12_findEnds 319 = .ok (.goto (-304), 3) := by decide +kernel
theorem dX12_findEnds_322 : decode cX12_findEnds 322 = .ok (.return_, 1) := by decide +kernel
set_option maxRecDepth 10000 in
theorem NX12_findEnds_0 {d : Nat} {S : fW} {h : fH} {Q : fH → Prop} {r0 : Nat} {r0_pad r0_text r0_number r0_span r0_now r0_sizeOf r0_workedTo r0_slip r0_exactUpper r0_exactLower r0_more r0_terms r0_order r0_bestOrder r0_low r0_high r0_built r0_better r0_base r0_kept r0_isKept : Nat}  
    (hs1 : (r0, shX12 r0_pad r0_text r0_number r0_span r0_now r0_sizeOf r0_workedTo r0_slip r0_exactUpper r0_exactLower r0_more r0_terms r0_order r0_bestOrder r0_low r0_high r0_built r0_better r0_base r0_kept r0_isKept) ∈ S)
    (w : ∃ Q1 : fH → Prop, OkV d mX12_layText S [.ref r0] h Q1 ∧ ∀ (h_1 : fH), Q1 h_1 → ∃ Q2 : fH → Prop, OkV d mX12_findSizes S [.ref r0] h_1 Q2 ∧ ∀ (h_2 : fH), Q2 h_2 → G mX12_findEnds (d + 1) S (f_PV Q) 15 [(0, .ref r0), (1, .int ((h_2.1 r0 14) - (1 : Int32)))] [] h_2) :
    OkV (d + 1) mX12_findEnds S [.ref r0] h Q := by
  refine Ok.of (by decide) (Nat.le_of_ble_eq_true rfl) ?_
  refine G_aload_n 0 rfl dX12_findEnds_0 rfl ?_
  obtain ⟨Q1, ok1, w⟩ := w
  refine G_callV (Z := mX12_layText) (As := []) (st := []) hL_X12_223 hI_X12_layText hS_X12_layText hC_X12_layText hN_X12 nX12_layText (by decide) hs1 rfl rfl rfl (Nat.le_of_ble_eq_true rfl) dX12_findEnds_1 ok1 (fun r_ h_1 z_ => ?_)
  obtain ⟨rfl, q_1⟩ := z_
  have w := w h_1 q_1
  refine G_aload_n 0 rfl dX12_findEnds_4 rfl ?_
  obtain ⟨Q2, ok2, w⟩ := w
  refine G_callV (Z := mX12_findSizes) (As := []) (st := []) hL_X12_195 hI_X12_findSizes hS_X12_findSizes hC_X12_findSizes hN_X12 nX12_findSizes (by decide) hs1 rfl rfl rfl (Nat.le_of_ble_eq_true rfl) dX12_findEnds_5 ok2 (fun r_ h_2 z_ => ?_)
  obtain ⟨rfl, q_2⟩ := z_
  have w := w h_2 q_2
  refine G_aload_n 0 rfl dX12_findEnds_8 rfl ?_
  refine G_geti (k := 14) hs1 (q := (RX12, TX12, 40)) rfl inX12 (by decide) (Or.inl rfl) hF_X12_192 dX12_findEnds_9 ?_
  refine G_iconst (v := 1) dX12_findEnds_12 (by decide) ?_
  refine G_isub dX12_findEnds_13 ?_
  refine G_istore_n dX12_findEnds_14 rfl (by decide) (lv' := [(1, .int ((h_2.1 r0 14) - (1 : Int32))), (0, .ref r0)]) rfl ?_
  exact G_sub [1, 0] rfl w

set_option maxRecDepth 10000 in
theorem NX12_findEnds_15 {d : Nat} {S : fW} {h : fH} {Q : fH → Prop} {r0 : Nat} {x1 : Int32} {r0_pad r0_text r0_number r0_span r0_now r0_sizeOf r0_workedTo r0_slip r0_exactUpper r0_exactLower r0_more r0_terms r0_order r0_bestOrder r0_low r0_high r0_built r0_better r0_base r0_kept r0_isKept : Nat}  
    (hs1 : (r0, shX12 r0_pad r0_text r0_number r0_span r0_now r0_sizeOf r0_workedTo r0_slip r0_exactUpper r0_exactLower r0_more r0_terms r0_order r0_bestOrder r0_low r0_high r0_built r0_better r0_base r0_kept r0_isKept) ∈ S)
    (hs2 : (r0_now, shI 13) ∈ S)
    (hs3 : (r0_sizeOf, shI 13) ∈ S)
    (hs4 : (r0_low, shJ 13) ∈ S)
    (hs5 : (r0_high, shJ 13) ∈ S)
    (hs6 : (r0_span, shI 5) ∈ S)
    (w : ((x1 < 0 → Q h) ∧ (¬ x1 < 0 → vp_in x1 13 ∧ ∃ Q1 : Int32 → fH → Prop, OkI d mX12_isSign S [.int (h.2.2.1 r0_now x1.toNatClampNeg)] h Q1 ∧ ∀ (v_1 : Int32) (h_1 : fH), Q1 v_1 h_1 → ((¬ v_1 = 0 → vp_in (x1 + (1 : Int32)) 13 ∧ (((h_1.2.2.2 r0_low (x1 + (1 : Int32)).toNatClampNeg) = (1000000000000000000 : Int64) → ∃ Q2 : fH → Prop, OkV d mX12_layEnds S [.ref r0, .int x1, .long (1000000000000000000 : Int64), .long (1000000000000000000 : Int64)] h_1 Q2 ∧ ∀ (h_2 : fH), Q2 h_2 → G mX12_findEnds (d + 1) S (f_PV Q) 15 [(0, .ref r0), (1, .int (x1 + (-1)))] [] h_2) ∧ (¬ (h_1.2.2.2 r0_low (x1 + (1 : Int32)).toNatClampNeg) = (1000000000000000000 : Int64) → vp_in ((x1 + (1 : Int32)) + (h_1.2.2.1 r0_sizeOf (x1 + (1 : Int32)).toNatClampNeg)) 13 ∧ (((h_1.2.2.2 r0_low ((x1 + (1 : Int32)) + (h_1.2.2.1 r0_sizeOf (x1 + (1 : Int32)).toNatClampNeg)).toNatClampNeg) = (1000000000000000000 : Int64) → ∃ Q3 : fH → Prop, OkV d mX12_layEnds S [.ref r0, .int x1, .long (1000000000000000000 : Int64), .long (1000000000000000000 : Int64)] h_1 Q3 ∧ ∀ (h_3 : fH), Q3 h_3 → G mX12_findEnds (d + 1) S (f_PV Q) 15 [(0, .ref r0), (1, .int (x1 + (-1)))] [] h_3) ∧ (¬ (h_1.2.2.2 r0_low ((x1 + (1 : Int32)) + (h_1.2.2.1 r0_sizeOf (x1 + (1 : Int32)).toNatClampNeg)).toNatClampNeg) = (1000000000000000000 : Int64) → ((¬ (h.2.2.1 r0_now x1.toNatClampNeg) = (47 : Int32) → G mX12_findEnds (d + 1) S (f_PV Q) 181 [(0, .ref r0), (1, .int x1), (2, .int (h.2.2.1 r0_now x1.toNatClampNeg)), (3, .int (x1 + (1 : Int32))), (4, .int ((x1 + (1 : Int32)) + (h_1.2.2.1 r0_sizeOf (x1 + (1 : Int32)).toNatClampNeg)))] [] h_1) ∧ ((h.2.2.1 r0_now x1.toNatClampNeg) = (47 : Int32) → (((0 : Int64) < (h_1.2.2.2 r0_low ((x1 + (1 : Int32)) + (h_1.2.2.1 r0_sizeOf (x1 + (1 : Int32)).toNatClampNeg)).toNatClampNeg) → G mX12_findEnds (d + 1) S (f_PV Q) 181 [(0, .ref r0), (1, .int x1), (2, .int (h.2.2.1 r0_now x1.toNatClampNeg)), (3, .int (x1 + (1 : Int32))), (4, .int ((x1 + (1 : Int32)) + (h_1.2.2.1 r0_sizeOf (x1 + (1 : Int32)).toNatClampNeg)))] [] h_1) ∧ (¬ (0 : Int64) < (h_1.2.2.2 r0_low ((x1 + (1 : Int32)) + (h_1.2.2.1 r0_sizeOf (x1 + (1 : Int32)).toNatClampNeg)).toNatClampNeg) → (((h_1.2.2.2 r0_high ((x1 + (1 : Int32)) + (h_1.2.2.1 r0_sizeOf (x1 + (1 : Int32)).toNatClampNeg)).toNatClampNeg) < (0 : Int64) → G mX12_findEnds (d + 1) S (f_PV Q) 181 [(0, .ref r0), (1, .int x1), (2, .int (h.2.2.1 r0_now x1.toNatClampNeg)), (3, .int (x1 + (1 : Int32))), (4, .int ((x1 + (1 : Int32)) + (h_1.2.2.1 r0_sizeOf (x1 + (1 : Int32)).toNatClampNeg)))] [] h_1) ∧ (¬ (h_1.2.2.2 r0_high ((x1 + (1 : Int32)) + (h_1.2.2.1 r0_sizeOf (x1 + (1 : Int32)).toNatClampNeg)).toNatClampNeg) < (0 : Int64) → ∃ Q4 : fH → Prop, OkV d mX12_layEnds S [.ref r0, .int x1, .long (1000000000000000000 : Int64), .long (1000000000000000000 : Int64)] h_1 Q4 ∧ ∀ (h_4 : fH), Q4 h_4 → G mX12_findEnds (d + 1) S (f_PV Q) 15 [(0, .ref r0), (1, .int (x1 + (-1)))] [] h_4))))))))))) ∧ (v_1 = 0 → ∃ Q5 : Int32 → fH → Prop, OkI d mX12_wholeAt S [.ref r0, .int x1] h_1 Q5 ∧ ∀ (v_5 : Int32) (h_5 : fH), Q5 v_5 h_5 → ∃ Q6 : Int32 → fH → Prop, OkI d mX12_isLetter S [.int (h.2.2.1 r0_now x1.toNatClampNeg)] h_5 Q6 ∧ ∀ (v_6 : Int32) (h_6 : fH), Q6 v_6 h_6 → ((v_6 = 0 → ∃ Q7 : Int64 → fH → Prop, OkL d mX12_roundOf S [.ref r0, .long ((1000000000 : Int64) * v_5.toInt64), .int (3 : Int32), .int (1 : Int32)] h_6 Q7 ∧ ∀ (v_7 : Int64) (h_7 : fH), Q7 v_7 h_7 → ∃ Q8 : Int64 → fH → Prop, OkL d mX12_roundOf S [.ref r0, .long ((1000000000 : Int64) * v_5.toInt64), .int (2 : Int32), .int (1 : Int32)] h_7 Q8 ∧ ∀ (v_8 : Int64) (h_8 : fH), Q8 v_8 h_8 → ∃ Q9 : fH → Prop, OkV d mX12_layEnds S [.ref r0, .int x1, .long v_7, .long v_8] h_8 Q9 ∧ ∀ (h_9 : fH), Q9 h_9 → G mX12_findEnds (d + 1) S (f_PV Q) 15 [(0, .ref r0), (1, .int (x1 + (-1)))] [] h_9) ∧ (¬ v_6 = 0 → vp_in ((h.2.2.1 r0_now x1.toNatClampNeg) - (97 : Int32)) 5 ∧ ∃ Q10 : Int64 → fH → Prop, OkL d mX12_roundOf S [.ref r0, .long ((1000000000 : Int64) * v_5.toInt64), .int (3 : Int32), .int (1 : Int32)] h_6 Q10 ∧ ∀ (v_10 : Int64) (h_10 : fH), Q10 v_10 h_10 → ∃ Q11 : Int64 → fH → Prop, OkL d mX12_roundOf S [.ref r0, .long (((1000000000 : Int64) * v_5.toInt64) + ((1000000000 : Int64) * ((h_6.2.2.1 r0_span ((h.2.2.1 r0_now x1.toNatClampNeg) - (97 : Int32)).toNatClampNeg).toInt64))), .int (2 : Int32), .int (1 : Int32)] h_10 Q11 ∧ ∀ (v_11 : Int64) (h_11 : fH), Q11 v_11 h_11 → ∃ Q12 : fH → Prop, OkV d mX12_layEnds S [.ref r0, .int x1, .long v_10, .long v_11] h_11 Q12 ∧ ∀ (h_12 : fH), Q12 h_12 → G mX12_findEnds (d + 1) S (f_PV Q) 15 [(0, .ref r0), (1, .int (x1 + (-1)))] [] h_12))))))) :
    G mX12_findEnds (d + 1) S (f_PV Q) 15 [(0, .ref r0), (1, .int x1)] [] h := by
  refine G_iload_n 1 rfl dX12_findEnds_15 rfl ?_
  refine G_if_lt (tgt := 322) dX12_findEnds_16 (by decide) (fun c1 => ?_) (fun c1 => ?_)
  · have w := w.1 c1
    exact G_vret rfl dX12_findEnds_322 ⟨rfl, w⟩
  · have w := w.2 c1
    refine G_aload_n 0 rfl dX12_findEnds_19 rfl ?_
    refine G_getr (j := r0_now) (k := 13) hs1 (q := (RX12, TX12, 40)) rfl inX12 (by decide) rfl hF_X12_22 dX12_findEnds_20 ?_
    refine G_iload_n 1 rfl dX12_findEnds_23 rfl ?_
    obtain ⟨sd1, w⟩ := w
    refine G_iald hs2 sd1 dX12_findEnds_24 ?_
    refine G_istore_n dX12_findEnds_25 rfl (by decide) (lv' := [(2, .int (h.2.2.1 r0_now x1.toNatClampNeg)), (0, .ref r0), (1, .int x1)]) rfl ?_
    refine G_iload_n 0 rfl dX12_findEnds_26 rfl ?_
    obtain ⟨Q1, ok1, w⟩ := w
    refine G_callS (Z := mX12_isSign) (As := [.int (h.2.2.1 r0_now x1.toNatClampNeg)]) (st := []) hL_X12_170 hT_X12_isSign hC_X12_isSign hN_X12 nX12_isSign (by decide) rfl (Nat.le_of_ble_eq_true rfl) dX12_findEnds_27 ok1 (fun r_ h_1 z_ => ?_)
    obtain ⟨v_1, rfl, q_1⟩ := z_
    have w := w v_1 h_1 q_1
    refine G_if_ne (tgt := 96) dX12_findEnds_30 (by decide) (fun c2 => ?_) (fun c2 => ?_)
    · have w := w.1 c2
      refine G_iload_n 2 rfl dX12_findEnds_96 rfl ?_
      refine G_iconst (v := 1) dX12_findEnds_97 (by decide) ?_
      refine G_iadd dX12_findEnds_98 ?_
      refine G_istore_n dX12_findEnds_99 rfl (by decide) (lv' := [(3, .int (x1 + (1 : Int32))), (2, .int (h.2.2.1 r0_now x1.toNatClampNeg)), (0, .ref r0), (1, .int x1)]) rfl ?_
      refine G_iload_n 0 rfl dX12_findEnds_100 rfl ?_
      refine G_aload_n 2 rfl dX12_findEnds_101 rfl ?_
      refine G_getr (j := r0_sizeOf) (k := 15) hs1 (q := (RX12, TX12, 40)) rfl inX12 (by decide) rfl hF_X12_25 dX12_findEnds_102 ?_
      refine G_iload_n 0 rfl dX12_findEnds_105 rfl ?_
      obtain ⟨sd2, w⟩ := w
      refine G_iald hs3 sd2 dX12_findEnds_106 ?_
      refine G_iadd dX12_findEnds_107 ?_
      refine G_istore dX12_findEnds_108 (by decide) (lv' := [(4, .int ((x1 + (1 : Int32)) + (h_1.2.2.1 r0_sizeOf (x1 + (1 : Int32)).toNatClampNeg))), (3, .int (x1 + (1 : Int32))), (2, .int (h.2.2.1 r0_now x1.toNatClampNeg)), (0, .ref r0), (1, .int x1)]) rfl ?_
      refine G_aload_n 3 rfl dX12_findEnds_110 rfl ?_
      refine G_getr (j := r0_low) (k := 27) hs1 (q := (RX12, TX12, 40)) rfl inX12 (by decide) rfl hF_X12_53 dX12_findEnds_111 ?_
      refine G_iload_n 1 rfl dX12_findEnds_114 rfl ?_
      refine G_lald hs4 sd2 dX12_findEnds_115 ?_
      refine G_ldc2 hK_X12_94 dX12_findEnds_116 ?_
      refine G_lif_eq (tgt := 167) dX12_findEnds_119 dX12_findEnds_120 (by decide) (fun c3 => ?_) (fun c3 => ?_)
      · have w := w.1 c3
        refine G_aload_n 3 rfl dX12_findEnds_167 rfl ?_
        refine G_iload_n 4 rfl dX12_findEnds_168 rfl ?_
        refine G_ldc2 hK_X12_94 dX12_findEnds_169 ?_
        refine G_ldc2 hK_X12_94 dX12_findEnds_172 ?_
        obtain ⟨Q2, ok2, w⟩ := w
        refine G_callV (Z := mX12_layEnds) (As := [.int x1, .long (1000000000000000000 : Int64), .long (1000000000000000000 : Int64)]) (st := []) hL_X12_291 hI_X12_layEnds hS_X12_layEnds hC_X12_layEnds hN_X12 nX12_layEnds (by decide) hs1 rfl rfl rfl (Nat.le_of_ble_eq_true rfl) dX12_findEnds_175 ok2 (fun r_ h_2 z_ => ?_)
        obtain ⟨rfl, q_2⟩ := z_
        have w := w h_2 q_2
        refine G_goto (tgt := 316) dX12_findEnds_178 (by decide) ?_
        refine G_iinc (v := -1) 4 rfl dX12_findEnds_316 (by decide) (by decide) (lv' := [(1, .int (x1 + (-1))), (4, .int ((x1 + (1 : Int32)) + (h_1.2.2.1 r0_sizeOf (x1 + (1 : Int32)).toNatClampNeg))), (3, .int (x1 + (1 : Int32))), (2, .int (h.2.2.1 r0_now x1.toNatClampNeg)), (0, .ref r0)]) rfl ?_
        refine G_goto (tgt := 15) dX12_findEnds_319 (by decide) ?_
        exact G_sub [4, 0] rfl w
      · have w := w.2 c3
        refine G_aload_n 3 rfl dX12_findEnds_123 rfl ?_
        refine G_getr (j := r0_low) (k := 27) hs1 (q := (RX12, TX12, 40)) rfl inX12 (by decide) rfl hF_X12_53 dX12_findEnds_124 ?_
        refine G_iload 0 rfl dX12_findEnds_127 ?_
        obtain ⟨sd3, w⟩ := w
        refine G_lald hs4 sd3 dX12_findEnds_129 ?_
        refine G_ldc2 hK_X12_94 dX12_findEnds_130 ?_
        refine G_lif_eq (tgt := 167) dX12_findEnds_133 dX12_findEnds_134 (by decide) (fun c4 => ?_) (fun c4 => ?_)
        · have w := w.1 c4
          refine G_aload_n 3 rfl dX12_findEnds_167 rfl ?_
          refine G_iload_n 4 rfl dX12_findEnds_168 rfl ?_
          refine G_ldc2 hK_X12_94 dX12_findEnds_169 ?_
          refine G_ldc2 hK_X12_94 dX12_findEnds_172 ?_
          obtain ⟨Q3, ok3, w⟩ := w
          refine G_callV (Z := mX12_layEnds) (As := [.int x1, .long (1000000000000000000 : Int64), .long (1000000000000000000 : Int64)]) (st := []) hL_X12_291 hI_X12_layEnds hS_X12_layEnds hC_X12_layEnds hN_X12 nX12_layEnds (by decide) hs1 rfl rfl rfl (Nat.le_of_ble_eq_true rfl) dX12_findEnds_175 ok3 (fun r_ h_3 z_ => ?_)
          obtain ⟨rfl, q_3⟩ := z_
          have w := w h_3 q_3
          refine G_goto (tgt := 316) dX12_findEnds_178 (by decide) ?_
          refine G_iinc (v := -1) 4 rfl dX12_findEnds_316 (by decide) (by decide) (lv' := [(1, .int (x1 + (-1))), (4, .int ((x1 + (1 : Int32)) + (h_1.2.2.1 r0_sizeOf (x1 + (1 : Int32)).toNatClampNeg))), (3, .int (x1 + (1 : Int32))), (2, .int (h.2.2.1 r0_now x1.toNatClampNeg)), (0, .ref r0)]) rfl ?_
          refine G_goto (tgt := 15) dX12_findEnds_319 (by decide) ?_
          exact G_sub [4, 0] rfl w
        · have w := w.2 c4
          refine G_iload_n 2 rfl dX12_findEnds_137 rfl ?_
          refine G_bipush (v := 47) dX12_findEnds_138 (by decide) ?_
          refine G_icmp_ne (tgt := 181) dX12_findEnds_140 (by decide) (fun c5 => ?_) (fun c5 => ?_)
          · have w := w.1 c5
            exact G_sub [3, 4, 2, 1, 0] rfl w
          · have w := w.2 c5
            refine G_aload_n 3 rfl dX12_findEnds_143 rfl ?_
            refine G_getr (j := r0_low) (k := 27) hs1 (q := (RX12, TX12, 40)) rfl inX12 (by decide) rfl hF_X12_53 dX12_findEnds_144 ?_
            refine G_iload 0 rfl dX12_findEnds_147 ?_
            refine G_lald hs4 sd3 dX12_findEnds_149 ?_
            refine G_lconst (v := 0) dX12_findEnds_150 (by decide) ?_
            refine G_lif_gt (tgt := 181) dX12_findEnds_151 dX12_findEnds_152 (by decide) (fun c6 => ?_) (fun c6 => ?_)
            · have w := w.1 c6
              exact G_sub [3, 4, 2, 1, 0] rfl w
            · have w := w.2 c6
              refine G_aload_n 3 rfl dX12_findEnds_155 rfl ?_
              refine G_getr (j := r0_high) (k := 28) hs1 (q := (RX12, TX12, 40)) rfl inX12 (by decide) rfl hF_X12_56 dX12_findEnds_156 ?_
              refine G_iload 0 rfl dX12_findEnds_159 ?_
              refine G_lald hs5 sd3 dX12_findEnds_161 ?_
              refine G_lconst (v := 0) dX12_findEnds_162 (by decide) ?_
              refine G_lif_lt (tgt := 181) dX12_findEnds_163 dX12_findEnds_164 (by decide) (fun c7 => ?_) (fun c7 => ?_)
              · have w := w.1 c7
                exact G_sub [3, 4, 2, 1, 0] rfl w
              · have w := w.2 c7
                refine G_aload_n 3 rfl dX12_findEnds_167 rfl ?_
                refine G_iload_n 4 rfl dX12_findEnds_168 rfl ?_
                refine G_ldc2 hK_X12_94 dX12_findEnds_169 ?_
                refine G_ldc2 hK_X12_94 dX12_findEnds_172 ?_
                obtain ⟨Q4, ok4, w⟩ := w
                refine G_callV (Z := mX12_layEnds) (As := [.int x1, .long (1000000000000000000 : Int64), .long (1000000000000000000 : Int64)]) (st := []) hL_X12_291 hI_X12_layEnds hS_X12_layEnds hC_X12_layEnds hN_X12 nX12_layEnds (by decide) hs1 rfl rfl rfl (Nat.le_of_ble_eq_true rfl) dX12_findEnds_175 ok4 (fun r_ h_4 z_ => ?_)
                obtain ⟨rfl, q_4⟩ := z_
                have w := w h_4 q_4
                refine G_goto (tgt := 316) dX12_findEnds_178 (by decide) ?_
                refine G_iinc (v := -1) 4 rfl dX12_findEnds_316 (by decide) (by decide) (lv' := [(1, .int (x1 + (-1))), (4, .int ((x1 + (1 : Int32)) + (h_1.2.2.1 r0_sizeOf (x1 + (1 : Int32)).toNatClampNeg))), (3, .int (x1 + (1 : Int32))), (2, .int (h.2.2.1 r0_now x1.toNatClampNeg)), (0, .ref r0)]) rfl ?_
                refine G_goto (tgt := 15) dX12_findEnds_319 (by decide) ?_
                exact G_sub [4, 0] rfl w
    · have w := w.2 c2
      refine G_ldc2 hK_X12_206 dX12_findEnds_33 ?_
      refine G_aload_n 1 rfl dX12_findEnds_36 rfl ?_
      refine G_iload_n 2 rfl dX12_findEnds_37 rfl ?_
      obtain ⟨Q5, ok5, w⟩ := w
      refine G_callV (Z := mX12_wholeAt) (As := [.int x1]) (st := [.long (1000000000 : Int64)]) hL_X12_208 hI_X12_wholeAt hS_X12_wholeAt hC_X12_wholeAt hN_X12 nX12_wholeAt (by decide) hs1 rfl rfl rfl (Nat.le_of_ble_eq_true rfl) dX12_findEnds_38 ok5 (fun r_ h_5 z_ => ?_)
      obtain ⟨v_5, rfl, q_5⟩ := z_
      have w := w v_5 h_5 q_5
      refine G_i2l dX12_findEnds_41 ?_
      refine G_lmul dX12_findEnds_42 ?_
      refine G_lstore_n dX12_findEnds_43 rfl (by decide) (lv' := [(3, .long ((1000000000 : Int64) * v_5.toInt64)), (2, .int (h.2.2.1 r0_now x1.toNatClampNeg)), (0, .ref r0), (1, .int x1)]) rfl ?_
      refine G_iload_n 1 rfl dX12_findEnds_44 rfl ?_
      obtain ⟨Q6, ok6, w⟩ := w
      refine G_callS (Z := mX12_isLetter) (As := [.int (h.2.2.1 r0_now x1.toNatClampNeg)]) (st := []) hL_X12_173 hT_X12_isLetter hC_X12_isLetter hN_X12 nX12_isLetter (by decide) rfl (Nat.le_of_ble_eq_true rfl) dX12_findEnds_45 ok6 (fun r_ h_6 z_ => ?_)
      obtain ⟨v_6, rfl, q_6⟩ := z_
      have w := w v_6 h_6 q_6
      refine G_if_eq (tgt := 70) dX12_findEnds_48 (by decide) (fun c3 => ?_) (fun c3 => ?_)
      · have w := w.1 c3
        refine G_lload_n 0 rfl dX12_findEnds_70 rfl ?_
        refine G_lstore dX12_findEnds_71 (by decide) (lv' := [(5, .long ((1000000000 : Int64) * v_5.toInt64)), (3, .long ((1000000000 : Int64) * v_5.toInt64)), (2, .int (h.2.2.1 r0_now x1.toNatClampNeg)), (0, .ref r0), (1, .int x1)]) rfl ?_
        refine G_aload_n 3 rfl dX12_findEnds_73 rfl ?_
        refine G_iload_n 4 rfl dX12_findEnds_74 rfl ?_
        refine G_aload_n 3 rfl dX12_findEnds_75 rfl ?_
        refine G_lload_n 1 rfl dX12_findEnds_76 rfl ?_
        refine G_iconst (v := 3) dX12_findEnds_77 (by decide) ?_
        refine G_iconst (v := 1) dX12_findEnds_78 (by decide) ?_
        obtain ⟨Q7, ok7, w⟩ := w
        refine G_callV (Z := mX12_roundOf) (As := [.long ((1000000000 : Int64) * v_5.toInt64), .int (3 : Int32), .int (1 : Int32)]) (st := [.int x1, .ref r0]) hL_X12_126 hI_X12_roundOf hS_X12_roundOf hC_X12_roundOf hN_X12 nX12_roundOf (by decide) hs1 rfl rfl rfl (Nat.le_of_ble_eq_true rfl) dX12_findEnds_79 ok7 (fun r_ h_7 z_ => ?_)
        obtain ⟨v_7, rfl, q_7⟩ := z_
        have w := w v_7 h_7 q_7
        refine G_aload_n 3 rfl dX12_findEnds_82 rfl ?_
        refine G_lload 0 rfl dX12_findEnds_83 ?_
        refine G_iconst (v := 2) dX12_findEnds_85 (by decide) ?_
        refine G_iconst (v := 1) dX12_findEnds_86 (by decide) ?_
        obtain ⟨Q8, ok8, w⟩ := w
        refine G_callV (Z := mX12_roundOf) (As := [.long ((1000000000 : Int64) * v_5.toInt64), .int (2 : Int32), .int (1 : Int32)]) (st := [.long v_7, .int x1, .ref r0]) hL_X12_126 hI_X12_roundOf hS_X12_roundOf hC_X12_roundOf hN_X12 nX12_roundOf (by decide) hs1 rfl rfl rfl (Nat.le_of_ble_eq_true rfl) dX12_findEnds_87 ok8 (fun r_ h_8 z_ => ?_)
        obtain ⟨v_8, rfl, q_8⟩ := z_
        have w := w v_8 h_8 q_8
        obtain ⟨Q9, ok9, w⟩ := w
        refine G_callV (Z := mX12_layEnds) (As := [.int x1, .long v_7, .long v_8]) (st := []) hL_X12_291 hI_X12_layEnds hS_X12_layEnds hC_X12_layEnds hN_X12 nX12_layEnds (by decide) hs1 rfl rfl rfl (Nat.le_of_ble_eq_true rfl) dX12_findEnds_90 ok9 (fun r_ h_9 z_ => ?_)
        obtain ⟨rfl, q_9⟩ := z_
        have w := w h_9 q_9
        refine G_goto (tgt := 316) dX12_findEnds_93 (by decide) ?_
        refine G_iinc (v := -1) 4 rfl dX12_findEnds_316 (by decide) (by decide) (lv' := [(1, .int (x1 + (-1))), (5, .long ((1000000000 : Int64) * v_5.toInt64)), (3, .long ((1000000000 : Int64) * v_5.toInt64)), (2, .int (h.2.2.1 r0_now x1.toNatClampNeg)), (0, .ref r0)]) rfl ?_
        refine G_goto (tgt := 15) dX12_findEnds_319 (by decide) ?_
        exact G_sub [4, 0] rfl w
      · have w := w.2 c3
        refine G_lload_n 0 rfl dX12_findEnds_51 rfl ?_
        refine G_ldc2 hK_X12_206 dX12_findEnds_52 ?_
        refine G_aload_n 2 rfl dX12_findEnds_55 rfl ?_
        refine G_getr (j := r0_span) (k := 12) hs1 (q := (RX12, TX12, 40)) rfl inX12 (by decide) rfl hF_X12_19 dX12_findEnds_56 ?_
        refine G_iload_n 1 rfl dX12_findEnds_59 rfl ?_
        refine G_bipush (v := 97) dX12_findEnds_60 (by decide) ?_
        refine G_isub dX12_findEnds_62 ?_
        obtain ⟨sd2, w⟩ := w
        refine G_iald hs6 sd2 dX12_findEnds_63 ?_
        refine G_i2l dX12_findEnds_64 ?_
        refine G_lmul dX12_findEnds_65 ?_
        refine G_ladd dX12_findEnds_66 ?_
        refine G_goto (tgt := 71) dX12_findEnds_67 (by decide) ?_
        refine G_lstore dX12_findEnds_71 (by decide) (lv' := [(5, .long (((1000000000 : Int64) * v_5.toInt64) + ((1000000000 : Int64) * ((h_6.2.2.1 r0_span ((h.2.2.1 r0_now x1.toNatClampNeg) - (97 : Int32)).toNatClampNeg).toInt64)))), (3, .long ((1000000000 : Int64) * v_5.toInt64)), (2, .int (h.2.2.1 r0_now x1.toNatClampNeg)), (0, .ref r0), (1, .int x1)]) rfl ?_
        refine G_aload_n 3 rfl dX12_findEnds_73 rfl ?_
        refine G_iload_n 4 rfl dX12_findEnds_74 rfl ?_
        refine G_aload_n 3 rfl dX12_findEnds_75 rfl ?_
        refine G_lload_n 1 rfl dX12_findEnds_76 rfl ?_
        refine G_iconst (v := 3) dX12_findEnds_77 (by decide) ?_
        refine G_iconst (v := 1) dX12_findEnds_78 (by decide) ?_
        obtain ⟨Q10, ok10, w⟩ := w
        refine G_callV (Z := mX12_roundOf) (As := [.long ((1000000000 : Int64) * v_5.toInt64), .int (3 : Int32), .int (1 : Int32)]) (st := [.int x1, .ref r0]) hL_X12_126 hI_X12_roundOf hS_X12_roundOf hC_X12_roundOf hN_X12 nX12_roundOf (by decide) hs1 rfl rfl rfl (Nat.le_of_ble_eq_true rfl) dX12_findEnds_79 ok10 (fun r_ h_10 z_ => ?_)
        obtain ⟨v_10, rfl, q_10⟩ := z_
        have w := w v_10 h_10 q_10
        refine G_aload_n 3 rfl dX12_findEnds_82 rfl ?_
        refine G_lload 0 rfl dX12_findEnds_83 ?_
        refine G_iconst (v := 2) dX12_findEnds_85 (by decide) ?_
        refine G_iconst (v := 1) dX12_findEnds_86 (by decide) ?_
        obtain ⟨Q11, ok11, w⟩ := w
        refine G_callV (Z := mX12_roundOf) (As := [.long (((1000000000 : Int64) * v_5.toInt64) + ((1000000000 : Int64) * ((h_6.2.2.1 r0_span ((h.2.2.1 r0_now x1.toNatClampNeg) - (97 : Int32)).toNatClampNeg).toInt64))), .int (2 : Int32), .int (1 : Int32)]) (st := [.long v_10, .int x1, .ref r0]) hL_X12_126 hI_X12_roundOf hS_X12_roundOf hC_X12_roundOf hN_X12 nX12_roundOf (by decide) hs1 rfl rfl rfl (Nat.le_of_ble_eq_true rfl) dX12_findEnds_87 ok11 (fun r_ h_11 z_ => ?_)
        obtain ⟨v_11, rfl, q_11⟩ := z_
        have w := w v_11 h_11 q_11
        obtain ⟨Q12, ok12, w⟩ := w
        refine G_callV (Z := mX12_layEnds) (As := [.int x1, .long v_10, .long v_11]) (st := []) hL_X12_291 hI_X12_layEnds hS_X12_layEnds hC_X12_layEnds hN_X12 nX12_layEnds (by decide) hs1 rfl rfl rfl (Nat.le_of_ble_eq_true rfl) dX12_findEnds_90 ok12 (fun r_ h_12 z_ => ?_)
        obtain ⟨rfl, q_12⟩ := z_
        have w := w h_12 q_12
        refine G_goto (tgt := 316) dX12_findEnds_93 (by decide) ?_
        refine G_iinc (v := -1) 4 rfl dX12_findEnds_316 (by decide) (by decide) (lv' := [(1, .int (x1 + (-1))), (5, .long (((1000000000 : Int64) * v_5.toInt64) + ((1000000000 : Int64) * ((h_6.2.2.1 r0_span ((h.2.2.1 r0_now x1.toNatClampNeg) - (97 : Int32)).toNatClampNeg).toInt64)))), (3, .long ((1000000000 : Int64) * v_5.toInt64)), (2, .int (h.2.2.1 r0_now x1.toNatClampNeg)), (0, .ref r0)]) rfl ?_
        refine G_goto (tgt := 15) dX12_findEnds_319 (by decide) ?_
        exact G_sub [4, 0] rfl w

set_option maxRecDepth 10000 in
theorem NX12_findEnds_181 {d : Nat} {S : fW} {h : fH} {Q : fH → Prop} {r0 : Nat} {x1 : Int32} {x2 : Int32} {x3 : Int32} {x4 : Int32} {r0_pad r0_text r0_number r0_span r0_now r0_sizeOf r0_workedTo r0_slip r0_exactUpper r0_exactLower r0_more r0_terms r0_order r0_bestOrder r0_low r0_high r0_built r0_better r0_base r0_kept r0_isKept : Nat}  
    (hs1 : (r0, shX12 r0_pad r0_text r0_number r0_span r0_now r0_sizeOf r0_workedTo r0_slip r0_exactUpper r0_exactLower r0_more r0_terms r0_order r0_bestOrder r0_low r0_high r0_built r0_better r0_base r0_kept r0_isKept) ∈ S)
    (hs2 : (r0_low, shJ 13) ∈ S)
    (hs3 : (r0_high, shJ 13) ∈ S)
    (w : ((¬ x2 = (43 : Int32) → ((¬ x2 = (45 : Int32) → ∃ Q1 : Int64 → fH → Prop, OkL d mX12_ofPairs S [.ref r0, .int x2, .int x3, .int x4, .int (0 : Int32)] h Q1 ∧ ∀ (v_1 : Int64) (h_1 : fH), Q1 v_1 h_1 → ∃ Q2 : Int64 → fH → Prop, OkL d mX12_ofPairs S [.ref r0, .int x2, .int x3, .int x4, .int (1 : Int32)] h_1 Q2 ∧ ∀ (v_2 : Int64) (h_2 : fH), Q2 v_2 h_2 → ∃ Q3 : fH → Prop, OkV d mX12_layEnds S [.ref r0, .int x1, .long v_1, .long v_2] h_2 Q3 ∧ ∀ (h_3 : fH), Q3 h_3 → G mX12_findEnds (d + 1) S (f_PV Q) 15 [(0, .ref r0), (1, .int (x1 + (-1)))] [] h_3) ∧ (x2 = (45 : Int32) → vp_in x3 13 ∧ vp_in x4 13 ∧ ∃ Q4 : Int64 → fH → Prop, OkL d mX12_made S [.ref r0, .int (45 : Int32), .long (h.2.2.2 r0_low x3.toNatClampNeg), .long (h.2.2.2 r0_high x4.toNatClampNeg), .int (3 : Int32), .int (1 : Int32)] h Q4 ∧ ∀ (v_4 : Int64) (h_4 : fH), Q4 v_4 h_4 → ∃ Q5 : Int64 → fH → Prop, OkL d mX12_made S [.ref r0, .int (45 : Int32), .long (h_4.2.2.2 r0_high x3.toNatClampNeg), .long (h_4.2.2.2 r0_low x4.toNatClampNeg), .int (2 : Int32), .int (1 : Int32)] h_4 Q5 ∧ ∀ (v_5 : Int64) (h_5 : fH), Q5 v_5 h_5 → ∃ Q6 : fH → Prop, OkV d mX12_layEnds S [.ref r0, .int x1, .long v_4, .long v_5] h_5 Q6 ∧ ∀ (h_6 : fH), Q6 h_6 → G mX12_findEnds (d + 1) S (f_PV Q) 15 [(0, .ref r0), (1, .int (x1 + (-1)))] [] h_6))) ∧ (x2 = (43 : Int32) → vp_in x3 13 ∧ vp_in x4 13 ∧ ∃ Q7 : Int64 → fH → Prop, OkL d mX12_made S [.ref r0, .int (43 : Int32), .long (h.2.2.2 r0_low x3.toNatClampNeg), .long (h.2.2.2 r0_low x4.toNatClampNeg), .int (3 : Int32), .int (1 : Int32)] h Q7 ∧ ∀ (v_7 : Int64) (h_7 : fH), Q7 v_7 h_7 → ∃ Q8 : Int64 → fH → Prop, OkL d mX12_made S [.ref r0, .int (43 : Int32), .long (h_7.2.2.2 r0_high x3.toNatClampNeg), .long (h_7.2.2.2 r0_high x4.toNatClampNeg), .int (2 : Int32), .int (1 : Int32)] h_7 Q8 ∧ ∀ (v_8 : Int64) (h_8 : fH), Q8 v_8 h_8 → ∃ Q9 : fH → Prop, OkV d mX12_layEnds S [.ref r0, .int x1, .long v_7, .long v_8] h_8 Q9 ∧ ∀ (h_9 : fH), Q9 h_9 → G mX12_findEnds (d + 1) S (f_PV Q) 15 [(0, .ref r0), (1, .int (x1 + (-1)))] [] h_9))) :
    G mX12_findEnds (d + 1) S (f_PV Q) 181 [(0, .ref r0), (1, .int x1), (2, .int x2), (3, .int x3), (4, .int x4)] [] h := by
  refine G_iload_n 2 rfl dX12_findEnds_181 rfl ?_
  refine G_bipush (v := 43) dX12_findEnds_182 (by decide) ?_
  refine G_icmp_ne (tgt := 237) dX12_findEnds_184 (by decide) (fun c1 => ?_) (fun c1 => ?_)
  · have w := w.1 c1
    refine G_iload_n 2 rfl dX12_findEnds_237 rfl ?_
    refine G_bipush (v := 45) dX12_findEnds_238 (by decide) ?_
    refine G_icmp_ne (tgt := 293) dX12_findEnds_240 (by decide) (fun c2 => ?_) (fun c2 => ?_)
    · have w := w.1 c2
      refine G_aload_n 0 rfl dX12_findEnds_293 rfl ?_
      refine G_iload_n 1 rfl dX12_findEnds_294 rfl ?_
      refine G_aload_n 0 rfl dX12_findEnds_295 rfl ?_
      refine G_iload_n 2 rfl dX12_findEnds_296 rfl ?_
      refine G_iload_n 3 rfl dX12_findEnds_297 rfl ?_
      refine G_iload 4 rfl dX12_findEnds_298 ?_
      refine G_iconst (v := 0) dX12_findEnds_300 (by decide) ?_
      obtain ⟨Q1, ok1, w⟩ := w
      refine G_callV (Z := mX12_ofPairs) (As := [.int x2, .int x3, .int x4, .int (0 : Int32)]) (st := [.int x1, .ref r0]) hL_X12_294 hI_X12_ofPairs hS_X12_ofPairs hC_X12_ofPairs hN_X12 nX12_ofPairs (by decide) hs1 rfl rfl rfl (Nat.le_of_ble_eq_true rfl) dX12_findEnds_301 ok1 (fun r_ h_1 z_ => ?_)
      obtain ⟨v_1, rfl, q_1⟩ := z_
      have w := w v_1 h_1 q_1
      refine G_aload_n 0 rfl dX12_findEnds_304 rfl ?_
      refine G_iload_n 2 rfl dX12_findEnds_305 rfl ?_
      refine G_iload_n 3 rfl dX12_findEnds_306 rfl ?_
      refine G_iload 4 rfl dX12_findEnds_307 ?_
      refine G_iconst (v := 1) dX12_findEnds_309 (by decide) ?_
      obtain ⟨Q2, ok2, w⟩ := w
      refine G_callV (Z := mX12_ofPairs) (As := [.int x2, .int x3, .int x4, .int (1 : Int32)]) (st := [.long v_1, .int x1, .ref r0]) hL_X12_294 hI_X12_ofPairs hS_X12_ofPairs hC_X12_ofPairs hN_X12 nX12_ofPairs (by decide) hs1 rfl rfl rfl (Nat.le_of_ble_eq_true rfl) dX12_findEnds_310 ok2 (fun r_ h_2 z_ => ?_)
      obtain ⟨v_2, rfl, q_2⟩ := z_
      have w := w v_2 h_2 q_2
      obtain ⟨Q3, ok3, w⟩ := w
      refine G_callV (Z := mX12_layEnds) (As := [.int x1, .long v_1, .long v_2]) (st := []) hL_X12_291 hI_X12_layEnds hS_X12_layEnds hC_X12_layEnds hN_X12 nX12_layEnds (by decide) hs1 rfl rfl rfl (Nat.le_of_ble_eq_true rfl) dX12_findEnds_313 ok3 (fun r_ h_3 z_ => ?_)
      obtain ⟨rfl, q_3⟩ := z_
      have w := w h_3 q_3
      refine G_iinc (v := -1) 1 rfl dX12_findEnds_316 (by decide) (by decide) (lv' := [(1, .int (x1 + (-1))), (0, .ref r0), (2, .int x2), (3, .int x3), (4, .int x4)]) rfl ?_
      refine G_goto (tgt := 15) dX12_findEnds_319 (by decide) ?_
      exact G_sub [1, 0] rfl w
    · have w := w.2 c2
      refine G_aload_n 0 rfl dX12_findEnds_243 rfl ?_
      refine G_iload_n 1 rfl dX12_findEnds_244 rfl ?_
      refine G_aload_n 0 rfl dX12_findEnds_245 rfl ?_
      refine G_bipush (v := 45) dX12_findEnds_246 (by decide) ?_
      refine G_aload_n 0 rfl dX12_findEnds_248 rfl ?_
      refine G_getr (j := r0_low) (k := 27) hs1 (q := (RX12, TX12, 40)) rfl inX12 (by decide) rfl hF_X12_53 dX12_findEnds_249 ?_
      refine G_iload_n 3 rfl dX12_findEnds_252 rfl ?_
      obtain ⟨sd1, w⟩ := w
      refine G_lald hs2 sd1 dX12_findEnds_253 ?_
      refine G_aload_n 0 rfl dX12_findEnds_254 rfl ?_
      refine G_getr (j := r0_high) (k := 28) hs1 (q := (RX12, TX12, 40)) rfl inX12 (by decide) rfl hF_X12_56 dX12_findEnds_255 ?_
      refine G_iload 4 rfl dX12_findEnds_258 ?_
      obtain ⟨sd2, w⟩ := w
      refine G_lald hs3 sd2 dX12_findEnds_260 ?_
      refine G_iconst (v := 3) dX12_findEnds_261 (by decide) ?_
      refine G_iconst (v := 1) dX12_findEnds_262 (by decide) ?_
      obtain ⟨Q4, ok4, w⟩ := w
      refine G_callV (Z := mX12_made) (As := [.int (45 : Int32), .long (h.2.2.2 r0_low x3.toNatClampNeg), .long (h.2.2.2 r0_high x4.toNatClampNeg), .int (3 : Int32), .int (1 : Int32)]) (st := [.int x1, .ref r0]) hL_X12_198 hI_X12_made hS_X12_made hC_X12_made hN_X12 nX12_made (by decide) hs1 rfl rfl rfl (Nat.le_of_ble_eq_true rfl) dX12_findEnds_263 ok4 (fun r_ h_4 z_ => ?_)
      obtain ⟨v_4, rfl, q_4⟩ := z_
      have w := w v_4 h_4 q_4
      refine G_aload_n 0 rfl dX12_findEnds_266 rfl ?_
      refine G_bipush (v := 45) dX12_findEnds_267 (by decide) ?_
      refine G_aload_n 0 rfl dX12_findEnds_269 rfl ?_
      refine G_getr (j := r0_high) (k := 28) hs1 (q := (RX12, TX12, 40)) rfl inX12 (by decide) rfl hF_X12_56 dX12_findEnds_270 ?_
      refine G_iload_n 3 rfl dX12_findEnds_273 rfl ?_
      refine G_lald hs3 sd1 dX12_findEnds_274 ?_
      refine G_aload_n 0 rfl dX12_findEnds_275 rfl ?_
      refine G_getr (j := r0_low) (k := 27) hs1 (q := (RX12, TX12, 40)) rfl inX12 (by decide) rfl hF_X12_53 dX12_findEnds_276 ?_
      refine G_iload 4 rfl dX12_findEnds_279 ?_
      refine G_lald hs2 sd2 dX12_findEnds_281 ?_
      refine G_iconst (v := 2) dX12_findEnds_282 (by decide) ?_
      refine G_iconst (v := 1) dX12_findEnds_283 (by decide) ?_
      obtain ⟨Q5, ok5, w⟩ := w
      refine G_callV (Z := mX12_made) (As := [.int (45 : Int32), .long (h_4.2.2.2 r0_high x3.toNatClampNeg), .long (h_4.2.2.2 r0_low x4.toNatClampNeg), .int (2 : Int32), .int (1 : Int32)]) (st := [.long v_4, .int x1, .ref r0]) hL_X12_198 hI_X12_made hS_X12_made hC_X12_made hN_X12 nX12_made (by decide) hs1 rfl rfl rfl (Nat.le_of_ble_eq_true rfl) dX12_findEnds_284 ok5 (fun r_ h_5 z_ => ?_)
      obtain ⟨v_5, rfl, q_5⟩ := z_
      have w := w v_5 h_5 q_5
      obtain ⟨Q6, ok6, w⟩ := w
      refine G_callV (Z := mX12_layEnds) (As := [.int x1, .long v_4, .long v_5]) (st := []) hL_X12_291 hI_X12_layEnds hS_X12_layEnds hC_X12_layEnds hN_X12 nX12_layEnds (by decide) hs1 rfl rfl rfl (Nat.le_of_ble_eq_true rfl) dX12_findEnds_287 ok6 (fun r_ h_6 z_ => ?_)
      obtain ⟨rfl, q_6⟩ := z_
      have w := w h_6 q_6
      refine G_goto (tgt := 316) dX12_findEnds_290 (by decide) ?_
      refine G_iinc (v := -1) 1 rfl dX12_findEnds_316 (by decide) (by decide) (lv' := [(1, .int (x1 + (-1))), (0, .ref r0), (2, .int x2), (3, .int x3), (4, .int x4)]) rfl ?_
      refine G_goto (tgt := 15) dX12_findEnds_319 (by decide) ?_
      exact G_sub [1, 0] rfl w
  · have w := w.2 c1
    refine G_aload_n 0 rfl dX12_findEnds_187 rfl ?_
    refine G_iload_n 1 rfl dX12_findEnds_188 rfl ?_
    refine G_aload_n 0 rfl dX12_findEnds_189 rfl ?_
    refine G_bipush (v := 43) dX12_findEnds_190 (by decide) ?_
    refine G_aload_n 0 rfl dX12_findEnds_192 rfl ?_
    refine G_getr (j := r0_low) (k := 27) hs1 (q := (RX12, TX12, 40)) rfl inX12 (by decide) rfl hF_X12_53 dX12_findEnds_193 ?_
    refine G_iload_n 3 rfl dX12_findEnds_196 rfl ?_
    obtain ⟨sd1, w⟩ := w
    refine G_lald hs2 sd1 dX12_findEnds_197 ?_
    refine G_aload_n 0 rfl dX12_findEnds_198 rfl ?_
    refine G_getr (j := r0_low) (k := 27) hs1 (q := (RX12, TX12, 40)) rfl inX12 (by decide) rfl hF_X12_53 dX12_findEnds_199 ?_
    refine G_iload 4 rfl dX12_findEnds_202 ?_
    obtain ⟨sd2, w⟩ := w
    refine G_lald hs2 sd2 dX12_findEnds_204 ?_
    refine G_iconst (v := 3) dX12_findEnds_205 (by decide) ?_
    refine G_iconst (v := 1) dX12_findEnds_206 (by decide) ?_
    obtain ⟨Q7, ok7, w⟩ := w
    refine G_callV (Z := mX12_made) (As := [.int (43 : Int32), .long (h.2.2.2 r0_low x3.toNatClampNeg), .long (h.2.2.2 r0_low x4.toNatClampNeg), .int (3 : Int32), .int (1 : Int32)]) (st := [.int x1, .ref r0]) hL_X12_198 hI_X12_made hS_X12_made hC_X12_made hN_X12 nX12_made (by decide) hs1 rfl rfl rfl (Nat.le_of_ble_eq_true rfl) dX12_findEnds_207 ok7 (fun r_ h_7 z_ => ?_)
    obtain ⟨v_7, rfl, q_7⟩ := z_
    have w := w v_7 h_7 q_7
    refine G_aload_n 0 rfl dX12_findEnds_210 rfl ?_
    refine G_bipush (v := 43) dX12_findEnds_211 (by decide) ?_
    refine G_aload_n 0 rfl dX12_findEnds_213 rfl ?_
    refine G_getr (j := r0_high) (k := 28) hs1 (q := (RX12, TX12, 40)) rfl inX12 (by decide) rfl hF_X12_56 dX12_findEnds_214 ?_
    refine G_iload_n 3 rfl dX12_findEnds_217 rfl ?_
    refine G_lald hs3 sd1 dX12_findEnds_218 ?_
    refine G_aload_n 0 rfl dX12_findEnds_219 rfl ?_
    refine G_getr (j := r0_high) (k := 28) hs1 (q := (RX12, TX12, 40)) rfl inX12 (by decide) rfl hF_X12_56 dX12_findEnds_220 ?_
    refine G_iload 4 rfl dX12_findEnds_223 ?_
    refine G_lald hs3 sd2 dX12_findEnds_225 ?_
    refine G_iconst (v := 2) dX12_findEnds_226 (by decide) ?_
    refine G_iconst (v := 1) dX12_findEnds_227 (by decide) ?_
    obtain ⟨Q8, ok8, w⟩ := w
    refine G_callV (Z := mX12_made) (As := [.int (43 : Int32), .long (h_7.2.2.2 r0_high x3.toNatClampNeg), .long (h_7.2.2.2 r0_high x4.toNatClampNeg), .int (2 : Int32), .int (1 : Int32)]) (st := [.long v_7, .int x1, .ref r0]) hL_X12_198 hI_X12_made hS_X12_made hC_X12_made hN_X12 nX12_made (by decide) hs1 rfl rfl rfl (Nat.le_of_ble_eq_true rfl) dX12_findEnds_228 ok8 (fun r_ h_8 z_ => ?_)
    obtain ⟨v_8, rfl, q_8⟩ := z_
    have w := w v_8 h_8 q_8
    obtain ⟨Q9, ok9, w⟩ := w
    refine G_callV (Z := mX12_layEnds) (As := [.int x1, .long v_7, .long v_8]) (st := []) hL_X12_291 hI_X12_layEnds hS_X12_layEnds hC_X12_layEnds hN_X12 nX12_layEnds (by decide) hs1 rfl rfl rfl (Nat.le_of_ble_eq_true rfl) dX12_findEnds_231 ok9 (fun r_ h_9 z_ => ?_)
    obtain ⟨rfl, q_9⟩ := z_
    have w := w h_9 q_9
    refine G_goto (tgt := 316) dX12_findEnds_234 (by decide) ?_
    refine G_iinc (v := -1) 1 rfl dX12_findEnds_316 (by decide) (by decide) (lv' := [(1, .int (x1 + (-1))), (0, .ref r0), (2, .int x2), (3, .int x3), (4, .int x4)]) rfl ?_
    refine G_goto (tgt := 15) dX12_findEnds_319 (by decide) ?_
    exact G_sub [1, 0] rfl w
-- LostDigitsModel.bounds
theorem dX12_bounds_0 : decode cX12_bounds 0 = .ok (.iload_n 1, 1) := by decide +kernel
theorem dX12_bounds_1 : decode cX12_bounds 1 = .ok (.invokestatic 134, 3) := by decide +kernel
theorem dX12_bounds_4 : decode cX12_bounds 4 = .ok (.ifCond .ne 7, 3) := by decide +kernel
theorem dX12_bounds_7 : decode cX12_bounds 7 = .ok (.ldc2_w 153, 3) := by decide +kernel
theorem dX12_bounds_10 : decode cX12_bounds 10 = .ok (.lreturn, 1) := by decide +kernel
theorem dX12_bounds_11 : decode cX12_bounds 11 = .ok (.aload_n 0, 1) := by decide +kernel
theorem dX12_bounds_12 : decode cX12_bounds 12 = .ok (.invokevirtual 298, 3) := by decide +kernel
theorem dX12_bounds_15 : decode cX12_bounds 15 = .ok (.iload_n 1, 1) := by decide +kernel
theorem dX12_bounds_16 : decode cX12_bounds 16 = .ok (.ifCond .ne 12, 3) := by decide +kernel
theorem dX12_bounds_19 : decode cX12_bounds 19 = .ok (.aload_n 0, 1) := by decide +kernel
theorem dX12_bounds_20 : decode cX12_bounds 20 = .ok (.getfield 53, 3) := by decide +kernel
theorem dX12_bounds_23 : decode cX12_bounds 23 = .ok (.iconst 0, 1) := by decide +kernel
theorem dX12_bounds_24 : decode cX12_bounds 24 = .ok (.laload, 1) := by decide +kernel
theorem dX12_bounds_25 : decode cX12_bounds 25 = .ok (.goto 9, 3) := by decide +kernel
theorem dX12_bounds_28 : decode cX12_bounds 28 = .ok (.aload_n 0, 1) := by decide +kernel
theorem dX12_bounds_29 : decode cX12_bounds 29 = .ok (.getfield 56, 3) := by decide +kernel
theorem dX12_bounds_32 : decode cX12_bounds 32 = .ok (.iconst 0, 1) := by decide +kernel
theorem dX12_bounds_33 : decode cX12_bounds 33 = .ok (.laload, 1) := by decide +kernel
theorem dX12_bounds_34 : decode cX12_bounds 34 = .ok (.lreturn, 1) := by decide +kernel
set_option maxRecDepth 10000 in
theorem NX12_bounds_0 {d : Nat} {S : fW} {h : fH} {Q : Int64 → fH → Prop} {r0 : Nat} {x1 : Int32} {r0_pad r0_text r0_number r0_span r0_now r0_sizeOf r0_workedTo r0_slip r0_exactUpper r0_exactLower r0_more r0_terms r0_order r0_bestOrder r0_low r0_high r0_built r0_better r0_base r0_kept r0_isKept : Nat}  
    (hs1 : (r0, shX12 r0_pad r0_text r0_number r0_span r0_now r0_sizeOf r0_workedTo r0_slip r0_exactUpper r0_exactLower r0_more r0_terms r0_order r0_bestOrder r0_low r0_high r0_built r0_better r0_base r0_kept r0_isKept) ∈ S)
    (hs2 : (r0_high, shJ 13) ∈ S)
    (hs3 : (r0_low, shJ 13) ∈ S)
    (w : ∃ Q1 : Int32 → fH → Prop, OkI d mX12_isEnd S [.int x1] h Q1 ∧ ∀ (v_1 : Int32) (h_1 : fH), Q1 v_1 h_1 → ((¬ v_1 = 0 → ∃ Q2 : fH → Prop, OkV d mX12_findEnds S [.ref r0] h_1 Q2 ∧ ∀ (h_2 : fH), Q2 h_2 → ((¬ x1 = 0 → vp_in (0 : Int32) 13 ∧ Q (h_2.2.2.2 r0_high (0 : Int32).toNatClampNeg) h_2) ∧ (x1 = 0 → vp_in (0 : Int32) 13 ∧ Q (h_2.2.2.2 r0_low (0 : Int32).toNatClampNeg) h_2))) ∧ (v_1 = 0 → Q (-1000000000000000002 : Int64) h_1))) :
    OkL (d + 1) mX12_bounds S [.ref r0, .int x1] h Q := by
  refine Ok.of (by decide) (Nat.le_of_ble_eq_true rfl) ?_
  refine G_iload_n 1 rfl dX12_bounds_0 rfl ?_
  obtain ⟨Q1, ok1, w⟩ := w
  refine G_callS (Z := mX12_isEnd) (As := [.int x1]) (st := []) hL_X12_134 hT_X12_isEnd hC_X12_isEnd hN_X12 nX12_isEnd (by decide) rfl (Nat.le_of_ble_eq_true rfl) dX12_bounds_1 ok1 (fun r_ h_1 z_ => ?_)
  obtain ⟨v_1, rfl, q_1⟩ := z_
  have w := w v_1 h_1 q_1
  refine G_if_ne (tgt := 11) dX12_bounds_4 (by decide) (fun c1 => ?_) (fun c1 => ?_)
  · have w := w.1 c1
    refine G_aload_n 0 rfl dX12_bounds_11 rfl ?_
    obtain ⟨Q2, ok2, w⟩ := w
    refine G_callV (Z := mX12_findEnds) (As := []) (st := []) hL_X12_298 hI_X12_findEnds hS_X12_findEnds hC_X12_findEnds hN_X12 nX12_findEnds (by decide) hs1 rfl rfl rfl (Nat.le_of_ble_eq_true rfl) dX12_bounds_12 ok2 (fun r_ h_2 z_ => ?_)
    obtain ⟨rfl, q_2⟩ := z_
    have w := w h_2 q_2
    refine G_iload_n 1 rfl dX12_bounds_15 rfl ?_
    refine G_if_ne (tgt := 28) dX12_bounds_16 (by decide) (fun c2 => ?_) (fun c2 => ?_)
    · have w := w.1 c2
      refine G_aload_n 0 rfl dX12_bounds_28 rfl ?_
      refine G_getr (j := r0_high) (k := 28) hs1 (q := (RX12, TX12, 40)) rfl inX12 (by decide) rfl hF_X12_56 dX12_bounds_29 ?_
      refine G_iconst (v := 0) dX12_bounds_32 (by decide) ?_
      obtain ⟨sd1, w⟩ := w
      refine G_lald hs2 sd1 dX12_bounds_33 ?_
      exact G_lret rfl dX12_bounds_34 ⟨_, rfl, w⟩
    · have w := w.2 c2
      refine G_aload_n 0 rfl dX12_bounds_19 rfl ?_
      refine G_getr (j := r0_low) (k := 27) hs1 (q := (RX12, TX12, 40)) rfl inX12 (by decide) rfl hF_X12_53 dX12_bounds_20 ?_
      refine G_iconst (v := 0) dX12_bounds_23 (by decide) ?_
      obtain ⟨sd1, w⟩ := w
      refine G_lald hs3 sd1 dX12_bounds_24 ?_
      refine G_goto (tgt := 34) dX12_bounds_25 (by decide) ?_
      exact G_lret rfl dX12_bounds_34 ⟨_, rfl, w⟩
  · have w := w.2 c1
    refine G_ldc2 hK_X12_153 dX12_bounds_7 ?_
    exact G_lret rfl dX12_bounds_10 ⟨_, rfl, w⟩
-- LostDigitsModel.isIn
theorem dX12_isIn_0 : decode cX12_isIn 0 = .ok (.iconst 0, 1) := by decide +kernel
theorem dX12_isIn_1 : decode cX12_isIn 1 = .ok (.istore_n 2, 1) := by decide +kernel
theorem dX12_isIn_2 : decode cX12_isIn 2 = .ok (.iconst 0, 1) := by decide +kernel
theorem dX12_isIn_3 : decode cX12_isIn 3 = .ok (.istore_n 3, 1) := by decide +kernel
theorem dX12_isIn_4 : decode cX12_isIn 4 = .ok (.iload_n 3, 1) := by decide +kernel
theorem dX12_isIn_5 : decode cX12_isIn 5 = .ok (.aload_n 0, 1) := by decide +kernel
theorem dX12_isIn_6 : decode cX12_isIn 6 = .ok (.getfield 192, 3) := by decide +kernel
theorem dX12_isIn_9 : decode cX12_isIn 9 = .ok (.if_icmp .ge 32, 3) := by decide +kernel
theorem dX12_isIn_12 : decode cX12_isIn 12 = .ok (.iload_n 2, 1) := by decide +kernel
theorem dX12_isIn_13 : decode cX12_isIn 13 = .ok (.ifCond .ne 16, 3) := by decide +kernel
theorem dX12_isIn_16 : decode cX12_isIn 16 = .ok (.aload_n 0, 1) := by decide +kernel
theorem dX12_isIn_17 : decode cX12_isIn 17 = .ok (.getfield 22, 3) := by decide +kernel
theorem dX12_isIn_20 : decode cX12_isIn 20 = .ok (.iload_n 3, 1) := by decide +kernel
theorem dX12_isIn_21 : decode cX12_isIn 21 = .ok (.iaload, 1) := by decide +kernel
theorem dX12_isIn_22 : decode cX12_isIn 22 = .ok (.bipush 97, 2) := by decide +kernel
theorem dX12_isIn_24 : decode cX12_isIn 24 = .ok (.iload_n 1, 1) := by decide +kernel
theorem dX12_isIn_25 : decode cX12_isIn 25 = .ok (.iadd, 1) := by decide +kernel
theorem dX12_isIn_26 : decode cX12_isIn 26 = .ok (.if_icmp .ne 7, 3) := by decide +kernel
theorem dX12_isIn_29 : decode cX12_isIn 29 = .ok (.iconst 1, 1) := by decide +kernel
theorem dX12_isIn_30 : decode cX12_isIn 30 = .ok (.goto 4, 3) := by decide +kernel
theorem dX12_isIn_33 : decode cX12_isIn 33 = .ok (.iconst 0, 1) := by decide +kernel
theorem dX12_isIn_34 : decode cX12_isIn 34 = .ok (.istore_n 2, 1) := by decide +kernel
theorem dX12_isIn_35 : decode cX12_isIn 35 = .ok (.iinc 3 1, 3) := by decide +kernel
theorem dX12_isIn_38 : decode cX12_isIn 38 = .ok (.goto (-34), 3) := by decide +kernel
theorem dX12_isIn_41 : decode cX12_isIn 41 = .ok (.iload_n 2, 1) := by decide +kernel
theorem dX12_isIn_42 : decode cX12_isIn 42 = .ok (.ireturn, 1) := by decide +kernel
set_option maxRecDepth 10000 in
theorem NX12_isIn_0 {d : Nat} {S : fW} {h : fH} {Q : Int32 → fH → Prop} {r0 : Nat} {x1 : Int32}  
    (w : G mX12_isIn d S (f_PI Q) 4 [(0, .ref r0), (1, .int x1), (2, .int (0 : Int32)), (3, .int (0 : Int32))] [] h) :
    OkI d mX12_isIn S [.ref r0, .int x1] h Q := by
  refine Ok.of (by decide) (Nat.le_of_ble_eq_true rfl) ?_
  refine G_iconst (v := 0) dX12_isIn_0 (by decide) ?_
  refine G_istore_n dX12_isIn_1 rfl (by decide) (lv' := [(2, .int (0 : Int32)), (0, .ref r0), (1, .int x1)]) rfl ?_
  refine G_iconst (v := 0) dX12_isIn_2 (by decide) ?_
  refine G_istore_n dX12_isIn_3 rfl (by decide) (lv' := [(3, .int (0 : Int32)), (2, .int (0 : Int32)), (0, .ref r0), (1, .int x1)]) rfl ?_
  exact G_sub [2, 3, 1, 0] rfl w

set_option maxRecDepth 10000 in
theorem NX12_isIn_4 {d : Nat} {S : fW} {h : fH} {Q : Int32 → fH → Prop} {r0 : Nat} {x1 : Int32} {x2 : Int32} {x3 : Int32} {r0_pad r0_text r0_number r0_span r0_now r0_sizeOf r0_workedTo r0_slip r0_exactUpper r0_exactLower r0_more r0_terms r0_order r0_bestOrder r0_low r0_high r0_built r0_better r0_base r0_kept r0_isKept : Nat}  
    (hs1 : (r0, shX12 r0_pad r0_text r0_number r0_span r0_now r0_sizeOf r0_workedTo r0_slip r0_exactUpper r0_exactLower r0_more r0_terms r0_order r0_bestOrder r0_low r0_high r0_built r0_better r0_base r0_kept r0_isKept) ∈ S)
    (hs2 : (r0_now, shI 13) ∈ S)
    (w : (((h.1 r0 14) ≤ x3 → (x2 = 0 ∨ x2 = 1) ∧ Q x2 h) ∧ (¬ (h.1 r0 14) ≤ x3 → ((¬ x2 = 0 → G mX12_isIn d S (f_PI Q) 4 [(0, .ref r0), (1, .int x1), (2, .int (1 : Int32)), (3, .int (x3 + 1))] [] h) ∧ (x2 = 0 → vp_in x3 13 ∧ ((¬ (h.2.2.1 r0_now x3.toNatClampNeg) = ((97 : Int32) + x1) → G mX12_isIn d S (f_PI Q) 4 [(0, .ref r0), (1, .int x1), (2, .int (0 : Int32)), (3, .int (x3 + 1))] [] h) ∧ ((h.2.2.1 r0_now x3.toNatClampNeg) = ((97 : Int32) + x1) → G mX12_isIn d S (f_PI Q) 4 [(0, .ref r0), (1, .int x1), (2, .int (1 : Int32)), (3, .int (x3 + 1))] [] h))))))) :
    G mX12_isIn d S (f_PI Q) 4 [(0, .ref r0), (1, .int x1), (2, .int x2), (3, .int x3)] [] h := by
  refine G_iload_n 3 rfl dX12_isIn_4 rfl ?_
  refine G_aload_n 0 rfl dX12_isIn_5 rfl ?_
  refine G_geti (k := 14) hs1 (q := (RX12, TX12, 40)) rfl inX12 (by decide) (Or.inl rfl) hF_X12_192 dX12_isIn_6 ?_
  refine G_icmp_ge (tgt := 41) dX12_isIn_9 (by decide) (fun c1 => ?_) (fun c1 => ?_)
  · have w := w.1 c1
    refine G_iload_n 2 rfl dX12_isIn_41 rfl ?_
    obtain ⟨sd1, w⟩ := w
    exact G_zret rfl sd1 dX12_isIn_42 ⟨_, rfl, w⟩
  · have w := w.2 c1
    refine G_iload_n 2 rfl dX12_isIn_12 rfl ?_
    refine G_if_ne (tgt := 29) dX12_isIn_13 (by decide) (fun c2 => ?_) (fun c2 => ?_)
    · have w := w.1 c2
      refine G_iconst (v := 1) dX12_isIn_29 (by decide) ?_
      refine G_goto (tgt := 34) dX12_isIn_30 (by decide) ?_
      refine G_istore_n dX12_isIn_34 rfl (by decide) (lv' := [(2, .int (1 : Int32)), (0, .ref r0), (1, .int x1), (3, .int x3)]) rfl ?_
      refine G_iinc (v := 1) 3 rfl dX12_isIn_35 (by decide) (by decide) (lv' := [(3, .int (x3 + 1)), (2, .int (1 : Int32)), (0, .ref r0), (1, .int x1)]) rfl ?_
      refine G_goto (tgt := 4) dX12_isIn_38 (by decide) ?_
      exact G_sub [2, 3, 1, 0] rfl w
    · have w := w.2 c2
      refine G_aload_n 0 rfl dX12_isIn_16 rfl ?_
      refine G_getr (j := r0_now) (k := 13) hs1 (q := (RX12, TX12, 40)) rfl inX12 (by decide) rfl hF_X12_22 dX12_isIn_17 ?_
      refine G_iload_n 3 rfl dX12_isIn_20 rfl ?_
      obtain ⟨sd1, w⟩ := w
      refine G_iald hs2 sd1 dX12_isIn_21 ?_
      refine G_bipush (v := 97) dX12_isIn_22 (by decide) ?_
      refine G_iload_n 1 rfl dX12_isIn_24 rfl ?_
      refine G_iadd dX12_isIn_25 ?_
      refine G_icmp_ne (tgt := 33) dX12_isIn_26 (by decide) (fun c3 => ?_) (fun c3 => ?_)
      · have w := w.1 c3
        refine G_iconst (v := 0) dX12_isIn_33 (by decide) ?_
        refine G_istore_n dX12_isIn_34 rfl (by decide) (lv' := [(2, .int (0 : Int32)), (0, .ref r0), (1, .int x1), (3, .int x3)]) rfl ?_
        refine G_iinc (v := 1) 3 rfl dX12_isIn_35 (by decide) (by decide) (lv' := [(3, .int (x3 + 1)), (2, .int (0 : Int32)), (0, .ref r0), (1, .int x1)]) rfl ?_
        refine G_goto (tgt := 4) dX12_isIn_38 (by decide) ?_
        exact G_sub [2, 3, 1, 0] rfl w
      · have w := w.2 c3
        refine G_iconst (v := 1) dX12_isIn_29 (by decide) ?_
        refine G_goto (tgt := 34) dX12_isIn_30 (by decide) ?_
        refine G_istore_n dX12_isIn_34 rfl (by decide) (lv' := [(2, .int (1 : Int32)), (0, .ref r0), (1, .int x1), (3, .int x3)]) rfl ?_
        refine G_iinc (v := 1) 3 rfl dX12_isIn_35 (by decide) (by decide) (lv' := [(3, .int (x3 + 1)), (2, .int (1 : Int32)), (0, .ref r0), (1, .int x1)]) rfl ?_
        refine G_goto (tgt := 4) dX12_isIn_38 (by decide) ?_
        exact G_sub [2, 3, 1, 0] rfl w
-- LostDigitsModel.nextNumbers
theorem dX12_nextNumbers_0 : decode cX12_nextNumbers 0 = .ok (.iconst 4, 1) := by decide +kernel
theorem dX12_nextNumbers_1 : decode cX12_nextNumbers 1 = .ok (.istore_n 1, 1) := by decide +kernel
theorem dX12_nextNumbers_2 : decode cX12_nextNumbers 2 = .ok (.iload_n 1, 1) := by decide +kernel
theorem dX12_nextNumbers_3 : decode cX12_nextNumbers 3 = .ok (.ifCond .lt 39, 3) := by decide +kernel
theorem dX12_nextNumbers_6 : decode cX12_nextNumbers 6 = .ok (.aload_n 0, 1) := by decide +kernel
theorem dX12_nextNumbers_7 : decode cX12_nextNumbers 7 = .ok (.iload_n 1, 1) := by decide +kernel
theorem dX12_nextNumbers_8 : decode cX12_nextNumbers 8 = .ok (.invokevirtual 301, 3) := by decide +kernel
theorem dX12_nextNumbers_11 : decode cX12_nextNumbers 11 = .ok (.ifCond .eq 18, 3) := by decide +kernel
theorem dX12_nextNumbers_14 : decode cX12_nextNumbers 14 = .ok (.aload_n 0, 1) := by decide +kernel
theorem dX12_nextNumbers_15 : decode cX12_nextNumbers 15 = .ok (.getfield 41, 3) := by decide +kernel
theorem dX12_nextNumbers_18 : decode cX12_nextNumbers 18 = .ok (.iload_n 1, 1) := by decide +kernel
theorem dX12_nextNumbers_19 : decode cX12_nextNumbers 19 = .ok (.iaload, 1) := by decide +kernel
theorem dX12_nextNumbers_20 : decode cX12_nextNumbers 20 = .ok (.aload_n 0, 1) := by decide +kernel
theorem dX12_nextNumbers_21 : decode cX12_nextNumbers 21 = .ok (.getfield 19, 3) := by decide +kernel
theorem dX12_nextNumbers_24 : decode cX12_nextNumbers 24 = .ok (.iload_n 1, 1) := by decide +kernel
theorem dX12_nextNumbers_25 : decode cX12_nextNumbers 25 = .ok (.iaload, 1) := by decide +kernel
theorem dX12_nextNumbers_26 : decode cX12_nextNumbers 26 = .ok (.if_icmp .ne 16, 3) := by decide +kernel
theorem dX12_nextNumbers_29 : decode cX12_nextNumbers 29 = .ok (.aload_n 0, 1) := by decide +kernel
theorem dX12_nextNumbers_30 : decode cX12_nextNumbers 30 = .ok (.getfield 41, 3) := by decide +kernel
theorem dX12_nextNumbers_33 : decode cX12_nextNumbers 33 = .ok (.iload_n 1, 1) := by decide +kernel
theorem dX12_nextNumbers_34 : decode cX12_nextNumbers 34 = .ok (.iconst 0, 1) := by decide +kernel
theorem dX12_nextNumbers_35 : decode cX12_nextNumbers 35 = .ok (.iastore, 1) := by decide +kernel
theorem dX12_nextNumbers_36 : decode cX12_nextNumbers 36 = .ok (.iinc 1 (-1), 3) := by decide +kernel
theorem dX12_nextNumbers_39 : decode cX12_nextNumbers 39 = .ok (.goto (-37), 3) := by decide +kernel
theorem dX12_nextNumbers_42 : decode cX12_nextNumbers 42 = .ok (.iload_n 1, 1) := by decide +kernel
theorem dX12_nextNumbers_43 : decode cX12_nextNumbers 43 = .ok (.ifCond .lt 13, 3) := by decide +kernel
theorem dX12_nextNumbers_46 : decode cX12_nextNumbers 46 = .ok (.aload_n 0, 1) := by decide +kernel
theorem dX12_nextNumbers_47 : decode cX12_nextNumbers 47 = .ok (.getfield 41, 3) := by decide +kernel
theorem dX12_nextNumbers_50 : decode cX12_nextNumbers 50 = .ok (.iload_n 1, 1) := by decide +kernel
theorem dX12_nextNumbers_51 : decode cX12_nextNumbers 51 = .ok (.dup2, 1) := by decide +kernel
theorem dX12_nextNumbers_52 : decode cX12_nextNumbers 52 = .ok (.iaload, 1) := by decide +kernel
theorem dX12_nextNumbers_53 : decode cX12_nextNumbers 53 = .ok (.iconst 1, 1) := by decide +kernel
theorem dX12_nextNumbers_54 : decode cX12_nextNumbers 54 = .ok (.iadd, 1) := by decide +kernel
theorem dX12_nextNumbers_55 : decode cX12_nextNumbers 55 = .ok (.iastore, 1) := by decide +kernel
theorem dX12_nextNumbers_56 : decode cX12_nextNumbers 56 = .ok (.iload_n 1, 1) := by decide +kernel
theorem dX12_nextNumbers_57 : decode cX12_nextNumbers 57 = .ok (.ifCond .lt 7, 3) := by decide +kernel
theorem dX12_nextNumbers_60 : decode cX12_nextNumbers 60 = .ok (.iconst 1, 1) := by decide +kernel
theorem dX12_nextNumbers_61 : decode cX12_nextNumbers 61 = .ok (.goto 4, 3) := by decide +kernel
theorem dX12_nextNumbers_64 : decode cX12_nextNumbers 64 = .ok (.iconst 0, 1) := by decide +kernel
theorem dX12_nextNumbers_65 : decode cX12_nextNumbers 65 = .ok (.ireturn, 1) := by decide +kernel
set_option maxRecDepth 10000 in
theorem NX12_nextNumbers_0 {d : Nat} {S : fW} {h : fH} {Q : Int32 → fH → Prop} {r0 : Nat}  
    (w : G mX12_nextNumbers (d + 1) S (f_PI Q) 2 [(0, .ref r0), (1, .int (4 : Int32))] [] h) :
    OkI (d + 1) mX12_nextNumbers S [.ref r0] h Q := by
  refine Ok.of (by decide) (Nat.le_of_ble_eq_true rfl) ?_
  refine G_iconst (v := 4) dX12_nextNumbers_0 (by decide) ?_
  refine G_istore_n dX12_nextNumbers_1 rfl (by decide) (lv' := [(1, .int (4 : Int32)), (0, .ref r0)]) rfl ?_
  exact G_sub [1, 0] rfl w

set_option maxRecDepth 10000 in
theorem NX12_nextNumbers_2 {d : Nat} {S : fW} {h : fH} {Q : Int32 → fH → Prop} {r0 : Nat} {x1 : Int32} {r0_pad r0_text r0_number r0_span r0_now r0_sizeOf r0_workedTo r0_slip r0_exactUpper r0_exactLower r0_more r0_terms r0_order r0_bestOrder r0_low r0_high r0_built r0_better r0_base r0_kept r0_isKept : Nat}  
    (hs1 : (r0, shX12 r0_pad r0_text r0_number r0_span r0_now r0_sizeOf r0_workedTo r0_slip r0_exactUpper r0_exactLower r0_more r0_terms r0_order r0_bestOrder r0_low r0_high r0_built r0_better r0_base r0_kept r0_isKept) ∈ S)
    (hs2 : (r0_more, shI 5) ∈ S)
    (hs3 : (r0_span, shI 5) ∈ S)
    (w : ((x1 < 0 → Q (0 : Int32) h) ∧ (¬ x1 < 0 → ∃ Q1 : Int32 → fH → Prop, OkI d mX12_isIn S [.ref r0, .int x1] h Q1 ∧ ∀ (v_1 : Int32) (h_1 : fH), Q1 v_1 h_1 → ((v_1 = 0 → vp_in x1 5 ∧ ∀ g_1 : fH, g_1 = u_ai h_1 r0_more (upd (h_1.2.2.1 r0_more) x1.toNatClampNeg (0 : Int32)) → G mX12_nextNumbers (d + 1) S (f_PI Q) 2 [(0, .ref r0), (1, .int (x1 + (-1)))] [] g_1) ∧ (¬ v_1 = 0 → vp_in x1 5 ∧ ((¬ (h_1.2.2.1 r0_more x1.toNatClampNeg) = (h_1.2.2.1 r0_span x1.toNatClampNeg) → ∀ g_2 : fH, g_2 = u_ai h_1 r0_more (upd (h_1.2.2.1 r0_more) x1.toNatClampNeg ((h_1.2.2.1 r0_more x1.toNatClampNeg) + (1 : Int32))) → Q (1 : Int32) g_2) ∧ ((h_1.2.2.1 r0_more x1.toNatClampNeg) = (h_1.2.2.1 r0_span x1.toNatClampNeg) → ∀ g_3 : fH, g_3 = u_ai h_1 r0_more (upd (h_1.2.2.1 r0_more) x1.toNatClampNeg (0 : Int32)) → G mX12_nextNumbers (d + 1) S (f_PI Q) 2 [(0, .ref r0), (1, .int (x1 + (-1)))] [] g_3))))))) :
    G mX12_nextNumbers (d + 1) S (f_PI Q) 2 [(0, .ref r0), (1, .int x1)] [] h := by
  refine G_iload_n 1 rfl dX12_nextNumbers_2 rfl ?_
  refine G_if_lt (tgt := 42) dX12_nextNumbers_3 (by decide) (fun c1 => ?_) (fun c1 => ?_)
  · have w := w.1 c1
    refine G_iload_n 1 rfl dX12_nextNumbers_42 rfl ?_
    refine G_if_lt (tgt := 56) dX12_nextNumbers_43 (by decide) (fun c2 => ?_) (fun c2 => absurd c1 c2)
    refine G_iload_n 1 rfl dX12_nextNumbers_56 rfl ?_
    refine G_if_lt (tgt := 64) dX12_nextNumbers_57 (by decide) (fun c2 => ?_) (fun c2 => absurd c1 c2)
    refine G_iconst (v := 0) dX12_nextNumbers_64 (by decide) ?_
    exact G_zret rfl (Or.inl rfl) dX12_nextNumbers_65 ⟨_, rfl, w⟩
  · have w := w.2 c1
    refine G_aload_n 0 rfl dX12_nextNumbers_6 rfl ?_
    refine G_iload_n 1 rfl dX12_nextNumbers_7 rfl ?_
    obtain ⟨Q1, ok1, w⟩ := w
    refine G_callV (Z := mX12_isIn) (As := [.int x1]) (st := []) hL_X12_301 hI_X12_isIn hS_X12_isIn hC_X12_isIn hN_X12 nX12_isIn (by decide) hs1 rfl rfl rfl (Nat.le_of_ble_eq_true rfl) dX12_nextNumbers_8 ok1 (fun r_ h_1 z_ => ?_)
    obtain ⟨v_1, rfl, q_1⟩ := z_
    have w := w v_1 h_1 q_1
    refine G_if_eq (tgt := 29) dX12_nextNumbers_11 (by decide) (fun c2 => ?_) (fun c2 => ?_)
    · have w := w.1 c2
      refine G_aload_n 0 rfl dX12_nextNumbers_29 rfl ?_
      refine G_getr (j := r0_more) (k := 20) hs1 (q := (RX12, TX12, 40)) rfl inX12 (by decide) rfl hF_X12_41 dX12_nextNumbers_30 ?_
      refine G_iload_n 1 rfl dX12_nextNumbers_33 rfl ?_
      refine G_iconst (v := 0) dX12_nextNumbers_34 (by decide) ?_
      obtain ⟨sd1, w⟩ := w
      refine G_iast hs2 sd1 dX12_nextNumbers_35 ?_
      refine G_nm (fun g_1 e_1 => ?_)
      have w := w g_1 e_1
      refine G_iinc (v := -1) 1 rfl dX12_nextNumbers_36 (by decide) (by decide) (lv' := [(1, .int (x1 + (-1))), (0, .ref r0)]) rfl ?_
      refine G_goto (tgt := 2) dX12_nextNumbers_39 (by decide) ?_
      exact G_sub [1, 0] rfl w
    · have w := w.2 c2
      refine G_aload_n 0 rfl dX12_nextNumbers_14 rfl ?_
      refine G_getr (j := r0_more) (k := 20) hs1 (q := (RX12, TX12, 40)) rfl inX12 (by decide) rfl hF_X12_41 dX12_nextNumbers_15 ?_
      refine G_iload_n 1 rfl dX12_nextNumbers_18 rfl ?_
      obtain ⟨sd1, w⟩ := w
      refine G_iald hs2 sd1 dX12_nextNumbers_19 ?_
      refine G_aload_n 0 rfl dX12_nextNumbers_20 rfl ?_
      refine G_getr (j := r0_span) (k := 12) hs1 (q := (RX12, TX12, 40)) rfl inX12 (by decide) rfl hF_X12_19 dX12_nextNumbers_21 ?_
      refine G_iload_n 1 rfl dX12_nextNumbers_24 rfl ?_
      refine G_iald hs3 sd1 dX12_nextNumbers_25 ?_
      refine G_icmp_ne (tgt := 42) dX12_nextNumbers_26 (by decide) (fun c3 => ?_) (fun c3 => ?_)
      · have w := w.1 c3
        refine G_iload_n 1 rfl dX12_nextNumbers_42 rfl ?_
        refine G_if_lt (tgt := 56) dX12_nextNumbers_43 (by decide) (fun c4 => absurd c4 c1) (fun c4 => ?_)
        refine G_aload_n 0 rfl dX12_nextNumbers_46 rfl ?_
        refine G_getr (j := r0_more) (k := 20) hs1 (q := (RX12, TX12, 40)) rfl inX12 (by decide) rfl hF_X12_41 dX12_nextNumbers_47 ?_
        refine G_iload_n 1 rfl dX12_nextNumbers_50 rfl ?_
        refine G_dup2 dX12_nextNumbers_51 rfl rfl ?_
        refine G_iald hs2 sd1 dX12_nextNumbers_52 ?_
        refine G_iconst (v := 1) dX12_nextNumbers_53 (by decide) ?_
        refine G_iadd dX12_nextNumbers_54 ?_
        refine G_iast hs2 sd1 dX12_nextNumbers_55 ?_
        refine G_nm (fun g_2 e_2 => ?_)
        have w := w g_2 e_2
        refine G_iload_n 1 rfl dX12_nextNumbers_56 rfl ?_
        refine G_if_lt (tgt := 64) dX12_nextNumbers_57 (by decide) (fun c4 => absurd c4 c1) (fun c4 => ?_)
        refine G_iconst (v := 1) dX12_nextNumbers_60 (by decide) ?_
        refine G_goto (tgt := 65) dX12_nextNumbers_61 (by decide) ?_
        exact G_zret rfl (Or.inr rfl) dX12_nextNumbers_65 ⟨_, rfl, w⟩
      · have w := w.2 c3
        refine G_aload_n 0 rfl dX12_nextNumbers_29 rfl ?_
        refine G_getr (j := r0_more) (k := 20) hs1 (q := (RX12, TX12, 40)) rfl inX12 (by decide) rfl hF_X12_41 dX12_nextNumbers_30 ?_
        refine G_iload_n 1 rfl dX12_nextNumbers_33 rfl ?_
        refine G_iconst (v := 0) dX12_nextNumbers_34 (by decide) ?_
        refine G_iast hs2 sd1 dX12_nextNumbers_35 ?_
        refine G_nm (fun g_3 e_3 => ?_)
        have w := w g_3 e_3
        refine G_iinc (v := -1) 1 rfl dX12_nextNumbers_36 (by decide) (by decide) (lv' := [(1, .int (x1 + (-1))), (0, .ref r0)]) rfl ?_
        refine G_goto (tgt := 2) dX12_nextNumbers_39 (by decide) ?_
        exact G_sub [1, 0] rfl w
-- LostDigitsModel.truthOf
theorem dX12_truthOf_0 : decode cX12_truthOf 0 = .ok (.aload_n 0, 1) := by decide +kernel
theorem dX12_truthOf_1 : decode cX12_truthOf 1 = .ok (.invokevirtual 223, 3) := by decide +kernel
theorem dX12_truthOf_4 : decode cX12_truthOf 4 = .ok (.iconst 1, 1) := by decide +kernel
theorem dX12_truthOf_5 : decode cX12_truthOf 5 = .ok (.istore_n 2, 1) := by decide +kernel
theorem dX12_truthOf_6 : decode cX12_truthOf 6 = .ok (.iconst 1, 1) := by decide +kernel
theorem dX12_truthOf_7 : decode cX12_truthOf 7 = .ok (.istore_n 3, 1) := by decide +kernel
theorem dX12_truthOf_8 : decode cX12_truthOf 8 = .ok (.iconst 0, 1) := by decide +kernel
theorem dX12_truthOf_9 : decode cX12_truthOf 9 = .ok (.istore 4, 2) := by decide +kernel
theorem dX12_truthOf_11 : decode cX12_truthOf 11 = .ok (.lconst 0, 1) := by decide +kernel
theorem dX12_truthOf_12 : decode cX12_truthOf 12 = .ok (.lstore 5, 2) := by decide +kernel
theorem dX12_truthOf_14 : decode cX12_truthOf 14 = .ok (.iload_n 2, 1) := by decide +kernel
theorem dX12_truthOf_15 : decode cX12_truthOf 15 = .ok (.ifCond .eq 82, 3) := by decide +kernel
theorem dX12_truthOf_18 : decode cX12_truthOf 18 = .ok (.aload_n 0, 1) := by decide +kernel
theorem dX12_truthOf_19 : decode cX12_truthOf 19 = .ok (.invokevirtual 226, 3) := by decide +kernel
theorem dX12_truthOf_22 : decode cX12_truthOf 22 = .ok (.aload_n 0, 1) := by decide +kernel
theorem dX12_truthOf_23 : decode cX12_truthOf 23 = .ok (.iconst 0, 1) := by decide +kernel
theorem dX12_truthOf_24 : decode cX12_truthOf 24 = .ok (.iload_n 1, 1) := by decide +kernel
theorem dX12_truthOf_25 : decode cX12_truthOf 25 = .ok (.invokevirtual 229, 3) := by decide +kernel
theorem dX12_truthOf_28 : decode cX12_truthOf 28 = .ok (.lstore 7, 2) := by decide +kernel
theorem dX12_truthOf_30 : decode cX12_truthOf 30 = .ok (.iload 4, 2) := by decide +kernel
theorem dX12_truthOf_32 : decode cX12_truthOf 32 = .ok (.ifCond .ne 12, 3) := by decide +kernel
theorem dX12_truthOf_35 : decode cX12_truthOf 35 = .ok (.lload 7, 2) := by decide +kernel
theorem dX12_truthOf_37 : decode cX12_truthOf 37 = .ok (.ldc2_w 94, 3) := by decide +kernel
theorem dX12_truthOf_40 : decode cX12_truthOf 40 = .ok (.lcmp, 1) := by decide +kernel
theorem dX12_truthOf_41 : decode cX12_truthOf 41 = .ok (.ifCond .ne 7, 3) := by decide +kernel
theorem dX12_truthOf_44 : decode cX12_truthOf 44 = .ok (.iconst 1, 1) := by decide +kernel
theorem dX12_truthOf_45 : decode cX12_truthOf 45 = .ok (.goto 4, 3) := by decide +kernel
theorem dX12_truthOf_48 : decode cX12_truthOf 48 = .ok (.iconst 0, 1) := by decide +kernel
theorem dX12_truthOf_49 : decode cX12_truthOf 49 = .ok (.istore 4, 2) := by decide +kernel
theorem dX12_truthOf_51 : decode cX12_truthOf 51 = .ok (.iload_n 3, 1) := by decide +kernel
theorem dX12_truthOf_52 : decode cX12_truthOf 52 = .ok (.ifCond .ne 26, 3) := by decide +kernel
theorem dX12_truthOf_55 : decode cX12_truthOf 55 = .ok (.iload_n 1, 1) := by decide +kernel
theorem dX12_truthOf_56 : decode cX12_truthOf 56 = .ok (.ifCond .ne 14, 3) := by decide +kernel
theorem dX12_truthOf_59 : decode cX12_truthOf 59 = .ok (.lload 7, 2) := by decide +kernel
theorem dX12_truthOf_61 : decode cX12_truthOf 61 = .ok (.lload 5, 2) := by decide +kernel
theorem dX12_truthOf_63 : decode cX12_truthOf 63 = .ok (.lcmp, 1) := by decide +kernel
theorem dX12_truthOf_64 : decode cX12_truthOf 64 = .ok (.ifCond .ge 19, 3) := by decide +kernel
theorem dX12_truthOf_67 : decode cX12_truthOf 67 = .ok (.goto 11, 3) := by decide +kernel
theorem dX12_truthOf_70 : decode cX12_truthOf 70 = .ok (.lload 7, 2) := by decide +kernel
theorem dX12_truthOf_72 : decode cX12_truthOf 72 = .ok (.lload 5, 2) := by decide +kernel
theorem dX12_truthOf_74 : decode cX12_truthOf 74 = .ok (.lcmp, 1) := by decide +kernel
theorem dX12_truthOf_75 : decode cX12_truthOf 75 = .ok (.ifCond .le 8, 3) := by decide +kernel
theorem dX12_truthOf_78 : decode cX12_truthOf 78 = .ok (.lload 7, 2) := by decide +kernel
theorem dX12_truthOf_80 : decode cX12_truthOf 80 = .ok (.goto 5, 3) := by decide +kernel
theorem dX12_truthOf_83 : decode cX12_truthOf 83 = .ok (.lload 5, 2) := by decide +kernel
theorem dX12_truthOf_85 : decode cX12_truthOf 85 = .ok (.lstore 5, 2) := by decide +kernel
theorem dX12_truthOf_87 : decode cX12_truthOf 87 = .ok (.iconst 0, 1) := by decide +kernel
theorem dX12_truthOf_88 : decode cX12_truthOf 88 = .ok (.istore_n 3, 1) := by decide +kernel
theorem dX12_truthOf_89 : decode cX12_truthOf 89 = .ok (.aload_n 0, 1) := by decide +kernel
theorem dX12_truthOf_90 : decode cX12_truthOf 90 = .ok (.invokevirtual 304, 3) := by decide +kernel
theorem dX12_truthOf_93 : decode cX12_truthOf 93 = .ok (.istore_n 2, 1) := by decide +kernel
theorem dX12_truthOf_94 : decode cX12_truthOf 94 = .ok (.goto (-80), 3) := by decide +kernel
theorem dX12_truthOf_97 : decode cX12_truthOf 97 = .ok (.iload 4, 2) := by decide +kernel
theorem dX12_truthOf_99 : decode cX12_truthOf 99 = .ok (.ifCond .eq 9, 3) := by decide +kernel
theorem dX12_truthOf_102 : decode cX12_truthOf 102 = .ok (.ldc2_w 94, 3) := by decide +kernel
theorem dX12_truthOf_105 : decode cX12_truthOf 105 = .ok (.goto 5, 3) := by decide +kernel
theorem dX12_truthOf_108 : decode cX12_truthOf 108 = .ok (.lload 5, 2) := by decide +kernel
theorem dX12_truthOf_110 : decode cX12_truthOf 110 = .ok (.lreturn, 1) := by decide +kernel
set_option maxRecDepth 10000 in
theorem NX12_truthOf_0 {d : Nat} {S : fW} {h : fH} {Q : Int64 → fH → Prop} {r0 : Nat} {x1 : Int32} {r0_pad r0_text r0_number r0_span r0_now r0_sizeOf r0_workedTo r0_slip r0_exactUpper r0_exactLower r0_more r0_terms r0_order r0_bestOrder r0_low r0_high r0_built r0_better r0_base r0_kept r0_isKept : Nat}  
    (hs1 : (r0, shX12 r0_pad r0_text r0_number r0_span r0_now r0_sizeOf r0_workedTo r0_slip r0_exactUpper r0_exactLower r0_more r0_terms r0_order r0_bestOrder r0_low r0_high r0_built r0_better r0_base r0_kept r0_isKept) ∈ S)
    (w : ∃ Q1 : fH → Prop, OkV d mX12_layText S [.ref r0] h Q1 ∧ ∀ (h_1 : fH), Q1 h_1 → G mX12_truthOf (d + 1) S (f_PL Q) 14 [(0, .ref r0), (1, .int x1), (2, .int (1 : Int32)), (3, .int (1 : Int32)), (4, .int (0 : Int32)), (5, .long (0 : Int64))] [] h_1) :
    OkL (d + 1) mX12_truthOf S [.ref r0, .int x1] h Q := by
  refine Ok.of (by decide) (Nat.le_of_ble_eq_true rfl) ?_
  refine G_aload_n 0 rfl dX12_truthOf_0 rfl ?_
  obtain ⟨Q1, ok1, w⟩ := w
  refine G_callV (Z := mX12_layText) (As := []) (st := []) hL_X12_223 hI_X12_layText hS_X12_layText hC_X12_layText hN_X12 nX12_layText (by decide) hs1 rfl rfl rfl (Nat.le_of_ble_eq_true rfl) dX12_truthOf_1 ok1 (fun r_ h_1 z_ => ?_)
  obtain ⟨rfl, q_1⟩ := z_
  have w := w h_1 q_1
  refine G_iconst (v := 1) dX12_truthOf_4 (by decide) ?_
  refine G_istore_n dX12_truthOf_5 rfl (by decide) (lv' := [(2, .int (1 : Int32)), (0, .ref r0), (1, .int x1)]) rfl ?_
  refine G_iconst (v := 1) dX12_truthOf_6 (by decide) ?_
  refine G_istore_n dX12_truthOf_7 rfl (by decide) (lv' := [(3, .int (1 : Int32)), (2, .int (1 : Int32)), (0, .ref r0), (1, .int x1)]) rfl ?_
  refine G_iconst (v := 0) dX12_truthOf_8 (by decide) ?_
  refine G_istore dX12_truthOf_9 (by decide) (lv' := [(4, .int (0 : Int32)), (3, .int (1 : Int32)), (2, .int (1 : Int32)), (0, .ref r0), (1, .int x1)]) rfl ?_
  refine G_lconst (v := 0) dX12_truthOf_11 (by decide) ?_
  refine G_lstore dX12_truthOf_12 (by decide) (lv' := [(5, .long (0 : Int64)), (4, .int (0 : Int32)), (3, .int (1 : Int32)), (2, .int (1 : Int32)), (0, .ref r0), (1, .int x1)]) rfl ?_
  exact G_sub [4, 5, 3, 2, 1, 0] rfl w

set_option maxRecDepth 10000 in
theorem NX12_truthOf_14 {d : Nat} {S : fW} {h : fH} {Q : Int64 → fH → Prop} {r0 : Nat} {x1 : Int32} {x2 : Int32} {x3 : Int32} {x4 : Int32} {x5 : Int64} {r0_pad r0_text r0_number r0_span r0_now r0_sizeOf r0_workedTo r0_slip r0_exactUpper r0_exactLower r0_more r0_terms r0_order r0_bestOrder r0_low r0_high r0_built r0_better r0_base r0_kept r0_isKept : Nat}  
    (hs1 : (r0, shX12 r0_pad r0_text r0_number r0_span r0_now r0_sizeOf r0_workedTo r0_slip r0_exactUpper r0_exactLower r0_more r0_terms r0_order r0_bestOrder r0_low r0_high r0_built r0_better r0_base r0_kept r0_isKept) ∈ S)
    (w : ((x2 = 0 → ((x4 = 0 → Q x5 h) ∧ (¬ x4 = 0 → Q (1000000000000000000 : Int64) h))) ∧ (¬ x2 = 0 → ∃ Q1 : fH → Prop, OkV d mX12_workExact S [.ref r0] h Q1 ∧ ∀ (h_1 : fH), Q1 h_1 → ∃ Q2 : Int64 → fH → Prop, OkL d mX12_billionths S [.ref r0, .int (0 : Int32), .int x1] h_1 Q2 ∧ ∀ (v_2 : Int64) (h_2 : fH), Q2 v_2 h_2 → ((¬ x4 = 0 → G mX12_truthOf (d + 1) S (f_PL Q) 49 [(0, .ref r0), (1, .int x1), (3, .int x3), (5, .long x5), (7, .long v_2)] [.int (1 : Int32)] h_2) ∧ (x4 = 0 → ((¬ v_2 = (1000000000000000000 : Int64) → G mX12_truthOf (d + 1) S (f_PL Q) 49 [(0, .ref r0), (1, .int x1), (3, .int x3), (5, .long x5), (7, .long v_2)] [.int (0 : Int32)] h_2) ∧ (v_2 = (1000000000000000000 : Int64) → G mX12_truthOf (d + 1) S (f_PL Q) 49 [(0, .ref r0), (1, .int x1), (3, .int x3), (5, .long x5), (7, .long v_2)] [.int (1 : Int32)] h_2))))))) :
    G mX12_truthOf (d + 1) S (f_PL Q) 14 [(0, .ref r0), (1, .int x1), (2, .int x2), (3, .int x3), (4, .int x4), (5, .long x5)] [] h := by
  refine G_iload_n 2 rfl dX12_truthOf_14 rfl ?_
  refine G_if_eq (tgt := 97) dX12_truthOf_15 (by decide) (fun c1 => ?_) (fun c1 => ?_)
  · have w := w.1 c1
    refine G_iload 4 rfl dX12_truthOf_97 ?_
    refine G_if_eq (tgt := 108) dX12_truthOf_99 (by decide) (fun c2 => ?_) (fun c2 => ?_)
    · have w := w.1 c2
      refine G_lload 5 rfl dX12_truthOf_108 ?_
      exact G_lret rfl dX12_truthOf_110 ⟨_, rfl, w⟩
    · have w := w.2 c2
      refine G_ldc2 hK_X12_94 dX12_truthOf_102 ?_
      refine G_goto (tgt := 110) dX12_truthOf_105 (by decide) ?_
      exact G_lret rfl dX12_truthOf_110 ⟨_, rfl, w⟩
  · have w := w.2 c1
    refine G_aload_n 0 rfl dX12_truthOf_18 rfl ?_
    obtain ⟨Q1, ok1, w⟩ := w
    refine G_callV (Z := mX12_workExact) (As := []) (st := []) hL_X12_226 hI_X12_workExact hS_X12_workExact hC_X12_workExact hN_X12 nX12_workExact (by decide) hs1 rfl rfl rfl (Nat.le_of_ble_eq_true rfl) dX12_truthOf_19 ok1 (fun r_ h_1 z_ => ?_)
    obtain ⟨rfl, q_1⟩ := z_
    have w := w h_1 q_1
    refine G_aload_n 0 rfl dX12_truthOf_22 rfl ?_
    refine G_iconst (v := 0) dX12_truthOf_23 (by decide) ?_
    refine G_iload_n 1 rfl dX12_truthOf_24 rfl ?_
    obtain ⟨Q2, ok2, w⟩ := w
    refine G_callV (Z := mX12_billionths) (As := [.int (0 : Int32), .int x1]) (st := []) hL_X12_229 hI_X12_billionths hS_X12_billionths hC_X12_billionths hN_X12 nX12_billionths (by decide) hs1 rfl rfl rfl (Nat.le_of_ble_eq_true rfl) dX12_truthOf_25 ok2 (fun r_ h_2 z_ => ?_)
    obtain ⟨v_2, rfl, q_2⟩ := z_
    have w := w v_2 h_2 q_2
    refine G_lstore dX12_truthOf_28 (by decide) (lv' := [(7, .long v_2), (0, .ref r0), (1, .int x1), (2, .int x2), (3, .int x3), (4, .int x4), (5, .long x5)]) rfl ?_
    refine G_iload 5 rfl dX12_truthOf_30 ?_
    refine G_if_ne (tgt := 44) dX12_truthOf_32 (by decide) (fun c2 => ?_) (fun c2 => ?_)
    · have w := w.1 c2
      refine G_iconst (v := 1) dX12_truthOf_44 (by decide) ?_
      refine G_goto (tgt := 49) dX12_truthOf_45 (by decide) ?_
      exact G_sub [1, 2, 4, 6, 0] rfl w
    · have w := w.2 c2
      refine G_lload 0 rfl dX12_truthOf_35 ?_
      refine G_ldc2 hK_X12_94 dX12_truthOf_37 ?_
      refine G_lif_ne (tgt := 48) dX12_truthOf_40 dX12_truthOf_41 (by decide) (fun c3 => ?_) (fun c3 => ?_)
      · have w := w.1 c3
        refine G_iconst (v := 0) dX12_truthOf_48 (by decide) ?_
        exact G_sub [1, 2, 4, 6, 0] rfl w
      · have w := w.2 c3
        refine G_iconst (v := 1) dX12_truthOf_44 (by decide) ?_
        refine G_goto (tgt := 49) dX12_truthOf_45 (by decide) ?_
        exact G_sub [1, 2, 4, 6, 0] rfl w

set_option maxRecDepth 10000 in
theorem NX12_truthOf_49 {d : Nat} {S : fW} {h : fH} {Q : Int64 → fH → Prop} {r0 : Nat} {x1 : Int32} {x3 : Int32} {x5 : Int64} {x7 : Int64} {s0 : Int32} {r0_pad r0_text r0_number r0_span r0_now r0_sizeOf r0_workedTo r0_slip r0_exactUpper r0_exactLower r0_more r0_terms r0_order r0_bestOrder r0_low r0_high r0_built r0_better r0_base r0_kept r0_isKept : Nat}  
    (hs1 : (r0, shX12 r0_pad r0_text r0_number r0_span r0_now r0_sizeOf r0_workedTo r0_slip r0_exactUpper r0_exactLower r0_more r0_terms r0_order r0_bestOrder r0_low r0_high r0_built r0_better r0_base r0_kept r0_isKept) ∈ S)
    (w : ((¬ x3 = 0 → ∃ Q1 : Int32 → fH → Prop, OkI d mX12_nextNumbers S [.ref r0] h Q1 ∧ ∀ (v_1 : Int32) (h_1 : fH), Q1 v_1 h_1 → G mX12_truthOf (d + 1) S (f_PL Q) 14 [(0, .ref r0), (1, .int x1), (2, .int v_1), (3, .int (0 : Int32)), (4, .int s0), (5, .long x7)] [] h_1) ∧ (x3 = 0 → ((¬ x1 = 0 → ((x7 ≤ x5 → ∃ Q2 : Int32 → fH → Prop, OkI d mX12_nextNumbers S [.ref r0] h Q2 ∧ ∀ (v_2 : Int32) (h_2 : fH), Q2 v_2 h_2 → G mX12_truthOf (d + 1) S (f_PL Q) 14 [(0, .ref r0), (1, .int x1), (2, .int v_2), (3, .int (0 : Int32)), (4, .int s0), (5, .long x5)] [] h_2) ∧ (¬ x7 ≤ x5 → ∃ Q3 : Int32 → fH → Prop, OkI d mX12_nextNumbers S [.ref r0] h Q3 ∧ ∀ (v_3 : Int32) (h_3 : fH), Q3 v_3 h_3 → G mX12_truthOf (d + 1) S (f_PL Q) 14 [(0, .ref r0), (1, .int x1), (2, .int v_3), (3, .int (0 : Int32)), (4, .int s0), (5, .long x7)] [] h_3))) ∧ (x1 = 0 → ((x5 ≤ x7 → ∃ Q4 : Int32 → fH → Prop, OkI d mX12_nextNumbers S [.ref r0] h Q4 ∧ ∀ (v_4 : Int32) (h_4 : fH), Q4 v_4 h_4 → G mX12_truthOf (d + 1) S (f_PL Q) 14 [(0, .ref r0), (1, .int x1), (2, .int v_4), (3, .int (0 : Int32)), (4, .int s0), (5, .long x5)] [] h_4) ∧ (¬ x5 ≤ x7 → ∃ Q5 : Int32 → fH → Prop, OkI d mX12_nextNumbers S [.ref r0] h Q5 ∧ ∀ (v_5 : Int32) (h_5 : fH), Q5 v_5 h_5 → G mX12_truthOf (d + 1) S (f_PL Q) 14 [(0, .ref r0), (1, .int x1), (2, .int v_5), (3, .int (0 : Int32)), (4, .int s0), (5, .long x7)] [] h_5))))))) :
    G mX12_truthOf (d + 1) S (f_PL Q) 49 [(0, .ref r0), (1, .int x1), (3, .int x3), (5, .long x5), (7, .long x7)] [.int s0] h := by
  refine G_istore dX12_truthOf_49 (by decide) (lv' := [(4, .int s0), (0, .ref r0), (1, .int x1), (3, .int x3), (5, .long x5), (7, .long x7)]) rfl ?_
  refine G_iload_n 3 rfl dX12_truthOf_51 rfl ?_
  refine G_if_ne (tgt := 78) dX12_truthOf_52 (by decide) (fun c1 => ?_) (fun c1 => ?_)
  · have w := w.1 c1
    refine G_lload 5 rfl dX12_truthOf_78 ?_
    refine G_goto (tgt := 85) dX12_truthOf_80 (by decide) ?_
    refine G_lstore dX12_truthOf_85 (by decide) (lv' := [(5, .long x7), (4, .int s0), (0, .ref r0), (1, .int x1), (3, .int x3), (7, .long x7)]) rfl ?_
    refine G_iconst (v := 0) dX12_truthOf_87 (by decide) ?_
    refine G_istore_n dX12_truthOf_88 rfl (by decide) (lv' := [(3, .int (0 : Int32)), (5, .long x7), (4, .int s0), (0, .ref r0), (1, .int x1), (7, .long x7)]) rfl ?_
    refine G_aload_n 3 rfl dX12_truthOf_89 rfl ?_
    obtain ⟨Q1, ok1, w⟩ := w
    refine G_callV (Z := mX12_nextNumbers) (As := []) (st := []) hL_X12_304 hI_X12_nextNumbers hS_X12_nextNumbers hC_X12_nextNumbers hN_X12 nX12_nextNumbers (by decide) hs1 rfl rfl rfl (Nat.le_of_ble_eq_true rfl) dX12_truthOf_90 ok1 (fun r_ h_1 z_ => ?_)
    obtain ⟨v_1, rfl, q_1⟩ := z_
    have w := w v_1 h_1 q_1
    refine G_istore_n dX12_truthOf_93 rfl (by decide) (lv' := [(2, .int v_1), (3, .int (0 : Int32)), (5, .long x7), (4, .int s0), (0, .ref r0), (1, .int x1), (7, .long x7)]) rfl ?_
    refine G_goto (tgt := 14) dX12_truthOf_94 (by decide) ?_
    exact G_sub [4, 5, 0, 1, 3, 2] rfl w
  · have w := w.2 c1
    refine G_iload_n 2 rfl dX12_truthOf_55 rfl ?_
    refine G_if_ne (tgt := 70) dX12_truthOf_56 (by decide) (fun c2 => ?_) (fun c2 => ?_)
    · have w := w.1 c2
      refine G_lload 5 rfl dX12_truthOf_70 ?_
      refine G_lload 4 rfl dX12_truthOf_72 ?_
      refine G_lif_le (tgt := 83) dX12_truthOf_74 dX12_truthOf_75 (by decide) (fun c3 => ?_) (fun c3 => ?_)
      · have w := w.1 c3
        refine G_lload 4 rfl dX12_truthOf_83 ?_
        refine G_lstore dX12_truthOf_85 (by decide) (lv' := [(5, .long x5), (4, .int s0), (0, .ref r0), (1, .int x1), (3, .int x3), (7, .long x7)]) rfl ?_
        refine G_iconst (v := 0) dX12_truthOf_87 (by decide) ?_
        refine G_istore_n dX12_truthOf_88 rfl (by decide) (lv' := [(3, .int (0 : Int32)), (5, .long x5), (4, .int s0), (0, .ref r0), (1, .int x1), (7, .long x7)]) rfl ?_
        refine G_aload_n 3 rfl dX12_truthOf_89 rfl ?_
        obtain ⟨Q2, ok2, w⟩ := w
        refine G_callV (Z := mX12_nextNumbers) (As := []) (st := []) hL_X12_304 hI_X12_nextNumbers hS_X12_nextNumbers hC_X12_nextNumbers hN_X12 nX12_nextNumbers (by decide) hs1 rfl rfl rfl (Nat.le_of_ble_eq_true rfl) dX12_truthOf_90 ok2 (fun r_ h_2 z_ => ?_)
        obtain ⟨v_2, rfl, q_2⟩ := z_
        have w := w v_2 h_2 q_2
        refine G_istore_n dX12_truthOf_93 rfl (by decide) (lv' := [(2, .int v_2), (3, .int (0 : Int32)), (5, .long x5), (4, .int s0), (0, .ref r0), (1, .int x1), (7, .long x7)]) rfl ?_
        refine G_goto (tgt := 14) dX12_truthOf_94 (by decide) ?_
        exact G_sub [4, 5, 0, 1, 3, 2] rfl w
      · have w := w.2 c3
        refine G_lload 5 rfl dX12_truthOf_78 ?_
        refine G_goto (tgt := 85) dX12_truthOf_80 (by decide) ?_
        refine G_lstore dX12_truthOf_85 (by decide) (lv' := [(5, .long x7), (4, .int s0), (0, .ref r0), (1, .int x1), (3, .int x3), (7, .long x7)]) rfl ?_
        refine G_iconst (v := 0) dX12_truthOf_87 (by decide) ?_
        refine G_istore_n dX12_truthOf_88 rfl (by decide) (lv' := [(3, .int (0 : Int32)), (5, .long x7), (4, .int s0), (0, .ref r0), (1, .int x1), (7, .long x7)]) rfl ?_
        refine G_aload_n 3 rfl dX12_truthOf_89 rfl ?_
        obtain ⟨Q3, ok3, w⟩ := w
        refine G_callV (Z := mX12_nextNumbers) (As := []) (st := []) hL_X12_304 hI_X12_nextNumbers hS_X12_nextNumbers hC_X12_nextNumbers hN_X12 nX12_nextNumbers (by decide) hs1 rfl rfl rfl (Nat.le_of_ble_eq_true rfl) dX12_truthOf_90 ok3 (fun r_ h_3 z_ => ?_)
        obtain ⟨v_3, rfl, q_3⟩ := z_
        have w := w v_3 h_3 q_3
        refine G_istore_n dX12_truthOf_93 rfl (by decide) (lv' := [(2, .int v_3), (3, .int (0 : Int32)), (5, .long x7), (4, .int s0), (0, .ref r0), (1, .int x1), (7, .long x7)]) rfl ?_
        refine G_goto (tgt := 14) dX12_truthOf_94 (by decide) ?_
        exact G_sub [4, 5, 0, 1, 3, 2] rfl w
    · have w := w.2 c2
      refine G_lload 5 rfl dX12_truthOf_59 ?_
      refine G_lload 4 rfl dX12_truthOf_61 ?_
      refine G_lif_ge (tgt := 83) dX12_truthOf_63 dX12_truthOf_64 (by decide) (fun c3 => ?_) (fun c3 => ?_)
      · have w := w.1 c3
        refine G_lload 4 rfl dX12_truthOf_83 ?_
        refine G_lstore dX12_truthOf_85 (by decide) (lv' := [(5, .long x5), (4, .int s0), (0, .ref r0), (1, .int x1), (3, .int x3), (7, .long x7)]) rfl ?_
        refine G_iconst (v := 0) dX12_truthOf_87 (by decide) ?_
        refine G_istore_n dX12_truthOf_88 rfl (by decide) (lv' := [(3, .int (0 : Int32)), (5, .long x5), (4, .int s0), (0, .ref r0), (1, .int x1), (7, .long x7)]) rfl ?_
        refine G_aload_n 3 rfl dX12_truthOf_89 rfl ?_
        obtain ⟨Q4, ok4, w⟩ := w
        refine G_callV (Z := mX12_nextNumbers) (As := []) (st := []) hL_X12_304 hI_X12_nextNumbers hS_X12_nextNumbers hC_X12_nextNumbers hN_X12 nX12_nextNumbers (by decide) hs1 rfl rfl rfl (Nat.le_of_ble_eq_true rfl) dX12_truthOf_90 ok4 (fun r_ h_4 z_ => ?_)
        obtain ⟨v_4, rfl, q_4⟩ := z_
        have w := w v_4 h_4 q_4
        refine G_istore_n dX12_truthOf_93 rfl (by decide) (lv' := [(2, .int v_4), (3, .int (0 : Int32)), (5, .long x5), (4, .int s0), (0, .ref r0), (1, .int x1), (7, .long x7)]) rfl ?_
        refine G_goto (tgt := 14) dX12_truthOf_94 (by decide) ?_
        exact G_sub [4, 5, 0, 1, 3, 2] rfl w
      · have w := w.2 c3
        refine G_goto (tgt := 78) dX12_truthOf_67 (by decide) ?_
        refine G_lload 5 rfl dX12_truthOf_78 ?_
        refine G_goto (tgt := 85) dX12_truthOf_80 (by decide) ?_
        refine G_lstore dX12_truthOf_85 (by decide) (lv' := [(5, .long x7), (4, .int s0), (0, .ref r0), (1, .int x1), (3, .int x3), (7, .long x7)]) rfl ?_
        refine G_iconst (v := 0) dX12_truthOf_87 (by decide) ?_
        refine G_istore_n dX12_truthOf_88 rfl (by decide) (lv' := [(3, .int (0 : Int32)), (5, .long x7), (4, .int s0), (0, .ref r0), (1, .int x1), (7, .long x7)]) rfl ?_
        refine G_aload_n 3 rfl dX12_truthOf_89 rfl ?_
        obtain ⟨Q5, ok5, w⟩ := w
        refine G_callV (Z := mX12_nextNumbers) (As := []) (st := []) hL_X12_304 hI_X12_nextNumbers hS_X12_nextNumbers hC_X12_nextNumbers hN_X12 nX12_nextNumbers (by decide) hs1 rfl rfl rfl (Nat.le_of_ble_eq_true rfl) dX12_truthOf_90 ok5 (fun r_ h_5 z_ => ?_)
        obtain ⟨v_5, rfl, q_5⟩ := z_
        have w := w v_5 h_5 q_5
        refine G_istore_n dX12_truthOf_93 rfl (by decide) (lv' := [(2, .int v_5), (3, .int (0 : Int32)), (5, .long x7), (4, .int s0), (0, .ref r0), (1, .int x1), (7, .long x7)]) rfl ?_
        refine G_goto (tgt := 14) dX12_truthOf_94 (by decide) ?_
        exact G_sub [4, 5, 0, 1, 3, 2] rfl w
-- LostDigitsModel.truth
theorem dX12_truth_0 : decode cX12_truth 0 = .ok (.iload_n 1, 1) := by decide +kernel
theorem dX12_truth_1 : decode cX12_truth 1 = .ok (.invokestatic 134, 3) := by decide +kernel
theorem dX12_truth_4 : decode cX12_truth 4 = .ok (.ifCond .eq 11, 3) := by decide +kernel
theorem dX12_truth_7 : decode cX12_truth 7 = .ok (.aload_n 0, 1) := by decide +kernel
theorem dX12_truth_8 : decode cX12_truth 8 = .ok (.iload_n 1, 1) := by decide +kernel
theorem dX12_truth_9 : decode cX12_truth 9 = .ok (.invokevirtual 307, 3) := by decide +kernel
theorem dX12_truth_12 : decode cX12_truth 12 = .ok (.goto 6, 3) := by decide +kernel
theorem dX12_truth_15 : decode cX12_truth 15 = .ok (.ldc2_w 153, 3) := by decide +kernel
theorem dX12_truth_18 : decode cX12_truth 18 = .ok (.lreturn, 1) := by decide +kernel
set_option maxRecDepth 10000 in
theorem NX12_truth_0 {d : Nat} {S : fW} {h : fH} {Q : Int64 → fH → Prop} {r0 : Nat} {x1 : Int32} {r0_pad r0_text r0_number r0_span r0_now r0_sizeOf r0_workedTo r0_slip r0_exactUpper r0_exactLower r0_more r0_terms r0_order r0_bestOrder r0_low r0_high r0_built r0_better r0_base r0_kept r0_isKept : Nat}  
    (hs1 : (r0, shX12 r0_pad r0_text r0_number r0_span r0_now r0_sizeOf r0_workedTo r0_slip r0_exactUpper r0_exactLower r0_more r0_terms r0_order r0_bestOrder r0_low r0_high r0_built r0_better r0_base r0_kept r0_isKept) ∈ S)
    (w : ∃ Q1 : Int32 → fH → Prop, OkI d mX12_isEnd S [.int x1] h Q1 ∧ ∀ (v_1 : Int32) (h_1 : fH), Q1 v_1 h_1 → ((v_1 = 0 → Q (-1000000000000000002 : Int64) h_1) ∧ (¬ v_1 = 0 → ∃ Q2 : Int64 → fH → Prop, OkL d mX12_truthOf S [.ref r0, .int x1] h_1 Q2 ∧ ∀ (v_2 : Int64) (h_2 : fH), Q2 v_2 h_2 → Q v_2 h_2))) :
    OkL (d + 1) mX12_truth S [.ref r0, .int x1] h Q := by
  refine Ok.of (by decide) (Nat.le_of_ble_eq_true rfl) ?_
  refine G_iload_n 1 rfl dX12_truth_0 rfl ?_
  obtain ⟨Q1, ok1, w⟩ := w
  refine G_callS (Z := mX12_isEnd) (As := [.int x1]) (st := []) hL_X12_134 hT_X12_isEnd hC_X12_isEnd hN_X12 nX12_isEnd (by decide) rfl (Nat.le_of_ble_eq_true rfl) dX12_truth_1 ok1 (fun r_ h_1 z_ => ?_)
  obtain ⟨v_1, rfl, q_1⟩ := z_
  have w := w v_1 h_1 q_1
  refine G_if_eq (tgt := 15) dX12_truth_4 (by decide) (fun c1 => ?_) (fun c1 => ?_)
  · have w := w.1 c1
    refine G_ldc2 hK_X12_153 dX12_truth_15 ?_
    exact G_lret rfl dX12_truth_18 ⟨_, rfl, w⟩
  · have w := w.2 c1
    refine G_aload_n 0 rfl dX12_truth_7 rfl ?_
    refine G_iload_n 1 rfl dX12_truth_8 rfl ?_
    obtain ⟨Q2, ok2, w⟩ := w
    refine G_callV (Z := mX12_truthOf) (As := [.int x1]) (st := []) hL_X12_307 hI_X12_truthOf hS_X12_truthOf hC_X12_truthOf hN_X12 nX12_truthOf (by decide) hs1 rfl rfl rfl (Nat.le_of_ble_eq_true rfl) dX12_truth_9 ok2 (fun r_ h_2 z_ => ?_)
    obtain ⟨v_2, rfl, q_2⟩ := z_
    have w := w v_2 h_2 q_2
    refine G_goto (tgt := 18) dX12_truth_12 (by decide) ?_
    exact G_lret rfl dX12_truth_18 ⟨_, rfl, w⟩
-- LostDigitsModel.add
theorem dX12_add_0 : decode cX12_add 0 = .ok (.aload_n 0, 1) := by decide +kernel
theorem dX12_add_1 : decode cX12_add 1 = .ok (.getfield 59, 3) := by decide +kernel
theorem dX12_add_4 : decode cX12_add 4 = .ok (.aload_n 0, 1) := by decide +kernel
theorem dX12_add_5 : decode cX12_add 5 = .ok (.getfield 310, 3) := by decide +kernel
theorem dX12_add_8 : decode cX12_add 8 = .ok (.iload_n 1, 1) := by decide +kernel
theorem dX12_add_9 : decode cX12_add 9 = .ok (.iastore, 1) := by decide +kernel
theorem dX12_add_10 : decode cX12_add 10 = .ok (.aload_n 0, 1) := by decide +kernel
theorem dX12_add_11 : decode cX12_add 11 = .ok (.dup, 1) := by decide +kernel
theorem dX12_add_12 : decode cX12_add 12 = .ok (.getfield 310, 3) := by decide +kernel
theorem dX12_add_15 : decode cX12_add 15 = .ok (.iconst 1, 1) := by decide +kernel
theorem dX12_add_16 : decode cX12_add 16 = .ok (.iadd, 1) := by decide +kernel
theorem dX12_add_17 : decode cX12_add 17 = .ok (.putfield 310, 3) := by decide +kernel
theorem dX12_add_20 : decode cX12_add 20 = .ok (.return_, 1) := by decide +kernel
set_option maxRecDepth 10000 in
theorem NX12_add_0 {d : Nat} {S : fW} {h : fH} {Q : fH → Prop} {r0 : Nat} {x1 : Int32} {r0_pad r0_text r0_number r0_span r0_now r0_sizeOf r0_workedTo r0_slip r0_exactUpper r0_exactLower r0_more r0_terms r0_order r0_bestOrder r0_low r0_high r0_built r0_better r0_base r0_kept r0_isKept : Nat}  
    (hs1 : (r0, shX12 r0_pad r0_text r0_number r0_span r0_now r0_sizeOf r0_workedTo r0_slip r0_exactUpper r0_exactLower r0_more r0_terms r0_order r0_bestOrder r0_low r0_high r0_built r0_better r0_base r0_kept r0_isKept) ∈ S)
    (hs2 : (r0_built, shI 32) ∈ S)
    (w : vp_in (h.1 r0 30) 32 ∧ ∀ g_1 : fH, g_1 = u_ai h r0_built (upd (h.2.2.1 r0_built) (h.1 r0 30).toNatClampNeg x1) → ∀ g_2 : fH, g_2 = u_fi g_1 r0 30 ((g_1.1 r0 30) + (1 : Int32)) → Q g_2) :
    OkV d mX12_add S [.ref r0, .int x1] h Q := by
  refine Ok.of (by decide) (Nat.le_of_ble_eq_true rfl) ?_
  refine G_aload_n 0 rfl dX12_add_0 rfl ?_
  refine G_getr (j := r0_built) (k := 29) hs1 (q := (RX12, TX12, 40)) rfl inX12 (by decide) rfl hF_X12_59 dX12_add_1 ?_
  refine G_aload_n 0 rfl dX12_add_4 rfl ?_
  refine G_geti (k := 30) hs1 (q := (RX12, TX12, 40)) rfl inX12 (by decide) (Or.inl rfl) hF_X12_310 dX12_add_5 ?_
  refine G_iload_n 1 rfl dX12_add_8 rfl ?_
  obtain ⟨sd1, w⟩ := w
  refine G_iast hs2 sd1 dX12_add_9 ?_
  refine G_nm (fun g_1 e_1 => ?_)
  have w := w g_1 e_1
  refine G_aload_n 0 rfl dX12_add_10 rfl ?_
  refine G_dup dX12_add_11 rfl ?_
  refine G_geti (k := 30) hs1 (q := (RX12, TX12, 40)) rfl inX12 (by decide) (Or.inl rfl) hF_X12_310 dX12_add_12 ?_
  refine G_iconst (v := 1) dX12_add_15 (by decide) ?_
  refine G_iadd dX12_add_16 ?_
  refine G_puti (k := 30) tyX12 hs1 (q := (RX12, TX12, 40)) rfl inX12 tyX12_ok nmX12 (by decide) rfl rfl rfl hF_X12_310 dX12_add_17 ?_
  refine G_nm (fun g_2 e_2 => ?_)
  have w := w g_2 e_2
  exact G_vret rfl dX12_add_20 ⟨rfl, w⟩
-- LostDigitsModel.addPart
theorem dX12_addPart_0 : decode cX12_addPart 0 = .ok (.iload_n 1, 1) := by decide +kernel
theorem dX12_addPart_1 : decode cX12_addPart 1 = .ok (.istore_n 2, 1) := by decide +kernel
theorem dX12_addPart_2 : decode cX12_addPart 2 = .ok (.iload_n 2, 1) := by decide +kernel
theorem dX12_addPart_3 : decode cX12_addPart 3 = .ok (.iload_n 1, 1) := by decide +kernel
theorem dX12_addPart_4 : decode cX12_addPart 4 = .ok (.aload_n 0, 1) := by decide +kernel
theorem dX12_addPart_5 : decode cX12_addPart 5 = .ok (.getfield 25, 3) := by decide +kernel
theorem dX12_addPart_8 : decode cX12_addPart 8 = .ok (.iload_n 1, 1) := by decide +kernel
theorem dX12_addPart_9 : decode cX12_addPart 9 = .ok (.iaload, 1) := by decide +kernel
theorem dX12_addPart_10 : decode cX12_addPart 10 = .ok (.iadd, 1) := by decide +kernel
theorem dX12_addPart_11 : decode cX12_addPart 11 = .ok (.if_icmp .ge 19, 3) := by decide +kernel
theorem dX12_addPart_14 : decode cX12_addPart 14 = .ok (.aload_n 0, 1) := by decide +kernel
theorem dX12_addPart_15 : decode cX12_addPart 15 = .ok (.aload_n 0, 1) := by decide +kernel
theorem dX12_addPart_16 : decode cX12_addPart 16 = .ok (.getfield 22, 3) := by decide +kernel
theorem dX12_addPart_19 : decode cX12_addPart 19 = .ok (.iload_n 2, 1) := by decide +kernel
theorem dX12_addPart_20 : decode cX12_addPart 20 = .ok (.iaload, 1) := by decide +kernel
theorem dX12_addPart_21 : decode cX12_addPart 21 = .ok (.invokevirtual 313, 3) := by decide +kernel
theorem dX12_addPart_24 : decode cX12_addPart 24 = .ok (.iinc 2 1, 3) := by decide +kernel
theorem dX12_addPart_27 : decode cX12_addPart 27 = .ok (.goto (-25), 3) := by decide +kernel
theorem dX12_addPart_30 : decode cX12_addPart 30 = .ok (.return_, 1) := by decide +kernel
set_option maxRecDepth 10000 in
theorem NX12_addPart_0 {d : Nat} {S : fW} {h : fH} {Q : fH → Prop} {r0 : Nat} {x1 : Int32}  
    (w : G mX12_addPart (d + 1) S (f_PV Q) 2 [(0, .ref r0), (1, .int x1), (2, .int x1)] [] h) :
    OkV (d + 1) mX12_addPart S [.ref r0, .int x1] h Q := by
  refine Ok.of (by decide) (Nat.le_of_ble_eq_true rfl) ?_
  refine G_iload_n 1 rfl dX12_addPart_0 rfl ?_
  refine G_istore_n dX12_addPart_1 rfl (by decide) (lv' := [(2, .int x1), (0, .ref r0), (1, .int x1)]) rfl ?_
  exact G_sub [1, 2, 0] rfl w

set_option maxRecDepth 10000 in
theorem NX12_addPart_2 {d : Nat} {S : fW} {h : fH} {Q : fH → Prop} {r0 : Nat} {x1 : Int32} {x2 : Int32} {r0_pad r0_text r0_number r0_span r0_now r0_sizeOf r0_workedTo r0_slip r0_exactUpper r0_exactLower r0_more r0_terms r0_order r0_bestOrder r0_low r0_high r0_built r0_better r0_base r0_kept r0_isKept : Nat}  
    (hs1 : (r0, shX12 r0_pad r0_text r0_number r0_span r0_now r0_sizeOf r0_workedTo r0_slip r0_exactUpper r0_exactLower r0_more r0_terms r0_order r0_bestOrder r0_low r0_high r0_built r0_better r0_base r0_kept r0_isKept) ∈ S)
    (hs2 : (r0_sizeOf, shI 13) ∈ S)
    (hs3 : (r0_now, shI 13) ∈ S)
    (w : vp_in x1 13 ∧ (((x1 + (h.2.2.1 r0_sizeOf x1.toNatClampNeg)) ≤ x2 → Q h) ∧ (¬ (x1 + (h.2.2.1 r0_sizeOf x1.toNatClampNeg)) ≤ x2 → vp_in x2 13 ∧ ∃ Q1 : fH → Prop, OkV d mX12_add S [.ref r0, .int (h.2.2.1 r0_now x2.toNatClampNeg)] h Q1 ∧ ∀ (h_1 : fH), Q1 h_1 → G mX12_addPart (d + 1) S (f_PV Q) 2 [(0, .ref r0), (1, .int x1), (2, .int (x2 + 1))] [] h_1))) :
    G mX12_addPart (d + 1) S (f_PV Q) 2 [(0, .ref r0), (1, .int x1), (2, .int x2)] [] h := by
  refine G_iload_n 2 rfl dX12_addPart_2 rfl ?_
  refine G_iload_n 1 rfl dX12_addPart_3 rfl ?_
  refine G_aload_n 0 rfl dX12_addPart_4 rfl ?_
  refine G_getr (j := r0_sizeOf) (k := 15) hs1 (q := (RX12, TX12, 40)) rfl inX12 (by decide) rfl hF_X12_25 dX12_addPart_5 ?_
  refine G_iload_n 1 rfl dX12_addPart_8 rfl ?_
  obtain ⟨sd1, w⟩ := w
  refine G_iald hs2 sd1 dX12_addPart_9 ?_
  refine G_iadd dX12_addPart_10 ?_
  refine G_icmp_ge (tgt := 30) dX12_addPart_11 (by decide) (fun c1 => ?_) (fun c1 => ?_)
  · have w := w.1 c1
    exact G_vret rfl dX12_addPart_30 ⟨rfl, w⟩
  · have w := w.2 c1
    refine G_aload_n 0 rfl dX12_addPart_14 rfl ?_
    refine G_aload_n 0 rfl dX12_addPart_15 rfl ?_
    refine G_getr (j := r0_now) (k := 13) hs1 (q := (RX12, TX12, 40)) rfl inX12 (by decide) rfl hF_X12_22 dX12_addPart_16 ?_
    refine G_iload_n 2 rfl dX12_addPart_19 rfl ?_
    obtain ⟨sd2, w⟩ := w
    refine G_iald hs3 sd2 dX12_addPart_20 ?_
    obtain ⟨Q1, ok1, w⟩ := w
    refine G_callV (Z := mX12_add) (As := [.int (h.2.2.1 r0_now x2.toNatClampNeg)]) (st := []) hL_X12_313 hI_X12_add hS_X12_add hC_X12_add hN_X12 nX12_add (by decide) hs1 rfl rfl rfl (Nat.le_of_ble_eq_true rfl) dX12_addPart_21 ok1 (fun r_ h_1 z_ => ?_)
    obtain ⟨rfl, q_1⟩ := z_
    have w := w h_1 q_1
    refine G_iinc (v := 1) 2 rfl dX12_addPart_24 (by decide) (by decide) (lv' := [(2, .int (x2 + 1)), (0, .ref r0), (1, .int x1)]) rfl ?_
    refine G_goto (tgt := 2) dX12_addPart_27 (by decide) ?_
    exact G_sub [1, 2, 0] rfl w
-- LostDigitsModel.isSame
theorem dX12_isSame_0 : decode cX12_isSame 0 = .ok (.aload_n 0, 1) := by decide +kernel
theorem dX12_isSame_1 : decode cX12_isSame 1 = .ok (.getfield 25, 3) := by decide +kernel
theorem dX12_isSame_4 : decode cX12_isSame 4 = .ok (.iload_n 1, 1) := by decide +kernel
theorem dX12_isSame_5 : decode cX12_isSame 5 = .ok (.iaload, 1) := by decide +kernel
theorem dX12_isSame_6 : decode cX12_isSame 6 = .ok (.aload_n 0, 1) := by decide +kernel
theorem dX12_isSame_7 : decode cX12_isSame 7 = .ok (.getfield 25, 3) := by decide +kernel
theorem dX12_isSame_10 : decode cX12_isSame 10 = .ok (.iload_n 2, 1) := by decide +kernel
theorem dX12_isSame_11 : decode cX12_isSame 11 = .ok (.iaload, 1) := by decide +kernel
theorem dX12_isSame_12 : decode cX12_isSame 12 = .ok (.if_icmp .ne 7, 3) := by decide +kernel
theorem dX12_isSame_15 : decode cX12_isSame 15 = .ok (.iconst 1, 1) := by decide +kernel
theorem dX12_isSame_16 : decode cX12_isSame 16 = .ok (.goto 4, 3) := by decide +kernel
theorem dX12_isSame_19 : decode cX12_isSame 19 = .ok (.iconst 0, 1) := by decide +kernel
theorem dX12_isSame_20 : decode cX12_isSame 20 = .ok (.istore_n 3, 1) := by decide +kernel
theorem dX12_isSame_21 : decode cX12_isSame 21 = .ok (.iconst 0, 1) := by decide +kernel
theorem dX12_isSame_22 : decode cX12_isSame 22 = .ok (.istore 4, 2) := by decide +kernel
theorem dX12_isSame_24 : decode cX12_isSame 24 = .ok (.iload 4, 2) := by decide +kernel
theorem dX12_isSame_26 : decode cX12_isSame 26 = .ok (.aload_n 0, 1) := by decide +kernel
theorem dX12_isSame_27 : decode cX12_isSame 27 = .ok (.getfield 25, 3) := by decide +kernel
theorem dX12_isSame_30 : decode cX12_isSame 30 = .ok (.iload_n 1, 1) := by decide +kernel
theorem dX12_isSame_31 : decode cX12_isSame 31 = .ok (.iaload, 1) := by decide +kernel
theorem dX12_isSame_32 : decode cX12_isSame 32 = .ok (.if_icmp .ge 40, 3) := by decide +kernel
theorem dX12_isSame_35 : decode cX12_isSame 35 = .ok (.iload_n 3, 1) := by decide +kernel
theorem dX12_isSame_36 : decode cX12_isSame 36 = .ok (.ifCond .eq 36, 3) := by decide +kernel
theorem dX12_isSame_39 : decode cX12_isSame 39 = .ok (.aload_n 0, 1) := by decide +kernel
theorem dX12_isSame_40 : decode cX12_isSame 40 = .ok (.getfield 22, 3) := by decide +kernel
theorem dX12_isSame_43 : decode cX12_isSame 43 = .ok (.iload_n 1, 1) := by decide +kernel
theorem dX12_isSame_44 : decode cX12_isSame 44 = .ok (.iload 4, 2) := by decide +kernel
theorem dX12_isSame_46 : decode cX12_isSame 46 = .ok (.iadd, 1) := by decide +kernel
theorem dX12_isSame_47 : decode cX12_isSame 47 = .ok (.iaload, 1) := by decide +kernel
theorem dX12_isSame_48 : decode cX12_isSame 48 = .ok (.aload_n 0, 1) := by decide +kernel
theorem dX12_isSame_49 : decode cX12_isSame 49 = .ok (.getfield 22, 3) := by decide +kernel
theorem dX12_isSame_52 : decode cX12_isSame 52 = .ok (.iload_n 2, 1) := by decide +kernel
theorem dX12_isSame_53 : decode cX12_isSame 53 = .ok (.iload 4, 2) := by decide +kernel
theorem dX12_isSame_55 : decode cX12_isSame 55 = .ok (.iadd, 1) := by decide +kernel
theorem dX12_isSame_56 : decode cX12_isSame 56 = .ok (.iaload, 1) := by decide +kernel
theorem dX12_isSame_57 : decode cX12_isSame 57 = .ok (.if_icmp .ne 7, 3) := by decide +kernel
theorem dX12_isSame_60 : decode cX12_isSame 60 = .ok (.iconst 1, 1) := by decide +kernel
theorem dX12_isSame_61 : decode cX12_isSame 61 = .ok (.goto 4, 3) := by decide +kernel
theorem dX12_isSame_64 : decode cX12_isSame 64 = .ok (.iconst 0, 1) := by decide +kernel
theorem dX12_isSame_65 : decode cX12_isSame 65 = .ok (.istore_n 3, 1) := by decide +kernel
theorem dX12_isSame_66 : decode cX12_isSame 66 = .ok (.iinc 4 1, 3) := by decide +kernel
theorem dX12_isSame_69 : decode cX12_isSame 69 = .ok (.goto (-45), 3) := by decide +kernel
theorem dX12_isSame_72 : decode cX12_isSame 72 = .ok (.iload_n 3, 1) := by decide +kernel
theorem dX12_isSame_73 : decode cX12_isSame 73 = .ok (.ireturn, 1) := by decide +kernel
set_option maxRecDepth 10000 in
theorem NX12_isSame_0 {d : Nat} {S : fW} {h : fH} {Q : Int32 → fH → Prop} {r0 : Nat} {x1 : Int32} {x2 : Int32} {r0_pad r0_text r0_number r0_span r0_now r0_sizeOf r0_workedTo r0_slip r0_exactUpper r0_exactLower r0_more r0_terms r0_order r0_bestOrder r0_low r0_high r0_built r0_better r0_base r0_kept r0_isKept : Nat}  
    (hs1 : (r0, shX12 r0_pad r0_text r0_number r0_span r0_now r0_sizeOf r0_workedTo r0_slip r0_exactUpper r0_exactLower r0_more r0_terms r0_order r0_bestOrder r0_low r0_high r0_built r0_better r0_base r0_kept r0_isKept) ∈ S)
    (hs2 : (r0_sizeOf, shI 13) ∈ S)
    (w : vp_in x1 13 ∧ vp_in x2 13 ∧ ((¬ (h.2.2.1 r0_sizeOf x1.toNatClampNeg) = (h.2.2.1 r0_sizeOf x2.toNatClampNeg) → G mX12_isSame d S (f_PI Q) 24 [(0, .ref r0), (1, .int x1), (2, .int x2), (3, .int (0 : Int32)), (4, .int (0 : Int32))] [] h) ∧ ((h.2.2.1 r0_sizeOf x1.toNatClampNeg) = (h.2.2.1 r0_sizeOf x2.toNatClampNeg) → G mX12_isSame d S (f_PI Q) 24 [(0, .ref r0), (1, .int x1), (2, .int x2), (3, .int (1 : Int32)), (4, .int (0 : Int32))] [] h))) :
    OkI d mX12_isSame S [.ref r0, .int x1, .int x2] h Q := by
  refine Ok.of (by decide) (Nat.le_of_ble_eq_true rfl) ?_
  refine G_aload_n 0 rfl dX12_isSame_0 rfl ?_
  refine G_getr (j := r0_sizeOf) (k := 15) hs1 (q := (RX12, TX12, 40)) rfl inX12 (by decide) rfl hF_X12_25 dX12_isSame_1 ?_
  refine G_iload_n 1 rfl dX12_isSame_4 rfl ?_
  obtain ⟨sd1, w⟩ := w
  refine G_iald hs2 sd1 dX12_isSame_5 ?_
  refine G_aload_n 0 rfl dX12_isSame_6 rfl ?_
  refine G_getr (j := r0_sizeOf) (k := 15) hs1 (q := (RX12, TX12, 40)) rfl inX12 (by decide) rfl hF_X12_25 dX12_isSame_7 ?_
  refine G_iload_n 2 rfl dX12_isSame_10 rfl ?_
  obtain ⟨sd2, w⟩ := w
  refine G_iald hs2 sd2 dX12_isSame_11 ?_
  refine G_icmp_ne (tgt := 19) dX12_isSame_12 (by decide) (fun c1 => ?_) (fun c1 => ?_)
  · have w := w.1 c1
    refine G_iconst (v := 0) dX12_isSame_19 (by decide) ?_
    refine G_istore_n dX12_isSame_20 rfl (by decide) (lv' := [(3, .int (0 : Int32)), (0, .ref r0), (1, .int x1), (2, .int x2)]) rfl ?_
    refine G_iconst (v := 0) dX12_isSame_21 (by decide) ?_
    refine G_istore dX12_isSame_22 (by decide) (lv' := [(4, .int (0 : Int32)), (3, .int (0 : Int32)), (0, .ref r0), (1, .int x1), (2, .int x2)]) rfl ?_
    exact G_sub [2, 3, 4, 1, 0] rfl w
  · have w := w.2 c1
    refine G_iconst (v := 1) dX12_isSame_15 (by decide) ?_
    refine G_goto (tgt := 20) dX12_isSame_16 (by decide) ?_
    refine G_istore_n dX12_isSame_20 rfl (by decide) (lv' := [(3, .int (1 : Int32)), (0, .ref r0), (1, .int x1), (2, .int x2)]) rfl ?_
    refine G_iconst (v := 0) dX12_isSame_21 (by decide) ?_
    refine G_istore dX12_isSame_22 (by decide) (lv' := [(4, .int (0 : Int32)), (3, .int (1 : Int32)), (0, .ref r0), (1, .int x1), (2, .int x2)]) rfl ?_
    exact G_sub [2, 3, 4, 1, 0] rfl w

set_option maxRecDepth 10000 in
theorem NX12_isSame_24 {d : Nat} {S : fW} {h : fH} {Q : Int32 → fH → Prop} {r0 : Nat} {x1 : Int32} {x2 : Int32} {x3 : Int32} {x4 : Int32} {r0_pad r0_text r0_number r0_span r0_now r0_sizeOf r0_workedTo r0_slip r0_exactUpper r0_exactLower r0_more r0_terms r0_order r0_bestOrder r0_low r0_high r0_built r0_better r0_base r0_kept r0_isKept : Nat}  
    (hs1 : (r0, shX12 r0_pad r0_text r0_number r0_span r0_now r0_sizeOf r0_workedTo r0_slip r0_exactUpper r0_exactLower r0_more r0_terms r0_order r0_bestOrder r0_low r0_high r0_built r0_better r0_base r0_kept r0_isKept) ∈ S)
    (hs2 : (r0_sizeOf, shI 13) ∈ S)
    (hs3 : (r0_now, shI 13) ∈ S)
    (w : vp_in x1 13 ∧ (((h.2.2.1 r0_sizeOf x1.toNatClampNeg) ≤ x4 → (x3 = 0 ∨ x3 = 1) ∧ Q x3 h) ∧ (¬ (h.2.2.1 r0_sizeOf x1.toNatClampNeg) ≤ x4 → ((x3 = 0 → (x3 = 0 ∨ x3 = 1) ∧ Q x3 h) ∧ (¬ x3 = 0 → vp_in (x1 + x4) 13 ∧ vp_in (x2 + x4) 13 ∧ ((¬ (h.2.2.1 r0_now (x1 + x4).toNatClampNeg) = (h.2.2.1 r0_now (x2 + x4).toNatClampNeg) → G mX12_isSame d S (f_PI Q) 24 [(0, .ref r0), (1, .int x1), (2, .int x2), (3, .int (0 : Int32)), (4, .int (x4 + 1))] [] h) ∧ ((h.2.2.1 r0_now (x1 + x4).toNatClampNeg) = (h.2.2.1 r0_now (x2 + x4).toNatClampNeg) → G mX12_isSame d S (f_PI Q) 24 [(0, .ref r0), (1, .int x1), (2, .int x2), (3, .int (1 : Int32)), (4, .int (x4 + 1))] [] h))))))) :
    G mX12_isSame d S (f_PI Q) 24 [(0, .ref r0), (1, .int x1), (2, .int x2), (3, .int x3), (4, .int x4)] [] h := by
  refine G_iload 4 rfl dX12_isSame_24 ?_
  refine G_aload_n 0 rfl dX12_isSame_26 rfl ?_
  refine G_getr (j := r0_sizeOf) (k := 15) hs1 (q := (RX12, TX12, 40)) rfl inX12 (by decide) rfl hF_X12_25 dX12_isSame_27 ?_
  refine G_iload_n 1 rfl dX12_isSame_30 rfl ?_
  obtain ⟨sd1, w⟩ := w
  refine G_iald hs2 sd1 dX12_isSame_31 ?_
  refine G_icmp_ge (tgt := 72) dX12_isSame_32 (by decide) (fun c1 => ?_) (fun c1 => ?_)
  · have w := w.1 c1
    refine G_iload_n 3 rfl dX12_isSame_72 rfl ?_
    obtain ⟨sd2, w⟩ := w
    exact G_zret rfl sd2 dX12_isSame_73 ⟨_, rfl, w⟩
  · have w := w.2 c1
    refine G_iload_n 3 rfl dX12_isSame_35 rfl ?_
    refine G_if_eq (tgt := 72) dX12_isSame_36 (by decide) (fun c2 => ?_) (fun c2 => ?_)
    · have w := w.1 c2
      refine G_iload_n 3 rfl dX12_isSame_72 rfl ?_
      obtain ⟨sd2, w⟩ := w
      exact G_zret rfl sd2 dX12_isSame_73 ⟨_, rfl, w⟩
    · have w := w.2 c2
      refine G_aload_n 0 rfl dX12_isSame_39 rfl ?_
      refine G_getr (j := r0_now) (k := 13) hs1 (q := (RX12, TX12, 40)) rfl inX12 (by decide) rfl hF_X12_22 dX12_isSame_40 ?_
      refine G_iload_n 1 rfl dX12_isSame_43 rfl ?_
      refine G_iload 4 rfl dX12_isSame_44 ?_
      refine G_iadd dX12_isSame_46 ?_
      obtain ⟨sd2, w⟩ := w
      refine G_iald hs3 sd2 dX12_isSame_47 ?_
      refine G_aload_n 0 rfl dX12_isSame_48 rfl ?_
      refine G_getr (j := r0_now) (k := 13) hs1 (q := (RX12, TX12, 40)) rfl inX12 (by decide) rfl hF_X12_22 dX12_isSame_49 ?_
      refine G_iload_n 2 rfl dX12_isSame_52 rfl ?_
      refine G_iload 4 rfl dX12_isSame_53 ?_
      refine G_iadd dX12_isSame_55 ?_
      obtain ⟨sd3, w⟩ := w
      refine G_iald hs3 sd3 dX12_isSame_56 ?_
      refine G_icmp_ne (tgt := 64) dX12_isSame_57 (by decide) (fun c3 => ?_) (fun c3 => ?_)
      · have w := w.1 c3
        refine G_iconst (v := 0) dX12_isSame_64 (by decide) ?_
        refine G_istore_n dX12_isSame_65 rfl (by decide) (lv' := [(3, .int (0 : Int32)), (0, .ref r0), (1, .int x1), (2, .int x2), (4, .int x4)]) rfl ?_
        refine G_iinc (v := 1) 4 rfl dX12_isSame_66 (by decide) (by decide) (lv' := [(4, .int (x4 + 1)), (3, .int (0 : Int32)), (0, .ref r0), (1, .int x1), (2, .int x2)]) rfl ?_
        refine G_goto (tgt := 24) dX12_isSame_69 (by decide) ?_
        exact G_sub [2, 3, 4, 1, 0] rfl w
      · have w := w.2 c3
        refine G_iconst (v := 1) dX12_isSame_60 (by decide) ?_
        refine G_goto (tgt := 65) dX12_isSame_61 (by decide) ?_
        refine G_istore_n dX12_isSame_65 rfl (by decide) (lv' := [(3, .int (1 : Int32)), (0, .ref r0), (1, .int x1), (2, .int x2), (4, .int x4)]) rfl ?_
        refine G_iinc (v := 1) 4 rfl dX12_isSame_66 (by decide) (by decide) (lv' := [(4, .int (x4 + 1)), (3, .int (1 : Int32)), (0, .ref r0), (1, .int x1), (2, .int x2)]) rfl ?_
        refine G_goto (tgt := 24) dX12_isSame_69 (by decide) ?_
        exact G_sub [2, 3, 4, 1, 0] rfl w
-- LostDigitsModel.hasSigns
theorem dX12_hasSigns_0 : decode cX12_hasSigns 0 = .ok (.iload_n 1, 1) := by decide +kernel
theorem dX12_hasSigns_1 : decode cX12_hasSigns 1 = .ok (.tableswitch 281 0 5 #[39, 57, 85, 121, 176, 258], 39) := by decide +kernel
theorem dX12_hasSigns_40 : decode cX12_hasSigns 40 = .ok (.iload_n 2, 1) := by decide +kernel
theorem dX12_hasSigns_41 : decode cX12_hasSigns 41 = .ok (.bipush 43, 2) := by decide +kernel
theorem dX12_hasSigns_43 : decode cX12_hasSigns 43 = .ok (.if_icmp .eq 9, 3) := by decide +kernel
theorem dX12_hasSigns_46 : decode cX12_hasSigns 46 = .ok (.iload_n 2, 1) := by decide +kernel
theorem dX12_hasSigns_47 : decode cX12_hasSigns 47 = .ok (.bipush 42, 2) := by decide +kernel
theorem dX12_hasSigns_49 : decode cX12_hasSigns 49 = .ok (.if_icmp .ne 7, 3) := by decide +kernel
theorem dX12_hasSigns_52 : decode cX12_hasSigns 52 = .ok (.iconst 1, 1) := by decide +kernel
theorem dX12_hasSigns_53 : decode cX12_hasSigns 53 = .ok (.goto 4, 3) := by decide +kernel
theorem dX12_hasSigns_56 : decode cX12_hasSigns 56 = .ok (.iconst 0, 1) := by decide +kernel
theorem dX12_hasSigns_57 : decode cX12_hasSigns 57 = .ok (.ireturn, 1) := by decide +kernel
theorem dX12_hasSigns_58 : decode cX12_hasSigns 58 = .ok (.iload_n 2, 1) := by decide +kernel
theorem dX12_hasSigns_59 : decode cX12_hasSigns 59 = .ok (.bipush 43, 2) := by decide +kernel
theorem dX12_hasSigns_61 : decode cX12_hasSigns 61 = .ok (.if_icmp .eq 9, 3) := by decide +kernel
theorem dX12_hasSigns_64 : decode cX12_hasSigns 64 = .ok (.iload_n 2, 1) := by decide +kernel
theorem dX12_hasSigns_65 : decode cX12_hasSigns 65 = .ok (.bipush 42, 2) := by decide +kernel
theorem dX12_hasSigns_67 : decode cX12_hasSigns 67 = .ok (.if_icmp .ne 17, 3) := by decide +kernel
theorem dX12_hasSigns_70 : decode cX12_hasSigns 70 = .ok (.aload_n 0, 1) := by decide +kernel
theorem dX12_hasSigns_71 : decode cX12_hasSigns 71 = .ok (.getfield 22, 3) := by decide +kernel
theorem dX12_hasSigns_74 : decode cX12_hasSigns 74 = .ok (.iload_n 3, 1) := by decide +kernel
theorem dX12_hasSigns_75 : decode cX12_hasSigns 75 = .ok (.iaload, 1) := by decide +kernel
theorem dX12_hasSigns_76 : decode cX12_hasSigns 76 = .ok (.iload_n 2, 1) := by decide +kernel
theorem dX12_hasSigns_77 : decode cX12_hasSigns 77 = .ok (.if_icmp .ne 7, 3) := by decide +kernel
theorem dX12_hasSigns_80 : decode cX12_hasSigns 80 = .ok (.iconst 1, 1) := by decide +kernel
theorem dX12_hasSigns_81 : decode cX12_hasSigns 81 = .ok (.goto 4, 3) := by decide +kernel
theorem dX12_hasSigns_84 : decode cX12_hasSigns 84 = .ok (.iconst 0, 1) := by decide +kernel
theorem dX12_hasSigns_85 : decode cX12_hasSigns 85 = .ok (.ireturn, 1) := by decide +kernel
theorem dX12_hasSigns_86 : decode cX12_hasSigns 86 = .ok (.iload_n 2, 1) := by decide +kernel
theorem dX12_hasSigns_87 : decode cX12_hasSigns 87 = .ok (.bipush 42, 2) := by decide +kernel
theorem dX12_hasSigns_89 : decode cX12_hasSigns 89 = .ok (.if_icmp .ne 31, 3) := by decide +kernel
theorem dX12_hasSigns_92 : decode cX12_hasSigns 92 = .ok (.aload_n 0, 1) := by decide +kernel
theorem dX12_hasSigns_93 : decode cX12_hasSigns 93 = .ok (.getfield 22, 3) := by decide +kernel
theorem dX12_hasSigns_96 : decode cX12_hasSigns 96 = .ok (.iload 4, 2) := by decide +kernel
theorem dX12_hasSigns_98 : decode cX12_hasSigns 98 = .ok (.iaload, 1) := by decide +kernel
theorem dX12_hasSigns_99 : decode cX12_hasSigns 99 = .ok (.bipush 43, 2) := by decide +kernel
theorem dX12_hasSigns_101 : decode cX12_hasSigns 101 = .ok (.if_icmp .eq 15, 3) := by decide +kernel
theorem dX12_hasSigns_104 : decode cX12_hasSigns 104 = .ok (.aload_n 0, 1) := by decide +kernel
theorem dX12_hasSigns_105 : decode cX12_hasSigns 105 = .ok (.getfield 22, 3) := by decide +kernel
theorem dX12_hasSigns_108 : decode cX12_hasSigns 108 = .ok (.iload 4, 2) := by decide +kernel
theorem dX12_hasSigns_110 : decode cX12_hasSigns 110 = .ok (.iaload, 1) := by decide +kernel
theorem dX12_hasSigns_111 : decode cX12_hasSigns 111 = .ok (.bipush 45, 2) := by decide +kernel
theorem dX12_hasSigns_113 : decode cX12_hasSigns 113 = .ok (.if_icmp .ne 7, 3) := by decide +kernel
theorem dX12_hasSigns_116 : decode cX12_hasSigns 116 = .ok (.iconst 1, 1) := by decide +kernel
theorem dX12_hasSigns_117 : decode cX12_hasSigns 117 = .ok (.goto 4, 3) := by decide +kernel
theorem dX12_hasSigns_120 : decode cX12_hasSigns 120 = .ok (.iconst 0, 1) := by decide +kernel
theorem dX12_hasSigns_121 : decode cX12_hasSigns 121 = .ok (.ireturn, 1) := by decide +kernel
theorem dX12_hasSigns_122 : decode cX12_hasSigns 122 = .ok (.iload_n 2, 1) := by decide +kernel
theorem dX12_hasSigns_123 : decode cX12_hasSigns 123 = .ok (.bipush 43, 2) := by decide +kernel
theorem dX12_hasSigns_125 : decode cX12_hasSigns 125 = .ok (.if_icmp .eq 9, 3) := by decide +kernel
theorem dX12_hasSigns_128 : decode cX12_hasSigns 128 = .ok (.iload_n 2, 1) := by decide +kernel
theorem dX12_hasSigns_129 : decode cX12_hasSigns 129 = .ok (.bipush 45, 2) := by decide +kernel
theorem dX12_hasSigns_131 : decode cX12_hasSigns 131 = .ok (.if_icmp .ne 44, 3) := by decide +kernel
theorem dX12_hasSigns_134 : decode cX12_hasSigns 134 = .ok (.aload_n 0, 1) := by decide +kernel
theorem dX12_hasSigns_135 : decode cX12_hasSigns 135 = .ok (.getfield 22, 3) := by decide +kernel
theorem dX12_hasSigns_138 : decode cX12_hasSigns 138 = .ok (.iload_n 3, 1) := by decide +kernel
theorem dX12_hasSigns_139 : decode cX12_hasSigns 139 = .ok (.iaload, 1) := by decide +kernel
theorem dX12_hasSigns_140 : decode cX12_hasSigns 140 = .ok (.bipush 42, 2) := by decide +kernel
theorem dX12_hasSigns_142 : decode cX12_hasSigns 142 = .ok (.if_icmp .ne 33, 3) := by decide +kernel
theorem dX12_hasSigns_145 : decode cX12_hasSigns 145 = .ok (.aload_n 0, 1) := by decide +kernel
theorem dX12_hasSigns_146 : decode cX12_hasSigns 146 = .ok (.getfield 22, 3) := by decide +kernel
theorem dX12_hasSigns_149 : decode cX12_hasSigns 149 = .ok (.iload 4, 2) := by decide +kernel
theorem dX12_hasSigns_151 : decode cX12_hasSigns 151 = .ok (.iaload, 1) := by decide +kernel
theorem dX12_hasSigns_152 : decode cX12_hasSigns 152 = .ok (.bipush 42, 2) := by decide +kernel
theorem dX12_hasSigns_154 : decode cX12_hasSigns 154 = .ok (.if_icmp .ne 21, 3) := by decide +kernel
theorem dX12_hasSigns_157 : decode cX12_hasSigns 157 = .ok (.aload_n 0, 1) := by decide +kernel
theorem dX12_hasSigns_158 : decode cX12_hasSigns 158 = .ok (.iload_n 3, 1) := by decide +kernel
theorem dX12_hasSigns_159 : decode cX12_hasSigns 159 = .ok (.iconst 1, 1) := by decide +kernel
theorem dX12_hasSigns_160 : decode cX12_hasSigns 160 = .ok (.iadd, 1) := by decide +kernel
theorem dX12_hasSigns_161 : decode cX12_hasSigns 161 = .ok (.iload 4, 2) := by decide +kernel
theorem dX12_hasSigns_163 : decode cX12_hasSigns 163 = .ok (.iconst 1, 1) := by decide +kernel
theorem dX12_hasSigns_164 : decode cX12_hasSigns 164 = .ok (.iadd, 1) := by decide +kernel
theorem dX12_hasSigns_165 : decode cX12_hasSigns 165 = .ok (.invokevirtual 316, 3) := by decide +kernel
theorem dX12_hasSigns_168 : decode cX12_hasSigns 168 = .ok (.ifCond .eq 7, 3) := by decide +kernel
theorem dX12_hasSigns_171 : decode cX12_hasSigns 171 = .ok (.iconst 1, 1) := by decide +kernel
theorem dX12_hasSigns_172 : decode cX12_hasSigns 172 = .ok (.goto 4, 3) := by decide +kernel
theorem dX12_hasSigns_175 : decode cX12_hasSigns 175 = .ok (.iconst 0, 1) := by decide +kernel
theorem dX12_hasSigns_176 : decode cX12_hasSigns 176 = .ok (.ireturn, 1) := by decide +kernel
theorem dX12_hasSigns_177 : decode cX12_hasSigns 177 = .ok (.iload_n 2, 1) := by decide +kernel
theorem dX12_hasSigns_178 : decode cX12_hasSigns 178 = .ok (.bipush 45, 2) := by decide +kernel
theorem dX12_hasSigns_180 : decode cX12_hasSigns 180 = .ok (.if_icmp .ne 77, 3) := by decide +kernel
theorem dX12_hasSigns_183 : decode cX12_hasSigns 183 = .ok (.aload_n 0, 1) := by decide +kernel
theorem dX12_hasSigns_184 : decode cX12_hasSigns 184 = .ok (.getfield 22, 3) := by decide +kernel
theorem dX12_hasSigns_187 : decode cX12_hasSigns 187 = .ok (.iload_n 3, 1) := by decide +kernel
theorem dX12_hasSigns_188 : decode cX12_hasSigns 188 = .ok (.iaload, 1) := by decide +kernel
theorem dX12_hasSigns_189 : decode cX12_hasSigns 189 = .ok (.bipush 42, 2) := by decide +kernel
theorem dX12_hasSigns_191 : decode cX12_hasSigns 191 = .ok (.if_icmp .ne 66, 3) := by decide +kernel
theorem dX12_hasSigns_194 : decode cX12_hasSigns 194 = .ok (.aload_n 0, 1) := by decide +kernel
theorem dX12_hasSigns_195 : decode cX12_hasSigns 195 = .ok (.getfield 22, 3) := by decide +kernel
theorem dX12_hasSigns_198 : decode cX12_hasSigns 198 = .ok (.iload 4, 2) := by decide +kernel
theorem dX12_hasSigns_200 : decode cX12_hasSigns 200 = .ok (.iaload, 1) := by decide +kernel
theorem dX12_hasSigns_201 : decode cX12_hasSigns 201 = .ok (.bipush 42, 2) := by decide +kernel
theorem dX12_hasSigns_203 : decode cX12_hasSigns 203 = .ok (.if_icmp .ne 54, 3) := by decide +kernel
theorem dX12_hasSigns_206 : decode cX12_hasSigns 206 = .ok (.aload_n 0, 1) := by decide +kernel
theorem dX12_hasSigns_207 : decode cX12_hasSigns 207 = .ok (.iload_n 3, 1) := by decide +kernel
theorem dX12_hasSigns_208 : decode cX12_hasSigns 208 = .ok (.iconst 1, 1) := by decide +kernel
theorem dX12_hasSigns_209 : decode cX12_hasSigns 209 = .ok (.iadd, 1) := by decide +kernel
theorem dX12_hasSigns_210 : decode cX12_hasSigns 210 = .ok (.iload_n 3, 1) := by decide +kernel
theorem dX12_hasSigns_211 : decode cX12_hasSigns 211 = .ok (.iconst 1, 1) := by decide +kernel
theorem dX12_hasSigns_212 : decode cX12_hasSigns 212 = .ok (.iadd, 1) := by decide +kernel
theorem dX12_hasSigns_213 : decode cX12_hasSigns 213 = .ok (.aload_n 0, 1) := by decide +kernel
theorem dX12_hasSigns_214 : decode cX12_hasSigns 214 = .ok (.getfield 25, 3) := by decide +kernel
theorem dX12_hasSigns_217 : decode cX12_hasSigns 217 = .ok (.iload_n 3, 1) := by decide +kernel
theorem dX12_hasSigns_218 : decode cX12_hasSigns 218 = .ok (.iconst 1, 1) := by decide +kernel
theorem dX12_hasSigns_219 : decode cX12_hasSigns 219 = .ok (.iadd, 1) := by decide +kernel
theorem dX12_hasSigns_220 : decode cX12_hasSigns 220 = .ok (.iaload, 1) := by decide +kernel
theorem dX12_hasSigns_221 : decode cX12_hasSigns 221 = .ok (.iadd, 1) := by decide +kernel
theorem dX12_hasSigns_222 : decode cX12_hasSigns 222 = .ok (.invokevirtual 316, 3) := by decide +kernel
theorem dX12_hasSigns_225 : decode cX12_hasSigns 225 = .ok (.ifCond .eq 32, 3) := by decide +kernel
theorem dX12_hasSigns_228 : decode cX12_hasSigns 228 = .ok (.aload_n 0, 1) := by decide +kernel
theorem dX12_hasSigns_229 : decode cX12_hasSigns 229 = .ok (.iload 4, 2) := by decide +kernel
theorem dX12_hasSigns_231 : decode cX12_hasSigns 231 = .ok (.iconst 1, 1) := by decide +kernel
theorem dX12_hasSigns_232 : decode cX12_hasSigns 232 = .ok (.iadd, 1) := by decide +kernel
theorem dX12_hasSigns_233 : decode cX12_hasSigns 233 = .ok (.iload 4, 2) := by decide +kernel
theorem dX12_hasSigns_235 : decode cX12_hasSigns 235 = .ok (.iconst 1, 1) := by decide +kernel
theorem dX12_hasSigns_236 : decode cX12_hasSigns 236 = .ok (.iadd, 1) := by decide +kernel
theorem dX12_hasSigns_237 : decode cX12_hasSigns 237 = .ok (.aload_n 0, 1) := by decide +kernel
theorem dX12_hasSigns_238 : decode cX12_hasSigns 238 = .ok (.getfield 25, 3) := by decide +kernel
theorem dX12_hasSigns_241 : decode cX12_hasSigns 241 = .ok (.iload 4, 2) := by decide +kernel
theorem dX12_hasSigns_243 : decode cX12_hasSigns 243 = .ok (.iconst 1, 1) := by decide +kernel
theorem dX12_hasSigns_244 : decode cX12_hasSigns 244 = .ok (.iadd, 1) := by decide +kernel
theorem dX12_hasSigns_245 : decode cX12_hasSigns 245 = .ok (.iaload, 1) := by decide +kernel
theorem dX12_hasSigns_246 : decode cX12_hasSigns 246 = .ok (.iadd, 1) := by decide +kernel
theorem dX12_hasSigns_247 : decode cX12_hasSigns 247 = .ok (.invokevirtual 316, 3) := by decide +kernel
theorem dX12_hasSigns_250 : decode cX12_hasSigns 250 = .ok (.ifCond .eq 7, 3) := by decide +kernel
theorem dX12_hasSigns_253 : decode cX12_hasSigns 253 = .ok (.iconst 1, 1) := by decide +kernel
theorem dX12_hasSigns_254 : decode cX12_hasSigns 254 = .ok (.goto 4, 3) := by decide +kernel
theorem dX12_hasSigns_257 : decode cX12_hasSigns 257 = .ok (.iconst 0, 1) := by decide +kernel
theorem dX12_hasSigns_258 : decode cX12_hasSigns 258 = .ok (.ireturn, 1) := by decide +kernel
theorem dX12_hasSigns_259 : decode cX12_hasSigns 259 = .ok (.iload_n 2, 1) := by decide +kernel
theorem dX12_hasSigns_260 : decode cX12_hasSigns 260 = .ok (.bipush 45, 2) := by decide +kernel
theorem dX12_hasSigns_262 : decode cX12_hasSigns 262 = .ok (.if_icmp .ne 18, 3) := by decide +kernel
theorem dX12_hasSigns_265 : decode cX12_hasSigns 265 = .ok (.aload_n 0, 1) := by decide +kernel
theorem dX12_hasSigns_266 : decode cX12_hasSigns 266 = .ok (.getfield 22, 3) := by decide +kernel
theorem dX12_hasSigns_269 : decode cX12_hasSigns 269 = .ok (.iload_n 3, 1) := by decide +kernel
theorem dX12_hasSigns_270 : decode cX12_hasSigns 270 = .ok (.iaload, 1) := by decide +kernel
theorem dX12_hasSigns_271 : decode cX12_hasSigns 271 = .ok (.bipush 45, 2) := by decide +kernel
theorem dX12_hasSigns_273 : decode cX12_hasSigns 273 = .ok (.if_icmp .ne 7, 3) := by decide +kernel
theorem dX12_hasSigns_276 : decode cX12_hasSigns 276 = .ok (.iconst 1, 1) := by decide +kernel
theorem dX12_hasSigns_277 : decode cX12_hasSigns 277 = .ok (.goto 4, 3) := by decide +kernel
theorem dX12_hasSigns_280 : decode cX12_hasSigns 280 = .ok (.iconst 0, 1) := by decide +kernel
theorem dX12_hasSigns_281 : decode cX12_hasSigns 281 = .ok (.ireturn, 1) := by decide +kernel
theorem dX12_hasSigns_282 : decode cX12_hasSigns 282 = .ok (.iload_n 2, 1) := by decide +kernel
theorem dX12_hasSigns_283 : decode cX12_hasSigns 283 = .ok (.bipush 47, 2) := by decide +kernel
theorem dX12_hasSigns_285 : decode cX12_hasSigns 285 = .ok (.if_icmp .ne 19, 3) := by decide +kernel
theorem dX12_hasSigns_288 : decode cX12_hasSigns 288 = .ok (.aload_n 0, 1) := by decide +kernel
theorem dX12_hasSigns_289 : decode cX12_hasSigns 289 = .ok (.getfield 22, 3) := by decide +kernel
theorem dX12_hasSigns_292 : decode cX12_hasSigns 292 = .ok (.iload 4, 2) := by decide +kernel
theorem dX12_hasSigns_294 : decode cX12_hasSigns 294 = .ok (.iaload, 1) := by decide +kernel
theorem dX12_hasSigns_295 : decode cX12_hasSigns 295 = .ok (.bipush 47, 2) := by decide +kernel
theorem dX12_hasSigns_297 : decode cX12_hasSigns 297 = .ok (.if_icmp .ne 7, 3) := by decide +kernel
theorem dX12_hasSigns_300 : decode cX12_hasSigns 300 = .ok (.iconst 1, 1) := by decide +kernel
theorem dX12_hasSigns_301 : decode cX12_hasSigns 301 = .ok (.goto 4, 3) := by decide +kernel
theorem dX12_hasSigns_304 : decode cX12_hasSigns 304 = .ok (.iconst 0, 1) := by decide +kernel
theorem dX12_hasSigns_305 : decode cX12_hasSigns 305 = .ok (.ireturn, 1) := by decide +kernel
set_option maxRecDepth 10000 in
theorem NX12_hasSigns_0 {d : Nat} {S : fW} {h : fH} {Q : Int32 → fH → Prop} {r0 : Nat} {x1 : Int32} {x2 : Int32} {x3 : Int32} {x4 : Int32} {r0_pad r0_text r0_number r0_span r0_now r0_sizeOf r0_workedTo r0_slip r0_exactUpper r0_exactLower r0_more r0_terms r0_order r0_bestOrder r0_low r0_high r0_built r0_better r0_base r0_kept r0_isKept : Nat}  
    (hs1 : (r0, shX12 r0_pad r0_text r0_number r0_span r0_now r0_sizeOf r0_workedTo r0_slip r0_exactUpper r0_exactLower r0_more r0_terms r0_order r0_bestOrder r0_low r0_high r0_built r0_better r0_base r0_kept r0_isKept) ∈ S)
    (hs2 : (r0_now, shI 13) ∈ S)
    (hs3 : (r0_sizeOf, shI 13) ∈ S)
    (w : ((x1 = (0 : Int32) → ((x2 = (43 : Int32) → Q (1 : Int32) h) ∧ (¬ x2 = (43 : Int32) → ((¬ x2 = (42 : Int32) → Q (0 : Int32) h) ∧ (x2 = (42 : Int32) → Q (1 : Int32) h))))) ∧ (¬ x1 = (0 : Int32) → ((x1 = (1 : Int32) → ((x2 = (43 : Int32) → vp_in x3 13 ∧ ((¬ (h.2.2.1 r0_now x3.toNatClampNeg) = x2 → Q (0 : Int32) h) ∧ ((h.2.2.1 r0_now x3.toNatClampNeg) = x2 → Q (1 : Int32) h))) ∧ (¬ x2 = (43 : Int32) → ((¬ x2 = (42 : Int32) → Q (0 : Int32) h) ∧ (x2 = (42 : Int32) → vp_in x3 13 ∧ ((¬ (h.2.2.1 r0_now x3.toNatClampNeg) = x2 → Q (0 : Int32) h) ∧ ((h.2.2.1 r0_now x3.toNatClampNeg) = x2 → Q (1 : Int32) h))))))) ∧ (¬ x1 = (1 : Int32) → ((x1 = (2 : Int32) → ((¬ x2 = (42 : Int32) → Q (0 : Int32) h) ∧ (x2 = (42 : Int32) → vp_in x4 13 ∧ (((h.2.2.1 r0_now x4.toNatClampNeg) = (43 : Int32) → Q (1 : Int32) h) ∧ (¬ (h.2.2.1 r0_now x4.toNatClampNeg) = (43 : Int32) → ((¬ (h.2.2.1 r0_now x4.toNatClampNeg) = (45 : Int32) → Q (0 : Int32) h) ∧ ((h.2.2.1 r0_now x4.toNatClampNeg) = (45 : Int32) → Q (1 : Int32) h))))))) ∧ (¬ x1 = (2 : Int32) → ((x1 = (3 : Int32) → ((x2 = (43 : Int32) → G mX12_hasSigns (d + 1) S (f_PI Q) 134 [(0, .ref r0), (3, .int x3), (4, .int x4)] [] h) ∧ (¬ x2 = (43 : Int32) → ((¬ x2 = (45 : Int32) → Q (0 : Int32) h) ∧ (x2 = (45 : Int32) → G mX12_hasSigns (d + 1) S (f_PI Q) 134 [(0, .ref r0), (3, .int x3), (4, .int x4)] [] h))))) ∧ (¬ x1 = (3 : Int32) → ((x1 = (4 : Int32) → ((¬ x2 = (45 : Int32) → Q (0 : Int32) h) ∧ (x2 = (45 : Int32) → vp_in x3 13 ∧ ((¬ (h.2.2.1 r0_now x3.toNatClampNeg) = (42 : Int32) → Q (0 : Int32) h) ∧ ((h.2.2.1 r0_now x3.toNatClampNeg) = (42 : Int32) → vp_in x4 13 ∧ ((¬ (h.2.2.1 r0_now x4.toNatClampNeg) = (42 : Int32) → Q (0 : Int32) h) ∧ ((h.2.2.1 r0_now x4.toNatClampNeg) = (42 : Int32) → vp_in (x3 + (1 : Int32)) 13 ∧ ∃ Q1 : Int32 → fH → Prop, OkI d mX12_isSame S [.ref r0, .int (x3 + (1 : Int32)), .int ((x3 + (1 : Int32)) + (h.2.2.1 r0_sizeOf (x3 + (1 : Int32)).toNatClampNeg))] h Q1 ∧ ∀ (v_1 : Int32) (h_1 : fH), Q1 v_1 h_1 → ((v_1 = 0 → Q (0 : Int32) h_1) ∧ (¬ v_1 = 0 → vp_in (x4 + (1 : Int32)) 13 ∧ ∃ Q2 : Int32 → fH → Prop, OkI d mX12_isSame S [.ref r0, .int (x4 + (1 : Int32)), .int ((x4 + (1 : Int32)) + (h_1.2.2.1 r0_sizeOf (x4 + (1 : Int32)).toNatClampNeg))] h_1 Q2 ∧ ∀ (v_2 : Int32) (h_2 : fH), Q2 v_2 h_2 → ((v_2 = 0 → Q (0 : Int32) h_2) ∧ (¬ v_2 = 0 → Q (1 : Int32) h_2))))))))))) ∧ (¬ x1 = (4 : Int32) → ((x1 = (5 : Int32) → ((¬ x2 = (45 : Int32) → Q (0 : Int32) h) ∧ (x2 = (45 : Int32) → vp_in x3 13 ∧ ((¬ (h.2.2.1 r0_now x3.toNatClampNeg) = (45 : Int32) → Q (0 : Int32) h) ∧ ((h.2.2.1 r0_now x3.toNatClampNeg) = (45 : Int32) → Q (1 : Int32) h))))) ∧ (¬ x1 = (5 : Int32) → ((¬ x2 = (47 : Int32) → Q (0 : Int32) h) ∧ (x2 = (47 : Int32) → vp_in x4 13 ∧ ((¬ (h.2.2.1 r0_now x4.toNatClampNeg) = (47 : Int32) → Q (0 : Int32) h) ∧ ((h.2.2.1 r0_now x4.toNatClampNeg) = (47 : Int32) → Q (1 : Int32) h))))))))))))))))) :
    OkI (d + 1) mX12_hasSigns S [.ref r0, .int x1, .int x2, .int x3, .int x4] h Q := by
  refine Ok.of (by decide) (Nat.le_of_ble_eq_true rfl) ?_
  refine G_iload_n 1 rfl dX12_hasSigns_0 rfl ?_
  refine Decidable.byCases (p := x1 = (0 : Int32)) (fun c1 => ?_) (fun c1 => ?_)
  · refine G_tabEq (off := 39) (tgt := 40) dX12_hasSigns_1 c1 (by decide) (by decide) (by decide) (by decide) ?_
    have w := w.1 c1
    refine G_iload_n 2 rfl dX12_hasSigns_40 rfl ?_
    refine G_bipush (v := 43) dX12_hasSigns_41 (by decide) ?_
    refine G_icmp_eq (tgt := 52) dX12_hasSigns_43 (by decide) (fun c2 => ?_) (fun c2 => ?_)
    · have w := w.1 c2
      refine G_iconst (v := 1) dX12_hasSigns_52 (by decide) ?_
      refine G_goto (tgt := 57) dX12_hasSigns_53 (by decide) ?_
      exact G_zret rfl (Or.inr rfl) dX12_hasSigns_57 ⟨_, rfl, w⟩
    · have w := w.2 c2
      refine G_iload_n 2 rfl dX12_hasSigns_46 rfl ?_
      refine G_bipush (v := 42) dX12_hasSigns_47 (by decide) ?_
      refine G_icmp_ne (tgt := 56) dX12_hasSigns_49 (by decide) (fun c3 => ?_) (fun c3 => ?_)
      · have w := w.1 c3
        refine G_iconst (v := 0) dX12_hasSigns_56 (by decide) ?_
        exact G_zret rfl (Or.inl rfl) dX12_hasSigns_57 ⟨_, rfl, w⟩
      · have w := w.2 c3
        refine G_iconst (v := 1) dX12_hasSigns_52 (by decide) ?_
        refine G_goto (tgt := 57) dX12_hasSigns_53 (by decide) ?_
        exact G_zret rfl (Or.inr rfl) dX12_hasSigns_57 ⟨_, rfl, w⟩
  have w := w.2 c1
  refine Decidable.byCases (p := x1 = (1 : Int32)) (fun c2 => ?_) (fun c2 => ?_)
  · refine G_tabEq (off := 57) (tgt := 58) dX12_hasSigns_1 c2 (by decide) (by decide) (by decide) (by decide) ?_
    have w := w.1 c2
    refine G_iload_n 2 rfl dX12_hasSigns_58 rfl ?_
    refine G_bipush (v := 43) dX12_hasSigns_59 (by decide) ?_
    refine G_icmp_eq (tgt := 70) dX12_hasSigns_61 (by decide) (fun c3 => ?_) (fun c3 => ?_)
    · have w := w.1 c3
      refine G_aload_n 0 rfl dX12_hasSigns_70 rfl ?_
      refine G_getr (j := r0_now) (k := 13) hs1 (q := (RX12, TX12, 40)) rfl inX12 (by decide) rfl hF_X12_22 dX12_hasSigns_71 ?_
      refine G_iload_n 3 rfl dX12_hasSigns_74 rfl ?_
      obtain ⟨sd1, w⟩ := w
      refine G_iald hs2 sd1 dX12_hasSigns_75 ?_
      refine G_iload_n 2 rfl dX12_hasSigns_76 rfl ?_
      refine G_icmp_ne (tgt := 84) dX12_hasSigns_77 (by decide) (fun c4 => ?_) (fun c4 => ?_)
      · have w := w.1 c4
        refine G_iconst (v := 0) dX12_hasSigns_84 (by decide) ?_
        exact G_zret rfl (Or.inl rfl) dX12_hasSigns_85 ⟨_, rfl, w⟩
      · have w := w.2 c4
        refine G_iconst (v := 1) dX12_hasSigns_80 (by decide) ?_
        refine G_goto (tgt := 85) dX12_hasSigns_81 (by decide) ?_
        exact G_zret rfl (Or.inr rfl) dX12_hasSigns_85 ⟨_, rfl, w⟩
    · have w := w.2 c3
      refine G_iload_n 2 rfl dX12_hasSigns_64 rfl ?_
      refine G_bipush (v := 42) dX12_hasSigns_65 (by decide) ?_
      refine G_icmp_ne (tgt := 84) dX12_hasSigns_67 (by decide) (fun c4 => ?_) (fun c4 => ?_)
      · have w := w.1 c4
        refine G_iconst (v := 0) dX12_hasSigns_84 (by decide) ?_
        exact G_zret rfl (Or.inl rfl) dX12_hasSigns_85 ⟨_, rfl, w⟩
      · have w := w.2 c4
        refine G_aload_n 0 rfl dX12_hasSigns_70 rfl ?_
        refine G_getr (j := r0_now) (k := 13) hs1 (q := (RX12, TX12, 40)) rfl inX12 (by decide) rfl hF_X12_22 dX12_hasSigns_71 ?_
        refine G_iload_n 3 rfl dX12_hasSigns_74 rfl ?_
        obtain ⟨sd1, w⟩ := w
        refine G_iald hs2 sd1 dX12_hasSigns_75 ?_
        refine G_iload_n 2 rfl dX12_hasSigns_76 rfl ?_
        refine G_icmp_ne (tgt := 84) dX12_hasSigns_77 (by decide) (fun c5 => ?_) (fun c5 => ?_)
        · have w := w.1 c5
          refine G_iconst (v := 0) dX12_hasSigns_84 (by decide) ?_
          exact G_zret rfl (Or.inl rfl) dX12_hasSigns_85 ⟨_, rfl, w⟩
        · have w := w.2 c5
          refine G_iconst (v := 1) dX12_hasSigns_80 (by decide) ?_
          refine G_goto (tgt := 85) dX12_hasSigns_81 (by decide) ?_
          exact G_zret rfl (Or.inr rfl) dX12_hasSigns_85 ⟨_, rfl, w⟩
  have w := w.2 c2
  refine Decidable.byCases (p := x1 = (2 : Int32)) (fun c3 => ?_) (fun c3 => ?_)
  · refine G_tabEq (off := 85) (tgt := 86) dX12_hasSigns_1 c3 (by decide) (by decide) (by decide) (by decide) ?_
    have w := w.1 c3
    refine G_iload_n 2 rfl dX12_hasSigns_86 rfl ?_
    refine G_bipush (v := 42) dX12_hasSigns_87 (by decide) ?_
    refine G_icmp_ne (tgt := 120) dX12_hasSigns_89 (by decide) (fun c4 => ?_) (fun c4 => ?_)
    · have w := w.1 c4
      refine G_iconst (v := 0) dX12_hasSigns_120 (by decide) ?_
      exact G_zret rfl (Or.inl rfl) dX12_hasSigns_121 ⟨_, rfl, w⟩
    · have w := w.2 c4
      refine G_aload_n 0 rfl dX12_hasSigns_92 rfl ?_
      refine G_getr (j := r0_now) (k := 13) hs1 (q := (RX12, TX12, 40)) rfl inX12 (by decide) rfl hF_X12_22 dX12_hasSigns_93 ?_
      refine G_iload 4 rfl dX12_hasSigns_96 ?_
      obtain ⟨sd1, w⟩ := w
      refine G_iald hs2 sd1 dX12_hasSigns_98 ?_
      refine G_bipush (v := 43) dX12_hasSigns_99 (by decide) ?_
      refine G_icmp_eq (tgt := 116) dX12_hasSigns_101 (by decide) (fun c5 => ?_) (fun c5 => ?_)
      · have w := w.1 c5
        refine G_iconst (v := 1) dX12_hasSigns_116 (by decide) ?_
        refine G_goto (tgt := 121) dX12_hasSigns_117 (by decide) ?_
        exact G_zret rfl (Or.inr rfl) dX12_hasSigns_121 ⟨_, rfl, w⟩
      · have w := w.2 c5
        refine G_aload_n 0 rfl dX12_hasSigns_104 rfl ?_
        refine G_getr (j := r0_now) (k := 13) hs1 (q := (RX12, TX12, 40)) rfl inX12 (by decide) rfl hF_X12_22 dX12_hasSigns_105 ?_
        refine G_iload 4 rfl dX12_hasSigns_108 ?_
        refine G_iald hs2 sd1 dX12_hasSigns_110 ?_
        refine G_bipush (v := 45) dX12_hasSigns_111 (by decide) ?_
        refine G_icmp_ne (tgt := 120) dX12_hasSigns_113 (by decide) (fun c6 => ?_) (fun c6 => ?_)
        · have w := w.1 c6
          refine G_iconst (v := 0) dX12_hasSigns_120 (by decide) ?_
          exact G_zret rfl (Or.inl rfl) dX12_hasSigns_121 ⟨_, rfl, w⟩
        · have w := w.2 c6
          refine G_iconst (v := 1) dX12_hasSigns_116 (by decide) ?_
          refine G_goto (tgt := 121) dX12_hasSigns_117 (by decide) ?_
          exact G_zret rfl (Or.inr rfl) dX12_hasSigns_121 ⟨_, rfl, w⟩
  have w := w.2 c3
  refine Decidable.byCases (p := x1 = (3 : Int32)) (fun c4 => ?_) (fun c4 => ?_)
  · refine G_tabEq (off := 121) (tgt := 122) dX12_hasSigns_1 c4 (by decide) (by decide) (by decide) (by decide) ?_
    have w := w.1 c4
    refine G_iload_n 2 rfl dX12_hasSigns_122 rfl ?_
    refine G_bipush (v := 43) dX12_hasSigns_123 (by decide) ?_
    refine G_icmp_eq (tgt := 134) dX12_hasSigns_125 (by decide) (fun c5 => ?_) (fun c5 => ?_)
    · have w := w.1 c5
      exact G_sub [0, 3, 4] rfl w
    · have w := w.2 c5
      refine G_iload_n 2 rfl dX12_hasSigns_128 rfl ?_
      refine G_bipush (v := 45) dX12_hasSigns_129 (by decide) ?_
      refine G_icmp_ne (tgt := 175) dX12_hasSigns_131 (by decide) (fun c6 => ?_) (fun c6 => ?_)
      · have w := w.1 c6
        refine G_iconst (v := 0) dX12_hasSigns_175 (by decide) ?_
        exact G_zret rfl (Or.inl rfl) dX12_hasSigns_176 ⟨_, rfl, w⟩
      · have w := w.2 c6
        exact G_sub [0, 3, 4] rfl w
  have w := w.2 c4
  refine Decidable.byCases (p := x1 = (4 : Int32)) (fun c5 => ?_) (fun c5 => ?_)
  · refine G_tabEq (off := 176) (tgt := 177) dX12_hasSigns_1 c5 (by decide) (by decide) (by decide) (by decide) ?_
    have w := w.1 c5
    refine G_iload_n 2 rfl dX12_hasSigns_177 rfl ?_
    refine G_bipush (v := 45) dX12_hasSigns_178 (by decide) ?_
    refine G_icmp_ne (tgt := 257) dX12_hasSigns_180 (by decide) (fun c6 => ?_) (fun c6 => ?_)
    · have w := w.1 c6
      refine G_iconst (v := 0) dX12_hasSigns_257 (by decide) ?_
      exact G_zret rfl (Or.inl rfl) dX12_hasSigns_258 ⟨_, rfl, w⟩
    · have w := w.2 c6
      refine G_aload_n 0 rfl dX12_hasSigns_183 rfl ?_
      refine G_getr (j := r0_now) (k := 13) hs1 (q := (RX12, TX12, 40)) rfl inX12 (by decide) rfl hF_X12_22 dX12_hasSigns_184 ?_
      refine G_iload_n 3 rfl dX12_hasSigns_187 rfl ?_
      obtain ⟨sd1, w⟩ := w
      refine G_iald hs2 sd1 dX12_hasSigns_188 ?_
      refine G_bipush (v := 42) dX12_hasSigns_189 (by decide) ?_
      refine G_icmp_ne (tgt := 257) dX12_hasSigns_191 (by decide) (fun c7 => ?_) (fun c7 => ?_)
      · have w := w.1 c7
        refine G_iconst (v := 0) dX12_hasSigns_257 (by decide) ?_
        exact G_zret rfl (Or.inl rfl) dX12_hasSigns_258 ⟨_, rfl, w⟩
      · have w := w.2 c7
        refine G_aload_n 0 rfl dX12_hasSigns_194 rfl ?_
        refine G_getr (j := r0_now) (k := 13) hs1 (q := (RX12, TX12, 40)) rfl inX12 (by decide) rfl hF_X12_22 dX12_hasSigns_195 ?_
        refine G_iload 4 rfl dX12_hasSigns_198 ?_
        obtain ⟨sd2, w⟩ := w
        refine G_iald hs2 sd2 dX12_hasSigns_200 ?_
        refine G_bipush (v := 42) dX12_hasSigns_201 (by decide) ?_
        refine G_icmp_ne (tgt := 257) dX12_hasSigns_203 (by decide) (fun c8 => ?_) (fun c8 => ?_)
        · have w := w.1 c8
          refine G_iconst (v := 0) dX12_hasSigns_257 (by decide) ?_
          exact G_zret rfl (Or.inl rfl) dX12_hasSigns_258 ⟨_, rfl, w⟩
        · have w := w.2 c8
          refine G_aload_n 0 rfl dX12_hasSigns_206 rfl ?_
          refine G_iload_n 3 rfl dX12_hasSigns_207 rfl ?_
          refine G_iconst (v := 1) dX12_hasSigns_208 (by decide) ?_
          refine G_iadd dX12_hasSigns_209 ?_
          refine G_iload_n 3 rfl dX12_hasSigns_210 rfl ?_
          refine G_iconst (v := 1) dX12_hasSigns_211 (by decide) ?_
          refine G_iadd dX12_hasSigns_212 ?_
          refine G_aload_n 0 rfl dX12_hasSigns_213 rfl ?_
          refine G_getr (j := r0_sizeOf) (k := 15) hs1 (q := (RX12, TX12, 40)) rfl inX12 (by decide) rfl hF_X12_25 dX12_hasSigns_214 ?_
          refine G_iload_n 3 rfl dX12_hasSigns_217 rfl ?_
          refine G_iconst (v := 1) dX12_hasSigns_218 (by decide) ?_
          refine G_iadd dX12_hasSigns_219 ?_
          obtain ⟨sd3, w⟩ := w
          refine G_iald hs3 sd3 dX12_hasSigns_220 ?_
          refine G_iadd dX12_hasSigns_221 ?_
          obtain ⟨Q1, ok1, w⟩ := w
          refine G_callV (Z := mX12_isSame) (As := [.int (x3 + (1 : Int32)), .int ((x3 + (1 : Int32)) + (h.2.2.1 r0_sizeOf (x3 + (1 : Int32)).toNatClampNeg))]) (st := []) hL_X12_316 hI_X12_isSame hS_X12_isSame hC_X12_isSame hN_X12 nX12_isSame (by decide) hs1 rfl rfl rfl (Nat.le_of_ble_eq_true rfl) dX12_hasSigns_222 ok1 (fun r_ h_1 z_ => ?_)
          obtain ⟨v_1, rfl, q_1⟩ := z_
          have w := w v_1 h_1 q_1
          refine G_if_eq (tgt := 257) dX12_hasSigns_225 (by decide) (fun c9 => ?_) (fun c9 => ?_)
          · have w := w.1 c9
            refine G_iconst (v := 0) dX12_hasSigns_257 (by decide) ?_
            exact G_zret rfl (Or.inl rfl) dX12_hasSigns_258 ⟨_, rfl, w⟩
          · have w := w.2 c9
            refine G_aload_n 0 rfl dX12_hasSigns_228 rfl ?_
            refine G_iload 4 rfl dX12_hasSigns_229 ?_
            refine G_iconst (v := 1) dX12_hasSigns_231 (by decide) ?_
            refine G_iadd dX12_hasSigns_232 ?_
            refine G_iload 4 rfl dX12_hasSigns_233 ?_
            refine G_iconst (v := 1) dX12_hasSigns_235 (by decide) ?_
            refine G_iadd dX12_hasSigns_236 ?_
            refine G_aload_n 0 rfl dX12_hasSigns_237 rfl ?_
            refine G_getr (j := r0_sizeOf) (k := 15) hs1 (q := (RX12, TX12, 40)) rfl inX12 (by decide) rfl hF_X12_25 dX12_hasSigns_238 ?_
            refine G_iload 4 rfl dX12_hasSigns_241 ?_
            refine G_iconst (v := 1) dX12_hasSigns_243 (by decide) ?_
            refine G_iadd dX12_hasSigns_244 ?_
            obtain ⟨sd4, w⟩ := w
            refine G_iald hs3 sd4 dX12_hasSigns_245 ?_
            refine G_iadd dX12_hasSigns_246 ?_
            obtain ⟨Q2, ok2, w⟩ := w
            refine G_callV (Z := mX12_isSame) (As := [.int (x4 + (1 : Int32)), .int ((x4 + (1 : Int32)) + (h_1.2.2.1 r0_sizeOf (x4 + (1 : Int32)).toNatClampNeg))]) (st := []) hL_X12_316 hI_X12_isSame hS_X12_isSame hC_X12_isSame hN_X12 nX12_isSame (by decide) hs1 rfl rfl rfl (Nat.le_of_ble_eq_true rfl) dX12_hasSigns_247 ok2 (fun r_ h_2 z_ => ?_)
            obtain ⟨v_2, rfl, q_2⟩ := z_
            have w := w v_2 h_2 q_2
            refine G_if_eq (tgt := 257) dX12_hasSigns_250 (by decide) (fun c10 => ?_) (fun c10 => ?_)
            · have w := w.1 c10
              refine G_iconst (v := 0) dX12_hasSigns_257 (by decide) ?_
              exact G_zret rfl (Or.inl rfl) dX12_hasSigns_258 ⟨_, rfl, w⟩
            · have w := w.2 c10
              refine G_iconst (v := 1) dX12_hasSigns_253 (by decide) ?_
              refine G_goto (tgt := 258) dX12_hasSigns_254 (by decide) ?_
              exact G_zret rfl (Or.inr rfl) dX12_hasSigns_258 ⟨_, rfl, w⟩
  have w := w.2 c5
  refine Decidable.byCases (p := x1 = (5 : Int32)) (fun c6 => ?_) (fun c6 => ?_)
  · refine G_tabEq (off := 258) (tgt := 259) dX12_hasSigns_1 c6 (by decide) (by decide) (by decide) (by decide) ?_
    have w := w.1 c6
    refine G_iload_n 2 rfl dX12_hasSigns_259 rfl ?_
    refine G_bipush (v := 45) dX12_hasSigns_260 (by decide) ?_
    refine G_icmp_ne (tgt := 280) dX12_hasSigns_262 (by decide) (fun c7 => ?_) (fun c7 => ?_)
    · have w := w.1 c7
      refine G_iconst (v := 0) dX12_hasSigns_280 (by decide) ?_
      exact G_zret rfl (Or.inl rfl) dX12_hasSigns_281 ⟨_, rfl, w⟩
    · have w := w.2 c7
      refine G_aload_n 0 rfl dX12_hasSigns_265 rfl ?_
      refine G_getr (j := r0_now) (k := 13) hs1 (q := (RX12, TX12, 40)) rfl inX12 (by decide) rfl hF_X12_22 dX12_hasSigns_266 ?_
      refine G_iload_n 3 rfl dX12_hasSigns_269 rfl ?_
      obtain ⟨sd1, w⟩ := w
      refine G_iald hs2 sd1 dX12_hasSigns_270 ?_
      refine G_bipush (v := 45) dX12_hasSigns_271 (by decide) ?_
      refine G_icmp_ne (tgt := 280) dX12_hasSigns_273 (by decide) (fun c8 => ?_) (fun c8 => ?_)
      · have w := w.1 c8
        refine G_iconst (v := 0) dX12_hasSigns_280 (by decide) ?_
        exact G_zret rfl (Or.inl rfl) dX12_hasSigns_281 ⟨_, rfl, w⟩
      · have w := w.2 c8
        refine G_iconst (v := 1) dX12_hasSigns_276 (by decide) ?_
        refine G_goto (tgt := 281) dX12_hasSigns_277 (by decide) ?_
        exact G_zret rfl (Or.inr rfl) dX12_hasSigns_281 ⟨_, rfl, w⟩
  have w := w.2 c6
  refine G_tabOut (tgt := 282) dX12_hasSigns_1 (f_tab6 c1 c2 c3 c4 c5 c6) (by decide) ?_
  refine G_iload_n 2 rfl dX12_hasSigns_282 rfl ?_
  refine G_bipush (v := 47) dX12_hasSigns_283 (by decide) ?_
  refine G_icmp_ne (tgt := 304) dX12_hasSigns_285 (by decide) (fun c7 => ?_) (fun c7 => ?_)
  · have w := w.1 c7
    refine G_iconst (v := 0) dX12_hasSigns_304 (by decide) ?_
    exact G_zret rfl (Or.inl rfl) dX12_hasSigns_305 ⟨_, rfl, w⟩
  · have w := w.2 c7
    refine G_aload_n 0 rfl dX12_hasSigns_288 rfl ?_
    refine G_getr (j := r0_now) (k := 13) hs1 (q := (RX12, TX12, 40)) rfl inX12 (by decide) rfl hF_X12_22 dX12_hasSigns_289 ?_
    refine G_iload 4 rfl dX12_hasSigns_292 ?_
    obtain ⟨sd1, w⟩ := w
    refine G_iald hs2 sd1 dX12_hasSigns_294 ?_
    refine G_bipush (v := 47) dX12_hasSigns_295 (by decide) ?_
    refine G_icmp_ne (tgt := 304) dX12_hasSigns_297 (by decide) (fun c8 => ?_) (fun c8 => ?_)
    · have w := w.1 c8
      refine G_iconst (v := 0) dX12_hasSigns_304 (by decide) ?_
      exact G_zret rfl (Or.inl rfl) dX12_hasSigns_305 ⟨_, rfl, w⟩
    · have w := w.2 c8
      refine G_iconst (v := 1) dX12_hasSigns_300 (by decide) ?_
      refine G_goto (tgt := 305) dX12_hasSigns_301 (by decide) ?_
      exact G_zret rfl (Or.inr rfl) dX12_hasSigns_305 ⟨_, rfl, w⟩

set_option maxRecDepth 10000 in
theorem NX12_hasSigns_134 {d : Nat} {S : fW} {h : fH} {Q : Int32 → fH → Prop} {r0 : Nat} {x3 : Int32} {x4 : Int32} {r0_pad r0_text r0_number r0_span r0_now r0_sizeOf r0_workedTo r0_slip r0_exactUpper r0_exactLower r0_more r0_terms r0_order r0_bestOrder r0_low r0_high r0_built r0_better r0_base r0_kept r0_isKept : Nat}  
    (hs1 : (r0, shX12 r0_pad r0_text r0_number r0_span r0_now r0_sizeOf r0_workedTo r0_slip r0_exactUpper r0_exactLower r0_more r0_terms r0_order r0_bestOrder r0_low r0_high r0_built r0_better r0_base r0_kept r0_isKept) ∈ S)
    (hs2 : (r0_now, shI 13) ∈ S)
    (w : vp_in x3 13 ∧ ((¬ (h.2.2.1 r0_now x3.toNatClampNeg) = (42 : Int32) → Q (0 : Int32) h) ∧ ((h.2.2.1 r0_now x3.toNatClampNeg) = (42 : Int32) → vp_in x4 13 ∧ ((¬ (h.2.2.1 r0_now x4.toNatClampNeg) = (42 : Int32) → Q (0 : Int32) h) ∧ ((h.2.2.1 r0_now x4.toNatClampNeg) = (42 : Int32) → ∃ Q1 : Int32 → fH → Prop, OkI d mX12_isSame S [.ref r0, .int (x3 + (1 : Int32)), .int (x4 + (1 : Int32))] h Q1 ∧ ∀ (v_1 : Int32) (h_1 : fH), Q1 v_1 h_1 → ((v_1 = 0 → Q (0 : Int32) h_1) ∧ (¬ v_1 = 0 → Q (1 : Int32) h_1))))))) :
    G mX12_hasSigns (d + 1) S (f_PI Q) 134 [(0, .ref r0), (3, .int x3), (4, .int x4)] [] h := by
  refine G_aload_n 0 rfl dX12_hasSigns_134 rfl ?_
  refine G_getr (j := r0_now) (k := 13) hs1 (q := (RX12, TX12, 40)) rfl inX12 (by decide) rfl hF_X12_22 dX12_hasSigns_135 ?_
  refine G_iload_n 1 rfl dX12_hasSigns_138 rfl ?_
  obtain ⟨sd1, w⟩ := w
  refine G_iald hs2 sd1 dX12_hasSigns_139 ?_
  refine G_bipush (v := 42) dX12_hasSigns_140 (by decide) ?_
  refine G_icmp_ne (tgt := 175) dX12_hasSigns_142 (by decide) (fun c1 => ?_) (fun c1 => ?_)
  · have w := w.1 c1
    refine G_iconst (v := 0) dX12_hasSigns_175 (by decide) ?_
    exact G_zret rfl (Or.inl rfl) dX12_hasSigns_176 ⟨_, rfl, w⟩
  · have w := w.2 c1
    refine G_aload_n 0 rfl dX12_hasSigns_145 rfl ?_
    refine G_getr (j := r0_now) (k := 13) hs1 (q := (RX12, TX12, 40)) rfl inX12 (by decide) rfl hF_X12_22 dX12_hasSigns_146 ?_
    refine G_iload 2 rfl dX12_hasSigns_149 ?_
    obtain ⟨sd2, w⟩ := w
    refine G_iald hs2 sd2 dX12_hasSigns_151 ?_
    refine G_bipush (v := 42) dX12_hasSigns_152 (by decide) ?_
    refine G_icmp_ne (tgt := 175) dX12_hasSigns_154 (by decide) (fun c2 => ?_) (fun c2 => ?_)
    · have w := w.1 c2
      refine G_iconst (v := 0) dX12_hasSigns_175 (by decide) ?_
      exact G_zret rfl (Or.inl rfl) dX12_hasSigns_176 ⟨_, rfl, w⟩
    · have w := w.2 c2
      refine G_aload_n 0 rfl dX12_hasSigns_157 rfl ?_
      refine G_iload_n 1 rfl dX12_hasSigns_158 rfl ?_
      refine G_iconst (v := 1) dX12_hasSigns_159 (by decide) ?_
      refine G_iadd dX12_hasSigns_160 ?_
      refine G_iload 2 rfl dX12_hasSigns_161 ?_
      refine G_iconst (v := 1) dX12_hasSigns_163 (by decide) ?_
      refine G_iadd dX12_hasSigns_164 ?_
      obtain ⟨Q1, ok1, w⟩ := w
      refine G_callV (Z := mX12_isSame) (As := [.int (x3 + (1 : Int32)), .int (x4 + (1 : Int32))]) (st := []) hL_X12_316 hI_X12_isSame hS_X12_isSame hC_X12_isSame hN_X12 nX12_isSame (by decide) hs1 rfl rfl rfl (Nat.le_of_ble_eq_true rfl) dX12_hasSigns_165 ok1 (fun r_ h_1 z_ => ?_)
      obtain ⟨v_1, rfl, q_1⟩ := z_
      have w := w v_1 h_1 q_1
      refine G_if_eq (tgt := 175) dX12_hasSigns_168 (by decide) (fun c3 => ?_) (fun c3 => ?_)
      · have w := w.1 c3
        refine G_iconst (v := 0) dX12_hasSigns_175 (by decide) ?_
        exact G_zret rfl (Or.inl rfl) dX12_hasSigns_176 ⟨_, rfl, w⟩
      · have w := w.2 c3
        refine G_iconst (v := 1) dX12_hasSigns_171 (by decide) ?_
        refine G_goto (tgt := 176) dX12_hasSigns_172 (by decide) ?_
        exact G_zret rfl (Or.inr rfl) dX12_hasSigns_176 ⟨_, rfl, w⟩
