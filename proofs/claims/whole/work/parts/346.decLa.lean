theorem dL_0 : decode code 0 = .ok (.new 7, 3) := by decide +kernel
theorem dL_3 : decode code 3 = .ok (.dup, 1) := by decide +kernel
theorem dL_4 : decode code 4 = .ok (.invokespecial 9, 3) := by decide +kernel
theorem dL_7 : decode code 7 = .ok (.astore_n 1, 1) := by decide +kernel
theorem dL_8 : decode code 8 = .ok (.new 10, 3) := by decide +kernel
theorem dL_11 : decode code 11 = .ok (.dup, 1) := by decide +kernel
theorem dL_12 : decode code 12 = .ok (.invokespecial 12, 3) := by decide +kernel
theorem dL_15 : decode code 15 = .ok (.astore_n 2, 1) := by decide +kernel
theorem dL_16 : decode code 16 = .ok (.iconst 0, 1) := by decide +kernel
theorem dL_17 : decode code 17 = .ok (.istore_n 3, 1) := by decide +kernel
theorem dL_18 : decode code 18 = .ok (.iload_n 3, 1) := by decide +kernel
theorem dL_19 : decode code 19 = .ok (.aload_n 0, 1) := by decide +kernel
theorem dL_20 : decode code 20 = .ok (.arraylength, 1) := by decide +kernel
theorem dL_21 : decode code 21 = .ok (.iconst 4, 1) := by decide +kernel
theorem dL_22 : decode code 22 = .ok (.isub, 1) := by decide +kernel
theorem dL_23 : decode code 23 = .ok (.if_icmp .gt 897, 3) := by decide +kernel
theorem dL_26 : decode code 26 = .ok (.aload_n 0, 1) := by decide +kernel
theorem dL_27 : decode code 27 = .ok (.iload_n 3, 1) := by decide +kernel
theorem dL_28 : decode code 28 = .ok (.iaload, 1) := by decide +kernel
theorem dL_29 : decode code 29 = .ok (.bipush 31, 2) := by decide +kernel
theorem dL_31 : decode code 31 = .ok (.iand, 1) := by decide +kernel
theorem dL_32 : decode code 32 = .ok (.tableswitch 882 0 27 #[128, 161, 205, 228, 241, 254, 267, 290, 333, 367, 391, 405, 418, 471, 524, 537, 561, 585, 609, 642, 666, 690, 723, 756, 780, 813, 836, 859], 128) := by decide +kernel
theorem dL_160 : decode code 160 = .ok (.aload_n 1, 1) := by decide +kernel
theorem dL_161 : decode code 161 = .ok (.aload_n 0, 1) := by decide +kernel
theorem dL_162 : decode code 162 = .ok (.iload_n 3, 1) := by decide +kernel
theorem dL_163 : decode code 163 = .ok (.iconst 1, 1) := by decide +kernel
theorem dL_164 : decode code 164 = .ok (.iadd, 1) := by decide +kernel
theorem dL_165 : decode code 165 = .ok (.iaload, 1) := by decide +kernel
theorem dL_166 : decode code 166 = .ok (.aload_n 0, 1) := by decide +kernel
theorem dL_167 : decode code 167 = .ok (.iload_n 3, 1) := by decide +kernel
theorem dL_168 : decode code 168 = .ok (.iconst 2, 1) := by decide +kernel
theorem dL_169 : decode code 169 = .ok (.iadd, 1) := by decide +kernel
theorem dL_170 : decode code 170 = .ok (.iaload, 1) := by decide +kernel
theorem dL_171 : decode code 171 = .ok (.invokevirtual 13, 3) := by decide +kernel
theorem dL_174 : decode code 174 = .ok (.aload_n 2, 1) := by decide +kernel
theorem dL_175 : decode code 175 = .ok (.aload_n 0, 1) := by decide +kernel
theorem dL_176 : decode code 176 = .ok (.iload_n 3, 1) := by decide +kernel
theorem dL_177 : decode code 177 = .ok (.iconst 1, 1) := by decide +kernel
theorem dL_178 : decode code 178 = .ok (.iadd, 1) := by decide +kernel
theorem dL_179 : decode code 179 = .ok (.iaload, 1) := by decide +kernel
theorem dL_180 : decode code 180 = .ok (.aload_n 0, 1) := by decide +kernel
theorem dL_181 : decode code 181 = .ok (.iload_n 3, 1) := by decide +kernel
theorem dL_182 : decode code 182 = .ok (.iconst 2, 1) := by decide +kernel
theorem dL_183 : decode code 183 = .ok (.iadd, 1) := by decide +kernel
theorem dL_184 : decode code 184 = .ok (.iaload, 1) := by decide +kernel
theorem dL_185 : decode code 185 = .ok (.invokevirtual 17, 3) := by decide +kernel
theorem dL_188 : decode code 188 = .ok (.if_icmp .eq 726, 3) := by decide +kernel
theorem dL_191 : decode code 191 = .ok (.iconst 0, 1) := by decide +kernel
theorem dL_192 : decode code 192 = .ok (.ireturn, 1) := by decide +kernel
theorem dL_193 : decode code 193 = .ok (.aload_n 1, 1) := by decide +kernel
theorem dL_194 : decode code 194 = .ok (.aload_n 0, 1) := by decide +kernel
theorem dL_195 : decode code 195 = .ok (.iload_n 3, 1) := by decide +kernel
theorem dL_196 : decode code 196 = .ok (.iconst 1, 1) := by decide +kernel
theorem dL_197 : decode code 197 = .ok (.iadd, 1) := by decide +kernel
theorem dL_198 : decode code 198 = .ok (.iaload, 1) := by decide +kernel
theorem dL_199 : decode code 199 = .ok (.aload_n 0, 1) := by decide +kernel
theorem dL_200 : decode code 200 = .ok (.iload_n 3, 1) := by decide +kernel
theorem dL_201 : decode code 201 = .ok (.iconst 2, 1) := by decide +kernel
theorem dL_202 : decode code 202 = .ok (.iadd, 1) := by decide +kernel
theorem dL_203 : decode code 203 = .ok (.iaload, 1) := by decide +kernel
theorem dL_204 : decode code 204 = .ok (.aload_n 0, 1) := by decide +kernel
theorem dL_205 : decode code 205 = .ok (.iload_n 3, 1) := by decide +kernel
theorem dL_206 : decode code 206 = .ok (.iconst 3, 1) := by decide +kernel
theorem dL_207 : decode code 207 = .ok (.iadd, 1) := by decide +kernel
theorem dL_208 : decode code 208 = .ok (.iaload, 1) := by decide +kernel
theorem dL_209 : decode code 209 = .ok (.invokevirtual 18, 3) := by decide +kernel
theorem dL_212 : decode code 212 = .ok (.aload_n 2, 1) := by decide +kernel
theorem dL_213 : decode code 213 = .ok (.aload_n 0, 1) := by decide +kernel
theorem dL_214 : decode code 214 = .ok (.iload_n 3, 1) := by decide +kernel
theorem dL_215 : decode code 215 = .ok (.iconst 1, 1) := by decide +kernel
theorem dL_216 : decode code 216 = .ok (.iadd, 1) := by decide +kernel
theorem dL_217 : decode code 217 = .ok (.iaload, 1) := by decide +kernel
theorem dL_218 : decode code 218 = .ok (.aload_n 0, 1) := by decide +kernel
theorem dL_219 : decode code 219 = .ok (.iload_n 3, 1) := by decide +kernel
theorem dL_220 : decode code 220 = .ok (.iconst 2, 1) := by decide +kernel
theorem dL_221 : decode code 221 = .ok (.iadd, 1) := by decide +kernel
theorem dL_222 : decode code 222 = .ok (.iaload, 1) := by decide +kernel
theorem dL_223 : decode code 223 = .ok (.aload_n 0, 1) := by decide +kernel
theorem dL_224 : decode code 224 = .ok (.iload_n 3, 1) := by decide +kernel
theorem dL_225 : decode code 225 = .ok (.iconst 3, 1) := by decide +kernel
theorem dL_226 : decode code 226 = .ok (.iadd, 1) := by decide +kernel
theorem dL_227 : decode code 227 = .ok (.iaload, 1) := by decide +kernel
theorem dL_228 : decode code 228 = .ok (.invokevirtual 22, 3) := by decide +kernel
theorem dL_231 : decode code 231 = .ok (.lcmp, 1) := by decide +kernel
theorem dL_232 : decode code 232 = .ok (.ifCond .eq 682, 3) := by decide +kernel
theorem dL_235 : decode code 235 = .ok (.iconst 0, 1) := by decide +kernel
theorem dL_236 : decode code 236 = .ok (.ireturn, 1) := by decide +kernel
theorem dL_237 : decode code 237 = .ok (.aload_n 1, 1) := by decide +kernel
theorem dL_238 : decode code 238 = .ok (.aload_n 0, 1) := by decide +kernel
theorem dL_239 : decode code 239 = .ok (.iload_n 3, 1) := by decide +kernel
theorem dL_240 : decode code 240 = .ok (.iconst 1, 1) := by decide +kernel
theorem dL_241 : decode code 241 = .ok (.iadd, 1) := by decide +kernel
theorem dL_242 : decode code 242 = .ok (.iaload, 1) := by decide +kernel
theorem dL_243 : decode code 243 = .ok (.invokevirtual 23, 3) := by decide +kernel
theorem dL_246 : decode code 246 = .ok (.aload_n 2, 1) := by decide +kernel
theorem dL_247 : decode code 247 = .ok (.aload_n 0, 1) := by decide +kernel
theorem dL_248 : decode code 248 = .ok (.iload_n 3, 1) := by decide +kernel
theorem dL_249 : decode code 249 = .ok (.iconst 1, 1) := by decide +kernel
theorem dL_250 : decode code 250 = .ok (.iadd, 1) := by decide +kernel
theorem dL_251 : decode code 251 = .ok (.iaload, 1) := by decide +kernel
