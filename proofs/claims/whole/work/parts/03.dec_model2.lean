theorem dX12_flies_153 : decode cX12_flies 153 = .ok (.aload_n 0, 1) := by decide +kernel
theorem dX12_flies_154 : decode cX12_flies 154 = .ok (.getfield 7, 3) := by decide +kernel
theorem dX12_flies_157 : decode cX12_flies 157 = .ok (.iload_n 2, 1) := by decide +kernel
theorem dX12_flies_158 : decode cX12_flies 158 = .ok (.bipush 7, 2) := by decide +kernel
theorem dX12_flies_160 : decode cX12_flies 160 = .ok (.iadd, 1) := by decide +kernel
theorem dX12_flies_161 : decode cX12_flies 161 = .ok (.iaload, 1) := by decide +kernel
theorem dX12_flies_162 : decode cX12_flies 162 = .ok (.iastore, 1) := by decide +kernel
theorem dX12_flies_163 : decode cX12_flies 163 = .ok (.aload_n 0, 1) := by decide +kernel
theorem dX12_flies_164 : decode cX12_flies 164 = .ok (.iload 5, 2) := by decide +kernel
theorem dX12_flies_166 : decode cX12_flies 166 = .ok (.iconst 0, 1) := by decide +kernel
theorem dX12_flies_167 : decode cX12_flies 167 = .ok (.invokevirtual 215, 3) := by decide +kernel
theorem dX12_flies_170 : decode cX12_flies 170 = .ok (.iconst 0, 1) := by decide +kernel
theorem dX12_flies_171 : decode cX12_flies 171 = .ok (.ldc 107, 2) := by decide +kernel
theorem dX12_flies_173 : decode cX12_flies 173 = .ok (.invokestatic 218, 3) := by decide +kernel
theorem dX12_flies_176 : decode cX12_flies 176 = .ok (.istore 6, 2) := by decide +kernel
theorem dX12_flies_178 : decode cX12_flies 178 = .ok (.aload_n 0, 1) := by decide +kernel
theorem dX12_flies_179 : decode cX12_flies 179 = .ok (.iload 5, 2) := by decide +kernel
theorem dX12_flies_181 : decode cX12_flies 181 = .ok (.iconst 1, 1) := by decide +kernel
theorem dX12_flies_182 : decode cX12_flies 182 = .ok (.invokevirtual 215, 3) := by decide +kernel
theorem dX12_flies_185 : decode cX12_flies 185 = .ok (.iconst 1, 1) := by decide +kernel
theorem dX12_flies_186 : decode cX12_flies 186 = .ok (.sipush 9999, 3) := by decide +kernel
theorem dX12_flies_189 : decode cX12_flies 189 = .ok (.invokestatic 218, 3) := by decide +kernel
theorem dX12_flies_192 : decode cX12_flies 192 = .ok (.istore 7, 2) := by decide +kernel
theorem dX12_flies_194 : decode cX12_flies 194 = .ok (.iload 4, 2) := by decide +kernel
theorem dX12_flies_196 : decode cX12_flies 196 = .ok (.iconst 1, 1) := by decide +kernel
theorem dX12_flies_197 : decode cX12_flies 197 = .ok (.if_icmp .ne 9, 3) := by decide +kernel
theorem dX12_flies_200 : decode cX12_flies 200 = .ok (.sipush 9999, 3) := by decide +kernel
theorem dX12_flies_203 : decode cX12_flies 203 = .ok (.goto 5, 3) := by decide +kernel
theorem dX12_flies_206 : decode cX12_flies 206 = .ok (.iload 7, 2) := by decide +kernel
theorem dX12_flies_208 : decode cX12_flies 208 = .ok (.istore 7, 2) := by decide +kernel
theorem dX12_flies_210 : decode cX12_flies 210 = .ok (.aload_n 0, 1) := by decide +kernel
theorem dX12_flies_211 : decode cX12_flies 211 = .ok (.iload_n 3, 1) := by decide +kernel
theorem dX12_flies_212 : decode cX12_flies 212 = .ok (.iload 6, 2) := by decide +kernel
theorem dX12_flies_214 : decode cX12_flies 214 = .ok (.aload_n 0, 1) := by decide +kernel
theorem dX12_flies_215 : decode cX12_flies 215 = .ok (.getfield 7, 3) := by decide +kernel
theorem dX12_flies_218 : decode cX12_flies 218 = .ok (.iload_n 2, 1) := by decide +kernel
theorem dX12_flies_219 : decode cX12_flies 219 = .ok (.iconst 2, 1) := by decide +kernel
theorem dX12_flies_220 : decode cX12_flies 220 = .ok (.iadd, 1) := by decide +kernel
theorem dX12_flies_221 : decode cX12_flies 221 = .ok (.iaload, 1) := by decide +kernel
theorem dX12_flies_222 : decode cX12_flies 222 = .ok (.iload 7, 2) := by decide +kernel
theorem dX12_flies_224 : decode cX12_flies 224 = .ok (.iadd, 1) := by decide +kernel
theorem dX12_flies_225 : decode cX12_flies 225 = .ok (.invokevirtual 230, 3) := by decide +kernel
theorem dX12_flies_228 : decode cX12_flies 228 = .ok (.aload_n 0, 1) := by decide +kernel
theorem dX12_flies_229 : decode cX12_flies 229 = .ok (.getfield 40, 3) := by decide +kernel
theorem dX12_flies_232 : decode cX12_flies 232 = .ok (.iconst 4, 1) := by decide +kernel
theorem dX12_flies_233 : decode cX12_flies 233 = .ok (.iload_n 3, 1) := by decide +kernel
theorem dX12_flies_234 : decode cX12_flies 234 = .ok (.imul, 1) := by decide +kernel
theorem dX12_flies_235 : decode cX12_flies 235 = .ok (.aload_n 0, 1) := by decide +kernel
theorem dX12_flies_236 : decode cX12_flies 236 = .ok (.getfield 7, 3) := by decide +kernel
theorem dX12_flies_239 : decode cX12_flies 239 = .ok (.iload_n 2, 1) := by decide +kernel
theorem dX12_flies_240 : decode cX12_flies 240 = .ok (.iconst 2, 1) := by decide +kernel
theorem dX12_flies_241 : decode cX12_flies 241 = .ok (.iadd, 1) := by decide +kernel
theorem dX12_flies_242 : decode cX12_flies 242 = .ok (.iaload, 1) := by decide +kernel
theorem dX12_flies_243 : decode cX12_flies 243 = .ok (.sipush 360, 3) := by decide +kernel
theorem dX12_flies_246 : decode cX12_flies 246 = .ok (.idiv, 1) := by decide +kernel
theorem dX12_flies_247 : decode cX12_flies 247 = .ok (.iadd, 1) := by decide +kernel
theorem dX12_flies_248 : decode cX12_flies 248 = .ok (.dup2, 1) := by decide +kernel
theorem dX12_flies_249 : decode cX12_flies 249 = .ok (.iaload, 1) := by decide +kernel
theorem dX12_flies_250 : decode cX12_flies 250 = .ok (.iload 6, 2) := by decide +kernel
theorem dX12_flies_252 : decode cX12_flies 252 = .ok (.iadd, 1) := by decide +kernel
theorem dX12_flies_253 : decode cX12_flies 253 = .ok (.iastore, 1) := by decide +kernel
theorem dX12_flies_254 : decode cX12_flies 254 = .ok (.aload_n 0, 1) := by decide +kernel
theorem dX12_flies_255 : decode cX12_flies 255 = .ok (.getfield 43, 3) := by decide +kernel
theorem dX12_flies_258 : decode cX12_flies 258 = .ok (.aload_n 0, 1) := by decide +kernel
theorem dX12_flies_259 : decode cX12_flies 259 = .ok (.getfield 7, 3) := by decide +kernel
theorem dX12_flies_262 : decode cX12_flies 262 = .ok (.iload_n 2, 1) := by decide +kernel
theorem dX12_flies_263 : decode cX12_flies 263 = .ok (.bipush 6, 2) := by decide +kernel
theorem dX12_flies_265 : decode cX12_flies 265 = .ok (.iadd, 1) := by decide +kernel
theorem dX12_flies_266 : decode cX12_flies 266 = .ok (.iaload, 1) := by decide +kernel
theorem dX12_flies_267 : decode cX12_flies 267 = .ok (.bipush 10, 2) := by decide +kernel
theorem dX12_flies_269 : decode cX12_flies 269 = .ok (.irem, 1) := by decide +kernel
theorem dX12_flies_270 : decode cX12_flies 270 = .ok (.dup2, 1) := by decide +kernel
theorem dX12_flies_271 : decode cX12_flies 271 = .ok (.iaload, 1) := by decide +kernel
theorem dX12_flies_272 : decode cX12_flies 272 = .ok (.iload 6, 2) := by decide +kernel
theorem dX12_flies_274 : decode cX12_flies 274 = .ok (.iadd, 1) := by decide +kernel
theorem dX12_flies_275 : decode cX12_flies 275 = .ok (.iastore, 1) := by decide +kernel
theorem dX12_flies_276 : decode cX12_flies 276 = .ok (.aload_n 0, 1) := by decide +kernel
theorem dX12_flies_277 : decode cX12_flies 277 = .ok (.getfield 49, 3) := by decide +kernel
theorem dX12_flies_280 : decode cX12_flies 280 = .ok (.iload_n 1, 1) := by decide +kernel
theorem dX12_flies_281 : decode cX12_flies 281 = .ok (.iload 6, 2) := by decide +kernel
theorem dX12_flies_283 : decode cX12_flies 283 = .ok (.iastore, 1) := by decide +kernel
theorem dX12_flies_284 : decode cX12_flies 284 = .ok (.return_, 1) := by decide +kernel
theorem dX12_isOwn_0 : decode cX12_isOwn 0 = .ok (.aload_n 0, 1) := by decide +kernel
theorem dX12_isOwn_1 : decode cX12_isOwn 1 = .ok (.getfield 7, 3) := by decide +kernel
theorem dX12_isOwn_4 : decode cX12_isOwn 4 = .ok (.bipush 20, 2) := by decide +kernel
theorem dX12_isOwn_6 : decode cX12_isOwn 6 = .ok (.iconst 3, 1) := by decide +kernel
theorem dX12_isOwn_7 : decode cX12_isOwn 7 = .ok (.iload_n 2, 1) := by decide +kernel
theorem dX12_isOwn_8 : decode cX12_isOwn 8 = .ok (.imul, 1) := by decide +kernel
theorem dX12_isOwn_9 : decode cX12_isOwn 9 = .ok (.iadd, 1) := by decide +kernel
theorem dX12_isOwn_10 : decode cX12_isOwn 10 = .ok (.iconst 2, 1) := by decide +kernel
theorem dX12_isOwn_11 : decode cX12_isOwn 11 = .ok (.iadd, 1) := by decide +kernel
theorem dX12_isOwn_12 : decode cX12_isOwn 12 = .ok (.iaload, 1) := by decide +kernel
theorem dX12_isOwn_13 : decode cX12_isOwn 13 = .ok (.istore 4, 2) := by decide +kernel
theorem dX12_isOwn_15 : decode cX12_isOwn 15 = .ok (.aload_n 0, 1) := by decide +kernel
theorem dX12_isOwn_16 : decode cX12_isOwn 16 = .ok (.getfield 31, 3) := by decide +kernel
theorem dX12_isOwn_19 : decode cX12_isOwn 19 = .ok (.iload_n 1, 1) := by decide +kernel
theorem dX12_isOwn_20 : decode cX12_isOwn 20 = .ok (.iaload, 1) := by decide +kernel
theorem dX12_isOwn_21 : decode cX12_isOwn 21 = .ok (.iload_n 2, 1) := by decide +kernel
theorem dX12_isOwn_22 : decode cX12_isOwn 22 = .ok (.if_icmp .eq 36, 3) := by decide +kernel
theorem dX12_isOwn_25 : decode cX12_isOwn 25 = .ok (.iload_n 3, 1) := by decide +kernel
theorem dX12_isOwn_26 : decode cX12_isOwn 26 = .ok (.ifCond .eq 36, 3) := by decide +kernel
theorem dX12_isOwn_29 : decode cX12_isOwn 29 = .ok (.iload 4, 2) := by decide +kernel
theorem dX12_isOwn_31 : decode cX12_isOwn 31 = .ok (.iconst (-1), 1) := by decide +kernel
theorem dX12_isOwn_32 : decode cX12_isOwn 32 = .ok (.if_icmp .eq 30, 3) := by decide +kernel
theorem dX12_isOwn_35 : decode cX12_isOwn 35 = .ok (.aload_n 0, 1) := by decide +kernel
theorem dX12_isOwn_36 : decode cX12_isOwn 36 = .ok (.getfield 7, 3) := by decide +kernel
theorem dX12_isOwn_39 : decode cX12_isOwn 39 = .ok (.bipush 20, 2) := by decide +kernel
theorem dX12_isOwn_41 : decode cX12_isOwn 41 = .ok (.iconst 3, 1) := by decide +kernel
theorem dX12_isOwn_42 : decode cX12_isOwn 42 = .ok (.aload_n 0, 1) := by decide +kernel
theorem dX12_isOwn_43 : decode cX12_isOwn 43 = .ok (.getfield 31, 3) := by decide +kernel
theorem dX12_isOwn_46 : decode cX12_isOwn 46 = .ok (.iload_n 1, 1) := by decide +kernel
theorem dX12_isOwn_47 : decode cX12_isOwn 47 = .ok (.iaload, 1) := by decide +kernel
theorem dX12_isOwn_48 : decode cX12_isOwn 48 = .ok (.imul, 1) := by decide +kernel
theorem dX12_isOwn_49 : decode cX12_isOwn 49 = .ok (.iadd, 1) := by decide +kernel
theorem dX12_isOwn_50 : decode cX12_isOwn 50 = .ok (.iconst 2, 1) := by decide +kernel
theorem dX12_isOwn_51 : decode cX12_isOwn 51 = .ok (.iadd, 1) := by decide +kernel
theorem dX12_isOwn_52 : decode cX12_isOwn 52 = .ok (.iaload, 1) := by decide +kernel
theorem dX12_isOwn_53 : decode cX12_isOwn 53 = .ok (.iload 4, 2) := by decide +kernel
theorem dX12_isOwn_55 : decode cX12_isOwn 55 = .ok (.if_icmp .ne 7, 3) := by decide +kernel
theorem dX12_isOwn_58 : decode cX12_isOwn 58 = .ok (.iconst 1, 1) := by decide +kernel
theorem dX12_isOwn_59 : decode cX12_isOwn 59 = .ok (.goto 4, 3) := by decide +kernel
theorem dX12_isOwn_62 : decode cX12_isOwn 62 = .ok (.iconst 0, 1) := by decide +kernel
theorem dX12_isOwn_63 : decode cX12_isOwn 63 = .ok (.ireturn, 1) := by decide +kernel
theorem dX12_there_0 : decode cX12_there 0 = .ok (.lconst 0, 1) := by decide +kernel
theorem dX12_there_1 : decode cX12_there 1 = .ok (.lstore 4, 2) := by decide +kernel
theorem dX12_there_3 : decode cX12_there 3 = .ok (.iconst 0, 1) := by decide +kernel
theorem dX12_there_4 : decode cX12_there 4 = .ok (.istore 6, 2) := by decide +kernel
theorem dX12_there_6 : decode cX12_there 6 = .ok (.iload 6, 2) := by decide +kernel
theorem dX12_there_8 : decode cX12_there 8 = .ok (.aload_n 0, 1) := by decide +kernel
theorem dX12_there_9 : decode cX12_there 9 = .ok (.getfield 212, 3) := by decide +kernel
theorem dX12_there_12 : decode cX12_there 12 = .ok (.if_icmp .ge 48, 3) := by decide +kernel
theorem dX12_there_15 : decode cX12_there 15 = .ok (.lload 4, 2) := by decide +kernel
theorem dX12_there_17 : decode cX12_there 17 = .ok (.aload_n 0, 1) := by decide +kernel
theorem dX12_there_18 : decode cX12_there 18 = .ok (.iload 6, 2) := by decide +kernel
theorem dX12_there_20 : decode cX12_there 20 = .ok (.iload_n 1, 1) := by decide +kernel
theorem dX12_there_21 : decode cX12_there 21 = .ok (.iload_n 3, 1) := by decide +kernel
theorem dX12_there_22 : decode cX12_there 22 = .ok (.invokevirtual 234, 3) := by decide +kernel
theorem dX12_there_25 : decode cX12_there 25 = .ok (.ifCond .eq 25, 3) := by decide +kernel
theorem dX12_there_28 : decode cX12_there 28 = .ok (.aload_n 0, 1) := by decide +kernel
theorem dX12_there_29 : decode cX12_there 29 = .ok (.getfield 37, 3) := by decide +kernel
theorem dX12_there_32 : decode cX12_there 32 = .ok (.iload 6, 2) := by decide +kernel
theorem dX12_there_34 : decode cX12_there 34 = .ok (.iaload, 1) := by decide +kernel
theorem dX12_there_35 : decode cX12_there 35 = .ok (.iload_n 2, 1) := by decide +kernel
theorem dX12_there_36 : decode cX12_there 36 = .ok (.if_icmp .le 14, 3) := by decide +kernel
theorem dX12_there_39 : decode cX12_there 39 = .ok (.aload_n 0, 1) := by decide +kernel
theorem dX12_there_40 : decode cX12_there 40 = .ok (.getfield 34, 3) := by decide +kernel
theorem dX12_there_43 : decode cX12_there 43 = .ok (.iload 6, 2) := by decide +kernel
theorem dX12_there_45 : decode cX12_there 45 = .ok (.iaload, 1) := by decide +kernel
theorem dX12_there_46 : decode cX12_there 46 = .ok (.i2l, 1) := by decide +kernel
theorem dX12_there_47 : decode cX12_there 47 = .ok (.goto 4, 3) := by decide +kernel
theorem dX12_there_50 : decode cX12_there 50 = .ok (.lconst 0, 1) := by decide +kernel
theorem dX12_there_51 : decode cX12_there 51 = .ok (.ladd, 1) := by decide +kernel
theorem dX12_there_52 : decode cX12_there 52 = .ok (.lstore 4, 2) := by decide +kernel
theorem dX12_there_54 : decode cX12_there 54 = .ok (.iinc 6 1, 3) := by decide +kernel
theorem dX12_there_57 : decode cX12_there 57 = .ok (.goto (-51), 3) := by decide +kernel
theorem dX12_there_60 : decode cX12_there 60 = .ok (.lload 4, 2) := by decide +kernel
theorem dX12_there_62 : decode cX12_there 62 = .ok (.lreturn, 1) := by decide +kernel
theorem dX12_takes_0 : decode cX12_takes 0 = .ok (.iload_n 3, 1) := by decide +kernel
theorem dX12_takes_1 : decode cX12_takes 1 = .ok (.istore 5, 2) := by decide +kernel
theorem dX12_takes_3 : decode cX12_takes 3 = .ok (.iconst (-1), 1) := by decide +kernel
theorem dX12_takes_4 : decode cX12_takes 4 = .ok (.istore 6, 2) := by decide +kernel
theorem dX12_takes_6 : decode cX12_takes 6 = .ok (.iload 5, 2) := by decide +kernel
theorem dX12_takes_8 : decode cX12_takes 8 = .ok (.ifCond .le 194, 3) := by decide +kernel
theorem dX12_takes_11 : decode cX12_takes 11 = .ok (.iconst (-1), 1) := by decide +kernel
theorem dX12_takes_12 : decode cX12_takes 12 = .ok (.istore 7, 2) := by decide +kernel
theorem dX12_takes_14 : decode cX12_takes 14 = .ok (.iconst 0, 1) := by decide +kernel
theorem dX12_takes_15 : decode cX12_takes 15 = .ok (.istore 8, 2) := by decide +kernel
theorem dX12_takes_17 : decode cX12_takes 17 = .ok (.iload 8, 2) := by decide +kernel
theorem dX12_takes_19 : decode cX12_takes 19 = .ok (.aload_n 0, 1) := by decide +kernel
theorem dX12_takes_20 : decode cX12_takes 20 = .ok (.getfield 212, 3) := by decide +kernel
theorem dX12_takes_23 : decode cX12_takes 23 = .ok (.if_icmp .ge 123, 3) := by decide +kernel
theorem dX12_takes_26 : decode cX12_takes 26 = .ok (.aload_n 0, 1) := by decide +kernel
theorem dX12_takes_27 : decode cX12_takes 27 = .ok (.iload 8, 2) := by decide +kernel
theorem dX12_takes_29 : decode cX12_takes 29 = .ok (.iload_n 1, 1) := by decide +kernel
theorem dX12_takes_30 : decode cX12_takes 30 = .ok (.iload 4, 2) := by decide +kernel
theorem dX12_takes_32 : decode cX12_takes 32 = .ok (.invokevirtual 234, 3) := by decide +kernel
theorem dX12_takes_35 : decode cX12_takes 35 = .ok (.ifCond .eq 105, 3) := by decide +kernel
theorem dX12_takes_38 : decode cX12_takes 38 = .ok (.aload_n 0, 1) := by decide +kernel
theorem dX12_takes_39 : decode cX12_takes 39 = .ok (.getfield 37, 3) := by decide +kernel
theorem dX12_takes_42 : decode cX12_takes 42 = .ok (.iload 8, 2) := by decide +kernel
theorem dX12_takes_44 : decode cX12_takes 44 = .ok (.iaload, 1) := by decide +kernel
theorem dX12_takes_45 : decode cX12_takes 45 = .ok (.iload_n 2, 1) := by decide +kernel
theorem dX12_takes_46 : decode cX12_takes 46 = .ok (.if_icmp .le 94, 3) := by decide +kernel
theorem dX12_takes_49 : decode cX12_takes 49 = .ok (.aload_n 0, 1) := by decide +kernel
theorem dX12_takes_50 : decode cX12_takes 50 = .ok (.getfield 34, 3) := by decide +kernel
theorem dX12_takes_53 : decode cX12_takes 53 = .ok (.iload 8, 2) := by decide +kernel
theorem dX12_takes_55 : decode cX12_takes 55 = .ok (.iaload, 1) := by decide +kernel
theorem dX12_takes_56 : decode cX12_takes 56 = .ok (.ifCond .ne 6, 3) := by decide +kernel
theorem dX12_takes_59 : decode cX12_takes 59 = .ok (.goto 81, 3) := by decide +kernel
theorem dX12_takes_62 : decode cX12_takes 62 = .ok (.iload 7, 2) := by decide +kernel
theorem dX12_takes_64 : decode cX12_takes 64 = .ok (.iconst (-1), 1) := by decide +kernel
theorem dX12_takes_65 : decode cX12_takes 65 = .ok (.if_icmp .eq 54, 3) := by decide +kernel
theorem dX12_takes_68 : decode cX12_takes 68 = .ok (.aload_n 0, 1) := by decide +kernel
theorem dX12_takes_69 : decode cX12_takes 69 = .ok (.getfield 37, 3) := by decide +kernel
theorem dX12_takes_72 : decode cX12_takes 72 = .ok (.iload 8, 2) := by decide +kernel
theorem dX12_takes_74 : decode cX12_takes 74 = .ok (.iaload, 1) := by decide +kernel
theorem dX12_takes_75 : decode cX12_takes 75 = .ok (.aload_n 0, 1) := by decide +kernel
theorem dX12_takes_76 : decode cX12_takes 76 = .ok (.getfield 37, 3) := by decide +kernel
theorem dX12_takes_79 : decode cX12_takes 79 = .ok (.iload 7, 2) := by decide +kernel
theorem dX12_takes_81 : decode cX12_takes 81 = .ok (.iaload, 1) := by decide +kernel
theorem dX12_takes_82 : decode cX12_takes 82 = .ok (.if_icmp .lt 37, 3) := by decide +kernel
theorem dX12_takes_85 : decode cX12_takes 85 = .ok (.aload_n 0, 1) := by decide +kernel
theorem dX12_takes_86 : decode cX12_takes 86 = .ok (.getfield 37, 3) := by decide +kernel
theorem dX12_takes_89 : decode cX12_takes 89 = .ok (.iload 8, 2) := by decide +kernel
theorem dX12_takes_91 : decode cX12_takes 91 = .ok (.iaload, 1) := by decide +kernel
theorem dX12_takes_92 : decode cX12_takes 92 = .ok (.aload_n 0, 1) := by decide +kernel
theorem dX12_takes_93 : decode cX12_takes 93 = .ok (.getfield 37, 3) := by decide +kernel
theorem dX12_takes_96 : decode cX12_takes 96 = .ok (.iload 7, 2) := by decide +kernel
theorem dX12_takes_98 : decode cX12_takes 98 = .ok (.iaload, 1) := by decide +kernel
theorem dX12_takes_99 : decode cX12_takes 99 = .ok (.if_icmp .ne 24, 3) := by decide +kernel
theorem dX12_takes_102 : decode cX12_takes 102 = .ok (.aload_n 0, 1) := by decide +kernel
theorem dX12_takes_103 : decode cX12_takes 103 = .ok (.getfield 31, 3) := by decide +kernel
theorem dX12_takes_106 : decode cX12_takes 106 = .ok (.iload 8, 2) := by decide +kernel
theorem dX12_takes_108 : decode cX12_takes 108 = .ok (.iaload, 1) := by decide +kernel
theorem dX12_takes_109 : decode cX12_takes 109 = .ok (.aload_n 0, 1) := by decide +kernel
theorem dX12_takes_110 : decode cX12_takes 110 = .ok (.getfield 31, 3) := by decide +kernel
theorem dX12_takes_113 : decode cX12_takes 113 = .ok (.iload 7, 2) := by decide +kernel
theorem dX12_takes_115 : decode cX12_takes 115 = .ok (.iaload, 1) := by decide +kernel
theorem dX12_takes_116 : decode cX12_takes 116 = .ok (.if_icmp .ge 7, 3) := by decide +kernel
theorem dX12_takes_119 : decode cX12_takes 119 = .ok (.iconst 1, 1) := by decide +kernel
theorem dX12_takes_120 : decode cX12_takes 120 = .ok (.goto 4, 3) := by decide +kernel
theorem dX12_takes_123 : decode cX12_takes 123 = .ok (.iconst 0, 1) := by decide +kernel
theorem dX12_takes_124 : decode cX12_takes 124 = .ok (.istore 9, 2) := by decide +kernel
theorem dX12_takes_126 : decode cX12_takes 126 = .ok (.iload 9, 2) := by decide +kernel
theorem dX12_takes_128 : decode cX12_takes 128 = .ok (.ifCond .eq 8, 3) := by decide +kernel
theorem dX12_takes_131 : decode cX12_takes 131 = .ok (.iload 8, 2) := by decide +kernel
theorem dX12_takes_133 : decode cX12_takes 133 = .ok (.goto 5, 3) := by decide +kernel
theorem dX12_takes_136 : decode cX12_takes 136 = .ok (.iload 7, 2) := by decide +kernel
theorem dX12_takes_138 : decode cX12_takes 138 = .ok (.istore 7, 2) := by decide +kernel
theorem dX12_takes_140 : decode cX12_takes 140 = .ok (.iinc 8 1, 3) := by decide +kernel
theorem dX12_takes_143 : decode cX12_takes 143 = .ok (.goto (-126), 3) := by decide +kernel
theorem dX12_takes_146 : decode cX12_takes 146 = .ok (.iload 5, 2) := by decide +kernel
theorem dX12_takes_148 : decode cX12_takes 148 = .ok (.aload_n 0, 1) := by decide +kernel
theorem dX12_takes_149 : decode cX12_takes 149 = .ok (.getfield 34, 3) := by decide +kernel
theorem dX12_takes_152 : decode cX12_takes 152 = .ok (.iload 7, 2) := by decide +kernel
theorem dX12_takes_154 : decode cX12_takes 154 = .ok (.iaload, 1) := by decide +kernel
theorem dX12_takes_155 : decode cX12_takes 155 = .ok (.invokestatic 96, 3) := by decide +kernel
theorem dX12_takes_158 : decode cX12_takes 158 = .ok (.istore 8, 2) := by decide +kernel
theorem dX12_takes_160 : decode cX12_takes 160 = .ok (.aload_n 0, 1) := by decide +kernel
theorem dX12_takes_161 : decode cX12_takes 161 = .ok (.getfield 34, 3) := by decide +kernel
theorem dX12_takes_164 : decode cX12_takes 164 = .ok (.iload 7, 2) := by decide +kernel
theorem dX12_takes_166 : decode cX12_takes 166 = .ok (.dup2, 1) := by decide +kernel
theorem dX12_takes_167 : decode cX12_takes 167 = .ok (.iaload, 1) := by decide +kernel
theorem dX12_takes_168 : decode cX12_takes 168 = .ok (.iload 8, 2) := by decide +kernel
theorem dX12_takes_170 : decode cX12_takes 170 = .ok (.isub, 1) := by decide +kernel
theorem dX12_takes_171 : decode cX12_takes 171 = .ok (.iastore, 1) := by decide +kernel
theorem dX12_takes_172 : decode cX12_takes 172 = .ok (.iload 5, 2) := by decide +kernel
theorem dX12_takes_174 : decode cX12_takes 174 = .ok (.iload 8, 2) := by decide +kernel
theorem dX12_takes_176 : decode cX12_takes 176 = .ok (.isub, 1) := by decide +kernel
theorem dX12_takes_177 : decode cX12_takes 177 = .ok (.istore 5, 2) := by decide +kernel
theorem dX12_takes_179 : decode cX12_takes 179 = .ok (.iload 6, 2) := by decide +kernel
theorem dX12_takes_181 : decode cX12_takes 181 = .ok (.iconst (-1), 1) := by decide +kernel
theorem dX12_takes_182 : decode cX12_takes 182 = .ok (.if_icmp .ne 13, 3) := by decide +kernel
theorem dX12_takes_185 : decode cX12_takes 185 = .ok (.aload_n 0, 1) := by decide +kernel
theorem dX12_takes_186 : decode cX12_takes 186 = .ok (.getfield 37, 3) := by decide +kernel
theorem dX12_takes_189 : decode cX12_takes 189 = .ok (.iload 7, 2) := by decide +kernel
theorem dX12_takes_191 : decode cX12_takes 191 = .ok (.iaload, 1) := by decide +kernel
theorem dX12_takes_192 : decode cX12_takes 192 = .ok (.goto 5, 3) := by decide +kernel
theorem dX12_takes_195 : decode cX12_takes 195 = .ok (.iload 6, 2) := by decide +kernel
theorem dX12_takes_197 : decode cX12_takes 197 = .ok (.istore 6, 2) := by decide +kernel
theorem dX12_takes_199 : decode cX12_takes 199 = .ok (.goto (-193), 3) := by decide +kernel
theorem dX12_takes_202 : decode cX12_takes 202 = .ok (.iload 6, 2) := by decide +kernel
theorem dX12_takes_204 : decode cX12_takes 204 = .ok (.ireturn, 1) := by decide +kernel
theorem dX12_happens_0 : decode cX12_happens 0 = .ok (.bipush 50, 2) := by decide +kernel
theorem dX12_happens_2 : decode cX12_happens 2 = .ok (.bipush 10, 2) := by decide +kernel
theorem dX12_happens_4 : decode cX12_happens 4 = .ok (.iload_n 1, 1) := by decide +kernel
theorem dX12_happens_5 : decode cX12_happens 5 = .ok (.imul, 1) := by decide +kernel
theorem dX12_happens_6 : decode cX12_happens 6 = .ok (.iadd, 1) := by decide +kernel
theorem dX12_happens_7 : decode cX12_happens 7 = .ok (.istore_n 2, 1) := by decide +kernel
theorem dX12_happens_8 : decode cX12_happens 8 = .ok (.aload_n 0, 1) := by decide +kernel
theorem dX12_happens_9 : decode cX12_happens 9 = .ok (.getfield 7, 3) := by decide +kernel
theorem dX12_happens_12 : decode cX12_happens 12 = .ok (.iload_n 2, 1) := by decide +kernel
theorem dX12_happens_13 : decode cX12_happens 13 = .ok (.iconst 1, 1) := by decide +kernel
theorem dX12_happens_14 : decode cX12_happens 14 = .ok (.iadd, 1) := by decide +kernel
theorem dX12_happens_15 : decode cX12_happens 15 = .ok (.iaload, 1) := by decide +kernel
theorem dX12_happens_16 : decode cX12_happens 16 = .ok (.istore_n 3, 1) := by decide +kernel
theorem dX12_happens_17 : decode cX12_happens 17 = .ok (.aload_n 0, 1) := by decide +kernel
theorem dX12_happens_18 : decode cX12_happens 18 = .ok (.getfield 7, 3) := by decide +kernel
theorem dX12_happens_21 : decode cX12_happens 21 = .ok (.iload_n 2, 1) := by decide +kernel
theorem dX12_happens_22 : decode cX12_happens 22 = .ok (.iconst 2, 1) := by decide +kernel
theorem dX12_happens_23 : decode cX12_happens 23 = .ok (.iadd, 1) := by decide +kernel
theorem dX12_happens_24 : decode cX12_happens 24 = .ok (.iaload, 1) := by decide +kernel
theorem dX12_happens_25 : decode cX12_happens 25 = .ok (.istore 4, 2) := by decide +kernel
theorem dX12_happens_27 : decode cX12_happens 27 = .ok (.aload_n 0, 1) := by decide +kernel
theorem dX12_happens_28 : decode cX12_happens 28 = .ok (.getfield 7, 3) := by decide +kernel
theorem dX12_happens_31 : decode cX12_happens 31 = .ok (.iload_n 2, 1) := by decide +kernel
theorem dX12_happens_32 : decode cX12_happens 32 = .ok (.iconst 5, 1) := by decide +kernel
theorem dX12_happens_33 : decode cX12_happens 33 = .ok (.iadd, 1) := by decide +kernel
theorem dX12_happens_34 : decode cX12_happens 34 = .ok (.iaload, 1) := by decide +kernel
theorem dX12_happens_35 : decode cX12_happens 35 = .ok (.istore 5, 2) := by decide +kernel
theorem dX12_happens_37 : decode cX12_happens 37 = .ok (.aload_n 0, 1) := by decide +kernel
theorem dX12_happens_38 : decode cX12_happens 38 = .ok (.getfield 7, 3) := by decide +kernel
theorem dX12_happens_41 : decode cX12_happens 41 = .ok (.iload_n 2, 1) := by decide +kernel
theorem dX12_happens_42 : decode cX12_happens 42 = .ok (.iaload, 1) := by decide +kernel
theorem dX12_happens_43 : decode cX12_happens 43 = .ok (.ifCond .ne 11, 3) := by decide +kernel
theorem dX12_happens_46 : decode cX12_happens 46 = .ok (.aload_n 0, 1) := by decide +kernel
theorem dX12_happens_47 : decode cX12_happens 47 = .ok (.iload_n 1, 1) := by decide +kernel
theorem dX12_happens_48 : decode cX12_happens 48 = .ok (.invokevirtual 238, 3) := by decide +kernel
theorem dX12_happens_51 : decode cX12_happens 51 = .ok (.goto 218, 3) := by decide +kernel
theorem dX12_happens_54 : decode cX12_happens 54 = .ok (.aload_n 0, 1) := by decide +kernel
theorem dX12_happens_55 : decode cX12_happens 55 = .ok (.getfield 7, 3) := by decide +kernel
theorem dX12_happens_58 : decode cX12_happens 58 = .ok (.iload_n 2, 1) := by decide +kernel
theorem dX12_happens_59 : decode cX12_happens 59 = .ok (.iaload, 1) := by decide +kernel
theorem dX12_happens_60 : decode cX12_happens 60 = .ok (.iconst 3, 1) := by decide +kernel
theorem dX12_happens_61 : decode cX12_happens 61 = .ok (.if_icmp .ne 96, 3) := by decide +kernel
theorem dX12_happens_64 : decode cX12_happens 64 = .ok (.aload_n 0, 1) := by decide +kernel
theorem dX12_happens_65 : decode cX12_happens 65 = .ok (.getfield 7, 3) := by decide +kernel
theorem dX12_happens_68 : decode cX12_happens 68 = .ok (.iload_n 2, 1) := by decide +kernel
theorem dX12_happens_69 : decode cX12_happens 69 = .ok (.bipush 6, 2) := by decide +kernel
theorem dX12_happens_71 : decode cX12_happens 71 = .ok (.iadd, 1) := by decide +kernel
theorem dX12_happens_72 : decode cX12_happens 72 = .ok (.iaload, 1) := by decide +kernel
theorem dX12_happens_73 : decode cX12_happens 73 = .ok (.istore 6, 2) := by decide +kernel
theorem dX12_happens_75 : decode cX12_happens 75 = .ok (.aload_n 0, 1) := by decide +kernel
theorem dX12_happens_76 : decode cX12_happens 76 = .ok (.getfield 49, 3) := by decide +kernel
theorem dX12_happens_79 : decode cX12_happens 79 = .ok (.iload 6, 2) := by decide +kernel
theorem dX12_happens_81 : decode cX12_happens 81 = .ok (.iaload, 1) := by decide +kernel
theorem dX12_happens_82 : decode cX12_happens 82 = .ok (.ifCond .eq 13, 3) := by decide +kernel
theorem dX12_happens_85 : decode cX12_happens 85 = .ok (.aload_n 0, 1) := by decide +kernel
theorem dX12_happens_86 : decode cX12_happens 86 = .ok (.getfield 55, 3) := by decide +kernel
theorem dX12_happens_89 : decode cX12_happens 89 = .ok (.iload 6, 2) := by decide +kernel
theorem dX12_happens_91 : decode cX12_happens 91 = .ok (.baload, 1) := by decide +kernel
theorem dX12_happens_92 : decode cX12_happens 92 = .ok (.ifCond .eq 4, 3) := by decide +kernel
theorem dX12_happens_95 : decode cX12_happens 95 = .ok (.return_, 1) := by decide +kernel
theorem dX12_happens_96 : decode cX12_happens 96 = .ok (.aload_n 0, 1) := by decide +kernel
theorem dX12_happens_97 : decode cX12_happens 97 = .ok (.getfield 55, 3) := by decide +kernel
theorem dX12_happens_100 : decode cX12_happens 100 = .ok (.iload 6, 2) := by decide +kernel
theorem dX12_happens_102 : decode cX12_happens 102 = .ok (.iconst 1, 1) := by decide +kernel
theorem dX12_happens_103 : decode cX12_happens 103 = .ok (.bastore, 1) := by decide +kernel
theorem dX12_happens_104 : decode cX12_happens 104 = .ok (.aload_n 0, 1) := by decide +kernel
theorem dX12_happens_105 : decode cX12_happens 105 = .ok (.iload_n 3, 1) := by decide +kernel
theorem dX12_happens_106 : decode cX12_happens 106 = .ok (.iload 5, 2) := by decide +kernel
theorem dX12_happens_108 : decode cX12_happens 108 = .ok (.iload 4, 2) := by decide +kernel
theorem dX12_happens_110 : decode cX12_happens 110 = .ok (.aload_n 0, 1) := by decide +kernel
theorem dX12_happens_111 : decode cX12_happens 111 = .ok (.getfield 7, 3) := by decide +kernel
theorem dX12_happens_114 : decode cX12_happens 114 = .ok (.iconst 2, 1) := by decide +kernel
theorem dX12_happens_115 : decode cX12_happens 115 = .ok (.iaload, 1) := by decide +kernel
theorem dX12_happens_116 : decode cX12_happens 116 = .ok (.iadd, 1) := by decide +kernel
theorem dX12_happens_117 : decode cX12_happens 117 = .ok (.invokevirtual 230, 3) := by decide +kernel
theorem dX12_happens_120 : decode cX12_happens 120 = .ok (.aload_n 0, 1) := by decide +kernel
theorem dX12_happens_121 : decode cX12_happens 121 = .ok (.getfield 46, 3) := by decide +kernel
theorem dX12_happens_124 : decode cX12_happens 124 = .ok (.aload_n 0, 1) := by decide +kernel
theorem dX12_happens_125 : decode cX12_happens 125 = .ok (.getfield 7, 3) := by decide +kernel
theorem dX12_happens_128 : decode cX12_happens 128 = .ok (.bipush 50, 2) := by decide +kernel
theorem dX12_happens_130 : decode cX12_happens 130 = .ok (.bipush 10, 2) := by decide +kernel
theorem dX12_happens_132 : decode cX12_happens 132 = .ok (.iload 6, 2) := by decide +kernel
theorem dX12_happens_134 : decode cX12_happens 134 = .ok (.imul, 1) := by decide +kernel
theorem dX12_happens_135 : decode cX12_happens 135 = .ok (.iadd, 1) := by decide +kernel
theorem dX12_happens_136 : decode cX12_happens 136 = .ok (.bipush 6, 2) := by decide +kernel
theorem dX12_happens_138 : decode cX12_happens 138 = .ok (.iadd, 1) := by decide +kernel
theorem dX12_happens_139 : decode cX12_happens 139 = .ok (.iaload, 1) := by decide +kernel
theorem dX12_happens_140 : decode cX12_happens 140 = .ok (.dup2, 1) := by decide +kernel
theorem dX12_happens_141 : decode cX12_happens 141 = .ok (.iaload, 1) := by decide +kernel
theorem dX12_happens_142 : decode cX12_happens 142 = .ok (.iload 5, 2) := by decide +kernel
theorem dX12_happens_144 : decode cX12_happens 144 = .ok (.isub, 1) := by decide +kernel
theorem dX12_happens_145 : decode cX12_happens 145 = .ok (.iastore, 1) := by decide +kernel
theorem dX12_happens_146 : decode cX12_happens 146 = .ok (.aload_n 0, 1) := by decide +kernel
theorem dX12_happens_147 : decode cX12_happens 147 = .ok (.getfield 49, 3) := by decide +kernel
theorem dX12_happens_150 : decode cX12_happens 150 = .ok (.iload_n 1, 1) := by decide +kernel
theorem dX12_happens_151 : decode cX12_happens 151 = .ok (.iload 5, 2) := by decide +kernel
theorem dX12_happens_153 : decode cX12_happens 153 = .ok (.iastore, 1) := by decide +kernel
theorem dX12_happens_154 : decode cX12_happens 154 = .ok (.goto 115, 3) := by decide +kernel
theorem dX12_happens_157 : decode cX12_happens 157 = .ok (.aload_n 0, 1) := by decide +kernel
theorem dX12_happens_158 : decode cX12_happens 158 = .ok (.iload_n 3, 1) := by decide +kernel
theorem dX12_happens_159 : decode cX12_happens 159 = .ok (.iload 4, 2) := by decide +kernel
theorem dX12_happens_161 : decode cX12_happens 161 = .ok (.aload_n 0, 1) := by decide +kernel
theorem dX12_happens_162 : decode cX12_happens 162 = .ok (.getfield 7, 3) := by decide +kernel
theorem dX12_happens_165 : decode cX12_happens 165 = .ok (.iload_n 2, 1) := by decide +kernel
theorem dX12_happens_166 : decode cX12_happens 166 = .ok (.iaload, 1) := by decide +kernel
theorem dX12_happens_167 : decode cX12_happens 167 = .ok (.iconst 1, 1) := by decide +kernel
theorem dX12_happens_168 : decode cX12_happens 168 = .ok (.if_icmp .ne 7, 3) := by decide +kernel
theorem dX12_happens_171 : decode cX12_happens 171 = .ok (.iconst 1, 1) := by decide +kernel
theorem dX12_happens_172 : decode cX12_happens 172 = .ok (.goto 4, 3) := by decide +kernel
theorem dX12_happens_175 : decode cX12_happens 175 = .ok (.iconst 0, 1) := by decide +kernel
theorem dX12_happens_176 : decode cX12_happens 176 = .ok (.invokevirtual 241, 3) := by decide +kernel
theorem dX12_happens_179 : decode cX12_happens 179 = .ok (.iload 5, 2) := by decide +kernel
theorem dX12_happens_181 : decode cX12_happens 181 = .ok (.i2l, 1) := by decide +kernel
theorem dX12_happens_182 : decode cX12_happens 182 = .ok (.lcmp, 1) := by decide +kernel
theorem dX12_happens_183 : decode cX12_happens 183 = .ok (.ifCond .lt 86, 3) := by decide +kernel
theorem dX12_happens_186 : decode cX12_happens 186 = .ok (.aload_n 0, 1) := by decide +kernel
theorem dX12_happens_187 : decode cX12_happens 187 = .ok (.iload_n 3, 1) := by decide +kernel
theorem dX12_happens_188 : decode cX12_happens 188 = .ok (.iload 4, 2) := by decide +kernel
theorem dX12_happens_190 : decode cX12_happens 190 = .ok (.iload 5, 2) := by decide +kernel
theorem dX12_happens_192 : decode cX12_happens 192 = .ok (.aload_n 0, 1) := by decide +kernel
theorem dX12_happens_193 : decode cX12_happens 193 = .ok (.getfield 7, 3) := by decide +kernel
theorem dX12_happens_196 : decode cX12_happens 196 = .ok (.iload_n 2, 1) := by decide +kernel
theorem dX12_happens_197 : decode cX12_happens 197 = .ok (.iaload, 1) := by decide +kernel
theorem dX12_happens_198 : decode cX12_happens 198 = .ok (.iconst 1, 1) := by decide +kernel
theorem dX12_happens_199 : decode cX12_happens 199 = .ok (.if_icmp .ne 7, 3) := by decide +kernel
theorem dX12_happens_202 : decode cX12_happens 202 = .ok (.iconst 1, 1) := by decide +kernel
theorem dX12_happens_203 : decode cX12_happens 203 = .ok (.goto 4, 3) := by decide +kernel
theorem dX12_happens_206 : decode cX12_happens 206 = .ok (.iconst 0, 1) := by decide +kernel
theorem dX12_happens_207 : decode cX12_happens 207 = .ok (.invokevirtual 245, 3) := by decide +kernel
theorem dX12_happens_210 : decode cX12_happens 210 = .ok (.istore 6, 2) := by decide +kernel
theorem dX12_happens_212 : decode cX12_happens 212 = .ok (.aload_n 0, 1) := by decide +kernel
theorem dX12_happens_213 : decode cX12_happens 213 = .ok (.getfield 7, 3) := by decide +kernel
theorem dX12_happens_216 : decode cX12_happens 216 = .ok (.iload_n 2, 1) := by decide +kernel
theorem dX12_happens_217 : decode cX12_happens 217 = .ok (.iaload, 1) := by decide +kernel
theorem dX12_happens_218 : decode cX12_happens 218 = .ok (.iconst 2, 1) := by decide +kernel
theorem dX12_happens_219 : decode cX12_happens 219 = .ok (.if_icmp .ne 23, 3) := by decide +kernel
theorem dX12_happens_222 : decode cX12_happens 222 = .ok (.aload_n 0, 1) := by decide +kernel
theorem dX12_happens_223 : decode cX12_happens 223 = .ok (.aload_n 0, 1) := by decide +kernel
theorem dX12_happens_224 : decode cX12_happens 224 = .ok (.getfield 7, 3) := by decide +kernel
theorem dX12_happens_227 : decode cX12_happens 227 = .ok (.iload_n 2, 1) := by decide +kernel
theorem dX12_happens_228 : decode cX12_happens 228 = .ok (.bipush 6, 2) := by decide +kernel
theorem dX12_happens_230 : decode cX12_happens 230 = .ok (.iadd, 1) := by decide +kernel
theorem dX12_happens_231 : decode cX12_happens 231 = .ok (.iaload, 1) := by decide +kernel
theorem dX12_happens_232 : decode cX12_happens 232 = .ok (.iload 5, 2) := by decide +kernel
theorem dX12_happens_234 : decode cX12_happens 234 = .ok (.iload 6, 2) := by decide +kernel
theorem dX12_happens_236 : decode cX12_happens 236 = .ok (.invokevirtual 230, 3) := by decide +kernel
theorem dX12_happens_239 : decode cX12_happens 239 = .ok (.goto 22, 3) := by decide +kernel
theorem dX12_happens_242 : decode cX12_happens 242 = .ok (.aload_n 0, 1) := by decide +kernel
theorem dX12_happens_243 : decode cX12_happens 243 = .ok (.getfield 46, 3) := by decide +kernel
theorem dX12_happens_246 : decode cX12_happens 246 = .ok (.aload_n 0, 1) := by decide +kernel
theorem dX12_happens_247 : decode cX12_happens 247 = .ok (.getfield 7, 3) := by decide +kernel
theorem dX12_happens_250 : decode cX12_happens 250 = .ok (.iload_n 2, 1) := by decide +kernel
theorem dX12_happens_251 : decode cX12_happens 251 = .ok (.bipush 6, 2) := by decide +kernel
theorem dX12_happens_253 : decode cX12_happens 253 = .ok (.iadd, 1) := by decide +kernel
theorem dX12_happens_254 : decode cX12_happens 254 = .ok (.iaload, 1) := by decide +kernel
theorem dX12_happens_255 : decode cX12_happens 255 = .ok (.dup2, 1) := by decide +kernel
theorem dX12_happens_256 : decode cX12_happens 256 = .ok (.iaload, 1) := by decide +kernel
theorem dX12_happens_257 : decode cX12_happens 257 = .ok (.iload 5, 2) := by decide +kernel
theorem dX12_happens_259 : decode cX12_happens 259 = .ok (.iadd, 1) := by decide +kernel
theorem dX12_happens_260 : decode cX12_happens 260 = .ok (.iastore, 1) := by decide +kernel
theorem dX12_happens_261 : decode cX12_happens 261 = .ok (.aload_n 0, 1) := by decide +kernel
theorem dX12_happens_262 : decode cX12_happens 262 = .ok (.getfield 49, 3) := by decide +kernel
theorem dX12_happens_265 : decode cX12_happens 265 = .ok (.iload_n 1, 1) := by decide +kernel
theorem dX12_happens_266 : decode cX12_happens 266 = .ok (.iload 5, 2) := by decide +kernel
theorem dX12_happens_268 : decode cX12_happens 268 = .ok (.iastore, 1) := by decide +kernel
theorem dX12_happens_269 : decode cX12_happens 269 = .ok (.return_, 1) := by decide +kernel
theorem dX12_stand_0 : decode cX12_stand 0 = .ok (.aload_n 0, 1) := by decide +kernel
theorem dX12_stand_1 : decode cX12_stand 1 = .ok (.iconst 0, 1) := by decide +kernel
theorem dX12_stand_2 : decode cX12_stand 2 = .ok (.putfield 212, 3) := by decide +kernel
theorem dX12_stand_5 : decode cX12_stand 5 = .ok (.iconst 0, 1) := by decide +kernel
theorem dX12_stand_6 : decode cX12_stand 6 = .ok (.istore_n 3, 1) := by decide +kernel
theorem dX12_stand_7 : decode cX12_stand 7 = .ok (.iload_n 3, 1) := by decide +kernel
theorem dX12_stand_8 : decode cX12_stand 8 = .ok (.bipush 40, 2) := by decide +kernel
theorem dX12_stand_10 : decode cX12_stand 10 = .ok (.if_icmp .ge 16, 3) := by decide +kernel
theorem dX12_stand_13 : decode cX12_stand 13 = .ok (.aload_n 0, 1) := by decide +kernel
theorem dX12_stand_14 : decode cX12_stand 14 = .ok (.getfield 40, 3) := by decide +kernel
theorem dX12_stand_17 : decode cX12_stand 17 = .ok (.iload_n 3, 1) := by decide +kernel
theorem dX12_stand_18 : decode cX12_stand 18 = .ok (.iconst 0, 1) := by decide +kernel
theorem dX12_stand_19 : decode cX12_stand 19 = .ok (.iastore, 1) := by decide +kernel
theorem dX12_stand_20 : decode cX12_stand 20 = .ok (.iinc 3 1, 3) := by decide +kernel
theorem dX12_stand_23 : decode cX12_stand 23 = .ok (.goto (-16), 3) := by decide +kernel
theorem dX12_stand_26 : decode cX12_stand 26 = .ok (.iconst 0, 1) := by decide +kernel
theorem dX12_stand_27 : decode cX12_stand 27 = .ok (.istore_n 3, 1) := by decide +kernel
theorem dX12_stand_28 : decode cX12_stand 28 = .ok (.iload_n 3, 1) := by decide +kernel
theorem dX12_stand_29 : decode cX12_stand 29 = .ok (.iconst 4, 1) := by decide +kernel
theorem dX12_stand_30 : decode cX12_stand 30 = .ok (.if_icmp .ge 23, 3) := by decide +kernel
theorem dX12_stand_33 : decode cX12_stand 33 = .ok (.aload_n 0, 1) := by decide +kernel
theorem dX12_stand_34 : decode cX12_stand 34 = .ok (.getfield 43, 3) := by decide +kernel
theorem dX12_stand_37 : decode cX12_stand 37 = .ok (.iload_n 3, 1) := by decide +kernel
theorem dX12_stand_38 : decode cX12_stand 38 = .ok (.iconst 0, 1) := by decide +kernel
theorem dX12_stand_39 : decode cX12_stand 39 = .ok (.iastore, 1) := by decide +kernel
theorem dX12_stand_40 : decode cX12_stand 40 = .ok (.aload_n 0, 1) := by decide +kernel
theorem dX12_stand_41 : decode cX12_stand 41 = .ok (.getfield 46, 3) := by decide +kernel
theorem dX12_stand_44 : decode cX12_stand 44 = .ok (.iload_n 3, 1) := by decide +kernel
theorem dX12_stand_45 : decode cX12_stand 45 = .ok (.iconst 0, 1) := by decide +kernel
theorem dX12_stand_46 : decode cX12_stand 46 = .ok (.iastore, 1) := by decide +kernel
theorem dX12_stand_47 : decode cX12_stand 47 = .ok (.iinc 3 1, 3) := by decide +kernel
theorem dX12_stand_50 : decode cX12_stand 50 = .ok (.goto (-22), 3) := by decide +kernel
theorem dX12_stand_53 : decode cX12_stand 53 = .ok (.iconst 0, 1) := by decide +kernel
theorem dX12_stand_54 : decode cX12_stand 54 = .ok (.istore_n 3, 1) := by decide +kernel
theorem dX12_stand_55 : decode cX12_stand 55 = .ok (.iconst 0, 1) := by decide +kernel
theorem dX12_stand_56 : decode cX12_stand 56 = .ok (.istore 4, 2) := by decide +kernel
theorem dX12_stand_58 : decode cX12_stand 58 = .ok (.iload 4, 2) := by decide +kernel
theorem dX12_stand_60 : decode cX12_stand 60 = .ok (.aload_n 0, 1) := by decide +kernel
theorem dX12_stand_61 : decode cX12_stand 61 = .ok (.getfield 7, 3) := by decide +kernel
theorem dX12_stand_64 : decode cX12_stand 64 = .ok (.iconst 5, 1) := by decide +kernel
theorem dX12_stand_65 : decode cX12_stand 65 = .ok (.iaload, 1) := by decide +kernel
theorem dX12_stand_66 : decode cX12_stand 66 = .ok (.if_icmp .ge 139, 3) := by decide +kernel
theorem dX12_stand_69 : decode cX12_stand 69 = .ok (.aload_n 0, 1) := by decide +kernel
theorem dX12_stand_70 : decode cX12_stand 70 = .ok (.getfield 49, 3) := by decide +kernel
theorem dX12_stand_73 : decode cX12_stand 73 = .ok (.iload 4, 2) := by decide +kernel
theorem dX12_stand_75 : decode cX12_stand 75 = .ok (.iconst 0, 1) := by decide +kernel
theorem dX12_stand_76 : decode cX12_stand 76 = .ok (.iastore, 1) := by decide +kernel
theorem dX12_stand_77 : decode cX12_stand 77 = .ok (.aload_n 0, 1) := by decide +kernel
theorem dX12_stand_78 : decode cX12_stand 78 = .ok (.getfield 55, 3) := by decide +kernel
theorem dX12_stand_81 : decode cX12_stand 81 = .ok (.iload 4, 2) := by decide +kernel
theorem dX12_stand_83 : decode cX12_stand 83 = .ok (.iconst 0, 1) := by decide +kernel
theorem dX12_stand_84 : decode cX12_stand 84 = .ok (.bastore, 1) := by decide +kernel
theorem dX12_stand_85 : decode cX12_stand 85 = .ok (.aload_n 0, 1) := by decide +kernel
theorem dX12_stand_86 : decode cX12_stand 86 = .ok (.iload 4, 2) := by decide +kernel
theorem dX12_stand_88 : decode cX12_stand 88 = .ok (.iload_n 2, 1) := by decide +kernel
theorem dX12_stand_89 : decode cX12_stand 89 = .ok (.invokevirtual 249, 3) := by decide +kernel
theorem dX12_stand_92 : decode cX12_stand 92 = .ok (.ifCond .eq 107, 3) := by decide +kernel
theorem dX12_stand_95 : decode cX12_stand 95 = .ok (.aload_n 0, 1) := by decide +kernel
theorem dX12_stand_96 : decode cX12_stand 96 = .ok (.getfield 7, 3) := by decide +kernel
theorem dX12_stand_99 : decode cX12_stand 99 = .ok (.bipush 50, 2) := by decide +kernel
theorem dX12_stand_101 : decode cX12_stand 101 = .ok (.bipush 10, 2) := by decide +kernel
theorem dX12_stand_103 : decode cX12_stand 103 = .ok (.iload 4, 2) := by decide +kernel
theorem dX12_stand_105 : decode cX12_stand 105 = .ok (.imul, 1) := by decide +kernel
theorem dX12_stand_106 : decode cX12_stand 106 = .ok (.iadd, 1) := by decide +kernel
theorem dX12_stand_107 : decode cX12_stand 107 = .ok (.iconst 2, 1) := by decide +kernel
theorem dX12_stand_108 : decode cX12_stand 108 = .ok (.iadd, 1) := by decide +kernel
theorem dX12_stand_109 : decode cX12_stand 109 = .ok (.iaload, 1) := by decide +kernel
theorem dX12_stand_110 : decode cX12_stand 110 = .ok (.iload_n 1, 1) := by decide +kernel
theorem dX12_stand_111 : decode cX12_stand 111 = .ok (.if_icmp .le 6, 3) := by decide +kernel
theorem dX12_stand_114 : decode cX12_stand 114 = .ok (.goto 85, 3) := by decide +kernel
theorem dX12_stand_117 : decode cX12_stand 117 = .ok (.iload_n 3, 1) := by decide +kernel
theorem dX12_stand_118 : decode cX12_stand 118 = .ok (.istore 5, 2) := by decide +kernel
theorem dX12_stand_120 : decode cX12_stand 120 = .ok (.iload 5, 2) := by decide +kernel
theorem dX12_stand_122 : decode cX12_stand 122 = .ok (.ifCond .le 65, 3) := by decide +kernel
theorem dX12_stand_125 : decode cX12_stand 125 = .ok (.aload_n 0, 1) := by decide +kernel
theorem dX12_stand_126 : decode cX12_stand 126 = .ok (.getfield 7, 3) := by decide +kernel
theorem dX12_stand_129 : decode cX12_stand 129 = .ok (.bipush 50, 2) := by decide +kernel
theorem dX12_stand_131 : decode cX12_stand 131 = .ok (.bipush 10, 2) := by decide +kernel
theorem dX12_stand_133 : decode cX12_stand 133 = .ok (.aload_n 0, 1) := by decide +kernel
theorem dX12_stand_134 : decode cX12_stand 134 = .ok (.getfield 52, 3) := by decide +kernel
theorem dX12_stand_137 : decode cX12_stand 137 = .ok (.iload 5, 2) := by decide +kernel
theorem dX12_stand_139 : decode cX12_stand 139 = .ok (.iconst 1, 1) := by decide +kernel
theorem dX12_stand_140 : decode cX12_stand 140 = .ok (.isub, 1) := by decide +kernel
theorem dX12_stand_141 : decode cX12_stand 141 = .ok (.iaload, 1) := by decide +kernel
theorem dX12_stand_142 : decode cX12_stand 142 = .ok (.imul, 1) := by decide +kernel
theorem dX12_stand_143 : decode cX12_stand 143 = .ok (.iadd, 1) := by decide +kernel
theorem dX12_stand_144 : decode cX12_stand 144 = .ok (.iconst 2, 1) := by decide +kernel
theorem dX12_stand_145 : decode cX12_stand 145 = .ok (.iadd, 1) := by decide +kernel
theorem dX12_stand_146 : decode cX12_stand 146 = .ok (.iaload, 1) := by decide +kernel
theorem dX12_stand_147 : decode cX12_stand 147 = .ok (.aload_n 0, 1) := by decide +kernel
theorem dX12_stand_148 : decode cX12_stand 148 = .ok (.getfield 7, 3) := by decide +kernel
theorem dX12_stand_151 : decode cX12_stand 151 = .ok (.bipush 50, 2) := by decide +kernel
theorem dX12_stand_153 : decode cX12_stand 153 = .ok (.bipush 10, 2) := by decide +kernel
theorem dX12_stand_155 : decode cX12_stand 155 = .ok (.iload 4, 2) := by decide +kernel
theorem dX12_stand_157 : decode cX12_stand 157 = .ok (.imul, 1) := by decide +kernel
theorem dX12_stand_158 : decode cX12_stand 158 = .ok (.iadd, 1) := by decide +kernel
theorem dX12_stand_159 : decode cX12_stand 159 = .ok (.iconst 2, 1) := by decide +kernel
theorem dX12_stand_160 : decode cX12_stand 160 = .ok (.iadd, 1) := by decide +kernel
theorem dX12_stand_161 : decode cX12_stand 161 = .ok (.iaload, 1) := by decide +kernel
theorem dX12_stand_162 : decode cX12_stand 162 = .ok (.if_icmp .le 25, 3) := by decide +kernel
theorem dX12_stand_165 : decode cX12_stand 165 = .ok (.aload_n 0, 1) := by decide +kernel
theorem dX12_stand_166 : decode cX12_stand 166 = .ok (.getfield 52, 3) := by decide +kernel
theorem dX12_stand_169 : decode cX12_stand 169 = .ok (.iload 5, 2) := by decide +kernel
theorem dX12_stand_171 : decode cX12_stand 171 = .ok (.aload_n 0, 1) := by decide +kernel
theorem dX12_stand_172 : decode cX12_stand 172 = .ok (.getfield 52, 3) := by decide +kernel
theorem dX12_stand_175 : decode cX12_stand 175 = .ok (.iload 5, 2) := by decide +kernel
theorem dX12_stand_177 : decode cX12_stand 177 = .ok (.iconst 1, 1) := by decide +kernel
theorem dX12_stand_178 : decode cX12_stand 178 = .ok (.isub, 1) := by decide +kernel
theorem dX12_stand_179 : decode cX12_stand 179 = .ok (.iaload, 1) := by decide +kernel
theorem dX12_stand_180 : decode cX12_stand 180 = .ok (.iastore, 1) := by decide +kernel
theorem dX12_stand_181 : decode cX12_stand 181 = .ok (.iinc 5 (-1), 3) := by decide +kernel
theorem dX12_stand_184 : decode cX12_stand 184 = .ok (.goto (-64), 3) := by decide +kernel
theorem dX12_stand_187 : decode cX12_stand 187 = .ok (.aload_n 0, 1) := by decide +kernel
theorem dX12_stand_188 : decode cX12_stand 188 = .ok (.getfield 52, 3) := by decide +kernel
theorem dX12_stand_191 : decode cX12_stand 191 = .ok (.iload 5, 2) := by decide +kernel
theorem dX12_stand_193 : decode cX12_stand 193 = .ok (.iload 4, 2) := by decide +kernel
theorem dX12_stand_195 : decode cX12_stand 195 = .ok (.iastore, 1) := by decide +kernel
theorem dX12_stand_196 : decode cX12_stand 196 = .ok (.iinc 3 1, 3) := by decide +kernel
theorem dX12_stand_199 : decode cX12_stand 199 = .ok (.iinc 4 1, 3) := by decide +kernel
theorem dX12_stand_202 : decode cX12_stand 202 = .ok (.goto (-144), 3) := by decide +kernel
theorem dX12_stand_205 : decode cX12_stand 205 = .ok (.iconst 0, 1) := by decide +kernel
theorem dX12_stand_206 : decode cX12_stand 206 = .ok (.istore 4, 2) := by decide +kernel
theorem dX12_stand_208 : decode cX12_stand 208 = .ok (.iload 4, 2) := by decide +kernel
theorem dX12_stand_210 : decode cX12_stand 210 = .ok (.iload_n 3, 1) := by decide +kernel
theorem dX12_stand_211 : decode cX12_stand 211 = .ok (.if_icmp .ge 20, 3) := by decide +kernel
theorem dX12_stand_214 : decode cX12_stand 214 = .ok (.aload_n 0, 1) := by decide +kernel
theorem dX12_stand_215 : decode cX12_stand 215 = .ok (.aload_n 0, 1) := by decide +kernel
theorem dX12_stand_216 : decode cX12_stand 216 = .ok (.getfield 52, 3) := by decide +kernel
theorem dX12_stand_219 : decode cX12_stand 219 = .ok (.iload 4, 2) := by decide +kernel
theorem dX12_stand_221 : decode cX12_stand 221 = .ok (.iaload, 1) := by decide +kernel
theorem dX12_stand_222 : decode cX12_stand 222 = .ok (.invokevirtual 252, 3) := by decide +kernel
theorem dX12_stand_225 : decode cX12_stand 225 = .ok (.iinc 4 1, 3) := by decide +kernel
theorem dX12_stand_228 : decode cX12_stand 228 = .ok (.goto (-20), 3) := by decide +kernel
theorem dX12_stand_231 : decode cX12_stand 231 = .ok (.return_, 1) := by decide +kernel
theorem dX12_stands_0 : decode cX12_stands 0 = .ok (.aload_n 0, 1) := by decide +kernel
theorem dX12_stands_1 : decode cX12_stands 1 = .ok (.iload_n 1, 1) := by decide +kernel
theorem dX12_stands_2 : decode cX12_stands 2 = .ok (.invokevirtual 87, 3) := by decide +kernel
theorem dX12_stands_5 : decode cX12_stands 5 = .ok (.ifCond .eq 27, 3) := by decide +kernel
theorem dX12_stands_8 : decode cX12_stands 8 = .ok (.iload_n 2, 1) := by decide +kernel
theorem dX12_stands_9 : decode cX12_stands 9 = .ok (.invokestatic 194, 3) := by decide +kernel
theorem dX12_stands_12 : decode cX12_stands 12 = .ok (.ifCond .eq 20, 3) := by decide +kernel
theorem dX12_stands_15 : decode cX12_stands 15 = .ok (.iload_n 3, 1) := by decide +kernel
theorem dX12_stands_16 : decode cX12_stands 16 = .ok (.invokestatic 194, 3) := by decide +kernel
theorem dX12_stands_19 : decode cX12_stands 19 = .ok (.ifCond .eq 13, 3) := by decide +kernel
theorem dX12_stands_22 : decode cX12_stands 22 = .ok (.iload 4, 2) := by decide +kernel
theorem dX12_stands_24 : decode cX12_stands 24 = .ok (.iconst 0, 1) := by decide +kernel
theorem dX12_stands_25 : decode cX12_stands 25 = .ok (.iconst 4, 1) := by decide +kernel
theorem dX12_stands_26 : decode cX12_stands 26 = .ok (.invokestatic 81, 3) := by decide +kernel
theorem dX12_stands_29 : decode cX12_stands 29 = .ok (.ifCond .ne 6, 3) := by decide +kernel
theorem dX12_stands_32 : decode cX12_stands 32 = .ok (.ldc 85, 2) := by decide +kernel
theorem dX12_stands_34 : decode cX12_stands 34 = .ok (.ireturn, 1) := by decide +kernel
theorem dX12_stands_35 : decode cX12_stands 35 = .ok (.aload_n 0, 1) := by decide +kernel
theorem dX12_stands_36 : decode cX12_stands 36 = .ok (.iload_n 2, 1) := by decide +kernel
theorem dX12_stands_37 : decode cX12_stands 37 = .ok (.iload_n 3, 1) := by decide +kernel
theorem dX12_stands_38 : decode cX12_stands 38 = .ok (.invokevirtual 255, 3) := by decide +kernel
theorem dX12_stands_41 : decode cX12_stands 41 = .ok (.iload 4, 2) := by decide +kernel
theorem dX12_stands_43 : decode cX12_stands 43 = .ok (.iconst 1, 1) := by decide +kernel
theorem dX12_stands_44 : decode cX12_stands 44 = .ok (.if_icmp .ne 18, 3) := by decide +kernel
theorem dX12_stands_47 : decode cX12_stands 47 = .ok (.aload_n 0, 1) := by decide +kernel
theorem dX12_stands_48 : decode cX12_stands 48 = .ok (.getfield 40, 3) := by decide +kernel
theorem dX12_stands_51 : decode cX12_stands 51 = .ok (.iconst 4, 1) := by decide +kernel
theorem dX12_stands_52 : decode cX12_stands 52 = .ok (.iload_n 1, 1) := by decide +kernel
theorem dX12_stands_53 : decode cX12_stands 53 = .ok (.imul, 1) := by decide +kernel
theorem dX12_stands_54 : decode cX12_stands 54 = .ok (.iload_n 2, 1) := by decide +kernel
theorem dX12_stands_55 : decode cX12_stands 55 = .ok (.sipush 360, 3) := by decide +kernel
theorem dX12_stands_58 : decode cX12_stands 58 = .ok (.idiv, 1) := by decide +kernel
theorem dX12_stands_59 : decode cX12_stands 59 = .ok (.iadd, 1) := by decide +kernel
theorem dX12_stands_60 : decode cX12_stands 60 = .ok (.iaload, 1) := by decide +kernel
theorem dX12_stands_61 : decode cX12_stands 61 = .ok (.ireturn, 1) := by decide +kernel
theorem dX12_stands_62 : decode cX12_stands 62 = .ok (.iload 4, 2) := by decide +kernel
theorem dX12_stands_64 : decode cX12_stands 64 = .ok (.iconst 2, 1) := by decide +kernel
theorem dX12_stands_65 : decode cX12_stands 65 = .ok (.if_icmp .ne 10, 3) := by decide +kernel
theorem dX12_stands_68 : decode cX12_stands 68 = .ok (.aload_n 0, 1) := by decide +kernel
theorem dX12_stands_69 : decode cX12_stands 69 = .ok (.iload_n 1, 1) := by decide +kernel
theorem dX12_stands_70 : decode cX12_stands 70 = .ok (.iload_n 2, 1) := by decide +kernel
theorem dX12_stands_71 : decode cX12_stands 71 = .ok (.invokevirtual 227, 3) := by decide +kernel
theorem dX12_stands_74 : decode cX12_stands 74 = .ok (.ireturn, 1) := by decide +kernel
theorem dX12_stands_75 : decode cX12_stands 75 = .ok (.iconst 0, 1) := by decide +kernel
theorem dX12_stands_76 : decode cX12_stands 76 = .ok (.istore 5, 2) := by decide +kernel
theorem dX12_stands_78 : decode cX12_stands 78 = .ok (.iconst 0, 1) := by decide +kernel
theorem dX12_stands_79 : decode cX12_stands 79 = .ok (.istore 6, 2) := by decide +kernel
theorem dX12_stands_81 : decode cX12_stands 81 = .ok (.iload 6, 2) := by decide +kernel
theorem dX12_stands_83 : decode cX12_stands 83 = .ok (.aload_n 0, 1) := by decide +kernel
theorem dX12_stands_84 : decode cX12_stands 84 = .ok (.getfield 212, 3) := by decide +kernel
theorem dX12_stands_87 : decode cX12_stands 87 = .ok (.if_icmp .ge 107, 3) := by decide +kernel
theorem dX12_stands_90 : decode cX12_stands 90 = .ok (.iload 4, 2) := by decide +kernel
theorem dX12_stands_92 : decode cX12_stands 92 = .ok (.iconst 4, 1) := by decide +kernel
theorem dX12_stands_93 : decode cX12_stands 93 = .ok (.if_icmp .ne 22, 3) := by decide +kernel
theorem dX12_stands_96 : decode cX12_stands 96 = .ok (.aload_n 0, 1) := by decide +kernel
theorem dX12_stands_97 : decode cX12_stands 97 = .ok (.getfield 37, 3) := by decide +kernel
theorem dX12_stands_100 : decode cX12_stands 100 = .ok (.iload 6, 2) := by decide +kernel
theorem dX12_stands_102 : decode cX12_stands 102 = .ok (.iaload, 1) := by decide +kernel
theorem dX12_stands_103 : decode cX12_stands 103 = .ok (.iload_n 2, 1) := by decide +kernel
theorem dX12_stands_104 : decode cX12_stands 104 = .ok (.if_icmp .gt 7, 3) := by decide +kernel
theorem dX12_stands_107 : decode cX12_stands 107 = .ok (.iconst 1, 1) := by decide +kernel
theorem dX12_stands_108 : decode cX12_stands 108 = .ok (.goto 46, 3) := by decide +kernel
theorem dX12_stands_111 : decode cX12_stands 111 = .ok (.iconst 0, 1) := by decide +kernel
theorem dX12_stands_112 : decode cX12_stands 112 = .ok (.goto 42, 3) := by decide +kernel
theorem dX12_stands_115 : decode cX12_stands 115 = .ok (.aload_n 0, 1) := by decide +kernel
theorem dX12_stands_116 : decode cX12_stands 116 = .ok (.getfield 37, 3) := by decide +kernel
theorem dX12_stands_119 : decode cX12_stands 119 = .ok (.iload 6, 2) := by decide +kernel
theorem dX12_stands_121 : decode cX12_stands 121 = .ok (.iaload, 1) := by decide +kernel
theorem dX12_stands_122 : decode cX12_stands 122 = .ok (.iload_n 2, 1) := by decide +kernel
theorem dX12_stands_123 : decode cX12_stands 123 = .ok (.if_icmp .le 30, 3) := by decide +kernel
theorem dX12_stands_126 : decode cX12_stands 126 = .ok (.iload 4, 2) := by decide +kernel
theorem dX12_stands_128 : decode cX12_stands 128 = .ok (.ifCond .eq 21, 3) := by decide +kernel
theorem dX12_stands_131 : decode cX12_stands 131 = .ok (.aload_n 0, 1) := by decide +kernel
theorem dX12_stands_132 : decode cX12_stands 132 = .ok (.getfield 37, 3) := by decide +kernel
theorem dX12_stands_135 : decode cX12_stands 135 = .ok (.iload 6, 2) := by decide +kernel
theorem dX12_stands_137 : decode cX12_stands 137 = .ok (.iaload, 1) := by decide +kernel
theorem dX12_stands_138 : decode cX12_stands 138 = .ok (.iload_n 2, 1) := by decide +kernel
theorem dX12_stands_139 : decode cX12_stands 139 = .ok (.aload_n 0, 1) := by decide +kernel
theorem dX12_stands_140 : decode cX12_stands 140 = .ok (.getfield 7, 3) := by decide +kernel
theorem dX12_stands_143 : decode cX12_stands 143 = .ok (.iconst 3, 1) := by decide +kernel
theorem dX12_stands_144 : decode cX12_stands 144 = .ok (.iaload, 1) := by decide +kernel
theorem dX12_stands_145 : decode cX12_stands 145 = .ok (.iadd, 1) := by decide +kernel
theorem dX12_stands_146 : decode cX12_stands 146 = .ok (.if_icmp .gt 7, 3) := by decide +kernel
theorem dX12_stands_149 : decode cX12_stands 149 = .ok (.iconst 1, 1) := by decide +kernel
theorem dX12_stands_150 : decode cX12_stands 150 = .ok (.goto 4, 3) := by decide +kernel
theorem dX12_stands_153 : decode cX12_stands 153 = .ok (.iconst 0, 1) := by decide +kernel
theorem dX12_stands_154 : decode cX12_stands 154 = .ok (.istore 7, 2) := by decide +kernel
theorem dX12_stands_156 : decode cX12_stands 156 = .ok (.iload 5, 2) := by decide +kernel
theorem dX12_stands_158 : decode cX12_stands 158 = .ok (.aload_n 0, 1) := by decide +kernel
theorem dX12_stands_159 : decode cX12_stands 159 = .ok (.getfield 31, 3) := by decide +kernel
theorem dX12_stands_162 : decode cX12_stands 162 = .ok (.iload 6, 2) := by decide +kernel
theorem dX12_stands_164 : decode cX12_stands 164 = .ok (.iaload, 1) := by decide +kernel
theorem dX12_stands_165 : decode cX12_stands 165 = .ok (.iload_n 1, 1) := by decide +kernel
theorem dX12_stands_166 : decode cX12_stands 166 = .ok (.if_icmp .ne 18, 3) := by decide +kernel
theorem dX12_stands_169 : decode cX12_stands 169 = .ok (.iload 7, 2) := by decide +kernel
theorem dX12_stands_171 : decode cX12_stands 171 = .ok (.ifCond .eq 13, 3) := by decide +kernel
theorem dX12_stands_174 : decode cX12_stands 174 = .ok (.aload_n 0, 1) := by decide +kernel
theorem dX12_stands_175 : decode cX12_stands 175 = .ok (.getfield 34, 3) := by decide +kernel
theorem dX12_stands_178 : decode cX12_stands 178 = .ok (.iload 6, 2) := by decide +kernel
theorem dX12_stands_180 : decode cX12_stands 180 = .ok (.iaload, 1) := by decide +kernel
theorem dX12_stands_181 : decode cX12_stands 181 = .ok (.goto 4, 3) := by decide +kernel
theorem dX12_stands_184 : decode cX12_stands 184 = .ok (.iconst 0, 1) := by decide +kernel
theorem dX12_stands_185 : decode cX12_stands 185 = .ok (.iadd, 1) := by decide +kernel
theorem dX12_stands_186 : decode cX12_stands 186 = .ok (.istore 5, 2) := by decide +kernel
theorem dX12_stands_188 : decode cX12_stands 188 = .ok (.iinc 6 1, 3) := by decide +kernel
theorem dX12_stands_191 : decode cX12_stands 191 = .ok (.goto (-110), 3) := by decide +kernel
theorem dX12_stands_194 : decode cX12_stands 194 = .ok (.iload 5, 2) := by decide +kernel
theorem dX12_stands_196 : decode cX12_stands 196 = .ok (.ireturn, 1) := by decide +kernel
theorem dX12_brought_0 : decode cX12_brought 0 = .ok (.aload_n 0, 1) := by decide +kernel
theorem dX12_brought_1 : decode cX12_brought 1 = .ok (.iload_n 1, 1) := by decide +kernel
theorem dX12_brought_2 : decode cX12_brought 2 = .ok (.invokevirtual 108, 3) := by decide +kernel
theorem dX12_brought_5 : decode cX12_brought 5 = .ok (.ifCond .eq 17, 3) := by decide +kernel
theorem dX12_brought_8 : decode cX12_brought 8 = .ok (.iload_n 2, 1) := by decide +kernel
theorem dX12_brought_9 : decode cX12_brought 9 = .ok (.invokestatic 194, 3) := by decide +kernel
theorem dX12_brought_12 : decode cX12_brought 12 = .ok (.ifCond .eq 10, 3) := by decide +kernel
theorem dX12_brought_15 : decode cX12_brought 15 = .ok (.iload_n 3, 1) := by decide +kernel
theorem dX12_brought_16 : decode cX12_brought 16 = .ok (.invokestatic 194, 3) := by decide +kernel
theorem dX12_brought_19 : decode cX12_brought 19 = .ok (.ifCond .ne 6, 3) := by decide +kernel
theorem dX12_brought_22 : decode cX12_brought 22 = .ok (.ldc 85, 2) := by decide +kernel
theorem dX12_brought_24 : decode cX12_brought 24 = .ok (.ireturn, 1) := by decide +kernel
theorem dX12_brought_25 : decode cX12_brought 25 = .ok (.aload_n 0, 1) := by decide +kernel
theorem dX12_brought_26 : decode cX12_brought 26 = .ok (.iload_n 1, 1) := by decide +kernel
theorem dX12_brought_27 : decode cX12_brought 27 = .ok (.iload_n 3, 1) := by decide +kernel
theorem dX12_brought_28 : decode cX12_brought 28 = .ok (.invokevirtual 249, 3) := by decide +kernel
theorem dX12_brought_31 : decode cX12_brought 31 = .ok (.ifCond .eq 21, 3) := by decide +kernel
theorem dX12_brought_34 : decode cX12_brought 34 = .ok (.aload_n 0, 1) := by decide +kernel
theorem dX12_brought_35 : decode cX12_brought 35 = .ok (.getfield 7, 3) := by decide +kernel
theorem dX12_brought_38 : decode cX12_brought 38 = .ok (.bipush 50, 2) := by decide +kernel
theorem dX12_brought_40 : decode cX12_brought 40 = .ok (.bipush 10, 2) := by decide +kernel
theorem dX12_brought_42 : decode cX12_brought 42 = .ok (.iload_n 1, 1) := by decide +kernel
theorem dX12_brought_43 : decode cX12_brought 43 = .ok (.imul, 1) := by decide +kernel
theorem dX12_brought_44 : decode cX12_brought 44 = .ok (.iadd, 1) := by decide +kernel
theorem dX12_brought_45 : decode cX12_brought 45 = .ok (.iconst 2, 1) := by decide +kernel
theorem dX12_brought_46 : decode cX12_brought 46 = .ok (.iadd, 1) := by decide +kernel
theorem dX12_brought_47 : decode cX12_brought 47 = .ok (.iaload, 1) := by decide +kernel
theorem dX12_brought_48 : decode cX12_brought 48 = .ok (.iload_n 2, 1) := by decide +kernel
theorem dX12_brought_49 : decode cX12_brought 49 = .ok (.if_icmp .le 6, 3) := by decide +kernel
theorem dX12_brought_52 : decode cX12_brought 52 = .ok (.ldc 111, 2) := by decide +kernel
theorem dX12_brought_54 : decode cX12_brought 54 = .ok (.ireturn, 1) := by decide +kernel
theorem dX12_brought_55 : decode cX12_brought 55 = .ok (.aload_n 0, 1) := by decide +kernel
theorem dX12_brought_56 : decode cX12_brought 56 = .ok (.iload_n 2, 1) := by decide +kernel
theorem dX12_brought_57 : decode cX12_brought 57 = .ok (.iload_n 3, 1) := by decide +kernel
theorem dX12_brought_58 : decode cX12_brought 58 = .ok (.invokevirtual 255, 3) := by decide +kernel
theorem dX12_brought_61 : decode cX12_brought 61 = .ok (.aload_n 0, 1) := by decide +kernel
theorem dX12_brought_62 : decode cX12_brought 62 = .ok (.getfield 49, 3) := by decide +kernel
theorem dX12_brought_65 : decode cX12_brought 65 = .ok (.iload_n 1, 1) := by decide +kernel
theorem dX12_brought_66 : decode cX12_brought 66 = .ok (.iaload, 1) := by decide +kernel
theorem dX12_brought_67 : decode cX12_brought 67 = .ok (.ireturn, 1) := by decide +kernel
theorem dX12_owes_0 : decode cX12_owes 0 = .ok (.iload_n 1, 1) := by decide +kernel
theorem dX12_owes_1 : decode cX12_owes 1 = .ok (.iconst 1, 1) := by decide +kernel
theorem dX12_owes_2 : decode cX12_owes 2 = .ok (.iconst 3, 1) := by decide +kernel
theorem dX12_owes_3 : decode cX12_owes 3 = .ok (.invokestatic 81, 3) := by decide +kernel
theorem dX12_owes_6 : decode cX12_owes 6 = .ok (.ifCond .eq 17, 3) := by decide +kernel
theorem dX12_owes_9 : decode cX12_owes 9 = .ok (.iload_n 2, 1) := by decide +kernel
theorem dX12_owes_10 : decode cX12_owes 10 = .ok (.invokestatic 194, 3) := by decide +kernel
theorem dX12_owes_13 : decode cX12_owes 13 = .ok (.ifCond .eq 10, 3) := by decide +kernel
theorem dX12_owes_16 : decode cX12_owes 16 = .ok (.iload_n 3, 1) := by decide +kernel
theorem dX12_owes_17 : decode cX12_owes 17 = .ok (.invokestatic 194, 3) := by decide +kernel
theorem dX12_owes_20 : decode cX12_owes 20 = .ok (.ifCond .ne 6, 3) := by decide +kernel
theorem dX12_owes_23 : decode cX12_owes 23 = .ok (.ldc 85, 2) := by decide +kernel
theorem dX12_owes_25 : decode cX12_owes 25 = .ok (.ireturn, 1) := by decide +kernel
theorem dX12_owes_26 : decode cX12_owes 26 = .ok (.aload_n 0, 1) := by decide +kernel
theorem dX12_owes_27 : decode cX12_owes 27 = .ok (.iload_n 2, 1) := by decide +kernel
theorem dX12_owes_28 : decode cX12_owes 28 = .ok (.iload_n 3, 1) := by decide +kernel
theorem dX12_owes_29 : decode cX12_owes 29 = .ok (.invokevirtual 255, 3) := by decide +kernel
theorem dX12_owes_32 : decode cX12_owes 32 = .ok (.aload_n 0, 1) := by decide +kernel
theorem dX12_owes_33 : decode cX12_owes 33 = .ok (.getfield 43, 3) := by decide +kernel
theorem dX12_owes_36 : decode cX12_owes 36 = .ok (.iload_n 1, 1) := by decide +kernel
theorem dX12_owes_37 : decode cX12_owes 37 = .ok (.iaload, 1) := by decide +kernel
theorem dX12_owes_38 : decode cX12_owes 38 = .ok (.i2l, 1) := by decide +kernel
theorem dX12_owes_39 : decode cX12_owes 39 = .ok (.aload_n 0, 1) := by decide +kernel
theorem dX12_owes_40 : decode cX12_owes 40 = .ok (.getfield 7, 3) := by decide +kernel
theorem dX12_owes_43 : decode cX12_owes 43 = .ok (.bipush 10, 2) := by decide +kernel
theorem dX12_owes_45 : decode cX12_owes 45 = .ok (.iconst 2, 1) := by decide +kernel
theorem dX12_owes_46 : decode cX12_owes 46 = .ok (.iload_n 1, 1) := by decide +kernel
theorem dX12_owes_47 : decode cX12_owes 47 = .ok (.imul, 1) := by decide +kernel
theorem dX12_owes_48 : decode cX12_owes 48 = .ok (.iadd, 1) := by decide +kernel
theorem dX12_owes_49 : decode cX12_owes 49 = .ok (.iconst 2, 1) := by decide +kernel
theorem dX12_owes_50 : decode cX12_owes 50 = .ok (.isub, 1) := by decide +kernel
theorem dX12_owes_51 : decode cX12_owes 51 = .ok (.iaload, 1) := by decide +kernel
theorem dX12_owes_52 : decode cX12_owes 52 = .ok (.i2l, 1) := by decide +kernel
theorem dX12_owes_53 : decode cX12_owes 53 = .ok (.lmul, 1) := by decide +kernel
theorem dX12_owes_54 : decode cX12_owes 54 = .ok (.ldc2_w 258, 3) := by decide +kernel
theorem dX12_owes_57 : decode cX12_owes 57 = .ok (.ldiv, 1) := by decide +kernel
theorem dX12_owes_58 : decode cX12_owes 58 = .ok (.lstore 4, 2) := by decide +kernel
theorem dX12_owes_60 : decode cX12_owes 60 = .ok (.lload 4, 2) := by decide +kernel
theorem dX12_owes_62 : decode cX12_owes 62 = .ok (.aload_n 0, 1) := by decide +kernel
theorem dX12_owes_63 : decode cX12_owes 63 = .ok (.getfield 46, 3) := by decide +kernel
theorem dX12_owes_66 : decode cX12_owes 66 = .ok (.iload_n 1, 1) := by decide +kernel
theorem dX12_owes_67 : decode cX12_owes 67 = .ok (.iaload, 1) := by decide +kernel
theorem dX12_owes_68 : decode cX12_owes 68 = .ok (.i2l, 1) := by decide +kernel
theorem dX12_owes_69 : decode cX12_owes 69 = .ok (.aload_n 0, 1) := by decide +kernel
theorem dX12_owes_70 : decode cX12_owes 70 = .ok (.getfield 7, 3) := by decide +kernel
theorem dX12_owes_73 : decode cX12_owes 73 = .ok (.bipush 10, 2) := by decide +kernel
theorem dX12_owes_75 : decode cX12_owes 75 = .ok (.iconst 2, 1) := by decide +kernel
theorem dX12_owes_76 : decode cX12_owes 76 = .ok (.iload_n 1, 1) := by decide +kernel
theorem dX12_owes_77 : decode cX12_owes 77 = .ok (.imul, 1) := by decide +kernel
theorem dX12_owes_78 : decode cX12_owes 78 = .ok (.iadd, 1) := by decide +kernel
theorem dX12_owes_79 : decode cX12_owes 79 = .ok (.iconst 1, 1) := by decide +kernel
theorem dX12_owes_80 : decode cX12_owes 80 = .ok (.isub, 1) := by decide +kernel
theorem dX12_owes_81 : decode cX12_owes 81 = .ok (.iaload, 1) := by decide +kernel
theorem dX12_owes_82 : decode cX12_owes 82 = .ok (.i2l, 1) := by decide +kernel
theorem dX12_owes_83 : decode cX12_owes 83 = .ok (.lmul, 1) := by decide +kernel
theorem dX12_owes_84 : decode cX12_owes 84 = .ok (.ldc2_w 258, 3) := by decide +kernel
theorem dX12_owes_87 : decode cX12_owes 87 = .ok (.ldiv, 1) := by decide +kernel
theorem dX12_owes_88 : decode cX12_owes 88 = .ok (.lsub, 1) := by decide +kernel
theorem dX12_owes_89 : decode cX12_owes 89 = .ok (.l2i, 1) := by decide +kernel
theorem dX12_owes_90 : decode cX12_owes 90 = .ok (.ireturn, 1) := by decide +kernel
theorem dX12_rate_0 : decode cX12_rate 0 = .ok (.iload_n 1, 1) := by decide +kernel
theorem dX12_rate_1 : decode cX12_rate 1 = .ok (.iconst 1, 1) := by decide +kernel
theorem dX12_rate_2 : decode cX12_rate 2 = .ok (.iconst 3, 1) := by decide +kernel
theorem dX12_rate_3 : decode cX12_rate 3 = .ok (.invokestatic 81, 3) := by decide +kernel
theorem dX12_rate_6 : decode cX12_rate 6 = .ok (.ifCond .eq 23, 3) := by decide +kernel
theorem dX12_rate_9 : decode cX12_rate 9 = .ok (.iload_n 2, 1) := by decide +kernel
theorem dX12_rate_10 : decode cX12_rate 10 = .ok (.iconst 0, 1) := by decide +kernel
theorem dX12_rate_11 : decode cX12_rate 11 = .ok (.iconst 1, 1) := by decide +kernel
theorem dX12_rate_12 : decode cX12_rate 12 = .ok (.invokestatic 81, 3) := by decide +kernel
theorem dX12_rate_15 : decode cX12_rate 15 = .ok (.ifCond .eq 14, 3) := by decide +kernel
theorem dX12_rate_18 : decode cX12_rate 18 = .ok (.iload_n 3, 1) := by decide +kernel
theorem dX12_rate_19 : decode cX12_rate 19 = .ok (.iconst 0, 1) := by decide +kernel
theorem dX12_rate_20 : decode cX12_rate 20 = .ok (.sipush 999, 3) := by decide +kernel
theorem dX12_rate_23 : decode cX12_rate 23 = .ok (.invokestatic 81, 3) := by decide +kernel
theorem dX12_rate_26 : decode cX12_rate 26 = .ok (.ifCond .ne 6, 3) := by decide +kernel
theorem dX12_rate_29 : decode cX12_rate 29 = .ok (.ldc 85, 2) := by decide +kernel
theorem dX12_rate_31 : decode cX12_rate 31 = .ok (.ireturn, 1) := by decide +kernel
theorem dX12_rate_32 : decode cX12_rate 32 = .ok (.bipush 10, 2) := by decide +kernel
theorem dX12_rate_34 : decode cX12_rate 34 = .ok (.iconst 2, 1) := by decide +kernel
theorem dX12_rate_35 : decode cX12_rate 35 = .ok (.iload_n 1, 1) := by decide +kernel
theorem dX12_rate_36 : decode cX12_rate 36 = .ok (.imul, 1) := by decide +kernel
theorem dX12_rate_37 : decode cX12_rate 37 = .ok (.iadd, 1) := by decide +kernel
theorem dX12_rate_38 : decode cX12_rate 38 = .ok (.iconst 2, 1) := by decide +kernel
theorem dX12_rate_39 : decode cX12_rate 39 = .ok (.isub, 1) := by decide +kernel
theorem dX12_rate_40 : decode cX12_rate 40 = .ok (.iload_n 2, 1) := by decide +kernel
theorem dX12_rate_41 : decode cX12_rate 41 = .ok (.iadd, 1) := by decide +kernel
theorem dX12_rate_42 : decode cX12_rate 42 = .ok (.istore 4, 2) := by decide +kernel
theorem dX12_rate_44 : decode cX12_rate 44 = .ok (.aload_n 0, 1) := by decide +kernel
theorem dX12_rate_45 : decode cX12_rate 45 = .ok (.getfield 7, 3) := by decide +kernel
theorem dX12_rate_48 : decode cX12_rate 48 = .ok (.iload 4, 2) := by decide +kernel
theorem dX12_rate_50 : decode cX12_rate 50 = .ok (.iaload, 1) := by decide +kernel
theorem dX12_rate_51 : decode cX12_rate 51 = .ok (.istore 5, 2) := by decide +kernel
theorem dX12_rate_53 : decode cX12_rate 53 = .ok (.aload_n 0, 1) := by decide +kernel
theorem dX12_rate_54 : decode cX12_rate 54 = .ok (.getfield 7, 3) := by decide +kernel
theorem dX12_rate_57 : decode cX12_rate 57 = .ok (.iload 4, 2) := by decide +kernel
theorem dX12_rate_59 : decode cX12_rate 59 = .ok (.iload_n 3, 1) := by decide +kernel
theorem dX12_rate_60 : decode cX12_rate 60 = .ok (.iastore, 1) := by decide +kernel
theorem dX12_rate_61 : decode cX12_rate 61 = .ok (.iload 5, 2) := by decide +kernel
theorem dX12_rate_63 : decode cX12_rate 63 = .ok (.ireturn, 1) := by decide +kernel
theorem dX12_flight_0 : decode cX12_flight 0 = .ok (.iload_n 1, 1) := by decide +kernel
theorem dX12_flight_1 : decode cX12_flight 1 = .ok (.aload_n 0, 1) := by decide +kernel
theorem dX12_flight_2 : decode cX12_flight 2 = .ok (.getfield 7, 3) := by decide +kernel
theorem dX12_flight_5 : decode cX12_flight 5 = .ok (.iconst 0, 1) := by decide +kernel
theorem dX12_flight_6 : decode cX12_flight 6 = .ok (.iaload, 1) := by decide +kernel
theorem dX12_flight_7 : decode cX12_flight 7 = .ok (.iconst 1, 1) := by decide +kernel
theorem dX12_flight_8 : decode cX12_flight 8 = .ok (.iadd, 1) := by decide +kernel
theorem dX12_flight_9 : decode cX12_flight 9 = .ok (.sipush 1200, 3) := by decide +kernel
theorem dX12_flight_12 : decode cX12_flight 12 = .ok (.invokestatic 81, 3) := by decide +kernel
theorem dX12_flight_15 : decode cX12_flight 15 = .ok (.ifCond .eq 34, 3) := by decide +kernel
theorem dX12_flight_18 : decode cX12_flight 18 = .ok (.iload_n 2, 1) := by decide +kernel
theorem dX12_flight_19 : decode cX12_flight 19 = .ok (.iconst 1, 1) := by decide +kernel
theorem dX12_flight_20 : decode cX12_flight 20 = .ok (.sipush 9999, 3) := by decide +kernel
theorem dX12_flight_23 : decode cX12_flight 23 = .ok (.invokestatic 81, 3) := by decide +kernel
theorem dX12_flight_26 : decode cX12_flight 26 = .ok (.ifCond .eq 23, 3) := by decide +kernel
theorem dX12_flight_29 : decode cX12_flight 29 = .ok (.iload_n 3, 1) := by decide +kernel
theorem dX12_flight_30 : decode cX12_flight 30 = .ok (.iconst 0, 1) := by decide +kernel
theorem dX12_flight_31 : decode cX12_flight 31 = .ok (.iconst 3, 1) := by decide +kernel
theorem dX12_flight_32 : decode cX12_flight 32 = .ok (.invokestatic 81, 3) := by decide +kernel
theorem dX12_flight_35 : decode cX12_flight 35 = .ok (.ifCond .eq 14, 3) := by decide +kernel
theorem dX12_flight_38 : decode cX12_flight 38 = .ok (.iload 4, 2) := by decide +kernel
theorem dX12_flight_40 : decode cX12_flight 40 = .ok (.iconst 0, 1) := by decide +kernel
theorem dX12_flight_41 : decode cX12_flight 41 = .ok (.bipush 9, 2) := by decide +kernel
theorem dX12_flight_43 : decode cX12_flight 43 = .ok (.invokestatic 81, 3) := by decide +kernel
theorem dX12_flight_46 : decode cX12_flight 46 = .ok (.ifCond .ne 6, 3) := by decide +kernel
theorem dX12_flight_49 : decode cX12_flight 49 = .ok (.ldc 85, 2) := by decide +kernel
theorem dX12_flight_51 : decode cX12_flight 51 = .ok (.ireturn, 1) := by decide +kernel
theorem dX12_flight_52 : decode cX12_flight 52 = .ok (.aload_n 0, 1) := by decide +kernel
theorem dX12_flight_53 : decode cX12_flight 53 = .ok (.getfield 7, 3) := by decide +kernel
theorem dX12_flight_56 : decode cX12_flight 56 = .ok (.bipush 7, 2) := by decide +kernel
theorem dX12_flight_58 : decode cX12_flight 58 = .ok (.iaload, 1) := by decide +kernel
theorem dX12_flight_59 : decode cX12_flight 59 = .ok (.bipush 8, 2) := by decide +kernel
theorem dX12_flight_61 : decode cX12_flight 61 = .ok (.if_icmp .ne 6, 3) := by decide +kernel
theorem dX12_flight_64 : decode cX12_flight 64 = .ok (.ldc 86, 2) := by decide +kernel
theorem dX12_flight_66 : decode cX12_flight 66 = .ok (.ireturn, 1) := by decide +kernel
theorem dX12_flight_67 : decode cX12_flight 67 = .ok (.sipush 5298, 3) := by decide +kernel
theorem dX12_flight_70 : decode cX12_flight 70 = .ok (.iconst 5, 1) := by decide +kernel
theorem dX12_flight_71 : decode cX12_flight 71 = .ok (.aload_n 0, 1) := by decide +kernel
theorem dX12_flight_72 : decode cX12_flight 72 = .ok (.getfield 7, 3) := by decide +kernel
theorem dX12_flight_75 : decode cX12_flight 75 = .ok (.bipush 7, 2) := by decide +kernel
theorem dX12_flight_77 : decode cX12_flight 77 = .ok (.iaload, 1) := by decide +kernel
theorem dX12_flight_78 : decode cX12_flight 78 = .ok (.imul, 1) := by decide +kernel
theorem dX12_flight_79 : decode cX12_flight 79 = .ok (.iadd, 1) := by decide +kernel
theorem dX12_flight_80 : decode cX12_flight 80 = .ok (.istore 5, 2) := by decide +kernel
theorem dX12_flight_82 : decode cX12_flight 82 = .ok (.aload_n 0, 1) := by decide +kernel
theorem dX12_flight_83 : decode cX12_flight 83 = .ok (.getfield 7, 3) := by decide +kernel
theorem dX12_flight_86 : decode cX12_flight 86 = .ok (.iload 5, 2) := by decide +kernel
theorem dX12_flight_88 : decode cX12_flight 88 = .ok (.iload_n 1, 1) := by decide +kernel
theorem dX12_flight_89 : decode cX12_flight 89 = .ok (.iastore, 1) := by decide +kernel
theorem dX12_flight_90 : decode cX12_flight 90 = .ok (.aload_n 0, 1) := by decide +kernel
theorem dX12_flight_91 : decode cX12_flight 91 = .ok (.getfield 7, 3) := by decide +kernel
theorem dX12_flight_94 : decode cX12_flight 94 = .ok (.iload 5, 2) := by decide +kernel
theorem dX12_flight_96 : decode cX12_flight 96 = .ok (.iconst 1, 1) := by decide +kernel
theorem dX12_flight_97 : decode cX12_flight 97 = .ok (.iadd, 1) := by decide +kernel
theorem dX12_flight_98 : decode cX12_flight 98 = .ok (.iload_n 2, 1) := by decide +kernel
theorem dX12_flight_99 : decode cX12_flight 99 = .ok (.iastore, 1) := by decide +kernel
theorem dX12_flight_100 : decode cX12_flight 100 = .ok (.aload_n 0, 1) := by decide +kernel
theorem dX12_flight_101 : decode cX12_flight 101 = .ok (.getfield 7, 3) := by decide +kernel
theorem dX12_flight_104 : decode cX12_flight 104 = .ok (.iload 5, 2) := by decide +kernel
theorem dX12_flight_106 : decode cX12_flight 106 = .ok (.iconst 2, 1) := by decide +kernel
theorem dX12_flight_107 : decode cX12_flight 107 = .ok (.iadd, 1) := by decide +kernel
theorem dX12_flight_108 : decode cX12_flight 108 = .ok (.iload_n 3, 1) := by decide +kernel
theorem dX12_flight_109 : decode cX12_flight 109 = .ok (.iastore, 1) := by decide +kernel
theorem dX12_flight_110 : decode cX12_flight 110 = .ok (.aload_n 0, 1) := by decide +kernel
theorem dX12_flight_111 : decode cX12_flight 111 = .ok (.getfield 7, 3) := by decide +kernel
theorem dX12_flight_114 : decode cX12_flight 114 = .ok (.iload 5, 2) := by decide +kernel
theorem dX12_flight_116 : decode cX12_flight 116 = .ok (.iconst 3, 1) := by decide +kernel
theorem dX12_flight_117 : decode cX12_flight 117 = .ok (.iadd, 1) := by decide +kernel
theorem dX12_flight_118 : decode cX12_flight 118 = .ok (.iload 4, 2) := by decide +kernel
theorem dX12_flight_120 : decode cX12_flight 120 = .ok (.iastore, 1) := by decide +kernel
theorem dX12_flight_121 : decode cX12_flight 121 = .ok (.aload_n 0, 1) := by decide +kernel
theorem dX12_flight_122 : decode cX12_flight 122 = .ok (.getfield 7, 3) := by decide +kernel
theorem dX12_flight_125 : decode cX12_flight 125 = .ok (.iload 5, 2) := by decide +kernel
theorem dX12_flight_127 : decode cX12_flight 127 = .ok (.iconst 4, 1) := by decide +kernel
theorem dX12_flight_128 : decode cX12_flight 128 = .ok (.iadd, 1) := by decide +kernel
theorem dX12_flight_129 : decode cX12_flight 129 = .ok (.iload 4, 2) := by decide +kernel
theorem dX12_flight_131 : decode cX12_flight 131 = .ok (.iastore, 1) := by decide +kernel
theorem dX12_flight_132 : decode cX12_flight 132 = .ok (.aload_n 0, 1) := by decide +kernel
theorem dX12_flight_133 : decode cX12_flight 133 = .ok (.getfield 7, 3) := by decide +kernel
theorem dX12_flight_136 : decode cX12_flight 136 = .ok (.bipush 7, 2) := by decide +kernel
theorem dX12_flight_138 : decode cX12_flight 138 = .ok (.dup2, 1) := by decide +kernel
theorem dX12_flight_139 : decode cX12_flight 139 = .ok (.iaload, 1) := by decide +kernel
theorem dX12_flight_140 : decode cX12_flight 140 = .ok (.iconst 1, 1) := by decide +kernel
theorem dX12_flight_141 : decode cX12_flight 141 = .ok (.iadd, 1) := by decide +kernel
theorem dX12_flight_142 : decode cX12_flight 142 = .ok (.iastore, 1) := by decide +kernel
theorem dX12_flight_143 : decode cX12_flight 143 = .ok (.aload_n 0, 1) := by decide +kernel
theorem dX12_flight_144 : decode cX12_flight 144 = .ok (.getfield 7, 3) := by decide +kernel
theorem dX12_flight_147 : decode cX12_flight 147 = .ok (.bipush 7, 2) := by decide +kernel
theorem dX12_flight_149 : decode cX12_flight 149 = .ok (.iaload, 1) := by decide +kernel
theorem dX12_flight_150 : decode cX12_flight 150 = .ok (.iconst 1, 1) := by decide +kernel
theorem dX12_flight_151 : decode cX12_flight 151 = .ok (.isub, 1) := by decide +kernel
theorem dX12_flight_152 : decode cX12_flight 152 = .ok (.ireturn, 1) := by decide +kernel
theorem dX12_isFlight_0 : decode cX12_isFlight 0 = .ok (.iload_n 1, 1) := by decide +kernel
theorem dX12_isFlight_1 : decode cX12_isFlight 1 = .ok (.iconst 0, 1) := by decide +kernel
theorem dX12_isFlight_2 : decode cX12_isFlight 2 = .ok (.aload_n 0, 1) := by decide +kernel
theorem dX12_isFlight_3 : decode cX12_isFlight 3 = .ok (.getfield 7, 3) := by decide +kernel
theorem dX12_isFlight_6 : decode cX12_isFlight 6 = .ok (.bipush 7, 2) := by decide +kernel
theorem dX12_isFlight_8 : decode cX12_isFlight 8 = .ok (.iaload, 1) := by decide +kernel
theorem dX12_isFlight_9 : decode cX12_isFlight 9 = .ok (.iconst 1, 1) := by decide +kernel
theorem dX12_isFlight_10 : decode cX12_isFlight 10 = .ok (.isub, 1) := by decide +kernel
theorem dX12_isFlight_11 : decode cX12_isFlight 11 = .ok (.invokestatic 81, 3) := by decide +kernel
theorem dX12_isFlight_14 : decode cX12_isFlight 14 = .ok (.ireturn, 1) := by decide +kernel
theorem dX12_ask_0 : decode cX12_ask 0 = .ok (.aload_n 0, 1) := by decide +kernel
theorem dX12_ask_1 : decode cX12_ask 1 = .ok (.iload_n 1, 1) := by decide +kernel
theorem dX12_ask_2 : decode cX12_ask 2 = .ok (.invokevirtual 87, 3) := by decide +kernel
theorem dX12_ask_5 : decode cX12_ask 5 = .ok (.ifCond .eq 20, 3) := by decide +kernel
theorem dX12_ask_8 : decode cX12_ask 8 = .ok (.aload_n 0, 1) := by decide +kernel
theorem dX12_ask_9 : decode cX12_ask 9 = .ok (.iload_n 2, 1) := by decide +kernel
theorem dX12_ask_10 : decode cX12_ask 10 = .ok (.invokevirtual 260, 3) := by decide +kernel
theorem dX12_ask_13 : decode cX12_ask 13 = .ok (.ifCond .eq 12, 3) := by decide +kernel
theorem dX12_ask_16 : decode cX12_ask 16 = .ok (.iload_n 3, 1) := by decide +kernel
theorem dX12_ask_17 : decode cX12_ask 17 = .ok (.iconst 0, 1) := by decide +kernel
theorem dX12_ask_18 : decode cX12_ask 18 = .ok (.iconst 3, 1) := by decide +kernel
theorem dX12_ask_19 : decode cX12_ask 19 = .ok (.invokestatic 81, 3) := by decide +kernel
theorem dX12_ask_22 : decode cX12_ask 22 = .ok (.ifCond .ne 6, 3) := by decide +kernel
theorem dX12_ask_25 : decode cX12_ask 25 = .ok (.ldc 85, 2) := by decide +kernel
theorem dX12_ask_27 : decode cX12_ask 27 = .ok (.ireturn, 1) := by decide +kernel
theorem dX12_ask_28 : decode cX12_ask 28 = .ok (.aload_n 0, 1) := by decide +kernel
theorem dX12_ask_29 : decode cX12_ask 29 = .ok (.getfield 7, 3) := by decide +kernel
theorem dX12_ask_32 : decode cX12_ask 32 = .ok (.sipush 5298, 3) := by decide +kernel
theorem dX12_ask_35 : decode cX12_ask 35 = .ok (.iconst 5, 1) := by decide +kernel
theorem dX12_ask_36 : decode cX12_ask 36 = .ok (.iload_n 2, 1) := by decide +kernel
theorem dX12_ask_37 : decode cX12_ask 37 = .ok (.imul, 1) := by decide +kernel
theorem dX12_ask_38 : decode cX12_ask 38 = .ok (.iadd, 1) := by decide +kernel
theorem dX12_ask_39 : decode cX12_ask 39 = .ok (.iaload, 1) := by decide +kernel
theorem dX12_ask_40 : decode cX12_ask 40 = .ok (.aload_n 0, 1) := by decide +kernel
theorem dX12_ask_41 : decode cX12_ask 41 = .ok (.getfield 7, 3) := by decide +kernel
theorem dX12_ask_44 : decode cX12_ask 44 = .ok (.iconst 0, 1) := by decide +kernel
theorem dX12_ask_45 : decode cX12_ask 45 = .ok (.iaload, 1) := by decide +kernel
theorem dX12_ask_46 : decode cX12_ask 46 = .ok (.if_icmp .gt 6, 3) := by decide +kernel
theorem dX12_ask_49 : decode cX12_ask 49 = .ok (.ldc 111, 2) := by decide +kernel
theorem dX12_ask_51 : decode cX12_ask 51 = .ok (.ireturn, 1) := by decide +kernel
theorem dX12_ask_52 : decode cX12_ask 52 = .ok (.aload_n 0, 1) := by decide +kernel
theorem dX12_ask_53 : decode cX12_ask 53 = .ok (.getfield 7, 3) := by decide +kernel
theorem dX12_ask_56 : decode cX12_ask 56 = .ok (.bipush 8, 2) := by decide +kernel
theorem dX12_ask_58 : decode cX12_ask 58 = .ok (.iaload, 1) := by decide +kernel
theorem dX12_ask_59 : decode cX12_ask 59 = .ok (.bipush 30, 2) := by decide +kernel
theorem dX12_ask_61 : decode cX12_ask 61 = .ok (.if_icmp .ne 6, 3) := by decide +kernel
theorem dX12_ask_64 : decode cX12_ask 64 = .ok (.ldc 86, 2) := by decide +kernel
theorem dX12_ask_66 : decode cX12_ask 66 = .ok (.ireturn, 1) := by decide +kernel
theorem dX12_ask_67 : decode cX12_ask 67 = .ok (.sipush 5338, 3) := by decide +kernel
theorem dX12_ask_70 : decode cX12_ask 70 = .ok (.iconst 5, 1) := by decide +kernel
theorem dX12_ask_71 : decode cX12_ask 71 = .ok (.aload_n 0, 1) := by decide +kernel
theorem dX12_ask_72 : decode cX12_ask 72 = .ok (.getfield 7, 3) := by decide +kernel
theorem dX12_ask_75 : decode cX12_ask 75 = .ok (.bipush 8, 2) := by decide +kernel
theorem dX12_ask_77 : decode cX12_ask 77 = .ok (.iaload, 1) := by decide +kernel
theorem dX12_ask_78 : decode cX12_ask 78 = .ok (.imul, 1) := by decide +kernel
theorem dX12_ask_79 : decode cX12_ask 79 = .ok (.iadd, 1) := by decide +kernel
theorem dX12_ask_80 : decode cX12_ask 80 = .ok (.istore 4, 2) := by decide +kernel
theorem dX12_ask_82 : decode cX12_ask 82 = .ok (.aload_n 0, 1) := by decide +kernel
theorem dX12_ask_83 : decode cX12_ask 83 = .ok (.getfield 7, 3) := by decide +kernel
theorem dX12_ask_86 : decode cX12_ask 86 = .ok (.iload 4, 2) := by decide +kernel
theorem dX12_ask_88 : decode cX12_ask 88 = .ok (.iload_n 1, 1) := by decide +kernel
theorem dX12_ask_89 : decode cX12_ask 89 = .ok (.iastore, 1) := by decide +kernel
theorem dX12_ask_90 : decode cX12_ask 90 = .ok (.aload_n 0, 1) := by decide +kernel
theorem dX12_ask_91 : decode cX12_ask 91 = .ok (.getfield 7, 3) := by decide +kernel
theorem dX12_ask_94 : decode cX12_ask 94 = .ok (.iload 4, 2) := by decide +kernel
theorem dX12_ask_96 : decode cX12_ask 96 = .ok (.iconst 1, 1) := by decide +kernel
theorem dX12_ask_97 : decode cX12_ask 97 = .ok (.iadd, 1) := by decide +kernel
theorem dX12_ask_98 : decode cX12_ask 98 = .ok (.iload_n 2, 1) := by decide +kernel
theorem dX12_ask_99 : decode cX12_ask 99 = .ok (.iastore, 1) := by decide +kernel
theorem dX12_ask_100 : decode cX12_ask 100 = .ok (.aload_n 0, 1) := by decide +kernel
theorem dX12_ask_101 : decode cX12_ask 101 = .ok (.getfield 7, 3) := by decide +kernel
theorem dX12_ask_104 : decode cX12_ask 104 = .ok (.iload 4, 2) := by decide +kernel
theorem dX12_ask_106 : decode cX12_ask 106 = .ok (.iconst 2, 1) := by decide +kernel
theorem dX12_ask_107 : decode cX12_ask 107 = .ok (.iadd, 1) := by decide +kernel
theorem dX12_ask_108 : decode cX12_ask 108 = .ok (.iload_n 3, 1) := by decide +kernel
theorem dX12_ask_109 : decode cX12_ask 109 = .ok (.iastore, 1) := by decide +kernel
theorem dX12_ask_110 : decode cX12_ask 110 = .ok (.aload_n 0, 1) := by decide +kernel
theorem dX12_ask_111 : decode cX12_ask 111 = .ok (.getfield 7, 3) := by decide +kernel
theorem dX12_ask_114 : decode cX12_ask 114 = .ok (.iload 4, 2) := by decide +kernel
theorem dX12_ask_116 : decode cX12_ask 116 = .ok (.iconst 3, 1) := by decide +kernel
theorem dX12_ask_117 : decode cX12_ask 117 = .ok (.iadd, 1) := by decide +kernel
theorem dX12_ask_118 : decode cX12_ask 118 = .ok (.iconst 0, 1) := by decide +kernel
theorem dX12_ask_119 : decode cX12_ask 119 = .ok (.iastore, 1) := by decide +kernel
theorem dX12_ask_120 : decode cX12_ask 120 = .ok (.aload_n 0, 1) := by decide +kernel
theorem dX12_ask_121 : decode cX12_ask 121 = .ok (.getfield 7, 3) := by decide +kernel
theorem dX12_ask_124 : decode cX12_ask 124 = .ok (.iload 4, 2) := by decide +kernel
theorem dX12_ask_126 : decode cX12_ask 126 = .ok (.iconst 4, 1) := by decide +kernel
theorem dX12_ask_127 : decode cX12_ask 127 = .ok (.iadd, 1) := by decide +kernel
theorem dX12_ask_128 : decode cX12_ask 128 = .ok (.iconst (-1), 1) := by decide +kernel
theorem dX12_ask_129 : decode cX12_ask 129 = .ok (.iastore, 1) := by decide +kernel
theorem dX12_ask_130 : decode cX12_ask 130 = .ok (.aload_n 0, 1) := by decide +kernel
theorem dX12_ask_131 : decode cX12_ask 131 = .ok (.getfield 7, 3) := by decide +kernel
theorem dX12_ask_134 : decode cX12_ask 134 = .ok (.bipush 8, 2) := by decide +kernel
theorem dX12_ask_136 : decode cX12_ask 136 = .ok (.dup2, 1) := by decide +kernel
theorem dX12_ask_137 : decode cX12_ask 137 = .ok (.iaload, 1) := by decide +kernel
theorem dX12_ask_138 : decode cX12_ask 138 = .ok (.iconst 1, 1) := by decide +kernel
theorem dX12_ask_139 : decode cX12_ask 139 = .ok (.iadd, 1) := by decide +kernel
theorem dX12_ask_140 : decode cX12_ask 140 = .ok (.iastore, 1) := by decide +kernel
theorem dX12_ask_141 : decode cX12_ask 141 = .ok (.aload_n 0, 1) := by decide +kernel
theorem dX12_ask_142 : decode cX12_ask 142 = .ok (.getfield 7, 3) := by decide +kernel
theorem dX12_ask_145 : decode cX12_ask 145 = .ok (.bipush 8, 2) := by decide +kernel
theorem dX12_ask_147 : decode cX12_ask 147 = .ok (.iaload, 1) := by decide +kernel
theorem dX12_ask_148 : decode cX12_ask 148 = .ok (.iconst 1, 1) := by decide +kernel
theorem dX12_ask_149 : decode cX12_ask 149 = .ok (.isub, 1) := by decide +kernel
theorem dX12_ask_150 : decode cX12_ask 150 = .ok (.ireturn, 1) := by decide +kernel
theorem dX12_priceFor_0 : decode cX12_priceFor 0 = .ok (.sipush 5338, 3) := by decide +kernel
theorem dX12_priceFor_3 : decode cX12_priceFor 3 = .ok (.iconst 5, 1) := by decide +kernel
theorem dX12_priceFor_4 : decode cX12_priceFor 4 = .ok (.iload_n 1, 1) := by decide +kernel
theorem dX12_priceFor_5 : decode cX12_priceFor 5 = .ok (.imul, 1) := by decide +kernel
theorem dX12_priceFor_6 : decode cX12_priceFor 6 = .ok (.iadd, 1) := by decide +kernel
theorem dX12_priceFor_7 : decode cX12_priceFor 7 = .ok (.istore_n 2, 1) := by decide +kernel
theorem dX12_priceFor_8 : decode cX12_priceFor 8 = .ok (.sipush 5298, 3) := by decide +kernel
theorem dX12_priceFor_11 : decode cX12_priceFor 11 = .ok (.iconst 5, 1) := by decide +kernel
theorem dX12_priceFor_12 : decode cX12_priceFor 12 = .ok (.aload_n 0, 1) := by decide +kernel
theorem dX12_priceFor_13 : decode cX12_priceFor 13 = .ok (.getfield 7, 3) := by decide +kernel
theorem dX12_priceFor_16 : decode cX12_priceFor 16 = .ok (.iload_n 2, 1) := by decide +kernel
theorem dX12_priceFor_17 : decode cX12_priceFor 17 = .ok (.iconst 1, 1) := by decide +kernel
theorem dX12_priceFor_18 : decode cX12_priceFor 18 = .ok (.iadd, 1) := by decide +kernel
theorem dX12_priceFor_19 : decode cX12_priceFor 19 = .ok (.iaload, 1) := by decide +kernel
theorem dX12_priceFor_20 : decode cX12_priceFor 20 = .ok (.imul, 1) := by decide +kernel
theorem dX12_priceFor_21 : decode cX12_priceFor 21 = .ok (.iadd, 1) := by decide +kernel
theorem dX12_priceFor_22 : decode cX12_priceFor 22 = .ok (.istore_n 3, 1) := by decide +kernel
theorem dX12_priceFor_23 : decode cX12_priceFor 23 = .ok (.aload_n 0, 1) := by decide +kernel
theorem dX12_priceFor_24 : decode cX12_priceFor 24 = .ok (.aload_n 0, 1) := by decide +kernel
theorem dX12_priceFor_25 : decode cX12_priceFor 25 = .ok (.getfield 7, 3) := by decide +kernel
theorem dX12_priceFor_28 : decode cX12_priceFor 28 = .ok (.iconst 0, 1) := by decide +kernel
theorem dX12_priceFor_29 : decode cX12_priceFor 29 = .ok (.iaload, 1) := by decide +kernel
theorem dX12_priceFor_30 : decode cX12_priceFor 30 = .ok (.invokevirtual 221, 3) := by decide +kernel
theorem dX12_priceFor_33 : decode cX12_priceFor 33 = .ok (.istore 4, 2) := by decide +kernel
theorem dX12_priceFor_35 : decode cX12_priceFor 35 = .ok (.iload 4, 2) := by decide +kernel
theorem dX12_priceFor_37 : decode cX12_priceFor 37 = .ok (.iconst (-1), 1) := by decide +kernel
theorem dX12_priceFor_38 : decode cX12_priceFor 38 = .ok (.if_icmp .ne 12, 3) := by decide +kernel
theorem dX12_priceFor_41 : decode cX12_priceFor 41 = .ok (.aload_n 0, 1) := by decide +kernel
theorem dX12_priceFor_42 : decode cX12_priceFor 42 = .ok (.getfield 7, 3) := by decide +kernel
theorem dX12_priceFor_45 : decode cX12_priceFor 45 = .ok (.iload_n 3, 1) := by decide +kernel
theorem dX12_priceFor_46 : decode cX12_priceFor 46 = .ok (.iconst 1, 1) := by decide +kernel
theorem dX12_priceFor_47 : decode cX12_priceFor 47 = .ok (.iadd, 1) := by decide +kernel
theorem dX12_priceFor_48 : decode cX12_priceFor 48 = .ok (.iaload, 1) := by decide +kernel
theorem dX12_priceFor_49 : decode cX12_priceFor 49 = .ok (.ireturn, 1) := by decide +kernel
theorem dX12_priceFor_50 : decode cX12_priceFor 50 = .ok (.aload_n 0, 1) := by decide +kernel
theorem dX12_priceFor_51 : decode cX12_priceFor 51 = .ok (.getfield 28, 3) := by decide +kernel
theorem dX12_priceFor_54 : decode cX12_priceFor 54 = .ok (.bipush 108, 2) := by decide +kernel
theorem dX12_priceFor_56 : decode cX12_priceFor 56 = .ok (.aload_n 0, 1) := by decide +kernel
theorem dX12_priceFor_57 : decode cX12_priceFor 57 = .ok (.getfield 7, 3) := by decide +kernel
theorem dX12_priceFor_60 : decode cX12_priceFor 60 = .ok (.iload_n 3, 1) := by decide +kernel
theorem dX12_priceFor_61 : decode cX12_priceFor 61 = .ok (.iconst 1, 1) := by decide +kernel
theorem dX12_priceFor_62 : decode cX12_priceFor 62 = .ok (.iadd, 1) := by decide +kernel
theorem dX12_priceFor_63 : decode cX12_priceFor 63 = .ok (.iaload, 1) := by decide +kernel
theorem dX12_priceFor_64 : decode cX12_priceFor 64 = .ok (.iastore, 1) := by decide +kernel
theorem dX12_priceFor_65 : decode cX12_priceFor 65 = .ok (.aload_n 0, 1) := by decide +kernel
theorem dX12_priceFor_66 : decode cX12_priceFor 66 = .ok (.getfield 28, 3) := by decide +kernel
theorem dX12_priceFor_69 : decode cX12_priceFor 69 = .ok (.bipush 102, 2) := by decide +kernel
theorem dX12_priceFor_71 : decode cX12_priceFor 71 = .ok (.aload_n 0, 1) := by decide +kernel
theorem dX12_priceFor_72 : decode cX12_priceFor 72 = .ok (.getfield 7, 3) := by decide +kernel
theorem dX12_priceFor_75 : decode cX12_priceFor 75 = .ok (.iload_n 2, 1) := by decide +kernel
theorem dX12_priceFor_76 : decode cX12_priceFor 76 = .ok (.iconst 2, 1) := by decide +kernel
theorem dX12_priceFor_77 : decode cX12_priceFor 77 = .ok (.iadd, 1) := by decide +kernel
theorem dX12_priceFor_78 : decode cX12_priceFor 78 = .ok (.iaload, 1) := by decide +kernel
theorem dX12_priceFor_79 : decode cX12_priceFor 79 = .ok (.iastore, 1) := by decide +kernel
theorem dX12_priceFor_80 : decode cX12_priceFor 80 = .ok (.aload_n 0, 1) := by decide +kernel
theorem dX12_priceFor_81 : decode cX12_priceFor 81 = .ok (.getfield 28, 3) := by decide +kernel
theorem dX12_priceFor_84 : decode cX12_priceFor 84 = .ok (.bipush 111, 2) := by decide +kernel
theorem dX12_priceFor_86 : decode cX12_priceFor 86 = .ok (.aload_n 0, 1) := by decide +kernel
theorem dX12_priceFor_87 : decode cX12_priceFor 87 = .ok (.getfield 7, 3) := by decide +kernel
theorem dX12_priceFor_90 : decode cX12_priceFor 90 = .ok (.iload_n 3, 1) := by decide +kernel
theorem dX12_priceFor_91 : decode cX12_priceFor 91 = .ok (.iconst 4, 1) := by decide +kernel
theorem dX12_priceFor_92 : decode cX12_priceFor 92 = .ok (.iadd, 1) := by decide +kernel
theorem dX12_priceFor_93 : decode cX12_priceFor 93 = .ok (.iaload, 1) := by decide +kernel
theorem dX12_priceFor_94 : decode cX12_priceFor 94 = .ok (.iastore, 1) := by decide +kernel
theorem dX12_priceFor_95 : decode cX12_priceFor 95 = .ok (.aload_n 0, 1) := by decide +kernel
theorem dX12_priceFor_96 : decode cX12_priceFor 96 = .ok (.getfield 28, 3) := by decide +kernel
theorem dX12_priceFor_99 : decode cX12_priceFor 99 = .ok (.bipush 100, 2) := by decide +kernel
theorem dX12_priceFor_101 : decode cX12_priceFor 101 = .ok (.aload_n 0, 1) := by decide +kernel
theorem dX12_priceFor_102 : decode cX12_priceFor 102 = .ok (.getfield 7, 3) := by decide +kernel
theorem dX12_priceFor_105 : decode cX12_priceFor 105 = .ok (.iload_n 3, 1) := by decide +kernel
theorem dX12_priceFor_106 : decode cX12_priceFor 106 = .ok (.iaload, 1) := by decide +kernel
theorem dX12_priceFor_107 : decode cX12_priceFor 107 = .ok (.aload_n 0, 1) := by decide +kernel
theorem dX12_priceFor_108 : decode cX12_priceFor 108 = .ok (.getfield 7, 3) := by decide +kernel
theorem dX12_priceFor_111 : decode cX12_priceFor 111 = .ok (.iconst 0, 1) := by decide +kernel
theorem dX12_priceFor_112 : decode cX12_priceFor 112 = .ok (.iaload, 1) := by decide +kernel
theorem dX12_priceFor_113 : decode cX12_priceFor 113 = .ok (.isub, 1) := by decide +kernel
theorem dX12_priceFor_114 : decode cX12_priceFor 114 = .ok (.iastore, 1) := by decide +kernel
theorem dX12_priceFor_115 : decode cX12_priceFor 115 = .ok (.aload_n 0, 1) := by decide +kernel
theorem dX12_priceFor_116 : decode cX12_priceFor 116 = .ok (.getfield 28, 3) := by decide +kernel
theorem dX12_priceFor_119 : decode cX12_priceFor 119 = .ok (.bipush 116, 2) := by decide +kernel
theorem dX12_priceFor_121 : decode cX12_priceFor 121 = .ok (.aload_n 0, 1) := by decide +kernel
theorem dX12_priceFor_122 : decode cX12_priceFor 122 = .ok (.getfield 59, 3) := by decide +kernel
theorem dX12_priceFor_125 : decode cX12_priceFor 125 = .ok (.aload_n 0, 1) := by decide +kernel
theorem dX12_priceFor_126 : decode cX12_priceFor 126 = .ok (.getfield 7, 3) := by decide +kernel
theorem dX12_priceFor_129 : decode cX12_priceFor 129 = .ok (.iload_n 2, 1) := by decide +kernel
theorem dX12_priceFor_130 : decode cX12_priceFor 130 = .ok (.iaload, 1) := by decide +kernel
theorem dX12_priceFor_131 : decode cX12_priceFor 131 = .ok (.iaload, 1) := by decide +kernel
theorem dX12_priceFor_132 : decode cX12_priceFor 132 = .ok (.iastore, 1) := by decide +kernel
theorem dX12_priceFor_133 : decode cX12_priceFor 133 = .ok (.aload_n 0, 1) := by decide +kernel
theorem dX12_priceFor_134 : decode cX12_priceFor 134 = .ok (.getfield 28, 3) := by decide +kernel
theorem dX12_priceFor_137 : decode cX12_priceFor 137 = .ok (.bipush 107, 2) := by decide +kernel
theorem dX12_priceFor_139 : decode cX12_priceFor 139 = .ok (.aload_n 0, 1) := by decide +kernel
theorem dX12_priceFor_140 : decode cX12_priceFor 140 = .ok (.getfield 7, 3) := by decide +kernel
theorem dX12_priceFor_143 : decode cX12_priceFor 143 = .ok (.bipush 20, 2) := by decide +kernel
theorem dX12_priceFor_145 : decode cX12_priceFor 145 = .ok (.iconst 3, 1) := by decide +kernel
theorem dX12_priceFor_146 : decode cX12_priceFor 146 = .ok (.aload_n 0, 1) := by decide +kernel
theorem dX12_priceFor_147 : decode cX12_priceFor 147 = .ok (.getfield 7, 3) := by decide +kernel
theorem dX12_priceFor_150 : decode cX12_priceFor 150 = .ok (.iload_n 2, 1) := by decide +kernel
theorem dX12_priceFor_151 : decode cX12_priceFor 151 = .ok (.iaload, 1) := by decide +kernel
theorem dX12_priceFor_152 : decode cX12_priceFor 152 = .ok (.imul, 1) := by decide +kernel
theorem dX12_priceFor_153 : decode cX12_priceFor 153 = .ok (.iadd, 1) := by decide +kernel
theorem dX12_priceFor_154 : decode cX12_priceFor 154 = .ok (.iaload, 1) := by decide +kernel
theorem dX12_priceFor_155 : decode cX12_priceFor 155 = .ok (.iastore, 1) := by decide +kernel
theorem dX12_priceFor_156 : decode cX12_priceFor 156 = .ok (.aload_n 0, 1) := by decide +kernel
theorem dX12_priceFor_157 : decode cX12_priceFor 157 = .ok (.iload 4, 2) := by decide +kernel
theorem dX12_priceFor_159 : decode cX12_priceFor 159 = .ok (.iconst 2, 1) := by decide +kernel
theorem dX12_priceFor_160 : decode cX12_priceFor 160 = .ok (.invokevirtual 215, 3) := by decide +kernel
theorem dX12_priceFor_163 : decode cX12_priceFor 163 = .ok (.iconst 0, 1) := by decide +kernel
theorem dX12_priceFor_164 : decode cX12_priceFor 164 = .ok (.ldc 107, 2) := by decide +kernel
theorem dX12_priceFor_166 : decode cX12_priceFor 166 = .ok (.invokestatic 218, 3) := by decide +kernel
theorem dX12_priceFor_169 : decode cX12_priceFor 169 = .ok (.ireturn, 1) := by decide +kernel
theorem dX12_pays_0 : decode cX12_pays 0 = .ok (.sipush 5338, 3) := by decide +kernel
theorem dX12_pays_3 : decode cX12_pays 3 = .ok (.iconst 5, 1) := by decide +kernel
theorem dX12_pays_4 : decode cX12_pays 4 = .ok (.iload_n 1, 1) := by decide +kernel
theorem dX12_pays_5 : decode cX12_pays 5 = .ok (.imul, 1) := by decide +kernel
theorem dX12_pays_6 : decode cX12_pays 6 = .ok (.iadd, 1) := by decide +kernel
theorem dX12_pays_7 : decode cX12_pays 7 = .ok (.istore_n 2, 1) := by decide +kernel
theorem dX12_pays_8 : decode cX12_pays 8 = .ok (.sipush 5298, 3) := by decide +kernel
theorem dX12_pays_11 : decode cX12_pays 11 = .ok (.iconst 5, 1) := by decide +kernel
theorem dX12_pays_12 : decode cX12_pays 12 = .ok (.aload_n 0, 1) := by decide +kernel
theorem dX12_pays_13 : decode cX12_pays 13 = .ok (.getfield 7, 3) := by decide +kernel
theorem dX12_pays_16 : decode cX12_pays 16 = .ok (.iload_n 2, 1) := by decide +kernel
theorem dX12_pays_17 : decode cX12_pays 17 = .ok (.iconst 1, 1) := by decide +kernel
theorem dX12_pays_18 : decode cX12_pays 18 = .ok (.iadd, 1) := by decide +kernel
theorem dX12_pays_19 : decode cX12_pays 19 = .ok (.iaload, 1) := by decide +kernel
theorem dX12_pays_20 : decode cX12_pays 20 = .ok (.imul, 1) := by decide +kernel
theorem dX12_pays_21 : decode cX12_pays 21 = .ok (.iadd, 1) := by decide +kernel
theorem dX12_pays_22 : decode cX12_pays 22 = .ok (.istore_n 3, 1) := by decide +kernel
theorem dX12_pays_23 : decode cX12_pays 23 = .ok (.aload_n 0, 1) := by decide +kernel
theorem dX12_pays_24 : decode cX12_pays 24 = .ok (.getfield 7, 3) := by decide +kernel
theorem dX12_pays_27 : decode cX12_pays 27 = .ok (.iload_n 3, 1) := by decide +kernel
theorem dX12_pays_28 : decode cX12_pays 28 = .ok (.iconst 4, 1) := by decide +kernel
theorem dX12_pays_29 : decode cX12_pays 29 = .ok (.iadd, 1) := by decide +kernel
theorem dX12_pays_30 : decode cX12_pays 30 = .ok (.iaload, 1) := by decide +kernel
theorem dX12_pays_31 : decode cX12_pays 31 = .ok (.ifCond .eq 14, 3) := by decide +kernel
theorem dX12_pays_34 : decode cX12_pays 34 = .ok (.aload_n 0, 1) := by decide +kernel
theorem dX12_pays_35 : decode cX12_pays 35 = .ok (.getfield 7, 3) := by decide +kernel
theorem dX12_pays_38 : decode cX12_pays 38 = .ok (.iconst 5, 1) := by decide +kernel
theorem dX12_pays_39 : decode cX12_pays 39 = .ok (.iaload, 1) := by decide +kernel
theorem dX12_pays_40 : decode cX12_pays 40 = .ok (.bipush 100, 2) := by decide +kernel
theorem dX12_pays_42 : decode cX12_pays 42 = .ok (.if_icmp .ne 5, 3) := by decide +kernel
theorem dX12_pays_45 : decode cX12_pays 45 = .ok (.iconst 0, 1) := by decide +kernel
theorem dX12_pays_46 : decode cX12_pays 46 = .ok (.ireturn, 1) := by decide +kernel
theorem dX12_pays_47 : decode cX12_pays 47 = .ok (.aload_n 0, 1) := by decide +kernel
theorem dX12_pays_48 : decode cX12_pays 48 = .ok (.iload_n 1, 1) := by decide +kernel
theorem dX12_pays_49 : decode cX12_pays 49 = .ok (.invokevirtual 263, 3) := by decide +kernel
theorem dX12_pays_52 : decode cX12_pays 52 = .ok (.istore 4, 2) := by decide +kernel
theorem dX12_pays_54 : decode cX12_pays 54 = .ok (.aload_n 0, 1) := by decide +kernel
theorem dX12_pays_55 : decode cX12_pays 55 = .ok (.aload_n 0, 1) := by decide +kernel
theorem dX12_pays_56 : decode cX12_pays 56 = .ok (.getfield 7, 3) := by decide +kernel
theorem dX12_pays_59 : decode cX12_pays 59 = .ok (.iconst 0, 1) := by decide +kernel
theorem dX12_pays_60 : decode cX12_pays 60 = .ok (.iaload, 1) := by decide +kernel
theorem dX12_pays_61 : decode cX12_pays 61 = .ok (.aload_n 0, 1) := by decide +kernel
theorem dX12_pays_62 : decode cX12_pays 62 = .ok (.getfield 7, 3) := by decide +kernel
theorem dX12_pays_65 : decode cX12_pays 65 = .ok (.iconst 0, 1) := by decide +kernel
theorem dX12_pays_66 : decode cX12_pays 66 = .ok (.iaload, 1) := by decide +kernel
theorem dX12_pays_67 : decode cX12_pays 67 = .ok (.invokevirtual 255, 3) := by decide +kernel
theorem dX12_pays_70 : decode cX12_pays 70 = .ok (.aload_n 0, 1) := by decide +kernel
theorem dX12_pays_71 : decode cX12_pays 71 = .ok (.aload_n 0, 1) := by decide +kernel
theorem dX12_pays_72 : decode cX12_pays 72 = .ok (.getfield 7, 3) := by decide +kernel
theorem dX12_pays_75 : decode cX12_pays 75 = .ok (.iload_n 2, 1) := by decide +kernel
theorem dX12_pays_76 : decode cX12_pays 76 = .ok (.iaload, 1) := by decide +kernel
theorem dX12_pays_77 : decode cX12_pays 77 = .ok (.aload_n 0, 1) := by decide +kernel
theorem dX12_pays_78 : decode cX12_pays 78 = .ok (.getfield 7, 3) := by decide +kernel
theorem dX12_pays_81 : decode cX12_pays 81 = .ok (.iconst 0, 1) := by decide +kernel
theorem dX12_pays_82 : decode cX12_pays 82 = .ok (.iaload, 1) := by decide +kernel
theorem dX12_pays_83 : decode cX12_pays 83 = .ok (.iconst 1, 1) := by decide +kernel
theorem dX12_pays_84 : decode cX12_pays 84 = .ok (.invokevirtual 241, 3) := by decide +kernel
theorem dX12_pays_87 : decode cX12_pays 87 = .ok (.iload 4, 2) := by decide +kernel
theorem dX12_pays_89 : decode cX12_pays 89 = .ok (.i2l, 1) := by decide +kernel
theorem dX12_pays_90 : decode cX12_pays 90 = .ok (.lcmp, 1) := by decide +kernel
theorem dX12_pays_91 : decode cX12_pays 91 = .ok (.ifCond .ge 5, 3) := by decide +kernel
theorem dX12_pays_94 : decode cX12_pays 94 = .ok (.iconst 0, 1) := by decide +kernel
theorem dX12_pays_95 : decode cX12_pays 95 = .ok (.ireturn, 1) := by decide +kernel
theorem dX12_pays_96 : decode cX12_pays 96 = .ok (.iload 4, 2) := by decide +kernel
theorem dX12_pays_98 : decode cX12_pays 98 = .ok (.ifCond .le 33, 3) := by decide +kernel
theorem dX12_pays_101 : decode cX12_pays 101 = .ok (.aload_n 0, 1) := by decide +kernel
theorem dX12_pays_102 : decode cX12_pays 102 = .ok (.iconst 1, 1) := by decide +kernel
theorem dX12_pays_103 : decode cX12_pays 103 = .ok (.aload_n 0, 1) := by decide +kernel
theorem dX12_pays_104 : decode cX12_pays 104 = .ok (.getfield 7, 3) := by decide +kernel
theorem dX12_pays_107 : decode cX12_pays 107 = .ok (.iload_n 2, 1) := by decide +kernel
theorem dX12_pays_108 : decode cX12_pays 108 = .ok (.iaload, 1) := by decide +kernel
theorem dX12_pays_109 : decode cX12_pays 109 = .ok (.aload_n 0, 1) := by decide +kernel
theorem dX12_pays_110 : decode cX12_pays 110 = .ok (.getfield 7, 3) := by decide +kernel
theorem dX12_pays_113 : decode cX12_pays 113 = .ok (.iconst 0, 1) := by decide +kernel
theorem dX12_pays_114 : decode cX12_pays 114 = .ok (.iaload, 1) := by decide +kernel
theorem dX12_pays_115 : decode cX12_pays 115 = .ok (.iload 4, 2) := by decide +kernel
theorem dX12_pays_117 : decode cX12_pays 117 = .ok (.aload_n 0, 1) := by decide +kernel
theorem dX12_pays_118 : decode cX12_pays 118 = .ok (.getfield 7, 3) := by decide +kernel
theorem dX12_pays_121 : decode cX12_pays 121 = .ok (.iload_n 3, 1) := by decide +kernel
theorem dX12_pays_122 : decode cX12_pays 122 = .ok (.iconst 2, 1) := by decide +kernel
theorem dX12_pays_123 : decode cX12_pays 123 = .ok (.iadd, 1) := by decide +kernel
theorem dX12_pays_124 : decode cX12_pays 124 = .ok (.iaload, 1) := by decide +kernel
theorem dX12_pays_125 : decode cX12_pays 125 = .ok (.iconst 0, 1) := by decide +kernel
theorem dX12_pays_126 : decode cX12_pays 126 = .ok (.invokevirtual 103, 3) := by decide +kernel
theorem dX12_pays_129 : decode cX12_pays 129 = .ok (.istore 5, 2) := by decide +kernel
theorem dX12_pays_131 : decode cX12_pays 131 = .ok (.aload_n 0, 1) := by decide +kernel
theorem dX12_pays_132 : decode cX12_pays 132 = .ok (.getfield 7, 3) := by decide +kernel
theorem dX12_pays_135 : decode cX12_pays 135 = .ok (.iload_n 3, 1) := by decide +kernel
theorem dX12_pays_136 : decode cX12_pays 136 = .ok (.iconst 4, 1) := by decide +kernel
theorem dX12_pays_137 : decode cX12_pays 137 = .ok (.iadd, 1) := by decide +kernel
theorem dX12_pays_138 : decode cX12_pays 138 = .ok (.dup2, 1) := by decide +kernel
theorem dX12_pays_139 : decode cX12_pays 139 = .ok (.iaload, 1) := by decide +kernel
theorem dX12_pays_140 : decode cX12_pays 140 = .ok (.iconst 1, 1) := by decide +kernel
theorem dX12_pays_141 : decode cX12_pays 141 = .ok (.isub, 1) := by decide +kernel
theorem dX12_pays_142 : decode cX12_pays 142 = .ok (.iastore, 1) := by decide +kernel
theorem dX12_pays_143 : decode cX12_pays 143 = .ok (.aload_n 0, 1) := by decide +kernel
theorem dX12_pays_144 : decode cX12_pays 144 = .ok (.getfield 7, 3) := by decide +kernel
theorem dX12_pays_147 : decode cX12_pays 147 = .ok (.iload_n 2, 1) := by decide +kernel
theorem dX12_pays_148 : decode cX12_pays 148 = .ok (.iconst 3, 1) := by decide +kernel
theorem dX12_pays_149 : decode cX12_pays 149 = .ok (.iadd, 1) := by decide +kernel
theorem dX12_pays_150 : decode cX12_pays 150 = .ok (.iconst 1, 1) := by decide +kernel
theorem dX12_pays_151 : decode cX12_pays 151 = .ok (.iastore, 1) := by decide +kernel
theorem dX12_pays_152 : decode cX12_pays 152 = .ok (.aload_n 0, 1) := by decide +kernel
theorem dX12_pays_153 : decode cX12_pays 153 = .ok (.getfield 7, 3) := by decide +kernel
theorem dX12_pays_156 : decode cX12_pays 156 = .ok (.iload_n 2, 1) := by decide +kernel
theorem dX12_pays_157 : decode cX12_pays 157 = .ok (.iconst 4, 1) := by decide +kernel
theorem dX12_pays_158 : decode cX12_pays 158 = .ok (.iadd, 1) := by decide +kernel
theorem dX12_pays_159 : decode cX12_pays 159 = .ok (.iload 4, 2) := by decide +kernel
theorem dX12_pays_161 : decode cX12_pays 161 = .ok (.iastore, 1) := by decide +kernel
theorem dX12_pays_162 : decode cX12_pays 162 = .ok (.iconst 1, 1) := by decide +kernel
theorem dX12_pays_163 : decode cX12_pays 163 = .ok (.ireturn, 1) := by decide +kernel
theorem dX12_settle_0 : decode cX12_settle 0 = .ok (.aload_n 0, 1) := by decide +kernel
theorem dX12_settle_1 : decode cX12_settle 1 = .ok (.iload_n 1, 1) := by decide +kernel
theorem dX12_settle_2 : decode cX12_settle 2 = .ok (.invokevirtual 260, 3) := by decide +kernel
theorem dX12_settle_5 : decode cX12_settle 5 = .ok (.ifCond .ne 6, 3) := by decide +kernel
theorem dX12_settle_8 : decode cX12_settle 8 = .ok (.ldc 85, 2) := by decide +kernel
theorem dX12_settle_10 : decode cX12_settle 10 = .ok (.ireturn, 1) := by decide +kernel
theorem dX12_settle_11 : decode cX12_settle 11 = .ok (.aload_n 0, 1) := by decide +kernel
theorem dX12_settle_12 : decode cX12_settle 12 = .ok (.getfield 7, 3) := by decide +kernel
theorem dX12_settle_15 : decode cX12_settle 15 = .ok (.sipush 5298, 3) := by decide +kernel
theorem dX12_settle_18 : decode cX12_settle 18 = .ok (.iconst 5, 1) := by decide +kernel
theorem dX12_settle_19 : decode cX12_settle 19 = .ok (.iload_n 1, 1) := by decide +kernel
theorem dX12_settle_20 : decode cX12_settle 20 = .ok (.imul, 1) := by decide +kernel
theorem dX12_settle_21 : decode cX12_settle 21 = .ok (.iadd, 1) := by decide +kernel
theorem dX12_settle_22 : decode cX12_settle 22 = .ok (.iaload, 1) := by decide +kernel
theorem dX12_settle_23 : decode cX12_settle 23 = .ok (.aload_n 0, 1) := by decide +kernel
theorem dX12_settle_24 : decode cX12_settle 24 = .ok (.getfield 7, 3) := by decide +kernel
theorem dX12_settle_27 : decode cX12_settle 27 = .ok (.iconst 0, 1) := by decide +kernel
theorem dX12_settle_28 : decode cX12_settle 28 = .ok (.iaload, 1) := by decide +kernel
theorem dX12_settle_29 : decode cX12_settle 29 = .ok (.if_icmp .gt 6, 3) := by decide +kernel
theorem dX12_settle_32 : decode cX12_settle 32 = .ok (.ldc 111, 2) := by decide +kernel
theorem dX12_settle_34 : decode cX12_settle 34 = .ok (.ireturn, 1) := by decide +kernel
theorem dX12_settle_35 : decode cX12_settle 35 = .ok (.aload_n 0, 1) := by decide +kernel
theorem dX12_settle_36 : decode cX12_settle 36 = .ok (.aload_n 0, 1) := by decide +kernel
theorem dX12_settle_37 : decode cX12_settle 37 = .ok (.getfield 7, 3) := by decide +kernel
theorem dX12_settle_40 : decode cX12_settle 40 = .ok (.iconst 0, 1) := by decide +kernel
theorem dX12_settle_41 : decode cX12_settle 41 = .ok (.iaload, 1) := by decide +kernel
theorem dX12_settle_42 : decode cX12_settle 42 = .ok (.aload_n 0, 1) := by decide +kernel
theorem dX12_settle_43 : decode cX12_settle 43 = .ok (.getfield 7, 3) := by decide +kernel
theorem dX12_settle_46 : decode cX12_settle 46 = .ok (.iconst 0, 1) := by decide +kernel
theorem dX12_settle_47 : decode cX12_settle 47 = .ok (.iaload, 1) := by decide +kernel
theorem dX12_settle_48 : decode cX12_settle 48 = .ok (.invokevirtual 255, 3) := by decide +kernel
theorem dX12_settle_51 : decode cX12_settle 51 = .ok (.iconst 0, 1) := by decide +kernel
theorem dX12_settle_52 : decode cX12_settle 52 = .ok (.istore_n 2, 1) := by decide +kernel
theorem dX12_settle_53 : decode cX12_settle 53 = .ok (.iload_n 2, 1) := by decide +kernel
theorem dX12_settle_54 : decode cX12_settle 54 = .ok (.aload_n 0, 1) := by decide +kernel
theorem dX12_settle_55 : decode cX12_settle 55 = .ok (.getfield 7, 3) := by decide +kernel
theorem dX12_settle_58 : decode cX12_settle 58 = .ok (.iconst 4, 1) := by decide +kernel
theorem dX12_settle_59 : decode cX12_settle 59 = .ok (.iaload, 1) := by decide +kernel
theorem dX12_settle_60 : decode cX12_settle 60 = .ok (.if_icmp .ge 26, 3) := by decide +kernel
theorem dX12_settle_63 : decode cX12_settle 63 = .ok (.aload_n 0, 1) := by decide +kernel
theorem dX12_settle_64 : decode cX12_settle 64 = .ok (.getfield 59, 3) := by decide +kernel
theorem dX12_settle_67 : decode cX12_settle 67 = .ok (.iload_n 2, 1) := by decide +kernel
theorem dX12_settle_68 : decode cX12_settle 68 = .ok (.aload_n 0, 1) := by decide +kernel
theorem dX12_settle_69 : decode cX12_settle 69 = .ok (.iload_n 2, 1) := by decide +kernel
theorem dX12_settle_70 : decode cX12_settle 70 = .ok (.aload_n 0, 1) := by decide +kernel
theorem dX12_settle_71 : decode cX12_settle 71 = .ok (.getfield 7, 3) := by decide +kernel
theorem dX12_settle_74 : decode cX12_settle 74 = .ok (.iconst 0, 1) := by decide +kernel
theorem dX12_settle_75 : decode cX12_settle 75 = .ok (.iaload, 1) := by decide +kernel
theorem dX12_settle_76 : decode cX12_settle 76 = .ok (.invokevirtual 227, 3) := by decide +kernel
theorem dX12_settle_79 : decode cX12_settle 79 = .ok (.iastore, 1) := by decide +kernel
theorem dX12_settle_80 : decode cX12_settle 80 = .ok (.iinc 2 1, 3) := by decide +kernel
theorem dX12_settle_83 : decode cX12_settle 83 = .ok (.goto (-30), 3) := by decide +kernel
theorem dX12_settle_86 : decode cX12_settle 86 = .ok (.iconst 0, 1) := by decide +kernel
theorem dX12_settle_87 : decode cX12_settle 87 = .ok (.istore_n 2, 1) := by decide +kernel
theorem dX12_settle_88 : decode cX12_settle 88 = .ok (.iconst 3, 1) := by decide +kernel
theorem dX12_settle_89 : decode cX12_settle 89 = .ok (.istore_n 3, 1) := by decide +kernel
theorem dX12_settle_90 : decode cX12_settle 90 = .ok (.iload_n 3, 1) := by decide +kernel
theorem dX12_settle_91 : decode cX12_settle 91 = .ok (.ifCond .lt 102, 3) := by decide +kernel
theorem dX12_settle_94 : decode cX12_settle 94 = .ok (.iconst 0, 1) := by decide +kernel
theorem dX12_settle_95 : decode cX12_settle 95 = .ok (.istore 4, 2) := by decide +kernel
theorem dX12_settle_97 : decode cX12_settle 97 = .ok (.iload 4, 2) := by decide +kernel
theorem dX12_settle_99 : decode cX12_settle 99 = .ok (.aload_n 0, 1) := by decide +kernel
theorem dX12_settle_100 : decode cX12_settle 100 = .ok (.getfield 7, 3) := by decide +kernel
theorem dX12_settle_103 : decode cX12_settle 103 = .ok (.bipush 8, 2) := by decide +kernel
theorem dX12_settle_105 : decode cX12_settle 105 = .ok (.iaload, 1) := by decide +kernel
theorem dX12_settle_106 : decode cX12_settle 106 = .ok (.if_icmp .ge 81, 3) := by decide +kernel
theorem dX12_settle_109 : decode cX12_settle 109 = .ok (.sipush 5338, 3) := by decide +kernel
theorem dX12_settle_112 : decode cX12_settle 112 = .ok (.iconst 5, 1) := by decide +kernel
theorem dX12_settle_113 : decode cX12_settle 113 = .ok (.iload 4, 2) := by decide +kernel
theorem dX12_settle_115 : decode cX12_settle 115 = .ok (.imul, 1) := by decide +kernel
theorem dX12_settle_116 : decode cX12_settle 116 = .ok (.iadd, 1) := by decide +kernel
theorem dX12_settle_117 : decode cX12_settle 117 = .ok (.istore 5, 2) := by decide +kernel
theorem dX12_settle_119 : decode cX12_settle 119 = .ok (.aload_n 0, 1) := by decide +kernel
theorem dX12_settle_120 : decode cX12_settle 120 = .ok (.getfield 7, 3) := by decide +kernel
theorem dX12_settle_123 : decode cX12_settle 123 = .ok (.iload 5, 2) := by decide +kernel
theorem dX12_settle_125 : decode cX12_settle 125 = .ok (.iconst 1, 1) := by decide +kernel
theorem dX12_settle_126 : decode cX12_settle 126 = .ok (.iadd, 1) := by decide +kernel
theorem dX12_settle_127 : decode cX12_settle 127 = .ok (.iaload, 1) := by decide +kernel
theorem dX12_settle_128 : decode cX12_settle 128 = .ok (.iload_n 1, 1) := by decide +kernel
theorem dX12_settle_129 : decode cX12_settle 129 = .ok (.if_icmp .ne 52, 3) := by decide +kernel
theorem dX12_settle_132 : decode cX12_settle 132 = .ok (.aload_n 0, 1) := by decide +kernel
theorem dX12_settle_133 : decode cX12_settle 133 = .ok (.getfield 7, 3) := by decide +kernel
theorem dX12_settle_136 : decode cX12_settle 136 = .ok (.iload 5, 2) := by decide +kernel
theorem dX12_settle_138 : decode cX12_settle 138 = .ok (.iconst 3, 1) := by decide +kernel
theorem dX12_settle_139 : decode cX12_settle 139 = .ok (.iadd, 1) := by decide +kernel
theorem dX12_settle_140 : decode cX12_settle 140 = .ok (.iaload, 1) := by decide +kernel
theorem dX12_settle_141 : decode cX12_settle 141 = .ok (.iconst 1, 1) := by decide +kernel
theorem dX12_settle_142 : decode cX12_settle 142 = .ok (.if_icmp .eq 39, 3) := by decide +kernel
theorem dX12_settle_145 : decode cX12_settle 145 = .ok (.aload_n 0, 1) := by decide +kernel
theorem dX12_settle_146 : decode cX12_settle 146 = .ok (.getfield 59, 3) := by decide +kernel
theorem dX12_settle_149 : decode cX12_settle 149 = .ok (.aload_n 0, 1) := by decide +kernel
theorem dX12_settle_150 : decode cX12_settle 150 = .ok (.getfield 7, 3) := by decide +kernel
theorem dX12_settle_153 : decode cX12_settle 153 = .ok (.iload 5, 2) := by decide +kernel
theorem dX12_settle_155 : decode cX12_settle 155 = .ok (.iaload, 1) := by decide +kernel
theorem dX12_settle_156 : decode cX12_settle 156 = .ok (.iaload, 1) := by decide +kernel
theorem dX12_settle_157 : decode cX12_settle 157 = .ok (.iload_n 3, 1) := by decide +kernel
theorem dX12_settle_158 : decode cX12_settle 158 = .ok (.if_icmp .eq 6, 3) := by decide +kernel
theorem dX12_settle_161 : decode cX12_settle 161 = .ok (.goto 20, 3) := by decide +kernel
theorem dX12_settle_164 : decode cX12_settle 164 = .ok (.iload_n 2, 1) := by decide +kernel
theorem dX12_settle_165 : decode cX12_settle 165 = .ok (.aload_n 0, 1) := by decide +kernel
theorem dX12_settle_166 : decode cX12_settle 166 = .ok (.iload 4, 2) := by decide +kernel
theorem dX12_settle_168 : decode cX12_settle 168 = .ok (.invokevirtual 266, 3) := by decide +kernel
theorem dX12_settle_171 : decode cX12_settle 171 = .ok (.ifCond .eq 7, 3) := by decide +kernel
theorem dX12_settle_174 : decode cX12_settle 174 = .ok (.iconst 1, 1) := by decide +kernel
theorem dX12_settle_175 : decode cX12_settle 175 = .ok (.goto 4, 3) := by decide +kernel
theorem dX12_settle_178 : decode cX12_settle 178 = .ok (.iconst 0, 1) := by decide +kernel
theorem dX12_settle_179 : decode cX12_settle 179 = .ok (.iadd, 1) := by decide +kernel
theorem dX12_settle_180 : decode cX12_settle 180 = .ok (.istore_n 2, 1) := by decide +kernel
theorem dX12_settle_181 : decode cX12_settle 181 = .ok (.iinc 4 1, 3) := by decide +kernel
theorem dX12_settle_184 : decode cX12_settle 184 = .ok (.goto (-87), 3) := by decide +kernel
theorem dX12_settle_187 : decode cX12_settle 187 = .ok (.iinc 3 (-1), 3) := by decide +kernel
theorem dX12_settle_190 : decode cX12_settle 190 = .ok (.goto (-100), 3) := by decide +kernel
theorem dX12_settle_193 : decode cX12_settle 193 = .ok (.iload_n 2, 1) := by decide +kernel
theorem dX12_settle_194 : decode cX12_settle 194 = .ok (.ireturn, 1) := by decide +kernel
theorem dX12_asked_0 : decode cX12_asked 0 = .ok (.iload_n 1, 1) := by decide +kernel
theorem dX12_asked_1 : decode cX12_asked 1 = .ok (.iconst 0, 1) := by decide +kernel
theorem dX12_asked_2 : decode cX12_asked 2 = .ok (.aload_n 0, 1) := by decide +kernel
theorem dX12_asked_3 : decode cX12_asked 3 = .ok (.getfield 7, 3) := by decide +kernel
theorem dX12_asked_6 : decode cX12_asked 6 = .ok (.bipush 8, 2) := by decide +kernel
theorem dX12_asked_8 : decode cX12_asked 8 = .ok (.iaload, 1) := by decide +kernel
theorem dX12_asked_9 : decode cX12_asked 9 = .ok (.iconst 1, 1) := by decide +kernel
theorem dX12_asked_10 : decode cX12_asked 10 = .ok (.isub, 1) := by decide +kernel
theorem dX12_asked_11 : decode cX12_asked 11 = .ok (.invokestatic 81, 3) := by decide +kernel
theorem dX12_asked_14 : decode cX12_asked 14 = .ok (.ifCond .eq 12, 3) := by decide +kernel
theorem dX12_asked_17 : decode cX12_asked 17 = .ok (.iload_n 2, 1) := by decide +kernel
theorem dX12_asked_18 : decode cX12_asked 18 = .ok (.iconst 0, 1) := by decide +kernel
theorem dX12_asked_19 : decode cX12_asked 19 = .ok (.iconst 4, 1) := by decide +kernel
theorem dX12_asked_20 : decode cX12_asked 20 = .ok (.invokestatic 81, 3) := by decide +kernel
theorem dX12_asked_23 : decode cX12_asked 23 = .ok (.ifCond .ne 6, 3) := by decide +kernel
theorem dX12_asked_26 : decode cX12_asked 26 = .ok (.ldc 85, 2) := by decide +kernel
theorem dX12_asked_28 : decode cX12_asked 28 = .ok (.ireturn, 1) := by decide +kernel
theorem dX12_asked_29 : decode cX12_asked 29 = .ok (.aload_n 0, 1) := by decide +kernel
theorem dX12_asked_30 : decode cX12_asked 30 = .ok (.getfield 7, 3) := by decide +kernel
theorem dX12_asked_33 : decode cX12_asked 33 = .ok (.sipush 5338, 3) := by decide +kernel
theorem dX12_asked_36 : decode cX12_asked 36 = .ok (.iconst 5, 1) := by decide +kernel
theorem dX12_asked_37 : decode cX12_asked 37 = .ok (.iload_n 1, 1) := by decide +kernel
theorem dX12_asked_38 : decode cX12_asked 38 = .ok (.imul, 1) := by decide +kernel
theorem dX12_asked_39 : decode cX12_asked 39 = .ok (.iadd, 1) := by decide +kernel
theorem dX12_asked_40 : decode cX12_asked 40 = .ok (.iload_n 2, 1) := by decide +kernel
theorem dX12_asked_41 : decode cX12_asked 41 = .ok (.iadd, 1) := by decide +kernel
theorem dX12_asked_42 : decode cX12_asked 42 = .ok (.iaload, 1) := by decide +kernel
theorem dX12_asked_43 : decode cX12_asked 43 = .ok (.invokestatic 91, 3) := by decide +kernel
theorem dX12_asked_46 : decode cX12_asked 46 = .ok (.ireturn, 1) := by decide +kernel
theorem dX12_open_0 : decode cX12_open 0 = .ok (.aload_n 0, 1) := by decide +kernel
theorem dX12_open_1 : decode cX12_open 1 = .ok (.iload_n 1, 1) := by decide +kernel
theorem dX12_open_2 : decode cX12_open 2 = .ok (.invokevirtual 260, 3) := by decide +kernel
theorem dX12_open_5 : decode cX12_open 5 = .ok (.ifCond .eq 20, 3) := by decide +kernel
theorem dX12_open_8 : decode cX12_open 8 = .ok (.aload_n 0, 1) := by decide +kernel
theorem dX12_open_9 : decode cX12_open 9 = .ok (.getfield 7, 3) := by decide +kernel
theorem dX12_open_12 : decode cX12_open 12 = .ok (.sipush 5298, 3) := by decide +kernel
theorem dX12_open_15 : decode cX12_open 15 = .ok (.iconst 5, 1) := by decide +kernel
theorem dX12_open_16 : decode cX12_open 16 = .ok (.iload_n 1, 1) := by decide +kernel
theorem dX12_open_17 : decode cX12_open 17 = .ok (.imul, 1) := by decide +kernel
theorem dX12_open_18 : decode cX12_open 18 = .ok (.iadd, 1) := by decide +kernel
theorem dX12_open_19 : decode cX12_open 19 = .ok (.iconst 4, 1) := by decide +kernel
theorem dX12_open_20 : decode cX12_open 20 = .ok (.iadd, 1) := by decide +kernel
theorem dX12_open_21 : decode cX12_open 21 = .ok (.iaload, 1) := by decide +kernel
theorem dX12_open_22 : decode cX12_open 22 = .ok (.goto 5, 3) := by decide +kernel
theorem dX12_open_25 : decode cX12_open 25 = .ok (.ldc 85, 2) := by decide +kernel
theorem dX12_open_27 : decode cX12_open 27 = .ok (.ireturn, 1) := by decide +kernel
theorem dX12_offer_0 : decode cX12_offer 0 = .ok (.iload_n 1, 1) := by decide +kernel
theorem dX12_offer_1 : decode cX12_offer 1 = .ok (.iconst 1, 1) := by decide +kernel
theorem dX12_offer_2 : decode cX12_offer 2 = .ok (.sipush 9999, 3) := by decide +kernel
theorem dX12_offer_5 : decode cX12_offer 5 = .ok (.invokestatic 81, 3) := by decide +kernel
theorem dX12_offer_8 : decode cX12_offer 8 = .ok (.ifCond .eq 24, 3) := by decide +kernel
theorem dX12_offer_11 : decode cX12_offer 11 = .ok (.iload_n 2, 1) := by decide +kernel
theorem dX12_offer_12 : decode cX12_offer 12 = .ok (.iconst 1, 1) := by decide +kernel
theorem dX12_offer_13 : decode cX12_offer 13 = .ok (.sipush 999, 3) := by decide +kernel
theorem dX12_offer_16 : decode cX12_offer 16 = .ok (.invokestatic 81, 3) := by decide +kernel
theorem dX12_offer_19 : decode cX12_offer 19 = .ok (.ifCond .eq 13, 3) := by decide +kernel
theorem dX12_offer_22 : decode cX12_offer 22 = .ok (.iload_n 3, 1) := by decide +kernel
theorem dX12_offer_23 : decode cX12_offer 23 = .ok (.iconst 1, 1) := by decide +kernel
theorem dX12_offer_24 : decode cX12_offer 24 = .ok (.bipush 9, 2) := by decide +kernel
theorem dX12_offer_26 : decode cX12_offer 26 = .ok (.invokestatic 81, 3) := by decide +kernel
theorem dX12_offer_29 : decode cX12_offer 29 = .ok (.ifCond .ne 6, 3) := by decide +kernel
theorem dX12_offer_32 : decode cX12_offer 32 = .ok (.ldc 85, 2) := by decide +kernel
theorem dX12_offer_34 : decode cX12_offer 34 = .ok (.ireturn, 1) := by decide +kernel
theorem dX12_offer_35 : decode cX12_offer 35 = .ok (.aload_n 0, 1) := by decide +kernel
theorem dX12_offer_36 : decode cX12_offer 36 = .ok (.getfield 7, 3) := by decide +kernel
theorem dX12_offer_39 : decode cX12_offer 39 = .ok (.bipush 9, 2) := by decide +kernel
theorem dX12_offer_41 : decode cX12_offer 41 = .ok (.iaload, 1) := by decide +kernel
theorem dX12_offer_42 : decode cX12_offer 42 = .ok (.bipush 8, 2) := by decide +kernel
theorem dX12_offer_44 : decode cX12_offer 44 = .ok (.if_icmp .ne 6, 3) := by decide +kernel
theorem dX12_offer_47 : decode cX12_offer 47 = .ok (.ldc 86, 2) := by decide +kernel
theorem dX12_offer_49 : decode cX12_offer 49 = .ok (.ireturn, 1) := by decide +kernel
theorem dX12_offer_50 : decode cX12_offer 50 = .ok (.sipush 5488, 3) := by decide +kernel
theorem dX12_offer_53 : decode cX12_offer 53 = .ok (.iconst 3, 1) := by decide +kernel
theorem dX12_offer_54 : decode cX12_offer 54 = .ok (.aload_n 0, 1) := by decide +kernel
theorem dX12_offer_55 : decode cX12_offer 55 = .ok (.getfield 7, 3) := by decide +kernel
theorem dX12_offer_58 : decode cX12_offer 58 = .ok (.bipush 9, 2) := by decide +kernel
theorem dX12_offer_60 : decode cX12_offer 60 = .ok (.iaload, 1) := by decide +kernel
theorem dX12_offer_61 : decode cX12_offer 61 = .ok (.imul, 1) := by decide +kernel
theorem dX12_offer_62 : decode cX12_offer 62 = .ok (.iadd, 1) := by decide +kernel
theorem dX12_offer_63 : decode cX12_offer 63 = .ok (.istore 4, 2) := by decide +kernel
theorem dX12_offer_65 : decode cX12_offer 65 = .ok (.aload_n 0, 1) := by decide +kernel
theorem dX12_offer_66 : decode cX12_offer 66 = .ok (.getfield 7, 3) := by decide +kernel
theorem dX12_offer_69 : decode cX12_offer 69 = .ok (.iload 4, 2) := by decide +kernel
theorem dX12_offer_71 : decode cX12_offer 71 = .ok (.iload_n 1, 1) := by decide +kernel
theorem dX12_offer_72 : decode cX12_offer 72 = .ok (.iastore, 1) := by decide +kernel
theorem dX12_offer_73 : decode cX12_offer 73 = .ok (.aload_n 0, 1) := by decide +kernel
theorem dX12_offer_74 : decode cX12_offer 74 = .ok (.getfield 7, 3) := by decide +kernel
theorem dX12_offer_77 : decode cX12_offer 77 = .ok (.iload 4, 2) := by decide +kernel
theorem dX12_offer_79 : decode cX12_offer 79 = .ok (.iconst 1, 1) := by decide +kernel
theorem dX12_offer_80 : decode cX12_offer 80 = .ok (.iadd, 1) := by decide +kernel
theorem dX12_offer_81 : decode cX12_offer 81 = .ok (.iload_n 2, 1) := by decide +kernel
theorem dX12_offer_82 : decode cX12_offer 82 = .ok (.iastore, 1) := by decide +kernel
theorem dX12_offer_83 : decode cX12_offer 83 = .ok (.aload_n 0, 1) := by decide +kernel
theorem dX12_offer_84 : decode cX12_offer 84 = .ok (.getfield 7, 3) := by decide +kernel
theorem dX12_offer_87 : decode cX12_offer 87 = .ok (.iload 4, 2) := by decide +kernel
theorem dX12_offer_89 : decode cX12_offer 89 = .ok (.iconst 2, 1) := by decide +kernel
theorem dX12_offer_90 : decode cX12_offer 90 = .ok (.iadd, 1) := by decide +kernel
theorem dX12_offer_91 : decode cX12_offer 91 = .ok (.iload_n 3, 1) := by decide +kernel
theorem dX12_offer_92 : decode cX12_offer 92 = .ok (.iastore, 1) := by decide +kernel
theorem dX12_offer_93 : decode cX12_offer 93 = .ok (.aload_n 0, 1) := by decide +kernel
theorem dX12_offer_94 : decode cX12_offer 94 = .ok (.getfield 7, 3) := by decide +kernel
theorem dX12_offer_97 : decode cX12_offer 97 = .ok (.bipush 9, 2) := by decide +kernel
theorem dX12_offer_99 : decode cX12_offer 99 = .ok (.dup2, 1) := by decide +kernel
theorem dX12_offer_100 : decode cX12_offer 100 = .ok (.iaload, 1) := by decide +kernel
theorem dX12_offer_101 : decode cX12_offer 101 = .ok (.iconst 1, 1) := by decide +kernel
theorem dX12_offer_102 : decode cX12_offer 102 = .ok (.iadd, 1) := by decide +kernel
theorem dX12_offer_103 : decode cX12_offer 103 = .ok (.iastore, 1) := by decide +kernel
theorem dX12_offer_104 : decode cX12_offer 104 = .ok (.aload_n 0, 1) := by decide +kernel
theorem dX12_offer_105 : decode cX12_offer 105 = .ok (.getfield 7, 3) := by decide +kernel
theorem dX12_offer_108 : decode cX12_offer 108 = .ok (.bipush 9, 2) := by decide +kernel
theorem dX12_offer_110 : decode cX12_offer 110 = .ok (.iaload, 1) := by decide +kernel
theorem dX12_offer_111 : decode cX12_offer 111 = .ok (.iconst 1, 1) := by decide +kernel
theorem dX12_offer_112 : decode cX12_offer 112 = .ok (.isub, 1) := by decide +kernel
theorem dX12_offer_113 : decode cX12_offer 113 = .ok (.ireturn, 1) := by decide +kernel
theorem dX12_clear_0 : decode cX12_clear 0 = .ok (.aload_n 0, 1) := by decide +kernel
theorem dX12_clear_1 : decode cX12_clear 1 = .ok (.getfield 7, 3) := by decide +kernel
theorem dX12_clear_4 : decode cX12_clear 4 = .ok (.bipush 9, 2) := by decide +kernel
theorem dX12_clear_6 : decode cX12_clear 6 = .ok (.iaload, 1) := by decide +kernel
theorem dX12_clear_7 : decode cX12_clear 7 = .ok (.istore_n 1, 1) := by decide +kernel
theorem dX12_clear_8 : decode cX12_clear 8 = .ok (.aload_n 0, 1) := by decide +kernel
theorem dX12_clear_9 : decode cX12_clear 9 = .ok (.getfield 7, 3) := by decide +kernel
theorem dX12_clear_12 : decode cX12_clear 12 = .ok (.bipush 9, 2) := by decide +kernel
theorem dX12_clear_14 : decode cX12_clear 14 = .ok (.iconst 0, 1) := by decide +kernel
theorem dX12_clear_15 : decode cX12_clear 15 = .ok (.iastore, 1) := by decide +kernel
theorem dX12_clear_16 : decode cX12_clear 16 = .ok (.iload_n 1, 1) := by decide +kernel
theorem dX12_clear_17 : decode cX12_clear 17 = .ok (.ireturn, 1) := by decide +kernel
theorem dX12_wayBy_0 : decode cX12_wayBy 0 = .ok (.sipush 5488, 3) := by decide +kernel
theorem dX12_wayBy_3 : decode cX12_wayBy 3 = .ok (.iconst 3, 1) := by decide +kernel
theorem dX12_wayBy_4 : decode cX12_wayBy 4 = .ok (.iload_n 1, 1) := by decide +kernel
theorem dX12_wayBy_5 : decode cX12_wayBy 5 = .ok (.imul, 1) := by decide +kernel
theorem dX12_wayBy_6 : decode cX12_wayBy 6 = .ok (.iadd, 1) := by decide +kernel
theorem dX12_wayBy_7 : decode cX12_wayBy 7 = .ok (.istore 4, 2) := by decide +kernel
theorem dX12_wayBy_9 : decode cX12_wayBy 9 = .ok (.aload_n 0, 1) := by decide +kernel
theorem dX12_wayBy_10 : decode cX12_wayBy 10 = .ok (.getfield 62, 3) := by decide +kernel
theorem dX12_wayBy_13 : decode cX12_wayBy 13 = .ok (.sipush 3001, 3) := by decide +kernel
theorem dX12_wayBy_16 : decode cX12_wayBy 16 = .ok (.iload_n 1, 1) := by decide +kernel
theorem dX12_wayBy_17 : decode cX12_wayBy 17 = .ok (.iconst 1, 1) := by decide +kernel
theorem dX12_wayBy_18 : decode cX12_wayBy 18 = .ok (.iadd, 1) := by decide +kernel
theorem dX12_wayBy_19 : decode cX12_wayBy 19 = .ok (.imul, 1) := by decide +kernel
theorem dX12_wayBy_20 : decode cX12_wayBy 20 = .ok (.iconst 0, 1) := by decide +kernel
theorem dX12_wayBy_21 : decode cX12_wayBy 21 = .ok (.iload_n 2, 1) := by decide +kernel
theorem dX12_wayBy_22 : decode cX12_wayBy 22 = .ok (.iload_n 3, 1) := by decide +kernel
theorem dX12_wayBy_23 : decode cX12_wayBy 23 = .ok (.aload_n 0, 1) := by decide +kernel
theorem dX12_wayBy_24 : decode cX12_wayBy 24 = .ok (.getfield 7, 3) := by decide +kernel
theorem dX12_wayBy_27 : decode cX12_wayBy 27 = .ok (.iload 4, 2) := by decide +kernel
theorem dX12_wayBy_29 : decode cX12_wayBy 29 = .ok (.iconst 1, 1) := by decide +kernel
theorem dX12_wayBy_30 : decode cX12_wayBy 30 = .ok (.iadd, 1) := by decide +kernel
theorem dX12_wayBy_31 : decode cX12_wayBy 31 = .ok (.iaload, 1) := by decide +kernel
theorem dX12_wayBy_32 : decode cX12_wayBy 32 = .ok (.imul, 1) := by decide +kernel
theorem dX12_wayBy_33 : decode cX12_wayBy 33 = .ok (.isub, 1) := by decide +kernel
theorem dX12_wayBy_34 : decode cX12_wayBy 34 = .ok (.invokestatic 209, 3) := by decide +kernel
theorem dX12_wayBy_37 : decode cX12_wayBy 37 = .ok (.iadd, 1) := by decide +kernel
theorem dX12_wayBy_38 : decode cX12_wayBy 38 = .ok (.iaload, 1) := by decide +kernel
theorem dX12_wayBy_39 : decode cX12_wayBy 39 = .ok (.istore 5, 2) := by decide +kernel
theorem dX12_wayBy_41 : decode cX12_wayBy 41 = .ok (.iload 5, 2) := by decide +kernel
theorem dX12_wayBy_43 : decode cX12_wayBy 43 = .ok (.ldc_w 269, 3) := by decide +kernel
theorem dX12_wayBy_46 : decode cX12_wayBy 46 = .ok (.if_icmp .ne 9, 3) := by decide +kernel
theorem dX12_wayBy_49 : decode cX12_wayBy 49 = .ok (.ldc_w 269, 3) := by decide +kernel
theorem dX12_wayBy_52 : decode cX12_wayBy 52 = .ok (.goto 20, 3) := by decide +kernel
theorem dX12_wayBy_55 : decode cX12_wayBy 55 = .ok (.iload 5, 2) := by decide +kernel
theorem dX12_wayBy_57 : decode cX12_wayBy 57 = .ok (.iload_n 3, 1) := by decide +kernel
theorem dX12_wayBy_58 : decode cX12_wayBy 58 = .ok (.bipush 100, 2) := by decide +kernel
theorem dX12_wayBy_60 : decode cX12_wayBy 60 = .ok (.aload_n 0, 1) := by decide +kernel
theorem dX12_wayBy_61 : decode cX12_wayBy 61 = .ok (.getfield 7, 3) := by decide +kernel
theorem dX12_wayBy_64 : decode cX12_wayBy 64 = .ok (.iload 4, 2) := by decide +kernel
theorem dX12_wayBy_66 : decode cX12_wayBy 66 = .ok (.iaload, 1) := by decide +kernel
theorem dX12_wayBy_67 : decode cX12_wayBy 67 = .ok (.imul, 1) := by decide +kernel
theorem dX12_wayBy_68 : decode cX12_wayBy 68 = .ok (.iconst 1, 1) := by decide +kernel
theorem dX12_wayBy_69 : decode cX12_wayBy 69 = .ok (.iadd, 1) := by decide +kernel
theorem dX12_wayBy_70 : decode cX12_wayBy 70 = .ok (.imul, 1) := by decide +kernel
theorem dX12_wayBy_71 : decode cX12_wayBy 71 = .ok (.iadd, 1) := by decide +kernel
theorem dX12_wayBy_72 : decode cX12_wayBy 72 = .ok (.ireturn, 1) := by decide +kernel
theorem dX12_findWays_0 : decode cX12_findWays 0 = .ok (.aload_n 0, 1) := by decide +kernel
theorem dX12_findWays_1 : decode cX12_findWays 1 = .ok (.getfield 7, 3) := by decide +kernel
theorem dX12_findWays_4 : decode cX12_findWays 4 = .ok (.bipush 9, 2) := by decide +kernel
theorem dX12_findWays_6 : decode cX12_findWays 6 = .ok (.iaload, 1) := by decide +kernel
theorem dX12_findWays_7 : decode cX12_findWays 7 = .ok (.istore_n 2, 1) := by decide +kernel
theorem dX12_findWays_8 : decode cX12_findWays 8 = .ok (.iconst 0, 1) := by decide +kernel
theorem dX12_findWays_9 : decode cX12_findWays 9 = .ok (.istore_n 3, 1) := by decide +kernel
theorem dX12_findWays_10 : decode cX12_findWays 10 = .ok (.iload_n 3, 1) := by decide +kernel
theorem dX12_findWays_11 : decode cX12_findWays 11 = .ok (.iload_n 1, 1) := by decide +kernel
theorem dX12_findWays_12 : decode cX12_findWays 12 = .ok (.if_icmp .gt 32, 3) := by decide +kernel
theorem dX12_findWays_15 : decode cX12_findWays 15 = .ok (.aload_n 0, 1) := by decide +kernel
theorem dX12_findWays_16 : decode cX12_findWays 16 = .ok (.getfield 62, 3) := by decide +kernel
theorem dX12_findWays_19 : decode cX12_findWays 19 = .ok (.sipush 3001, 3) := by decide +kernel
theorem dX12_findWays_22 : decode cX12_findWays 22 = .ok (.iload_n 2, 1) := by decide +kernel
theorem dX12_findWays_23 : decode cX12_findWays 23 = .ok (.imul, 1) := by decide +kernel
theorem dX12_findWays_24 : decode cX12_findWays 24 = .ok (.iload_n 3, 1) := by decide +kernel
theorem dX12_findWays_25 : decode cX12_findWays 25 = .ok (.iadd, 1) := by decide +kernel
theorem dX12_findWays_26 : decode cX12_findWays 26 = .ok (.iload_n 3, 1) := by decide +kernel
theorem dX12_findWays_27 : decode cX12_findWays 27 = .ok (.ifCond .ne 7, 3) := by decide +kernel
theorem dX12_findWays_30 : decode cX12_findWays 30 = .ok (.iconst 0, 1) := by decide +kernel
theorem dX12_findWays_31 : decode cX12_findWays 31 = .ok (.goto 6, 3) := by decide +kernel
theorem dX12_findWays_34 : decode cX12_findWays 34 = .ok (.ldc_w 269, 3) := by decide +kernel
theorem dX12_findWays_37 : decode cX12_findWays 37 = .ok (.iastore, 1) := by decide +kernel
theorem dX12_findWays_38 : decode cX12_findWays 38 = .ok (.iinc 3 1, 3) := by decide +kernel
theorem dX12_findWays_41 : decode cX12_findWays 41 = .ok (.goto (-31), 3) := by decide +kernel
theorem dX12_findWays_44 : decode cX12_findWays 44 = .ok (.iload_n 2, 1) := by decide +kernel
theorem dX12_findWays_45 : decode cX12_findWays 45 = .ok (.iconst 1, 1) := by decide +kernel
theorem dX12_findWays_46 : decode cX12_findWays 46 = .ok (.isub, 1) := by decide +kernel
theorem dX12_findWays_47 : decode cX12_findWays 47 = .ok (.istore_n 3, 1) := by decide +kernel
theorem dX12_findWays_48 : decode cX12_findWays 48 = .ok (.iload_n 3, 1) := by decide +kernel
theorem dX12_findWays_49 : decode cX12_findWays 49 = .ok (.ifCond .lt 88, 3) := by decide +kernel
theorem dX12_findWays_52 : decode cX12_findWays 52 = .ok (.iconst 0, 1) := by decide +kernel
theorem dX12_findWays_53 : decode cX12_findWays 53 = .ok (.istore 4, 2) := by decide +kernel
theorem dX12_findWays_55 : decode cX12_findWays 55 = .ok (.iload 4, 2) := by decide +kernel
theorem dX12_findWays_57 : decode cX12_findWays 57 = .ok (.iload_n 1, 1) := by decide +kernel
theorem dX12_findWays_58 : decode cX12_findWays 58 = .ok (.if_icmp .gt 73, 3) := by decide +kernel
theorem dX12_findWays_61 : decode cX12_findWays 61 = .ok (.ldc_w 269, 3) := by decide +kernel
theorem dX12_findWays_64 : decode cX12_findWays 64 = .ok (.istore 5, 2) := by decide +kernel
theorem dX12_findWays_66 : decode cX12_findWays 66 = .ok (.iconst 0, 1) := by decide +kernel
theorem dX12_findWays_67 : decode cX12_findWays 67 = .ok (.istore 6, 2) := by decide +kernel
theorem dX12_findWays_69 : decode cX12_findWays 69 = .ok (.iload 6, 2) := by decide +kernel
theorem dX12_findWays_71 : decode cX12_findWays 71 = .ok (.aload_n 0, 1) := by decide +kernel
theorem dX12_findWays_72 : decode cX12_findWays 72 = .ok (.getfield 7, 3) := by decide +kernel
theorem dX12_findWays_75 : decode cX12_findWays 75 = .ok (.sipush 5488, 3) := by decide +kernel
theorem dX12_findWays_78 : decode cX12_findWays 78 = .ok (.iconst 3, 1) := by decide +kernel
theorem dX12_findWays_79 : decode cX12_findWays 79 = .ok (.iload_n 3, 1) := by decide +kernel
theorem dX12_findWays_80 : decode cX12_findWays 80 = .ok (.imul, 1) := by decide +kernel
theorem dX12_findWays_81 : decode cX12_findWays 81 = .ok (.iadd, 1) := by decide +kernel
theorem dX12_findWays_82 : decode cX12_findWays 82 = .ok (.iconst 2, 1) := by decide +kernel
theorem dX12_findWays_83 : decode cX12_findWays 83 = .ok (.iadd, 1) := by decide +kernel
theorem dX12_findWays_84 : decode cX12_findWays 84 = .ok (.iaload, 1) := by decide +kernel
theorem dX12_findWays_85 : decode cX12_findWays 85 = .ok (.if_icmp .gt 25, 3) := by decide +kernel
theorem dX12_findWays_88 : decode cX12_findWays 88 = .ok (.iload 5, 2) := by decide +kernel
theorem dX12_findWays_90 : decode cX12_findWays 90 = .ok (.aload_n 0, 1) := by decide +kernel
theorem dX12_findWays_91 : decode cX12_findWays 91 = .ok (.iload_n 3, 1) := by decide +kernel
theorem dX12_findWays_92 : decode cX12_findWays 92 = .ok (.iload 4, 2) := by decide +kernel
theorem dX12_findWays_94 : decode cX12_findWays 94 = .ok (.iload 6, 2) := by decide +kernel
theorem dX12_findWays_96 : decode cX12_findWays 96 = .ok (.invokevirtual 270, 3) := by decide +kernel
theorem dX12_findWays_99 : decode cX12_findWays 99 = .ok (.invokestatic 96, 3) := by decide +kernel
theorem dX12_findWays_102 : decode cX12_findWays 102 = .ok (.istore 5, 2) := by decide +kernel
theorem dX12_findWays_104 : decode cX12_findWays 104 = .ok (.iinc 6 1, 3) := by decide +kernel
theorem dX12_findWays_107 : decode cX12_findWays 107 = .ok (.goto (-38), 3) := by decide +kernel
theorem dX12_findWays_110 : decode cX12_findWays 110 = .ok (.aload_n 0, 1) := by decide +kernel
theorem dX12_findWays_111 : decode cX12_findWays 111 = .ok (.getfield 62, 3) := by decide +kernel
theorem dX12_findWays_114 : decode cX12_findWays 114 = .ok (.sipush 3001, 3) := by decide +kernel
theorem dX12_findWays_117 : decode cX12_findWays 117 = .ok (.iload_n 3, 1) := by decide +kernel
theorem dX12_findWays_118 : decode cX12_findWays 118 = .ok (.imul, 1) := by decide +kernel
theorem dX12_findWays_119 : decode cX12_findWays 119 = .ok (.iload 4, 2) := by decide +kernel
theorem dX12_findWays_121 : decode cX12_findWays 121 = .ok (.iadd, 1) := by decide +kernel
theorem dX12_findWays_122 : decode cX12_findWays 122 = .ok (.iload 5, 2) := by decide +kernel
theorem dX12_findWays_124 : decode cX12_findWays 124 = .ok (.iastore, 1) := by decide +kernel
theorem dX12_findWays_125 : decode cX12_findWays 125 = .ok (.iinc 4 1, 3) := by decide +kernel
theorem dX12_findWays_128 : decode cX12_findWays 128 = .ok (.goto (-73), 3) := by decide +kernel
theorem dX12_findWays_131 : decode cX12_findWays 131 = .ok (.iinc 3 (-1), 3) := by decide +kernel
theorem dX12_findWays_134 : decode cX12_findWays 134 = .ok (.goto (-86), 3) := by decide +kernel
theorem dX12_findWays_137 : decode cX12_findWays 137 = .ok (.return_, 1) := by decide +kernel
theorem dX12_findWay_0 : decode cX12_findWay 0 = .ok (.aload_n 0, 1) := by decide +kernel
theorem dX12_findWay_1 : decode cX12_findWay 1 = .ok (.iload_n 1, 1) := by decide +kernel
theorem dX12_findWay_2 : decode cX12_findWay 2 = .ok (.invokevirtual 273, 3) := by decide +kernel
theorem dX12_findWay_5 : decode cX12_findWay 5 = .ok (.aload_n 0, 1) := by decide +kernel
theorem dX12_findWay_6 : decode cX12_findWay 6 = .ok (.getfield 62, 3) := by decide +kernel
theorem dX12_findWay_9 : decode cX12_findWay 9 = .ok (.iload_n 1, 1) := by decide +kernel
theorem dX12_findWay_10 : decode cX12_findWay 10 = .ok (.iaload, 1) := by decide +kernel
theorem dX12_findWay_11 : decode cX12_findWay 11 = .ok (.istore_n 2, 1) := by decide +kernel
theorem dX12_findWay_12 : decode cX12_findWay 12 = .ok (.iload_n 1, 1) := by decide +kernel
theorem dX12_findWay_13 : decode cX12_findWay 13 = .ok (.istore_n 3, 1) := by decide +kernel
theorem dX12_findWay_14 : decode cX12_findWay 14 = .ok (.iconst 0, 1) := by decide +kernel
theorem dX12_findWay_15 : decode cX12_findWay 15 = .ok (.istore 4, 2) := by decide +kernel
theorem dX12_findWay_17 : decode cX12_findWay 17 = .ok (.iload 4, 2) := by decide +kernel
theorem dX12_findWay_19 : decode cX12_findWay 19 = .ok (.aload_n 0, 1) := by decide +kernel
theorem dX12_findWay_20 : decode cX12_findWay 20 = .ok (.getfield 7, 3) := by decide +kernel
theorem dX12_findWay_23 : decode cX12_findWay 23 = .ok (.bipush 9, 2) := by decide +kernel
theorem dX12_findWay_25 : decode cX12_findWay 25 = .ok (.iaload, 1) := by decide +kernel
theorem dX12_findWay_26 : decode cX12_findWay 26 = .ok (.if_icmp .ge 98, 3) := by decide +kernel
theorem dX12_findWay_29 : decode cX12_findWay 29 = .ok (.iload_n 2, 1) := by decide +kernel
theorem dX12_findWay_30 : decode cX12_findWay 30 = .ok (.ldc_w 269, 3) := by decide +kernel
theorem dX12_findWay_33 : decode cX12_findWay 33 = .ok (.if_icmp .eq 91, 3) := by decide +kernel
theorem dX12_findWay_36 : decode cX12_findWay 36 = .ok (.aload_n 0, 1) := by decide +kernel
theorem dX12_findWay_37 : decode cX12_findWay 37 = .ok (.getfield 7, 3) := by decide +kernel
theorem dX12_findWay_40 : decode cX12_findWay 40 = .ok (.sipush 5488, 3) := by decide +kernel
theorem dX12_findWay_43 : decode cX12_findWay 43 = .ok (.iconst 3, 1) := by decide +kernel
theorem dX12_findWay_44 : decode cX12_findWay 44 = .ok (.iload 4, 2) := by decide +kernel
theorem dX12_findWay_46 : decode cX12_findWay 46 = .ok (.imul, 1) := by decide +kernel
theorem dX12_findWay_47 : decode cX12_findWay 47 = .ok (.iadd, 1) := by decide +kernel
theorem dX12_findWay_48 : decode cX12_findWay 48 = .ok (.iconst 2, 1) := by decide +kernel
theorem dX12_findWay_49 : decode cX12_findWay 49 = .ok (.iadd, 1) := by decide +kernel
theorem dX12_findWay_50 : decode cX12_findWay 50 = .ok (.iaload, 1) := by decide +kernel
theorem dX12_findWay_51 : decode cX12_findWay 51 = .ok (.istore 5, 2) := by decide +kernel
theorem dX12_findWay_53 : decode cX12_findWay 53 = .ok (.aload_n 0, 1) := by decide +kernel
theorem dX12_findWay_54 : decode cX12_findWay 54 = .ok (.iload 4, 2) := by decide +kernel
theorem dX12_findWay_56 : decode cX12_findWay 56 = .ok (.iload_n 3, 1) := by decide +kernel
theorem dX12_findWay_57 : decode cX12_findWay 57 = .ok (.iload 5, 2) := by decide +kernel
theorem dX12_findWay_59 : decode cX12_findWay 59 = .ok (.invokevirtual 270, 3) := by decide +kernel
theorem dX12_findWay_62 : decode cX12_findWay 62 = .ok (.aload_n 0, 1) := by decide +kernel
theorem dX12_findWay_63 : decode cX12_findWay 63 = .ok (.getfield 62, 3) := by decide +kernel
theorem dX12_findWay_66 : decode cX12_findWay 66 = .ok (.sipush 3001, 3) := by decide +kernel
theorem dX12_findWay_69 : decode cX12_findWay 69 = .ok (.iload 4, 2) := by decide +kernel
theorem dX12_findWay_71 : decode cX12_findWay 71 = .ok (.imul, 1) := by decide +kernel
theorem dX12_findWay_72 : decode cX12_findWay 72 = .ok (.iload_n 3, 1) := by decide +kernel
theorem dX12_findWay_73 : decode cX12_findWay 73 = .ok (.iadd, 1) := by decide +kernel
theorem dX12_findWay_74 : decode cX12_findWay 74 = .ok (.iaload, 1) := by decide +kernel
theorem dX12_findWay_75 : decode cX12_findWay 75 = .ok (.if_icmp .eq 9, 3) := by decide +kernel
theorem dX12_findWay_78 : decode cX12_findWay 78 = .ok (.iinc 5 (-1), 3) := by decide +kernel
theorem dX12_findWay_81 : decode cX12_findWay 81 = .ok (.goto (-28), 3) := by decide +kernel
theorem dX12_findWay_84 : decode cX12_findWay 84 = .ok (.aload_n 0, 1) := by decide +kernel
theorem dX12_findWay_85 : decode cX12_findWay 85 = .ok (.getfield 65, 3) := by decide +kernel
theorem dX12_findWay_88 : decode cX12_findWay 88 = .ok (.iload 4, 2) := by decide +kernel
theorem dX12_findWay_90 : decode cX12_findWay 90 = .ok (.iload 5, 2) := by decide +kernel
theorem dX12_findWay_92 : decode cX12_findWay 92 = .ok (.iastore, 1) := by decide +kernel
theorem dX12_findWay_93 : decode cX12_findWay 93 = .ok (.iconst 0, 1) := by decide +kernel
theorem dX12_findWay_94 : decode cX12_findWay 94 = .ok (.iload_n 3, 1) := by decide +kernel
theorem dX12_findWay_95 : decode cX12_findWay 95 = .ok (.iload 5, 2) := by decide +kernel
theorem dX12_findWay_97 : decode cX12_findWay 97 = .ok (.aload_n 0, 1) := by decide +kernel
theorem dX12_findWay_98 : decode cX12_findWay 98 = .ok (.getfield 7, 3) := by decide +kernel
theorem dX12_findWay_101 : decode cX12_findWay 101 = .ok (.sipush 5488, 3) := by decide +kernel
theorem dX12_findWay_104 : decode cX12_findWay 104 = .ok (.iconst 3, 1) := by decide +kernel
theorem dX12_findWay_105 : decode cX12_findWay 105 = .ok (.iload 4, 2) := by decide +kernel
theorem dX12_findWay_107 : decode cX12_findWay 107 = .ok (.imul, 1) := by decide +kernel
theorem dX12_findWay_108 : decode cX12_findWay 108 = .ok (.iadd, 1) := by decide +kernel
theorem dX12_findWay_109 : decode cX12_findWay 109 = .ok (.iconst 1, 1) := by decide +kernel
theorem dX12_findWay_110 : decode cX12_findWay 110 = .ok (.iadd, 1) := by decide +kernel
theorem dX12_findWay_111 : decode cX12_findWay 111 = .ok (.iaload, 1) := by decide +kernel
theorem dX12_findWay_112 : decode cX12_findWay 112 = .ok (.imul, 1) := by decide +kernel
theorem dX12_findWay_113 : decode cX12_findWay 113 = .ok (.isub, 1) := by decide +kernel
theorem dX12_findWay_114 : decode cX12_findWay 114 = .ok (.invokestatic 209, 3) := by decide +kernel
theorem dX12_findWay_117 : decode cX12_findWay 117 = .ok (.istore_n 3, 1) := by decide +kernel
theorem dX12_findWay_118 : decode cX12_findWay 118 = .ok (.iinc 4 1, 3) := by decide +kernel
theorem dX12_findWay_121 : decode cX12_findWay 121 = .ok (.goto (-104), 3) := by decide +kernel
theorem dX12_findWay_124 : decode cX12_findWay 124 = .ok (.iload_n 2, 1) := by decide +kernel
theorem dX12_findWay_125 : decode cX12_findWay 125 = .ok (.ireturn, 1) := by decide +kernel
theorem dX12_way_0 : decode cX12_way 0 = .ok (.iload_n 1, 1) := by decide +kernel
theorem dX12_way_1 : decode cX12_way 1 = .ok (.iconst 0, 1) := by decide +kernel
theorem dX12_way_2 : decode cX12_way 2 = .ok (.sipush 3000, 3) := by decide +kernel
theorem dX12_way_5 : decode cX12_way 5 = .ok (.invokestatic 81, 3) := by decide +kernel
theorem dX12_way_8 : decode cX12_way 8 = .ok (.ifCond .ne 6, 3) := by decide +kernel
theorem dX12_way_11 : decode cX12_way 11 = .ok (.ldc 85, 2) := by decide +kernel
theorem dX12_way_13 : decode cX12_way 13 = .ok (.ireturn, 1) := by decide +kernel
theorem dX12_way_14 : decode cX12_way 14 = .ok (.aload_n 0, 1) := by decide +kernel
theorem dX12_way_15 : decode cX12_way 15 = .ok (.iload_n 1, 1) := by decide +kernel
theorem dX12_way_16 : decode cX12_way 16 = .ok (.invokevirtual 276, 3) := by decide +kernel
theorem dX12_way_19 : decode cX12_way 19 = .ok (.istore_n 2, 1) := by decide +kernel
theorem dX12_way_20 : decode cX12_way 20 = .ok (.iload_n 2, 1) := by decide +kernel
theorem dX12_way_21 : decode cX12_way 21 = .ok (.ldc_w 269, 3) := by decide +kernel
theorem dX12_way_24 : decode cX12_way 24 = .ok (.if_icmp .ne 8, 3) := by decide +kernel
theorem dX12_way_27 : decode cX12_way 27 = .ok (.ldc 111, 2) := by decide +kernel
theorem dX12_way_29 : decode cX12_way 29 = .ok (.goto 7, 3) := by decide +kernel
theorem dX12_way_32 : decode cX12_way 32 = .ok (.iload_n 2, 1) := by decide +kernel
theorem dX12_way_33 : decode cX12_way 33 = .ok (.bipush 100, 2) := by decide +kernel
theorem dX12_way_35 : decode cX12_way 35 = .ok (.idiv, 1) := by decide +kernel
theorem dX12_way_36 : decode cX12_way 36 = .ok (.ireturn, 1) := by decide +kernel
theorem dX12_taken_0 : decode cX12_taken 0 = .ok (.iload_n 1, 1) := by decide +kernel
theorem dX12_taken_1 : decode cX12_taken 1 = .ok (.iconst 0, 1) := by decide +kernel
theorem dX12_taken_2 : decode cX12_taken 2 = .ok (.sipush 3000, 3) := by decide +kernel
theorem dX12_taken_5 : decode cX12_taken 5 = .ok (.invokestatic 81, 3) := by decide +kernel
theorem dX12_taken_8 : decode cX12_taken 8 = .ok (.ifCond .eq 20, 3) := by decide +kernel
theorem dX12_taken_11 : decode cX12_taken 11 = .ok (.iload_n 2, 1) := by decide +kernel
theorem dX12_taken_12 : decode cX12_taken 12 = .ok (.iconst 0, 1) := by decide +kernel
theorem dX12_taken_13 : decode cX12_taken 13 = .ok (.aload_n 0, 1) := by decide +kernel
theorem dX12_taken_14 : decode cX12_taken 14 = .ok (.getfield 7, 3) := by decide +kernel
theorem dX12_taken_17 : decode cX12_taken 17 = .ok (.bipush 9, 2) := by decide +kernel
theorem dX12_taken_19 : decode cX12_taken 19 = .ok (.iaload, 1) := by decide +kernel
theorem dX12_taken_20 : decode cX12_taken 20 = .ok (.iconst 1, 1) := by decide +kernel
theorem dX12_taken_21 : decode cX12_taken 21 = .ok (.isub, 1) := by decide +kernel
theorem dX12_taken_22 : decode cX12_taken 22 = .ok (.invokestatic 81, 3) := by decide +kernel
theorem dX12_taken_25 : decode cX12_taken 25 = .ok (.ifCond .ne 6, 3) := by decide +kernel
theorem dX12_taken_28 : decode cX12_taken 28 = .ok (.ldc 85, 2) := by decide +kernel
theorem dX12_taken_30 : decode cX12_taken 30 = .ok (.ireturn, 1) := by decide +kernel
theorem dX12_taken_31 : decode cX12_taken 31 = .ok (.aload_n 0, 1) := by decide +kernel
theorem dX12_taken_32 : decode cX12_taken 32 = .ok (.iload_n 1, 1) := by decide +kernel
theorem dX12_taken_33 : decode cX12_taken 33 = .ok (.invokevirtual 276, 3) := by decide +kernel
theorem dX12_taken_36 : decode cX12_taken 36 = .ok (.ldc_w 269, 3) := by decide +kernel
theorem dX12_taken_39 : decode cX12_taken 39 = .ok (.if_icmp .ne 8, 3) := by decide +kernel
theorem dX12_taken_42 : decode cX12_taken 42 = .ok (.ldc 111, 2) := by decide +kernel
theorem dX12_taken_44 : decode cX12_taken 44 = .ok (.goto 9, 3) := by decide +kernel
theorem dX12_taken_47 : decode cX12_taken 47 = .ok (.aload_n 0, 1) := by decide +kernel
theorem dX12_taken_48 : decode cX12_taken 48 = .ok (.getfield 65, 3) := by decide +kernel
theorem dX12_taken_51 : decode cX12_taken 51 = .ok (.iload_n 2, 1) := by decide +kernel
theorem dX12_taken_52 : decode cX12_taken 52 = .ok (.iaload, 1) := by decide +kernel
theorem dX12_taken_53 : decode cX12_taken 53 = .ok (.ireturn, 1) := by decide +kernel
theorem dX12_tell_0 : decode cX12_tell 0 = .ok (.aload_n 0, 1) := by decide +kernel
theorem dX12_tell_1 : decode cX12_tell 1 = .ok (.getfield 279, 3) := by decide +kernel
theorem dX12_tell_4 : decode cX12_tell 4 = .ok (.bipush 16, 2) := by decide +kernel
theorem dX12_tell_6 : decode cX12_tell 6 = .ok (.if_icmp .ne 6, 3) := by decide +kernel
theorem dX12_tell_9 : decode cX12_tell 9 = .ok (.ldc 86, 2) := by decide +kernel
theorem dX12_tell_11 : decode cX12_tell 11 = .ok (.ireturn, 1) := by decide +kernel
theorem dX12_tell_12 : decode cX12_tell 12 = .ok (.aload_n 0, 1) := by decide +kernel
theorem dX12_tell_13 : decode cX12_tell 13 = .ok (.getfield 68, 3) := by decide +kernel
theorem dX12_tell_16 : decode cX12_tell 16 = .ok (.aload_n 0, 1) := by decide +kernel
theorem dX12_tell_17 : decode cX12_tell 17 = .ok (.getfield 279, 3) := by decide +kernel
theorem dX12_tell_20 : decode cX12_tell 20 = .ok (.iload_n 1, 1) := by decide +kernel
theorem dX12_tell_21 : decode cX12_tell 21 = .ok (.iastore, 1) := by decide +kernel
theorem dX12_tell_22 : decode cX12_tell 22 = .ok (.aload_n 0, 1) := by decide +kernel
theorem dX12_tell_23 : decode cX12_tell 23 = .ok (.dup, 1) := by decide +kernel
theorem dX12_tell_24 : decode cX12_tell 24 = .ok (.getfield 279, 3) := by decide +kernel
theorem dX12_tell_27 : decode cX12_tell 27 = .ok (.iconst 1, 1) := by decide +kernel
theorem dX12_tell_28 : decode cX12_tell 28 = .ok (.iadd, 1) := by decide +kernel
theorem dX12_tell_29 : decode cX12_tell 29 = .ok (.putfield 279, 3) := by decide +kernel
theorem dX12_tell_32 : decode cX12_tell 32 = .ok (.aload_n 0, 1) := by decide +kernel
theorem dX12_tell_33 : decode cX12_tell 33 = .ok (.getfield 279, 3) := by decide +kernel
theorem dX12_tell_36 : decode cX12_tell 36 = .ok (.ireturn, 1) := by decide +kernel
theorem dX12_check_0 : decode cX12_check 0 = .ok (.aload_n 0, 1) := by decide +kernel
theorem dX12_check_1 : decode cX12_check 1 = .ok (.getfield 279, 3) := by decide +kernel
theorem dX12_check_4 : decode cX12_check 4 = .ok (.istore_n 2, 1) := by decide +kernel
theorem dX12_check_5 : decode cX12_check 5 = .ok (.aload_n 0, 1) := by decide +kernel
theorem dX12_check_6 : decode cX12_check 6 = .ok (.iconst 0, 1) := by decide +kernel
theorem dX12_check_7 : decode cX12_check 7 = .ok (.putfield 279, 3) := by decide +kernel
theorem dX12_check_10 : decode cX12_check 10 = .ok (.iload_n 1, 1) := by decide +kernel
theorem dX12_check_11 : decode cX12_check 11 = .ok (.iconst 0, 1) := by decide +kernel
theorem dX12_check_12 : decode cX12_check 12 = .ok (.sipush 3000, 3) := by decide +kernel
theorem dX12_check_15 : decode cX12_check 15 = .ok (.invokestatic 81, 3) := by decide +kernel
theorem dX12_check_18 : decode cX12_check 18 = .ok (.ifCond .ne 6, 3) := by decide +kernel
theorem dX12_check_21 : decode cX12_check 21 = .ok (.ldc 85, 2) := by decide +kernel
theorem dX12_check_23 : decode cX12_check 23 = .ok (.ireturn, 1) := by decide +kernel
theorem dX12_check_24 : decode cX12_check 24 = .ok (.aload_n 0, 1) := by decide +kernel
theorem dX12_check_25 : decode cX12_check 25 = .ok (.iload_n 1, 1) := by decide +kernel
theorem dX12_check_26 : decode cX12_check 26 = .ok (.invokevirtual 276, 3) := by decide +kernel
theorem dX12_check_29 : decode cX12_check 29 = .ok (.ldc_w 269, 3) := by decide +kernel
theorem dX12_check_32 : decode cX12_check 32 = .ok (.if_icmp .ne 6, 3) := by decide +kernel
theorem dX12_check_35 : decode cX12_check 35 = .ok (.ldc 111, 2) := by decide +kernel
theorem dX12_check_37 : decode cX12_check 37 = .ok (.ireturn, 1) := by decide +kernel
theorem dX12_check_38 : decode cX12_check 38 = .ok (.iconst 0, 1) := by decide +kernel
theorem dX12_check_39 : decode cX12_check 39 = .ok (.istore_n 3, 1) := by decide +kernel
theorem dX12_check_40 : decode cX12_check 40 = .ok (.iload_n 3, 1) := by decide +kernel
theorem dX12_check_41 : decode cX12_check 41 = .ok (.iload_n 2, 1) := by decide +kernel
theorem dX12_check_42 : decode cX12_check 42 = .ok (.if_icmp .ge 39, 3) := by decide +kernel
theorem dX12_check_45 : decode cX12_check 45 = .ok (.iload_n 3, 1) := by decide +kernel
theorem dX12_check_46 : decode cX12_check 46 = .ok (.aload_n 0, 1) := by decide +kernel
theorem dX12_check_47 : decode cX12_check 47 = .ok (.getfield 7, 3) := by decide +kernel
theorem dX12_check_50 : decode cX12_check 50 = .ok (.bipush 9, 2) := by decide +kernel
theorem dX12_check_52 : decode cX12_check 52 = .ok (.iaload, 1) := by decide +kernel
theorem dX12_check_53 : decode cX12_check 53 = .ok (.if_icmp .ge 18, 3) := by decide +kernel
theorem dX12_check_56 : decode cX12_check 56 = .ok (.aload_n 0, 1) := by decide +kernel
theorem dX12_check_57 : decode cX12_check 57 = .ok (.getfield 68, 3) := by decide +kernel
theorem dX12_check_60 : decode cX12_check 60 = .ok (.iload_n 3, 1) := by decide +kernel
theorem dX12_check_61 : decode cX12_check 61 = .ok (.iaload, 1) := by decide +kernel
theorem dX12_check_62 : decode cX12_check 62 = .ok (.aload_n 0, 1) := by decide +kernel
theorem dX12_check_63 : decode cX12_check 63 = .ok (.getfield 65, 3) := by decide +kernel
theorem dX12_check_66 : decode cX12_check 66 = .ok (.iload_n 3, 1) := by decide +kernel
theorem dX12_check_67 : decode cX12_check 67 = .ok (.iaload, 1) := by decide +kernel
theorem dX12_check_68 : decode cX12_check 68 = .ok (.if_icmp .eq 7, 3) := by decide +kernel
theorem dX12_check_71 : decode cX12_check 71 = .ok (.iconst 1, 1) := by decide +kernel
theorem dX12_check_72 : decode cX12_check 72 = .ok (.iload_n 3, 1) := by decide +kernel
theorem dX12_check_73 : decode cX12_check 73 = .ok (.iadd, 1) := by decide +kernel
theorem dX12_check_74 : decode cX12_check 74 = .ok (.ireturn, 1) := by decide +kernel
theorem dX12_check_75 : decode cX12_check 75 = .ok (.iinc 3 1, 3) := by decide +kernel
theorem dX12_check_78 : decode cX12_check 78 = .ok (.goto (-38), 3) := by decide +kernel
theorem dX12_check_81 : decode cX12_check 81 = .ok (.iload_n 2, 1) := by decide +kernel
theorem dX12_check_82 : decode cX12_check 82 = .ok (.aload_n 0, 1) := by decide +kernel
theorem dX12_check_83 : decode cX12_check 83 = .ok (.getfield 7, 3) := by decide +kernel
theorem dX12_check_86 : decode cX12_check 86 = .ok (.bipush 9, 2) := by decide +kernel
theorem dX12_check_88 : decode cX12_check 88 = .ok (.iaload, 1) := by decide +kernel
theorem dX12_check_89 : decode cX12_check 89 = .ok (.if_icmp .ge 9, 3) := by decide +kernel
theorem dX12_check_92 : decode cX12_check 92 = .ok (.iconst 1, 1) := by decide +kernel
theorem dX12_check_93 : decode cX12_check 93 = .ok (.iload_n 2, 1) := by decide +kernel
theorem dX12_check_94 : decode cX12_check 94 = .ok (.iadd, 1) := by decide +kernel
theorem dX12_check_95 : decode cX12_check 95 = .ok (.goto 4, 3) := by decide +kernel
theorem dX12_check_98 : decode cX12_check 98 = .ok (.iconst 0, 1) := by decide +kernel
theorem dX12_check_99 : decode cX12_check 99 = .ok (.ireturn, 1) := by decide +kernel
theorem dX12_ringOf_0 : decode cX12_ringOf 0 = .ok (.iconst 1, 1) := by decide +kernel
theorem dX12_ringOf_1 : decode cX12_ringOf 1 = .ok (.iload_n 1, 1) := by decide +kernel
theorem dX12_ringOf_2 : decode cX12_ringOf 2 = .ok (.ishl, 1) := by decide +kernel
theorem dX12_ringOf_3 : decode cX12_ringOf 3 = .ok (.istore_n 2, 1) := by decide +kernel
theorem dX12_ringOf_4 : decode cX12_ringOf 4 = .ok (.iconst 0, 1) := by decide +kernel
theorem dX12_ringOf_5 : decode cX12_ringOf 5 = .ok (.istore_n 3, 1) := by decide +kernel
theorem dX12_ringOf_6 : decode cX12_ringOf 6 = .ok (.iload_n 3, 1) := by decide +kernel
theorem dX12_ringOf_7 : decode cX12_ringOf 7 = .ok (.iload_n 2, 1) := by decide +kernel
theorem dX12_ringOf_8 : decode cX12_ringOf 8 = .ok (.if_icmp .eq 115, 3) := by decide +kernel
theorem dX12_ringOf_11 : decode cX12_ringOf 11 = .ok (.iload_n 2, 1) := by decide +kernel
theorem dX12_ringOf_12 : decode cX12_ringOf 12 = .ok (.istore_n 3, 1) := by decide +kernel
theorem dX12_ringOf_13 : decode cX12_ringOf 13 = .ok (.iconst 0, 1) := by decide +kernel
theorem dX12_ringOf_14 : decode cX12_ringOf 14 = .ok (.istore 4, 2) := by decide +kernel
theorem dX12_ringOf_16 : decode cX12_ringOf 16 = .ok (.iconst 0, 1) := by decide +kernel
theorem dX12_ringOf_17 : decode cX12_ringOf 17 = .ok (.istore 5, 2) := by decide +kernel
theorem dX12_ringOf_19 : decode cX12_ringOf 19 = .ok (.iload 5, 2) := by decide +kernel
theorem dX12_ringOf_21 : decode cX12_ringOf 21 = .ok (.aload_n 0, 1) := by decide +kernel
theorem dX12_ringOf_22 : decode cX12_ringOf 22 = .ok (.getfield 7, 3) := by decide +kernel
theorem dX12_ringOf_25 : decode cX12_ringOf 25 = .ok (.iconst 4, 1) := by decide +kernel
theorem dX12_ringOf_26 : decode cX12_ringOf 26 = .ok (.iaload, 1) := by decide +kernel
theorem dX12_ringOf_27 : decode cX12_ringOf 27 = .ok (.if_icmp .ge 42, 3) := by decide +kernel
theorem dX12_ringOf_30 : decode cX12_ringOf 30 = .ok (.iload 4, 2) := by decide +kernel
theorem dX12_ringOf_32 : decode cX12_ringOf 32 = .ok (.iload_n 2, 1) := by decide +kernel
theorem dX12_ringOf_33 : decode cX12_ringOf 33 = .ok (.iload 5, 2) := by decide +kernel
theorem dX12_ringOf_35 : decode cX12_ringOf 35 = .ok (.ishr, 1) := by decide +kernel
theorem dX12_ringOf_36 : decode cX12_ringOf 36 = .ok (.iconst 1, 1) := by decide +kernel
theorem dX12_ringOf_37 : decode cX12_ringOf 37 = .ok (.iand, 1) := by decide +kernel
theorem dX12_ringOf_38 : decode cX12_ringOf 38 = .ok (.iconst 1, 1) := by decide +kernel
theorem dX12_ringOf_39 : decode cX12_ringOf 39 = .ok (.if_icmp .ne 20, 3) := by decide +kernel
theorem dX12_ringOf_42 : decode cX12_ringOf 42 = .ok (.aload_n 0, 1) := by decide +kernel
theorem dX12_ringOf_43 : decode cX12_ringOf 43 = .ok (.getfield 7, 3) := by decide +kernel
theorem dX12_ringOf_46 : decode cX12_ringOf 46 = .ok (.bipush 20, 2) := by decide +kernel
theorem dX12_ringOf_48 : decode cX12_ringOf 48 = .ok (.iconst 3, 1) := by decide +kernel
theorem dX12_ringOf_49 : decode cX12_ringOf 49 = .ok (.iload 5, 2) := by decide +kernel
theorem dX12_ringOf_51 : decode cX12_ringOf 51 = .ok (.imul, 1) := by decide +kernel
theorem dX12_ringOf_52 : decode cX12_ringOf 52 = .ok (.iadd, 1) := by decide +kernel
theorem dX12_ringOf_53 : decode cX12_ringOf 53 = .ok (.iconst 1, 1) := by decide +kernel
theorem dX12_ringOf_54 : decode cX12_ringOf 54 = .ok (.iadd, 1) := by decide +kernel
theorem dX12_ringOf_55 : decode cX12_ringOf 55 = .ok (.iaload, 1) := by decide +kernel
theorem dX12_ringOf_56 : decode cX12_ringOf 56 = .ok (.goto 4, 3) := by decide +kernel
theorem dX12_ringOf_59 : decode cX12_ringOf 59 = .ok (.iconst 0, 1) := by decide +kernel
theorem dX12_ringOf_60 : decode cX12_ringOf 60 = .ok (.ior, 1) := by decide +kernel
theorem dX12_ringOf_61 : decode cX12_ringOf 61 = .ok (.istore 4, 2) := by decide +kernel
theorem dX12_ringOf_63 : decode cX12_ringOf 63 = .ok (.iinc 5 1, 3) := by decide +kernel
theorem dX12_ringOf_66 : decode cX12_ringOf 66 = .ok (.goto (-47), 3) := by decide +kernel
theorem dX12_ringOf_69 : decode cX12_ringOf 69 = .ok (.iconst 0, 1) := by decide +kernel
theorem dX12_ringOf_70 : decode cX12_ringOf 70 = .ok (.istore 5, 2) := by decide +kernel
theorem dX12_ringOf_72 : decode cX12_ringOf 72 = .ok (.iload 5, 2) := by decide +kernel
theorem dX12_ringOf_74 : decode cX12_ringOf 74 = .ok (.aload_n 0, 1) := by decide +kernel
theorem dX12_ringOf_75 : decode cX12_ringOf 75 = .ok (.getfield 7, 3) := by decide +kernel
theorem dX12_ringOf_78 : decode cX12_ringOf 78 = .ok (.iconst 4, 1) := by decide +kernel
theorem dX12_ringOf_79 : decode cX12_ringOf 79 = .ok (.iaload, 1) := by decide +kernel
theorem dX12_ringOf_80 : decode cX12_ringOf 80 = .ok (.if_icmp .ge 40, 3) := by decide +kernel
theorem dX12_ringOf_83 : decode cX12_ringOf 83 = .ok (.iload_n 2, 1) := by decide +kernel
theorem dX12_ringOf_84 : decode cX12_ringOf 84 = .ok (.aload_n 0, 1) := by decide +kernel
theorem dX12_ringOf_85 : decode cX12_ringOf 85 = .ok (.getfield 7, 3) := by decide +kernel
theorem dX12_ringOf_88 : decode cX12_ringOf 88 = .ok (.bipush 20, 2) := by decide +kernel
theorem dX12_ringOf_90 : decode cX12_ringOf 90 = .ok (.iconst 3, 1) := by decide +kernel
theorem dX12_ringOf_91 : decode cX12_ringOf 91 = .ok (.iload 5, 2) := by decide +kernel
theorem dX12_ringOf_93 : decode cX12_ringOf 93 = .ok (.imul, 1) := by decide +kernel
theorem dX12_ringOf_94 : decode cX12_ringOf 94 = .ok (.iadd, 1) := by decide +kernel
theorem dX12_ringOf_95 : decode cX12_ringOf 95 = .ok (.iconst 1, 1) := by decide +kernel
theorem dX12_ringOf_96 : decode cX12_ringOf 96 = .ok (.iadd, 1) := by decide +kernel
theorem dX12_ringOf_97 : decode cX12_ringOf 97 = .ok (.iaload, 1) := by decide +kernel
theorem dX12_ringOf_98 : decode cX12_ringOf 98 = .ok (.iload 4, 2) := by decide +kernel
theorem dX12_ringOf_100 : decode cX12_ringOf 100 = .ok (.iand, 1) := by decide +kernel
theorem dX12_ringOf_101 : decode cX12_ringOf 101 = .ok (.ifCond .eq 10, 3) := by decide +kernel
theorem dX12_ringOf_104 : decode cX12_ringOf 104 = .ok (.iconst 1, 1) := by decide +kernel
theorem dX12_ringOf_105 : decode cX12_ringOf 105 = .ok (.iload 5, 2) := by decide +kernel
theorem dX12_ringOf_107 : decode cX12_ringOf 107 = .ok (.ishl, 1) := by decide +kernel
theorem dX12_ringOf_108 : decode cX12_ringOf 108 = .ok (.goto 4, 3) := by decide +kernel
theorem dX12_ringOf_111 : decode cX12_ringOf 111 = .ok (.iconst 0, 1) := by decide +kernel
theorem dX12_ringOf_112 : decode cX12_ringOf 112 = .ok (.ior, 1) := by decide +kernel
theorem dX12_ringOf_113 : decode cX12_ringOf 113 = .ok (.istore_n 2, 1) := by decide +kernel
theorem dX12_ringOf_114 : decode cX12_ringOf 114 = .ok (.iinc 5 1, 3) := by decide +kernel
theorem dX12_ringOf_117 : decode cX12_ringOf 117 = .ok (.goto (-45), 3) := by decide +kernel
theorem dX12_ringOf_120 : decode cX12_ringOf 120 = .ok (.goto (-114), 3) := by decide +kernel
theorem dX12_ringOf_123 : decode cX12_ringOf 123 = .ok (.iload_n 2, 1) := by decide +kernel
theorem dX12_ringOf_124 : decode cX12_ringOf 124 = .ok (.ireturn, 1) := by decide +kernel
theorem dX12_ring_0 : decode cX12_ring 0 = .ok (.iload_n 1, 1) := by decide +kernel
theorem dX12_ring_1 : decode cX12_ring 1 = .ok (.ifCond .ge 6, 3) := by decide +kernel
theorem dX12_ring_4 : decode cX12_ring 4 = .ok (.ldc 85, 2) := by decide +kernel
theorem dX12_ring_6 : decode cX12_ring 6 = .ok (.ireturn, 1) := by decide +kernel
theorem dX12_ring_7 : decode cX12_ring 7 = .ok (.iload_n 1, 1) := by decide +kernel
theorem dX12_ring_8 : decode cX12_ring 8 = .ok (.istore_n 2, 1) := by decide +kernel
theorem dX12_ring_9 : decode cX12_ring 9 = .ok (.iconst 0, 1) := by decide +kernel
theorem dX12_ring_10 : decode cX12_ring 10 = .ok (.istore_n 3, 1) := by decide +kernel
theorem dX12_ring_11 : decode cX12_ring 11 = .ok (.iload_n 3, 1) := by decide +kernel
theorem dX12_ring_12 : decode cX12_ring 12 = .ok (.aload_n 0, 1) := by decide +kernel
theorem dX12_ring_13 : decode cX12_ring 13 = .ok (.getfield 7, 3) := by decide +kernel
theorem dX12_ring_16 : decode cX12_ring 16 = .ok (.iconst 4, 1) := by decide +kernel
theorem dX12_ring_17 : decode cX12_ring 17 = .ok (.iaload, 1) := by decide +kernel
theorem dX12_ring_18 : decode cX12_ring 18 = .ok (.if_icmp .ge 77, 3) := by decide +kernel
theorem dX12_ring_21 : decode cX12_ring 21 = .ok (.aload_n 0, 1) := by decide +kernel
theorem dX12_ring_22 : decode cX12_ring 22 = .ok (.iload_n 3, 1) := by decide +kernel
theorem dX12_ring_23 : decode cX12_ring 23 = .ok (.invokevirtual 282, 3) := by decide +kernel
theorem dX12_ring_26 : decode cX12_ring 26 = .ok (.istore 4, 2) := by decide +kernel
theorem dX12_ring_28 : decode cX12_ring 28 = .ok (.iconst 0, 1) := by decide +kernel
theorem dX12_ring_29 : decode cX12_ring 29 = .ok (.istore 5, 2) := by decide +kernel
theorem dX12_ring_31 : decode cX12_ring 31 = .ok (.iconst 0, 1) := by decide +kernel
theorem dX12_ring_32 : decode cX12_ring 32 = .ok (.istore 6, 2) := by decide +kernel
theorem dX12_ring_34 : decode cX12_ring 34 = .ok (.iload 6, 2) := by decide +kernel
theorem dX12_ring_36 : decode cX12_ring 36 = .ok (.bipush 10, 2) := by decide +kernel
theorem dX12_ring_38 : decode cX12_ring 38 = .ok (.if_icmp .ge 21, 3) := by decide +kernel
theorem dX12_ring_41 : decode cX12_ring 41 = .ok (.iload 5, 2) := by decide +kernel
theorem dX12_ring_43 : decode cX12_ring 43 = .ok (.iload 4, 2) := by decide +kernel
theorem dX12_ring_45 : decode cX12_ring 45 = .ok (.iload 6, 2) := by decide +kernel
theorem dX12_ring_47 : decode cX12_ring 47 = .ok (.ishr, 1) := by decide +kernel
theorem dX12_ring_48 : decode cX12_ring 48 = .ok (.iconst 1, 1) := by decide +kernel
theorem dX12_ring_49 : decode cX12_ring 49 = .ok (.iand, 1) := by decide +kernel
theorem dX12_ring_50 : decode cX12_ring 50 = .ok (.iadd, 1) := by decide +kernel
theorem dX12_ring_51 : decode cX12_ring 51 = .ok (.istore 5, 2) := by decide +kernel
theorem dX12_ring_53 : decode cX12_ring 53 = .ok (.iinc 6 1, 3) := by decide +kernel
theorem dX12_ring_56 : decode cX12_ring 56 = .ok (.goto (-22), 3) := by decide +kernel
theorem dX12_ring_59 : decode cX12_ring 59 = .ok (.iload 5, 2) := by decide +kernel
theorem dX12_ring_61 : decode cX12_ring 61 = .ok (.iconst 3, 1) := by decide +kernel
theorem dX12_ring_62 : decode cX12_ring 62 = .ok (.if_icmp .lt 27, 3) := by decide +kernel
theorem dX12_ring_65 : decode cX12_ring 65 = .ok (.iload 4, 2) := by decide +kernel
theorem dX12_ring_67 : decode cX12_ring 67 = .ok (.iconst 1, 1) := by decide +kernel
theorem dX12_ring_68 : decode cX12_ring 68 = .ok (.iload_n 3, 1) := by decide +kernel
theorem dX12_ring_69 : decode cX12_ring 69 = .ok (.ishl, 1) := by decide +kernel
theorem dX12_ring_70 : decode cX12_ring 70 = .ok (.iconst 1, 1) := by decide +kernel
theorem dX12_ring_71 : decode cX12_ring 71 = .ok (.isub, 1) := by decide +kernel
theorem dX12_ring_72 : decode cX12_ring 72 = .ok (.iand, 1) := by decide +kernel
theorem dX12_ring_73 : decode cX12_ring 73 = .ok (.ifCond .eq 6, 3) := by decide +kernel
theorem dX12_ring_76 : decode cX12_ring 76 = .ok (.goto 13, 3) := by decide +kernel
theorem dX12_ring_79 : decode cX12_ring 79 = .ok (.iload_n 2, 1) := by decide +kernel
theorem dX12_ring_80 : decode cX12_ring 80 = .ok (.ifCond .ne 6, 3) := by decide +kernel
theorem dX12_ring_83 : decode cX12_ring 83 = .ok (.iload 4, 2) := by decide +kernel
theorem dX12_ring_85 : decode cX12_ring 85 = .ok (.ireturn, 1) := by decide +kernel
theorem dX12_ring_86 : decode cX12_ring 86 = .ok (.iinc 2 (-1), 3) := by decide +kernel
theorem dX12_ring_89 : decode cX12_ring 89 = .ok (.iinc 3 1, 3) := by decide +kernel
theorem dX12_ring_92 : decode cX12_ring 92 = .ok (.goto (-81), 3) := by decide +kernel
theorem dX12_ring_95 : decode cX12_ring 95 = .ok (.ldc 80, 2) := by decide +kernel
theorem dX12_ring_97 : decode cX12_ring 97 = .ok (.ireturn, 1) := by decide +kernel
theorem dX12_keep_0 : decode cX12_keep 0 = .ok (.iconst 0, 1) := by decide +kernel
theorem dX12_keep_1 : decode cX12_keep 1 = .ok (.istore_n 1, 1) := by decide +kernel
theorem dX12_keep_2 : decode cX12_keep 2 = .ok (.iload_n 1, 1) := by decide +kernel
theorem dX12_keep_3 : decode cX12_keep 3 = .ok (.sipush 5512, 3) := by decide +kernel
theorem dX12_keep_6 : decode cX12_keep 6 = .ok (.if_icmp .ge 21, 3) := by decide +kernel
theorem dX12_keep_9 : decode cX12_keep 9 = .ok (.aload_n 0, 1) := by decide +kernel
theorem dX12_keep_10 : decode cX12_keep 10 = .ok (.getfield 13, 3) := by decide +kernel
theorem dX12_keep_13 : decode cX12_keep 13 = .ok (.iload_n 1, 1) := by decide +kernel
theorem dX12_keep_14 : decode cX12_keep 14 = .ok (.aload_n 0, 1) := by decide +kernel
theorem dX12_keep_15 : decode cX12_keep 15 = .ok (.getfield 7, 3) := by decide +kernel
theorem dX12_keep_18 : decode cX12_keep 18 = .ok (.iload_n 1, 1) := by decide +kernel
theorem dX12_keep_19 : decode cX12_keep 19 = .ok (.iaload, 1) := by decide +kernel
theorem dX12_keep_20 : decode cX12_keep 20 = .ok (.iastore, 1) := by decide +kernel
theorem dX12_keep_21 : decode cX12_keep 21 = .ok (.iinc 1 1, 3) := by decide +kernel
theorem dX12_keep_24 : decode cX12_keep 24 = .ok (.goto (-22), 3) := by decide +kernel
theorem dX12_keep_27 : decode cX12_keep 27 = .ok (.aload_n 0, 1) := by decide +kernel
theorem dX12_keep_28 : decode cX12_keep 28 = .ok (.iconst 1, 1) := by decide +kernel
theorem dX12_keep_29 : decode cX12_keep 29 = .ok (.putfield 285, 3) := by decide +kernel
theorem dX12_keep_32 : decode cX12_keep 32 = .ok (.aload_n 0, 1) := by decide +kernel
theorem dX12_keep_33 : decode cX12_keep 33 = .ok (.getfield 7, 3) := by decide +kernel
theorem dX12_keep_36 : decode cX12_keep 36 = .ok (.iconst 0, 1) := by decide +kernel
theorem dX12_keep_37 : decode cX12_keep 37 = .ok (.iaload, 1) := by decide +kernel
theorem dX12_keep_38 : decode cX12_keep 38 = .ok (.ireturn, 1) := by decide +kernel
theorem dX12_again_0 : decode cX12_again 0 = .ok (.aload_n 0, 1) := by decide +kernel
theorem dX12_again_1 : decode cX12_again 1 = .ok (.getfield 285, 3) := by decide +kernel
theorem dX12_again_4 : decode cX12_again 4 = .ok (.ifCond .ne 6, 3) := by decide +kernel
theorem dX12_again_7 : decode cX12_again 7 = .ok (.ldc 111, 2) := by decide +kernel
theorem dX12_again_9 : decode cX12_again 9 = .ok (.ireturn, 1) := by decide +kernel
theorem dX12_again_10 : decode cX12_again 10 = .ok (.iconst 0, 1) := by decide +kernel
theorem dX12_again_11 : decode cX12_again 11 = .ok (.istore_n 1, 1) := by decide +kernel
theorem dX12_again_12 : decode cX12_again 12 = .ok (.iload_n 1, 1) := by decide +kernel
theorem dX12_again_13 : decode cX12_again 13 = .ok (.sipush 5512, 3) := by decide +kernel
theorem dX12_again_16 : decode cX12_again 16 = .ok (.if_icmp .ge 21, 3) := by decide +kernel
theorem dX12_again_19 : decode cX12_again 19 = .ok (.aload_n 0, 1) := by decide +kernel
theorem dX12_again_20 : decode cX12_again 20 = .ok (.getfield 7, 3) := by decide +kernel
theorem dX12_again_23 : decode cX12_again 23 = .ok (.iload_n 1, 1) := by decide +kernel
theorem dX12_again_24 : decode cX12_again 24 = .ok (.aload_n 0, 1) := by decide +kernel
theorem dX12_again_25 : decode cX12_again 25 = .ok (.getfield 13, 3) := by decide +kernel
theorem dX12_again_28 : decode cX12_again 28 = .ok (.iload_n 1, 1) := by decide +kernel
theorem dX12_again_29 : decode cX12_again 29 = .ok (.iaload, 1) := by decide +kernel
theorem dX12_again_30 : decode cX12_again 30 = .ok (.iastore, 1) := by decide +kernel
theorem dX12_again_31 : decode cX12_again 31 = .ok (.iinc 1 1, 3) := by decide +kernel
theorem dX12_again_34 : decode cX12_again 34 = .ok (.goto (-22), 3) := by decide +kernel
theorem dX12_again_37 : decode cX12_again 37 = .ok (.aload_n 0, 1) := by decide +kernel
theorem dX12_again_38 : decode cX12_again 38 = .ok (.getfield 7, 3) := by decide +kernel
theorem dX12_again_41 : decode cX12_again 41 = .ok (.iconst 0, 1) := by decide +kernel
theorem dX12_again_42 : decode cX12_again 42 = .ok (.iaload, 1) := by decide +kernel
theorem dX12_again_43 : decode cX12_again 43 = .ok (.ireturn, 1) := by decide +kernel
theorem dX12_sheet_0 : decode cX12_sheet 0 = .ok (.iload_n 1, 1) := by decide +kernel
theorem dX12_sheet_1 : decode cX12_sheet 1 = .ok (.iconst 0, 1) := by decide +kernel
theorem dX12_sheet_2 : decode cX12_sheet 2 = .ok (.iconst 1, 1) := by decide +kernel
theorem dX12_sheet_3 : decode cX12_sheet 3 = .ok (.invokestatic 81, 3) := by decide +kernel
theorem dX12_sheet_6 : decode cX12_sheet 6 = .ok (.ifCond .eq 9, 3) := by decide +kernel
theorem dX12_sheet_9 : decode cX12_sheet 9 = .ok (.iload_n 2, 1) := by decide +kernel
theorem dX12_sheet_10 : decode cX12_sheet 10 = .ok (.bipush 16, 2) := by decide +kernel
theorem dX12_sheet_12 : decode cX12_sheet 12 = .ok (.if_icmp .le 6, 3) := by decide +kernel
theorem dX12_sheet_15 : decode cX12_sheet 15 = .ok (.ldc 85, 2) := by decide +kernel
theorem dX12_sheet_17 : decode cX12_sheet 17 = .ok (.ireturn, 1) := by decide +kernel
theorem dX12_sheet_18 : decode cX12_sheet 18 = .ok (.iload_n 2, 1) := by decide +kernel
theorem dX12_sheet_19 : decode cX12_sheet 19 = .ok (.ifCond .ge 7, 3) := by decide +kernel
theorem dX12_sheet_22 : decode cX12_sheet 22 = .ok (.ldc_w 288, 3) := by decide +kernel
theorem dX12_sheet_25 : decode cX12_sheet 25 = .ok (.ireturn, 1) := by decide +kernel
theorem dX12_sheet_26 : decode cX12_sheet 26 = .ok (.aload_n 0, 1) := by decide +kernel
theorem dX12_sheet_27 : decode cX12_sheet 27 = .ok (.getfield 74, 3) := by decide +kernel
theorem dX12_sheet_30 : decode cX12_sheet 30 = .ok (.iload_n 1, 1) := by decide +kernel
theorem dX12_sheet_31 : decode cX12_sheet 31 = .ok (.iload_n 2, 1) := by decide +kernel
theorem dX12_sheet_32 : decode cX12_sheet 32 = .ok (.iastore, 1) := by decide +kernel
theorem dX12_sheet_33 : decode cX12_sheet 33 = .ok (.iconst 0, 1) := by decide +kernel
theorem dX12_sheet_34 : decode cX12_sheet 34 = .ok (.istore_n 3, 1) := by decide +kernel
theorem dX12_sheet_35 : decode cX12_sheet 35 = .ok (.iload_n 3, 1) := by decide +kernel
theorem dX12_sheet_36 : decode cX12_sheet 36 = .ok (.iload_n 2, 1) := by decide +kernel
theorem dX12_sheet_37 : decode cX12_sheet 37 = .ok (.if_icmp .ge 21, 3) := by decide +kernel
theorem dX12_sheet_40 : decode cX12_sheet 40 = .ok (.aload_n 0, 1) := by decide +kernel
theorem dX12_sheet_41 : decode cX12_sheet 41 = .ok (.getfield 71, 3) := by decide +kernel
theorem dX12_sheet_44 : decode cX12_sheet 44 = .ok (.bipush 16, 2) := by decide +kernel
theorem dX12_sheet_46 : decode cX12_sheet 46 = .ok (.iload_n 1, 1) := by decide +kernel
theorem dX12_sheet_47 : decode cX12_sheet 47 = .ok (.imul, 1) := by decide +kernel
theorem dX12_sheet_48 : decode cX12_sheet 48 = .ok (.iload_n 3, 1) := by decide +kernel
theorem dX12_sheet_49 : decode cX12_sheet 49 = .ok (.iadd, 1) := by decide +kernel
theorem dX12_sheet_50 : decode cX12_sheet 50 = .ok (.iconst 0, 1) := by decide +kernel
theorem dX12_sheet_51 : decode cX12_sheet 51 = .ok (.iastore, 1) := by decide +kernel
theorem dX12_sheet_52 : decode cX12_sheet 52 = .ok (.iinc 3 1, 3) := by decide +kernel
theorem dX12_sheet_55 : decode cX12_sheet 55 = .ok (.goto (-20), 3) := by decide +kernel
theorem dX12_sheet_58 : decode cX12_sheet 58 = .ok (.iload_n 2, 1) := by decide +kernel
theorem dX12_sheet_59 : decode cX12_sheet 59 = .ok (.ireturn, 1) := by decide +kernel
theorem dX12_mark_0 : decode cX12_mark 0 = .ok (.iload_n 1, 1) := by decide +kernel
theorem dX12_mark_1 : decode cX12_mark 1 = .ok (.iconst 0, 1) := by decide +kernel
theorem dX12_mark_2 : decode cX12_mark 2 = .ok (.iconst 1, 1) := by decide +kernel
theorem dX12_mark_3 : decode cX12_mark 3 = .ok (.invokestatic 81, 3) := by decide +kernel
theorem dX12_mark_6 : decode cX12_mark 6 = .ok (.ifCond .ne 6, 3) := by decide +kernel
theorem dX12_mark_9 : decode cX12_mark 9 = .ok (.ldc 85, 2) := by decide +kernel
theorem dX12_mark_11 : decode cX12_mark 11 = .ok (.ireturn, 1) := by decide +kernel
theorem dX12_mark_12 : decode cX12_mark 12 = .ok (.aload_n 0, 1) := by decide +kernel
theorem dX12_mark_13 : decode cX12_mark 13 = .ok (.getfield 74, 3) := by decide +kernel
theorem dX12_mark_16 : decode cX12_mark 16 = .ok (.iload_n 1, 1) := by decide +kernel
theorem dX12_mark_17 : decode cX12_mark 17 = .ok (.iaload, 1) := by decide +kernel
theorem dX12_mark_18 : decode cX12_mark 18 = .ok (.iconst (-1), 1) := by decide +kernel
theorem dX12_mark_19 : decode cX12_mark 19 = .ok (.if_icmp .ne 6, 3) := by decide +kernel
theorem dX12_mark_22 : decode cX12_mark 22 = .ok (.ldc 95, 2) := by decide +kernel
theorem dX12_mark_24 : decode cX12_mark 24 = .ok (.ireturn, 1) := by decide +kernel
theorem dX12_mark_25 : decode cX12_mark 25 = .ok (.iload_n 2, 1) := by decide +kernel
theorem dX12_mark_26 : decode cX12_mark 26 = .ok (.iconst 0, 1) := by decide +kernel
theorem dX12_mark_27 : decode cX12_mark 27 = .ok (.aload_n 0, 1) := by decide +kernel
theorem dX12_mark_28 : decode cX12_mark 28 = .ok (.getfield 74, 3) := by decide +kernel
theorem dX12_mark_31 : decode cX12_mark 31 = .ok (.iload_n 1, 1) := by decide +kernel
theorem dX12_mark_32 : decode cX12_mark 32 = .ok (.iaload, 1) := by decide +kernel
theorem dX12_mark_33 : decode cX12_mark 33 = .ok (.iconst 1, 1) := by decide +kernel
theorem dX12_mark_34 : decode cX12_mark 34 = .ok (.isub, 1) := by decide +kernel
theorem dX12_mark_35 : decode cX12_mark 35 = .ok (.invokestatic 81, 3) := by decide +kernel
theorem dX12_mark_38 : decode cX12_mark 38 = .ok (.ifCond .ne 7, 3) := by decide +kernel
theorem dX12_mark_41 : decode cX12_mark 41 = .ok (.ldc_w 289, 3) := by decide +kernel
theorem dX12_mark_44 : decode cX12_mark 44 = .ok (.ireturn, 1) := by decide +kernel
theorem dX12_mark_45 : decode cX12_mark 45 = .ok (.aload_n 0, 1) := by decide +kernel
theorem dX12_mark_46 : decode cX12_mark 46 = .ok (.getfield 71, 3) := by decide +kernel
theorem dX12_mark_49 : decode cX12_mark 49 = .ok (.bipush 16, 2) := by decide +kernel
theorem dX12_mark_51 : decode cX12_mark 51 = .ok (.iload_n 1, 1) := by decide +kernel
theorem dX12_mark_52 : decode cX12_mark 52 = .ok (.imul, 1) := by decide +kernel
theorem dX12_mark_53 : decode cX12_mark 53 = .ok (.iload_n 2, 1) := by decide +kernel
theorem dX12_mark_54 : decode cX12_mark 54 = .ok (.iadd, 1) := by decide +kernel
theorem dX12_mark_55 : decode cX12_mark 55 = .ok (.iaload, 1) := by decide +kernel
theorem dX12_mark_56 : decode cX12_mark 56 = .ok (.istore 4, 2) := by decide +kernel
theorem dX12_mark_58 : decode cX12_mark 58 = .ok (.aload_n 0, 1) := by decide +kernel
theorem dX12_mark_59 : decode cX12_mark 59 = .ok (.getfield 71, 3) := by decide +kernel
theorem dX12_mark_62 : decode cX12_mark 62 = .ok (.bipush 16, 2) := by decide +kernel
theorem dX12_mark_64 : decode cX12_mark 64 = .ok (.iload_n 1, 1) := by decide +kernel
theorem dX12_mark_65 : decode cX12_mark 65 = .ok (.imul, 1) := by decide +kernel
theorem dX12_mark_66 : decode cX12_mark 66 = .ok (.iload_n 2, 1) := by decide +kernel
theorem dX12_mark_67 : decode cX12_mark 67 = .ok (.iadd, 1) := by decide +kernel
theorem dX12_mark_68 : decode cX12_mark 68 = .ok (.iload_n 3, 1) := by decide +kernel
theorem dX12_mark_69 : decode cX12_mark 69 = .ok (.i2s, 1) := by decide +kernel
theorem dX12_mark_70 : decode cX12_mark 70 = .ok (.iastore, 1) := by decide +kernel
theorem dX12_mark_71 : decode cX12_mark 71 = .ok (.iload 4, 2) := by decide +kernel
theorem dX12_mark_73 : decode cX12_mark 73 = .ok (.ireturn, 1) := by decide +kernel
theorem dX12_copy_0 : decode cX12_copy 0 = .ok (.iload_n 1, 1) := by decide +kernel
theorem dX12_copy_1 : decode cX12_copy 1 = .ok (.iconst 0, 1) := by decide +kernel
theorem dX12_copy_2 : decode cX12_copy 2 = .ok (.iconst 1, 1) := by decide +kernel
theorem dX12_copy_3 : decode cX12_copy 3 = .ok (.invokestatic 81, 3) := by decide +kernel
theorem dX12_copy_6 : decode cX12_copy 6 = .ok (.ifCond .eq 12, 3) := by decide +kernel
theorem dX12_copy_9 : decode cX12_copy 9 = .ok (.iload_n 3, 1) := by decide +kernel
theorem dX12_copy_10 : decode cX12_copy 10 = .ok (.iconst 0, 1) := by decide +kernel
theorem dX12_copy_11 : decode cX12_copy 11 = .ok (.iconst 1, 1) := by decide +kernel
theorem dX12_copy_12 : decode cX12_copy 12 = .ok (.invokestatic 81, 3) := by decide +kernel
theorem dX12_copy_15 : decode cX12_copy 15 = .ok (.ifCond .ne 6, 3) := by decide +kernel
theorem dX12_copy_18 : decode cX12_copy 18 = .ok (.ldc 85, 2) := by decide +kernel
theorem dX12_copy_20 : decode cX12_copy 20 = .ok (.ireturn, 1) := by decide +kernel
theorem dX12_copy_21 : decode cX12_copy 21 = .ok (.aload_n 0, 1) := by decide +kernel
theorem dX12_copy_22 : decode cX12_copy 22 = .ok (.getfield 74, 3) := by decide +kernel
theorem dX12_copy_25 : decode cX12_copy 25 = .ok (.iload_n 1, 1) := by decide +kernel
theorem dX12_copy_26 : decode cX12_copy 26 = .ok (.iaload, 1) := by decide +kernel
theorem dX12_copy_27 : decode cX12_copy 27 = .ok (.iconst (-1), 1) := by decide +kernel
theorem dX12_copy_28 : decode cX12_copy 28 = .ok (.if_icmp .eq 13, 3) := by decide +kernel
theorem dX12_copy_31 : decode cX12_copy 31 = .ok (.aload_n 0, 1) := by decide +kernel
theorem dX12_copy_32 : decode cX12_copy 32 = .ok (.getfield 74, 3) := by decide +kernel
theorem dX12_copy_35 : decode cX12_copy 35 = .ok (.iload_n 3, 1) := by decide +kernel
theorem dX12_copy_36 : decode cX12_copy 36 = .ok (.iaload, 1) := by decide +kernel
theorem dX12_copy_37 : decode cX12_copy 37 = .ok (.iconst (-1), 1) := by decide +kernel
theorem dX12_copy_38 : decode cX12_copy 38 = .ok (.if_icmp .ne 6, 3) := by decide +kernel
theorem dX12_copy_41 : decode cX12_copy 41 = .ok (.ldc 95, 2) := by decide +kernel
theorem dX12_copy_43 : decode cX12_copy 43 = .ok (.ireturn, 1) := by decide +kernel
theorem dX12_copy_44 : decode cX12_copy 44 = .ok (.iload_n 2, 1) := by decide +kernel
theorem dX12_copy_45 : decode cX12_copy 45 = .ok (.ifCond .lt 40, 3) := by decide +kernel
theorem dX12_copy_48 : decode cX12_copy 48 = .ok (.iload 4, 2) := by decide +kernel
theorem dX12_copy_50 : decode cX12_copy 50 = .ok (.ifCond .lt 35, 3) := by decide +kernel
theorem dX12_copy_53 : decode cX12_copy 53 = .ok (.iload 5, 2) := by decide +kernel
theorem dX12_copy_55 : decode cX12_copy 55 = .ok (.ifCond .lt 30, 3) := by decide +kernel
theorem dX12_copy_58 : decode cX12_copy 58 = .ok (.iload_n 2, 1) := by decide +kernel
theorem dX12_copy_59 : decode cX12_copy 59 = .ok (.aload_n 0, 1) := by decide +kernel
theorem dX12_copy_60 : decode cX12_copy 60 = .ok (.getfield 74, 3) := by decide +kernel
theorem dX12_copy_63 : decode cX12_copy 63 = .ok (.iload_n 1, 1) := by decide +kernel
theorem dX12_copy_64 : decode cX12_copy 64 = .ok (.iaload, 1) := by decide +kernel
theorem dX12_copy_65 : decode cX12_copy 65 = .ok (.iload 5, 2) := by decide +kernel
theorem dX12_copy_67 : decode cX12_copy 67 = .ok (.isub, 1) := by decide +kernel
theorem dX12_copy_68 : decode cX12_copy 68 = .ok (.if_icmp .gt 17, 3) := by decide +kernel
theorem dX12_copy_71 : decode cX12_copy 71 = .ok (.iload 4, 2) := by decide +kernel
theorem dX12_copy_73 : decode cX12_copy 73 = .ok (.aload_n 0, 1) := by decide +kernel
theorem dX12_copy_74 : decode cX12_copy 74 = .ok (.getfield 74, 3) := by decide +kernel
theorem dX12_copy_77 : decode cX12_copy 77 = .ok (.iload_n 3, 1) := by decide +kernel
theorem dX12_copy_78 : decode cX12_copy 78 = .ok (.iaload, 1) := by decide +kernel
theorem dX12_copy_79 : decode cX12_copy 79 = .ok (.iload 5, 2) := by decide +kernel
theorem dX12_copy_81 : decode cX12_copy 81 = .ok (.isub, 1) := by decide +kernel
theorem dX12_copy_82 : decode cX12_copy 82 = .ok (.if_icmp .le 7, 3) := by decide +kernel
theorem dX12_copy_85 : decode cX12_copy 85 = .ok (.ldc_w 289, 3) := by decide +kernel
theorem dX12_copy_88 : decode cX12_copy 88 = .ok (.ireturn, 1) := by decide +kernel
theorem dX12_copy_89 : decode cX12_copy 89 = .ok (.iconst 0, 1) := by decide +kernel
theorem dX12_copy_90 : decode cX12_copy 90 = .ok (.istore 6, 2) := by decide +kernel
theorem dX12_copy_92 : decode cX12_copy 92 = .ok (.iload 6, 2) := by decide +kernel
theorem dX12_copy_94 : decode cX12_copy 94 = .ok (.iload 5, 2) := by decide +kernel
theorem dX12_copy_96 : decode cX12_copy 96 = .ok (.if_icmp .ge 30, 3) := by decide +kernel
theorem dX12_copy_99 : decode cX12_copy 99 = .ok (.aload_n 0, 1) := by decide +kernel
theorem dX12_copy_100 : decode cX12_copy 100 = .ok (.getfield 77, 3) := by decide +kernel
theorem dX12_copy_103 : decode cX12_copy 103 = .ok (.iload 6, 2) := by decide +kernel
theorem dX12_copy_105 : decode cX12_copy 105 = .ok (.aload_n 0, 1) := by decide +kernel
theorem dX12_copy_106 : decode cX12_copy 106 = .ok (.getfield 71, 3) := by decide +kernel
theorem dX12_copy_109 : decode cX12_copy 109 = .ok (.bipush 16, 2) := by decide +kernel
theorem dX12_copy_111 : decode cX12_copy 111 = .ok (.iload_n 1, 1) := by decide +kernel
theorem dX12_copy_112 : decode cX12_copy 112 = .ok (.imul, 1) := by decide +kernel
theorem dX12_copy_113 : decode cX12_copy 113 = .ok (.iload_n 2, 1) := by decide +kernel
theorem dX12_copy_114 : decode cX12_copy 114 = .ok (.iadd, 1) := by decide +kernel
theorem dX12_copy_115 : decode cX12_copy 115 = .ok (.iload 6, 2) := by decide +kernel
theorem dX12_copy_117 : decode cX12_copy 117 = .ok (.iadd, 1) := by decide +kernel
theorem dX12_copy_118 : decode cX12_copy 118 = .ok (.iaload, 1) := by decide +kernel
theorem dX12_copy_119 : decode cX12_copy 119 = .ok (.iastore, 1) := by decide +kernel
theorem dX12_copy_120 : decode cX12_copy 120 = .ok (.iinc 6 1, 3) := by decide +kernel
theorem dX12_copy_123 : decode cX12_copy 123 = .ok (.goto (-31), 3) := by decide +kernel
theorem dX12_copy_126 : decode cX12_copy 126 = .ok (.iconst 0, 1) := by decide +kernel
theorem dX12_copy_127 : decode cX12_copy 127 = .ok (.istore 6, 2) := by decide +kernel
theorem dX12_copy_129 : decode cX12_copy 129 = .ok (.iload 6, 2) := by decide +kernel
theorem dX12_copy_131 : decode cX12_copy 131 = .ok (.iload 5, 2) := by decide +kernel
theorem dX12_copy_133 : decode cX12_copy 133 = .ok (.if_icmp .ge 31, 3) := by decide +kernel
theorem dX12_copy_136 : decode cX12_copy 136 = .ok (.aload_n 0, 1) := by decide +kernel
theorem dX12_copy_137 : decode cX12_copy 137 = .ok (.getfield 71, 3) := by decide +kernel
theorem dX12_copy_140 : decode cX12_copy 140 = .ok (.bipush 16, 2) := by decide +kernel
theorem dX12_copy_142 : decode cX12_copy 142 = .ok (.iload_n 3, 1) := by decide +kernel
theorem dX12_copy_143 : decode cX12_copy 143 = .ok (.imul, 1) := by decide +kernel
theorem dX12_copy_144 : decode cX12_copy 144 = .ok (.iload 4, 2) := by decide +kernel
theorem dX12_copy_146 : decode cX12_copy 146 = .ok (.iadd, 1) := by decide +kernel
theorem dX12_copy_147 : decode cX12_copy 147 = .ok (.iload 6, 2) := by decide +kernel
theorem dX12_copy_149 : decode cX12_copy 149 = .ok (.iadd, 1) := by decide +kernel
theorem dX12_copy_150 : decode cX12_copy 150 = .ok (.aload_n 0, 1) := by decide +kernel
theorem dX12_copy_151 : decode cX12_copy 151 = .ok (.getfield 77, 3) := by decide +kernel
theorem dX12_copy_154 : decode cX12_copy 154 = .ok (.iload 6, 2) := by decide +kernel
theorem dX12_copy_156 : decode cX12_copy 156 = .ok (.iaload, 1) := by decide +kernel
theorem dX12_copy_157 : decode cX12_copy 157 = .ok (.iastore, 1) := by decide +kernel
theorem dX12_copy_158 : decode cX12_copy 158 = .ok (.iinc 6 1, 3) := by decide +kernel
theorem dX12_copy_161 : decode cX12_copy 161 = .ok (.goto (-32), 3) := by decide +kernel
theorem dX12_copy_164 : decode cX12_copy 164 = .ok (.iload 5, 2) := by decide +kernel
theorem dX12_copy_166 : decode cX12_copy 166 = .ok (.ireturn, 1) := by decide +kernel
theorem dX12_count_0 : decode cX12_count 0 = .ok (.iconst 0, 1) := by decide +kernel
theorem dX12_count_1 : decode cX12_count 1 = .ok (.istore_n 2, 1) := by decide +kernel
theorem dX12_count_2 : decode cX12_count 2 = .ok (.iload_n 1, 1) := by decide +kernel
theorem dX12_count_3 : decode cX12_count 3 = .ok (.tableswitch 212 0 10 #[57, 64, 71, 117, 125, 133, 141, 187, 195, 200, 205], 57) := by decide +kernel
theorem dX12_count_60 : decode cX12_count 60 = .ok (.aload_n 0, 1) := by decide +kernel
theorem dX12_count_61 : decode cX12_count 61 = .ok (.getfield 7, 3) := by decide +kernel
theorem dX12_count_64 : decode cX12_count 64 = .ok (.iconst 4, 1) := by decide +kernel
theorem dX12_count_65 : decode cX12_count 65 = .ok (.iaload, 1) := by decide +kernel
theorem dX12_count_66 : decode cX12_count 66 = .ok (.ireturn, 1) := by decide +kernel
theorem dX12_count_67 : decode cX12_count 67 = .ok (.aload_n 0, 1) := by decide +kernel
theorem dX12_count_68 : decode cX12_count 68 = .ok (.getfield 7, 3) := by decide +kernel
theorem dX12_count_71 : decode cX12_count 71 = .ok (.iconst 5, 1) := by decide +kernel
theorem dX12_count_72 : decode cX12_count 72 = .ok (.iaload, 1) := by decide +kernel
theorem dX12_count_73 : decode cX12_count 73 = .ok (.ireturn, 1) := by decide +kernel
theorem dX12_count_74 : decode cX12_count 74 = .ok (.iconst 0, 1) := by decide +kernel
theorem dX12_count_75 : decode cX12_count 75 = .ok (.istore_n 3, 1) := by decide +kernel
theorem dX12_count_76 : decode cX12_count 76 = .ok (.iload_n 3, 1) := by decide +kernel
theorem dX12_count_77 : decode cX12_count 77 = .ok (.aload_n 0, 1) := by decide +kernel
theorem dX12_count_78 : decode cX12_count 78 = .ok (.getfield 7, 3) := by decide +kernel
theorem dX12_count_81 : decode cX12_count 81 = .ok (.iconst 5, 1) := by decide +kernel
theorem dX12_count_82 : decode cX12_count 82 = .ok (.iaload, 1) := by decide +kernel
theorem dX12_count_83 : decode cX12_count 83 = .ok (.if_icmp .ge 35, 3) := by decide +kernel
theorem dX12_count_86 : decode cX12_count 86 = .ok (.iload_n 2, 1) := by decide +kernel
theorem dX12_count_87 : decode cX12_count 87 = .ok (.aload_n 0, 1) := by decide +kernel
theorem dX12_count_88 : decode cX12_count 88 = .ok (.getfield 7, 3) := by decide +kernel
theorem dX12_count_91 : decode cX12_count 91 = .ok (.bipush 50, 2) := by decide +kernel
theorem dX12_count_93 : decode cX12_count 93 = .ok (.bipush 10, 2) := by decide +kernel
theorem dX12_count_95 : decode cX12_count 95 = .ok (.iload_n 3, 1) := by decide +kernel
theorem dX12_count_96 : decode cX12_count 96 = .ok (.imul, 1) := by decide +kernel
theorem dX12_count_97 : decode cX12_count 97 = .ok (.iadd, 1) := by decide +kernel
theorem dX12_count_98 : decode cX12_count 98 = .ok (.iconst 4, 1) := by decide +kernel
theorem dX12_count_99 : decode cX12_count 99 = .ok (.iadd, 1) := by decide +kernel
theorem dX12_count_100 : decode cX12_count 100 = .ok (.iaload, 1) := by decide +kernel
theorem dX12_count_101 : decode cX12_count 101 = .ok (.iconst (-1), 1) := by decide +kernel
theorem dX12_count_102 : decode cX12_count 102 = .ok (.if_icmp .ne 7, 3) := by decide +kernel
theorem dX12_count_105 : decode cX12_count 105 = .ok (.iconst 0, 1) := by decide +kernel
theorem dX12_count_106 : decode cX12_count 106 = .ok (.goto 4, 3) := by decide +kernel
theorem dX12_count_109 : decode cX12_count 109 = .ok (.iconst 1, 1) := by decide +kernel
theorem dX12_count_110 : decode cX12_count 110 = .ok (.iadd, 1) := by decide +kernel
theorem dX12_count_111 : decode cX12_count 111 = .ok (.istore_n 2, 1) := by decide +kernel
theorem dX12_count_112 : decode cX12_count 112 = .ok (.iinc 3 1, 3) := by decide +kernel
theorem dX12_count_115 : decode cX12_count 115 = .ok (.goto (-39), 3) := by decide +kernel
theorem dX12_count_118 : decode cX12_count 118 = .ok (.iload_n 2, 1) := by decide +kernel
theorem dX12_count_119 : decode cX12_count 119 = .ok (.ireturn, 1) := by decide +kernel
theorem dX12_count_120 : decode cX12_count 120 = .ok (.aload_n 0, 1) := by decide +kernel
theorem dX12_count_121 : decode cX12_count 121 = .ok (.getfield 7, 3) := by decide +kernel
theorem dX12_count_124 : decode cX12_count 124 = .ok (.bipush 6, 2) := by decide +kernel
theorem dX12_count_126 : decode cX12_count 126 = .ok (.iaload, 1) := by decide +kernel
theorem dX12_count_127 : decode cX12_count 127 = .ok (.ireturn, 1) := by decide +kernel
theorem dX12_count_128 : decode cX12_count 128 = .ok (.aload_n 0, 1) := by decide +kernel
theorem dX12_count_129 : decode cX12_count 129 = .ok (.getfield 7, 3) := by decide +kernel
theorem dX12_count_132 : decode cX12_count 132 = .ok (.bipush 7, 2) := by decide +kernel
theorem dX12_count_134 : decode cX12_count 134 = .ok (.iaload, 1) := by decide +kernel
theorem dX12_count_135 : decode cX12_count 135 = .ok (.ireturn, 1) := by decide +kernel
theorem dX12_count_136 : decode cX12_count 136 = .ok (.aload_n 0, 1) := by decide +kernel
theorem dX12_count_137 : decode cX12_count 137 = .ok (.getfield 7, 3) := by decide +kernel
theorem dX12_count_140 : decode cX12_count 140 = .ok (.bipush 8, 2) := by decide +kernel
theorem dX12_count_142 : decode cX12_count 142 = .ok (.iaload, 1) := by decide +kernel
theorem dX12_count_143 : decode cX12_count 143 = .ok (.ireturn, 1) := by decide +kernel
theorem dX12_count_144 : decode cX12_count 144 = .ok (.iconst 0, 1) := by decide +kernel
theorem dX12_count_145 : decode cX12_count 145 = .ok (.istore_n 3, 1) := by decide +kernel
theorem dX12_count_146 : decode cX12_count 146 = .ok (.iload_n 3, 1) := by decide +kernel
theorem dX12_count_147 : decode cX12_count 147 = .ok (.aload_n 0, 1) := by decide +kernel
theorem dX12_count_148 : decode cX12_count 148 = .ok (.getfield 7, 3) := by decide +kernel
theorem dX12_count_151 : decode cX12_count 151 = .ok (.bipush 8, 2) := by decide +kernel
theorem dX12_count_153 : decode cX12_count 153 = .ok (.iaload, 1) := by decide +kernel
theorem dX12_count_154 : decode cX12_count 154 = .ok (.if_icmp .ge 34, 3) := by decide +kernel
theorem dX12_count_157 : decode cX12_count 157 = .ok (.iload_n 2, 1) := by decide +kernel
theorem dX12_count_158 : decode cX12_count 158 = .ok (.aload_n 0, 1) := by decide +kernel
theorem dX12_count_159 : decode cX12_count 159 = .ok (.getfield 7, 3) := by decide +kernel
theorem dX12_count_162 : decode cX12_count 162 = .ok (.sipush 5338, 3) := by decide +kernel
theorem dX12_count_165 : decode cX12_count 165 = .ok (.iconst 5, 1) := by decide +kernel
theorem dX12_count_166 : decode cX12_count 166 = .ok (.iload_n 3, 1) := by decide +kernel
theorem dX12_count_167 : decode cX12_count 167 = .ok (.imul, 1) := by decide +kernel
theorem dX12_count_168 : decode cX12_count 168 = .ok (.iadd, 1) := by decide +kernel
theorem dX12_count_169 : decode cX12_count 169 = .ok (.iconst 3, 1) := by decide +kernel
theorem dX12_count_170 : decode cX12_count 170 = .ok (.iadd, 1) := by decide +kernel
theorem dX12_count_171 : decode cX12_count 171 = .ok (.iaload, 1) := by decide +kernel
theorem dX12_count_172 : decode cX12_count 172 = .ok (.ifCond .ne 7, 3) := by decide +kernel
theorem dX12_count_175 : decode cX12_count 175 = .ok (.iconst 1, 1) := by decide +kernel
theorem dX12_count_176 : decode cX12_count 176 = .ok (.goto 4, 3) := by decide +kernel
theorem dX12_count_179 : decode cX12_count 179 = .ok (.iconst 0, 1) := by decide +kernel
theorem dX12_count_180 : decode cX12_count 180 = .ok (.iadd, 1) := by decide +kernel
theorem dX12_count_181 : decode cX12_count 181 = .ok (.istore_n 2, 1) := by decide +kernel
theorem dX12_count_182 : decode cX12_count 182 = .ok (.iinc 3 1, 3) := by decide +kernel
theorem dX12_count_185 : decode cX12_count 185 = .ok (.goto (-39), 3) := by decide +kernel
theorem dX12_count_188 : decode cX12_count 188 = .ok (.iload_n 2, 1) := by decide +kernel
theorem dX12_count_189 : decode cX12_count 189 = .ok (.ireturn, 1) := by decide +kernel
theorem dX12_count_190 : decode cX12_count 190 = .ok (.aload_n 0, 1) := by decide +kernel
theorem dX12_count_191 : decode cX12_count 191 = .ok (.getfield 7, 3) := by decide +kernel
theorem dX12_count_194 : decode cX12_count 194 = .ok (.bipush 9, 2) := by decide +kernel
theorem dX12_count_196 : decode cX12_count 196 = .ok (.iaload, 1) := by decide +kernel
theorem dX12_count_197 : decode cX12_count 197 = .ok (.ireturn, 1) := by decide +kernel
theorem dX12_count_198 : decode cX12_count 198 = .ok (.aload_n 0, 1) := by decide +kernel
theorem dX12_count_199 : decode cX12_count 199 = .ok (.getfield 279, 3) := by decide +kernel
theorem dX12_count_202 : decode cX12_count 202 = .ok (.ireturn, 1) := by decide +kernel
theorem dX12_count_203 : decode cX12_count 203 = .ok (.aload_n 0, 1) := by decide +kernel
theorem dX12_count_204 : decode cX12_count 204 = .ok (.getfield 112, 3) := by decide +kernel
theorem dX12_count_207 : decode cX12_count 207 = .ok (.ireturn, 1) := by decide +kernel
theorem dX12_count_208 : decode cX12_count 208 = .ok (.aload_n 0, 1) := by decide +kernel
theorem dX12_count_209 : decode cX12_count 209 = .ok (.getfield 7, 3) := by decide +kernel
theorem dX12_count_212 : decode cX12_count 212 = .ok (.iconst 0, 1) := by decide +kernel
theorem dX12_count_213 : decode cX12_count 213 = .ok (.iaload, 1) := by decide +kernel
theorem dX12_count_214 : decode cX12_count 214 = .ok (.ireturn, 1) := by decide +kernel
theorem dX12_count_215 : decode cX12_count 215 = .ok (.ldc 85, 2) := by decide +kernel
theorem dX12_count_217 : decode cX12_count 217 = .ok (.ireturn, 1) := by decide +kernel
