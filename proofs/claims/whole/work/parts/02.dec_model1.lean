theorem dX12_init_0 : decode cX12_init 0 = .ok (.aload_n 0, 1) := by decide +kernel
theorem dX12_init_1 : decode cX12_init 1 = .ok (.invokespecial 1, 3) := by decide +kernel
theorem dX12_init_4 : decode cX12_init 4 = .ok (.aload_n 0, 1) := by decide +kernel
theorem dX12_init_5 : decode cX12_init 5 = .ok (.sipush 5512, 3) := by decide +kernel
theorem dX12_init_8 : decode cX12_init 8 = .ok (.newarray .int, 2) := by decide +kernel
theorem dX12_init_10 : decode cX12_init 10 = .ok (.putfield 7, 3) := by decide +kernel
theorem dX12_init_13 : decode cX12_init 13 = .ok (.aload_n 0, 1) := by decide +kernel
theorem dX12_init_14 : decode cX12_init 14 = .ok (.sipush 5512, 3) := by decide +kernel
theorem dX12_init_17 : decode cX12_init 17 = .ok (.newarray .int, 2) := by decide +kernel
theorem dX12_init_19 : decode cX12_init 19 = .ok (.putfield 13, 3) := by decide +kernel
theorem dX12_init_22 : decode cX12_init 22 = .ok (.aload_n 0, 1) := by decide +kernel
theorem dX12_init_23 : decode cX12_init 23 = .ok (.sipush 132, 3) := by decide +kernel
theorem dX12_init_26 : decode cX12_init 26 = .ok (.newarray .int, 2) := by decide +kernel
theorem dX12_init_28 : decode cX12_init 28 = .ok (.putfield 16, 3) := by decide +kernel
theorem dX12_init_31 : decode cX12_init 31 = .ok (.aload_n 0, 1) := by decide +kernel
theorem dX12_init_32 : decode cX12_init 32 = .ok (.sipush 1060, 3) := by decide +kernel
theorem dX12_init_35 : decode cX12_init 35 = .ok (.newarray .int, 2) := by decide +kernel
theorem dX12_init_37 : decode cX12_init 37 = .ok (.putfield 19, 3) := by decide +kernel
theorem dX12_init_40 : decode cX12_init 40 = .ok (.aload_n 0, 1) := by decide +kernel
theorem dX12_init_41 : decode cX12_init 41 = .ok (.sipush 140, 3) := by decide +kernel
theorem dX12_init_44 : decode cX12_init 44 = .ok (.newarray .int, 2) := by decide +kernel
theorem dX12_init_46 : decode cX12_init 46 = .ok (.putfield 22, 3) := by decide +kernel
theorem dX12_init_49 : decode cX12_init 49 = .ok (.aload_n 0, 1) := by decide +kernel
theorem dX12_init_50 : decode cX12_init 50 = .ok (.sipush 140, 3) := by decide +kernel
theorem dX12_init_53 : decode cX12_init 53 = .ok (.newarray .int, 2) := by decide +kernel
theorem dX12_init_55 : decode cX12_init 55 = .ok (.putfield 25, 3) := by decide +kernel
theorem dX12_init_58 : decode cX12_init 58 = .ok (.aload_n 0, 1) := by decide +kernel
theorem dX12_init_59 : decode cX12_init 59 = .ok (.sipush 128, 3) := by decide +kernel
theorem dX12_init_62 : decode cX12_init 62 = .ok (.newarray .int, 2) := by decide +kernel
theorem dX12_init_64 : decode cX12_init 64 = .ok (.putfield 28, 3) := by decide +kernel
theorem dX12_init_67 : decode cX12_init 67 = .ok (.aload_n 0, 1) := by decide +kernel
theorem dX12_init_68 : decode cX12_init 68 = .ok (.bipush 100, 2) := by decide +kernel
theorem dX12_init_70 : decode cX12_init 70 = .ok (.newarray .int, 2) := by decide +kernel
theorem dX12_init_72 : decode cX12_init 72 = .ok (.putfield 31, 3) := by decide +kernel
theorem dX12_init_75 : decode cX12_init 75 = .ok (.aload_n 0, 1) := by decide +kernel
theorem dX12_init_76 : decode cX12_init 76 = .ok (.bipush 100, 2) := by decide +kernel
theorem dX12_init_78 : decode cX12_init 78 = .ok (.newarray .int, 2) := by decide +kernel
theorem dX12_init_80 : decode cX12_init 80 = .ok (.putfield 34, 3) := by decide +kernel
theorem dX12_init_83 : decode cX12_init 83 = .ok (.aload_n 0, 1) := by decide +kernel
theorem dX12_init_84 : decode cX12_init 84 = .ok (.bipush 100, 2) := by decide +kernel
theorem dX12_init_86 : decode cX12_init 86 = .ok (.newarray .int, 2) := by decide +kernel
theorem dX12_init_88 : decode cX12_init 88 = .ok (.putfield 37, 3) := by decide +kernel
theorem dX12_init_91 : decode cX12_init 91 = .ok (.aload_n 0, 1) := by decide +kernel
theorem dX12_init_92 : decode cX12_init 92 = .ok (.bipush 40, 2) := by decide +kernel
theorem dX12_init_94 : decode cX12_init 94 = .ok (.newarray .int, 2) := by decide +kernel
theorem dX12_init_96 : decode cX12_init 96 = .ok (.putfield 40, 3) := by decide +kernel
theorem dX12_init_99 : decode cX12_init 99 = .ok (.aload_n 0, 1) := by decide +kernel
theorem dX12_init_100 : decode cX12_init 100 = .ok (.iconst 4, 1) := by decide +kernel
theorem dX12_init_101 : decode cX12_init 101 = .ok (.newarray .int, 2) := by decide +kernel
theorem dX12_init_103 : decode cX12_init 103 = .ok (.putfield 43, 3) := by decide +kernel
theorem dX12_init_106 : decode cX12_init 106 = .ok (.aload_n 0, 1) := by decide +kernel
theorem dX12_init_107 : decode cX12_init 107 = .ok (.iconst 4, 1) := by decide +kernel
theorem dX12_init_108 : decode cX12_init 108 = .ok (.newarray .int, 2) := by decide +kernel
theorem dX12_init_110 : decode cX12_init 110 = .ok (.putfield 46, 3) := by decide +kernel
theorem dX12_init_113 : decode cX12_init 113 = .ok (.aload_n 0, 1) := by decide +kernel
theorem dX12_init_114 : decode cX12_init 114 = .ok (.bipush 100, 2) := by decide +kernel
theorem dX12_init_116 : decode cX12_init 116 = .ok (.newarray .int, 2) := by decide +kernel
theorem dX12_init_118 : decode cX12_init 118 = .ok (.putfield 49, 3) := by decide +kernel
theorem dX12_init_121 : decode cX12_init 121 = .ok (.aload_n 0, 1) := by decide +kernel
theorem dX12_init_122 : decode cX12_init 122 = .ok (.bipush 100, 2) := by decide +kernel
theorem dX12_init_124 : decode cX12_init 124 = .ok (.newarray .int, 2) := by decide +kernel
theorem dX12_init_126 : decode cX12_init 126 = .ok (.putfield 52, 3) := by decide +kernel
theorem dX12_init_129 : decode cX12_init 129 = .ok (.aload_n 0, 1) := by decide +kernel
theorem dX12_init_130 : decode cX12_init 130 = .ok (.bipush 100, 2) := by decide +kernel
theorem dX12_init_132 : decode cX12_init 132 = .ok (.newarray .boolean, 2) := by decide +kernel
theorem dX12_init_134 : decode cX12_init 134 = .ok (.putfield 55, 3) := by decide +kernel
theorem dX12_init_137 : decode cX12_init 137 = .ok (.aload_n 0, 1) := by decide +kernel
theorem dX12_init_138 : decode cX12_init 138 = .ok (.bipush 10, 2) := by decide +kernel
theorem dX12_init_140 : decode cX12_init 140 = .ok (.newarray .int, 2) := by decide +kernel
theorem dX12_init_142 : decode cX12_init 142 = .ok (.putfield 59, 3) := by decide +kernel
theorem dX12_init_145 : decode cX12_init 145 = .ok (.aload_n 0, 1) := by decide +kernel
theorem dX12_init_146 : decode cX12_init 146 = .ok (.sipush 27009, 3) := by decide +kernel
theorem dX12_init_149 : decode cX12_init 149 = .ok (.newarray .int, 2) := by decide +kernel
theorem dX12_init_151 : decode cX12_init 151 = .ok (.putfield 62, 3) := by decide +kernel
theorem dX12_init_154 : decode cX12_init 154 = .ok (.aload_n 0, 1) := by decide +kernel
theorem dX12_init_155 : decode cX12_init 155 = .ok (.bipush 8, 2) := by decide +kernel
theorem dX12_init_157 : decode cX12_init 157 = .ok (.newarray .int, 2) := by decide +kernel
theorem dX12_init_159 : decode cX12_init 159 = .ok (.putfield 65, 3) := by decide +kernel
theorem dX12_init_162 : decode cX12_init 162 = .ok (.aload_n 0, 1) := by decide +kernel
theorem dX12_init_163 : decode cX12_init 163 = .ok (.bipush 16, 2) := by decide +kernel
theorem dX12_init_165 : decode cX12_init 165 = .ok (.newarray .int, 2) := by decide +kernel
theorem dX12_init_167 : decode cX12_init 167 = .ok (.putfield 68, 3) := by decide +kernel
theorem dX12_init_170 : decode cX12_init 170 = .ok (.aload_n 0, 1) := by decide +kernel
theorem dX12_init_171 : decode cX12_init 171 = .ok (.bipush 32, 2) := by decide +kernel
theorem dX12_init_173 : decode cX12_init 173 = .ok (.newarray .int, 2) := by decide +kernel
theorem dX12_init_175 : decode cX12_init 175 = .ok (.putfield 71, 3) := by decide +kernel
theorem dX12_init_178 : decode cX12_init 178 = .ok (.aload_n 0, 1) := by decide +kernel
theorem dX12_init_179 : decode cX12_init 179 = .ok (.iconst 2, 1) := by decide +kernel
theorem dX12_init_180 : decode cX12_init 180 = .ok (.newarray .int, 2) := by decide +kernel
theorem dX12_init_182 : decode cX12_init 182 = .ok (.dup, 1) := by decide +kernel
theorem dX12_init_183 : decode cX12_init 183 = .ok (.iconst 0, 1) := by decide +kernel
theorem dX12_init_184 : decode cX12_init 184 = .ok (.iconst (-1), 1) := by decide +kernel
theorem dX12_init_185 : decode cX12_init 185 = .ok (.iastore, 1) := by decide +kernel
theorem dX12_init_186 : decode cX12_init 186 = .ok (.dup, 1) := by decide +kernel
theorem dX12_init_187 : decode cX12_init 187 = .ok (.iconst 1, 1) := by decide +kernel
theorem dX12_init_188 : decode cX12_init 188 = .ok (.iconst (-1), 1) := by decide +kernel
theorem dX12_init_189 : decode cX12_init 189 = .ok (.iastore, 1) := by decide +kernel
theorem dX12_init_190 : decode cX12_init 190 = .ok (.putfield 74, 3) := by decide +kernel
theorem dX12_init_193 : decode cX12_init 193 = .ok (.aload_n 0, 1) := by decide +kernel
theorem dX12_init_194 : decode cX12_init 194 = .ok (.bipush 16, 2) := by decide +kernel
theorem dX12_init_196 : decode cX12_init 196 = .ok (.newarray .int, 2) := by decide +kernel
theorem dX12_init_198 : decode cX12_init 198 = .ok (.putfield 77, 3) := by decide +kernel
theorem dX12_init_201 : decode cX12_init 201 = .ok (.aload_n 0, 1) := by decide +kernel
theorem dX12_init_202 : decode cX12_init 202 = .ok (.getfield 7, 3) := by decide +kernel
theorem dX12_init_205 : decode cX12_init 205 = .ok (.iconst 1, 1) := by decide +kernel
theorem dX12_init_206 : decode cX12_init 206 = .ok (.bipush 30, 2) := by decide +kernel
theorem dX12_init_208 : decode cX12_init 208 = .ok (.iastore, 1) := by decide +kernel
theorem dX12_init_209 : decode cX12_init 209 = .ok (.aload_n 0, 1) := by decide +kernel
theorem dX12_init_210 : decode cX12_init 210 = .ok (.getfield 7, 3) := by decide +kernel
theorem dX12_init_213 : decode cX12_init 213 = .ok (.iconst 2, 1) := by decide +kernel
theorem dX12_init_214 : decode cX12_init 214 = .ok (.bipush 90, 2) := by decide +kernel
theorem dX12_init_216 : decode cX12_init 216 = .ok (.iastore, 1) := by decide +kernel
theorem dX12_init_217 : decode cX12_init 217 = .ok (.aload_n 0, 1) := by decide +kernel
theorem dX12_init_218 : decode cX12_init 218 = .ok (.getfield 7, 3) := by decide +kernel
theorem dX12_init_221 : decode cX12_init 221 = .ok (.iconst 3, 1) := by decide +kernel
theorem dX12_init_222 : decode cX12_init 222 = .ok (.bipush 60, 2) := by decide +kernel
theorem dX12_init_224 : decode cX12_init 224 = .ok (.iastore, 1) := by decide +kernel
theorem dX12_init_225 : decode cX12_init 225 = .ok (.iconst 0, 1) := by decide +kernel
theorem dX12_init_226 : decode cX12_init 226 = .ok (.istore_n 1, 1) := by decide +kernel
theorem dX12_init_227 : decode cX12_init 227 = .ok (.iload_n 1, 1) := by decide +kernel
theorem dX12_init_228 : decode cX12_init 228 = .ok (.iconst 3, 1) := by decide +kernel
theorem dX12_init_229 : decode cX12_init 229 = .ok (.if_icmp .ge 37, 3) := by decide +kernel
theorem dX12_init_232 : decode cX12_init 232 = .ok (.aload_n 0, 1) := by decide +kernel
theorem dX12_init_233 : decode cX12_init 233 = .ok (.getfield 7, 3) := by decide +kernel
theorem dX12_init_236 : decode cX12_init 236 = .ok (.bipush 10, 2) := by decide +kernel
theorem dX12_init_238 : decode cX12_init 238 = .ok (.iconst 2, 1) := by decide +kernel
theorem dX12_init_239 : decode cX12_init 239 = .ok (.iload_n 1, 1) := by decide +kernel
theorem dX12_init_240 : decode cX12_init 240 = .ok (.imul, 1) := by decide +kernel
theorem dX12_init_241 : decode cX12_init 241 = .ok (.iadd, 1) := by decide +kernel
theorem dX12_init_242 : decode cX12_init 242 = .ok (.bipush 10, 2) := by decide +kernel
theorem dX12_init_244 : decode cX12_init 244 = .ok (.iastore, 1) := by decide +kernel
theorem dX12_init_245 : decode cX12_init 245 = .ok (.aload_n 0, 1) := by decide +kernel
theorem dX12_init_246 : decode cX12_init 246 = .ok (.getfield 7, 3) := by decide +kernel
theorem dX12_init_249 : decode cX12_init 249 = .ok (.bipush 10, 2) := by decide +kernel
theorem dX12_init_251 : decode cX12_init 251 = .ok (.iconst 2, 1) := by decide +kernel
theorem dX12_init_252 : decode cX12_init 252 = .ok (.iload_n 1, 1) := by decide +kernel
theorem dX12_init_253 : decode cX12_init 253 = .ok (.imul, 1) := by decide +kernel
theorem dX12_init_254 : decode cX12_init 254 = .ok (.iadd, 1) := by decide +kernel
theorem dX12_init_255 : decode cX12_init 255 = .ok (.iconst 1, 1) := by decide +kernel
theorem dX12_init_256 : decode cX12_init 256 = .ok (.iadd, 1) := by decide +kernel
theorem dX12_init_257 : decode cX12_init 257 = .ok (.bipush 8, 2) := by decide +kernel
theorem dX12_init_259 : decode cX12_init 259 = .ok (.iastore, 1) := by decide +kernel
theorem dX12_init_260 : decode cX12_init 260 = .ok (.iinc 1 1, 3) := by decide +kernel
theorem dX12_init_263 : decode cX12_init 263 = .ok (.goto (-36), 3) := by decide +kernel
theorem dX12_init_266 : decode cX12_init 266 = .ok (.return_, 1) := by decide +kernel
theorem dX12_in_0 : decode cX12_in 0 = .ok (.iload_n 0, 1) := by decide +kernel
theorem dX12_in_1 : decode cX12_in 1 = .ok (.iload_n 1, 1) := by decide +kernel
theorem dX12_in_2 : decode cX12_in 2 = .ok (.if_icmp .lt 12, 3) := by decide +kernel
theorem dX12_in_5 : decode cX12_in 5 = .ok (.iload_n 0, 1) := by decide +kernel
theorem dX12_in_6 : decode cX12_in 6 = .ok (.iload_n 2, 1) := by decide +kernel
theorem dX12_in_7 : decode cX12_in 7 = .ok (.if_icmp .gt 7, 3) := by decide +kernel
theorem dX12_in_10 : decode cX12_in 10 = .ok (.iconst 1, 1) := by decide +kernel
theorem dX12_in_11 : decode cX12_in 11 = .ok (.goto 4, 3) := by decide +kernel
theorem dX12_in_14 : decode cX12_in 14 = .ok (.iconst 0, 1) := by decide +kernel
theorem dX12_in_15 : decode cX12_in 15 = .ok (.ireturn, 1) := by decide +kernel
theorem dX12_less_0 : decode cX12_less 0 = .ok (.iload_n 0, 1) := by decide +kernel
theorem dX12_less_1 : decode cX12_less 1 = .ok (.iload_n 1, 1) := by decide +kernel
theorem dX12_less_2 : decode cX12_less 2 = .ok (.if_icmp .ge 7, 3) := by decide +kernel
theorem dX12_less_5 : decode cX12_less 5 = .ok (.iload_n 0, 1) := by decide +kernel
theorem dX12_less_6 : decode cX12_less 6 = .ok (.goto 4, 3) := by decide +kernel
theorem dX12_less_9 : decode cX12_less 9 = .ok (.iload_n 1, 1) := by decide +kernel
theorem dX12_less_10 : decode cX12_less 10 = .ok (.ireturn, 1) := by decide +kernel
theorem dX12_more_0 : decode cX12_more 0 = .ok (.iload_n 0, 1) := by decide +kernel
theorem dX12_more_1 : decode cX12_more 1 = .ok (.iload_n 1, 1) := by decide +kernel
theorem dX12_more_2 : decode cX12_more 2 = .ok (.if_icmp .le 7, 3) := by decide +kernel
theorem dX12_more_5 : decode cX12_more 5 = .ok (.iload_n 0, 1) := by decide +kernel
theorem dX12_more_6 : decode cX12_more 6 = .ok (.goto 4, 3) := by decide +kernel
theorem dX12_more_9 : decode cX12_more 9 = .ok (.iload_n 1, 1) := by decide +kernel
theorem dX12_more_10 : decode cX12_more 10 = .ok (.ireturn, 1) := by decide +kernel
theorem dX12_orNone_0 : decode cX12_orNone 0 = .ok (.iload_n 0, 1) := by decide +kernel
theorem dX12_orNone_1 : decode cX12_orNone 1 = .ok (.iconst (-1), 1) := by decide +kernel
theorem dX12_orNone_2 : decode cX12_orNone 2 = .ok (.if_icmp .ne 8, 3) := by decide +kernel
theorem dX12_orNone_5 : decode cX12_orNone 5 = .ok (.ldc 80, 2) := by decide +kernel
theorem dX12_orNone_7 : decode cX12_orNone 7 = .ok (.goto 4, 3) := by decide +kernel
theorem dX12_orNone_10 : decode cX12_orNone 10 = .ok (.iload_n 0, 1) := by decide +kernel
theorem dX12_orNone_11 : decode cX12_orNone 11 = .ok (.ireturn, 1) := by decide +kernel
theorem dX12_isMember_0 : decode cX12_isMember 0 = .ok (.iload_n 1, 1) := by decide +kernel
theorem dX12_isMember_1 : decode cX12_isMember 1 = .ok (.iconst 0, 1) := by decide +kernel
theorem dX12_isMember_2 : decode cX12_isMember 2 = .ok (.aload_n 0, 1) := by decide +kernel
theorem dX12_isMember_3 : decode cX12_isMember 3 = .ok (.getfield 7, 3) := by decide +kernel
theorem dX12_isMember_6 : decode cX12_isMember 6 = .ok (.iconst 4, 1) := by decide +kernel
theorem dX12_isMember_7 : decode cX12_isMember 7 = .ok (.iaload, 1) := by decide +kernel
theorem dX12_isMember_8 : decode cX12_isMember 8 = .ok (.iconst 1, 1) := by decide +kernel
theorem dX12_isMember_9 : decode cX12_isMember 9 = .ok (.isub, 1) := by decide +kernel
theorem dX12_isMember_10 : decode cX12_isMember 10 = .ok (.invokestatic 81, 3) := by decide +kernel
theorem dX12_isMember_13 : decode cX12_isMember 13 = .ok (.ireturn, 1) := by decide +kernel
theorem dX12_isLine_0 : decode cX12_isLine 0 = .ok (.iload_n 1, 1) := by decide +kernel
theorem dX12_isLine_1 : decode cX12_isLine 1 = .ok (.iconst 0, 1) := by decide +kernel
theorem dX12_isLine_2 : decode cX12_isLine 2 = .ok (.aload_n 0, 1) := by decide +kernel
theorem dX12_isLine_3 : decode cX12_isLine 3 = .ok (.getfield 7, 3) := by decide +kernel
theorem dX12_isLine_6 : decode cX12_isLine 6 = .ok (.iconst 5, 1) := by decide +kernel
theorem dX12_isLine_7 : decode cX12_isLine 7 = .ok (.iaload, 1) := by decide +kernel
theorem dX12_isLine_8 : decode cX12_isLine 8 = .ok (.iconst 1, 1) := by decide +kernel
theorem dX12_isLine_9 : decode cX12_isLine 9 = .ok (.isub, 1) := by decide +kernel
theorem dX12_isLine_10 : decode cX12_isLine 10 = .ok (.invokestatic 81, 3) := by decide +kernel
theorem dX12_isLine_13 : decode cX12_isLine 13 = .ok (.ireturn, 1) := by decide +kernel
theorem dX12_isPast_0 : decode cX12_isPast 0 = .ok (.iload_n 1, 1) := by decide +kernel
theorem dX12_isPast_1 : decode cX12_isPast 1 = .ok (.iconst 0, 1) := by decide +kernel
theorem dX12_isPast_2 : decode cX12_isPast 2 = .ok (.aload_n 0, 1) := by decide +kernel
theorem dX12_isPast_3 : decode cX12_isPast 3 = .ok (.getfield 7, 3) := by decide +kernel
theorem dX12_isPast_6 : decode cX12_isPast 6 = .ok (.iconst 0, 1) := by decide +kernel
theorem dX12_isPast_7 : decode cX12_isPast 7 = .ok (.iaload, 1) := by decide +kernel
theorem dX12_isPast_8 : decode cX12_isPast 8 = .ok (.invokestatic 81, 3) := by decide +kernel
theorem dX12_isPast_11 : decode cX12_isPast 11 = .ok (.ireturn, 1) := by decide +kernel
theorem dX12_isDay_0 : decode cX12_isDay 0 = .ok (.iload_n 0, 1) := by decide +kernel
theorem dX12_isDay_1 : decode cX12_isDay 1 = .ok (.iconst 0, 1) := by decide +kernel
theorem dX12_isDay_2 : decode cX12_isDay 2 = .ok (.sipush 1200, 3) := by decide +kernel
theorem dX12_isDay_5 : decode cX12_isDay 5 = .ok (.invokestatic 81, 3) := by decide +kernel
theorem dX12_isDay_8 : decode cX12_isDay 8 = .ok (.ireturn, 1) := by decide +kernel
theorem dX12_member_0 : decode cX12_member 0 = .ok (.iload_n 1, 1) := by decide +kernel
theorem dX12_member_1 : decode cX12_member 1 = .ok (.iconst 0, 1) := by decide +kernel
theorem dX12_member_2 : decode cX12_member 2 = .ok (.iconst 3, 1) := by decide +kernel
theorem dX12_member_3 : decode cX12_member 3 = .ok (.invokestatic 81, 3) := by decide +kernel
theorem dX12_member_6 : decode cX12_member 6 = .ok (.ifCond .eq 14, 3) := by decide +kernel
theorem dX12_member_9 : decode cX12_member 9 = .ok (.iload_n 2, 1) := by decide +kernel
theorem dX12_member_10 : decode cX12_member 10 = .ok (.iconst 0, 1) := by decide +kernel
theorem dX12_member_11 : decode cX12_member 11 = .ok (.sipush 4095, 3) := by decide +kernel
theorem dX12_member_14 : decode cX12_member 14 = .ok (.invokestatic 81, 3) := by decide +kernel
theorem dX12_member_17 : decode cX12_member 17 = .ok (.ifCond .ne 6, 3) := by decide +kernel
theorem dX12_member_20 : decode cX12_member 20 = .ok (.ldc 85, 2) := by decide +kernel
theorem dX12_member_22 : decode cX12_member 22 = .ok (.ireturn, 1) := by decide +kernel
theorem dX12_member_23 : decode cX12_member 23 = .ok (.aload_n 0, 1) := by decide +kernel
theorem dX12_member_24 : decode cX12_member 24 = .ok (.getfield 7, 3) := by decide +kernel
theorem dX12_member_27 : decode cX12_member 27 = .ok (.iconst 4, 1) := by decide +kernel
theorem dX12_member_28 : decode cX12_member 28 = .ok (.iaload, 1) := by decide +kernel
theorem dX12_member_29 : decode cX12_member 29 = .ok (.bipush 10, 2) := by decide +kernel
theorem dX12_member_31 : decode cX12_member 31 = .ok (.if_icmp .ne 6, 3) := by decide +kernel
theorem dX12_member_34 : decode cX12_member 34 = .ok (.ldc 86, 2) := by decide +kernel
theorem dX12_member_36 : decode cX12_member 36 = .ok (.ireturn, 1) := by decide +kernel
theorem dX12_member_37 : decode cX12_member 37 = .ok (.bipush 20, 2) := by decide +kernel
theorem dX12_member_39 : decode cX12_member 39 = .ok (.iconst 3, 1) := by decide +kernel
theorem dX12_member_40 : decode cX12_member 40 = .ok (.aload_n 0, 1) := by decide +kernel
theorem dX12_member_41 : decode cX12_member 41 = .ok (.getfield 7, 3) := by decide +kernel
theorem dX12_member_44 : decode cX12_member 44 = .ok (.iconst 4, 1) := by decide +kernel
theorem dX12_member_45 : decode cX12_member 45 = .ok (.iaload, 1) := by decide +kernel
theorem dX12_member_46 : decode cX12_member 46 = .ok (.imul, 1) := by decide +kernel
theorem dX12_member_47 : decode cX12_member 47 = .ok (.iadd, 1) := by decide +kernel
theorem dX12_member_48 : decode cX12_member 48 = .ok (.istore_n 3, 1) := by decide +kernel
theorem dX12_member_49 : decode cX12_member 49 = .ok (.aload_n 0, 1) := by decide +kernel
theorem dX12_member_50 : decode cX12_member 50 = .ok (.getfield 7, 3) := by decide +kernel
theorem dX12_member_53 : decode cX12_member 53 = .ok (.iload_n 3, 1) := by decide +kernel
theorem dX12_member_54 : decode cX12_member 54 = .ok (.iload_n 1, 1) := by decide +kernel
theorem dX12_member_55 : decode cX12_member 55 = .ok (.iastore, 1) := by decide +kernel
theorem dX12_member_56 : decode cX12_member 56 = .ok (.aload_n 0, 1) := by decide +kernel
theorem dX12_member_57 : decode cX12_member 57 = .ok (.getfield 7, 3) := by decide +kernel
theorem dX12_member_60 : decode cX12_member 60 = .ok (.iload_n 3, 1) := by decide +kernel
theorem dX12_member_61 : decode cX12_member 61 = .ok (.iconst 1, 1) := by decide +kernel
theorem dX12_member_62 : decode cX12_member 62 = .ok (.iadd, 1) := by decide +kernel
theorem dX12_member_63 : decode cX12_member 63 = .ok (.iload_n 2, 1) := by decide +kernel
theorem dX12_member_64 : decode cX12_member 64 = .ok (.iastore, 1) := by decide +kernel
theorem dX12_member_65 : decode cX12_member 65 = .ok (.aload_n 0, 1) := by decide +kernel
theorem dX12_member_66 : decode cX12_member 66 = .ok (.getfield 7, 3) := by decide +kernel
theorem dX12_member_69 : decode cX12_member 69 = .ok (.iload_n 3, 1) := by decide +kernel
theorem dX12_member_70 : decode cX12_member 70 = .ok (.iconst 2, 1) := by decide +kernel
theorem dX12_member_71 : decode cX12_member 71 = .ok (.iadd, 1) := by decide +kernel
theorem dX12_member_72 : decode cX12_member 72 = .ok (.iconst (-1), 1) := by decide +kernel
theorem dX12_member_73 : decode cX12_member 73 = .ok (.iastore, 1) := by decide +kernel
theorem dX12_member_74 : decode cX12_member 74 = .ok (.aload_n 0, 1) := by decide +kernel
theorem dX12_member_75 : decode cX12_member 75 = .ok (.getfield 7, 3) := by decide +kernel
theorem dX12_member_78 : decode cX12_member 78 = .ok (.iconst 4, 1) := by decide +kernel
theorem dX12_member_79 : decode cX12_member 79 = .ok (.dup2, 1) := by decide +kernel
theorem dX12_member_80 : decode cX12_member 80 = .ok (.iaload, 1) := by decide +kernel
theorem dX12_member_81 : decode cX12_member 81 = .ok (.iconst 1, 1) := by decide +kernel
theorem dX12_member_82 : decode cX12_member 82 = .ok (.iadd, 1) := by decide +kernel
theorem dX12_member_83 : decode cX12_member 83 = .ok (.iastore, 1) := by decide +kernel
theorem dX12_member_84 : decode cX12_member 84 = .ok (.aload_n 0, 1) := by decide +kernel
theorem dX12_member_85 : decode cX12_member 85 = .ok (.getfield 7, 3) := by decide +kernel
theorem dX12_member_88 : decode cX12_member 88 = .ok (.iconst 4, 1) := by decide +kernel
theorem dX12_member_89 : decode cX12_member 89 = .ok (.iaload, 1) := by decide +kernel
theorem dX12_member_90 : decode cX12_member 90 = .ok (.iconst 1, 1) := by decide +kernel
theorem dX12_member_91 : decode cX12_member 91 = .ok (.isub, 1) := by decide +kernel
theorem dX12_member_92 : decode cX12_member 92 = .ok (.ireturn, 1) := by decide +kernel
theorem dX12_is_0 : decode cX12_is 0 = .ok (.aload_n 0, 1) := by decide +kernel
theorem dX12_is_1 : decode cX12_is 1 = .ok (.iload_n 1, 1) := by decide +kernel
theorem dX12_is_2 : decode cX12_is 2 = .ok (.invokevirtual 87, 3) := by decide +kernel
theorem dX12_is_5 : decode cX12_is 5 = .ok (.ifCond .eq 12, 3) := by decide +kernel
theorem dX12_is_8 : decode cX12_is 8 = .ok (.iload_n 2, 1) := by decide +kernel
theorem dX12_is_9 : decode cX12_is 9 = .ok (.iconst 0, 1) := by decide +kernel
theorem dX12_is_10 : decode cX12_is 10 = .ok (.iconst 3, 1) := by decide +kernel
theorem dX12_is_11 : decode cX12_is 11 = .ok (.invokestatic 81, 3) := by decide +kernel
theorem dX12_is_14 : decode cX12_is 14 = .ok (.ifCond .ne 6, 3) := by decide +kernel
theorem dX12_is_17 : decode cX12_is 17 = .ok (.ldc 85, 2) := by decide +kernel
theorem dX12_is_19 : decode cX12_is 19 = .ok (.ireturn, 1) := by decide +kernel
theorem dX12_is_20 : decode cX12_is 20 = .ok (.aload_n 0, 1) := by decide +kernel
theorem dX12_is_21 : decode cX12_is 21 = .ok (.getfield 7, 3) := by decide +kernel
theorem dX12_is_24 : decode cX12_is 24 = .ok (.bipush 20, 2) := by decide +kernel
theorem dX12_is_26 : decode cX12_is 26 = .ok (.iconst 3, 1) := by decide +kernel
theorem dX12_is_27 : decode cX12_is 27 = .ok (.iload_n 1, 1) := by decide +kernel
theorem dX12_is_28 : decode cX12_is 28 = .ok (.imul, 1) := by decide +kernel
theorem dX12_is_29 : decode cX12_is 29 = .ok (.iadd, 1) := by decide +kernel
theorem dX12_is_30 : decode cX12_is 30 = .ok (.iaload, 1) := by decide +kernel
theorem dX12_is_31 : decode cX12_is 31 = .ok (.istore_n 3, 1) := by decide +kernel
theorem dX12_is_32 : decode cX12_is 32 = .ok (.iload_n 2, 1) := by decide +kernel
theorem dX12_is_33 : decode cX12_is 33 = .ok (.ifCond .eq 18, 3) := by decide +kernel
theorem dX12_is_36 : decode cX12_is 36 = .ok (.iload_n 3, 1) := by decide +kernel
theorem dX12_is_37 : decode cX12_is 37 = .ok (.iload_n 2, 1) := by decide +kernel
theorem dX12_is_38 : decode cX12_is 38 = .ok (.if_icmp .eq 13, 3) := by decide +kernel
theorem dX12_is_41 : decode cX12_is 41 = .ok (.iload_n 3, 1) := by decide +kernel
theorem dX12_is_42 : decode cX12_is 42 = .ok (.iconst 3, 1) := by decide +kernel
theorem dX12_is_43 : decode cX12_is 43 = .ok (.if_icmp .ne 12, 3) := by decide +kernel
theorem dX12_is_46 : decode cX12_is 46 = .ok (.iload_n 2, 1) := by decide +kernel
theorem dX12_is_47 : decode cX12_is 47 = .ok (.iconst 2, 1) := by decide +kernel
theorem dX12_is_48 : decode cX12_is 48 = .ok (.if_icmp .ne 7, 3) := by decide +kernel
theorem dX12_is_51 : decode cX12_is 51 = .ok (.iconst 1, 1) := by decide +kernel
theorem dX12_is_52 : decode cX12_is 52 = .ok (.goto 4, 3) := by decide +kernel
theorem dX12_is_55 : decode cX12_is 55 = .ok (.iconst 0, 1) := by decide +kernel
theorem dX12_is_56 : decode cX12_is 56 = .ok (.ireturn, 1) := by decide +kernel
theorem dX12_pool_0 : decode cX12_pool 0 = .ok (.aload_n 0, 1) := by decide +kernel
theorem dX12_pool_1 : decode cX12_pool 1 = .ok (.iload_n 1, 1) := by decide +kernel
theorem dX12_pool_2 : decode cX12_pool 2 = .ok (.invokevirtual 87, 3) := by decide +kernel
theorem dX12_pool_5 : decode cX12_pool 5 = .ok (.ifCond .eq 18, 3) := by decide +kernel
theorem dX12_pool_8 : decode cX12_pool 8 = .ok (.iload_n 2, 1) := by decide +kernel
theorem dX12_pool_9 : decode cX12_pool 9 = .ok (.ldc 80, 2) := by decide +kernel
theorem dX12_pool_11 : decode cX12_pool 11 = .ok (.if_icmp .eq 15, 3) := by decide +kernel
theorem dX12_pool_14 : decode cX12_pool 14 = .ok (.iload_n 2, 1) := by decide +kernel
theorem dX12_pool_15 : decode cX12_pool 15 = .ok (.iconst 0, 1) := by decide +kernel
theorem dX12_pool_16 : decode cX12_pool 16 = .ok (.iconst 2, 1) := by decide +kernel
theorem dX12_pool_17 : decode cX12_pool 17 = .ok (.invokestatic 81, 3) := by decide +kernel
theorem dX12_pool_20 : decode cX12_pool 20 = .ok (.ifCond .ne 6, 3) := by decide +kernel
theorem dX12_pool_23 : decode cX12_pool 23 = .ok (.ldc 85, 2) := by decide +kernel
theorem dX12_pool_25 : decode cX12_pool 25 = .ok (.ireturn, 1) := by decide +kernel
theorem dX12_pool_26 : decode cX12_pool 26 = .ok (.bipush 20, 2) := by decide +kernel
theorem dX12_pool_28 : decode cX12_pool 28 = .ok (.iconst 3, 1) := by decide +kernel
theorem dX12_pool_29 : decode cX12_pool 29 = .ok (.iload_n 1, 1) := by decide +kernel
theorem dX12_pool_30 : decode cX12_pool 30 = .ok (.imul, 1) := by decide +kernel
theorem dX12_pool_31 : decode cX12_pool 31 = .ok (.iadd, 1) := by decide +kernel
theorem dX12_pool_32 : decode cX12_pool 32 = .ok (.iconst 2, 1) := by decide +kernel
theorem dX12_pool_33 : decode cX12_pool 33 = .ok (.iadd, 1) := by decide +kernel
theorem dX12_pool_34 : decode cX12_pool 34 = .ok (.istore_n 3, 1) := by decide +kernel
theorem dX12_pool_35 : decode cX12_pool 35 = .ok (.aload_n 0, 1) := by decide +kernel
theorem dX12_pool_36 : decode cX12_pool 36 = .ok (.getfield 7, 3) := by decide +kernel
theorem dX12_pool_39 : decode cX12_pool 39 = .ok (.iload_n 3, 1) := by decide +kernel
theorem dX12_pool_40 : decode cX12_pool 40 = .ok (.iaload, 1) := by decide +kernel
theorem dX12_pool_41 : decode cX12_pool 41 = .ok (.istore 4, 2) := by decide +kernel
theorem dX12_pool_43 : decode cX12_pool 43 = .ok (.aload_n 0, 1) := by decide +kernel
theorem dX12_pool_44 : decode cX12_pool 44 = .ok (.getfield 7, 3) := by decide +kernel
theorem dX12_pool_47 : decode cX12_pool 47 = .ok (.iload_n 3, 1) := by decide +kernel
theorem dX12_pool_48 : decode cX12_pool 48 = .ok (.iload_n 2, 1) := by decide +kernel
theorem dX12_pool_49 : decode cX12_pool 49 = .ok (.ldc 80, 2) := by decide +kernel
theorem dX12_pool_51 : decode cX12_pool 51 = .ok (.if_icmp .ne 7, 3) := by decide +kernel
theorem dX12_pool_54 : decode cX12_pool 54 = .ok (.iconst (-1), 1) := by decide +kernel
theorem dX12_pool_55 : decode cX12_pool 55 = .ok (.goto 4, 3) := by decide +kernel
theorem dX12_pool_58 : decode cX12_pool 58 = .ok (.iload_n 2, 1) := by decide +kernel
theorem dX12_pool_59 : decode cX12_pool 59 = .ok (.iastore, 1) := by decide +kernel
theorem dX12_pool_60 : decode cX12_pool 60 = .ok (.iload 4, 2) := by decide +kernel
theorem dX12_pool_62 : decode cX12_pool 62 = .ok (.invokestatic 91, 3) := by decide +kernel
theorem dX12_pool_65 : decode cX12_pool 65 = .ok (.ireturn, 1) := by decide +kernel
theorem dX12_marks_0 : decode cX12_marks 0 = .ok (.aload_n 0, 1) := by decide +kernel
theorem dX12_marks_1 : decode cX12_marks 1 = .ok (.iload_n 1, 1) := by decide +kernel
theorem dX12_marks_2 : decode cX12_marks 2 = .ok (.invokevirtual 87, 3) := by decide +kernel
theorem dX12_marks_5 : decode cX12_marks 5 = .ok (.ifCond .eq 14, 3) := by decide +kernel
theorem dX12_marks_8 : decode cX12_marks 8 = .ok (.iload_n 2, 1) := by decide +kernel
theorem dX12_marks_9 : decode cX12_marks 9 = .ok (.iconst 0, 1) := by decide +kernel
theorem dX12_marks_10 : decode cX12_marks 10 = .ok (.sipush 4095, 3) := by decide +kernel
theorem dX12_marks_13 : decode cX12_marks 13 = .ok (.invokestatic 81, 3) := by decide +kernel
theorem dX12_marks_16 : decode cX12_marks 16 = .ok (.ifCond .ne 6, 3) := by decide +kernel
theorem dX12_marks_19 : decode cX12_marks 19 = .ok (.ldc 85, 2) := by decide +kernel
theorem dX12_marks_21 : decode cX12_marks 21 = .ok (.ireturn, 1) := by decide +kernel
theorem dX12_marks_22 : decode cX12_marks 22 = .ok (.aload_n 0, 1) := by decide +kernel
theorem dX12_marks_23 : decode cX12_marks 23 = .ok (.getfield 7, 3) := by decide +kernel
theorem dX12_marks_26 : decode cX12_marks 26 = .ok (.bipush 20, 2) := by decide +kernel
theorem dX12_marks_28 : decode cX12_marks 28 = .ok (.iconst 3, 1) := by decide +kernel
theorem dX12_marks_29 : decode cX12_marks 29 = .ok (.iload_n 1, 1) := by decide +kernel
theorem dX12_marks_30 : decode cX12_marks 30 = .ok (.imul, 1) := by decide +kernel
theorem dX12_marks_31 : decode cX12_marks 31 = .ok (.iadd, 1) := by decide +kernel
theorem dX12_marks_32 : decode cX12_marks 32 = .ok (.iconst 1, 1) := by decide +kernel
theorem dX12_marks_33 : decode cX12_marks 33 = .ok (.iadd, 1) := by decide +kernel
theorem dX12_marks_34 : decode cX12_marks 34 = .ok (.iaload, 1) := by decide +kernel
theorem dX12_marks_35 : decode cX12_marks 35 = .ok (.istore_n 3, 1) := by decide +kernel
theorem dX12_marks_36 : decode cX12_marks 36 = .ok (.aload_n 0, 1) := by decide +kernel
theorem dX12_marks_37 : decode cX12_marks 37 = .ok (.getfield 7, 3) := by decide +kernel
theorem dX12_marks_40 : decode cX12_marks 40 = .ok (.bipush 20, 2) := by decide +kernel
theorem dX12_marks_42 : decode cX12_marks 42 = .ok (.iconst 3, 1) := by decide +kernel
theorem dX12_marks_43 : decode cX12_marks 43 = .ok (.iload_n 1, 1) := by decide +kernel
theorem dX12_marks_44 : decode cX12_marks 44 = .ok (.imul, 1) := by decide +kernel
theorem dX12_marks_45 : decode cX12_marks 45 = .ok (.iadd, 1) := by decide +kernel
theorem dX12_marks_46 : decode cX12_marks 46 = .ok (.iconst 1, 1) := by decide +kernel
theorem dX12_marks_47 : decode cX12_marks 47 = .ok (.iadd, 1) := by decide +kernel
theorem dX12_marks_48 : decode cX12_marks 48 = .ok (.iload_n 2, 1) := by decide +kernel
theorem dX12_marks_49 : decode cX12_marks 49 = .ok (.iastore, 1) := by decide +kernel
theorem dX12_marks_50 : decode cX12_marks 50 = .ok (.iload_n 3, 1) := by decide +kernel
theorem dX12_marks_51 : decode cX12_marks 51 = .ok (.ireturn, 1) := by decide +kernel
theorem dX12_lay_0 : decode cX12_lay 0 = .ok (.iload_n 1, 1) := by decide +kernel
theorem dX12_lay_1 : decode cX12_lay 1 = .ok (.iconst 0, 1) := by decide +kernel
theorem dX12_lay_2 : decode cX12_lay 2 = .ok (.iconst 1, 1) := by decide +kernel
theorem dX12_lay_3 : decode cX12_lay 3 = .ok (.invokestatic 81, 3) := by decide +kernel
theorem dX12_lay_6 : decode cX12_lay 6 = .ok (.ifCond .ne 6, 3) := by decide +kernel
theorem dX12_lay_9 : decode cX12_lay 9 = .ok (.ldc 85, 2) := by decide +kernel
theorem dX12_lay_11 : decode cX12_lay 11 = .ok (.ireturn, 1) := by decide +kernel
theorem dX12_lay_12 : decode cX12_lay 12 = .ok (.aload_n 0, 1) := by decide +kernel
theorem dX12_lay_13 : decode cX12_lay 13 = .ok (.getfield 74, 3) := by decide +kernel
theorem dX12_lay_16 : decode cX12_lay 16 = .ok (.iload_n 1, 1) := by decide +kernel
theorem dX12_lay_17 : decode cX12_lay 17 = .ok (.iaload, 1) := by decide +kernel
theorem dX12_lay_18 : decode cX12_lay 18 = .ok (.iconst (-1), 1) := by decide +kernel
theorem dX12_lay_19 : decode cX12_lay 19 = .ok (.if_icmp .ne 6, 3) := by decide +kernel
theorem dX12_lay_22 : decode cX12_lay 22 = .ok (.ldc 95, 2) := by decide +kernel
theorem dX12_lay_24 : decode cX12_lay 24 = .ok (.ireturn, 1) := by decide +kernel
theorem dX12_lay_25 : decode cX12_lay 25 = .ok (.aload_n 0, 1) := by decide +kernel
theorem dX12_lay_26 : decode cX12_lay 26 = .ok (.getfield 74, 3) := by decide +kernel
theorem dX12_lay_29 : decode cX12_lay 29 = .ok (.iload_n 1, 1) := by decide +kernel
theorem dX12_lay_30 : decode cX12_lay 30 = .ok (.iaload, 1) := by decide +kernel
theorem dX12_lay_31 : decode cX12_lay 31 = .ok (.aload_n 0, 1) := by decide +kernel
theorem dX12_lay_32 : decode cX12_lay 32 = .ok (.getfield 7, 3) := by decide +kernel
theorem dX12_lay_35 : decode cX12_lay 35 = .ok (.iconst 4, 1) := by decide +kernel
theorem dX12_lay_36 : decode cX12_lay 36 = .ok (.iaload, 1) := by decide +kernel
theorem dX12_lay_37 : decode cX12_lay 37 = .ok (.invokestatic 96, 3) := by decide +kernel
theorem dX12_lay_40 : decode cX12_lay 40 = .ok (.istore_n 2, 1) := by decide +kernel
theorem dX12_lay_41 : decode cX12_lay 41 = .ok (.iconst 0, 1) := by decide +kernel
theorem dX12_lay_42 : decode cX12_lay 42 = .ok (.istore_n 3, 1) := by decide +kernel
theorem dX12_lay_43 : decode cX12_lay 43 = .ok (.iload_n 3, 1) := by decide +kernel
theorem dX12_lay_44 : decode cX12_lay 44 = .ok (.iload_n 2, 1) := by decide +kernel
theorem dX12_lay_45 : decode cX12_lay 45 = .ok (.if_icmp .ge 53, 3) := by decide +kernel
theorem dX12_lay_48 : decode cX12_lay 48 = .ok (.aload_n 0, 1) := by decide +kernel
theorem dX12_lay_49 : decode cX12_lay 49 = .ok (.getfield 71, 3) := by decide +kernel
theorem dX12_lay_52 : decode cX12_lay 52 = .ok (.bipush 16, 2) := by decide +kernel
theorem dX12_lay_54 : decode cX12_lay 54 = .ok (.iload_n 1, 1) := by decide +kernel
theorem dX12_lay_55 : decode cX12_lay 55 = .ok (.imul, 1) := by decide +kernel
theorem dX12_lay_56 : decode cX12_lay 56 = .ok (.iload_n 3, 1) := by decide +kernel
theorem dX12_lay_57 : decode cX12_lay 57 = .ok (.iadd, 1) := by decide +kernel
theorem dX12_lay_58 : decode cX12_lay 58 = .ok (.iaload, 1) := by decide +kernel
theorem dX12_lay_59 : decode cX12_lay 59 = .ok (.istore 4, 2) := by decide +kernel
theorem dX12_lay_61 : decode cX12_lay 61 = .ok (.aload_n 0, 1) := by decide +kernel
theorem dX12_lay_62 : decode cX12_lay 62 = .ok (.getfield 7, 3) := by decide +kernel
theorem dX12_lay_65 : decode cX12_lay 65 = .ok (.bipush 20, 2) := by decide +kernel
theorem dX12_lay_67 : decode cX12_lay 67 = .ok (.iconst 3, 1) := by decide +kernel
theorem dX12_lay_68 : decode cX12_lay 68 = .ok (.iload_n 3, 1) := by decide +kernel
theorem dX12_lay_69 : decode cX12_lay 69 = .ok (.imul, 1) := by decide +kernel
theorem dX12_lay_70 : decode cX12_lay 70 = .ok (.iadd, 1) := by decide +kernel
theorem dX12_lay_71 : decode cX12_lay 71 = .ok (.iconst 1, 1) := by decide +kernel
theorem dX12_lay_72 : decode cX12_lay 72 = .ok (.iadd, 1) := by decide +kernel
theorem dX12_lay_73 : decode cX12_lay 73 = .ok (.iload 4, 2) := by decide +kernel
theorem dX12_lay_75 : decode cX12_lay 75 = .ok (.iconst 0, 1) := by decide +kernel
theorem dX12_lay_76 : decode cX12_lay 76 = .ok (.sipush 4095, 3) := by decide +kernel
theorem dX12_lay_79 : decode cX12_lay 79 = .ok (.invokestatic 81, 3) := by decide +kernel
theorem dX12_lay_82 : decode cX12_lay 82 = .ok (.ifCond .eq 8, 3) := by decide +kernel
theorem dX12_lay_85 : decode cX12_lay 85 = .ok (.iload 4, 2) := by decide +kernel
theorem dX12_lay_87 : decode cX12_lay 87 = .ok (.goto 4, 3) := by decide +kernel
theorem dX12_lay_90 : decode cX12_lay 90 = .ok (.iconst 0, 1) := by decide +kernel
theorem dX12_lay_91 : decode cX12_lay 91 = .ok (.iastore, 1) := by decide +kernel
theorem dX12_lay_92 : decode cX12_lay 92 = .ok (.iinc 3 1, 3) := by decide +kernel
theorem dX12_lay_95 : decode cX12_lay 95 = .ok (.goto (-52), 3) := by decide +kernel
theorem dX12_lay_98 : decode cX12_lay 98 = .ok (.iload_n 2, 1) := by decide +kernel
theorem dX12_lay_99 : decode cX12_lay 99 = .ok (.ireturn, 1) := by decide +kernel
theorem dX12_days_0 : decode cX12_days 0 = .ok (.iload_n 1, 1) := by decide +kernel
theorem dX12_days_1 : decode cX12_days 1 = .ok (.iconst 1, 1) := by decide +kernel
theorem dX12_days_2 : decode cX12_days 2 = .ok (.bipush 100, 2) := by decide +kernel
theorem dX12_days_4 : decode cX12_days 4 = .ok (.invokestatic 81, 3) := by decide +kernel
theorem dX12_days_7 : decode cX12_days 7 = .ok (.ifCond .eq 17, 3) := by decide +kernel
theorem dX12_days_10 : decode cX12_days 10 = .ok (.aload_n 0, 1) := by decide +kernel
theorem dX12_days_11 : decode cX12_days 11 = .ok (.getfield 7, 3) := by decide +kernel
theorem dX12_days_14 : decode cX12_days 14 = .ok (.iconst 0, 1) := by decide +kernel
theorem dX12_days_15 : decode cX12_days 15 = .ok (.iaload, 1) := by decide +kernel
theorem dX12_days_16 : decode cX12_days 16 = .ok (.iload_n 1, 1) := by decide +kernel
theorem dX12_days_17 : decode cX12_days 17 = .ok (.iadd, 1) := by decide +kernel
theorem dX12_days_18 : decode cX12_days 18 = .ok (.sipush 1200, 3) := by decide +kernel
theorem dX12_days_21 : decode cX12_days 21 = .ok (.if_icmp .le 6, 3) := by decide +kernel
theorem dX12_days_24 : decode cX12_days 24 = .ok (.ldc 85, 2) := by decide +kernel
theorem dX12_days_26 : decode cX12_days 26 = .ok (.ireturn, 1) := by decide +kernel
theorem dX12_days_27 : decode cX12_days 27 = .ok (.aload_n 0, 1) := by decide +kernel
theorem dX12_days_28 : decode cX12_days 28 = .ok (.getfield 7, 3) := by decide +kernel
theorem dX12_days_31 : decode cX12_days 31 = .ok (.iconst 0, 1) := by decide +kernel
theorem dX12_days_32 : decode cX12_days 32 = .ok (.dup2, 1) := by decide +kernel
theorem dX12_days_33 : decode cX12_days 33 = .ok (.iaload, 1) := by decide +kernel
theorem dX12_days_34 : decode cX12_days 34 = .ok (.iload_n 1, 1) := by decide +kernel
theorem dX12_days_35 : decode cX12_days 35 = .ok (.iadd, 1) := by decide +kernel
theorem dX12_days_36 : decode cX12_days 36 = .ok (.iastore, 1) := by decide +kernel
theorem dX12_days_37 : decode cX12_days 37 = .ok (.aload_n 0, 1) := by decide +kernel
theorem dX12_days_38 : decode cX12_days 38 = .ok (.getfield 7, 3) := by decide +kernel
theorem dX12_days_41 : decode cX12_days 41 = .ok (.iconst 0, 1) := by decide +kernel
theorem dX12_days_42 : decode cX12_days 42 = .ok (.iaload, 1) := by decide +kernel
theorem dX12_days_43 : decode cX12_days 43 = .ok (.ireturn, 1) := by decide +kernel
theorem dX12_rule_0 : decode cX12_rule 0 = .ok (.iload_n 1, 1) := by decide +kernel
theorem dX12_rule_1 : decode cX12_rule 1 = .ok (.iconst 0, 1) := by decide +kernel
theorem dX12_rule_2 : decode cX12_rule 2 = .ok (.iconst 2, 1) := by decide +kernel
theorem dX12_rule_3 : decode cX12_rule 3 = .ok (.invokestatic 81, 3) := by decide +kernel
theorem dX12_rule_6 : decode cX12_rule 6 = .ok (.ifCond .eq 33, 3) := by decide +kernel
theorem dX12_rule_9 : decode cX12_rule 9 = .ok (.iload_n 2, 1) := by decide +kernel
theorem dX12_rule_10 : decode cX12_rule 10 = .ok (.iload_n 1, 1) := by decide +kernel
theorem dX12_rule_11 : decode cX12_rule 11 = .ok (.iconst 1, 1) := by decide +kernel
theorem dX12_rule_12 : decode cX12_rule 12 = .ok (.if_icmp .ne 7, 3) := by decide +kernel
theorem dX12_rule_15 : decode cX12_rule 15 = .ok (.iconst 1, 1) := by decide +kernel
theorem dX12_rule_16 : decode cX12_rule 16 = .ok (.goto 4, 3) := by decide +kernel
theorem dX12_rule_19 : decode cX12_rule 19 = .ok (.iconst 0, 1) := by decide +kernel
theorem dX12_rule_20 : decode cX12_rule 20 = .ok (.iload_n 1, 1) := by decide +kernel
theorem dX12_rule_21 : decode cX12_rule 21 = .ok (.ifCond .ne 9, 3) := by decide +kernel
theorem dX12_rule_24 : decode cX12_rule 24 = .ok (.sipush 360, 3) := by decide +kernel
theorem dX12_rule_27 : decode cX12_rule 27 = .ok (.goto 6, 3) := by decide +kernel
theorem dX12_rule_30 : decode cX12_rule 30 = .ok (.sipush 999, 3) := by decide +kernel
theorem dX12_rule_33 : decode cX12_rule 33 = .ok (.invokestatic 81, 3) := by decide +kernel
theorem dX12_rule_36 : decode cX12_rule 36 = .ok (.ifCond .ne 6, 3) := by decide +kernel
theorem dX12_rule_39 : decode cX12_rule 39 = .ok (.ldc 85, 2) := by decide +kernel
theorem dX12_rule_41 : decode cX12_rule 41 = .ok (.ireturn, 1) := by decide +kernel
theorem dX12_rule_42 : decode cX12_rule 42 = .ok (.aload_n 0, 1) := by decide +kernel
theorem dX12_rule_43 : decode cX12_rule 43 = .ok (.getfield 7, 3) := by decide +kernel
theorem dX12_rule_46 : decode cX12_rule 46 = .ok (.iconst 1, 1) := by decide +kernel
theorem dX12_rule_47 : decode cX12_rule 47 = .ok (.iload_n 1, 1) := by decide +kernel
theorem dX12_rule_48 : decode cX12_rule 48 = .ok (.iadd, 1) := by decide +kernel
theorem dX12_rule_49 : decode cX12_rule 49 = .ok (.iaload, 1) := by decide +kernel
theorem dX12_rule_50 : decode cX12_rule 50 = .ok (.istore_n 3, 1) := by decide +kernel
theorem dX12_rule_51 : decode cX12_rule 51 = .ok (.aload_n 0, 1) := by decide +kernel
theorem dX12_rule_52 : decode cX12_rule 52 = .ok (.getfield 7, 3) := by decide +kernel
theorem dX12_rule_55 : decode cX12_rule 55 = .ok (.iconst 1, 1) := by decide +kernel
theorem dX12_rule_56 : decode cX12_rule 56 = .ok (.iload_n 1, 1) := by decide +kernel
theorem dX12_rule_57 : decode cX12_rule 57 = .ok (.iadd, 1) := by decide +kernel
theorem dX12_rule_58 : decode cX12_rule 58 = .ok (.iload_n 2, 1) := by decide +kernel
theorem dX12_rule_59 : decode cX12_rule 59 = .ok (.iastore, 1) := by decide +kernel
theorem dX12_rule_60 : decode cX12_rule 60 = .ok (.iload_n 3, 1) := by decide +kernel
theorem dX12_rule_61 : decode cX12_rule 61 = .ok (.ireturn, 1) := by decide +kernel
theorem dX12_tells_0 : decode cX12_tells 0 = .ok (.bipush 50, 2) := by decide +kernel
theorem dX12_tells_2 : decode cX12_tells 2 = .ok (.bipush 10, 2) := by decide +kernel
theorem dX12_tells_4 : decode cX12_tells 4 = .ok (.aload_n 0, 1) := by decide +kernel
theorem dX12_tells_5 : decode cX12_tells 5 = .ok (.getfield 7, 3) := by decide +kernel
theorem dX12_tells_8 : decode cX12_tells 8 = .ok (.iconst 5, 1) := by decide +kernel
theorem dX12_tells_9 : decode cX12_tells 9 = .ok (.iaload, 1) := by decide +kernel
theorem dX12_tells_10 : decode cX12_tells 10 = .ok (.imul, 1) := by decide +kernel
theorem dX12_tells_11 : decode cX12_tells 11 = .ok (.iadd, 1) := by decide +kernel
theorem dX12_tells_12 : decode cX12_tells 12 = .ok (.istore 7, 2) := by decide +kernel
theorem dX12_tells_14 : decode cX12_tells 14 = .ok (.aload_n 0, 1) := by decide +kernel
theorem dX12_tells_15 : decode cX12_tells 15 = .ok (.getfield 7, 3) := by decide +kernel
theorem dX12_tells_18 : decode cX12_tells 18 = .ok (.iload 7, 2) := by decide +kernel
theorem dX12_tells_20 : decode cX12_tells 20 = .ok (.iload_n 1, 1) := by decide +kernel
theorem dX12_tells_21 : decode cX12_tells 21 = .ok (.iastore, 1) := by decide +kernel
theorem dX12_tells_22 : decode cX12_tells 22 = .ok (.aload_n 0, 1) := by decide +kernel
theorem dX12_tells_23 : decode cX12_tells 23 = .ok (.getfield 7, 3) := by decide +kernel
theorem dX12_tells_26 : decode cX12_tells 26 = .ok (.iload 7, 2) := by decide +kernel
theorem dX12_tells_28 : decode cX12_tells 28 = .ok (.iconst 1, 1) := by decide +kernel
theorem dX12_tells_29 : decode cX12_tells 29 = .ok (.iadd, 1) := by decide +kernel
theorem dX12_tells_30 : decode cX12_tells 30 = .ok (.iload_n 2, 1) := by decide +kernel
theorem dX12_tells_31 : decode cX12_tells 31 = .ok (.iastore, 1) := by decide +kernel
theorem dX12_tells_32 : decode cX12_tells 32 = .ok (.aload_n 0, 1) := by decide +kernel
theorem dX12_tells_33 : decode cX12_tells 33 = .ok (.getfield 7, 3) := by decide +kernel
theorem dX12_tells_36 : decode cX12_tells 36 = .ok (.iload 7, 2) := by decide +kernel
theorem dX12_tells_38 : decode cX12_tells 38 = .ok (.iconst 2, 1) := by decide +kernel
theorem dX12_tells_39 : decode cX12_tells 39 = .ok (.iadd, 1) := by decide +kernel
theorem dX12_tells_40 : decode cX12_tells 40 = .ok (.iload_n 3, 1) := by decide +kernel
theorem dX12_tells_41 : decode cX12_tells 41 = .ok (.iastore, 1) := by decide +kernel
theorem dX12_tells_42 : decode cX12_tells 42 = .ok (.aload_n 0, 1) := by decide +kernel
theorem dX12_tells_43 : decode cX12_tells 43 = .ok (.getfield 7, 3) := by decide +kernel
theorem dX12_tells_46 : decode cX12_tells 46 = .ok (.iload 7, 2) := by decide +kernel
theorem dX12_tells_48 : decode cX12_tells 48 = .ok (.iconst 3, 1) := by decide +kernel
theorem dX12_tells_49 : decode cX12_tells 49 = .ok (.iadd, 1) := by decide +kernel
theorem dX12_tells_50 : decode cX12_tells 50 = .ok (.aload_n 0, 1) := by decide +kernel
theorem dX12_tells_51 : decode cX12_tells 51 = .ok (.getfield 7, 3) := by decide +kernel
theorem dX12_tells_54 : decode cX12_tells 54 = .ok (.iconst 0, 1) := by decide +kernel
theorem dX12_tells_55 : decode cX12_tells 55 = .ok (.iaload, 1) := by decide +kernel
theorem dX12_tells_56 : decode cX12_tells 56 = .ok (.iastore, 1) := by decide +kernel
theorem dX12_tells_57 : decode cX12_tells 57 = .ok (.aload_n 0, 1) := by decide +kernel
theorem dX12_tells_58 : decode cX12_tells 58 = .ok (.getfield 7, 3) := by decide +kernel
theorem dX12_tells_61 : decode cX12_tells 61 = .ok (.iload 7, 2) := by decide +kernel
theorem dX12_tells_63 : decode cX12_tells 63 = .ok (.iconst 4, 1) := by decide +kernel
theorem dX12_tells_64 : decode cX12_tells 64 = .ok (.iadd, 1) := by decide +kernel
theorem dX12_tells_65 : decode cX12_tells 65 = .ok (.iconst (-1), 1) := by decide +kernel
theorem dX12_tells_66 : decode cX12_tells 66 = .ok (.iastore, 1) := by decide +kernel
theorem dX12_tells_67 : decode cX12_tells 67 = .ok (.aload_n 0, 1) := by decide +kernel
theorem dX12_tells_68 : decode cX12_tells 68 = .ok (.getfield 7, 3) := by decide +kernel
theorem dX12_tells_71 : decode cX12_tells 71 = .ok (.iload 7, 2) := by decide +kernel
theorem dX12_tells_73 : decode cX12_tells 73 = .ok (.iconst 5, 1) := by decide +kernel
theorem dX12_tells_74 : decode cX12_tells 74 = .ok (.iadd, 1) := by decide +kernel
theorem dX12_tells_75 : decode cX12_tells 75 = .ok (.iload 4, 2) := by decide +kernel
theorem dX12_tells_77 : decode cX12_tells 77 = .ok (.iastore, 1) := by decide +kernel
theorem dX12_tells_78 : decode cX12_tells 78 = .ok (.aload_n 0, 1) := by decide +kernel
theorem dX12_tells_79 : decode cX12_tells 79 = .ok (.getfield 7, 3) := by decide +kernel
theorem dX12_tells_82 : decode cX12_tells 82 = .ok (.iload 7, 2) := by decide +kernel
theorem dX12_tells_84 : decode cX12_tells 84 = .ok (.bipush 6, 2) := by decide +kernel
theorem dX12_tells_86 : decode cX12_tells 86 = .ok (.iadd, 1) := by decide +kernel
theorem dX12_tells_87 : decode cX12_tells 87 = .ok (.iload 5, 2) := by decide +kernel
theorem dX12_tells_89 : decode cX12_tells 89 = .ok (.iastore, 1) := by decide +kernel
theorem dX12_tells_90 : decode cX12_tells 90 = .ok (.aload_n 0, 1) := by decide +kernel
theorem dX12_tells_91 : decode cX12_tells 91 = .ok (.getfield 7, 3) := by decide +kernel
theorem dX12_tells_94 : decode cX12_tells 94 = .ok (.iload 7, 2) := by decide +kernel
theorem dX12_tells_96 : decode cX12_tells 96 = .ok (.bipush 7, 2) := by decide +kernel
theorem dX12_tells_98 : decode cX12_tells 98 = .ok (.iadd, 1) := by decide +kernel
theorem dX12_tells_99 : decode cX12_tells 99 = .ok (.iload 6, 2) := by decide +kernel
theorem dX12_tells_101 : decode cX12_tells 101 = .ok (.iastore, 1) := by decide +kernel
theorem dX12_tells_102 : decode cX12_tells 102 = .ok (.aload_n 0, 1) := by decide +kernel
theorem dX12_tells_103 : decode cX12_tells 103 = .ok (.getfield 7, 3) := by decide +kernel
theorem dX12_tells_106 : decode cX12_tells 106 = .ok (.iconst 5, 1) := by decide +kernel
theorem dX12_tells_107 : decode cX12_tells 107 = .ok (.dup2, 1) := by decide +kernel
theorem dX12_tells_108 : decode cX12_tells 108 = .ok (.iaload, 1) := by decide +kernel
theorem dX12_tells_109 : decode cX12_tells 109 = .ok (.iconst 1, 1) := by decide +kernel
theorem dX12_tells_110 : decode cX12_tells 110 = .ok (.iadd, 1) := by decide +kernel
theorem dX12_tells_111 : decode cX12_tells 111 = .ok (.iastore, 1) := by decide +kernel
theorem dX12_tells_112 : decode cX12_tells 112 = .ok (.aload_n 0, 1) := by decide +kernel
theorem dX12_tells_113 : decode cX12_tells 113 = .ok (.getfield 7, 3) := by decide +kernel
theorem dX12_tells_116 : decode cX12_tells 116 = .ok (.iconst 5, 1) := by decide +kernel
theorem dX12_tells_117 : decode cX12_tells 117 = .ok (.iaload, 1) := by decide +kernel
theorem dX12_tells_118 : decode cX12_tells 118 = .ok (.iconst 1, 1) := by decide +kernel
theorem dX12_tells_119 : decode cX12_tells 119 = .ok (.isub, 1) := by decide +kernel
theorem dX12_tells_120 : decode cX12_tells 120 = .ok (.ireturn, 1) := by decide +kernel
theorem dX12_fly_0 : decode cX12_fly 0 = .ok (.aload_n 0, 1) := by decide +kernel
theorem dX12_fly_1 : decode cX12_fly 1 = .ok (.iload_n 1, 1) := by decide +kernel
theorem dX12_fly_2 : decode cX12_fly 2 = .ok (.invokevirtual 87, 3) := by decide +kernel
theorem dX12_fly_5 : decode cX12_fly 5 = .ok (.ifCond .eq 54, 3) := by decide +kernel
theorem dX12_fly_8 : decode cX12_fly 8 = .ok (.aload_n 0, 1) := by decide +kernel
theorem dX12_fly_9 : decode cX12_fly 9 = .ok (.iload_n 2, 1) := by decide +kernel
theorem dX12_fly_10 : decode cX12_fly 10 = .ok (.invokevirtual 100, 3) := by decide +kernel
theorem dX12_fly_13 : decode cX12_fly 13 = .ok (.ifCond .eq 46, 3) := by decide +kernel
theorem dX12_fly_16 : decode cX12_fly 16 = .ok (.iload_n 3, 1) := by decide +kernel
theorem dX12_fly_17 : decode cX12_fly 17 = .ok (.iconst 1, 1) := by decide +kernel
theorem dX12_fly_18 : decode cX12_fly 18 = .ok (.sipush 9999, 3) := by decide +kernel
theorem dX12_fly_21 : decode cX12_fly 21 = .ok (.invokestatic 81, 3) := by decide +kernel
theorem dX12_fly_24 : decode cX12_fly 24 = .ok (.ifCond .eq 35, 3) := by decide +kernel
theorem dX12_fly_27 : decode cX12_fly 27 = .ok (.iload 4, 2) := by decide +kernel
theorem dX12_fly_29 : decode cX12_fly 29 = .ok (.iconst 0, 1) := by decide +kernel
theorem dX12_fly_30 : decode cX12_fly 30 = .ok (.bipush 33, 2) := by decide +kernel
theorem dX12_fly_32 : decode cX12_fly 32 = .ok (.invokestatic 81, 3) := by decide +kernel
theorem dX12_fly_35 : decode cX12_fly 35 = .ok (.ifCond .eq 24, 3) := by decide +kernel
theorem dX12_fly_38 : decode cX12_fly 38 = .ok (.iload 4, 2) := by decide +kernel
theorem dX12_fly_40 : decode cX12_fly 40 = .ok (.bipush 10, 2) := by decide +kernel
theorem dX12_fly_42 : decode cX12_fly 42 = .ok (.irem, 1) := by decide +kernel
theorem dX12_fly_43 : decode cX12_fly 43 = .ok (.iconst 3, 1) := by decide +kernel
theorem dX12_fly_44 : decode cX12_fly 44 = .ok (.if_icmp .gt 15, 3) := by decide +kernel
theorem dX12_fly_47 : decode cX12_fly 47 = .ok (.iload 5, 2) := by decide +kernel
theorem dX12_fly_49 : decode cX12_fly 49 = .ok (.iconst 0, 1) := by decide +kernel
theorem dX12_fly_50 : decode cX12_fly 50 = .ok (.sipush 9999, 3) := by decide +kernel
theorem dX12_fly_53 : decode cX12_fly 53 = .ok (.invokestatic 81, 3) := by decide +kernel
theorem dX12_fly_56 : decode cX12_fly 56 = .ok (.ifCond .ne 6, 3) := by decide +kernel
theorem dX12_fly_59 : decode cX12_fly 59 = .ok (.ldc 85, 2) := by decide +kernel
theorem dX12_fly_61 : decode cX12_fly 61 = .ok (.ireturn, 1) := by decide +kernel
theorem dX12_fly_62 : decode cX12_fly 62 = .ok (.aload_n 0, 1) := by decide +kernel
theorem dX12_fly_63 : decode cX12_fly 63 = .ok (.getfield 7, 3) := by decide +kernel
theorem dX12_fly_66 : decode cX12_fly 66 = .ok (.iconst 5, 1) := by decide +kernel
theorem dX12_fly_67 : decode cX12_fly 67 = .ok (.iaload, 1) := by decide +kernel
theorem dX12_fly_68 : decode cX12_fly 68 = .ok (.bipush 100, 2) := by decide +kernel
theorem dX12_fly_70 : decode cX12_fly 70 = .ok (.if_icmp .ne 8, 3) := by decide +kernel
theorem dX12_fly_73 : decode cX12_fly 73 = .ok (.ldc 86, 2) := by decide +kernel
theorem dX12_fly_75 : decode cX12_fly 75 = .ok (.goto 15, 3) := by decide +kernel
theorem dX12_fly_78 : decode cX12_fly 78 = .ok (.aload_n 0, 1) := by decide +kernel
theorem dX12_fly_79 : decode cX12_fly 79 = .ok (.iconst 0, 1) := by decide +kernel
theorem dX12_fly_80 : decode cX12_fly 80 = .ok (.iload_n 1, 1) := by decide +kernel
theorem dX12_fly_81 : decode cX12_fly 81 = .ok (.iload_n 2, 1) := by decide +kernel
theorem dX12_fly_82 : decode cX12_fly 82 = .ok (.iload_n 3, 1) := by decide +kernel
theorem dX12_fly_83 : decode cX12_fly 83 = .ok (.iload 4, 2) := by decide +kernel
theorem dX12_fly_85 : decode cX12_fly 85 = .ok (.iload 5, 2) := by decide +kernel
theorem dX12_fly_87 : decode cX12_fly 87 = .ok (.invokevirtual 103, 3) := by decide +kernel
theorem dX12_fly_90 : decode cX12_fly 90 = .ok (.ireturn, 1) := by decide +kernel
theorem dX12_spend_0 : decode cX12_spend 0 = .ok (.aload_n 0, 1) := by decide +kernel
theorem dX12_spend_1 : decode cX12_spend 1 = .ok (.iload_n 1, 1) := by decide +kernel
theorem dX12_spend_2 : decode cX12_spend 2 = .ok (.invokevirtual 87, 3) := by decide +kernel
theorem dX12_spend_5 : decode cX12_spend 5 = .ok (.ifCond .eq 31, 3) := by decide +kernel
theorem dX12_spend_8 : decode cX12_spend 8 = .ok (.aload_n 0, 1) := by decide +kernel
theorem dX12_spend_9 : decode cX12_spend 9 = .ok (.iload_n 2, 1) := by decide +kernel
theorem dX12_spend_10 : decode cX12_spend 10 = .ok (.invokevirtual 100, 3) := by decide +kernel
theorem dX12_spend_13 : decode cX12_spend 13 = .ok (.ifCond .eq 23, 3) := by decide +kernel
theorem dX12_spend_16 : decode cX12_spend 16 = .ok (.iload_n 3, 1) := by decide +kernel
theorem dX12_spend_17 : decode cX12_spend 17 = .ok (.iconst 1, 1) := by decide +kernel
theorem dX12_spend_18 : decode cX12_spend 18 = .ok (.ldc 107, 2) := by decide +kernel
theorem dX12_spend_20 : decode cX12_spend 20 = .ok (.invokestatic 81, 3) := by decide +kernel
theorem dX12_spend_23 : decode cX12_spend 23 = .ok (.ifCond .eq 13, 3) := by decide +kernel
theorem dX12_spend_26 : decode cX12_spend 26 = .ok (.iload 4, 2) := by decide +kernel
theorem dX12_spend_28 : decode cX12_spend 28 = .ok (.iconst 0, 1) := by decide +kernel
theorem dX12_spend_29 : decode cX12_spend 29 = .ok (.iconst 3, 1) := by decide +kernel
theorem dX12_spend_30 : decode cX12_spend 30 = .ok (.invokestatic 81, 3) := by decide +kernel
theorem dX12_spend_33 : decode cX12_spend 33 = .ok (.ifCond .ne 6, 3) := by decide +kernel
theorem dX12_spend_36 : decode cX12_spend 36 = .ok (.ldc 85, 2) := by decide +kernel
theorem dX12_spend_38 : decode cX12_spend 38 = .ok (.ireturn, 1) := by decide +kernel
theorem dX12_spend_39 : decode cX12_spend 39 = .ok (.aload_n 0, 1) := by decide +kernel
theorem dX12_spend_40 : decode cX12_spend 40 = .ok (.getfield 7, 3) := by decide +kernel
theorem dX12_spend_43 : decode cX12_spend 43 = .ok (.iconst 5, 1) := by decide +kernel
theorem dX12_spend_44 : decode cX12_spend 44 = .ok (.iaload, 1) := by decide +kernel
theorem dX12_spend_45 : decode cX12_spend 45 = .ok (.bipush 100, 2) := by decide +kernel
theorem dX12_spend_47 : decode cX12_spend 47 = .ok (.if_icmp .ne 8, 3) := by decide +kernel
theorem dX12_spend_50 : decode cX12_spend 50 = .ok (.ldc 86, 2) := by decide +kernel
theorem dX12_spend_52 : decode cX12_spend 52 = .ok (.goto 14, 3) := by decide +kernel
theorem dX12_spend_55 : decode cX12_spend 55 = .ok (.aload_n 0, 1) := by decide +kernel
theorem dX12_spend_56 : decode cX12_spend 56 = .ok (.iconst 1, 1) := by decide +kernel
theorem dX12_spend_57 : decode cX12_spend 57 = .ok (.iload_n 1, 1) := by decide +kernel
theorem dX12_spend_58 : decode cX12_spend 58 = .ok (.iload_n 2, 1) := by decide +kernel
theorem dX12_spend_59 : decode cX12_spend 59 = .ok (.iload_n 3, 1) := by decide +kernel
theorem dX12_spend_60 : decode cX12_spend 60 = .ok (.iload 4, 2) := by decide +kernel
theorem dX12_spend_62 : decode cX12_spend 62 = .ok (.iconst 0, 1) := by decide +kernel
theorem dX12_spend_63 : decode cX12_spend 63 = .ok (.invokevirtual 103, 3) := by decide +kernel
theorem dX12_spend_66 : decode cX12_spend 66 = .ok (.ireturn, 1) := by decide +kernel
theorem dX12_gift_0 : decode cX12_gift 0 = .ok (.aload_n 0, 1) := by decide +kernel
theorem dX12_gift_1 : decode cX12_gift 1 = .ok (.iload_n 1, 1) := by decide +kernel
theorem dX12_gift_2 : decode cX12_gift 2 = .ok (.invokevirtual 87, 3) := by decide +kernel
theorem dX12_gift_5 : decode cX12_gift 5 = .ok (.ifCond .eq 36, 3) := by decide +kernel
theorem dX12_gift_8 : decode cX12_gift 8 = .ok (.aload_n 0, 1) := by decide +kernel
theorem dX12_gift_9 : decode cX12_gift 9 = .ok (.iload_n 2, 1) := by decide +kernel
theorem dX12_gift_10 : decode cX12_gift 10 = .ok (.invokevirtual 100, 3) := by decide +kernel
theorem dX12_gift_13 : decode cX12_gift 13 = .ok (.ifCond .eq 28, 3) := by decide +kernel
theorem dX12_gift_16 : decode cX12_gift 16 = .ok (.iload_n 3, 1) := by decide +kernel
theorem dX12_gift_17 : decode cX12_gift 17 = .ok (.iconst 1, 1) := by decide +kernel
theorem dX12_gift_18 : decode cX12_gift 18 = .ok (.ldc 107, 2) := by decide +kernel
theorem dX12_gift_20 : decode cX12_gift 20 = .ok (.invokestatic 81, 3) := by decide +kernel
theorem dX12_gift_23 : decode cX12_gift 23 = .ok (.ifCond .eq 18, 3) := by decide +kernel
theorem dX12_gift_26 : decode cX12_gift 26 = .ok (.aload_n 0, 1) := by decide +kernel
theorem dX12_gift_27 : decode cX12_gift 27 = .ok (.iload 4, 2) := by decide +kernel
theorem dX12_gift_29 : decode cX12_gift 29 = .ok (.invokevirtual 87, 3) := by decide +kernel
theorem dX12_gift_32 : decode cX12_gift 32 = .ok (.ifCond .eq 9, 3) := by decide +kernel
theorem dX12_gift_35 : decode cX12_gift 35 = .ok (.iload_n 1, 1) := by decide +kernel
theorem dX12_gift_36 : decode cX12_gift 36 = .ok (.iload 4, 2) := by decide +kernel
theorem dX12_gift_38 : decode cX12_gift 38 = .ok (.if_icmp .ne 6, 3) := by decide +kernel
theorem dX12_gift_41 : decode cX12_gift 41 = .ok (.ldc 85, 2) := by decide +kernel
theorem dX12_gift_43 : decode cX12_gift 43 = .ok (.ireturn, 1) := by decide +kernel
theorem dX12_gift_44 : decode cX12_gift 44 = .ok (.aload_n 0, 1) := by decide +kernel
theorem dX12_gift_45 : decode cX12_gift 45 = .ok (.getfield 7, 3) := by decide +kernel
theorem dX12_gift_48 : decode cX12_gift 48 = .ok (.iconst 5, 1) := by decide +kernel
theorem dX12_gift_49 : decode cX12_gift 49 = .ok (.iaload, 1) := by decide +kernel
theorem dX12_gift_50 : decode cX12_gift 50 = .ok (.bipush 100, 2) := by decide +kernel
theorem dX12_gift_52 : decode cX12_gift 52 = .ok (.if_icmp .ne 8, 3) := by decide +kernel
theorem dX12_gift_55 : decode cX12_gift 55 = .ok (.ldc 86, 2) := by decide +kernel
theorem dX12_gift_57 : decode cX12_gift 57 = .ok (.goto 14, 3) := by decide +kernel
theorem dX12_gift_60 : decode cX12_gift 60 = .ok (.aload_n 0, 1) := by decide +kernel
theorem dX12_gift_61 : decode cX12_gift 61 = .ok (.iconst 2, 1) := by decide +kernel
theorem dX12_gift_62 : decode cX12_gift 62 = .ok (.iload_n 1, 1) := by decide +kernel
theorem dX12_gift_63 : decode cX12_gift 63 = .ok (.iload_n 2, 1) := by decide +kernel
theorem dX12_gift_64 : decode cX12_gift 64 = .ok (.iload_n 3, 1) := by decide +kernel
theorem dX12_gift_65 : decode cX12_gift 65 = .ok (.iload 4, 2) := by decide +kernel
theorem dX12_gift_67 : decode cX12_gift 67 = .ok (.iconst 0, 1) := by decide +kernel
theorem dX12_gift_68 : decode cX12_gift 68 = .ok (.invokevirtual 103, 3) := by decide +kernel
theorem dX12_gift_71 : decode cX12_gift 71 = .ok (.ireturn, 1) := by decide +kernel
theorem dX12_back_0 : decode cX12_back 0 = .ok (.aload_n 0, 1) := by decide +kernel
theorem dX12_back_1 : decode cX12_back 1 = .ok (.iload_n 1, 1) := by decide +kernel
theorem dX12_back_2 : decode cX12_back 2 = .ok (.invokevirtual 108, 3) := by decide +kernel
theorem dX12_back_5 : decode cX12_back 5 = .ok (.ifCond .eq 45, 3) := by decide +kernel
theorem dX12_back_8 : decode cX12_back 8 = .ok (.aload_n 0, 1) := by decide +kernel
theorem dX12_back_9 : decode cX12_back 9 = .ok (.getfield 7, 3) := by decide +kernel
theorem dX12_back_12 : decode cX12_back 12 = .ok (.bipush 50, 2) := by decide +kernel
theorem dX12_back_14 : decode cX12_back 14 = .ok (.bipush 10, 2) := by decide +kernel
theorem dX12_back_16 : decode cX12_back 16 = .ok (.iload_n 1, 1) := by decide +kernel
theorem dX12_back_17 : decode cX12_back 17 = .ok (.imul, 1) := by decide +kernel
theorem dX12_back_18 : decode cX12_back 18 = .ok (.iadd, 1) := by decide +kernel
theorem dX12_back_19 : decode cX12_back 19 = .ok (.iaload, 1) := by decide +kernel
theorem dX12_back_20 : decode cX12_back 20 = .ok (.iconst 1, 1) := by decide +kernel
theorem dX12_back_21 : decode cX12_back 21 = .ok (.if_icmp .ne 29, 3) := by decide +kernel
theorem dX12_back_24 : decode cX12_back 24 = .ok (.aload_n 0, 1) := by decide +kernel
theorem dX12_back_25 : decode cX12_back 25 = .ok (.iload_n 2, 1) := by decide +kernel
theorem dX12_back_26 : decode cX12_back 26 = .ok (.invokevirtual 100, 3) := by decide +kernel
theorem dX12_back_29 : decode cX12_back 29 = .ok (.ifCond .eq 21, 3) := by decide +kernel
theorem dX12_back_32 : decode cX12_back 32 = .ok (.iload_n 2, 1) := by decide +kernel
theorem dX12_back_33 : decode cX12_back 33 = .ok (.aload_n 0, 1) := by decide +kernel
theorem dX12_back_34 : decode cX12_back 34 = .ok (.getfield 7, 3) := by decide +kernel
theorem dX12_back_37 : decode cX12_back 37 = .ok (.bipush 50, 2) := by decide +kernel
theorem dX12_back_39 : decode cX12_back 39 = .ok (.bipush 10, 2) := by decide +kernel
theorem dX12_back_41 : decode cX12_back 41 = .ok (.iload_n 1, 1) := by decide +kernel
theorem dX12_back_42 : decode cX12_back 42 = .ok (.imul, 1) := by decide +kernel
theorem dX12_back_43 : decode cX12_back 43 = .ok (.iadd, 1) := by decide +kernel
theorem dX12_back_44 : decode cX12_back 44 = .ok (.iconst 2, 1) := by decide +kernel
theorem dX12_back_45 : decode cX12_back 45 = .ok (.iadd, 1) := by decide +kernel
theorem dX12_back_46 : decode cX12_back 46 = .ok (.iaload, 1) := by decide +kernel
theorem dX12_back_47 : decode cX12_back 47 = .ok (.if_icmp .ge 6, 3) := by decide +kernel
theorem dX12_back_50 : decode cX12_back 50 = .ok (.ldc 85, 2) := by decide +kernel
theorem dX12_back_52 : decode cX12_back 52 = .ok (.ireturn, 1) := by decide +kernel
theorem dX12_back_53 : decode cX12_back 53 = .ok (.aload_n 0, 1) := by decide +kernel
theorem dX12_back_54 : decode cX12_back 54 = .ok (.getfield 7, 3) := by decide +kernel
theorem dX12_back_57 : decode cX12_back 57 = .ok (.iconst 5, 1) := by decide +kernel
theorem dX12_back_58 : decode cX12_back 58 = .ok (.iaload, 1) := by decide +kernel
theorem dX12_back_59 : decode cX12_back 59 = .ok (.bipush 100, 2) := by decide +kernel
theorem dX12_back_61 : decode cX12_back 61 = .ok (.if_icmp .ne 8, 3) := by decide +kernel
theorem dX12_back_64 : decode cX12_back 64 = .ok (.ldc 86, 2) := by decide +kernel
theorem dX12_back_66 : decode cX12_back 66 = .ok (.goto 39, 3) := by decide +kernel
theorem dX12_back_69 : decode cX12_back 69 = .ok (.aload_n 0, 1) := by decide +kernel
theorem dX12_back_70 : decode cX12_back 70 = .ok (.iconst 3, 1) := by decide +kernel
theorem dX12_back_71 : decode cX12_back 71 = .ok (.aload_n 0, 1) := by decide +kernel
theorem dX12_back_72 : decode cX12_back 72 = .ok (.getfield 7, 3) := by decide +kernel
theorem dX12_back_75 : decode cX12_back 75 = .ok (.bipush 50, 2) := by decide +kernel
theorem dX12_back_77 : decode cX12_back 77 = .ok (.bipush 10, 2) := by decide +kernel
theorem dX12_back_79 : decode cX12_back 79 = .ok (.iload_n 1, 1) := by decide +kernel
theorem dX12_back_80 : decode cX12_back 80 = .ok (.imul, 1) := by decide +kernel
theorem dX12_back_81 : decode cX12_back 81 = .ok (.iadd, 1) := by decide +kernel
theorem dX12_back_82 : decode cX12_back 82 = .ok (.iconst 1, 1) := by decide +kernel
theorem dX12_back_83 : decode cX12_back 83 = .ok (.iadd, 1) := by decide +kernel
theorem dX12_back_84 : decode cX12_back 84 = .ok (.iaload, 1) := by decide +kernel
theorem dX12_back_85 : decode cX12_back 85 = .ok (.iload_n 2, 1) := by decide +kernel
theorem dX12_back_86 : decode cX12_back 86 = .ok (.aload_n 0, 1) := by decide +kernel
theorem dX12_back_87 : decode cX12_back 87 = .ok (.getfield 7, 3) := by decide +kernel
theorem dX12_back_90 : decode cX12_back 90 = .ok (.bipush 50, 2) := by decide +kernel
theorem dX12_back_92 : decode cX12_back 92 = .ok (.bipush 10, 2) := by decide +kernel
theorem dX12_back_94 : decode cX12_back 94 = .ok (.iload_n 1, 1) := by decide +kernel
theorem dX12_back_95 : decode cX12_back 95 = .ok (.imul, 1) := by decide +kernel
theorem dX12_back_96 : decode cX12_back 96 = .ok (.iadd, 1) := by decide +kernel
theorem dX12_back_97 : decode cX12_back 97 = .ok (.iconst 5, 1) := by decide +kernel
theorem dX12_back_98 : decode cX12_back 98 = .ok (.iadd, 1) := by decide +kernel
theorem dX12_back_99 : decode cX12_back 99 = .ok (.iaload, 1) := by decide +kernel
theorem dX12_back_100 : decode cX12_back 100 = .ok (.iload_n 1, 1) := by decide +kernel
theorem dX12_back_101 : decode cX12_back 101 = .ok (.iconst 0, 1) := by decide +kernel
theorem dX12_back_102 : decode cX12_back 102 = .ok (.invokevirtual 103, 3) := by decide +kernel
theorem dX12_back_105 : decode cX12_back 105 = .ok (.ireturn, 1) := by decide +kernel
theorem dX12_withdraw_0 : decode cX12_withdraw 0 = .ok (.aload_n 0, 1) := by decide +kernel
theorem dX12_withdraw_1 : decode cX12_withdraw 1 = .ok (.iload_n 1, 1) := by decide +kernel
theorem dX12_withdraw_2 : decode cX12_withdraw 2 = .ok (.invokevirtual 108, 3) := by decide +kernel
theorem dX12_withdraw_5 : decode cX12_withdraw 5 = .ok (.ifCond .ne 6, 3) := by decide +kernel
theorem dX12_withdraw_8 : decode cX12_withdraw 8 = .ok (.ldc 85, 2) := by decide +kernel
theorem dX12_withdraw_10 : decode cX12_withdraw 10 = .ok (.ireturn, 1) := by decide +kernel
theorem dX12_withdraw_11 : decode cX12_withdraw 11 = .ok (.aload_n 0, 1) := by decide +kernel
theorem dX12_withdraw_12 : decode cX12_withdraw 12 = .ok (.getfield 7, 3) := by decide +kernel
theorem dX12_withdraw_15 : decode cX12_withdraw 15 = .ok (.bipush 50, 2) := by decide +kernel
theorem dX12_withdraw_17 : decode cX12_withdraw 17 = .ok (.bipush 10, 2) := by decide +kernel
theorem dX12_withdraw_19 : decode cX12_withdraw 19 = .ok (.iload_n 1, 1) := by decide +kernel
theorem dX12_withdraw_20 : decode cX12_withdraw 20 = .ok (.imul, 1) := by decide +kernel
theorem dX12_withdraw_21 : decode cX12_withdraw 21 = .ok (.iadd, 1) := by decide +kernel
theorem dX12_withdraw_22 : decode cX12_withdraw 22 = .ok (.iconst 4, 1) := by decide +kernel
theorem dX12_withdraw_23 : decode cX12_withdraw 23 = .ok (.iadd, 1) := by decide +kernel
theorem dX12_withdraw_24 : decode cX12_withdraw 24 = .ok (.iaload, 1) := by decide +kernel
theorem dX12_withdraw_25 : decode cX12_withdraw 25 = .ok (.iconst (-1), 1) := by decide +kernel
theorem dX12_withdraw_26 : decode cX12_withdraw 26 = .ok (.if_icmp .eq 6, 3) := by decide +kernel
theorem dX12_withdraw_29 : decode cX12_withdraw 29 = .ok (.ldc 111, 2) := by decide +kernel
theorem dX12_withdraw_31 : decode cX12_withdraw 31 = .ok (.ireturn, 1) := by decide +kernel
theorem dX12_withdraw_32 : decode cX12_withdraw 32 = .ok (.aload_n 0, 1) := by decide +kernel
theorem dX12_withdraw_33 : decode cX12_withdraw 33 = .ok (.getfield 7, 3) := by decide +kernel
theorem dX12_withdraw_36 : decode cX12_withdraw 36 = .ok (.bipush 50, 2) := by decide +kernel
theorem dX12_withdraw_38 : decode cX12_withdraw 38 = .ok (.bipush 10, 2) := by decide +kernel
theorem dX12_withdraw_40 : decode cX12_withdraw 40 = .ok (.iload_n 1, 1) := by decide +kernel
theorem dX12_withdraw_41 : decode cX12_withdraw 41 = .ok (.imul, 1) := by decide +kernel
theorem dX12_withdraw_42 : decode cX12_withdraw 42 = .ok (.iadd, 1) := by decide +kernel
theorem dX12_withdraw_43 : decode cX12_withdraw 43 = .ok (.iconst 4, 1) := by decide +kernel
theorem dX12_withdraw_44 : decode cX12_withdraw 44 = .ok (.iadd, 1) := by decide +kernel
theorem dX12_withdraw_45 : decode cX12_withdraw 45 = .ok (.aload_n 0, 1) := by decide +kernel
theorem dX12_withdraw_46 : decode cX12_withdraw 46 = .ok (.getfield 7, 3) := by decide +kernel
theorem dX12_withdraw_49 : decode cX12_withdraw 49 = .ok (.iconst 0, 1) := by decide +kernel
theorem dX12_withdraw_50 : decode cX12_withdraw 50 = .ok (.iaload, 1) := by decide +kernel
theorem dX12_withdraw_51 : decode cX12_withdraw 51 = .ok (.iastore, 1) := by decide +kernel
theorem dX12_withdraw_52 : decode cX12_withdraw 52 = .ok (.iconst 1, 1) := by decide +kernel
theorem dX12_withdraw_53 : decode cX12_withdraw 53 = .ok (.ireturn, 1) := by decide +kernel
theorem dX12_line_0 : decode cX12_line 0 = .ok (.aload_n 0, 1) := by decide +kernel
theorem dX12_line_1 : decode cX12_line 1 = .ok (.iload_n 1, 1) := by decide +kernel
theorem dX12_line_2 : decode cX12_line 2 = .ok (.invokevirtual 108, 3) := by decide +kernel
theorem dX12_line_5 : decode cX12_line 5 = .ok (.ifCond .eq 13, 3) := by decide +kernel
theorem dX12_line_8 : decode cX12_line 8 = .ok (.iload_n 2, 1) := by decide +kernel
theorem dX12_line_9 : decode cX12_line 9 = .ok (.iconst 0, 1) := by decide +kernel
theorem dX12_line_10 : decode cX12_line 10 = .ok (.bipush 6, 2) := by decide +kernel
theorem dX12_line_12 : decode cX12_line 12 = .ok (.invokestatic 81, 3) := by decide +kernel
theorem dX12_line_15 : decode cX12_line 15 = .ok (.ifCond .ne 6, 3) := by decide +kernel
theorem dX12_line_18 : decode cX12_line 18 = .ok (.ldc 85, 2) := by decide +kernel
theorem dX12_line_20 : decode cX12_line 20 = .ok (.ireturn, 1) := by decide +kernel
theorem dX12_line_21 : decode cX12_line 21 = .ok (.aload_n 0, 1) := by decide +kernel
theorem dX12_line_22 : decode cX12_line 22 = .ok (.getfield 7, 3) := by decide +kernel
theorem dX12_line_25 : decode cX12_line 25 = .ok (.bipush 50, 2) := by decide +kernel
theorem dX12_line_27 : decode cX12_line 27 = .ok (.bipush 10, 2) := by decide +kernel
theorem dX12_line_29 : decode cX12_line 29 = .ok (.iload_n 1, 1) := by decide +kernel
theorem dX12_line_30 : decode cX12_line 30 = .ok (.imul, 1) := by decide +kernel
theorem dX12_line_31 : decode cX12_line 31 = .ok (.iadd, 1) := by decide +kernel
theorem dX12_line_32 : decode cX12_line 32 = .ok (.iload_n 2, 1) := by decide +kernel
theorem dX12_line_33 : decode cX12_line 33 = .ok (.iadd, 1) := by decide +kernel
theorem dX12_line_34 : decode cX12_line 34 = .ok (.iaload, 1) := by decide +kernel
theorem dX12_line_35 : decode cX12_line 35 = .ok (.istore_n 3, 1) := by decide +kernel
theorem dX12_line_36 : decode cX12_line 36 = .ok (.iload_n 2, 1) := by decide +kernel
theorem dX12_line_37 : decode cX12_line 37 = .ok (.iconst 4, 1) := by decide +kernel
theorem dX12_line_38 : decode cX12_line 38 = .ok (.if_icmp .ne 10, 3) := by decide +kernel
theorem dX12_line_41 : decode cX12_line 41 = .ok (.iload_n 3, 1) := by decide +kernel
theorem dX12_line_42 : decode cX12_line 42 = .ok (.invokestatic 91, 3) := by decide +kernel
theorem dX12_line_45 : decode cX12_line 45 = .ok (.goto 4, 3) := by decide +kernel
theorem dX12_line_48 : decode cX12_line 48 = .ok (.iload_n 3, 1) := by decide +kernel
theorem dX12_line_49 : decode cX12_line 49 = .ok (.ireturn, 1) := by decide +kernel
theorem dX12_feed_0 : decode cX12_feed 0 = .ok (.aload_n 0, 1) := by decide +kernel
theorem dX12_feed_1 : decode cX12_feed 1 = .ok (.getfield 112, 3) := by decide +kernel
theorem dX12_feed_4 : decode cX12_feed 4 = .ok (.bipush 12, 2) := by decide +kernel
theorem dX12_feed_6 : decode cX12_feed 6 = .ok (.iadd, 1) := by decide +kernel
theorem dX12_feed_7 : decode cX12_feed 7 = .ok (.sipush 132, 3) := by decide +kernel
theorem dX12_feed_10 : decode cX12_feed 10 = .ok (.if_icmp .le 6, 3) := by decide +kernel
theorem dX12_feed_13 : decode cX12_feed 13 = .ok (.ldc 86, 2) := by decide +kernel
theorem dX12_feed_15 : decode cX12_feed 15 = .ok (.ireturn, 1) := by decide +kernel
theorem dX12_feed_16 : decode cX12_feed 16 = .ok (.iconst 0, 1) := by decide +kernel
theorem dX12_feed_17 : decode cX12_feed 17 = .ok (.istore 4, 2) := by decide +kernel
theorem dX12_feed_19 : decode cX12_feed 19 = .ok (.iload 4, 2) := by decide +kernel
theorem dX12_feed_21 : decode cX12_feed 21 = .ok (.bipush 12, 2) := by decide +kernel
theorem dX12_feed_23 : decode cX12_feed 23 = .ok (.if_icmp .ge 62, 3) := by decide +kernel
theorem dX12_feed_26 : decode cX12_feed 26 = .ok (.iload 4, 2) := by decide +kernel
theorem dX12_feed_28 : decode cX12_feed 28 = .ok (.iconst 4, 1) := by decide +kernel
theorem dX12_feed_29 : decode cX12_feed 29 = .ok (.if_icmp .ge 7, 3) := by decide +kernel
theorem dX12_feed_32 : decode cX12_feed 32 = .ok (.iload_n 1, 1) := by decide +kernel
theorem dX12_feed_33 : decode cX12_feed 33 = .ok (.goto 15, 3) := by decide +kernel
theorem dX12_feed_36 : decode cX12_feed 36 = .ok (.iload 4, 2) := by decide +kernel
theorem dX12_feed_38 : decode cX12_feed 38 = .ok (.bipush 8, 2) := by decide +kernel
theorem dX12_feed_40 : decode cX12_feed 40 = .ok (.if_icmp .ge 7, 3) := by decide +kernel
theorem dX12_feed_43 : decode cX12_feed 43 = .ok (.iload_n 2, 1) := by decide +kernel
theorem dX12_feed_44 : decode cX12_feed 44 = .ok (.goto 4, 3) := by decide +kernel
theorem dX12_feed_47 : decode cX12_feed 47 = .ok (.iload_n 3, 1) := by decide +kernel
theorem dX12_feed_48 : decode cX12_feed 48 = .ok (.istore 5, 2) := by decide +kernel
theorem dX12_feed_50 : decode cX12_feed 50 = .ok (.aload_n 0, 1) := by decide +kernel
theorem dX12_feed_51 : decode cX12_feed 51 = .ok (.getfield 16, 3) := by decide +kernel
theorem dX12_feed_54 : decode cX12_feed 54 = .ok (.aload_n 0, 1) := by decide +kernel
theorem dX12_feed_55 : decode cX12_feed 55 = .ok (.getfield 112, 3) := by decide +kernel
theorem dX12_feed_58 : decode cX12_feed 58 = .ok (.iload 4, 2) := by decide +kernel
theorem dX12_feed_60 : decode cX12_feed 60 = .ok (.iadd, 1) := by decide +kernel
theorem dX12_feed_61 : decode cX12_feed 61 = .ok (.iload 5, 2) := by decide +kernel
theorem dX12_feed_63 : decode cX12_feed 63 = .ok (.bipush 24, 2) := by decide +kernel
theorem dX12_feed_65 : decode cX12_feed 65 = .ok (.iload 4, 2) := by decide +kernel
theorem dX12_feed_67 : decode cX12_feed 67 = .ok (.iconst 4, 1) := by decide +kernel
theorem dX12_feed_68 : decode cX12_feed 68 = .ok (.irem, 1) := by decide +kernel
theorem dX12_feed_69 : decode cX12_feed 69 = .ok (.bipush 8, 2) := by decide +kernel
theorem dX12_feed_71 : decode cX12_feed 71 = .ok (.imul, 1) := by decide +kernel
theorem dX12_feed_72 : decode cX12_feed 72 = .ok (.isub, 1) := by decide +kernel
theorem dX12_feed_73 : decode cX12_feed 73 = .ok (.ishr, 1) := by decide +kernel
theorem dX12_feed_74 : decode cX12_feed 74 = .ok (.sipush 255, 3) := by decide +kernel
theorem dX12_feed_77 : decode cX12_feed 77 = .ok (.iand, 1) := by decide +kernel
theorem dX12_feed_78 : decode cX12_feed 78 = .ok (.iastore, 1) := by decide +kernel
theorem dX12_feed_79 : decode cX12_feed 79 = .ok (.iinc 4 1, 3) := by decide +kernel
theorem dX12_feed_82 : decode cX12_feed 82 = .ok (.goto (-63), 3) := by decide +kernel
theorem dX12_feed_85 : decode cX12_feed 85 = .ok (.aload_n 0, 1) := by decide +kernel
theorem dX12_feed_86 : decode cX12_feed 86 = .ok (.dup, 1) := by decide +kernel
theorem dX12_feed_87 : decode cX12_feed 87 = .ok (.getfield 112, 3) := by decide +kernel
theorem dX12_feed_90 : decode cX12_feed 90 = .ok (.bipush 12, 2) := by decide +kernel
theorem dX12_feed_92 : decode cX12_feed 92 = .ok (.iadd, 1) := by decide +kernel
theorem dX12_feed_93 : decode cX12_feed 93 = .ok (.putfield 112, 3) := by decide +kernel
theorem dX12_feed_96 : decode cX12_feed 96 = .ok (.aload_n 0, 1) := by decide +kernel
theorem dX12_feed_97 : decode cX12_feed 97 = .ok (.getfield 112, 3) := by decide +kernel
theorem dX12_feed_100 : decode cX12_feed 100 = .ok (.ireturn, 1) := by decide +kernel
theorem dX12_trim_0 : decode cX12_trim 0 = .ok (.iload_n 1, 1) := by decide +kernel
theorem dX12_trim_1 : decode cX12_trim 1 = .ok (.iconst 0, 1) := by decide +kernel
theorem dX12_trim_2 : decode cX12_trim 2 = .ok (.aload_n 0, 1) := by decide +kernel
theorem dX12_trim_3 : decode cX12_trim 3 = .ok (.getfield 112, 3) := by decide +kernel
theorem dX12_trim_6 : decode cX12_trim 6 = .ok (.invokestatic 81, 3) := by decide +kernel
theorem dX12_trim_9 : decode cX12_trim 9 = .ok (.ifCond .ne 6, 3) := by decide +kernel
theorem dX12_trim_12 : decode cX12_trim 12 = .ok (.ldc 85, 2) := by decide +kernel
theorem dX12_trim_14 : decode cX12_trim 14 = .ok (.ireturn, 1) := by decide +kernel
theorem dX12_trim_15 : decode cX12_trim 15 = .ok (.aload_n 0, 1) := by decide +kernel
theorem dX12_trim_16 : decode cX12_trim 16 = .ok (.iload_n 1, 1) := by decide +kernel
theorem dX12_trim_17 : decode cX12_trim 17 = .ok (.putfield 112, 3) := by decide +kernel
theorem dX12_trim_20 : decode cX12_trim 20 = .ok (.iload_n 1, 1) := by decide +kernel
theorem dX12_trim_21 : decode cX12_trim 21 = .ok (.ireturn, 1) := by decide +kernel
theorem dX12_wrong_0 : decode cX12_wrong 0 = .ok (.aload_n 0, 1) := by decide +kernel
theorem dX12_wrong_1 : decode cX12_wrong 1 = .ok (.getfield 116, 3) := by decide +kernel
theorem dX12_wrong_4 : decode cX12_wrong 4 = .ok (.ifCond .ne 11, 3) := by decide +kernel
theorem dX12_wrong_7 : decode cX12_wrong 7 = .ok (.aload_n 0, 1) := by decide +kernel
theorem dX12_wrong_8 : decode cX12_wrong 8 = .ok (.aload_n 0, 1) := by decide +kernel
theorem dX12_wrong_9 : decode cX12_wrong 9 = .ok (.getfield 120, 3) := by decide +kernel
theorem dX12_wrong_12 : decode cX12_wrong 12 = .ok (.putfield 123, 3) := by decide +kernel
theorem dX12_wrong_15 : decode cX12_wrong 15 = .ok (.aload_n 0, 1) := by decide +kernel
theorem dX12_wrong_16 : decode cX12_wrong 16 = .ok (.iconst 1, 1) := by decide +kernel
theorem dX12_wrong_17 : decode cX12_wrong 17 = .ok (.putfield 116, 3) := by decide +kernel
theorem dX12_wrong_20 : decode cX12_wrong 20 = .ok (.return_, 1) := by decide +kernel
theorem dX12_sortOf_0 : decode cX12_sortOf 0 = .ok (.iload_n 0, 1) := by decide +kernel
theorem dX12_sortOf_1 : decode cX12_sortOf 1 = .ok (.bipush 97, 2) := by decide +kernel
theorem dX12_sortOf_3 : decode cX12_sortOf 3 = .ok (.bipush 122, 2) := by decide +kernel
theorem dX12_sortOf_5 : decode cX12_sortOf 5 = .ok (.invokestatic 81, 3) := by decide +kernel
theorem dX12_sortOf_8 : decode cX12_sortOf 8 = .ok (.ifCond .eq 7, 3) := by decide +kernel
theorem dX12_sortOf_11 : decode cX12_sortOf 11 = .ok (.iconst 1, 1) := by decide +kernel
theorem dX12_sortOf_12 : decode cX12_sortOf 12 = .ok (.goto 19, 3) := by decide +kernel
theorem dX12_sortOf_15 : decode cX12_sortOf 15 = .ok (.iload_n 0, 1) := by decide +kernel
theorem dX12_sortOf_16 : decode cX12_sortOf 16 = .ok (.bipush 48, 2) := by decide +kernel
theorem dX12_sortOf_18 : decode cX12_sortOf 18 = .ok (.bipush 57, 2) := by decide +kernel
theorem dX12_sortOf_20 : decode cX12_sortOf 20 = .ok (.invokestatic 81, 3) := by decide +kernel
theorem dX12_sortOf_23 : decode cX12_sortOf 23 = .ok (.ifCond .eq 7, 3) := by decide +kernel
theorem dX12_sortOf_26 : decode cX12_sortOf 26 = .ok (.iconst 2, 1) := by decide +kernel
theorem dX12_sortOf_27 : decode cX12_sortOf 27 = .ok (.goto 4, 3) := by decide +kernel
theorem dX12_sortOf_30 : decode cX12_sortOf 30 = .ok (.iconst 3, 1) := by decide +kernel
theorem dX12_sortOf_31 : decode cX12_sortOf 31 = .ok (.ireturn, 1) := by decide +kernel
theorem dX12_next_0 : decode cX12_next 0 = .ok (.aload_n 0, 1) := by decide +kernel
theorem dX12_next_1 : decode cX12_next 1 = .ok (.getfield 116, 3) := by decide +kernel
theorem dX12_next_4 : decode cX12_next 4 = .ok (.ifCond .eq 4, 3) := by decide +kernel
theorem dX12_next_7 : decode cX12_next 7 = .ok (.return_, 1) := by decide +kernel
theorem dX12_next_8 : decode cX12_next 8 = .ok (.aload_n 0, 1) := by decide +kernel
theorem dX12_next_9 : decode cX12_next 9 = .ok (.getfield 126, 3) := by decide +kernel
theorem dX12_next_12 : decode cX12_next 12 = .ok (.istore_n 1, 1) := by decide +kernel
theorem dX12_next_13 : decode cX12_next 13 = .ok (.aload_n 0, 1) := by decide +kernel
theorem dX12_next_14 : decode cX12_next 14 = .ok (.aload_n 0, 1) := by decide +kernel
theorem dX12_next_15 : decode cX12_next 15 = .ok (.getfield 126, 3) := by decide +kernel
theorem dX12_next_18 : decode cX12_next 18 = .ok (.putfield 120, 3) := by decide +kernel
theorem dX12_next_21 : decode cX12_next 21 = .ok (.aload_n 0, 1) := by decide +kernel
theorem dX12_next_22 : decode cX12_next 22 = .ok (.getfield 120, 3) := by decide +kernel
theorem dX12_next_25 : decode cX12_next 25 = .ok (.aload_n 0, 1) := by decide +kernel
theorem dX12_next_26 : decode cX12_next 26 = .ok (.getfield 129, 3) := by decide +kernel
theorem dX12_next_29 : decode cX12_next 29 = .ok (.if_icmp .ge 30, 3) := by decide +kernel
theorem dX12_next_32 : decode cX12_next 32 = .ok (.aload_n 0, 1) := by decide +kernel
theorem dX12_next_33 : decode cX12_next 33 = .ok (.getfield 16, 3) := by decide +kernel
theorem dX12_next_36 : decode cX12_next 36 = .ok (.aload_n 0, 1) := by decide +kernel
theorem dX12_next_37 : decode cX12_next 37 = .ok (.getfield 120, 3) := by decide +kernel
theorem dX12_next_40 : decode cX12_next 40 = .ok (.iaload, 1) := by decide +kernel
theorem dX12_next_41 : decode cX12_next 41 = .ok (.bipush 32, 2) := by decide +kernel
theorem dX12_next_43 : decode cX12_next 43 = .ok (.if_icmp .ne 16, 3) := by decide +kernel
theorem dX12_next_46 : decode cX12_next 46 = .ok (.aload_n 0, 1) := by decide +kernel
theorem dX12_next_47 : decode cX12_next 47 = .ok (.dup, 1) := by decide +kernel
theorem dX12_next_48 : decode cX12_next 48 = .ok (.getfield 120, 3) := by decide +kernel
theorem dX12_next_51 : decode cX12_next 51 = .ok (.iconst 1, 1) := by decide +kernel
theorem dX12_next_52 : decode cX12_next 52 = .ok (.iadd, 1) := by decide +kernel
theorem dX12_next_53 : decode cX12_next 53 = .ok (.putfield 120, 3) := by decide +kernel
theorem dX12_next_56 : decode cX12_next 56 = .ok (.goto (-35), 3) := by decide +kernel
theorem dX12_next_59 : decode cX12_next 59 = .ok (.aload_n 0, 1) := by decide +kernel
theorem dX12_next_60 : decode cX12_next 60 = .ok (.aload_n 0, 1) := by decide +kernel
theorem dX12_next_61 : decode cX12_next 61 = .ok (.getfield 120, 3) := by decide +kernel
theorem dX12_next_64 : decode cX12_next 64 = .ok (.putfield 126, 3) := by decide +kernel
theorem dX12_next_67 : decode cX12_next 67 = .ok (.aload_n 0, 1) := by decide +kernel
theorem dX12_next_68 : decode cX12_next 68 = .ok (.getfield 120, 3) := by decide +kernel
theorem dX12_next_71 : decode cX12_next 71 = .ok (.iload_n 1, 1) := by decide +kernel
theorem dX12_next_72 : decode cX12_next 72 = .ok (.if_icmp .ne 22, 3) := by decide +kernel
theorem dX12_next_75 : decode cX12_next 75 = .ok (.aload_n 0, 1) := by decide +kernel
theorem dX12_next_76 : decode cX12_next 76 = .ok (.getfield 132, 3) := by decide +kernel
theorem dX12_next_79 : decode cX12_next 79 = .ok (.ifCond .eq 15, 3) := by decide +kernel
theorem dX12_next_82 : decode cX12_next 82 = .ok (.aload_n 0, 1) := by decide +kernel
theorem dX12_next_83 : decode cX12_next 83 = .ok (.getfield 132, 3) := by decide +kernel
theorem dX12_next_86 : decode cX12_next 86 = .ok (.iconst 3, 1) := by decide +kernel
theorem dX12_next_87 : decode cX12_next 87 = .ok (.if_icmp .eq 7, 3) := by decide +kernel
theorem dX12_next_90 : decode cX12_next 90 = .ok (.iconst 1, 1) := by decide +kernel
theorem dX12_next_91 : decode cX12_next 91 = .ok (.goto 4, 3) := by decide +kernel
theorem dX12_next_94 : decode cX12_next 94 = .ok (.iconst 0, 1) := by decide +kernel
theorem dX12_next_95 : decode cX12_next 95 = .ok (.istore_n 2, 1) := by decide +kernel
theorem dX12_next_96 : decode cX12_next 96 = .ok (.aload_n 0, 1) := by decide +kernel
theorem dX12_next_97 : decode cX12_next 97 = .ok (.aload_n 0, 1) := by decide +kernel
theorem dX12_next_98 : decode cX12_next 98 = .ok (.getfield 120, 3) := by decide +kernel
theorem dX12_next_101 : decode cX12_next 101 = .ok (.aload_n 0, 1) := by decide +kernel
theorem dX12_next_102 : decode cX12_next 102 = .ok (.getfield 129, 3) := by decide +kernel
theorem dX12_next_105 : decode cX12_next 105 = .ok (.if_icmp .ne 7, 3) := by decide +kernel
theorem dX12_next_108 : decode cX12_next 108 = .ok (.iconst 0, 1) := by decide +kernel
theorem dX12_next_109 : decode cX12_next 109 = .ok (.goto 15, 3) := by decide +kernel
theorem dX12_next_112 : decode cX12_next 112 = .ok (.aload_n 0, 1) := by decide +kernel
theorem dX12_next_113 : decode cX12_next 113 = .ok (.getfield 16, 3) := by decide +kernel
theorem dX12_next_116 : decode cX12_next 116 = .ok (.aload_n 0, 1) := by decide +kernel
theorem dX12_next_117 : decode cX12_next 117 = .ok (.getfield 120, 3) := by decide +kernel
theorem dX12_next_120 : decode cX12_next 120 = .ok (.iaload, 1) := by decide +kernel
theorem dX12_next_121 : decode cX12_next 121 = .ok (.invokestatic 135, 3) := by decide +kernel
theorem dX12_next_124 : decode cX12_next 124 = .ok (.putfield 132, 3) := by decide +kernel
theorem dX12_next_127 : decode cX12_next 127 = .ok (.aload_n 0, 1) := by decide +kernel
theorem dX12_next_128 : decode cX12_next 128 = .ok (.getfield 132, 3) := by decide +kernel
theorem dX12_next_131 : decode cX12_next 131 = .ok (.ifCond .eq 13, 3) := by decide +kernel
theorem dX12_next_134 : decode cX12_next 134 = .ok (.aload_n 0, 1) := by decide +kernel
theorem dX12_next_135 : decode cX12_next 135 = .ok (.dup, 1) := by decide +kernel
theorem dX12_next_136 : decode cX12_next 136 = .ok (.getfield 126, 3) := by decide +kernel
theorem dX12_next_139 : decode cX12_next 139 = .ok (.iconst 1, 1) := by decide +kernel
theorem dX12_next_140 : decode cX12_next 140 = .ok (.iadd, 1) := by decide +kernel
theorem dX12_next_141 : decode cX12_next 141 = .ok (.putfield 126, 3) := by decide +kernel
theorem dX12_next_144 : decode cX12_next 144 = .ok (.aload_n 0, 1) := by decide +kernel
theorem dX12_next_145 : decode cX12_next 145 = .ok (.getfield 132, 3) := by decide +kernel
theorem dX12_next_148 : decode cX12_next 148 = .ok (.iconst 3, 1) := by decide +kernel
theorem dX12_next_149 : decode cX12_next 149 = .ok (.if_icmp .eq 53, 3) := by decide +kernel
theorem dX12_next_152 : decode cX12_next 152 = .ok (.aload_n 0, 1) := by decide +kernel
theorem dX12_next_153 : decode cX12_next 153 = .ok (.getfield 126, 3) := by decide +kernel
theorem dX12_next_156 : decode cX12_next 156 = .ok (.aload_n 0, 1) := by decide +kernel
theorem dX12_next_157 : decode cX12_next 157 = .ok (.getfield 129, 3) := by decide +kernel
theorem dX12_next_160 : decode cX12_next 160 = .ok (.if_icmp .ge 42, 3) := by decide +kernel
theorem dX12_next_163 : decode cX12_next 163 = .ok (.aload_n 0, 1) := by decide +kernel
theorem dX12_next_164 : decode cX12_next 164 = .ok (.getfield 132, 3) := by decide +kernel
theorem dX12_next_167 : decode cX12_next 167 = .ok (.ifCond .eq 35, 3) := by decide +kernel
theorem dX12_next_170 : decode cX12_next 170 = .ok (.aload_n 0, 1) := by decide +kernel
theorem dX12_next_171 : decode cX12_next 171 = .ok (.getfield 16, 3) := by decide +kernel
theorem dX12_next_174 : decode cX12_next 174 = .ok (.aload_n 0, 1) := by decide +kernel
theorem dX12_next_175 : decode cX12_next 175 = .ok (.getfield 126, 3) := by decide +kernel
theorem dX12_next_178 : decode cX12_next 178 = .ok (.iaload, 1) := by decide +kernel
theorem dX12_next_179 : decode cX12_next 179 = .ok (.invokestatic 135, 3) := by decide +kernel
theorem dX12_next_182 : decode cX12_next 182 = .ok (.aload_n 0, 1) := by decide +kernel
theorem dX12_next_183 : decode cX12_next 183 = .ok (.getfield 132, 3) := by decide +kernel
theorem dX12_next_186 : decode cX12_next 186 = .ok (.if_icmp .ne 16, 3) := by decide +kernel
theorem dX12_next_189 : decode cX12_next 189 = .ok (.aload_n 0, 1) := by decide +kernel
theorem dX12_next_190 : decode cX12_next 190 = .ok (.dup, 1) := by decide +kernel
theorem dX12_next_191 : decode cX12_next 191 = .ok (.getfield 126, 3) := by decide +kernel
theorem dX12_next_194 : decode cX12_next 194 = .ok (.iconst 1, 1) := by decide +kernel
theorem dX12_next_195 : decode cX12_next 195 = .ok (.iadd, 1) := by decide +kernel
theorem dX12_next_196 : decode cX12_next 196 = .ok (.putfield 126, 3) := by decide +kernel
theorem dX12_next_199 : decode cX12_next 199 = .ok (.goto (-55), 3) := by decide +kernel
theorem dX12_next_202 : decode cX12_next 202 = .ok (.iload_n 2, 1) := by decide +kernel
theorem dX12_next_203 : decode cX12_next 203 = .ok (.ifCond .eq 23, 3) := by decide +kernel
theorem dX12_next_206 : decode cX12_next 206 = .ok (.aload_n 0, 1) := by decide +kernel
theorem dX12_next_207 : decode cX12_next 207 = .ok (.getfield 132, 3) := by decide +kernel
theorem dX12_next_210 : decode cX12_next 210 = .ok (.iconst 1, 1) := by decide +kernel
theorem dX12_next_211 : decode cX12_next 211 = .ok (.if_icmp .eq 11, 3) := by decide +kernel
theorem dX12_next_214 : decode cX12_next 214 = .ok (.aload_n 0, 1) := by decide +kernel
theorem dX12_next_215 : decode cX12_next 215 = .ok (.getfield 132, 3) := by decide +kernel
theorem dX12_next_218 : decode cX12_next 218 = .ok (.iconst 2, 1) := by decide +kernel
theorem dX12_next_219 : decode cX12_next 219 = .ok (.if_icmp .ne 7, 3) := by decide +kernel
theorem dX12_next_222 : decode cX12_next 222 = .ok (.aload_n 0, 1) := by decide +kernel
theorem dX12_next_223 : decode cX12_next 223 = .ok (.invokevirtual 138, 3) := by decide +kernel
theorem dX12_next_226 : decode cX12_next 226 = .ok (.return_, 1) := by decide +kernel
theorem dX12_isSign_0 : decode cX12_isSign 0 = .ok (.aload_n 0, 1) := by decide +kernel
theorem dX12_isSign_1 : decode cX12_isSign 1 = .ok (.getfield 132, 3) := by decide +kernel
theorem dX12_isSign_4 : decode cX12_isSign 4 = .ok (.iconst 3, 1) := by decide +kernel
theorem dX12_isSign_5 : decode cX12_isSign 5 = .ok (.if_icmp .ne 20, 3) := by decide +kernel
theorem dX12_isSign_8 : decode cX12_isSign 8 = .ok (.aload_n 0, 1) := by decide +kernel
theorem dX12_isSign_9 : decode cX12_isSign 9 = .ok (.getfield 16, 3) := by decide +kernel
theorem dX12_isSign_12 : decode cX12_isSign 12 = .ok (.aload_n 0, 1) := by decide +kernel
theorem dX12_isSign_13 : decode cX12_isSign 13 = .ok (.getfield 120, 3) := by decide +kernel
theorem dX12_isSign_16 : decode cX12_isSign 16 = .ok (.iaload, 1) := by decide +kernel
theorem dX12_isSign_17 : decode cX12_isSign 17 = .ok (.iload_n 1, 1) := by decide +kernel
theorem dX12_isSign_18 : decode cX12_isSign 18 = .ok (.if_icmp .ne 7, 3) := by decide +kernel
theorem dX12_isSign_21 : decode cX12_isSign 21 = .ok (.iconst 1, 1) := by decide +kernel
theorem dX12_isSign_22 : decode cX12_isSign 22 = .ok (.goto 4, 3) := by decide +kernel
theorem dX12_isSign_25 : decode cX12_isSign 25 = .ok (.iconst 0, 1) := by decide +kernel
theorem dX12_isSign_26 : decode cX12_isSign 26 = .ok (.ireturn, 1) := by decide +kernel
theorem dX12_isLetter_0 : decode cX12_isLetter 0 = .ok (.iload_n 2, 1) := by decide +kernel
theorem dX12_isLetter_1 : decode cX12_isLetter 1 = .ok (.ifCond .ne 19, 3) := by decide +kernel
theorem dX12_isLetter_4 : decode cX12_isLetter 4 = .ok (.iload_n 1, 1) := by decide +kernel
theorem dX12_isLetter_5 : decode cX12_isLetter 5 = .ok (.aload_n 0, 1) := by decide +kernel
theorem dX12_isLetter_6 : decode cX12_isLetter 6 = .ok (.getfield 126, 3) := by decide +kernel
theorem dX12_isLetter_9 : decode cX12_isLetter 9 = .ok (.if_icmp .ne 7, 3) := by decide +kernel
theorem dX12_isLetter_12 : decode cX12_isLetter 12 = .ok (.iconst 1, 1) := by decide +kernel
theorem dX12_isLetter_13 : decode cX12_isLetter 13 = .ok (.goto 30, 3) := by decide +kernel
theorem dX12_isLetter_16 : decode cX12_isLetter 16 = .ok (.iconst 0, 1) := by decide +kernel
theorem dX12_isLetter_17 : decode cX12_isLetter 17 = .ok (.goto 26, 3) := by decide +kernel
theorem dX12_isLetter_20 : decode cX12_isLetter 20 = .ok (.iload_n 1, 1) := by decide +kernel
theorem dX12_isLetter_21 : decode cX12_isLetter 21 = .ok (.aload_n 0, 1) := by decide +kernel
theorem dX12_isLetter_22 : decode cX12_isLetter 22 = .ok (.getfield 126, 3) := by decide +kernel
theorem dX12_isLetter_25 : decode cX12_isLetter 25 = .ok (.if_icmp .ge 17, 3) := by decide +kernel
theorem dX12_isLetter_28 : decode cX12_isLetter 28 = .ok (.aload_n 0, 1) := by decide +kernel
theorem dX12_isLetter_29 : decode cX12_isLetter 29 = .ok (.getfield 16, 3) := by decide +kernel
theorem dX12_isLetter_32 : decode cX12_isLetter 32 = .ok (.iload_n 1, 1) := by decide +kernel
theorem dX12_isLetter_33 : decode cX12_isLetter 33 = .ok (.iaload, 1) := by decide +kernel
theorem dX12_isLetter_34 : decode cX12_isLetter 34 = .ok (.iload_n 2, 1) := by decide +kernel
theorem dX12_isLetter_35 : decode cX12_isLetter 35 = .ok (.if_icmp .ne 7, 3) := by decide +kernel
theorem dX12_isLetter_38 : decode cX12_isLetter 38 = .ok (.iconst 1, 1) := by decide +kernel
theorem dX12_isLetter_39 : decode cX12_isLetter 39 = .ok (.goto 4, 3) := by decide +kernel
theorem dX12_isLetter_42 : decode cX12_isLetter 42 = .ok (.iconst 0, 1) := by decide +kernel
theorem dX12_isLetter_43 : decode cX12_isLetter 43 = .ok (.ireturn, 1) := by decide +kernel
theorem dX12_isWord_0 : decode cX12_isWord 0 = .ok (.aload_n 0, 1) := by decide +kernel
theorem dX12_isWord_1 : decode cX12_isWord 1 = .ok (.getfield 132, 3) := by decide +kernel
theorem dX12_isWord_4 : decode cX12_isWord 4 = .ok (.iconst 1, 1) := by decide +kernel
theorem dX12_isWord_5 : decode cX12_isWord 5 = .ok (.if_icmp .ne 47, 3) := by decide +kernel
theorem dX12_isWord_8 : decode cX12_isWord 8 = .ok (.aload_n 0, 1) := by decide +kernel
theorem dX12_isWord_9 : decode cX12_isWord 9 = .ok (.aload_n 0, 1) := by decide +kernel
theorem dX12_isWord_10 : decode cX12_isWord 10 = .ok (.getfield 120, 3) := by decide +kernel
theorem dX12_isWord_13 : decode cX12_isWord 13 = .ok (.iload_n 1, 1) := by decide +kernel
theorem dX12_isWord_14 : decode cX12_isWord 14 = .ok (.invokevirtual 141, 3) := by decide +kernel
theorem dX12_isWord_17 : decode cX12_isWord 17 = .ok (.ifCond .eq 35, 3) := by decide +kernel
theorem dX12_isWord_20 : decode cX12_isWord 20 = .ok (.aload_n 0, 1) := by decide +kernel
theorem dX12_isWord_21 : decode cX12_isWord 21 = .ok (.aload_n 0, 1) := by decide +kernel
theorem dX12_isWord_22 : decode cX12_isWord 22 = .ok (.getfield 120, 3) := by decide +kernel
theorem dX12_isWord_25 : decode cX12_isWord 25 = .ok (.iconst 1, 1) := by decide +kernel
theorem dX12_isWord_26 : decode cX12_isWord 26 = .ok (.iadd, 1) := by decide +kernel
theorem dX12_isWord_27 : decode cX12_isWord 27 = .ok (.iload_n 2, 1) := by decide +kernel
theorem dX12_isWord_28 : decode cX12_isWord 28 = .ok (.invokevirtual 141, 3) := by decide +kernel
theorem dX12_isWord_31 : decode cX12_isWord 31 = .ok (.ifCond .eq 21, 3) := by decide +kernel
theorem dX12_isWord_34 : decode cX12_isWord 34 = .ok (.aload_n 0, 1) := by decide +kernel
theorem dX12_isWord_35 : decode cX12_isWord 35 = .ok (.aload_n 0, 1) := by decide +kernel
theorem dX12_isWord_36 : decode cX12_isWord 36 = .ok (.getfield 120, 3) := by decide +kernel
theorem dX12_isWord_39 : decode cX12_isWord 39 = .ok (.iconst 2, 1) := by decide +kernel
theorem dX12_isWord_40 : decode cX12_isWord 40 = .ok (.iadd, 1) := by decide +kernel
theorem dX12_isWord_41 : decode cX12_isWord 41 = .ok (.iload_n 3, 1) := by decide +kernel
theorem dX12_isWord_42 : decode cX12_isWord 42 = .ok (.invokevirtual 141, 3) := by decide +kernel
theorem dX12_isWord_45 : decode cX12_isWord 45 = .ok (.ifCond .eq 7, 3) := by decide +kernel
theorem dX12_isWord_48 : decode cX12_isWord 48 = .ok (.iconst 1, 1) := by decide +kernel
theorem dX12_isWord_49 : decode cX12_isWord 49 = .ok (.goto 4, 3) := by decide +kernel
theorem dX12_isWord_52 : decode cX12_isWord 52 = .ok (.iconst 0, 1) := by decide +kernel
theorem dX12_isWord_53 : decode cX12_isWord 53 = .ok (.istore 6, 2) := by decide +kernel
theorem dX12_isWord_55 : decode cX12_isWord 55 = .ok (.iload 6, 2) := by decide +kernel
theorem dX12_isWord_57 : decode cX12_isWord 57 = .ok (.ifCond .eq 26, 3) := by decide +kernel
theorem dX12_isWord_60 : decode cX12_isWord 60 = .ok (.iload_n 3, 1) := by decide +kernel
theorem dX12_isWord_61 : decode cX12_isWord 61 = .ok (.ifCond .eq 18, 3) := by decide +kernel
theorem dX12_isWord_64 : decode cX12_isWord 64 = .ok (.aload_n 0, 1) := by decide +kernel
theorem dX12_isWord_65 : decode cX12_isWord 65 = .ok (.aload_n 0, 1) := by decide +kernel
theorem dX12_isWord_66 : decode cX12_isWord 66 = .ok (.getfield 120, 3) := by decide +kernel
theorem dX12_isWord_69 : decode cX12_isWord 69 = .ok (.iconst 3, 1) := by decide +kernel
theorem dX12_isWord_70 : decode cX12_isWord 70 = .ok (.iadd, 1) := by decide +kernel
theorem dX12_isWord_71 : decode cX12_isWord 71 = .ok (.iload 4, 2) := by decide +kernel
theorem dX12_isWord_73 : decode cX12_isWord 73 = .ok (.invokevirtual 141, 3) := by decide +kernel
theorem dX12_isWord_76 : decode cX12_isWord 76 = .ok (.ifCond .eq 7, 3) := by decide +kernel
theorem dX12_isWord_79 : decode cX12_isWord 79 = .ok (.iconst 1, 1) := by decide +kernel
theorem dX12_isWord_80 : decode cX12_isWord 80 = .ok (.goto 4, 3) := by decide +kernel
theorem dX12_isWord_83 : decode cX12_isWord 83 = .ok (.iconst 0, 1) := by decide +kernel
theorem dX12_isWord_84 : decode cX12_isWord 84 = .ok (.istore 6, 2) := by decide +kernel
theorem dX12_isWord_86 : decode cX12_isWord 86 = .ok (.iload 6, 2) := by decide +kernel
theorem dX12_isWord_88 : decode cX12_isWord 88 = .ok (.ifCond .eq 45, 3) := by decide +kernel
theorem dX12_isWord_91 : decode cX12_isWord 91 = .ok (.iload 4, 2) := by decide +kernel
theorem dX12_isWord_93 : decode cX12_isWord 93 = .ok (.ifCond .eq 18, 3) := by decide +kernel
theorem dX12_isWord_96 : decode cX12_isWord 96 = .ok (.aload_n 0, 1) := by decide +kernel
theorem dX12_isWord_97 : decode cX12_isWord 97 = .ok (.aload_n 0, 1) := by decide +kernel
theorem dX12_isWord_98 : decode cX12_isWord 98 = .ok (.getfield 120, 3) := by decide +kernel
theorem dX12_isWord_101 : decode cX12_isWord 101 = .ok (.iconst 4, 1) := by decide +kernel
theorem dX12_isWord_102 : decode cX12_isWord 102 = .ok (.iadd, 1) := by decide +kernel
theorem dX12_isWord_103 : decode cX12_isWord 103 = .ok (.iload 5, 2) := by decide +kernel
theorem dX12_isWord_105 : decode cX12_isWord 105 = .ok (.invokevirtual 141, 3) := by decide +kernel
theorem dX12_isWord_108 : decode cX12_isWord 108 = .ok (.ifCond .eq 25, 3) := by decide +kernel
theorem dX12_isWord_111 : decode cX12_isWord 111 = .ok (.iload 5, 2) := by decide +kernel
theorem dX12_isWord_113 : decode cX12_isWord 113 = .ok (.ifCond .eq 16, 3) := by decide +kernel
theorem dX12_isWord_116 : decode cX12_isWord 116 = .ok (.aload_n 0, 1) := by decide +kernel
theorem dX12_isWord_117 : decode cX12_isWord 117 = .ok (.getfield 126, 3) := by decide +kernel
theorem dX12_isWord_120 : decode cX12_isWord 120 = .ok (.aload_n 0, 1) := by decide +kernel
theorem dX12_isWord_121 : decode cX12_isWord 121 = .ok (.getfield 120, 3) := by decide +kernel
theorem dX12_isWord_124 : decode cX12_isWord 124 = .ok (.iconst 5, 1) := by decide +kernel
theorem dX12_isWord_125 : decode cX12_isWord 125 = .ok (.iadd, 1) := by decide +kernel
theorem dX12_isWord_126 : decode cX12_isWord 126 = .ok (.if_icmp .ne 7, 3) := by decide +kernel
theorem dX12_isWord_129 : decode cX12_isWord 129 = .ok (.iconst 1, 1) := by decide +kernel
theorem dX12_isWord_130 : decode cX12_isWord 130 = .ok (.goto 4, 3) := by decide +kernel
theorem dX12_isWord_133 : decode cX12_isWord 133 = .ok (.iconst 0, 1) := by decide +kernel
theorem dX12_isWord_134 : decode cX12_isWord 134 = .ok (.ireturn, 1) := by decide +kernel
theorem dX12_emit_0 : decode cX12_emit 0 = .ok (.sipush 265, 3) := by decide +kernel
theorem dX12_emit_3 : decode cX12_emit 3 = .ok (.aload_n 0, 1) := by decide +kernel
theorem dX12_emit_4 : decode cX12_emit 4 = .ok (.getfield 145, 3) := by decide +kernel
theorem dX12_emit_7 : decode cX12_emit 7 = .ok (.imul, 1) := by decide +kernel
theorem dX12_emit_8 : decode cX12_emit 8 = .ok (.iconst 1, 1) := by decide +kernel
theorem dX12_emit_9 : decode cX12_emit 9 = .ok (.iadd, 1) := by decide +kernel
theorem dX12_emit_10 : decode cX12_emit 10 = .ok (.iconst 2, 1) := by decide +kernel
theorem dX12_emit_11 : decode cX12_emit 11 = .ok (.aload_n 0, 1) := by decide +kernel
theorem dX12_emit_12 : decode cX12_emit 12 = .ok (.getfield 148, 3) := by decide +kernel
theorem dX12_emit_15 : decode cX12_emit 15 = .ok (.imul, 1) := by decide +kernel
theorem dX12_emit_16 : decode cX12_emit 16 = .ok (.iadd, 1) := by decide +kernel
theorem dX12_emit_17 : decode cX12_emit 17 = .ok (.istore_n 3, 1) := by decide +kernel
theorem dX12_emit_18 : decode cX12_emit 18 = .ok (.aload_n 0, 1) := by decide +kernel
theorem dX12_emit_19 : decode cX12_emit 19 = .ok (.getfield 19, 3) := by decide +kernel
theorem dX12_emit_22 : decode cX12_emit 22 = .ok (.iload_n 3, 1) := by decide +kernel
theorem dX12_emit_23 : decode cX12_emit 23 = .ok (.iload_n 1, 1) := by decide +kernel
theorem dX12_emit_24 : decode cX12_emit 24 = .ok (.iastore, 1) := by decide +kernel
theorem dX12_emit_25 : decode cX12_emit 25 = .ok (.aload_n 0, 1) := by decide +kernel
theorem dX12_emit_26 : decode cX12_emit 26 = .ok (.getfield 19, 3) := by decide +kernel
theorem dX12_emit_29 : decode cX12_emit 29 = .ok (.iload_n 3, 1) := by decide +kernel
theorem dX12_emit_30 : decode cX12_emit 30 = .ok (.iconst 1, 1) := by decide +kernel
theorem dX12_emit_31 : decode cX12_emit 31 = .ok (.iadd, 1) := by decide +kernel
theorem dX12_emit_32 : decode cX12_emit 32 = .ok (.iload_n 2, 1) := by decide +kernel
theorem dX12_emit_33 : decode cX12_emit 33 = .ok (.iastore, 1) := by decide +kernel
theorem dX12_emit_34 : decode cX12_emit 34 = .ok (.aload_n 0, 1) := by decide +kernel
theorem dX12_emit_35 : decode cX12_emit 35 = .ok (.dup, 1) := by decide +kernel
theorem dX12_emit_36 : decode cX12_emit 36 = .ok (.getfield 148, 3) := by decide +kernel
theorem dX12_emit_39 : decode cX12_emit 39 = .ok (.iconst 1, 1) := by decide +kernel
theorem dX12_emit_40 : decode cX12_emit 40 = .ok (.iadd, 1) := by decide +kernel
theorem dX12_emit_41 : decode cX12_emit 41 = .ok (.putfield 148, 3) := by decide +kernel
theorem dX12_emit_44 : decode cX12_emit 44 = .ok (.return_, 1) := by decide +kernel
theorem dX12_works_0 : decode cX12_works 0 = .ok (.aload_n 0, 1) := by decide +kernel
theorem dX12_works_1 : decode cX12_works 1 = .ok (.getfield 151, 3) := by decide +kernel
theorem dX12_works_4 : decode cX12_works 4 = .ok (.ifCond .le 64, 3) := by decide +kernel
theorem dX12_works_7 : decode cX12_works 7 = .ok (.aload_n 0, 1) := by decide +kernel
theorem dX12_works_8 : decode cX12_works 8 = .ok (.getfield 22, 3) := by decide +kernel
theorem dX12_works_11 : decode cX12_works 11 = .ok (.aload_n 0, 1) := by decide +kernel
theorem dX12_works_12 : decode cX12_works 12 = .ok (.getfield 151, 3) := by decide +kernel
theorem dX12_works_15 : decode cX12_works 15 = .ok (.iconst 1, 1) := by decide +kernel
theorem dX12_works_16 : decode cX12_works 16 = .ok (.isub, 1) := by decide +kernel
theorem dX12_works_17 : decode cX12_works 17 = .ok (.iaload, 1) := by decide +kernel
theorem dX12_works_18 : decode cX12_works 18 = .ok (.bipush 10, 2) := by decide +kernel
theorem dX12_works_20 : decode cX12_works 20 = .ok (.if_icmp .lt 48, 3) := by decide +kernel
theorem dX12_works_23 : decode cX12_works 23 = .ok (.aload_n 0, 1) := by decide +kernel
theorem dX12_works_24 : decode cX12_works 24 = .ok (.getfield 22, 3) := by decide +kernel
theorem dX12_works_27 : decode cX12_works 27 = .ok (.aload_n 0, 1) := by decide +kernel
theorem dX12_works_28 : decode cX12_works 28 = .ok (.getfield 151, 3) := by decide +kernel
theorem dX12_works_31 : decode cX12_works 31 = .ok (.iconst 1, 1) := by decide +kernel
theorem dX12_works_32 : decode cX12_works 32 = .ok (.isub, 1) := by decide +kernel
theorem dX12_works_33 : decode cX12_works 33 = .ok (.iaload, 1) := by decide +kernel
theorem dX12_works_34 : decode cX12_works 34 = .ok (.bipush 10, 2) := by decide +kernel
theorem dX12_works_36 : decode cX12_works 36 = .ok (.idiv, 1) := by decide +kernel
theorem dX12_works_37 : decode cX12_works 37 = .ok (.iload_n 1, 1) := by decide +kernel
theorem dX12_works_38 : decode cX12_works 38 = .ok (.if_icmp .lt 30, 3) := by decide +kernel
theorem dX12_works_41 : decode cX12_works 41 = .ok (.aload_n 0, 1) := by decide +kernel
theorem dX12_works_42 : decode cX12_works 42 = .ok (.dup, 1) := by decide +kernel
theorem dX12_works_43 : decode cX12_works 43 = .ok (.getfield 151, 3) := by decide +kernel
theorem dX12_works_46 : decode cX12_works 46 = .ok (.iconst 1, 1) := by decide +kernel
theorem dX12_works_47 : decode cX12_works 47 = .ok (.isub, 1) := by decide +kernel
theorem dX12_works_48 : decode cX12_works 48 = .ok (.putfield 151, 3) := by decide +kernel
theorem dX12_works_51 : decode cX12_works 51 = .ok (.aload_n 0, 1) := by decide +kernel
theorem dX12_works_52 : decode cX12_works 52 = .ok (.aload_n 0, 1) := by decide +kernel
theorem dX12_works_53 : decode cX12_works 53 = .ok (.getfield 22, 3) := by decide +kernel
theorem dX12_works_56 : decode cX12_works 56 = .ok (.aload_n 0, 1) := by decide +kernel
theorem dX12_works_57 : decode cX12_works 57 = .ok (.getfield 151, 3) := by decide +kernel
theorem dX12_works_60 : decode cX12_works 60 = .ok (.iaload, 1) := by decide +kernel
theorem dX12_works_61 : decode cX12_works 61 = .ok (.iconst 0, 1) := by decide +kernel
theorem dX12_works_62 : decode cX12_works 62 = .ok (.invokevirtual 154, 3) := by decide +kernel
theorem dX12_works_65 : decode cX12_works 65 = .ok (.goto (-65), 3) := by decide +kernel
theorem dX12_works_68 : decode cX12_works 68 = .ok (.return_, 1) := by decide +kernel
theorem dX12_parted_0 : decode cX12_parted 0 = .ok (.aload_n 0, 1) := by decide +kernel
theorem dX12_parted_1 : decode cX12_parted 1 = .ok (.getfield 151, 3) := by decide +kernel
theorem dX12_parted_4 : decode cX12_parted 4 = .ok (.ifCond .le 47, 3) := by decide +kernel
theorem dX12_parted_7 : decode cX12_parted 7 = .ok (.aload_n 0, 1) := by decide +kernel
theorem dX12_parted_8 : decode cX12_parted 8 = .ok (.getfield 22, 3) := by decide +kernel
theorem dX12_parted_11 : decode cX12_parted 11 = .ok (.aload_n 0, 1) := by decide +kernel
theorem dX12_parted_12 : decode cX12_parted 12 = .ok (.getfield 151, 3) := by decide +kernel
theorem dX12_parted_15 : decode cX12_parted 15 = .ok (.iconst 1, 1) := by decide +kernel
theorem dX12_parted_16 : decode cX12_parted 16 = .ok (.isub, 1) := by decide +kernel
theorem dX12_parted_17 : decode cX12_parted 17 = .ok (.iaload, 1) := by decide +kernel
theorem dX12_parted_18 : decode cX12_parted 18 = .ok (.iconst 3, 1) := by decide +kernel
theorem dX12_parted_19 : decode cX12_parted 19 = .ok (.if_icmp .ne 32, 3) := by decide +kernel
theorem dX12_parted_22 : decode cX12_parted 22 = .ok (.aload_n 0, 1) := by decide +kernel
theorem dX12_parted_23 : decode cX12_parted 23 = .ok (.dup, 1) := by decide +kernel
theorem dX12_parted_24 : decode cX12_parted 24 = .ok (.getfield 151, 3) := by decide +kernel
theorem dX12_parted_27 : decode cX12_parted 27 = .ok (.iconst 1, 1) := by decide +kernel
theorem dX12_parted_28 : decode cX12_parted 28 = .ok (.isub, 1) := by decide +kernel
theorem dX12_parted_29 : decode cX12_parted 29 = .ok (.putfield 151, 3) := by decide +kernel
theorem dX12_parted_32 : decode cX12_parted 32 = .ok (.aload_n 0, 1) := by decide +kernel
theorem dX12_parted_33 : decode cX12_parted 33 = .ok (.dup, 1) := by decide +kernel
theorem dX12_parted_34 : decode cX12_parted 34 = .ok (.getfield 158, 3) := by decide +kernel
theorem dX12_parted_37 : decode cX12_parted 37 = .ok (.iconst 1, 1) := by decide +kernel
theorem dX12_parted_38 : decode cX12_parted 38 = .ok (.isub, 1) := by decide +kernel
theorem dX12_parted_39 : decode cX12_parted 39 = .ok (.putfield 158, 3) := by decide +kernel
theorem dX12_parted_42 : decode cX12_parted 42 = .ok (.aload_n 0, 1) := by decide +kernel
theorem dX12_parted_43 : decode cX12_parted 43 = .ok (.iconst 3, 1) := by decide +kernel
theorem dX12_parted_44 : decode cX12_parted 44 = .ok (.iconst 0, 1) := by decide +kernel
theorem dX12_parted_45 : decode cX12_parted 45 = .ok (.invokevirtual 154, 3) := by decide +kernel
theorem dX12_parted_48 : decode cX12_parted 48 = .ok (.goto (-48), 3) := by decide +kernel
theorem dX12_parted_51 : decode cX12_parted 51 = .ok (.return_, 1) := by decide +kernel
theorem dX12_isName_0 : decode cX12_isName 0 = .ok (.aload_n 0, 1) := by decide +kernel
theorem dX12_isName_1 : decode cX12_isName 1 = .ok (.getfield 145, 3) := by decide +kernel
theorem dX12_isName_4 : decode cX12_isName 4 = .ok (.iconst 3, 1) := by decide +kernel
theorem dX12_isName_5 : decode cX12_isName 5 = .ok (.if_icmp .ge 17, 3) := by decide +kernel
theorem dX12_isName_8 : decode cX12_isName 8 = .ok (.iload_n 1, 1) := by decide +kernel
theorem dX12_isName_9 : decode cX12_isName 9 = .ok (.bipush 116, 2) := by decide +kernel
theorem dX12_isName_11 : decode cX12_isName 11 = .ok (.if_icmp .eq 9, 3) := by decide +kernel
theorem dX12_isName_14 : decode cX12_isName 14 = .ok (.iload_n 1, 1) := by decide +kernel
theorem dX12_isName_15 : decode cX12_isName 15 = .ok (.bipush 107, 2) := by decide +kernel
theorem dX12_isName_17 : decode cX12_isName 17 = .ok (.if_icmp .ne 5, 3) := by decide +kernel
theorem dX12_isName_20 : decode cX12_isName 20 = .ok (.iconst 1, 1) := by decide +kernel
theorem dX12_isName_21 : decode cX12_isName 21 = .ok (.ireturn, 1) := by decide +kernel
theorem dX12_isName_22 : decode cX12_isName 22 = .ok (.aload_n 0, 1) := by decide +kernel
theorem dX12_isName_23 : decode cX12_isName 23 = .ok (.getfield 145, 3) := by decide +kernel
theorem dX12_isName_26 : decode cX12_isName 26 = .ok (.ifCond .ne 33, 3) := by decide +kernel
theorem dX12_isName_29 : decode cX12_isName 29 = .ok (.iload_n 1, 1) := by decide +kernel
theorem dX12_isName_30 : decode cX12_isName 30 = .ok (.bipush 108, 2) := by decide +kernel
theorem dX12_isName_32 : decode cX12_isName 32 = .ok (.if_icmp .eq 21, 3) := by decide +kernel
theorem dX12_isName_35 : decode cX12_isName 35 = .ok (.iload_n 1, 1) := by decide +kernel
theorem dX12_isName_36 : decode cX12_isName 36 = .ok (.bipush 102, 2) := by decide +kernel
theorem dX12_isName_38 : decode cX12_isName 38 = .ok (.if_icmp .eq 15, 3) := by decide +kernel
theorem dX12_isName_41 : decode cX12_isName 41 = .ok (.iload_n 1, 1) := by decide +kernel
theorem dX12_isName_42 : decode cX12_isName 42 = .ok (.bipush 112, 2) := by decide +kernel
theorem dX12_isName_44 : decode cX12_isName 44 = .ok (.if_icmp .eq 9, 3) := by decide +kernel
theorem dX12_isName_47 : decode cX12_isName 47 = .ok (.iload_n 1, 1) := by decide +kernel
theorem dX12_isName_48 : decode cX12_isName 48 = .ok (.bipush 99, 2) := by decide +kernel
theorem dX12_isName_50 : decode cX12_isName 50 = .ok (.if_icmp .ne 7, 3) := by decide +kernel
theorem dX12_isName_53 : decode cX12_isName 53 = .ok (.iconst 1, 1) := by decide +kernel
theorem dX12_isName_54 : decode cX12_isName 54 = .ok (.goto 4, 3) := by decide +kernel
theorem dX12_isName_57 : decode cX12_isName 57 = .ok (.iconst 0, 1) := by decide +kernel
theorem dX12_isName_58 : decode cX12_isName 58 = .ok (.ireturn, 1) := by decide +kernel
theorem dX12_isName_59 : decode cX12_isName 59 = .ok (.aload_n 0, 1) := by decide +kernel
theorem dX12_isName_60 : decode cX12_isName 60 = .ok (.getfield 145, 3) := by decide +kernel
theorem dX12_isName_63 : decode cX12_isName 63 = .ok (.iconst 2, 1) := by decide +kernel
theorem dX12_isName_64 : decode cX12_isName 64 = .ok (.if_icmp .ne 35, 3) := by decide +kernel
theorem dX12_isName_67 : decode cX12_isName 67 = .ok (.iload_n 1, 1) := by decide +kernel
theorem dX12_isName_68 : decode cX12_isName 68 = .ok (.bipush 108, 2) := by decide +kernel
theorem dX12_isName_70 : decode cX12_isName 70 = .ok (.if_icmp .eq 21, 3) := by decide +kernel
theorem dX12_isName_73 : decode cX12_isName 73 = .ok (.iload_n 1, 1) := by decide +kernel
theorem dX12_isName_74 : decode cX12_isName 74 = .ok (.bipush 102, 2) := by decide +kernel
theorem dX12_isName_76 : decode cX12_isName 76 = .ok (.if_icmp .eq 15, 3) := by decide +kernel
theorem dX12_isName_79 : decode cX12_isName 79 = .ok (.iload_n 1, 1) := by decide +kernel
theorem dX12_isName_80 : decode cX12_isName 80 = .ok (.bipush 111, 2) := by decide +kernel
theorem dX12_isName_82 : decode cX12_isName 82 = .ok (.if_icmp .eq 9, 3) := by decide +kernel
theorem dX12_isName_85 : decode cX12_isName 85 = .ok (.iload_n 1, 1) := by decide +kernel
theorem dX12_isName_86 : decode cX12_isName 86 = .ok (.bipush 100, 2) := by decide +kernel
theorem dX12_isName_88 : decode cX12_isName 88 = .ok (.if_icmp .ne 7, 3) := by decide +kernel
theorem dX12_isName_91 : decode cX12_isName 91 = .ok (.iconst 1, 1) := by decide +kernel
theorem dX12_isName_92 : decode cX12_isName 92 = .ok (.goto 26, 3) := by decide +kernel
theorem dX12_isName_95 : decode cX12_isName 95 = .ok (.iconst 0, 1) := by decide +kernel
theorem dX12_isName_96 : decode cX12_isName 96 = .ok (.goto 22, 3) := by decide +kernel
theorem dX12_isName_99 : decode cX12_isName 99 = .ok (.aload_n 0, 1) := by decide +kernel
theorem dX12_isName_100 : decode cX12_isName 100 = .ok (.getfield 145, 3) := by decide +kernel
theorem dX12_isName_103 : decode cX12_isName 103 = .ok (.iconst 3, 1) := by decide +kernel
theorem dX12_isName_104 : decode cX12_isName 104 = .ok (.if_icmp .ne 13, 3) := by decide +kernel
theorem dX12_isName_107 : decode cX12_isName 107 = .ok (.iload_n 1, 1) := by decide +kernel
theorem dX12_isName_108 : decode cX12_isName 108 = .ok (.bipush 113, 2) := by decide +kernel
theorem dX12_isName_110 : decode cX12_isName 110 = .ok (.if_icmp .ne 7, 3) := by decide +kernel
theorem dX12_isName_113 : decode cX12_isName 113 = .ok (.iconst 1, 1) := by decide +kernel
theorem dX12_isName_114 : decode cX12_isName 114 = .ok (.goto 4, 3) := by decide +kernel
theorem dX12_isName_117 : decode cX12_isName 117 = .ok (.iconst 0, 1) := by decide +kernel
theorem dX12_isName_118 : decode cX12_isName 118 = .ok (.ireturn, 1) := by decide +kernel
theorem dX12_begins_0 : decode cX12_begins 0 = .ok (.aload_n 0, 1) := by decide +kernel
theorem dX12_begins_1 : decode cX12_begins 1 = .ok (.bipush 33, 2) := by decide +kernel
theorem dX12_begins_3 : decode cX12_begins 3 = .ok (.invokevirtual 161, 3) := by decide +kernel
theorem dX12_begins_6 : decode cX12_begins 6 = .ok (.ifCond .ne 12, 3) := by decide +kernel
theorem dX12_begins_9 : decode cX12_begins 9 = .ok (.aload_n 0, 1) := by decide +kernel
theorem dX12_begins_10 : decode cX12_begins 10 = .ok (.bipush 40, 2) := by decide +kernel
theorem dX12_begins_12 : decode cX12_begins 12 = .ok (.invokevirtual 161, 3) := by decide +kernel
theorem dX12_begins_15 : decode cX12_begins 15 = .ok (.ifCond .eq 106, 3) := by decide +kernel
theorem dX12_begins_18 : decode cX12_begins 18 = .ok (.aload_n 0, 1) := by decide +kernel
theorem dX12_begins_19 : decode cX12_begins 19 = .ok (.bipush 33, 2) := by decide +kernel
theorem dX12_begins_21 : decode cX12_begins 21 = .ok (.invokevirtual 161, 3) := by decide +kernel
theorem dX12_begins_24 : decode cX12_begins 24 = .ok (.istore_n 1, 1) := by decide +kernel
theorem dX12_begins_25 : decode cX12_begins 25 = .ok (.iload_n 1, 1) := by decide +kernel
theorem dX12_begins_26 : decode cX12_begins 26 = .ok (.ifCond .eq 10, 3) := by decide +kernel
theorem dX12_begins_29 : decode cX12_begins 29 = .ok (.aload_n 0, 1) := by decide +kernel
theorem dX12_begins_30 : decode cX12_begins 30 = .ok (.getfield 158, 3) := by decide +kernel
theorem dX12_begins_33 : decode cX12_begins 33 = .ok (.goto 7, 3) := by decide +kernel
theorem dX12_begins_36 : decode cX12_begins 36 = .ok (.aload_n 0, 1) := by decide +kernel
theorem dX12_begins_37 : decode cX12_begins 37 = .ok (.getfield 164, 3) := by decide +kernel
theorem dX12_begins_40 : decode cX12_begins 40 = .ok (.bipush 8, 2) := by decide +kernel
theorem dX12_begins_42 : decode cX12_begins 42 = .ok (.if_icmp .ne 9, 3) := by decide +kernel
theorem dX12_begins_45 : decode cX12_begins 45 = .ok (.aload_n 0, 1) := by decide +kernel
theorem dX12_begins_46 : decode cX12_begins 46 = .ok (.invokevirtual 138, 3) := by decide +kernel
theorem dX12_begins_49 : decode cX12_begins 49 = .ok (.iconst 0, 1) := by decide +kernel
theorem dX12_begins_50 : decode cX12_begins 50 = .ok (.ireturn, 1) := by decide +kernel
theorem dX12_begins_51 : decode cX12_begins 51 = .ok (.aload_n 0, 1) := by decide +kernel
theorem dX12_begins_52 : decode cX12_begins 52 = .ok (.getfield 22, 3) := by decide +kernel
theorem dX12_begins_55 : decode cX12_begins 55 = .ok (.aload_n 0, 1) := by decide +kernel
theorem dX12_begins_56 : decode cX12_begins 56 = .ok (.getfield 151, 3) := by decide +kernel
theorem dX12_begins_59 : decode cX12_begins 59 = .ok (.iload_n 1, 1) := by decide +kernel
theorem dX12_begins_60 : decode cX12_begins 60 = .ok (.ifCond .eq 7, 3) := by decide +kernel
theorem dX12_begins_63 : decode cX12_begins 63 = .ok (.iconst 3, 1) := by decide +kernel
theorem dX12_begins_64 : decode cX12_begins 64 = .ok (.goto 4, 3) := by decide +kernel
theorem dX12_begins_67 : decode cX12_begins 67 = .ok (.iconst 1, 1) := by decide +kernel
theorem dX12_begins_68 : decode cX12_begins 68 = .ok (.iastore, 1) := by decide +kernel
theorem dX12_begins_69 : decode cX12_begins 69 = .ok (.aload_n 0, 1) := by decide +kernel
theorem dX12_begins_70 : decode cX12_begins 70 = .ok (.dup, 1) := by decide +kernel
theorem dX12_begins_71 : decode cX12_begins 71 = .ok (.getfield 151, 3) := by decide +kernel
theorem dX12_begins_74 : decode cX12_begins 74 = .ok (.iconst 1, 1) := by decide +kernel
theorem dX12_begins_75 : decode cX12_begins 75 = .ok (.iadd, 1) := by decide +kernel
theorem dX12_begins_76 : decode cX12_begins 76 = .ok (.putfield 151, 3) := by decide +kernel
theorem dX12_begins_79 : decode cX12_begins 79 = .ok (.aload_n 0, 1) := by decide +kernel
theorem dX12_begins_80 : decode cX12_begins 80 = .ok (.dup, 1) := by decide +kernel
theorem dX12_begins_81 : decode cX12_begins 81 = .ok (.getfield 158, 3) := by decide +kernel
theorem dX12_begins_84 : decode cX12_begins 84 = .ok (.iload_n 1, 1) := by decide +kernel
theorem dX12_begins_85 : decode cX12_begins 85 = .ok (.ifCond .eq 7, 3) := by decide +kernel
theorem dX12_begins_88 : decode cX12_begins 88 = .ok (.iconst 1, 1) := by decide +kernel
theorem dX12_begins_89 : decode cX12_begins 89 = .ok (.goto 4, 3) := by decide +kernel
theorem dX12_begins_92 : decode cX12_begins 92 = .ok (.iconst 0, 1) := by decide +kernel
theorem dX12_begins_93 : decode cX12_begins 93 = .ok (.iadd, 1) := by decide +kernel
theorem dX12_begins_94 : decode cX12_begins 94 = .ok (.putfield 158, 3) := by decide +kernel
theorem dX12_begins_97 : decode cX12_begins 97 = .ok (.aload_n 0, 1) := by decide +kernel
theorem dX12_begins_98 : decode cX12_begins 98 = .ok (.dup, 1) := by decide +kernel
theorem dX12_begins_99 : decode cX12_begins 99 = .ok (.getfield 164, 3) := by decide +kernel
theorem dX12_begins_102 : decode cX12_begins 102 = .ok (.iload_n 1, 1) := by decide +kernel
theorem dX12_begins_103 : decode cX12_begins 103 = .ok (.ifCond .eq 7, 3) := by decide +kernel
theorem dX12_begins_106 : decode cX12_begins 106 = .ok (.iconst 0, 1) := by decide +kernel
theorem dX12_begins_107 : decode cX12_begins 107 = .ok (.goto 4, 3) := by decide +kernel
theorem dX12_begins_110 : decode cX12_begins 110 = .ok (.iconst 1, 1) := by decide +kernel
theorem dX12_begins_111 : decode cX12_begins 111 = .ok (.iadd, 1) := by decide +kernel
theorem dX12_begins_112 : decode cX12_begins 112 = .ok (.putfield 164, 3) := by decide +kernel
theorem dX12_begins_115 : decode cX12_begins 115 = .ok (.aload_n 0, 1) := by decide +kernel
theorem dX12_begins_116 : decode cX12_begins 116 = .ok (.invokevirtual 167, 3) := by decide +kernel
theorem dX12_begins_119 : decode cX12_begins 119 = .ok (.iconst 1, 1) := by decide +kernel
theorem dX12_begins_120 : decode cX12_begins 120 = .ok (.ireturn, 1) := by decide +kernel
theorem dX12_begins_121 : decode cX12_begins 121 = .ok (.aload_n 0, 1) := by decide +kernel
theorem dX12_begins_122 : decode cX12_begins 122 = .ok (.getfield 132, 3) := by decide +kernel
theorem dX12_begins_125 : decode cX12_begins 125 = .ok (.iconst 2, 1) := by decide +kernel
theorem dX12_begins_126 : decode cX12_begins 126 = .ok (.if_icmp .ne 61, 3) := by decide +kernel
theorem dX12_begins_129 : decode cX12_begins 129 = .ok (.aload_n 0, 1) := by decide +kernel
theorem dX12_begins_130 : decode cX12_begins 130 = .ok (.getfield 126, 3) := by decide +kernel
theorem dX12_begins_133 : decode cX12_begins 133 = .ok (.aload_n 0, 1) := by decide +kernel
theorem dX12_begins_134 : decode cX12_begins 134 = .ok (.getfield 120, 3) := by decide +kernel
theorem dX12_begins_137 : decode cX12_begins 137 = .ok (.isub, 1) := by decide +kernel
theorem dX12_begins_138 : decode cX12_begins 138 = .ok (.iconst 5, 1) := by decide +kernel
theorem dX12_begins_139 : decode cX12_begins 139 = .ok (.if_icmp .gt 48, 3) := by decide +kernel
theorem dX12_begins_142 : decode cX12_begins 142 = .ok (.iconst 0, 1) := by decide +kernel
theorem dX12_begins_143 : decode cX12_begins 143 = .ok (.istore_n 1, 1) := by decide +kernel
theorem dX12_begins_144 : decode cX12_begins 144 = .ok (.aload_n 0, 1) := by decide +kernel
theorem dX12_begins_145 : decode cX12_begins 145 = .ok (.getfield 120, 3) := by decide +kernel
theorem dX12_begins_148 : decode cX12_begins 148 = .ok (.istore_n 2, 1) := by decide +kernel
theorem dX12_begins_149 : decode cX12_begins 149 = .ok (.iload_n 2, 1) := by decide +kernel
theorem dX12_begins_150 : decode cX12_begins 150 = .ok (.aload_n 0, 1) := by decide +kernel
theorem dX12_begins_151 : decode cX12_begins 151 = .ok (.getfield 126, 3) := by decide +kernel
theorem dX12_begins_154 : decode cX12_begins 154 = .ok (.if_icmp .ge 24, 3) := by decide +kernel
theorem dX12_begins_157 : decode cX12_begins 157 = .ok (.bipush 10, 2) := by decide +kernel
theorem dX12_begins_159 : decode cX12_begins 159 = .ok (.iload_n 1, 1) := by decide +kernel
theorem dX12_begins_160 : decode cX12_begins 160 = .ok (.imul, 1) := by decide +kernel
theorem dX12_begins_161 : decode cX12_begins 161 = .ok (.aload_n 0, 1) := by decide +kernel
theorem dX12_begins_162 : decode cX12_begins 162 = .ok (.getfield 16, 3) := by decide +kernel
theorem dX12_begins_165 : decode cX12_begins 165 = .ok (.iload_n 2, 1) := by decide +kernel
theorem dX12_begins_166 : decode cX12_begins 166 = .ok (.iaload, 1) := by decide +kernel
theorem dX12_begins_167 : decode cX12_begins 167 = .ok (.iadd, 1) := by decide +kernel
theorem dX12_begins_168 : decode cX12_begins 168 = .ok (.bipush 48, 2) := by decide +kernel
theorem dX12_begins_170 : decode cX12_begins 170 = .ok (.isub, 1) := by decide +kernel
theorem dX12_begins_171 : decode cX12_begins 171 = .ok (.istore_n 1, 1) := by decide +kernel
theorem dX12_begins_172 : decode cX12_begins 172 = .ok (.iinc 2 1, 3) := by decide +kernel
theorem dX12_begins_175 : decode cX12_begins 175 = .ok (.goto (-26), 3) := by decide +kernel
theorem dX12_begins_178 : decode cX12_begins 178 = .ok (.aload_n 0, 1) := by decide +kernel
theorem dX12_begins_179 : decode cX12_begins 179 = .ok (.iconst 1, 1) := by decide +kernel
theorem dX12_begins_180 : decode cX12_begins 180 = .ok (.iload_n 1, 1) := by decide +kernel
theorem dX12_begins_181 : decode cX12_begins 181 = .ok (.invokevirtual 154, 3) := by decide +kernel
theorem dX12_begins_184 : decode cX12_begins 184 = .ok (.goto 63, 3) := by decide +kernel
theorem dX12_begins_187 : decode cX12_begins 187 = .ok (.aload_n 0, 1) := by decide +kernel
theorem dX12_begins_188 : decode cX12_begins 188 = .ok (.getfield 132, 3) := by decide +kernel
theorem dX12_begins_191 : decode cX12_begins 191 = .ok (.iconst 1, 1) := by decide +kernel
theorem dX12_begins_192 : decode cX12_begins 192 = .ok (.if_icmp .ne 49, 3) := by decide +kernel
theorem dX12_begins_195 : decode cX12_begins 195 = .ok (.aload_n 0, 1) := by decide +kernel
theorem dX12_begins_196 : decode cX12_begins 196 = .ok (.getfield 126, 3) := by decide +kernel
theorem dX12_begins_199 : decode cX12_begins 199 = .ok (.aload_n 0, 1) := by decide +kernel
theorem dX12_begins_200 : decode cX12_begins 200 = .ok (.getfield 120, 3) := by decide +kernel
theorem dX12_begins_203 : decode cX12_begins 203 = .ok (.isub, 1) := by decide +kernel
theorem dX12_begins_204 : decode cX12_begins 204 = .ok (.iconst 1, 1) := by decide +kernel
theorem dX12_begins_205 : decode cX12_begins 205 = .ok (.if_icmp .ne 36, 3) := by decide +kernel
theorem dX12_begins_208 : decode cX12_begins 208 = .ok (.aload_n 0, 1) := by decide +kernel
theorem dX12_begins_209 : decode cX12_begins 209 = .ok (.aload_n 0, 1) := by decide +kernel
theorem dX12_begins_210 : decode cX12_begins 210 = .ok (.getfield 16, 3) := by decide +kernel
theorem dX12_begins_213 : decode cX12_begins 213 = .ok (.aload_n 0, 1) := by decide +kernel
theorem dX12_begins_214 : decode cX12_begins 214 = .ok (.getfield 120, 3) := by decide +kernel
theorem dX12_begins_217 : decode cX12_begins 217 = .ok (.iaload, 1) := by decide +kernel
theorem dX12_begins_218 : decode cX12_begins 218 = .ok (.invokevirtual 170, 3) := by decide +kernel
theorem dX12_begins_221 : decode cX12_begins 221 = .ok (.ifCond .eq 20, 3) := by decide +kernel
theorem dX12_begins_224 : decode cX12_begins 224 = .ok (.aload_n 0, 1) := by decide +kernel
theorem dX12_begins_225 : decode cX12_begins 225 = .ok (.iconst 2, 1) := by decide +kernel
theorem dX12_begins_226 : decode cX12_begins 226 = .ok (.aload_n 0, 1) := by decide +kernel
theorem dX12_begins_227 : decode cX12_begins 227 = .ok (.getfield 16, 3) := by decide +kernel
theorem dX12_begins_230 : decode cX12_begins 230 = .ok (.aload_n 0, 1) := by decide +kernel
theorem dX12_begins_231 : decode cX12_begins 231 = .ok (.getfield 120, 3) := by decide +kernel
theorem dX12_begins_234 : decode cX12_begins 234 = .ok (.iaload, 1) := by decide +kernel
theorem dX12_begins_235 : decode cX12_begins 235 = .ok (.invokevirtual 154, 3) := by decide +kernel
theorem dX12_begins_238 : decode cX12_begins 238 = .ok (.goto 9, 3) := by decide +kernel
theorem dX12_begins_241 : decode cX12_begins 241 = .ok (.aload_n 0, 1) := by decide +kernel
theorem dX12_begins_242 : decode cX12_begins 242 = .ok (.invokevirtual 138, 3) := by decide +kernel
theorem dX12_begins_245 : decode cX12_begins 245 = .ok (.iconst 0, 1) := by decide +kernel
theorem dX12_begins_246 : decode cX12_begins 246 = .ok (.ireturn, 1) := by decide +kernel
theorem dX12_begins_247 : decode cX12_begins 247 = .ok (.aload_n 0, 1) := by decide +kernel
theorem dX12_begins_248 : decode cX12_begins 248 = .ok (.dup, 1) := by decide +kernel
theorem dX12_begins_249 : decode cX12_begins 249 = .ok (.getfield 173, 3) := by decide +kernel
theorem dX12_begins_252 : decode cX12_begins 252 = .ok (.iconst 1, 1) := by decide +kernel
theorem dX12_begins_253 : decode cX12_begins 253 = .ok (.iadd, 1) := by decide +kernel
theorem dX12_begins_254 : decode cX12_begins 254 = .ok (.putfield 173, 3) := by decide +kernel
theorem dX12_begins_257 : decode cX12_begins 257 = .ok (.aload_n 0, 1) := by decide +kernel
theorem dX12_begins_258 : decode cX12_begins 258 = .ok (.invokevirtual 167, 3) := by decide +kernel
theorem dX12_begins_261 : decode cX12_begins 261 = .ok (.aload_n 0, 1) := by decide +kernel
theorem dX12_begins_262 : decode cX12_begins 262 = .ok (.invokevirtual 176, 3) := by decide +kernel
theorem dX12_begins_265 : decode cX12_begins 265 = .ok (.iconst 0, 1) := by decide +kernel
theorem dX12_begins_266 : decode cX12_begins 266 = .ok (.ireturn, 1) := by decide +kernel
theorem dX12_signHere_0 : decode cX12_signHere 0 = .ok (.aload_n 0, 1) := by decide +kernel
theorem dX12_signHere_1 : decode cX12_signHere 1 = .ok (.getfield 132, 3) := by decide +kernel
theorem dX12_signHere_4 : decode cX12_signHere 4 = .ok (.iconst 3, 1) := by decide +kernel
theorem dX12_signHere_5 : decode cX12_signHere 5 = .ok (.if_icmp .eq 5, 3) := by decide +kernel
theorem dX12_signHere_8 : decode cX12_signHere 8 = .ok (.iconst 0, 1) := by decide +kernel
theorem dX12_signHere_9 : decode cX12_signHere 9 = .ok (.ireturn, 1) := by decide +kernel
theorem dX12_signHere_10 : decode cX12_signHere 10 = .ok (.aload_n 0, 1) := by decide +kernel
theorem dX12_signHere_11 : decode cX12_signHere 11 = .ok (.getfield 16, 3) := by decide +kernel
theorem dX12_signHere_14 : decode cX12_signHere 14 = .ok (.aload_n 0, 1) := by decide +kernel
theorem dX12_signHere_15 : decode cX12_signHere 15 = .ok (.getfield 120, 3) := by decide +kernel
theorem dX12_signHere_18 : decode cX12_signHere 18 = .ok (.iaload, 1) := by decide +kernel
theorem dX12_signHere_19 : decode cX12_signHere 19 = .ok (.lookupswitch 108 #[(38, 84), (42, 102), (43, 96), (45, 99), (47, 105), (60, 87), (61, 90), (62, 93), (124, 81)], 81) := by decide +kernel
theorem dX12_signHere_100 : decode cX12_signHere 100 = .ok (.bipush 10, 2) := by decide +kernel
theorem dX12_signHere_102 : decode cX12_signHere 102 = .ok (.ireturn, 1) := by decide +kernel
theorem dX12_signHere_103 : decode cX12_signHere 103 = .ok (.bipush 20, 2) := by decide +kernel
theorem dX12_signHere_105 : decode cX12_signHere 105 = .ok (.ireturn, 1) := by decide +kernel
theorem dX12_signHere_106 : decode cX12_signHere 106 = .ok (.bipush 30, 2) := by decide +kernel
theorem dX12_signHere_108 : decode cX12_signHere 108 = .ok (.ireturn, 1) := by decide +kernel
theorem dX12_signHere_109 : decode cX12_signHere 109 = .ok (.bipush 31, 2) := by decide +kernel
theorem dX12_signHere_111 : decode cX12_signHere 111 = .ok (.ireturn, 1) := by decide +kernel
theorem dX12_signHere_112 : decode cX12_signHere 112 = .ok (.bipush 32, 2) := by decide +kernel
theorem dX12_signHere_114 : decode cX12_signHere 114 = .ok (.ireturn, 1) := by decide +kernel
theorem dX12_signHere_115 : decode cX12_signHere 115 = .ok (.bipush 40, 2) := by decide +kernel
theorem dX12_signHere_117 : decode cX12_signHere 117 = .ok (.ireturn, 1) := by decide +kernel
theorem dX12_signHere_118 : decode cX12_signHere 118 = .ok (.bipush 41, 2) := by decide +kernel
theorem dX12_signHere_120 : decode cX12_signHere 120 = .ok (.ireturn, 1) := by decide +kernel
theorem dX12_signHere_121 : decode cX12_signHere 121 = .ok (.bipush 50, 2) := by decide +kernel
theorem dX12_signHere_123 : decode cX12_signHere 123 = .ok (.ireturn, 1) := by decide +kernel
theorem dX12_signHere_124 : decode cX12_signHere 124 = .ok (.bipush 51, 2) := by decide +kernel
theorem dX12_signHere_126 : decode cX12_signHere 126 = .ok (.ireturn, 1) := by decide +kernel
theorem dX12_signHere_127 : decode cX12_signHere 127 = .ok (.iconst 0, 1) := by decide +kernel
theorem dX12_signHere_128 : decode cX12_signHere 128 = .ok (.ireturn, 1) := by decide +kernel
theorem dX12_expression_0 : decode cX12_expression 0 = .ok (.aload_n 0, 1) := by decide +kernel
theorem dX12_expression_1 : decode cX12_expression 1 = .ok (.iconst 0, 1) := by decide +kernel
theorem dX12_expression_2 : decode cX12_expression 2 = .ok (.putfield 151, 3) := by decide +kernel
theorem dX12_expression_5 : decode cX12_expression 5 = .ok (.aload_n 0, 1) := by decide +kernel
theorem dX12_expression_6 : decode cX12_expression 6 = .ok (.iconst 0, 1) := by decide +kernel
theorem dX12_expression_7 : decode cX12_expression 7 = .ok (.putfield 164, 3) := by decide +kernel
theorem dX12_expression_10 : decode cX12_expression 10 = .ok (.aload_n 0, 1) := by decide +kernel
theorem dX12_expression_11 : decode cX12_expression 11 = .ok (.iconst 0, 1) := by decide +kernel
theorem dX12_expression_12 : decode cX12_expression 12 = .ok (.putfield 158, 3) := by decide +kernel
theorem dX12_expression_15 : decode cX12_expression 15 = .ok (.iconst 1, 1) := by decide +kernel
theorem dX12_expression_16 : decode cX12_expression 16 = .ok (.istore_n 1, 1) := by decide +kernel
theorem dX12_expression_17 : decode cX12_expression 17 = .ok (.iconst 1, 1) := by decide +kernel
theorem dX12_expression_18 : decode cX12_expression 18 = .ok (.istore_n 2, 1) := by decide +kernel
theorem dX12_expression_19 : decode cX12_expression 19 = .ok (.iload_n 2, 1) := by decide +kernel
theorem dX12_expression_20 : decode cX12_expression 20 = .ok (.ifCond .eq 188, 3) := by decide +kernel
theorem dX12_expression_23 : decode cX12_expression 23 = .ok (.aload_n 0, 1) := by decide +kernel
theorem dX12_expression_24 : decode cX12_expression 24 = .ok (.getfield 116, 3) := by decide +kernel
theorem dX12_expression_27 : decode cX12_expression 27 = .ok (.ifCond .ne 181, 3) := by decide +kernel
theorem dX12_expression_30 : decode cX12_expression 30 = .ok (.iload_n 1, 1) := by decide +kernel
theorem dX12_expression_31 : decode cX12_expression 31 = .ok (.ifCond .eq 11, 3) := by decide +kernel
theorem dX12_expression_34 : decode cX12_expression 34 = .ok (.aload_n 0, 1) := by decide +kernel
theorem dX12_expression_35 : decode cX12_expression 35 = .ok (.invokevirtual 179, 3) := by decide +kernel
theorem dX12_expression_38 : decode cX12_expression 38 = .ok (.istore_n 1, 1) := by decide +kernel
theorem dX12_expression_39 : decode cX12_expression 39 = .ok (.goto (-20), 3) := by decide +kernel
theorem dX12_expression_42 : decode cX12_expression 42 = .ok (.aload_n 0, 1) := by decide +kernel
theorem dX12_expression_43 : decode cX12_expression 43 = .ok (.invokevirtual 183, 3) := by decide +kernel
theorem dX12_expression_46 : decode cX12_expression 46 = .ok (.istore_n 3, 1) := by decide +kernel
theorem dX12_expression_47 : decode cX12_expression 47 = .ok (.iload_n 3, 1) := by decide +kernel
theorem dX12_expression_48 : decode cX12_expression 48 = .ok (.ifCond .eq 92, 3) := by decide +kernel
theorem dX12_expression_51 : decode cX12_expression 51 = .ok (.aload_n 0, 1) := by decide +kernel
theorem dX12_expression_52 : decode cX12_expression 52 = .ok (.iload_n 3, 1) := by decide +kernel
theorem dX12_expression_53 : decode cX12_expression 53 = .ok (.bipush 10, 2) := by decide +kernel
theorem dX12_expression_55 : decode cX12_expression 55 = .ok (.idiv, 1) := by decide +kernel
theorem dX12_expression_56 : decode cX12_expression 56 = .ok (.iconst 3, 1) := by decide +kernel
theorem dX12_expression_57 : decode cX12_expression 57 = .ok (.if_icmp .ne 7, 3) := by decide +kernel
theorem dX12_expression_60 : decode cX12_expression 60 = .ok (.iconst 4, 1) := by decide +kernel
theorem dX12_expression_61 : decode cX12_expression 61 = .ok (.goto 7, 3) := by decide +kernel
theorem dX12_expression_64 : decode cX12_expression 64 = .ok (.iload_n 3, 1) := by decide +kernel
theorem dX12_expression_65 : decode cX12_expression 65 = .ok (.bipush 10, 2) := by decide +kernel
theorem dX12_expression_67 : decode cX12_expression 67 = .ok (.idiv, 1) := by decide +kernel
theorem dX12_expression_68 : decode cX12_expression 68 = .ok (.invokevirtual 187, 3) := by decide +kernel
theorem dX12_expression_71 : decode cX12_expression 71 = .ok (.iload_n 3, 1) := by decide +kernel
theorem dX12_expression_72 : decode cX12_expression 72 = .ok (.bipush 10, 2) := by decide +kernel
theorem dX12_expression_74 : decode cX12_expression 74 = .ok (.idiv, 1) := by decide +kernel
theorem dX12_expression_75 : decode cX12_expression 75 = .ok (.iconst 3, 1) := by decide +kernel
theorem dX12_expression_76 : decode cX12_expression 76 = .ok (.if_icmp .ne 35, 3) := by decide +kernel
theorem dX12_expression_79 : decode cX12_expression 79 = .ok (.aload_n 0, 1) := by decide +kernel
theorem dX12_expression_80 : decode cX12_expression 80 = .ok (.getfield 151, 3) := by decide +kernel
theorem dX12_expression_83 : decode cX12_expression 83 = .ok (.ifCond .le 28, 3) := by decide +kernel
theorem dX12_expression_86 : decode cX12_expression 86 = .ok (.aload_n 0, 1) := by decide +kernel
theorem dX12_expression_87 : decode cX12_expression 87 = .ok (.getfield 22, 3) := by decide +kernel
theorem dX12_expression_90 : decode cX12_expression 90 = .ok (.aload_n 0, 1) := by decide +kernel
theorem dX12_expression_91 : decode cX12_expression 91 = .ok (.getfield 151, 3) := by decide +kernel
theorem dX12_expression_94 : decode cX12_expression 94 = .ok (.iconst 1, 1) := by decide +kernel
theorem dX12_expression_95 : decode cX12_expression 95 = .ok (.isub, 1) := by decide +kernel
theorem dX12_expression_96 : decode cX12_expression 96 = .ok (.iaload, 1) := by decide +kernel
theorem dX12_expression_97 : decode cX12_expression 97 = .ok (.bipush 10, 2) := by decide +kernel
theorem dX12_expression_99 : decode cX12_expression 99 = .ok (.idiv, 1) := by decide +kernel
theorem dX12_expression_100 : decode cX12_expression 100 = .ok (.iconst 3, 1) := by decide +kernel
theorem dX12_expression_101 : decode cX12_expression 101 = .ok (.if_icmp .ne 10, 3) := by decide +kernel
theorem dX12_expression_104 : decode cX12_expression 104 = .ok (.aload_n 0, 1) := by decide +kernel
theorem dX12_expression_105 : decode cX12_expression 105 = .ok (.invokevirtual 138, 3) := by decide +kernel
theorem dX12_expression_108 : decode cX12_expression 108 = .ok (.goto 97, 3) := by decide +kernel
theorem dX12_expression_111 : decode cX12_expression 111 = .ok (.aload_n 0, 1) := by decide +kernel
theorem dX12_expression_112 : decode cX12_expression 112 = .ok (.getfield 22, 3) := by decide +kernel
theorem dX12_expression_115 : decode cX12_expression 115 = .ok (.aload_n 0, 1) := by decide +kernel
theorem dX12_expression_116 : decode cX12_expression 116 = .ok (.getfield 151, 3) := by decide +kernel
theorem dX12_expression_119 : decode cX12_expression 119 = .ok (.iload_n 3, 1) := by decide +kernel
theorem dX12_expression_120 : decode cX12_expression 120 = .ok (.iastore, 1) := by decide +kernel
theorem dX12_expression_121 : decode cX12_expression 121 = .ok (.aload_n 0, 1) := by decide +kernel
theorem dX12_expression_122 : decode cX12_expression 122 = .ok (.dup, 1) := by decide +kernel
theorem dX12_expression_123 : decode cX12_expression 123 = .ok (.getfield 151, 3) := by decide +kernel
theorem dX12_expression_126 : decode cX12_expression 126 = .ok (.iconst 1, 1) := by decide +kernel
theorem dX12_expression_127 : decode cX12_expression 127 = .ok (.iadd, 1) := by decide +kernel
theorem dX12_expression_128 : decode cX12_expression 128 = .ok (.putfield 151, 3) := by decide +kernel
theorem dX12_expression_131 : decode cX12_expression 131 = .ok (.iconst 1, 1) := by decide +kernel
theorem dX12_expression_132 : decode cX12_expression 132 = .ok (.istore_n 1, 1) := by decide +kernel
theorem dX12_expression_133 : decode cX12_expression 133 = .ok (.aload_n 0, 1) := by decide +kernel
theorem dX12_expression_134 : decode cX12_expression 134 = .ok (.invokevirtual 167, 3) := by decide +kernel
theorem dX12_expression_137 : decode cX12_expression 137 = .ok (.goto 68, 3) := by decide +kernel
theorem dX12_expression_140 : decode cX12_expression 140 = .ok (.aload_n 0, 1) := by decide +kernel
theorem dX12_expression_141 : decode cX12_expression 141 = .ok (.bipush 41, 2) := by decide +kernel
theorem dX12_expression_143 : decode cX12_expression 143 = .ok (.invokevirtual 161, 3) := by decide +kernel
theorem dX12_expression_146 : decode cX12_expression 146 = .ok (.ifCond .eq 46, 3) := by decide +kernel
theorem dX12_expression_149 : decode cX12_expression 149 = .ok (.aload_n 0, 1) := by decide +kernel
theorem dX12_expression_150 : decode cX12_expression 150 = .ok (.getfield 164, 3) := by decide +kernel
theorem dX12_expression_153 : decode cX12_expression 153 = .ok (.ifCond .le 39, 3) := by decide +kernel
theorem dX12_expression_156 : decode cX12_expression 156 = .ok (.aload_n 0, 1) := by decide +kernel
theorem dX12_expression_157 : decode cX12_expression 157 = .ok (.iconst 1, 1) := by decide +kernel
theorem dX12_expression_158 : decode cX12_expression 158 = .ok (.invokevirtual 187, 3) := by decide +kernel
theorem dX12_expression_161 : decode cX12_expression 161 = .ok (.aload_n 0, 1) := by decide +kernel
theorem dX12_expression_162 : decode cX12_expression 162 = .ok (.dup, 1) := by decide +kernel
theorem dX12_expression_163 : decode cX12_expression 163 = .ok (.getfield 151, 3) := by decide +kernel
theorem dX12_expression_166 : decode cX12_expression 166 = .ok (.iconst 1, 1) := by decide +kernel
theorem dX12_expression_167 : decode cX12_expression 167 = .ok (.isub, 1) := by decide +kernel
theorem dX12_expression_168 : decode cX12_expression 168 = .ok (.putfield 151, 3) := by decide +kernel
theorem dX12_expression_171 : decode cX12_expression 171 = .ok (.aload_n 0, 1) := by decide +kernel
theorem dX12_expression_172 : decode cX12_expression 172 = .ok (.dup, 1) := by decide +kernel
theorem dX12_expression_173 : decode cX12_expression 173 = .ok (.getfield 164, 3) := by decide +kernel
theorem dX12_expression_176 : decode cX12_expression 176 = .ok (.iconst 1, 1) := by decide +kernel
theorem dX12_expression_177 : decode cX12_expression 177 = .ok (.isub, 1) := by decide +kernel
theorem dX12_expression_178 : decode cX12_expression 178 = .ok (.putfield 164, 3) := by decide +kernel
theorem dX12_expression_181 : decode cX12_expression 181 = .ok (.aload_n 0, 1) := by decide +kernel
theorem dX12_expression_182 : decode cX12_expression 182 = .ok (.invokevirtual 167, 3) := by decide +kernel
theorem dX12_expression_185 : decode cX12_expression 185 = .ok (.aload_n 0, 1) := by decide +kernel
theorem dX12_expression_186 : decode cX12_expression 186 = .ok (.invokevirtual 176, 3) := by decide +kernel
theorem dX12_expression_189 : decode cX12_expression 189 = .ok (.goto 16, 3) := by decide +kernel
theorem dX12_expression_192 : decode cX12_expression 192 = .ok (.iconst 0, 1) := by decide +kernel
theorem dX12_expression_193 : decode cX12_expression 193 = .ok (.istore_n 2, 1) := by decide +kernel
theorem dX12_expression_194 : decode cX12_expression 194 = .ok (.aload_n 0, 1) := by decide +kernel
theorem dX12_expression_195 : decode cX12_expression 195 = .ok (.getfield 164, 3) := by decide +kernel
theorem dX12_expression_198 : decode cX12_expression 198 = .ok (.ifCond .le 7, 3) := by decide +kernel
theorem dX12_expression_201 : decode cX12_expression 201 = .ok (.aload_n 0, 1) := by decide +kernel
theorem dX12_expression_202 : decode cX12_expression 202 = .ok (.invokevirtual 138, 3) := by decide +kernel
theorem dX12_expression_205 : decode cX12_expression 205 = .ok (.goto (-186), 3) := by decide +kernel
theorem dX12_expression_208 : decode cX12_expression 208 = .ok (.aload_n 0, 1) := by decide +kernel
theorem dX12_expression_209 : decode cX12_expression 209 = .ok (.getfield 116, 3) := by decide +kernel
theorem dX12_expression_212 : decode cX12_expression 212 = .ok (.ifCond .ne 8, 3) := by decide +kernel
theorem dX12_expression_215 : decode cX12_expression 215 = .ok (.aload_n 0, 1) := by decide +kernel
theorem dX12_expression_216 : decode cX12_expression 216 = .ok (.iconst 1, 1) := by decide +kernel
theorem dX12_expression_217 : decode cX12_expression 217 = .ok (.invokevirtual 187, 3) := by decide +kernel
theorem dX12_expression_220 : decode cX12_expression 220 = .ok (.return_, 1) := by decide +kernel
theorem dX12_reads_0 : decode cX12_reads 0 = .ok (.aload_n 0, 1) := by decide +kernel
theorem dX12_reads_1 : decode cX12_reads 1 = .ok (.getfield 116, 3) := by decide +kernel
theorem dX12_reads_4 : decode cX12_reads 4 = .ok (.ifCond .eq 4, 3) := by decide +kernel
theorem dX12_reads_7 : decode cX12_reads 7 = .ok (.return_, 1) := by decide +kernel
theorem dX12_reads_8 : decode cX12_reads 8 = .ok (.aload_n 0, 1) := by decide +kernel
theorem dX12_reads_9 : decode cX12_reads 9 = .ok (.iload_n 1, 1) := by decide +kernel
theorem dX12_reads_10 : decode cX12_reads 10 = .ok (.putfield 145, 3) := by decide +kernel
theorem dX12_reads_13 : decode cX12_reads 13 = .ok (.aload_n 0, 1) := by decide +kernel
theorem dX12_reads_14 : decode cX12_reads 14 = .ok (.iconst 0, 1) := by decide +kernel
theorem dX12_reads_15 : decode cX12_reads 15 = .ok (.putfield 148, 3) := by decide +kernel
theorem dX12_reads_18 : decode cX12_reads 18 = .ok (.iload_n 2, 1) := by decide +kernel
theorem dX12_reads_19 : decode cX12_reads 19 = .ok (.ifCond .ne 7, 3) := by decide +kernel
theorem dX12_reads_22 : decode cX12_reads 22 = .ok (.aload_n 0, 1) := by decide +kernel
theorem dX12_reads_23 : decode cX12_reads 23 = .ok (.invokevirtual 138, 3) := by decide +kernel
theorem dX12_reads_26 : decode cX12_reads 26 = .ok (.aload_n 0, 1) := by decide +kernel
theorem dX12_reads_27 : decode cX12_reads 27 = .ok (.invokevirtual 167, 3) := by decide +kernel
theorem dX12_reads_30 : decode cX12_reads 30 = .ok (.aload_n 0, 1) := by decide +kernel
theorem dX12_reads_31 : decode cX12_reads 31 = .ok (.invokevirtual 191, 3) := by decide +kernel
theorem dX12_reads_34 : decode cX12_reads 34 = .ok (.aload_n 0, 1) := by decide +kernel
theorem dX12_reads_35 : decode cX12_reads 35 = .ok (.getfield 19, 3) := by decide +kernel
theorem dX12_reads_38 : decode cX12_reads 38 = .ok (.sipush 265, 3) := by decide +kernel
theorem dX12_reads_41 : decode cX12_reads 41 = .ok (.iload_n 1, 1) := by decide +kernel
theorem dX12_reads_42 : decode cX12_reads 42 = .ok (.imul, 1) := by decide +kernel
theorem dX12_reads_43 : decode cX12_reads 43 = .ok (.aload_n 0, 1) := by decide +kernel
theorem dX12_reads_44 : decode cX12_reads 44 = .ok (.getfield 148, 3) := by decide +kernel
theorem dX12_reads_47 : decode cX12_reads 47 = .ok (.iastore, 1) := by decide +kernel
theorem dX12_reads_48 : decode cX12_reads 48 = .ok (.return_, 1) := by decide +kernel
theorem dX12_terms_0 : decode cX12_terms 0 = .ok (.aload_n 0, 1) := by decide +kernel
theorem dX12_terms_1 : decode cX12_terms 1 = .ok (.aload_n 0, 1) := by decide +kernel
theorem dX12_terms_2 : decode cX12_terms 2 = .ok (.getfield 112, 3) := by decide +kernel
theorem dX12_terms_5 : decode cX12_terms 5 = .ok (.putfield 129, 3) := by decide +kernel
theorem dX12_terms_8 : decode cX12_terms 8 = .ok (.aload_n 0, 1) := by decide +kernel
theorem dX12_terms_9 : decode cX12_terms 9 = .ok (.iconst 0, 1) := by decide +kernel
theorem dX12_terms_10 : decode cX12_terms 10 = .ok (.putfield 112, 3) := by decide +kernel
theorem dX12_terms_13 : decode cX12_terms 13 = .ok (.iload_n 1, 1) := by decide +kernel
theorem dX12_terms_14 : decode cX12_terms 14 = .ok (.invokestatic 194, 3) := by decide +kernel
theorem dX12_terms_17 : decode cX12_terms 17 = .ok (.ifCond .ne 6, 3) := by decide +kernel
theorem dX12_terms_20 : decode cX12_terms 20 = .ok (.ldc 85, 2) := by decide +kernel
theorem dX12_terms_22 : decode cX12_terms 22 = .ok (.ireturn, 1) := by decide +kernel
theorem dX12_terms_23 : decode cX12_terms 23 = .ok (.iload_n 1, 1) := by decide +kernel
theorem dX12_terms_24 : decode cX12_terms 24 = .ok (.aload_n 0, 1) := by decide +kernel
theorem dX12_terms_25 : decode cX12_terms 25 = .ok (.getfield 7, 3) := by decide +kernel
theorem dX12_terms_28 : decode cX12_terms 28 = .ok (.iconst 0, 1) := by decide +kernel
theorem dX12_terms_29 : decode cX12_terms 29 = .ok (.iaload, 1) := by decide +kernel
theorem dX12_terms_30 : decode cX12_terms 30 = .ok (.isub, 1) := by decide +kernel
theorem dX12_terms_31 : decode cX12_terms 31 = .ok (.aload_n 0, 1) := by decide +kernel
theorem dX12_terms_32 : decode cX12_terms 32 = .ok (.getfield 7, 3) := by decide +kernel
theorem dX12_terms_35 : decode cX12_terms 35 = .ok (.iconst 1, 1) := by decide +kernel
theorem dX12_terms_36 : decode cX12_terms 36 = .ok (.iaload, 1) := by decide +kernel
theorem dX12_terms_37 : decode cX12_terms 37 = .ok (.if_icmp .ge 19, 3) := by decide +kernel
theorem dX12_terms_40 : decode cX12_terms 40 = .ok (.iload_n 1, 1) := by decide +kernel
theorem dX12_terms_41 : decode cX12_terms 41 = .ok (.ifCond .ne 12, 3) := by decide +kernel
theorem dX12_terms_44 : decode cX12_terms 44 = .ok (.aload_n 0, 1) := by decide +kernel
theorem dX12_terms_45 : decode cX12_terms 45 = .ok (.getfield 7, 3) := by decide +kernel
theorem dX12_terms_48 : decode cX12_terms 48 = .ok (.iconst 0, 1) := by decide +kernel
theorem dX12_terms_49 : decode cX12_terms 49 = .ok (.iaload, 1) := by decide +kernel
theorem dX12_terms_50 : decode cX12_terms 50 = .ok (.ifCond .eq 6, 3) := by decide +kernel
theorem dX12_terms_53 : decode cX12_terms 53 = .ok (.ldc 111, 2) := by decide +kernel
theorem dX12_terms_55 : decode cX12_terms 55 = .ok (.ireturn, 1) := by decide +kernel
theorem dX12_terms_56 : decode cX12_terms 56 = .ok (.aload_n 0, 1) := by decide +kernel
theorem dX12_terms_57 : decode cX12_terms 57 = .ok (.iconst 0, 1) := by decide +kernel
theorem dX12_terms_58 : decode cX12_terms 58 = .ok (.putfield 126, 3) := by decide +kernel
theorem dX12_terms_61 : decode cX12_terms 61 = .ok (.aload_n 0, 1) := by decide +kernel
theorem dX12_terms_62 : decode cX12_terms 62 = .ok (.iconst 0, 1) := by decide +kernel
theorem dX12_terms_63 : decode cX12_terms 63 = .ok (.putfield 132, 3) := by decide +kernel
theorem dX12_terms_66 : decode cX12_terms 66 = .ok (.aload_n 0, 1) := by decide +kernel
theorem dX12_terms_67 : decode cX12_terms 67 = .ok (.iconst 0, 1) := by decide +kernel
theorem dX12_terms_68 : decode cX12_terms 68 = .ok (.putfield 116, 3) := by decide +kernel
theorem dX12_terms_71 : decode cX12_terms 71 = .ok (.aload_n 0, 1) := by decide +kernel
theorem dX12_terms_72 : decode cX12_terms 72 = .ok (.iconst 0, 1) := by decide +kernel
theorem dX12_terms_73 : decode cX12_terms 73 = .ok (.putfield 173, 3) := by decide +kernel
theorem dX12_terms_76 : decode cX12_terms 76 = .ok (.aload_n 0, 1) := by decide +kernel
theorem dX12_terms_77 : decode cX12_terms 77 = .ok (.invokevirtual 167, 3) := by decide +kernel
theorem dX12_terms_80 : decode cX12_terms 80 = .ok (.aload_n 0, 1) := by decide +kernel
theorem dX12_terms_81 : decode cX12_terms 81 = .ok (.iconst 0, 1) := by decide +kernel
theorem dX12_terms_82 : decode cX12_terms 82 = .ok (.aload_n 0, 1) := by decide +kernel
theorem dX12_terms_83 : decode cX12_terms 83 = .ok (.bipush 101, 2) := by decide +kernel
theorem dX12_terms_85 : decode cX12_terms 85 = .ok (.bipush 97, 2) := by decide +kernel
theorem dX12_terms_87 : decode cX12_terms 87 = .ok (.bipush 114, 2) := by decide +kernel
theorem dX12_terms_89 : decode cX12_terms 89 = .ok (.bipush 110, 2) := by decide +kernel
theorem dX12_terms_91 : decode cX12_terms 91 = .ok (.iconst 0, 1) := by decide +kernel
theorem dX12_terms_92 : decode cX12_terms 92 = .ok (.invokevirtual 197, 3) := by decide +kernel
theorem dX12_terms_95 : decode cX12_terms 95 = .ok (.invokevirtual 201, 3) := by decide +kernel
theorem dX12_terms_98 : decode cX12_terms 98 = .ok (.aload_n 0, 1) := by decide +kernel
theorem dX12_terms_99 : decode cX12_terms 99 = .ok (.iconst 1, 1) := by decide +kernel
theorem dX12_terms_100 : decode cX12_terms 100 = .ok (.aload_n 0, 1) := by decide +kernel
theorem dX12_terms_101 : decode cX12_terms 101 = .ok (.bipush 108, 2) := by decide +kernel
theorem dX12_terms_103 : decode cX12_terms 103 = .ok (.bipush 97, 2) := by decide +kernel
theorem dX12_terms_105 : decode cX12_terms 105 = .ok (.bipush 112, 2) := by decide +kernel
theorem dX12_terms_107 : decode cX12_terms 107 = .ok (.bipush 115, 2) := by decide +kernel
theorem dX12_terms_109 : decode cX12_terms 109 = .ok (.bipush 101, 2) := by decide +kernel
theorem dX12_terms_111 : decode cX12_terms 111 = .ok (.invokevirtual 197, 3) := by decide +kernel
theorem dX12_terms_114 : decode cX12_terms 114 = .ok (.invokevirtual 201, 3) := by decide +kernel
theorem dX12_terms_117 : decode cX12_terms 117 = .ok (.aload_n 0, 1) := by decide +kernel
theorem dX12_terms_118 : decode cX12_terms 118 = .ok (.iconst 2, 1) := by decide +kernel
theorem dX12_terms_119 : decode cX12_terms 119 = .ok (.aload_n 0, 1) := by decide +kernel
theorem dX12_terms_120 : decode cX12_terms 120 = .ok (.bipush 112, 2) := by decide +kernel
theorem dX12_terms_122 : decode cX12_terms 122 = .ok (.bipush 114, 2) := by decide +kernel
theorem dX12_terms_124 : decode cX12_terms 124 = .ok (.bipush 105, 2) := by decide +kernel
theorem dX12_terms_126 : decode cX12_terms 126 = .ok (.bipush 99, 2) := by decide +kernel
theorem dX12_terms_128 : decode cX12_terms 128 = .ok (.bipush 101, 2) := by decide +kernel
theorem dX12_terms_130 : decode cX12_terms 130 = .ok (.invokevirtual 197, 3) := by decide +kernel
theorem dX12_terms_133 : decode cX12_terms 133 = .ok (.invokevirtual 201, 3) := by decide +kernel
theorem dX12_terms_136 : decode cX12_terms 136 = .ok (.aload_n 0, 1) := by decide +kernel
theorem dX12_terms_137 : decode cX12_terms 137 = .ok (.iconst 3, 1) := by decide +kernel
theorem dX12_terms_138 : decode cX12_terms 138 = .ok (.aload_n 0, 1) := by decide +kernel
theorem dX12_terms_139 : decode cX12_terms 139 = .ok (.bipush 116, 2) := by decide +kernel
theorem dX12_terms_141 : decode cX12_terms 141 = .ok (.bipush 105, 2) := by decide +kernel
theorem dX12_terms_143 : decode cX12_terms 143 = .ok (.bipush 101, 2) := by decide +kernel
theorem dX12_terms_145 : decode cX12_terms 145 = .ok (.bipush 114, 2) := by decide +kernel
theorem dX12_terms_147 : decode cX12_terms 147 = .ok (.iconst 0, 1) := by decide +kernel
theorem dX12_terms_148 : decode cX12_terms 148 = .ok (.invokevirtual 197, 3) := by decide +kernel
theorem dX12_terms_151 : decode cX12_terms 151 = .ok (.invokevirtual 201, 3) := by decide +kernel
theorem dX12_terms_154 : decode cX12_terms 154 = .ok (.aload_n 0, 1) := by decide +kernel
theorem dX12_terms_155 : decode cX12_terms 155 = .ok (.getfield 116, 3) := by decide +kernel
theorem dX12_terms_158 : decode cX12_terms 158 = .ok (.ifCond .ne 14, 3) := by decide +kernel
theorem dX12_terms_161 : decode cX12_terms 161 = .ok (.aload_n 0, 1) := by decide +kernel
theorem dX12_terms_162 : decode cX12_terms 162 = .ok (.getfield 132, 3) := by decide +kernel
theorem dX12_terms_165 : decode cX12_terms 165 = .ok (.ifCond .eq 7, 3) := by decide +kernel
theorem dX12_terms_168 : decode cX12_terms 168 = .ok (.aload_n 0, 1) := by decide +kernel
theorem dX12_terms_169 : decode cX12_terms 169 = .ok (.invokevirtual 138, 3) := by decide +kernel
theorem dX12_terms_172 : decode cX12_terms 172 = .ok (.aload_n 0, 1) := by decide +kernel
theorem dX12_terms_173 : decode cX12_terms 173 = .ok (.getfield 116, 3) := by decide +kernel
theorem dX12_terms_176 : decode cX12_terms 176 = .ok (.ifCond .eq 11, 3) := by decide +kernel
theorem dX12_terms_179 : decode cX12_terms 179 = .ok (.bipush (-100), 2) := by decide +kernel
theorem dX12_terms_181 : decode cX12_terms 181 = .ok (.aload_n 0, 1) := by decide +kernel
theorem dX12_terms_182 : decode cX12_terms 182 = .ok (.getfield 123, 3) := by decide +kernel
theorem dX12_terms_185 : decode cX12_terms 185 = .ok (.isub, 1) := by decide +kernel
theorem dX12_terms_186 : decode cX12_terms 186 = .ok (.ireturn, 1) := by decide +kernel
theorem dX12_terms_187 : decode cX12_terms 187 = .ok (.aload_n 0, 1) := by decide +kernel
theorem dX12_terms_188 : decode cX12_terms 188 = .ok (.getfield 7, 3) := by decide +kernel
theorem dX12_terms_191 : decode cX12_terms 191 = .ok (.bipush 6, 2) := by decide +kernel
theorem dX12_terms_193 : decode cX12_terms 193 = .ok (.iaload, 1) := by decide +kernel
theorem dX12_terms_194 : decode cX12_terms 194 = .ok (.iconst 4, 1) := by decide +kernel
theorem dX12_terms_195 : decode cX12_terms 195 = .ok (.if_icmp .ne 6, 3) := by decide +kernel
theorem dX12_terms_198 : decode cX12_terms 198 = .ok (.ldc 86, 2) := by decide +kernel
theorem dX12_terms_200 : decode cX12_terms 200 = .ok (.ireturn, 1) := by decide +kernel
theorem dX12_terms_201 : decode cX12_terms 201 = .ok (.sipush 1050, 3) := by decide +kernel
theorem dX12_terms_204 : decode cX12_terms 204 = .ok (.sipush 1062, 3) := by decide +kernel
theorem dX12_terms_207 : decode cX12_terms 207 = .ok (.aload_n 0, 1) := by decide +kernel
theorem dX12_terms_208 : decode cX12_terms 208 = .ok (.getfield 7, 3) := by decide +kernel
theorem dX12_terms_211 : decode cX12_terms 211 = .ok (.bipush 6, 2) := by decide +kernel
theorem dX12_terms_213 : decode cX12_terms 213 = .ok (.iaload, 1) := by decide +kernel
theorem dX12_terms_214 : decode cX12_terms 214 = .ok (.imul, 1) := by decide +kernel
theorem dX12_terms_215 : decode cX12_terms 215 = .ok (.iadd, 1) := by decide +kernel
theorem dX12_terms_216 : decode cX12_terms 216 = .ok (.istore_n 2, 1) := by decide +kernel
theorem dX12_terms_217 : decode cX12_terms 217 = .ok (.aload_n 0, 1) := by decide +kernel
theorem dX12_terms_218 : decode cX12_terms 218 = .ok (.getfield 7, 3) := by decide +kernel
theorem dX12_terms_221 : decode cX12_terms 221 = .ok (.iload_n 2, 1) := by decide +kernel
theorem dX12_terms_222 : decode cX12_terms 222 = .ok (.iload_n 1, 1) := by decide +kernel
theorem dX12_terms_223 : decode cX12_terms 223 = .ok (.iastore, 1) := by decide +kernel
theorem dX12_terms_224 : decode cX12_terms 224 = .ok (.iconst 0, 1) := by decide +kernel
theorem dX12_terms_225 : decode cX12_terms 225 = .ok (.istore_n 3, 1) := by decide +kernel
theorem dX12_terms_226 : decode cX12_terms 226 = .ok (.iload_n 3, 1) := by decide +kernel
theorem dX12_terms_227 : decode cX12_terms 227 = .ok (.sipush 1060, 3) := by decide +kernel
theorem dX12_terms_230 : decode cX12_terms 230 = .ok (.if_icmp .ge 25, 3) := by decide +kernel
theorem dX12_terms_233 : decode cX12_terms 233 = .ok (.aload_n 0, 1) := by decide +kernel
theorem dX12_terms_234 : decode cX12_terms 234 = .ok (.getfield 7, 3) := by decide +kernel
theorem dX12_terms_237 : decode cX12_terms 237 = .ok (.iload_n 2, 1) := by decide +kernel
theorem dX12_terms_238 : decode cX12_terms 238 = .ok (.iconst 2, 1) := by decide +kernel
theorem dX12_terms_239 : decode cX12_terms 239 = .ok (.iadd, 1) := by decide +kernel
theorem dX12_terms_240 : decode cX12_terms 240 = .ok (.iload_n 3, 1) := by decide +kernel
theorem dX12_terms_241 : decode cX12_terms 241 = .ok (.iadd, 1) := by decide +kernel
theorem dX12_terms_242 : decode cX12_terms 242 = .ok (.aload_n 0, 1) := by decide +kernel
theorem dX12_terms_243 : decode cX12_terms 243 = .ok (.getfield 19, 3) := by decide +kernel
theorem dX12_terms_246 : decode cX12_terms 246 = .ok (.iload_n 3, 1) := by decide +kernel
theorem dX12_terms_247 : decode cX12_terms 247 = .ok (.iaload, 1) := by decide +kernel
theorem dX12_terms_248 : decode cX12_terms 248 = .ok (.iastore, 1) := by decide +kernel
theorem dX12_terms_249 : decode cX12_terms 249 = .ok (.iinc 3 1, 3) := by decide +kernel
theorem dX12_terms_252 : decode cX12_terms 252 = .ok (.goto (-26), 3) := by decide +kernel
theorem dX12_terms_255 : decode cX12_terms 255 = .ok (.aload_n 0, 1) := by decide +kernel
theorem dX12_terms_256 : decode cX12_terms 256 = .ok (.getfield 7, 3) := by decide +kernel
theorem dX12_terms_259 : decode cX12_terms 259 = .ok (.bipush 6, 2) := by decide +kernel
theorem dX12_terms_261 : decode cX12_terms 261 = .ok (.dup2, 1) := by decide +kernel
theorem dX12_terms_262 : decode cX12_terms 262 = .ok (.iaload, 1) := by decide +kernel
theorem dX12_terms_263 : decode cX12_terms 263 = .ok (.iconst 1, 1) := by decide +kernel
theorem dX12_terms_264 : decode cX12_terms 264 = .ok (.iadd, 1) := by decide +kernel
theorem dX12_terms_265 : decode cX12_terms 265 = .ok (.iastore, 1) := by decide +kernel
theorem dX12_terms_266 : decode cX12_terms 266 = .ok (.aload_n 0, 1) := by decide +kernel
theorem dX12_terms_267 : decode cX12_terms 267 = .ok (.getfield 173, 3) := by decide +kernel
theorem dX12_terms_270 : decode cX12_terms 270 = .ok (.ireturn, 1) := by decide +kernel
theorem dX12_both_0 : decode cX12_both 0 = .ok (.iload_n 0, 1) := by decide +kernel
theorem dX12_both_1 : decode cX12_both 1 = .ok (.lookupswitch 148 #[(10, 75), (20, 89), (30, 103), (31, 114), (32, 125), (40, 136), (41, 140), (50, 144)], 75) := by decide +kernel
theorem dX12_both_76 : decode cX12_both 76 = .ok (.iload_n 1, 1) := by decide +kernel
theorem dX12_both_77 : decode cX12_both 77 = .ok (.ifCond .ne 7, 3) := by decide +kernel
theorem dX12_both_80 : decode cX12_both 80 = .ok (.iload_n 2, 1) := by decide +kernel
theorem dX12_both_81 : decode cX12_both 81 = .ok (.ifCond .eq 7, 3) := by decide +kernel
theorem dX12_both_84 : decode cX12_both 84 = .ok (.iconst 1, 1) := by decide +kernel
theorem dX12_both_85 : decode cX12_both 85 = .ok (.goto 4, 3) := by decide +kernel
theorem dX12_both_88 : decode cX12_both 88 = .ok (.iconst 0, 1) := by decide +kernel
theorem dX12_both_89 : decode cX12_both 89 = .ok (.ireturn, 1) := by decide +kernel
theorem dX12_both_90 : decode cX12_both 90 = .ok (.iload_n 1, 1) := by decide +kernel
theorem dX12_both_91 : decode cX12_both 91 = .ok (.ifCond .eq 11, 3) := by decide +kernel
theorem dX12_both_94 : decode cX12_both 94 = .ok (.iload_n 2, 1) := by decide +kernel
theorem dX12_both_95 : decode cX12_both 95 = .ok (.ifCond .eq 7, 3) := by decide +kernel
theorem dX12_both_98 : decode cX12_both 98 = .ok (.iconst 1, 1) := by decide +kernel
theorem dX12_both_99 : decode cX12_both 99 = .ok (.goto 4, 3) := by decide +kernel
theorem dX12_both_102 : decode cX12_both 102 = .ok (.iconst 0, 1) := by decide +kernel
theorem dX12_both_103 : decode cX12_both 103 = .ok (.ireturn, 1) := by decide +kernel
theorem dX12_both_104 : decode cX12_both 104 = .ok (.iload_n 1, 1) := by decide +kernel
theorem dX12_both_105 : decode cX12_both 105 = .ok (.iload_n 2, 1) := by decide +kernel
theorem dX12_both_106 : decode cX12_both 106 = .ok (.if_icmp .ge 7, 3) := by decide +kernel
theorem dX12_both_109 : decode cX12_both 109 = .ok (.iconst 1, 1) := by decide +kernel
theorem dX12_both_110 : decode cX12_both 110 = .ok (.goto 4, 3) := by decide +kernel
theorem dX12_both_113 : decode cX12_both 113 = .ok (.iconst 0, 1) := by decide +kernel
theorem dX12_both_114 : decode cX12_both 114 = .ok (.ireturn, 1) := by decide +kernel
theorem dX12_both_115 : decode cX12_both 115 = .ok (.iload_n 1, 1) := by decide +kernel
theorem dX12_both_116 : decode cX12_both 116 = .ok (.iload_n 2, 1) := by decide +kernel
theorem dX12_both_117 : decode cX12_both 117 = .ok (.if_icmp .ne 7, 3) := by decide +kernel
theorem dX12_both_120 : decode cX12_both 120 = .ok (.iconst 1, 1) := by decide +kernel
theorem dX12_both_121 : decode cX12_both 121 = .ok (.goto 4, 3) := by decide +kernel
theorem dX12_both_124 : decode cX12_both 124 = .ok (.iconst 0, 1) := by decide +kernel
theorem dX12_both_125 : decode cX12_both 125 = .ok (.ireturn, 1) := by decide +kernel
theorem dX12_both_126 : decode cX12_both 126 = .ok (.iload_n 1, 1) := by decide +kernel
theorem dX12_both_127 : decode cX12_both 127 = .ok (.iload_n 2, 1) := by decide +kernel
theorem dX12_both_128 : decode cX12_both 128 = .ok (.if_icmp .le 7, 3) := by decide +kernel
theorem dX12_both_131 : decode cX12_both 131 = .ok (.iconst 1, 1) := by decide +kernel
theorem dX12_both_132 : decode cX12_both 132 = .ok (.goto 4, 3) := by decide +kernel
theorem dX12_both_135 : decode cX12_both 135 = .ok (.iconst 0, 1) := by decide +kernel
theorem dX12_both_136 : decode cX12_both 136 = .ok (.ireturn, 1) := by decide +kernel
theorem dX12_both_137 : decode cX12_both 137 = .ok (.iload_n 1, 1) := by decide +kernel
theorem dX12_both_138 : decode cX12_both 138 = .ok (.iload_n 2, 1) := by decide +kernel
theorem dX12_both_139 : decode cX12_both 139 = .ok (.iadd, 1) := by decide +kernel
theorem dX12_both_140 : decode cX12_both 140 = .ok (.ireturn, 1) := by decide +kernel
theorem dX12_both_141 : decode cX12_both 141 = .ok (.iload_n 1, 1) := by decide +kernel
theorem dX12_both_142 : decode cX12_both 142 = .ok (.iload_n 2, 1) := by decide +kernel
theorem dX12_both_143 : decode cX12_both 143 = .ok (.isub, 1) := by decide +kernel
theorem dX12_both_144 : decode cX12_both 144 = .ok (.ireturn, 1) := by decide +kernel
theorem dX12_both_145 : decode cX12_both 145 = .ok (.iload_n 1, 1) := by decide +kernel
theorem dX12_both_146 : decode cX12_both 146 = .ok (.iload_n 2, 1) := by decide +kernel
theorem dX12_both_147 : decode cX12_both 147 = .ok (.imul, 1) := by decide +kernel
theorem dX12_both_148 : decode cX12_both 148 = .ok (.ireturn, 1) := by decide +kernel
theorem dX12_both_149 : decode cX12_both 149 = .ok (.iload_n 2, 1) := by decide +kernel
theorem dX12_both_150 : decode cX12_both 150 = .ok (.ifCond .ne 7, 3) := by decide +kernel
theorem dX12_both_153 : decode cX12_both 153 = .ok (.iconst 0, 1) := by decide +kernel
theorem dX12_both_154 : decode cX12_both 154 = .ok (.goto 6, 3) := by decide +kernel
theorem dX12_both_157 : decode cX12_both 157 = .ok (.iload_n 1, 1) := by decide +kernel
theorem dX12_both_158 : decode cX12_both 158 = .ok (.iload_n 2, 1) := by decide +kernel
theorem dX12_both_159 : decode cX12_both 159 = .ok (.idiv, 1) := by decide +kernel
theorem dX12_both_160 : decode cX12_both 160 = .ok (.ireturn, 1) := by decide +kernel
theorem dX12_worked_0 : decode cX12_worked 0 = .ok (.iconst 0, 1) := by decide +kernel
theorem dX12_worked_1 : decode cX12_worked 1 = .ok (.istore_n 3, 1) := by decide +kernel
theorem dX12_worked_2 : decode cX12_worked 2 = .ok (.sipush 1050, 3) := by decide +kernel
theorem dX12_worked_5 : decode cX12_worked 5 = .ok (.sipush 1062, 3) := by decide +kernel
theorem dX12_worked_8 : decode cX12_worked 8 = .ok (.iload_n 1, 1) := by decide +kernel
theorem dX12_worked_9 : decode cX12_worked 9 = .ok (.imul, 1) := by decide +kernel
theorem dX12_worked_10 : decode cX12_worked 10 = .ok (.iadd, 1) := by decide +kernel
theorem dX12_worked_11 : decode cX12_worked 11 = .ok (.iconst 2, 1) := by decide +kernel
theorem dX12_worked_12 : decode cX12_worked 12 = .ok (.iadd, 1) := by decide +kernel
theorem dX12_worked_13 : decode cX12_worked 13 = .ok (.sipush 265, 3) := by decide +kernel
theorem dX12_worked_16 : decode cX12_worked 16 = .ok (.iload_n 2, 1) := by decide +kernel
theorem dX12_worked_17 : decode cX12_worked 17 = .ok (.imul, 1) := by decide +kernel
theorem dX12_worked_18 : decode cX12_worked 18 = .ok (.iadd, 1) := by decide +kernel
theorem dX12_worked_19 : decode cX12_worked 19 = .ok (.istore 4, 2) := by decide +kernel
theorem dX12_worked_21 : decode cX12_worked 21 = .ok (.iconst 0, 1) := by decide +kernel
theorem dX12_worked_22 : decode cX12_worked 22 = .ok (.istore 5, 2) := by decide +kernel
theorem dX12_worked_24 : decode cX12_worked 24 = .ok (.iload 5, 2) := by decide +kernel
theorem dX12_worked_26 : decode cX12_worked 26 = .ok (.aload_n 0, 1) := by decide +kernel
theorem dX12_worked_27 : decode cX12_worked 27 = .ok (.getfield 7, 3) := by decide +kernel
theorem dX12_worked_30 : decode cX12_worked 30 = .ok (.iload 4, 2) := by decide +kernel
theorem dX12_worked_32 : decode cX12_worked 32 = .ok (.iaload, 1) := by decide +kernel
theorem dX12_worked_33 : decode cX12_worked 33 = .ok (.if_icmp .ge 146, 3) := by decide +kernel
theorem dX12_worked_36 : decode cX12_worked 36 = .ok (.aload_n 0, 1) := by decide +kernel
theorem dX12_worked_37 : decode cX12_worked 37 = .ok (.getfield 7, 3) := by decide +kernel
theorem dX12_worked_40 : decode cX12_worked 40 = .ok (.iload 4, 2) := by decide +kernel
theorem dX12_worked_42 : decode cX12_worked 42 = .ok (.iconst 1, 1) := by decide +kernel
theorem dX12_worked_43 : decode cX12_worked 43 = .ok (.iadd, 1) := by decide +kernel
theorem dX12_worked_44 : decode cX12_worked 44 = .ok (.iconst 2, 1) := by decide +kernel
theorem dX12_worked_45 : decode cX12_worked 45 = .ok (.iload 5, 2) := by decide +kernel
theorem dX12_worked_47 : decode cX12_worked 47 = .ok (.imul, 1) := by decide +kernel
theorem dX12_worked_48 : decode cX12_worked 48 = .ok (.iadd, 1) := by decide +kernel
theorem dX12_worked_49 : decode cX12_worked 49 = .ok (.iaload, 1) := by decide +kernel
theorem dX12_worked_50 : decode cX12_worked 50 = .ok (.istore 6, 2) := by decide +kernel
theorem dX12_worked_52 : decode cX12_worked 52 = .ok (.aload_n 0, 1) := by decide +kernel
theorem dX12_worked_53 : decode cX12_worked 53 = .ok (.getfield 7, 3) := by decide +kernel
theorem dX12_worked_56 : decode cX12_worked 56 = .ok (.iload 4, 2) := by decide +kernel
theorem dX12_worked_58 : decode cX12_worked 58 = .ok (.iconst 2, 1) := by decide +kernel
theorem dX12_worked_59 : decode cX12_worked 59 = .ok (.iadd, 1) := by decide +kernel
theorem dX12_worked_60 : decode cX12_worked 60 = .ok (.iconst 2, 1) := by decide +kernel
theorem dX12_worked_61 : decode cX12_worked 61 = .ok (.iload 5, 2) := by decide +kernel
theorem dX12_worked_63 : decode cX12_worked 63 = .ok (.imul, 1) := by decide +kernel
theorem dX12_worked_64 : decode cX12_worked 64 = .ok (.iadd, 1) := by decide +kernel
theorem dX12_worked_65 : decode cX12_worked 65 = .ok (.iaload, 1) := by decide +kernel
theorem dX12_worked_66 : decode cX12_worked 66 = .ok (.istore 7, 2) := by decide +kernel
theorem dX12_worked_68 : decode cX12_worked 68 = .ok (.iload 6, 2) := by decide +kernel
theorem dX12_worked_70 : decode cX12_worked 70 = .ok (.iconst 1, 1) := by decide +kernel
theorem dX12_worked_71 : decode cX12_worked 71 = .ok (.if_icmp .eq 9, 3) := by decide +kernel
theorem dX12_worked_74 : decode cX12_worked 74 = .ok (.iload 6, 2) := by decide +kernel
theorem dX12_worked_76 : decode cX12_worked 76 = .ok (.iconst 2, 1) := by decide +kernel
theorem dX12_worked_77 : decode cX12_worked 77 = .ok (.if_icmp .ne 33, 3) := by decide +kernel
theorem dX12_worked_80 : decode cX12_worked 80 = .ok (.aload_n 0, 1) := by decide +kernel
theorem dX12_worked_81 : decode cX12_worked 81 = .ok (.getfield 25, 3) := by decide +kernel
theorem dX12_worked_84 : decode cX12_worked 84 = .ok (.iload_n 3, 1) := by decide +kernel
theorem dX12_worked_85 : decode cX12_worked 85 = .ok (.iload 6, 2) := by decide +kernel
theorem dX12_worked_87 : decode cX12_worked 87 = .ok (.iconst 1, 1) := by decide +kernel
theorem dX12_worked_88 : decode cX12_worked 88 = .ok (.if_icmp .ne 8, 3) := by decide +kernel
theorem dX12_worked_91 : decode cX12_worked 91 = .ok (.iload 7, 2) := by decide +kernel
theorem dX12_worked_93 : decode cX12_worked 93 = .ok (.goto 10, 3) := by decide +kernel
theorem dX12_worked_96 : decode cX12_worked 96 = .ok (.aload_n 0, 1) := by decide +kernel
theorem dX12_worked_97 : decode cX12_worked 97 = .ok (.getfield 28, 3) := by decide +kernel
theorem dX12_worked_100 : decode cX12_worked 100 = .ok (.iload 7, 2) := by decide +kernel
theorem dX12_worked_102 : decode cX12_worked 102 = .ok (.iaload, 1) := by decide +kernel
theorem dX12_worked_103 : decode cX12_worked 103 = .ok (.iastore, 1) := by decide +kernel
theorem dX12_worked_104 : decode cX12_worked 104 = .ok (.iinc 3 1, 3) := by decide +kernel
theorem dX12_worked_107 : decode cX12_worked 107 = .ok (.goto 66, 3) := by decide +kernel
theorem dX12_worked_110 : decode cX12_worked 110 = .ok (.iload 6, 2) := by decide +kernel
theorem dX12_worked_112 : decode cX12_worked 112 = .ok (.iconst 3, 1) := by decide +kernel
theorem dX12_worked_113 : decode cX12_worked 113 = .ok (.if_icmp .ne 30, 3) := by decide +kernel
theorem dX12_worked_116 : decode cX12_worked 116 = .ok (.aload_n 0, 1) := by decide +kernel
theorem dX12_worked_117 : decode cX12_worked 117 = .ok (.getfield 25, 3) := by decide +kernel
theorem dX12_worked_120 : decode cX12_worked 120 = .ok (.iload_n 3, 1) := by decide +kernel
theorem dX12_worked_121 : decode cX12_worked 121 = .ok (.iconst 1, 1) := by decide +kernel
theorem dX12_worked_122 : decode cX12_worked 122 = .ok (.isub, 1) := by decide +kernel
theorem dX12_worked_123 : decode cX12_worked 123 = .ok (.aload_n 0, 1) := by decide +kernel
theorem dX12_worked_124 : decode cX12_worked 124 = .ok (.getfield 25, 3) := by decide +kernel
theorem dX12_worked_127 : decode cX12_worked 127 = .ok (.iload_n 3, 1) := by decide +kernel
theorem dX12_worked_128 : decode cX12_worked 128 = .ok (.iconst 1, 1) := by decide +kernel
theorem dX12_worked_129 : decode cX12_worked 129 = .ok (.isub, 1) := by decide +kernel
theorem dX12_worked_130 : decode cX12_worked 130 = .ok (.iaload, 1) := by decide +kernel
theorem dX12_worked_131 : decode cX12_worked 131 = .ok (.ifCond .ne 7, 3) := by decide +kernel
theorem dX12_worked_134 : decode cX12_worked 134 = .ok (.iconst 1, 1) := by decide +kernel
theorem dX12_worked_135 : decode cX12_worked 135 = .ok (.goto 4, 3) := by decide +kernel
theorem dX12_worked_138 : decode cX12_worked 138 = .ok (.iconst 0, 1) := by decide +kernel
theorem dX12_worked_139 : decode cX12_worked 139 = .ok (.iastore, 1) := by decide +kernel
theorem dX12_worked_140 : decode cX12_worked 140 = .ok (.goto 33, 3) := by decide +kernel
theorem dX12_worked_143 : decode cX12_worked 143 = .ok (.iinc 3 (-1), 3) := by decide +kernel
theorem dX12_worked_146 : decode cX12_worked 146 = .ok (.aload_n 0, 1) := by decide +kernel
theorem dX12_worked_147 : decode cX12_worked 147 = .ok (.getfield 25, 3) := by decide +kernel
theorem dX12_worked_150 : decode cX12_worked 150 = .ok (.iload_n 3, 1) := by decide +kernel
theorem dX12_worked_151 : decode cX12_worked 151 = .ok (.iconst 1, 1) := by decide +kernel
theorem dX12_worked_152 : decode cX12_worked 152 = .ok (.isub, 1) := by decide +kernel
theorem dX12_worked_153 : decode cX12_worked 153 = .ok (.iload 6, 2) := by decide +kernel
theorem dX12_worked_155 : decode cX12_worked 155 = .ok (.aload_n 0, 1) := by decide +kernel
theorem dX12_worked_156 : decode cX12_worked 156 = .ok (.getfield 25, 3) := by decide +kernel
theorem dX12_worked_159 : decode cX12_worked 159 = .ok (.iload_n 3, 1) := by decide +kernel
theorem dX12_worked_160 : decode cX12_worked 160 = .ok (.iconst 1, 1) := by decide +kernel
theorem dX12_worked_161 : decode cX12_worked 161 = .ok (.isub, 1) := by decide +kernel
theorem dX12_worked_162 : decode cX12_worked 162 = .ok (.iaload, 1) := by decide +kernel
theorem dX12_worked_163 : decode cX12_worked 163 = .ok (.aload_n 0, 1) := by decide +kernel
theorem dX12_worked_164 : decode cX12_worked 164 = .ok (.getfield 25, 3) := by decide +kernel
theorem dX12_worked_167 : decode cX12_worked 167 = .ok (.iload_n 3, 1) := by decide +kernel
theorem dX12_worked_168 : decode cX12_worked 168 = .ok (.iaload, 1) := by decide +kernel
theorem dX12_worked_169 : decode cX12_worked 169 = .ok (.invokestatic 205, 3) := by decide +kernel
theorem dX12_worked_172 : decode cX12_worked 172 = .ok (.iastore, 1) := by decide +kernel
theorem dX12_worked_173 : decode cX12_worked 173 = .ok (.iinc 5 1, 3) := by decide +kernel
theorem dX12_worked_176 : decode cX12_worked 176 = .ok (.goto (-152), 3) := by decide +kernel
theorem dX12_worked_179 : decode cX12_worked 179 = .ok (.aload_n 0, 1) := by decide +kernel
theorem dX12_worked_180 : decode cX12_worked 180 = .ok (.getfield 25, 3) := by decide +kernel
theorem dX12_worked_183 : decode cX12_worked 183 = .ok (.iconst 0, 1) := by decide +kernel
theorem dX12_worked_184 : decode cX12_worked 184 = .ok (.iaload, 1) := by decide +kernel
theorem dX12_worked_185 : decode cX12_worked 185 = .ok (.ireturn, 1) := by decide +kernel
theorem dX12_termsOn_0 : decode cX12_termsOn 0 = .ok (.iconst (-1), 1) := by decide +kernel
theorem dX12_termsOn_1 : decode cX12_termsOn 1 = .ok (.istore_n 2, 1) := by decide +kernel
theorem dX12_termsOn_2 : decode cX12_termsOn 2 = .ok (.iconst 0, 1) := by decide +kernel
theorem dX12_termsOn_3 : decode cX12_termsOn 3 = .ok (.istore_n 3, 1) := by decide +kernel
theorem dX12_termsOn_4 : decode cX12_termsOn 4 = .ok (.iload_n 3, 1) := by decide +kernel
theorem dX12_termsOn_5 : decode cX12_termsOn 5 = .ok (.aload_n 0, 1) := by decide +kernel
theorem dX12_termsOn_6 : decode cX12_termsOn 6 = .ok (.getfield 7, 3) := by decide +kernel
theorem dX12_termsOn_9 : decode cX12_termsOn 9 = .ok (.bipush 6, 2) := by decide +kernel
theorem dX12_termsOn_11 : decode cX12_termsOn 11 = .ok (.iaload, 1) := by decide +kernel
theorem dX12_termsOn_12 : decode cX12_termsOn 12 = .ok (.if_icmp .ge 65, 3) := by decide +kernel
theorem dX12_termsOn_15 : decode cX12_termsOn 15 = .ok (.aload_n 0, 1) := by decide +kernel
theorem dX12_termsOn_16 : decode cX12_termsOn 16 = .ok (.getfield 7, 3) := by decide +kernel
theorem dX12_termsOn_19 : decode cX12_termsOn 19 = .ok (.sipush 1050, 3) := by decide +kernel
theorem dX12_termsOn_22 : decode cX12_termsOn 22 = .ok (.sipush 1062, 3) := by decide +kernel
theorem dX12_termsOn_25 : decode cX12_termsOn 25 = .ok (.iload_n 3, 1) := by decide +kernel
theorem dX12_termsOn_26 : decode cX12_termsOn 26 = .ok (.imul, 1) := by decide +kernel
theorem dX12_termsOn_27 : decode cX12_termsOn 27 = .ok (.iadd, 1) := by decide +kernel
theorem dX12_termsOn_28 : decode cX12_termsOn 28 = .ok (.iaload, 1) := by decide +kernel
theorem dX12_termsOn_29 : decode cX12_termsOn 29 = .ok (.iload_n 1, 1) := by decide +kernel
theorem dX12_termsOn_30 : decode cX12_termsOn 30 = .ok (.if_icmp .gt 41, 3) := by decide +kernel
theorem dX12_termsOn_33 : decode cX12_termsOn 33 = .ok (.iload_n 2, 1) := by decide +kernel
theorem dX12_termsOn_34 : decode cX12_termsOn 34 = .ok (.iconst (-1), 1) := by decide +kernel
theorem dX12_termsOn_35 : decode cX12_termsOn 35 = .ok (.if_icmp .eq 34, 3) := by decide +kernel
theorem dX12_termsOn_38 : decode cX12_termsOn 38 = .ok (.aload_n 0, 1) := by decide +kernel
theorem dX12_termsOn_39 : decode cX12_termsOn 39 = .ok (.getfield 7, 3) := by decide +kernel
theorem dX12_termsOn_42 : decode cX12_termsOn 42 = .ok (.sipush 1050, 3) := by decide +kernel
theorem dX12_termsOn_45 : decode cX12_termsOn 45 = .ok (.sipush 1062, 3) := by decide +kernel
theorem dX12_termsOn_48 : decode cX12_termsOn 48 = .ok (.iload_n 3, 1) := by decide +kernel
theorem dX12_termsOn_49 : decode cX12_termsOn 49 = .ok (.imul, 1) := by decide +kernel
theorem dX12_termsOn_50 : decode cX12_termsOn 50 = .ok (.iadd, 1) := by decide +kernel
theorem dX12_termsOn_51 : decode cX12_termsOn 51 = .ok (.iaload, 1) := by decide +kernel
theorem dX12_termsOn_52 : decode cX12_termsOn 52 = .ok (.aload_n 0, 1) := by decide +kernel
theorem dX12_termsOn_53 : decode cX12_termsOn 53 = .ok (.getfield 7, 3) := by decide +kernel
theorem dX12_termsOn_56 : decode cX12_termsOn 56 = .ok (.sipush 1050, 3) := by decide +kernel
theorem dX12_termsOn_59 : decode cX12_termsOn 59 = .ok (.sipush 1062, 3) := by decide +kernel
theorem dX12_termsOn_62 : decode cX12_termsOn 62 = .ok (.iload_n 2, 1) := by decide +kernel
theorem dX12_termsOn_63 : decode cX12_termsOn 63 = .ok (.imul, 1) := by decide +kernel
theorem dX12_termsOn_64 : decode cX12_termsOn 64 = .ok (.iadd, 1) := by decide +kernel
theorem dX12_termsOn_65 : decode cX12_termsOn 65 = .ok (.iaload, 1) := by decide +kernel
theorem dX12_termsOn_66 : decode cX12_termsOn 66 = .ok (.if_icmp .lt 5, 3) := by decide +kernel
theorem dX12_termsOn_69 : decode cX12_termsOn 69 = .ok (.iload_n 3, 1) := by decide +kernel
theorem dX12_termsOn_70 : decode cX12_termsOn 70 = .ok (.istore_n 2, 1) := by decide +kernel
theorem dX12_termsOn_71 : decode cX12_termsOn 71 = .ok (.iinc 3 1, 3) := by decide +kernel
theorem dX12_termsOn_74 : decode cX12_termsOn 74 = .ok (.goto (-70), 3) := by decide +kernel
theorem dX12_termsOn_77 : decode cX12_termsOn 77 = .ok (.iload_n 2, 1) := by decide +kernel
theorem dX12_termsOn_78 : decode cX12_termsOn 78 = .ok (.ireturn, 1) := by decide +kernel
theorem dX12_within_0 : decode cX12_within 0 = .ok (.iload_n 0, 1) := by decide +kernel
theorem dX12_within_1 : decode cX12_within 1 = .ok (.iload_n 1, 1) := by decide +kernel
theorem dX12_within_2 : decode cX12_within 2 = .ok (.invokestatic 209, 3) := by decide +kernel
theorem dX12_within_5 : decode cX12_within 5 = .ok (.iload_n 2, 1) := by decide +kernel
theorem dX12_within_6 : decode cX12_within 6 = .ok (.invokestatic 96, 3) := by decide +kernel
theorem dX12_within_9 : decode cX12_within 9 = .ok (.ireturn, 1) := by decide +kernel
theorem dX12_isKnown_0 : decode cX12_isKnown 0 = .ok (.bipush 50, 2) := by decide +kernel
theorem dX12_isKnown_2 : decode cX12_isKnown 2 = .ok (.bipush 10, 2) := by decide +kernel
theorem dX12_isKnown_4 : decode cX12_isKnown 4 = .ok (.iload_n 1, 1) := by decide +kernel
theorem dX12_isKnown_5 : decode cX12_isKnown 5 = .ok (.imul, 1) := by decide +kernel
theorem dX12_isKnown_6 : decode cX12_isKnown 6 = .ok (.iadd, 1) := by decide +kernel
theorem dX12_isKnown_7 : decode cX12_isKnown 7 = .ok (.istore_n 3, 1) := by decide +kernel
theorem dX12_isKnown_8 : decode cX12_isKnown 8 = .ok (.aload_n 0, 1) := by decide +kernel
theorem dX12_isKnown_9 : decode cX12_isKnown 9 = .ok (.getfield 7, 3) := by decide +kernel
theorem dX12_isKnown_12 : decode cX12_isKnown 12 = .ok (.iload_n 3, 1) := by decide +kernel
theorem dX12_isKnown_13 : decode cX12_isKnown 13 = .ok (.iconst 3, 1) := by decide +kernel
theorem dX12_isKnown_14 : decode cX12_isKnown 14 = .ok (.iadd, 1) := by decide +kernel
theorem dX12_isKnown_15 : decode cX12_isKnown 15 = .ok (.iaload, 1) := by decide +kernel
theorem dX12_isKnown_16 : decode cX12_isKnown 16 = .ok (.iload_n 2, 1) := by decide +kernel
theorem dX12_isKnown_17 : decode cX12_isKnown 17 = .ok (.if_icmp .gt 31, 3) := by decide +kernel
theorem dX12_isKnown_20 : decode cX12_isKnown 20 = .ok (.aload_n 0, 1) := by decide +kernel
theorem dX12_isKnown_21 : decode cX12_isKnown 21 = .ok (.getfield 7, 3) := by decide +kernel
theorem dX12_isKnown_24 : decode cX12_isKnown 24 = .ok (.iload_n 3, 1) := by decide +kernel
theorem dX12_isKnown_25 : decode cX12_isKnown 25 = .ok (.iconst 4, 1) := by decide +kernel
theorem dX12_isKnown_26 : decode cX12_isKnown 26 = .ok (.iadd, 1) := by decide +kernel
theorem dX12_isKnown_27 : decode cX12_isKnown 27 = .ok (.iaload, 1) := by decide +kernel
theorem dX12_isKnown_28 : decode cX12_isKnown 28 = .ok (.iconst (-1), 1) := by decide +kernel
theorem dX12_isKnown_29 : decode cX12_isKnown 29 = .ok (.if_icmp .eq 15, 3) := by decide +kernel
theorem dX12_isKnown_32 : decode cX12_isKnown 32 = .ok (.aload_n 0, 1) := by decide +kernel
theorem dX12_isKnown_33 : decode cX12_isKnown 33 = .ok (.getfield 7, 3) := by decide +kernel
theorem dX12_isKnown_36 : decode cX12_isKnown 36 = .ok (.iload_n 3, 1) := by decide +kernel
theorem dX12_isKnown_37 : decode cX12_isKnown 37 = .ok (.iconst 4, 1) := by decide +kernel
theorem dX12_isKnown_38 : decode cX12_isKnown 38 = .ok (.iadd, 1) := by decide +kernel
theorem dX12_isKnown_39 : decode cX12_isKnown 39 = .ok (.iaload, 1) := by decide +kernel
theorem dX12_isKnown_40 : decode cX12_isKnown 40 = .ok (.iload_n 2, 1) := by decide +kernel
theorem dX12_isKnown_41 : decode cX12_isKnown 41 = .ok (.if_icmp .le 7, 3) := by decide +kernel
theorem dX12_isKnown_44 : decode cX12_isKnown 44 = .ok (.iconst 1, 1) := by decide +kernel
theorem dX12_isKnown_45 : decode cX12_isKnown 45 = .ok (.goto 4, 3) := by decide +kernel
theorem dX12_isKnown_48 : decode cX12_isKnown 48 = .ok (.iconst 0, 1) := by decide +kernel
theorem dX12_isKnown_49 : decode cX12_isKnown 49 = .ok (.ireturn, 1) := by decide +kernel
theorem dX12_comes_0 : decode cX12_comes 0 = .ok (.aload_n 0, 1) := by decide +kernel
theorem dX12_comes_1 : decode cX12_comes 1 = .ok (.getfield 31, 3) := by decide +kernel
theorem dX12_comes_4 : decode cX12_comes 4 = .ok (.aload_n 0, 1) := by decide +kernel
theorem dX12_comes_5 : decode cX12_comes 5 = .ok (.getfield 212, 3) := by decide +kernel
theorem dX12_comes_8 : decode cX12_comes 8 = .ok (.iload_n 1, 1) := by decide +kernel
theorem dX12_comes_9 : decode cX12_comes 9 = .ok (.iastore, 1) := by decide +kernel
theorem dX12_comes_10 : decode cX12_comes 10 = .ok (.aload_n 0, 1) := by decide +kernel
theorem dX12_comes_11 : decode cX12_comes 11 = .ok (.getfield 34, 3) := by decide +kernel
theorem dX12_comes_14 : decode cX12_comes 14 = .ok (.aload_n 0, 1) := by decide +kernel
theorem dX12_comes_15 : decode cX12_comes 15 = .ok (.getfield 212, 3) := by decide +kernel
theorem dX12_comes_18 : decode cX12_comes 18 = .ok (.iload_n 2, 1) := by decide +kernel
theorem dX12_comes_19 : decode cX12_comes 19 = .ok (.iastore, 1) := by decide +kernel
theorem dX12_comes_20 : decode cX12_comes 20 = .ok (.aload_n 0, 1) := by decide +kernel
theorem dX12_comes_21 : decode cX12_comes 21 = .ok (.getfield 37, 3) := by decide +kernel
theorem dX12_comes_24 : decode cX12_comes 24 = .ok (.aload_n 0, 1) := by decide +kernel
theorem dX12_comes_25 : decode cX12_comes 25 = .ok (.getfield 212, 3) := by decide +kernel
theorem dX12_comes_28 : decode cX12_comes 28 = .ok (.iload_n 3, 1) := by decide +kernel
theorem dX12_comes_29 : decode cX12_comes 29 = .ok (.iastore, 1) := by decide +kernel
theorem dX12_comes_30 : decode cX12_comes 30 = .ok (.aload_n 0, 1) := by decide +kernel
theorem dX12_comes_31 : decode cX12_comes 31 = .ok (.dup, 1) := by decide +kernel
theorem dX12_comes_32 : decode cX12_comes 32 = .ok (.getfield 212, 3) := by decide +kernel
theorem dX12_comes_35 : decode cX12_comes 35 = .ok (.iconst 1, 1) := by decide +kernel
theorem dX12_comes_36 : decode cX12_comes 36 = .ok (.iadd, 1) := by decide +kernel
theorem dX12_comes_37 : decode cX12_comes 37 = .ok (.putfield 212, 3) := by decide +kernel
theorem dX12_comes_40 : decode cX12_comes 40 = .ok (.return_, 1) := by decide +kernel
theorem dX12_tierBy_0 : decode cX12_tierBy 0 = .ok (.aload_n 0, 1) := by decide +kernel
theorem dX12_tierBy_1 : decode cX12_tierBy 1 = .ok (.getfield 28, 3) := by decide +kernel
theorem dX12_tierBy_4 : decode cX12_tierBy 4 = .ok (.bipush 113, 2) := by decide +kernel
theorem dX12_tierBy_6 : decode cX12_tierBy 6 = .ok (.iload_n 2, 1) := by decide +kernel
theorem dX12_tierBy_7 : decode cX12_tierBy 7 = .ok (.iastore, 1) := by decide +kernel
theorem dX12_tierBy_8 : decode cX12_tierBy 8 = .ok (.aload_n 0, 1) := by decide +kernel
theorem dX12_tierBy_9 : decode cX12_tierBy 9 = .ok (.iload_n 1, 1) := by decide +kernel
theorem dX12_tierBy_10 : decode cX12_tierBy 10 = .ok (.iconst 3, 1) := by decide +kernel
theorem dX12_tierBy_11 : decode cX12_tierBy 11 = .ok (.invokevirtual 215, 3) := by decide +kernel
theorem dX12_tierBy_14 : decode cX12_tierBy 14 = .ok (.iconst 0, 1) := by decide +kernel
theorem dX12_tierBy_15 : decode cX12_tierBy 15 = .ok (.iconst 3, 1) := by decide +kernel
theorem dX12_tierBy_16 : decode cX12_tierBy 16 = .ok (.invokestatic 218, 3) := by decide +kernel
theorem dX12_tierBy_19 : decode cX12_tierBy 19 = .ok (.ireturn, 1) := by decide +kernel
theorem dX12_tierOn_0 : decode cX12_tierOn 0 = .ok (.aload_n 0, 1) := by decide +kernel
theorem dX12_tierOn_1 : decode cX12_tierOn 1 = .ok (.iload_n 2, 1) := by decide +kernel
theorem dX12_tierOn_2 : decode cX12_tierOn 2 = .ok (.invokevirtual 221, 3) := by decide +kernel
theorem dX12_tierOn_5 : decode cX12_tierOn 5 = .ok (.istore_n 3, 1) := by decide +kernel
theorem dX12_tierOn_6 : decode cX12_tierOn 6 = .ok (.iload_n 2, 1) := by decide +kernel
theorem dX12_tierOn_7 : decode cX12_tierOn 7 = .ok (.sipush 360, 3) := by decide +kernel
theorem dX12_tierOn_10 : decode cX12_tierOn 10 = .ok (.idiv, 1) := by decide +kernel
theorem dX12_tierOn_11 : decode cX12_tierOn 11 = .ok (.istore 4, 2) := by decide +kernel
theorem dX12_tierOn_13 : decode cX12_tierOn 13 = .ok (.aload_n 0, 1) := by decide +kernel
theorem dX12_tierOn_14 : decode cX12_tierOn 14 = .ok (.getfield 7, 3) := by decide +kernel
theorem dX12_tierOn_17 : decode cX12_tierOn 17 = .ok (.bipush 20, 2) := by decide +kernel
theorem dX12_tierOn_19 : decode cX12_tierOn 19 = .ok (.iconst 3, 1) := by decide +kernel
theorem dX12_tierOn_20 : decode cX12_tierOn 20 = .ok (.iload_n 1, 1) := by decide +kernel
theorem dX12_tierOn_21 : decode cX12_tierOn 21 = .ok (.imul, 1) := by decide +kernel
theorem dX12_tierOn_22 : decode cX12_tierOn 22 = .ok (.iadd, 1) := by decide +kernel
theorem dX12_tierOn_23 : decode cX12_tierOn 23 = .ok (.iaload, 1) := by decide +kernel
theorem dX12_tierOn_24 : decode cX12_tierOn 24 = .ok (.iconst 3, 1) := by decide +kernel
theorem dX12_tierOn_25 : decode cX12_tierOn 25 = .ok (.if_icmp .ne 7, 3) := by decide +kernel
theorem dX12_tierOn_28 : decode cX12_tierOn 28 = .ok (.iconst 1, 1) := by decide +kernel
theorem dX12_tierOn_29 : decode cX12_tierOn 29 = .ok (.goto 4, 3) := by decide +kernel
theorem dX12_tierOn_32 : decode cX12_tierOn 32 = .ok (.iconst 0, 1) := by decide +kernel
theorem dX12_tierOn_33 : decode cX12_tierOn 33 = .ok (.istore 5, 2) := by decide +kernel
theorem dX12_tierOn_35 : decode cX12_tierOn 35 = .ok (.iload_n 3, 1) := by decide +kernel
theorem dX12_tierOn_36 : decode cX12_tierOn 36 = .ok (.iconst (-1), 1) := by decide +kernel
theorem dX12_tierOn_37 : decode cX12_tierOn 37 = .ok (.if_icmp .ne 6, 3) := by decide +kernel
theorem dX12_tierOn_40 : decode cX12_tierOn 40 = .ok (.iload 5, 2) := by decide +kernel
theorem dX12_tierOn_42 : decode cX12_tierOn 42 = .ok (.ireturn, 1) := by decide +kernel
theorem dX12_tierOn_43 : decode cX12_tierOn 43 = .ok (.iload 5, 2) := by decide +kernel
theorem dX12_tierOn_45 : decode cX12_tierOn 45 = .ok (.aload_n 0, 1) := by decide +kernel
theorem dX12_tierOn_46 : decode cX12_tierOn 46 = .ok (.iload_n 3, 1) := by decide +kernel
theorem dX12_tierOn_47 : decode cX12_tierOn 47 = .ok (.aload_n 0, 1) := by decide +kernel
theorem dX12_tierOn_48 : decode cX12_tierOn 48 = .ok (.getfield 40, 3) := by decide +kernel
theorem dX12_tierOn_51 : decode cX12_tierOn 51 = .ok (.iconst 4, 1) := by decide +kernel
theorem dX12_tierOn_52 : decode cX12_tierOn 52 = .ok (.iload_n 1, 1) := by decide +kernel
theorem dX12_tierOn_53 : decode cX12_tierOn 53 = .ok (.imul, 1) := by decide +kernel
theorem dX12_tierOn_54 : decode cX12_tierOn 54 = .ok (.iload 4, 2) := by decide +kernel
theorem dX12_tierOn_56 : decode cX12_tierOn 56 = .ok (.iadd, 1) := by decide +kernel
theorem dX12_tierOn_57 : decode cX12_tierOn 57 = .ok (.iaload, 1) := by decide +kernel
theorem dX12_tierOn_58 : decode cX12_tierOn 58 = .ok (.invokevirtual 224, 3) := by decide +kernel
theorem dX12_tierOn_61 : decode cX12_tierOn 61 = .ok (.invokestatic 209, 3) := by decide +kernel
theorem dX12_tierOn_64 : decode cX12_tierOn 64 = .ok (.istore 5, 2) := by decide +kernel
theorem dX12_tierOn_66 : decode cX12_tierOn 66 = .ok (.iload 5, 2) := by decide +kernel
theorem dX12_tierOn_68 : decode cX12_tierOn 68 = .ok (.aload_n 0, 1) := by decide +kernel
theorem dX12_tierOn_69 : decode cX12_tierOn 69 = .ok (.iload_n 3, 1) := by decide +kernel
theorem dX12_tierOn_70 : decode cX12_tierOn 70 = .ok (.iload 4, 2) := by decide +kernel
theorem dX12_tierOn_72 : decode cX12_tierOn 72 = .ok (.ifCond .ne 7, 3) := by decide +kernel
theorem dX12_tierOn_75 : decode cX12_tierOn 75 = .ok (.iconst 0, 1) := by decide +kernel
theorem dX12_tierOn_76 : decode cX12_tierOn 76 = .ok (.goto 16, 3) := by decide +kernel
theorem dX12_tierOn_79 : decode cX12_tierOn 79 = .ok (.aload_n 0, 1) := by decide +kernel
theorem dX12_tierOn_80 : decode cX12_tierOn 80 = .ok (.getfield 40, 3) := by decide +kernel
theorem dX12_tierOn_83 : decode cX12_tierOn 83 = .ok (.iconst 4, 1) := by decide +kernel
theorem dX12_tierOn_84 : decode cX12_tierOn 84 = .ok (.iload_n 1, 1) := by decide +kernel
theorem dX12_tierOn_85 : decode cX12_tierOn 85 = .ok (.imul, 1) := by decide +kernel
theorem dX12_tierOn_86 : decode cX12_tierOn 86 = .ok (.iload 4, 2) := by decide +kernel
theorem dX12_tierOn_88 : decode cX12_tierOn 88 = .ok (.iadd, 1) := by decide +kernel
theorem dX12_tierOn_89 : decode cX12_tierOn 89 = .ok (.iconst 1, 1) := by decide +kernel
theorem dX12_tierOn_90 : decode cX12_tierOn 90 = .ok (.isub, 1) := by decide +kernel
theorem dX12_tierOn_91 : decode cX12_tierOn 91 = .ok (.iaload, 1) := by decide +kernel
theorem dX12_tierOn_92 : decode cX12_tierOn 92 = .ok (.invokevirtual 224, 3) := by decide +kernel
theorem dX12_tierOn_95 : decode cX12_tierOn 95 = .ok (.invokestatic 209, 3) := by decide +kernel
theorem dX12_tierOn_98 : decode cX12_tierOn 98 = .ok (.ireturn, 1) := by decide +kernel
theorem dX12_flies_0 : decode cX12_flies 0 = .ok (.bipush 50, 2) := by decide +kernel
theorem dX12_flies_2 : decode cX12_flies 2 = .ok (.bipush 10, 2) := by decide +kernel
theorem dX12_flies_4 : decode cX12_flies 4 = .ok (.iload_n 1, 1) := by decide +kernel
theorem dX12_flies_5 : decode cX12_flies 5 = .ok (.imul, 1) := by decide +kernel
theorem dX12_flies_6 : decode cX12_flies 6 = .ok (.iadd, 1) := by decide +kernel
theorem dX12_flies_7 : decode cX12_flies 7 = .ok (.istore_n 2, 1) := by decide +kernel
theorem dX12_flies_8 : decode cX12_flies 8 = .ok (.aload_n 0, 1) := by decide +kernel
theorem dX12_flies_9 : decode cX12_flies 9 = .ok (.getfield 7, 3) := by decide +kernel
theorem dX12_flies_12 : decode cX12_flies 12 = .ok (.iload_n 2, 1) := by decide +kernel
theorem dX12_flies_13 : decode cX12_flies 13 = .ok (.iconst 1, 1) := by decide +kernel
theorem dX12_flies_14 : decode cX12_flies 14 = .ok (.iadd, 1) := by decide +kernel
theorem dX12_flies_15 : decode cX12_flies 15 = .ok (.iaload, 1) := by decide +kernel
theorem dX12_flies_16 : decode cX12_flies 16 = .ok (.istore_n 3, 1) := by decide +kernel
theorem dX12_flies_17 : decode cX12_flies 17 = .ok (.aload_n 0, 1) := by decide +kernel
theorem dX12_flies_18 : decode cX12_flies 18 = .ok (.getfield 7, 3) := by decide +kernel
theorem dX12_flies_21 : decode cX12_flies 21 = .ok (.bipush 20, 2) := by decide +kernel
theorem dX12_flies_23 : decode cX12_flies 23 = .ok (.iconst 3, 1) := by decide +kernel
theorem dX12_flies_24 : decode cX12_flies 24 = .ok (.iload_n 3, 1) := by decide +kernel
theorem dX12_flies_25 : decode cX12_flies 25 = .ok (.imul, 1) := by decide +kernel
theorem dX12_flies_26 : decode cX12_flies 26 = .ok (.iadd, 1) := by decide +kernel
theorem dX12_flies_27 : decode cX12_flies 27 = .ok (.iaload, 1) := by decide +kernel
theorem dX12_flies_28 : decode cX12_flies 28 = .ok (.istore 4, 2) := by decide +kernel
theorem dX12_flies_30 : decode cX12_flies 30 = .ok (.aload_n 0, 1) := by decide +kernel
theorem dX12_flies_31 : decode cX12_flies 31 = .ok (.aload_n 0, 1) := by decide +kernel
theorem dX12_flies_32 : decode cX12_flies 32 = .ok (.getfield 7, 3) := by decide +kernel
theorem dX12_flies_35 : decode cX12_flies 35 = .ok (.iload_n 2, 1) := by decide +kernel
theorem dX12_flies_36 : decode cX12_flies 36 = .ok (.iconst 2, 1) := by decide +kernel
theorem dX12_flies_37 : decode cX12_flies 37 = .ok (.iadd, 1) := by decide +kernel
theorem dX12_flies_38 : decode cX12_flies 38 = .ok (.iaload, 1) := by decide +kernel
theorem dX12_flies_39 : decode cX12_flies 39 = .ok (.invokevirtual 221, 3) := by decide +kernel
theorem dX12_flies_42 : decode cX12_flies 42 = .ok (.istore 5, 2) := by decide +kernel
theorem dX12_flies_44 : decode cX12_flies 44 = .ok (.aload_n 0, 1) := by decide +kernel
theorem dX12_flies_45 : decode cX12_flies 45 = .ok (.getfield 7, 3) := by decide +kernel
theorem dX12_flies_48 : decode cX12_flies 48 = .ok (.iload_n 2, 1) := by decide +kernel
theorem dX12_flies_49 : decode cX12_flies 49 = .ok (.iconst 5, 1) := by decide +kernel
theorem dX12_flies_50 : decode cX12_flies 50 = .ok (.iadd, 1) := by decide +kernel
theorem dX12_flies_51 : decode cX12_flies 51 = .ok (.iaload, 1) := by decide +kernel
theorem dX12_flies_52 : decode cX12_flies 52 = .ok (.istore 6, 2) := by decide +kernel
theorem dX12_flies_54 : decode cX12_flies 54 = .ok (.sipush 720, 3) := by decide +kernel
theorem dX12_flies_57 : decode cX12_flies 57 = .ok (.istore 7, 2) := by decide +kernel
theorem dX12_flies_59 : decode cX12_flies 59 = .ok (.iload 5, 2) := by decide +kernel
theorem dX12_flies_61 : decode cX12_flies 61 = .ok (.iconst (-1), 1) := by decide +kernel
theorem dX12_flies_62 : decode cX12_flies 62 = .ok (.if_icmp .eq 132, 3) := by decide +kernel
theorem dX12_flies_65 : decode cX12_flies 65 = .ok (.aload_n 0, 1) := by decide +kernel
theorem dX12_flies_66 : decode cX12_flies 66 = .ok (.getfield 28, 3) := by decide +kernel
theorem dX12_flies_69 : decode cX12_flies 69 = .ok (.bipush 116, 2) := by decide +kernel
theorem dX12_flies_71 : decode cX12_flies 71 = .ok (.aload_n 0, 1) := by decide +kernel
theorem dX12_flies_72 : decode cX12_flies 72 = .ok (.iload_n 3, 1) := by decide +kernel
theorem dX12_flies_73 : decode cX12_flies 73 = .ok (.aload_n 0, 1) := by decide +kernel
theorem dX12_flies_74 : decode cX12_flies 74 = .ok (.getfield 7, 3) := by decide +kernel
theorem dX12_flies_77 : decode cX12_flies 77 = .ok (.iload_n 2, 1) := by decide +kernel
theorem dX12_flies_78 : decode cX12_flies 78 = .ok (.iconst 2, 1) := by decide +kernel
theorem dX12_flies_79 : decode cX12_flies 79 = .ok (.iadd, 1) := by decide +kernel
theorem dX12_flies_80 : decode cX12_flies 80 = .ok (.iaload, 1) := by decide +kernel
theorem dX12_flies_81 : decode cX12_flies 81 = .ok (.invokevirtual 227, 3) := by decide +kernel
theorem dX12_flies_84 : decode cX12_flies 84 = .ok (.iastore, 1) := by decide +kernel
theorem dX12_flies_85 : decode cX12_flies 85 = .ok (.aload_n 0, 1) := by decide +kernel
theorem dX12_flies_86 : decode cX12_flies 86 = .ok (.getfield 28, 3) := by decide +kernel
theorem dX12_flies_89 : decode cX12_flies 89 = .ok (.bipush 107, 2) := by decide +kernel
theorem dX12_flies_91 : decode cX12_flies 91 = .ok (.iload 4, 2) := by decide +kernel
theorem dX12_flies_93 : decode cX12_flies 93 = .ok (.iastore, 1) := by decide +kernel
theorem dX12_flies_94 : decode cX12_flies 94 = .ok (.aload_n 0, 1) := by decide +kernel
theorem dX12_flies_95 : decode cX12_flies 95 = .ok (.getfield 28, 3) := by decide +kernel
theorem dX12_flies_98 : decode cX12_flies 98 = .ok (.bipush 108, 2) := by decide +kernel
theorem dX12_flies_100 : decode cX12_flies 100 = .ok (.aload_n 0, 1) := by decide +kernel
theorem dX12_flies_101 : decode cX12_flies 101 = .ok (.getfield 7, 3) := by decide +kernel
theorem dX12_flies_104 : decode cX12_flies 104 = .ok (.iload_n 2, 1) := by decide +kernel
theorem dX12_flies_105 : decode cX12_flies 105 = .ok (.iconst 5, 1) := by decide +kernel
theorem dX12_flies_106 : decode cX12_flies 106 = .ok (.iadd, 1) := by decide +kernel
theorem dX12_flies_107 : decode cX12_flies 107 = .ok (.iaload, 1) := by decide +kernel
theorem dX12_flies_108 : decode cX12_flies 108 = .ok (.iastore, 1) := by decide +kernel
theorem dX12_flies_109 : decode cX12_flies 109 = .ok (.aload_n 0, 1) := by decide +kernel
theorem dX12_flies_110 : decode cX12_flies 110 = .ok (.getfield 28, 3) := by decide +kernel
theorem dX12_flies_113 : decode cX12_flies 113 = .ok (.bipush 102, 2) := by decide +kernel
theorem dX12_flies_115 : decode cX12_flies 115 = .ok (.aload_n 0, 1) := by decide +kernel
theorem dX12_flies_116 : decode cX12_flies 116 = .ok (.getfield 7, 3) := by decide +kernel
theorem dX12_flies_119 : decode cX12_flies 119 = .ok (.iload_n 2, 1) := by decide +kernel
theorem dX12_flies_120 : decode cX12_flies 120 = .ok (.bipush 6, 2) := by decide +kernel
theorem dX12_flies_122 : decode cX12_flies 122 = .ok (.iadd, 1) := by decide +kernel
theorem dX12_flies_123 : decode cX12_flies 123 = .ok (.iaload, 1) := by decide +kernel
theorem dX12_flies_124 : decode cX12_flies 124 = .ok (.bipush 10, 2) := by decide +kernel
theorem dX12_flies_126 : decode cX12_flies 126 = .ok (.idiv, 1) := by decide +kernel
theorem dX12_flies_127 : decode cX12_flies 127 = .ok (.iastore, 1) := by decide +kernel
theorem dX12_flies_128 : decode cX12_flies 128 = .ok (.aload_n 0, 1) := by decide +kernel
theorem dX12_flies_129 : decode cX12_flies 129 = .ok (.getfield 28, 3) := by decide +kernel
theorem dX12_flies_132 : decode cX12_flies 132 = .ok (.bipush 112, 2) := by decide +kernel
theorem dX12_flies_134 : decode cX12_flies 134 = .ok (.aload_n 0, 1) := by decide +kernel
theorem dX12_flies_135 : decode cX12_flies 135 = .ok (.getfield 7, 3) := by decide +kernel
theorem dX12_flies_138 : decode cX12_flies 138 = .ok (.iload_n 2, 1) := by decide +kernel
theorem dX12_flies_139 : decode cX12_flies 139 = .ok (.bipush 6, 2) := by decide +kernel
theorem dX12_flies_141 : decode cX12_flies 141 = .ok (.iadd, 1) := by decide +kernel
theorem dX12_flies_142 : decode cX12_flies 142 = .ok (.iaload, 1) := by decide +kernel
theorem dX12_flies_143 : decode cX12_flies 143 = .ok (.bipush 10, 2) := by decide +kernel
theorem dX12_flies_145 : decode cX12_flies 145 = .ok (.irem, 1) := by decide +kernel
theorem dX12_flies_146 : decode cX12_flies 146 = .ok (.iastore, 1) := by decide +kernel
theorem dX12_flies_147 : decode cX12_flies 147 = .ok (.aload_n 0, 1) := by decide +kernel
theorem dX12_flies_148 : decode cX12_flies 148 = .ok (.getfield 28, 3) := by decide +kernel
theorem dX12_flies_151 : decode cX12_flies 151 = .ok (.bipush 99, 2) := by decide +kernel
