theorem dX12_init_0 : decode cX12_init 0 = .ok (.aload_n 0, 1) := by decide +kernel
theorem dX12_init_1 : decode cX12_init 1 = .ok (.invokespecial 1, 3) := by decide +kernel
theorem dX12_init_4 : decode cX12_init 4 = .ok (.aload_n 0, 1) := by decide +kernel
theorem dX12_init_5 : decode cX12_init 5 = .ok (.sipush 4230, 3) := by decide +kernel
theorem dX12_init_8 : decode cX12_init 8 = .ok (.newarray .int, 2) := by decide +kernel
theorem dX12_init_10 : decode cX12_init 10 = .ok (.putfield 7, 3) := by decide +kernel
theorem dX12_init_13 : decode cX12_init 13 = .ok (.aload_n 0, 1) := by decide +kernel
theorem dX12_init_14 : decode cX12_init 14 = .ok (.sipush 8460, 3) := by decide +kernel
theorem dX12_init_17 : decode cX12_init 17 = .ok (.newarray .int, 2) := by decide +kernel
theorem dX12_init_19 : decode cX12_init 19 = .ok (.putfield 13, 3) := by decide +kernel
theorem dX12_init_22 : decode cX12_init 22 = .ok (.aload_n 0, 1) := by decide +kernel
theorem dX12_init_23 : decode cX12_init 23 = .ok (.iconst 2, 1) := by decide +kernel
theorem dX12_init_24 : decode cX12_init 24 = .ok (.newarray .boolean, 2) := by decide +kernel
theorem dX12_init_26 : decode cX12_init 26 = .ok (.putfield 16, 3) := by decide +kernel
theorem dX12_init_29 : decode cX12_init 29 = .ok (.aload_n 0, 1) := by decide +kernel
theorem dX12_init_30 : decode cX12_init 30 = .ok (.sipush 160, 3) := by decide +kernel
theorem dX12_init_33 : decode cX12_init 33 = .ok (.newarray .int, 2) := by decide +kernel
theorem dX12_init_35 : decode cX12_init 35 = .ok (.putfield 20, 3) := by decide +kernel
theorem dX12_init_38 : decode cX12_init 38 = .ok (.aload_n 0, 1) := by decide +kernel
theorem dX12_init_39 : decode cX12_init 39 = .ok (.bipush 8, 2) := by decide +kernel
theorem dX12_init_41 : decode cX12_init 41 = .ok (.newarray .int, 2) := by decide +kernel
theorem dX12_init_43 : decode cX12_init 43 = .ok (.putfield 23, 3) := by decide +kernel
theorem dX12_init_46 : decode cX12_init 46 = .ok (.aload_n 0, 1) := by decide +kernel
theorem dX12_init_47 : decode cX12_init 47 = .ok (.bipush 64, 2) := by decide +kernel
theorem dX12_init_49 : decode cX12_init 49 = .ok (.newarray .int, 2) := by decide +kernel
theorem dX12_init_51 : decode cX12_init 51 = .ok (.putfield 26, 3) := by decide +kernel
theorem dX12_init_54 : decode cX12_init 54 = .ok (.aload_n 0, 1) := by decide +kernel
theorem dX12_init_55 : decode cX12_init 55 = .ok (.bipush 16, 2) := by decide +kernel
theorem dX12_init_57 : decode cX12_init 57 = .ok (.newarray .int, 2) := by decide +kernel
theorem dX12_init_59 : decode cX12_init 59 = .ok (.putfield 29, 3) := by decide +kernel
theorem dX12_init_62 : decode cX12_init 62 = .ok (.aload_n 0, 1) := by decide +kernel
theorem dX12_init_63 : decode cX12_init 63 = .ok (.bipush 16, 2) := by decide +kernel
theorem dX12_init_65 : decode cX12_init 65 = .ok (.newarray .int, 2) := by decide +kernel
theorem dX12_init_67 : decode cX12_init 67 = .ok (.putfield 32, 3) := by decide +kernel
theorem dX12_init_70 : decode cX12_init 70 = .ok (.aload_n 0, 1) := by decide +kernel
theorem dX12_init_71 : decode cX12_init 71 = .ok (.bipush 6, 2) := by decide +kernel
theorem dX12_init_73 : decode cX12_init 73 = .ok (.newarray .int, 2) := by decide +kernel
theorem dX12_init_75 : decode cX12_init 75 = .ok (.putfield 35, 3) := by decide +kernel
theorem dX12_init_78 : decode cX12_init 78 = .ok (.aload_n 0, 1) := by decide +kernel
theorem dX12_init_79 : decode cX12_init 79 = .ok (.sipush 200, 3) := by decide +kernel
theorem dX12_init_82 : decode cX12_init 82 = .ok (.newarray .int, 2) := by decide +kernel
theorem dX12_init_84 : decode cX12_init 84 = .ok (.putfield 38, 3) := by decide +kernel
theorem dX12_init_87 : decode cX12_init 87 = .ok (.aload_n 0, 1) := by decide +kernel
theorem dX12_init_88 : decode cX12_init 88 = .ok (.bipush 24, 2) := by decide +kernel
theorem dX12_init_90 : decode cX12_init 90 = .ok (.newarray .int, 2) := by decide +kernel
theorem dX12_init_92 : decode cX12_init 92 = .ok (.putfield 41, 3) := by decide +kernel
theorem dX12_init_95 : decode cX12_init 95 = .ok (.aload_n 0, 1) := by decide +kernel
theorem dX12_init_96 : decode cX12_init 96 = .ok (.bipush 24, 2) := by decide +kernel
theorem dX12_init_98 : decode cX12_init 98 = .ok (.newarray .int, 2) := by decide +kernel
theorem dX12_init_100 : decode cX12_init 100 = .ok (.putfield 44, 3) := by decide +kernel
theorem dX12_init_103 : decode cX12_init 103 = .ok (.aload_n 0, 1) := by decide +kernel
theorem dX12_init_104 : decode cX12_init 104 = .ok (.bipush 24, 2) := by decide +kernel
theorem dX12_init_106 : decode cX12_init 106 = .ok (.newarray .int, 2) := by decide +kernel
theorem dX12_init_108 : decode cX12_init 108 = .ok (.putfield 47, 3) := by decide +kernel
theorem dX12_init_111 : decode cX12_init 111 = .ok (.aload_n 0, 1) := by decide +kernel
theorem dX12_init_112 : decode cX12_init 112 = .ok (.sipush 1024, 3) := by decide +kernel
theorem dX12_init_115 : decode cX12_init 115 = .ok (.newarray .boolean, 2) := by decide +kernel
theorem dX12_init_117 : decode cX12_init 117 = .ok (.putfield 50, 3) := by decide +kernel
theorem dX12_init_120 : decode cX12_init 120 = .ok (.aload_n 0, 1) := by decide +kernel
theorem dX12_init_121 : decode cX12_init 121 = .ok (.sipush 1024, 3) := by decide +kernel
theorem dX12_init_124 : decode cX12_init 124 = .ok (.newarray .boolean, 2) := by decide +kernel
theorem dX12_init_126 : decode cX12_init 126 = .ok (.putfield 53, 3) := by decide +kernel
theorem dX12_init_129 : decode cX12_init 129 = .ok (.aload_n 0, 1) := by decide +kernel
theorem dX12_init_130 : decode cX12_init 130 = .ok (.bipush 64, 2) := by decide +kernel
theorem dX12_init_132 : decode cX12_init 132 = .ok (.newarray .long, 2) := by decide +kernel
theorem dX12_init_134 : decode cX12_init 134 = .ok (.putfield 56, 3) := by decide +kernel
theorem dX12_init_137 : decode cX12_init 137 = .ok (.aload_n 0, 1) := by decide +kernel
theorem dX12_init_138 : decode cX12_init 138 = .ok (.sipush 128, 3) := by decide +kernel
theorem dX12_init_141 : decode cX12_init 141 = .ok (.newarray .int, 2) := by decide +kernel
theorem dX12_init_143 : decode cX12_init 143 = .ok (.putfield 60, 3) := by decide +kernel
theorem dX12_init_146 : decode cX12_init 146 = .ok (.aload_n 0, 1) := by decide +kernel
theorem dX12_init_147 : decode cX12_init 147 = .ok (.bipush 6, 2) := by decide +kernel
theorem dX12_init_149 : decode cX12_init 149 = .ok (.newarray .long, 2) := by decide +kernel
theorem dX12_init_151 : decode cX12_init 151 = .ok (.putfield 63, 3) := by decide +kernel
theorem dX12_init_154 : decode cX12_init 154 = .ok (.iconst 0, 1) := by decide +kernel
theorem dX12_init_155 : decode cX12_init 155 = .ok (.istore_n 1, 1) := by decide +kernel
theorem dX12_init_156 : decode cX12_init 156 = .ok (.iload_n 1, 1) := by decide +kernel
theorem dX12_init_157 : decode cX12_init 157 = .ok (.iconst 4, 1) := by decide +kernel
theorem dX12_init_158 : decode cX12_init 158 = .ok (.if_icmp .ge 118, 3) := by decide +kernel
theorem dX12_init_161 : decode cX12_init 161 = .ok (.sipush 1106, 3) := by decide +kernel
theorem dX12_init_164 : decode cX12_init 164 = .ok (.bipush 60, 2) := by decide +kernel
theorem dX12_init_166 : decode cX12_init 166 = .ok (.iload_n 1, 1) := by decide +kernel
theorem dX12_init_167 : decode cX12_init 167 = .ok (.imul, 1) := by decide +kernel
theorem dX12_init_168 : decode cX12_init 168 = .ok (.iadd, 1) := by decide +kernel
theorem dX12_init_169 : decode cX12_init 169 = .ok (.istore_n 2, 1) := by decide +kernel
theorem dX12_init_170 : decode cX12_init 170 = .ok (.iconst 0, 1) := by decide +kernel
theorem dX12_init_171 : decode cX12_init 171 = .ok (.istore_n 3, 1) := by decide +kernel
theorem dX12_init_172 : decode cX12_init 172 = .ok (.iload_n 3, 1) := by decide +kernel
theorem dX12_init_173 : decode cX12_init 173 = .ok (.bipush 8, 2) := by decide +kernel
theorem dX12_init_175 : decode cX12_init 175 = .ok (.if_icmp .ge 18, 3) := by decide +kernel
theorem dX12_init_178 : decode cX12_init 178 = .ok (.aload_n 0, 1) := by decide +kernel
theorem dX12_init_179 : decode cX12_init 179 = .ok (.getfield 7, 3) := by decide +kernel
theorem dX12_init_182 : decode cX12_init 182 = .ok (.iload_n 2, 1) := by decide +kernel
theorem dX12_init_183 : decode cX12_init 183 = .ok (.iload_n 3, 1) := by decide +kernel
theorem dX12_init_184 : decode cX12_init 184 = .ok (.iadd, 1) := by decide +kernel
theorem dX12_init_185 : decode cX12_init 185 = .ok (.iconst 1, 1) := by decide +kernel
theorem dX12_init_186 : decode cX12_init 186 = .ok (.iastore, 1) := by decide +kernel
theorem dX12_init_187 : decode cX12_init 187 = .ok (.iinc 3 1, 3) := by decide +kernel
theorem dX12_init_190 : decode cX12_init 190 = .ok (.goto (-18), 3) := by decide +kernel
theorem dX12_init_193 : decode cX12_init 193 = .ok (.aload_n 0, 1) := by decide +kernel
theorem dX12_init_194 : decode cX12_init 194 = .ok (.getfield 7, 3) := by decide +kernel
theorem dX12_init_197 : decode cX12_init 197 = .ok (.iload_n 2, 1) := by decide +kernel
theorem dX12_init_198 : decode cX12_init 198 = .ok (.bipush 8, 2) := by decide +kernel
theorem dX12_init_200 : decode cX12_init 200 = .ok (.iadd, 1) := by decide +kernel
theorem dX12_init_201 : decode cX12_init 201 = .ok (.iconst 4, 1) := by decide +kernel
theorem dX12_init_202 : decode cX12_init 202 = .ok (.iastore, 1) := by decide +kernel
theorem dX12_init_203 : decode cX12_init 203 = .ok (.aload_n 0, 1) := by decide +kernel
theorem dX12_init_204 : decode cX12_init 204 = .ok (.getfield 7, 3) := by decide +kernel
theorem dX12_init_207 : decode cX12_init 207 = .ok (.iload_n 2, 1) := by decide +kernel
theorem dX12_init_208 : decode cX12_init 208 = .ok (.bipush 9, 2) := by decide +kernel
theorem dX12_init_210 : decode cX12_init 210 = .ok (.iadd, 1) := by decide +kernel
theorem dX12_init_211 : decode cX12_init 211 = .ok (.iconst 4, 1) := by decide +kernel
theorem dX12_init_212 : decode cX12_init 212 = .ok (.iastore, 1) := by decide +kernel
theorem dX12_init_213 : decode cX12_init 213 = .ok (.aload_n 0, 1) := by decide +kernel
theorem dX12_init_214 : decode cX12_init 214 = .ok (.getfield 7, 3) := by decide +kernel
theorem dX12_init_217 : decode cX12_init 217 = .ok (.iload_n 2, 1) := by decide +kernel
theorem dX12_init_218 : decode cX12_init 218 = .ok (.bipush 10, 2) := by decide +kernel
theorem dX12_init_220 : decode cX12_init 220 = .ok (.iadd, 1) := by decide +kernel
theorem dX12_init_221 : decode cX12_init 221 = .ok (.bipush 10, 2) := by decide +kernel
theorem dX12_init_223 : decode cX12_init 223 = .ok (.iastore, 1) := by decide +kernel
theorem dX12_init_224 : decode cX12_init 224 = .ok (.aload_n 0, 1) := by decide +kernel
theorem dX12_init_225 : decode cX12_init 225 = .ok (.getfield 7, 3) := by decide +kernel
theorem dX12_init_228 : decode cX12_init 228 = .ok (.iload_n 2, 1) := by decide +kernel
theorem dX12_init_229 : decode cX12_init 229 = .ok (.bipush 11, 2) := by decide +kernel
theorem dX12_init_231 : decode cX12_init 231 = .ok (.iadd, 1) := by decide +kernel
theorem dX12_init_232 : decode cX12_init 232 = .ok (.iconst 4, 1) := by decide +kernel
theorem dX12_init_233 : decode cX12_init 233 = .ok (.iastore, 1) := by decide +kernel
theorem dX12_init_234 : decode cX12_init 234 = .ok (.aload_n 0, 1) := by decide +kernel
theorem dX12_init_235 : decode cX12_init 235 = .ok (.getfield 7, 3) := by decide +kernel
theorem dX12_init_238 : decode cX12_init 238 = .ok (.iload_n 2, 1) := by decide +kernel
theorem dX12_init_239 : decode cX12_init 239 = .ok (.bipush 12, 2) := by decide +kernel
theorem dX12_init_241 : decode cX12_init 241 = .ok (.iadd, 1) := by decide +kernel
theorem dX12_init_242 : decode cX12_init 242 = .ok (.iconst 5, 1) := by decide +kernel
theorem dX12_init_243 : decode cX12_init 243 = .ok (.iastore, 1) := by decide +kernel
theorem dX12_init_244 : decode cX12_init 244 = .ok (.iconst 0, 1) := by decide +kernel
theorem dX12_init_245 : decode cX12_init 245 = .ok (.istore_n 3, 1) := by decide +kernel
theorem dX12_init_246 : decode cX12_init 246 = .ok (.iload_n 3, 1) := by decide +kernel
theorem dX12_init_247 : decode cX12_init 247 = .ok (.bipush 16, 2) := by decide +kernel
theorem dX12_init_249 : decode cX12_init 249 = .ok (.if_icmp .ge 21, 3) := by decide +kernel
theorem dX12_init_252 : decode cX12_init 252 = .ok (.aload_n 0, 1) := by decide +kernel
theorem dX12_init_253 : decode cX12_init 253 = .ok (.getfield 7, 3) := by decide +kernel
theorem dX12_init_256 : decode cX12_init 256 = .ok (.iload_n 2, 1) := by decide +kernel
theorem dX12_init_257 : decode cX12_init 257 = .ok (.bipush 20, 2) := by decide +kernel
theorem dX12_init_259 : decode cX12_init 259 = .ok (.iadd, 1) := by decide +kernel
theorem dX12_init_260 : decode cX12_init 260 = .ok (.iload_n 3, 1) := by decide +kernel
theorem dX12_init_261 : decode cX12_init 261 = .ok (.iadd, 1) := by decide +kernel
theorem dX12_init_262 : decode cX12_init 262 = .ok (.iconst (-1), 1) := by decide +kernel
theorem dX12_init_263 : decode cX12_init 263 = .ok (.iastore, 1) := by decide +kernel
theorem dX12_init_264 : decode cX12_init 264 = .ok (.iinc 3 1, 3) := by decide +kernel
theorem dX12_init_267 : decode cX12_init 267 = .ok (.goto (-21), 3) := by decide +kernel
theorem dX12_init_270 : decode cX12_init 270 = .ok (.iinc 1 1, 3) := by decide +kernel
theorem dX12_init_273 : decode cX12_init 273 = .ok (.goto (-117), 3) := by decide +kernel
theorem dX12_init_276 : decode cX12_init 276 = .ok (.aload_n 0, 1) := by decide +kernel
theorem dX12_init_277 : decode cX12_init 277 = .ok (.getfield 7, 3) := by decide +kernel
theorem dX12_init_280 : decode cX12_init 280 = .ok (.sipush 4218, 3) := by decide +kernel
theorem dX12_init_283 : decode cX12_init 283 = .ok (.bipush 20, 2) := by decide +kernel
theorem dX12_init_285 : decode cX12_init 285 = .ok (.iastore, 1) := by decide +kernel
theorem dX12_init_286 : decode cX12_init 286 = .ok (.return_, 1) := by decide +kernel
theorem dX12_in_0 : decode cX12_in 0 = .ok (.lload_n 0, 1) := by decide +kernel
theorem dX12_in_1 : decode cX12_in 1 = .ok (.lload_n 2, 1) := by decide +kernel
theorem dX12_in_2 : decode cX12_in 2 = .ok (.lcmp, 1) := by decide +kernel
theorem dX12_in_3 : decode cX12_in 3 = .ok (.ifCond .lt 14, 3) := by decide +kernel
theorem dX12_in_6 : decode cX12_in 6 = .ok (.lload_n 0, 1) := by decide +kernel
theorem dX12_in_7 : decode cX12_in 7 = .ok (.lload 4, 2) := by decide +kernel
theorem dX12_in_9 : decode cX12_in 9 = .ok (.lcmp, 1) := by decide +kernel
theorem dX12_in_10 : decode cX12_in 10 = .ok (.ifCond .gt 7, 3) := by decide +kernel
theorem dX12_in_13 : decode cX12_in 13 = .ok (.iconst 1, 1) := by decide +kernel
theorem dX12_in_14 : decode cX12_in 14 = .ok (.goto 4, 3) := by decide +kernel
theorem dX12_in_17 : decode cX12_in 17 = .ok (.iconst 0, 1) := by decide +kernel
theorem dX12_in_18 : decode cX12_in 18 = .ok (.ireturn, 1) := by decide +kernel
theorem dX12_many_0 : decode cX12_many 0 = .ok (.aload_n 0, 1) := by decide +kernel
theorem dX12_many_1 : decode cX12_many 1 = .ok (.getfield 7, 3) := by decide +kernel
theorem dX12_many_4 : decode cX12_many 4 = .ok (.sipush 4210, 3) := by decide +kernel
theorem dX12_many_7 : decode cX12_many 7 = .ok (.iload_n 1, 1) := by decide +kernel
theorem dX12_many_8 : decode cX12_many 8 = .ok (.iadd, 1) := by decide +kernel
theorem dX12_many_9 : decode cX12_many 9 = .ok (.iaload, 1) := by decide +kernel
theorem dX12_many_10 : decode cX12_many 10 = .ok (.ireturn, 1) := by decide +kernel
theorem dX12_has_0 : decode cX12_has 0 = .ok (.iload_n 2, 1) := by decide +kernel
theorem dX12_has_1 : decode cX12_has 1 = .ok (.i2l, 1) := by decide +kernel
theorem dX12_has_2 : decode cX12_has 2 = .ok (.lconst 0, 1) := by decide +kernel
theorem dX12_has_3 : decode cX12_has 3 = .ok (.aload_n 0, 1) := by decide +kernel
theorem dX12_has_4 : decode cX12_has 4 = .ok (.iload_n 1, 1) := by decide +kernel
theorem dX12_has_5 : decode cX12_has 5 = .ok (.invokevirtual 66, 3) := by decide +kernel
theorem dX12_has_8 : decode cX12_has 8 = .ok (.iconst 1, 1) := by decide +kernel
theorem dX12_has_9 : decode cX12_has 9 = .ok (.isub, 1) := by decide +kernel
theorem dX12_has_10 : decode cX12_has 10 = .ok (.i2l, 1) := by decide +kernel
theorem dX12_has_11 : decode cX12_has 11 = .ok (.invokestatic 70, 3) := by decide +kernel
theorem dX12_has_14 : decode cX12_has 14 = .ok (.ireturn, 1) := by decide +kernel
theorem dX12_isMachine_0 : decode cX12_isMachine 0 = .ok (.iload_n 0, 1) := by decide +kernel
theorem dX12_isMachine_1 : decode cX12_isMachine 1 = .ok (.i2l, 1) := by decide +kernel
theorem dX12_isMachine_2 : decode cX12_isMachine 2 = .ok (.lconst 0, 1) := by decide +kernel
theorem dX12_isMachine_3 : decode cX12_isMachine 3 = .ok (.ldc2_w 74, 3) := by decide +kernel
theorem dX12_isMachine_6 : decode cX12_isMachine 6 = .ok (.invokestatic 70, 3) := by decide +kernel
theorem dX12_isMachine_9 : decode cX12_isMachine 9 = .ok (.ireturn, 1) := by decide +kernel
theorem dX12_program_0 : decode cX12_program 0 = .ok (.aload_n 0, 1) := by decide +kernel
theorem dX12_program_1 : decode cX12_program 1 = .ok (.iconst 0, 1) := by decide +kernel
theorem dX12_program_2 : decode cX12_program 2 = .ok (.invokevirtual 66, 3) := by decide +kernel
theorem dX12_program_5 : decode cX12_program 5 = .ok (.bipush 6, 2) := by decide +kernel
theorem dX12_program_7 : decode cX12_program 7 = .ok (.if_icmp .ne 6, 3) := by decide +kernel
theorem dX12_program_10 : decode cX12_program 10 = .ok (.bipush (-4), 2) := by decide +kernel
theorem dX12_program_12 : decode cX12_program 12 = .ok (.ireturn, 1) := by decide +kernel
theorem dX12_program_13 : decode cX12_program 13 = .ok (.aload_n 0, 1) := by decide +kernel
theorem dX12_program_14 : decode cX12_program 14 = .ok (.getfield 7, 3) := by decide +kernel
theorem dX12_program_17 : decode cX12_program 17 = .ok (.sipush 4210, 3) := by decide +kernel
theorem dX12_program_20 : decode cX12_program 20 = .ok (.dup2, 1) := by decide +kernel
theorem dX12_program_21 : decode cX12_program 21 = .ok (.iaload, 1) := by decide +kernel
theorem dX12_program_22 : decode cX12_program 22 = .ok (.iconst 1, 1) := by decide +kernel
theorem dX12_program_23 : decode cX12_program 23 = .ok (.iadd, 1) := by decide +kernel
theorem dX12_program_24 : decode cX12_program 24 = .ok (.iastore, 1) := by decide +kernel
theorem dX12_program_25 : decode cX12_program 25 = .ok (.aload_n 0, 1) := by decide +kernel
theorem dX12_program_26 : decode cX12_program 26 = .ok (.iconst 0, 1) := by decide +kernel
theorem dX12_program_27 : decode cX12_program 27 = .ok (.invokevirtual 66, 3) := by decide +kernel
theorem dX12_program_30 : decode cX12_program 30 = .ok (.iconst 1, 1) := by decide +kernel
theorem dX12_program_31 : decode cX12_program 31 = .ok (.isub, 1) := by decide +kernel
theorem dX12_program_32 : decode cX12_program 32 = .ok (.ireturn, 1) := by decide +kernel
theorem dX12_isLine_0 : decode cX12_isLine 0 = .ok (.iload_n 0, 1) := by decide +kernel
theorem dX12_isLine_1 : decode cX12_isLine 1 = .ok (.i2l, 1) := by decide +kernel
theorem dX12_isLine_2 : decode cX12_isLine 2 = .ok (.lconst 0, 1) := by decide +kernel
theorem dX12_isLine_3 : decode cX12_isLine 3 = .ok (.ldc2_w 76, 3) := by decide +kernel
theorem dX12_isLine_6 : decode cX12_isLine 6 = .ok (.invokestatic 70, 3) := by decide +kernel
theorem dX12_isLine_9 : decode cX12_isLine 9 = .ok (.ifCond .ne 5, 3) := by decide +kernel
theorem dX12_isLine_12 : decode cX12_isLine 12 = .ok (.iconst 0, 1) := by decide +kernel
theorem dX12_isLine_13 : decode cX12_isLine 13 = .ok (.ireturn, 1) := by decide +kernel
theorem dX12_isLine_14 : decode cX12_isLine 14 = .ok (.iload_n 0, 1) := by decide +kernel
theorem dX12_isLine_15 : decode cX12_isLine 15 = .ok (.bipush 7, 2) := by decide +kernel
theorem dX12_isLine_17 : decode cX12_isLine 17 = .ok (.if_icmp .ne 5, 3) := by decide +kernel
theorem dX12_isLine_20 : decode cX12_isLine 20 = .ok (.iconst 1, 1) := by decide +kernel
theorem dX12_isLine_21 : decode cX12_isLine 21 = .ok (.ireturn, 1) := by decide +kernel
theorem dX12_isLine_22 : decode cX12_isLine 22 = .ok (.iload_n 1, 1) := by decide +kernel
theorem dX12_isLine_23 : decode cX12_isLine 23 = .ok (.i2l, 1) := by decide +kernel
theorem dX12_isLine_24 : decode cX12_isLine 24 = .ok (.lconst 0, 1) := by decide +kernel
theorem dX12_isLine_25 : decode cX12_isLine 25 = .ok (.ldc2_w 76, 3) := by decide +kernel
theorem dX12_isLine_28 : decode cX12_isLine 28 = .ok (.invokestatic 70, 3) := by decide +kernel
theorem dX12_isLine_31 : decode cX12_isLine 31 = .ok (.ifCond .ne 5, 3) := by decide +kernel
theorem dX12_isLine_34 : decode cX12_isLine 34 = .ok (.iconst 0, 1) := by decide +kernel
theorem dX12_isLine_35 : decode cX12_isLine 35 = .ok (.ireturn, 1) := by decide +kernel
theorem dX12_isLine_36 : decode cX12_isLine 36 = .ok (.iload_n 0, 1) := by decide +kernel
theorem dX12_isLine_37 : decode cX12_isLine 37 = .ok (.ifCond .ne 15, 3) := by decide +kernel
theorem dX12_isLine_40 : decode cX12_isLine 40 = .ok (.iload_n 2, 1) := by decide +kernel
theorem dX12_isLine_41 : decode cX12_isLine 41 = .ok (.i2l, 1) := by decide +kernel
theorem dX12_isLine_42 : decode cX12_isLine 42 = .ok (.ldc2_w 78, 3) := by decide +kernel
theorem dX12_isLine_45 : decode cX12_isLine 45 = .ok (.ldc2_w 80, 3) := by decide +kernel
theorem dX12_isLine_48 : decode cX12_isLine 48 = .ok (.invokestatic 70, 3) := by decide +kernel
theorem dX12_isLine_51 : decode cX12_isLine 51 = .ok (.ireturn, 1) := by decide +kernel
theorem dX12_isLine_52 : decode cX12_isLine 52 = .ok (.iload_n 0, 1) := by decide +kernel
theorem dX12_isLine_53 : decode cX12_isLine 53 = .ok (.bipush 6, 2) := by decide +kernel
theorem dX12_isLine_55 : decode cX12_isLine 55 = .ok (.if_icmp .ne 13, 3) := by decide +kernel
theorem dX12_isLine_58 : decode cX12_isLine 58 = .ok (.iload_n 2, 1) := by decide +kernel
theorem dX12_isLine_59 : decode cX12_isLine 59 = .ok (.i2l, 1) := by decide +kernel
theorem dX12_isLine_60 : decode cX12_isLine 60 = .ok (.lconst 0, 1) := by decide +kernel
theorem dX12_isLine_61 : decode cX12_isLine 61 = .ok (.ldc2_w 82, 3) := by decide +kernel
theorem dX12_isLine_64 : decode cX12_isLine 64 = .ok (.invokestatic 70, 3) := by decide +kernel
theorem dX12_isLine_67 : decode cX12_isLine 67 = .ok (.ireturn, 1) := by decide +kernel
theorem dX12_isLine_68 : decode cX12_isLine 68 = .ok (.iload_n 2, 1) := by decide +kernel
theorem dX12_isLine_69 : decode cX12_isLine 69 = .ok (.i2l, 1) := by decide +kernel
theorem dX12_isLine_70 : decode cX12_isLine 70 = .ok (.lconst 0, 1) := by decide +kernel
theorem dX12_isLine_71 : decode cX12_isLine 71 = .ok (.ldc2_w 76, 3) := by decide +kernel
theorem dX12_isLine_74 : decode cX12_isLine 74 = .ok (.invokestatic 70, 3) := by decide +kernel
theorem dX12_isLine_77 : decode cX12_isLine 77 = .ok (.ifCond .eq 24, 3) := by decide +kernel
theorem dX12_isLine_80 : decode cX12_isLine 80 = .ok (.iload_n 0, 1) := by decide +kernel
theorem dX12_isLine_81 : decode cX12_isLine 81 = .ok (.iconst 3, 1) := by decide +kernel
theorem dX12_isLine_82 : decode cX12_isLine 82 = .ok (.if_icmp .gt 15, 3) := by decide +kernel
theorem dX12_isLine_85 : decode cX12_isLine 85 = .ok (.iload_n 3, 1) := by decide +kernel
theorem dX12_isLine_86 : decode cX12_isLine 86 = .ok (.i2l, 1) := by decide +kernel
theorem dX12_isLine_87 : decode cX12_isLine 87 = .ok (.lconst 0, 1) := by decide +kernel
theorem dX12_isLine_88 : decode cX12_isLine 88 = .ok (.ldc2_w 76, 3) := by decide +kernel
theorem dX12_isLine_91 : decode cX12_isLine 91 = .ok (.invokestatic 70, 3) := by decide +kernel
theorem dX12_isLine_94 : decode cX12_isLine 94 = .ok (.ifCond .eq 7, 3) := by decide +kernel
theorem dX12_isLine_97 : decode cX12_isLine 97 = .ok (.iconst 1, 1) := by decide +kernel
theorem dX12_isLine_98 : decode cX12_isLine 98 = .ok (.goto 4, 3) := by decide +kernel
theorem dX12_isLine_101 : decode cX12_isLine 101 = .ok (.iconst 0, 1) := by decide +kernel
theorem dX12_isLine_102 : decode cX12_isLine 102 = .ok (.ireturn, 1) := by decide +kernel
theorem dX12_put_0 : decode cX12_put 0 = .ok (.aload_n 0, 1) := by decide +kernel
theorem dX12_put_1 : decode cX12_put 1 = .ok (.getfield 7, 3) := by decide +kernel
theorem dX12_put_4 : decode cX12_put 4 = .ok (.iload_n 1, 1) := by decide +kernel
theorem dX12_put_5 : decode cX12_put 5 = .ok (.iload_n 2, 1) := by decide +kernel
theorem dX12_put_6 : decode cX12_put 6 = .ok (.iastore, 1) := by decide +kernel
theorem dX12_put_7 : decode cX12_put 7 = .ok (.aload_n 0, 1) := by decide +kernel
theorem dX12_put_8 : decode cX12_put 8 = .ok (.getfield 7, 3) := by decide +kernel
theorem dX12_put_11 : decode cX12_put 11 = .ok (.iload_n 1, 1) := by decide +kernel
theorem dX12_put_12 : decode cX12_put 12 = .ok (.iconst 1, 1) := by decide +kernel
theorem dX12_put_13 : decode cX12_put 13 = .ok (.iadd, 1) := by decide +kernel
theorem dX12_put_14 : decode cX12_put 14 = .ok (.iload_n 3, 1) := by decide +kernel
theorem dX12_put_15 : decode cX12_put 15 = .ok (.iastore, 1) := by decide +kernel
theorem dX12_put_16 : decode cX12_put 16 = .ok (.aload_n 0, 1) := by decide +kernel
theorem dX12_put_17 : decode cX12_put 17 = .ok (.getfield 7, 3) := by decide +kernel
theorem dX12_put_20 : decode cX12_put 20 = .ok (.iload_n 1, 1) := by decide +kernel
theorem dX12_put_21 : decode cX12_put 21 = .ok (.iconst 2, 1) := by decide +kernel
theorem dX12_put_22 : decode cX12_put 22 = .ok (.iadd, 1) := by decide +kernel
theorem dX12_put_23 : decode cX12_put 23 = .ok (.iload 4, 2) := by decide +kernel
theorem dX12_put_25 : decode cX12_put 25 = .ok (.iastore, 1) := by decide +kernel
theorem dX12_put_26 : decode cX12_put 26 = .ok (.aload_n 0, 1) := by decide +kernel
theorem dX12_put_27 : decode cX12_put 27 = .ok (.getfield 7, 3) := by decide +kernel
theorem dX12_put_30 : decode cX12_put 30 = .ok (.iload_n 1, 1) := by decide +kernel
theorem dX12_put_31 : decode cX12_put 31 = .ok (.iconst 3, 1) := by decide +kernel
theorem dX12_put_32 : decode cX12_put 32 = .ok (.iadd, 1) := by decide +kernel
theorem dX12_put_33 : decode cX12_put 33 = .ok (.iload 5, 2) := by decide +kernel
theorem dX12_put_35 : decode cX12_put 35 = .ok (.iastore, 1) := by decide +kernel
theorem dX12_put_36 : decode cX12_put 36 = .ok (.return_, 1) := by decide +kernel
theorem dX12_line_0 : decode cX12_line 0 = .ok (.aload_n 0, 1) := by decide +kernel
theorem dX12_line_1 : decode cX12_line 1 = .ok (.iconst 0, 1) := by decide +kernel
theorem dX12_line_2 : decode cX12_line 2 = .ok (.iload_n 1, 1) := by decide +kernel
theorem dX12_line_3 : decode cX12_line 3 = .ok (.invokevirtual 84, 3) := by decide +kernel
theorem dX12_line_6 : decode cX12_line 6 = .ok (.ifCond .eq 15, 3) := by decide +kernel
theorem dX12_line_9 : decode cX12_line 9 = .ok (.iload_n 2, 1) := by decide +kernel
theorem dX12_line_10 : decode cX12_line 10 = .ok (.iload_n 3, 1) := by decide +kernel
theorem dX12_line_11 : decode cX12_line 11 = .ok (.iload 4, 2) := by decide +kernel
theorem dX12_line_13 : decode cX12_line 13 = .ok (.iload 5, 2) := by decide +kernel
theorem dX12_line_15 : decode cX12_line 15 = .ok (.invokestatic 88, 3) := by decide +kernel
theorem dX12_line_18 : decode cX12_line 18 = .ok (.ifCond .ne 6, 3) := by decide +kernel
theorem dX12_line_21 : decode cX12_line 21 = .ok (.bipush (-2), 2) := by decide +kernel
theorem dX12_line_23 : decode cX12_line 23 = .ok (.ireturn, 1) := by decide +kernel
theorem dX12_line_24 : decode cX12_line 24 = .ok (.iconst 0, 1) := by decide +kernel
theorem dX12_line_25 : decode cX12_line 25 = .ok (.istore 6, 2) := by decide +kernel
theorem dX12_line_27 : decode cX12_line 27 = .ok (.iload 6, 2) := by decide +kernel
theorem dX12_line_29 : decode cX12_line 29 = .ok (.aload_n 0, 1) := by decide +kernel
theorem dX12_line_30 : decode cX12_line 30 = .ok (.iconst 2, 1) := by decide +kernel
theorem dX12_line_31 : decode cX12_line 31 = .ok (.invokevirtual 66, 3) := by decide +kernel
theorem dX12_line_34 : decode cX12_line 34 = .ok (.if_icmp .ge 29, 3) := by decide +kernel
theorem dX12_line_37 : decode cX12_line 37 = .ok (.aload_n 0, 1) := by decide +kernel
theorem dX12_line_38 : decode cX12_line 38 = .ok (.getfield 7, 3) := by decide +kernel
theorem dX12_line_41 : decode cX12_line 41 = .ok (.sipush 1026, 3) := by decide +kernel
theorem dX12_line_44 : decode cX12_line 44 = .ok (.iconst 2, 1) := by decide +kernel
theorem dX12_line_45 : decode cX12_line 45 = .ok (.iload 6, 2) := by decide +kernel
theorem dX12_line_47 : decode cX12_line 47 = .ok (.imul, 1) := by decide +kernel
theorem dX12_line_48 : decode cX12_line 48 = .ok (.iadd, 1) := by decide +kernel
theorem dX12_line_49 : decode cX12_line 49 = .ok (.iaload, 1) := by decide +kernel
theorem dX12_line_50 : decode cX12_line 50 = .ok (.iload_n 1, 1) := by decide +kernel
theorem dX12_line_51 : decode cX12_line 51 = .ok (.if_icmp .ne 6, 3) := by decide +kernel
theorem dX12_line_54 : decode cX12_line 54 = .ok (.bipush (-3), 2) := by decide +kernel
theorem dX12_line_56 : decode cX12_line 56 = .ok (.ireturn, 1) := by decide +kernel
theorem dX12_line_57 : decode cX12_line 57 = .ok (.iinc 6 1, 3) := by decide +kernel
theorem dX12_line_60 : decode cX12_line 60 = .ok (.goto (-33), 3) := by decide +kernel
theorem dX12_line_63 : decode cX12_line 63 = .ok (.aload_n 0, 1) := by decide +kernel
theorem dX12_line_64 : decode cX12_line 64 = .ok (.getfield 7, 3) := by decide +kernel
theorem dX12_line_67 : decode cX12_line 67 = .ok (.sipush 960, 3) := by decide +kernel
theorem dX12_line_70 : decode cX12_line 70 = .ok (.iload_n 1, 1) := by decide +kernel
theorem dX12_line_71 : decode cX12_line 71 = .ok (.iadd, 1) := by decide +kernel
theorem dX12_line_72 : decode cX12_line 72 = .ok (.iaload, 1) := by decide +kernel
theorem dX12_line_73 : decode cX12_line 73 = .ok (.istore 6, 2) := by decide +kernel
theorem dX12_line_75 : decode cX12_line 75 = .ok (.iload 6, 2) := by decide +kernel
theorem dX12_line_77 : decode cX12_line 77 = .ok (.bipush 40, 2) := by decide +kernel
theorem dX12_line_79 : decode cX12_line 79 = .ok (.if_icmp .ne 6, 3) := by decide +kernel
theorem dX12_line_82 : decode cX12_line 82 = .ok (.bipush (-4), 2) := by decide +kernel
theorem dX12_line_84 : decode cX12_line 84 = .ok (.ireturn, 1) := by decide +kernel
theorem dX12_line_85 : decode cX12_line 85 = .ok (.aload_n 0, 1) := by decide +kernel
theorem dX12_line_86 : decode cX12_line 86 = .ok (.iconst 0, 1) := by decide +kernel
theorem dX12_line_87 : decode cX12_line 87 = .ok (.sipush 160, 3) := by decide +kernel
theorem dX12_line_90 : decode cX12_line 90 = .ok (.iload_n 1, 1) := by decide +kernel
theorem dX12_line_91 : decode cX12_line 91 = .ok (.imul, 1) := by decide +kernel
theorem dX12_line_92 : decode cX12_line 92 = .ok (.iadd, 1) := by decide +kernel
theorem dX12_line_93 : decode cX12_line 93 = .ok (.iconst 4, 1) := by decide +kernel
theorem dX12_line_94 : decode cX12_line 94 = .ok (.iload 6, 2) := by decide +kernel
theorem dX12_line_96 : decode cX12_line 96 = .ok (.imul, 1) := by decide +kernel
theorem dX12_line_97 : decode cX12_line 97 = .ok (.iadd, 1) := by decide +kernel
theorem dX12_line_98 : decode cX12_line 98 = .ok (.iload_n 2, 1) := by decide +kernel
theorem dX12_line_99 : decode cX12_line 99 = .ok (.iload_n 3, 1) := by decide +kernel
theorem dX12_line_100 : decode cX12_line 100 = .ok (.iload 4, 2) := by decide +kernel
theorem dX12_line_102 : decode cX12_line 102 = .ok (.iload 5, 2) := by decide +kernel
theorem dX12_line_104 : decode cX12_line 104 = .ok (.invokevirtual 92, 3) := by decide +kernel
theorem dX12_line_107 : decode cX12_line 107 = .ok (.aload_n 0, 1) := by decide +kernel
theorem dX12_line_108 : decode cX12_line 108 = .ok (.getfield 7, 3) := by decide +kernel
theorem dX12_line_111 : decode cX12_line 111 = .ok (.sipush 960, 3) := by decide +kernel
theorem dX12_line_114 : decode cX12_line 114 = .ok (.iload_n 1, 1) := by decide +kernel
theorem dX12_line_115 : decode cX12_line 115 = .ok (.iadd, 1) := by decide +kernel
theorem dX12_line_116 : decode cX12_line 116 = .ok (.dup2, 1) := by decide +kernel
theorem dX12_line_117 : decode cX12_line 117 = .ok (.iaload, 1) := by decide +kernel
theorem dX12_line_118 : decode cX12_line 118 = .ok (.iconst 1, 1) := by decide +kernel
theorem dX12_line_119 : decode cX12_line 119 = .ok (.iadd, 1) := by decide +kernel
theorem dX12_line_120 : decode cX12_line 120 = .ok (.iastore, 1) := by decide +kernel
theorem dX12_line_121 : decode cX12_line 121 = .ok (.iload 6, 2) := by decide +kernel
theorem dX12_line_123 : decode cX12_line 123 = .ok (.ireturn, 1) := by decide +kernel
theorem dX12_change_0 : decode cX12_change 0 = .ok (.aload_n 0, 1) := by decide +kernel
theorem dX12_change_1 : decode cX12_change 1 = .ok (.iconst 0, 1) := by decide +kernel
theorem dX12_change_2 : decode cX12_change 2 = .ok (.iload_n 1, 1) := by decide +kernel
theorem dX12_change_3 : decode cX12_change 3 = .ok (.invokevirtual 84, 3) := by decide +kernel
theorem dX12_change_6 : decode cX12_change 6 = .ok (.ifCond .eq 38, 3) := by decide +kernel
theorem dX12_change_9 : decode cX12_change 9 = .ok (.iload_n 2, 1) := by decide +kernel
theorem dX12_change_10 : decode cX12_change 10 = .ok (.i2l, 1) := by decide +kernel
theorem dX12_change_11 : decode cX12_change 11 = .ok (.lconst 0, 1) := by decide +kernel
theorem dX12_change_12 : decode cX12_change 12 = .ok (.aload_n 0, 1) := by decide +kernel
theorem dX12_change_13 : decode cX12_change 13 = .ok (.getfield 7, 3) := by decide +kernel
theorem dX12_change_16 : decode cX12_change 16 = .ok (.sipush 960, 3) := by decide +kernel
theorem dX12_change_19 : decode cX12_change 19 = .ok (.iload_n 1, 1) := by decide +kernel
theorem dX12_change_20 : decode cX12_change 20 = .ok (.iadd, 1) := by decide +kernel
theorem dX12_change_21 : decode cX12_change 21 = .ok (.iaload, 1) := by decide +kernel
theorem dX12_change_22 : decode cX12_change 22 = .ok (.iconst 1, 1) := by decide +kernel
theorem dX12_change_23 : decode cX12_change 23 = .ok (.isub, 1) := by decide +kernel
theorem dX12_change_24 : decode cX12_change 24 = .ok (.i2l, 1) := by decide +kernel
theorem dX12_change_25 : decode cX12_change 25 = .ok (.invokestatic 70, 3) := by decide +kernel
theorem dX12_change_28 : decode cX12_change 28 = .ok (.ifCond .eq 16, 3) := by decide +kernel
theorem dX12_change_31 : decode cX12_change 31 = .ok (.iload_n 3, 1) := by decide +kernel
theorem dX12_change_32 : decode cX12_change 32 = .ok (.iload 4, 2) := by decide +kernel
theorem dX12_change_34 : decode cX12_change 34 = .ok (.iload 5, 2) := by decide +kernel
theorem dX12_change_36 : decode cX12_change 36 = .ok (.iload 6, 2) := by decide +kernel
theorem dX12_change_38 : decode cX12_change 38 = .ok (.invokestatic 88, 3) := by decide +kernel
theorem dX12_change_41 : decode cX12_change 41 = .ok (.ifCond .ne 6, 3) := by decide +kernel
theorem dX12_change_44 : decode cX12_change 44 = .ok (.bipush (-2), 2) := by decide +kernel
theorem dX12_change_46 : decode cX12_change 46 = .ok (.ireturn, 1) := by decide +kernel
theorem dX12_change_47 : decode cX12_change 47 = .ok (.aload_n 0, 1) := by decide +kernel
theorem dX12_change_48 : decode cX12_change 48 = .ok (.iconst 1, 1) := by decide +kernel
theorem dX12_change_49 : decode cX12_change 49 = .ok (.invokevirtual 66, 3) := by decide +kernel
theorem dX12_change_52 : decode cX12_change 52 = .ok (.istore 7, 2) := by decide +kernel
theorem dX12_change_54 : decode cX12_change 54 = .ok (.iload 7, 2) := by decide +kernel
theorem dX12_change_56 : decode cX12_change 56 = .ok (.bipush 10, 2) := by decide +kernel
theorem dX12_change_58 : decode cX12_change 58 = .ok (.if_icmp .ne 6, 3) := by decide +kernel
theorem dX12_change_61 : decode cX12_change 61 = .ok (.bipush (-4), 2) := by decide +kernel
theorem dX12_change_63 : decode cX12_change 63 = .ok (.ireturn, 1) := by decide +kernel
theorem dX12_change_64 : decode cX12_change 64 = .ok (.aload_n 0, 1) := by decide +kernel
theorem dX12_change_65 : decode cX12_change 65 = .ok (.getfield 7, 3) := by decide +kernel
theorem dX12_change_68 : decode cX12_change 68 = .ok (.sipush 966, 3) := by decide +kernel
theorem dX12_change_71 : decode cX12_change 71 = .ok (.bipush 6, 2) := by decide +kernel
theorem dX12_change_73 : decode cX12_change 73 = .ok (.iload 7, 2) := by decide +kernel
theorem dX12_change_75 : decode cX12_change 75 = .ok (.imul, 1) := by decide +kernel
theorem dX12_change_76 : decode cX12_change 76 = .ok (.iadd, 1) := by decide +kernel
theorem dX12_change_77 : decode cX12_change 77 = .ok (.iload_n 1, 1) := by decide +kernel
theorem dX12_change_78 : decode cX12_change 78 = .ok (.iastore, 1) := by decide +kernel
theorem dX12_change_79 : decode cX12_change 79 = .ok (.aload_n 0, 1) := by decide +kernel
theorem dX12_change_80 : decode cX12_change 80 = .ok (.getfield 7, 3) := by decide +kernel
theorem dX12_change_83 : decode cX12_change 83 = .ok (.sipush 966, 3) := by decide +kernel
theorem dX12_change_86 : decode cX12_change 86 = .ok (.bipush 6, 2) := by decide +kernel
theorem dX12_change_88 : decode cX12_change 88 = .ok (.iload 7, 2) := by decide +kernel
theorem dX12_change_90 : decode cX12_change 90 = .ok (.imul, 1) := by decide +kernel
theorem dX12_change_91 : decode cX12_change 91 = .ok (.iadd, 1) := by decide +kernel
theorem dX12_change_92 : decode cX12_change 92 = .ok (.iconst 1, 1) := by decide +kernel
theorem dX12_change_93 : decode cX12_change 93 = .ok (.iadd, 1) := by decide +kernel
theorem dX12_change_94 : decode cX12_change 94 = .ok (.iload_n 2, 1) := by decide +kernel
theorem dX12_change_95 : decode cX12_change 95 = .ok (.iastore, 1) := by decide +kernel
theorem dX12_change_96 : decode cX12_change 96 = .ok (.aload_n 0, 1) := by decide +kernel
theorem dX12_change_97 : decode cX12_change 97 = .ok (.sipush 966, 3) := by decide +kernel
theorem dX12_change_100 : decode cX12_change 100 = .ok (.bipush 6, 2) := by decide +kernel
theorem dX12_change_102 : decode cX12_change 102 = .ok (.iload 7, 2) := by decide +kernel
theorem dX12_change_104 : decode cX12_change 104 = .ok (.imul, 1) := by decide +kernel
theorem dX12_change_105 : decode cX12_change 105 = .ok (.iadd, 1) := by decide +kernel
theorem dX12_change_106 : decode cX12_change 106 = .ok (.iconst 2, 1) := by decide +kernel
theorem dX12_change_107 : decode cX12_change 107 = .ok (.iadd, 1) := by decide +kernel
theorem dX12_change_108 : decode cX12_change 108 = .ok (.iload_n 3, 1) := by decide +kernel
theorem dX12_change_109 : decode cX12_change 109 = .ok (.iload 4, 2) := by decide +kernel
theorem dX12_change_111 : decode cX12_change 111 = .ok (.iload 5, 2) := by decide +kernel
theorem dX12_change_113 : decode cX12_change 113 = .ok (.iload 6, 2) := by decide +kernel
theorem dX12_change_115 : decode cX12_change 115 = .ok (.invokevirtual 92, 3) := by decide +kernel
theorem dX12_change_118 : decode cX12_change 118 = .ok (.aload_n 0, 1) := by decide +kernel
theorem dX12_change_119 : decode cX12_change 119 = .ok (.getfield 7, 3) := by decide +kernel
theorem dX12_change_122 : decode cX12_change 122 = .ok (.sipush 4211, 3) := by decide +kernel
theorem dX12_change_125 : decode cX12_change 125 = .ok (.dup2, 1) := by decide +kernel
theorem dX12_change_126 : decode cX12_change 126 = .ok (.iaload, 1) := by decide +kernel
theorem dX12_change_127 : decode cX12_change 127 = .ok (.iconst 1, 1) := by decide +kernel
theorem dX12_change_128 : decode cX12_change 128 = .ok (.iadd, 1) := by decide +kernel
theorem dX12_change_129 : decode cX12_change 129 = .ok (.iastore, 1) := by decide +kernel
theorem dX12_change_130 : decode cX12_change 130 = .ok (.iload 7, 2) := by decide +kernel
theorem dX12_change_132 : decode cX12_change 132 = .ok (.ireturn, 1) := by decide +kernel
theorem dX12_build_0 : decode cX12_build 0 = .ok (.aload_n 0, 1) := by decide +kernel
theorem dX12_build_1 : decode cX12_build 1 = .ok (.iconst 0, 1) := by decide +kernel
theorem dX12_build_2 : decode cX12_build 2 = .ok (.iload_n 1, 1) := by decide +kernel
theorem dX12_build_3 : decode cX12_build 3 = .ok (.invokevirtual 84, 3) := by decide +kernel
theorem dX12_build_6 : decode cX12_build 6 = .ok (.ifCond .eq 22, 3) := by decide +kernel
theorem dX12_build_9 : decode cX12_build 9 = .ok (.iload_n 2, 1) := by decide +kernel
theorem dX12_build_10 : decode cX12_build 10 = .ok (.i2l, 1) := by decide +kernel
theorem dX12_build_11 : decode cX12_build 11 = .ok (.lconst 0, 1) := by decide +kernel
theorem dX12_build_12 : decode cX12_build 12 = .ok (.iconst 1, 1) := by decide +kernel
theorem dX12_build_13 : decode cX12_build 13 = .ok (.aload_n 0, 1) := by decide +kernel
theorem dX12_build_14 : decode cX12_build 14 = .ok (.iconst 1, 1) := by decide +kernel
theorem dX12_build_15 : decode cX12_build 15 = .ok (.invokevirtual 66, 3) := by decide +kernel
theorem dX12_build_18 : decode cX12_build 18 = .ok (.ishl, 1) := by decide +kernel
theorem dX12_build_19 : decode cX12_build 19 = .ok (.iconst 1, 1) := by decide +kernel
theorem dX12_build_20 : decode cX12_build 20 = .ok (.isub, 1) := by decide +kernel
theorem dX12_build_21 : decode cX12_build 21 = .ok (.i2l, 1) := by decide +kernel
theorem dX12_build_22 : decode cX12_build 22 = .ok (.invokestatic 70, 3) := by decide +kernel
theorem dX12_build_25 : decode cX12_build 25 = .ok (.ifCond .ne 6, 3) := by decide +kernel
theorem dX12_build_28 : decode cX12_build 28 = .ok (.bipush (-2), 2) := by decide +kernel
theorem dX12_build_30 : decode cX12_build 30 = .ok (.ireturn, 1) := by decide +kernel
theorem dX12_build_31 : decode cX12_build 31 = .ok (.iconst 0, 1) := by decide +kernel
theorem dX12_build_32 : decode cX12_build 32 = .ok (.istore_n 3, 1) := by decide +kernel
theorem dX12_build_33 : decode cX12_build 33 = .ok (.iload_n 3, 1) := by decide +kernel
theorem dX12_build_34 : decode cX12_build 34 = .ok (.aload_n 0, 1) := by decide +kernel
theorem dX12_build_35 : decode cX12_build 35 = .ok (.iconst 1, 1) := by decide +kernel
theorem dX12_build_36 : decode cX12_build 36 = .ok (.invokevirtual 66, 3) := by decide +kernel
theorem dX12_build_39 : decode cX12_build 39 = .ok (.if_icmp .ge 100, 3) := by decide +kernel
theorem dX12_build_42 : decode cX12_build 42 = .ok (.iload_n 2, 1) := by decide +kernel
theorem dX12_build_43 : decode cX12_build 43 = .ok (.iload_n 3, 1) := by decide +kernel
theorem dX12_build_44 : decode cX12_build 44 = .ok (.ishr, 1) := by decide +kernel
theorem dX12_build_45 : decode cX12_build 45 = .ok (.iconst 1, 1) := by decide +kernel
theorem dX12_build_46 : decode cX12_build 46 = .ok (.iand, 1) := by decide +kernel
theorem dX12_build_47 : decode cX12_build 47 = .ok (.iconst 1, 1) := by decide +kernel
theorem dX12_build_48 : decode cX12_build 48 = .ok (.if_icmp .ne 85, 3) := by decide +kernel
theorem dX12_build_51 : decode cX12_build 51 = .ok (.aload_n 0, 1) := by decide +kernel
theorem dX12_build_52 : decode cX12_build 52 = .ok (.getfield 7, 3) := by decide +kernel
theorem dX12_build_55 : decode cX12_build 55 = .ok (.sipush 966, 3) := by decide +kernel
theorem dX12_build_58 : decode cX12_build 58 = .ok (.bipush 6, 2) := by decide +kernel
theorem dX12_build_60 : decode cX12_build 60 = .ok (.iload_n 3, 1) := by decide +kernel
theorem dX12_build_61 : decode cX12_build 61 = .ok (.imul, 1) := by decide +kernel
theorem dX12_build_62 : decode cX12_build 62 = .ok (.iadd, 1) := by decide +kernel
theorem dX12_build_63 : decode cX12_build 63 = .ok (.iaload, 1) := by decide +kernel
theorem dX12_build_64 : decode cX12_build 64 = .ok (.iload_n 1, 1) := by decide +kernel
theorem dX12_build_65 : decode cX12_build 65 = .ok (.if_icmp .eq 6, 3) := by decide +kernel
theorem dX12_build_68 : decode cX12_build 68 = .ok (.bipush (-3), 2) := by decide +kernel
theorem dX12_build_70 : decode cX12_build 70 = .ok (.ireturn, 1) := by decide +kernel
theorem dX12_build_71 : decode cX12_build 71 = .ok (.iconst 0, 1) := by decide +kernel
theorem dX12_build_72 : decode cX12_build 72 = .ok (.istore 4, 2) := by decide +kernel
theorem dX12_build_74 : decode cX12_build 74 = .ok (.iload 4, 2) := by decide +kernel
theorem dX12_build_76 : decode cX12_build 76 = .ok (.iload_n 3, 1) := by decide +kernel
theorem dX12_build_77 : decode cX12_build 77 = .ok (.if_icmp .ge 56, 3) := by decide +kernel
theorem dX12_build_80 : decode cX12_build 80 = .ok (.iload_n 2, 1) := by decide +kernel
theorem dX12_build_81 : decode cX12_build 81 = .ok (.iload 4, 2) := by decide +kernel
theorem dX12_build_83 : decode cX12_build 83 = .ok (.ishr, 1) := by decide +kernel
theorem dX12_build_84 : decode cX12_build 84 = .ok (.iconst 1, 1) := by decide +kernel
theorem dX12_build_85 : decode cX12_build 85 = .ok (.iand, 1) := by decide +kernel
theorem dX12_build_86 : decode cX12_build 86 = .ok (.iconst 1, 1) := by decide +kernel
theorem dX12_build_87 : decode cX12_build 87 = .ok (.if_icmp .ne 40, 3) := by decide +kernel
theorem dX12_build_90 : decode cX12_build 90 = .ok (.aload_n 0, 1) := by decide +kernel
theorem dX12_build_91 : decode cX12_build 91 = .ok (.getfield 7, 3) := by decide +kernel
theorem dX12_build_94 : decode cX12_build 94 = .ok (.sipush 966, 3) := by decide +kernel
theorem dX12_build_97 : decode cX12_build 97 = .ok (.bipush 6, 2) := by decide +kernel
theorem dX12_build_99 : decode cX12_build 99 = .ok (.iload 4, 2) := by decide +kernel
theorem dX12_build_101 : decode cX12_build 101 = .ok (.imul, 1) := by decide +kernel
theorem dX12_build_102 : decode cX12_build 102 = .ok (.iadd, 1) := by decide +kernel
theorem dX12_build_103 : decode cX12_build 103 = .ok (.iconst 1, 1) := by decide +kernel
theorem dX12_build_104 : decode cX12_build 104 = .ok (.iadd, 1) := by decide +kernel
theorem dX12_build_105 : decode cX12_build 105 = .ok (.iaload, 1) := by decide +kernel
theorem dX12_build_106 : decode cX12_build 106 = .ok (.aload_n 0, 1) := by decide +kernel
theorem dX12_build_107 : decode cX12_build 107 = .ok (.getfield 7, 3) := by decide +kernel
theorem dX12_build_110 : decode cX12_build 110 = .ok (.sipush 966, 3) := by decide +kernel
theorem dX12_build_113 : decode cX12_build 113 = .ok (.bipush 6, 2) := by decide +kernel
theorem dX12_build_115 : decode cX12_build 115 = .ok (.iload_n 3, 1) := by decide +kernel
theorem dX12_build_116 : decode cX12_build 116 = .ok (.imul, 1) := by decide +kernel
theorem dX12_build_117 : decode cX12_build 117 = .ok (.iadd, 1) := by decide +kernel
theorem dX12_build_118 : decode cX12_build 118 = .ok (.iconst 1, 1) := by decide +kernel
theorem dX12_build_119 : decode cX12_build 119 = .ok (.iadd, 1) := by decide +kernel
theorem dX12_build_120 : decode cX12_build 120 = .ok (.iaload, 1) := by decide +kernel
theorem dX12_build_121 : decode cX12_build 121 = .ok (.if_icmp .ne 6, 3) := by decide +kernel
theorem dX12_build_124 : decode cX12_build 124 = .ok (.bipush (-3), 2) := by decide +kernel
theorem dX12_build_126 : decode cX12_build 126 = .ok (.ireturn, 1) := by decide +kernel
theorem dX12_build_127 : decode cX12_build 127 = .ok (.iinc 4 1, 3) := by decide +kernel
theorem dX12_build_130 : decode cX12_build 130 = .ok (.goto (-56), 3) := by decide +kernel
theorem dX12_build_133 : decode cX12_build 133 = .ok (.iinc 3 1, 3) := by decide +kernel
theorem dX12_build_136 : decode cX12_build 136 = .ok (.goto (-103), 3) := by decide +kernel
theorem dX12_build_139 : decode cX12_build 139 = .ok (.aload_n 0, 1) := by decide +kernel
theorem dX12_build_140 : decode cX12_build 140 = .ok (.iconst 2, 1) := by decide +kernel
theorem dX12_build_141 : decode cX12_build 141 = .ok (.invokevirtual 66, 3) := by decide +kernel
theorem dX12_build_144 : decode cX12_build 144 = .ok (.istore_n 3, 1) := by decide +kernel
theorem dX12_build_145 : decode cX12_build 145 = .ok (.iload_n 3, 1) := by decide +kernel
theorem dX12_build_146 : decode cX12_build 146 = .ok (.bipush 24, 2) := by decide +kernel
theorem dX12_build_148 : decode cX12_build 148 = .ok (.if_icmp .ne 6, 3) := by decide +kernel
theorem dX12_build_151 : decode cX12_build 151 = .ok (.bipush (-4), 2) := by decide +kernel
theorem dX12_build_153 : decode cX12_build 153 = .ok (.ireturn, 1) := by decide +kernel
theorem dX12_build_154 : decode cX12_build 154 = .ok (.aload_n 0, 1) := by decide +kernel
theorem dX12_build_155 : decode cX12_build 155 = .ok (.getfield 7, 3) := by decide +kernel
theorem dX12_build_158 : decode cX12_build 158 = .ok (.sipush 1026, 3) := by decide +kernel
theorem dX12_build_161 : decode cX12_build 161 = .ok (.iconst 2, 1) := by decide +kernel
theorem dX12_build_162 : decode cX12_build 162 = .ok (.iload_n 3, 1) := by decide +kernel
theorem dX12_build_163 : decode cX12_build 163 = .ok (.imul, 1) := by decide +kernel
theorem dX12_build_164 : decode cX12_build 164 = .ok (.iadd, 1) := by decide +kernel
theorem dX12_build_165 : decode cX12_build 165 = .ok (.iload_n 1, 1) := by decide +kernel
theorem dX12_build_166 : decode cX12_build 166 = .ok (.iastore, 1) := by decide +kernel
theorem dX12_build_167 : decode cX12_build 167 = .ok (.aload_n 0, 1) := by decide +kernel
theorem dX12_build_168 : decode cX12_build 168 = .ok (.getfield 7, 3) := by decide +kernel
theorem dX12_build_171 : decode cX12_build 171 = .ok (.sipush 1026, 3) := by decide +kernel
theorem dX12_build_174 : decode cX12_build 174 = .ok (.iconst 2, 1) := by decide +kernel
theorem dX12_build_175 : decode cX12_build 175 = .ok (.iload_n 3, 1) := by decide +kernel
theorem dX12_build_176 : decode cX12_build 176 = .ok (.imul, 1) := by decide +kernel
theorem dX12_build_177 : decode cX12_build 177 = .ok (.iadd, 1) := by decide +kernel
theorem dX12_build_178 : decode cX12_build 178 = .ok (.iconst 1, 1) := by decide +kernel
theorem dX12_build_179 : decode cX12_build 179 = .ok (.iadd, 1) := by decide +kernel
theorem dX12_build_180 : decode cX12_build 180 = .ok (.iload_n 2, 1) := by decide +kernel
theorem dX12_build_181 : decode cX12_build 181 = .ok (.iastore, 1) := by decide +kernel
theorem dX12_build_182 : decode cX12_build 182 = .ok (.aload_n 0, 1) := by decide +kernel
theorem dX12_build_183 : decode cX12_build 183 = .ok (.getfield 7, 3) := by decide +kernel
theorem dX12_build_186 : decode cX12_build 186 = .ok (.sipush 4212, 3) := by decide +kernel
theorem dX12_build_189 : decode cX12_build 189 = .ok (.dup2, 1) := by decide +kernel
theorem dX12_build_190 : decode cX12_build 190 = .ok (.iaload, 1) := by decide +kernel
theorem dX12_build_191 : decode cX12_build 191 = .ok (.iconst 1, 1) := by decide +kernel
theorem dX12_build_192 : decode cX12_build 192 = .ok (.iadd, 1) := by decide +kernel
theorem dX12_build_193 : decode cX12_build 193 = .ok (.iastore, 1) := by decide +kernel
theorem dX12_build_194 : decode cX12_build 194 = .ok (.iload_n 3, 1) := by decide +kernel
theorem dX12_build_195 : decode cX12_build 195 = .ok (.ireturn, 1) := by decide +kernel
theorem dX12_isStart_0 : decode cX12_isStart 0 = .ok (.iload_n 0, 1) := by decide +kernel
theorem dX12_isStart_1 : decode cX12_isStart 1 = .ok (.i2l, 1) := by decide +kernel
theorem dX12_isStart_2 : decode cX12_isStart 2 = .ok (.ldc2_w 78, 3) := by decide +kernel
theorem dX12_isStart_5 : decode cX12_isStart 5 = .ok (.ldc2_w 80, 3) := by decide +kernel
theorem dX12_isStart_8 : decode cX12_isStart 8 = .ok (.invokestatic 70, 3) := by decide +kernel
theorem dX12_isStart_11 : decode cX12_isStart 11 = .ok (.ireturn, 1) := by decide +kernel
theorem dX12_setting_0 : decode cX12_setting 0 = .ok (.iload_n 1, 1) := by decide +kernel
theorem dX12_setting_1 : decode cX12_setting 1 = .ok (.invokestatic 96, 3) := by decide +kernel
theorem dX12_setting_4 : decode cX12_setting 4 = .ok (.ifCond .eq 25, 3) := by decide +kernel
theorem dX12_setting_7 : decode cX12_setting 7 = .ok (.iload_n 2, 1) := by decide +kernel
theorem dX12_setting_8 : decode cX12_setting 8 = .ok (.invokestatic 96, 3) := by decide +kernel
theorem dX12_setting_11 : decode cX12_setting 11 = .ok (.ifCond .eq 18, 3) := by decide +kernel
theorem dX12_setting_14 : decode cX12_setting 14 = .ok (.iload_n 3, 1) := by decide +kernel
theorem dX12_setting_15 : decode cX12_setting 15 = .ok (.invokestatic 96, 3) := by decide +kernel
theorem dX12_setting_18 : decode cX12_setting 18 = .ok (.ifCond .eq 11, 3) := by decide +kernel
theorem dX12_setting_21 : decode cX12_setting 21 = .ok (.iload 4, 2) := by decide +kernel
theorem dX12_setting_23 : decode cX12_setting 23 = .ok (.invokestatic 96, 3) := by decide +kernel
theorem dX12_setting_26 : decode cX12_setting 26 = .ok (.ifCond .ne 6, 3) := by decide +kernel
theorem dX12_setting_29 : decode cX12_setting 29 = .ok (.bipush (-2), 2) := by decide +kernel
theorem dX12_setting_31 : decode cX12_setting 31 = .ok (.ireturn, 1) := by decide +kernel
theorem dX12_setting_32 : decode cX12_setting 32 = .ok (.aload_n 0, 1) := by decide +kernel
theorem dX12_setting_33 : decode cX12_setting 33 = .ok (.iconst 3, 1) := by decide +kernel
theorem dX12_setting_34 : decode cX12_setting 34 = .ok (.invokevirtual 66, 3) := by decide +kernel
theorem dX12_setting_37 : decode cX12_setting 37 = .ok (.istore 5, 2) := by decide +kernel
theorem dX12_setting_39 : decode cX12_setting 39 = .ok (.iload 5, 2) := by decide +kernel
theorem dX12_setting_41 : decode cX12_setting 41 = .ok (.bipush 8, 2) := by decide +kernel
theorem dX12_setting_43 : decode cX12_setting 43 = .ok (.if_icmp .ne 6, 3) := by decide +kernel
theorem dX12_setting_46 : decode cX12_setting 46 = .ok (.bipush (-4), 2) := by decide +kernel
theorem dX12_setting_48 : decode cX12_setting 48 = .ok (.ireturn, 1) := by decide +kernel
theorem dX12_setting_49 : decode cX12_setting 49 = .ok (.aload_n 0, 1) := by decide +kernel
theorem dX12_setting_50 : decode cX12_setting 50 = .ok (.sipush 1074, 3) := by decide +kernel
theorem dX12_setting_53 : decode cX12_setting 53 = .ok (.iconst 4, 1) := by decide +kernel
theorem dX12_setting_54 : decode cX12_setting 54 = .ok (.iload 5, 2) := by decide +kernel
theorem dX12_setting_56 : decode cX12_setting 56 = .ok (.imul, 1) := by decide +kernel
theorem dX12_setting_57 : decode cX12_setting 57 = .ok (.iadd, 1) := by decide +kernel
theorem dX12_setting_58 : decode cX12_setting 58 = .ok (.iload_n 1, 1) := by decide +kernel
theorem dX12_setting_59 : decode cX12_setting 59 = .ok (.iload_n 2, 1) := by decide +kernel
theorem dX12_setting_60 : decode cX12_setting 60 = .ok (.iload_n 3, 1) := by decide +kernel
theorem dX12_setting_61 : decode cX12_setting 61 = .ok (.iload 4, 2) := by decide +kernel
theorem dX12_setting_63 : decode cX12_setting 63 = .ok (.invokevirtual 92, 3) := by decide +kernel
theorem dX12_setting_66 : decode cX12_setting 66 = .ok (.aload_n 0, 1) := by decide +kernel
theorem dX12_setting_67 : decode cX12_setting 67 = .ok (.getfield 7, 3) := by decide +kernel
theorem dX12_setting_70 : decode cX12_setting 70 = .ok (.sipush 4213, 3) := by decide +kernel
theorem dX12_setting_73 : decode cX12_setting 73 = .ok (.dup2, 1) := by decide +kernel
theorem dX12_setting_74 : decode cX12_setting 74 = .ok (.iaload, 1) := by decide +kernel
theorem dX12_setting_75 : decode cX12_setting 75 = .ok (.iconst 1, 1) := by decide +kernel
theorem dX12_setting_76 : decode cX12_setting 76 = .ok (.iadd, 1) := by decide +kernel
theorem dX12_setting_77 : decode cX12_setting 77 = .ok (.iastore, 1) := by decide +kernel
theorem dX12_setting_78 : decode cX12_setting 78 = .ok (.iload 5, 2) := by decide +kernel
theorem dX12_setting_80 : decode cX12_setting 80 = .ok (.ireturn, 1) := by decide +kernel
theorem dX12_price_0 : decode cX12_price 0 = .ok (.iload_n 1, 1) := by decide +kernel
theorem dX12_price_1 : decode cX12_price 1 = .ok (.invokestatic 100, 3) := by decide +kernel
theorem dX12_price_4 : decode cX12_price 4 = .ok (.ifCond .eq 27, 3) := by decide +kernel
theorem dX12_price_7 : decode cX12_price 7 = .ok (.iload_n 2, 1) := by decide +kernel
theorem dX12_price_8 : decode cX12_price 8 = .ok (.i2l, 1) := by decide +kernel
theorem dX12_price_9 : decode cX12_price 9 = .ok (.lconst 0, 1) := by decide +kernel
theorem dX12_price_10 : decode cX12_price 10 = .ok (.ldc2_w 76, 3) := by decide +kernel
theorem dX12_price_13 : decode cX12_price 13 = .ok (.invokestatic 70, 3) := by decide +kernel
theorem dX12_price_16 : decode cX12_price 16 = .ok (.ifCond .eq 15, 3) := by decide +kernel
theorem dX12_price_19 : decode cX12_price 19 = .ok (.iload_n 3, 1) := by decide +kernel
theorem dX12_price_20 : decode cX12_price 20 = .ok (.i2l, 1) := by decide +kernel
theorem dX12_price_21 : decode cX12_price 21 = .ok (.lconst 0, 1) := by decide +kernel
theorem dX12_price_22 : decode cX12_price 22 = .ok (.ldc2_w 103, 3) := by decide +kernel
theorem dX12_price_25 : decode cX12_price 25 = .ok (.invokestatic 70, 3) := by decide +kernel
theorem dX12_price_28 : decode cX12_price 28 = .ok (.ifCond .ne 6, 3) := by decide +kernel
theorem dX12_price_31 : decode cX12_price 31 = .ok (.bipush (-2), 2) := by decide +kernel
theorem dX12_price_33 : decode cX12_price 33 = .ok (.ireturn, 1) := by decide +kernel
theorem dX12_price_34 : decode cX12_price 34 = .ok (.sipush 1106, 3) := by decide +kernel
theorem dX12_price_37 : decode cX12_price 37 = .ok (.bipush 60, 2) := by decide +kernel
theorem dX12_price_39 : decode cX12_price 39 = .ok (.iload_n 1, 1) := by decide +kernel
theorem dX12_price_40 : decode cX12_price 40 = .ok (.imul, 1) := by decide +kernel
theorem dX12_price_41 : decode cX12_price 41 = .ok (.iadd, 1) := by decide +kernel
theorem dX12_price_42 : decode cX12_price 42 = .ok (.iload_n 2, 1) := by decide +kernel
theorem dX12_price_43 : decode cX12_price 43 = .ok (.iadd, 1) := by decide +kernel
theorem dX12_price_44 : decode cX12_price 44 = .ok (.istore 4, 2) := by decide +kernel
theorem dX12_price_46 : decode cX12_price 46 = .ok (.aload_n 0, 1) := by decide +kernel
theorem dX12_price_47 : decode cX12_price 47 = .ok (.getfield 7, 3) := by decide +kernel
theorem dX12_price_50 : decode cX12_price 50 = .ok (.iload 4, 2) := by decide +kernel
theorem dX12_price_52 : decode cX12_price 52 = .ok (.iaload, 1) := by decide +kernel
theorem dX12_price_53 : decode cX12_price 53 = .ok (.istore 5, 2) := by decide +kernel
theorem dX12_price_55 : decode cX12_price 55 = .ok (.aload_n 0, 1) := by decide +kernel
theorem dX12_price_56 : decode cX12_price 56 = .ok (.getfield 7, 3) := by decide +kernel
theorem dX12_price_59 : decode cX12_price 59 = .ok (.iload 4, 2) := by decide +kernel
theorem dX12_price_61 : decode cX12_price 61 = .ok (.iload_n 3, 1) := by decide +kernel
theorem dX12_price_62 : decode cX12_price 62 = .ok (.iastore, 1) := by decide +kernel
theorem dX12_price_63 : decode cX12_price 63 = .ok (.iload 5, 2) := by decide +kernel
theorem dX12_price_65 : decode cX12_price 65 = .ok (.ireturn, 1) := by decide +kernel
theorem dX12_cache_0 : decode cX12_cache 0 = .ok (.iload_n 1, 1) := by decide +kernel
theorem dX12_cache_1 : decode cX12_cache 1 = .ok (.invokestatic 100, 3) := by decide +kernel
theorem dX12_cache_4 : decode cX12_cache 4 = .ok (.ifCond .eq 40, 3) := by decide +kernel
theorem dX12_cache_7 : decode cX12_cache 7 = .ok (.iload_n 2, 1) := by decide +kernel
theorem dX12_cache_8 : decode cX12_cache 8 = .ok (.i2l, 1) := by decide +kernel
theorem dX12_cache_9 : decode cX12_cache 9 = .ok (.lconst 1, 1) := by decide +kernel
theorem dX12_cache_10 : decode cX12_cache 10 = .ok (.ldc2_w 105, 3) := by decide +kernel
theorem dX12_cache_13 : decode cX12_cache 13 = .ok (.invokestatic 70, 3) := by decide +kernel
theorem dX12_cache_16 : decode cX12_cache 16 = .ok (.ifCond .eq 28, 3) := by decide +kernel
theorem dX12_cache_19 : decode cX12_cache 19 = .ok (.iload_n 3, 1) := by decide +kernel
theorem dX12_cache_20 : decode cX12_cache 20 = .ok (.i2l, 1) := by decide +kernel
theorem dX12_cache_21 : decode cX12_cache 21 = .ok (.lconst 1, 1) := by decide +kernel
theorem dX12_cache_22 : decode cX12_cache 22 = .ok (.ldc2_w 107, 3) := by decide +kernel
theorem dX12_cache_25 : decode cX12_cache 25 = .ok (.invokestatic 70, 3) := by decide +kernel
theorem dX12_cache_28 : decode cX12_cache 28 = .ok (.ifCond .eq 16, 3) := by decide +kernel
theorem dX12_cache_31 : decode cX12_cache 31 = .ok (.iload 4, 2) := by decide +kernel
theorem dX12_cache_33 : decode cX12_cache 33 = .ok (.i2l, 1) := by decide +kernel
theorem dX12_cache_34 : decode cX12_cache 34 = .ok (.lconst 0, 1) := by decide +kernel
theorem dX12_cache_35 : decode cX12_cache 35 = .ok (.ldc2_w 109, 3) := by decide +kernel
theorem dX12_cache_38 : decode cX12_cache 38 = .ok (.invokestatic 70, 3) := by decide +kernel
theorem dX12_cache_41 : decode cX12_cache 41 = .ok (.ifCond .ne 6, 3) := by decide +kernel
theorem dX12_cache_44 : decode cX12_cache 44 = .ok (.bipush (-2), 2) := by decide +kernel
theorem dX12_cache_46 : decode cX12_cache 46 = .ok (.ireturn, 1) := by decide +kernel
theorem dX12_cache_47 : decode cX12_cache 47 = .ok (.sipush 1106, 3) := by decide +kernel
theorem dX12_cache_50 : decode cX12_cache 50 = .ok (.bipush 60, 2) := by decide +kernel
theorem dX12_cache_52 : decode cX12_cache 52 = .ok (.iload_n 1, 1) := by decide +kernel
theorem dX12_cache_53 : decode cX12_cache 53 = .ok (.imul, 1) := by decide +kernel
theorem dX12_cache_54 : decode cX12_cache 54 = .ok (.iadd, 1) := by decide +kernel
theorem dX12_cache_55 : decode cX12_cache 55 = .ok (.istore 5, 2) := by decide +kernel
theorem dX12_cache_57 : decode cX12_cache 57 = .ok (.aload_n 0, 1) := by decide +kernel
theorem dX12_cache_58 : decode cX12_cache 58 = .ok (.getfield 7, 3) := by decide +kernel
theorem dX12_cache_61 : decode cX12_cache 61 = .ok (.iload 5, 2) := by decide +kernel
theorem dX12_cache_63 : decode cX12_cache 63 = .ok (.bipush 8, 2) := by decide +kernel
theorem dX12_cache_65 : decode cX12_cache 65 = .ok (.iadd, 1) := by decide +kernel
theorem dX12_cache_66 : decode cX12_cache 66 = .ok (.iaload, 1) := by decide +kernel
theorem dX12_cache_67 : decode cX12_cache 67 = .ok (.iload_n 2, 1) := by decide +kernel
theorem dX12_cache_68 : decode cX12_cache 68 = .ok (.if_icmp .ne 17, 3) := by decide +kernel
theorem dX12_cache_71 : decode cX12_cache 71 = .ok (.aload_n 0, 1) := by decide +kernel
theorem dX12_cache_72 : decode cX12_cache 72 = .ok (.getfield 7, 3) := by decide +kernel
theorem dX12_cache_75 : decode cX12_cache 75 = .ok (.iload 5, 2) := by decide +kernel
theorem dX12_cache_77 : decode cX12_cache 77 = .ok (.bipush 9, 2) := by decide +kernel
theorem dX12_cache_79 : decode cX12_cache 79 = .ok (.iadd, 1) := by decide +kernel
theorem dX12_cache_80 : decode cX12_cache 80 = .ok (.iaload, 1) := by decide +kernel
theorem dX12_cache_81 : decode cX12_cache 81 = .ok (.iload_n 3, 1) := by decide +kernel
theorem dX12_cache_82 : decode cX12_cache 82 = .ok (.if_icmp .eq 33, 3) := by decide +kernel
theorem dX12_cache_85 : decode cX12_cache 85 = .ok (.iconst 0, 1) := by decide +kernel
theorem dX12_cache_86 : decode cX12_cache 86 = .ok (.istore 6, 2) := by decide +kernel
theorem dX12_cache_88 : decode cX12_cache 88 = .ok (.iload 6, 2) := by decide +kernel
theorem dX12_cache_90 : decode cX12_cache 90 = .ok (.bipush 16, 2) := by decide +kernel
theorem dX12_cache_92 : decode cX12_cache 92 = .ok (.if_icmp .ge 23, 3) := by decide +kernel
theorem dX12_cache_95 : decode cX12_cache 95 = .ok (.aload_n 0, 1) := by decide +kernel
theorem dX12_cache_96 : decode cX12_cache 96 = .ok (.getfield 7, 3) := by decide +kernel
theorem dX12_cache_99 : decode cX12_cache 99 = .ok (.iload 5, 2) := by decide +kernel
theorem dX12_cache_101 : decode cX12_cache 101 = .ok (.bipush 20, 2) := by decide +kernel
theorem dX12_cache_103 : decode cX12_cache 103 = .ok (.iadd, 1) := by decide +kernel
theorem dX12_cache_104 : decode cX12_cache 104 = .ok (.iload 6, 2) := by decide +kernel
theorem dX12_cache_106 : decode cX12_cache 106 = .ok (.iadd, 1) := by decide +kernel
theorem dX12_cache_107 : decode cX12_cache 107 = .ok (.iconst (-1), 1) := by decide +kernel
theorem dX12_cache_108 : decode cX12_cache 108 = .ok (.iastore, 1) := by decide +kernel
theorem dX12_cache_109 : decode cX12_cache 109 = .ok (.iinc 6 1, 3) := by decide +kernel
theorem dX12_cache_112 : decode cX12_cache 112 = .ok (.goto (-24), 3) := by decide +kernel
theorem dX12_cache_115 : decode cX12_cache 115 = .ok (.aload_n 0, 1) := by decide +kernel
theorem dX12_cache_116 : decode cX12_cache 116 = .ok (.getfield 7, 3) := by decide +kernel
theorem dX12_cache_119 : decode cX12_cache 119 = .ok (.iload 5, 2) := by decide +kernel
theorem dX12_cache_121 : decode cX12_cache 121 = .ok (.bipush 8, 2) := by decide +kernel
theorem dX12_cache_123 : decode cX12_cache 123 = .ok (.iadd, 1) := by decide +kernel
theorem dX12_cache_124 : decode cX12_cache 124 = .ok (.iload_n 2, 1) := by decide +kernel
theorem dX12_cache_125 : decode cX12_cache 125 = .ok (.iastore, 1) := by decide +kernel
theorem dX12_cache_126 : decode cX12_cache 126 = .ok (.aload_n 0, 1) := by decide +kernel
theorem dX12_cache_127 : decode cX12_cache 127 = .ok (.getfield 7, 3) := by decide +kernel
theorem dX12_cache_130 : decode cX12_cache 130 = .ok (.iload 5, 2) := by decide +kernel
theorem dX12_cache_132 : decode cX12_cache 132 = .ok (.bipush 9, 2) := by decide +kernel
theorem dX12_cache_134 : decode cX12_cache 134 = .ok (.iadd, 1) := by decide +kernel
theorem dX12_cache_135 : decode cX12_cache 135 = .ok (.iload_n 3, 1) := by decide +kernel
theorem dX12_cache_136 : decode cX12_cache 136 = .ok (.iastore, 1) := by decide +kernel
theorem dX12_cache_137 : decode cX12_cache 137 = .ok (.aload_n 0, 1) := by decide +kernel
theorem dX12_cache_138 : decode cX12_cache 138 = .ok (.getfield 7, 3) := by decide +kernel
theorem dX12_cache_141 : decode cX12_cache 141 = .ok (.iload 5, 2) := by decide +kernel
theorem dX12_cache_143 : decode cX12_cache 143 = .ok (.bipush 10, 2) := by decide +kernel
theorem dX12_cache_145 : decode cX12_cache 145 = .ok (.iadd, 1) := by decide +kernel
theorem dX12_cache_146 : decode cX12_cache 146 = .ok (.iload 4, 2) := by decide +kernel
theorem dX12_cache_148 : decode cX12_cache 148 = .ok (.iastore, 1) := by decide +kernel
theorem dX12_cache_149 : decode cX12_cache 149 = .ok (.iconst 1, 1) := by decide +kernel
theorem dX12_cache_150 : decode cX12_cache 150 = .ok (.ireturn, 1) := by decide +kernel
theorem dX12_guess_0 : decode cX12_guess 0 = .ok (.iload_n 1, 1) := by decide +kernel
theorem dX12_guess_1 : decode cX12_guess 1 = .ok (.invokestatic 100, 3) := by decide +kernel
theorem dX12_guess_4 : decode cX12_guess 4 = .ok (.ifCond .eq 27, 3) := by decide +kernel
theorem dX12_guess_7 : decode cX12_guess 7 = .ok (.iload_n 2, 1) := by decide +kernel
theorem dX12_guess_8 : decode cX12_guess 8 = .ok (.i2l, 1) := by decide +kernel
theorem dX12_guess_9 : decode cX12_guess 9 = .ok (.lconst 1, 1) := by decide +kernel
theorem dX12_guess_10 : decode cX12_guess 10 = .ok (.ldc2_w 105, 3) := by decide +kernel
theorem dX12_guess_13 : decode cX12_guess 13 = .ok (.invokestatic 70, 3) := by decide +kernel
theorem dX12_guess_16 : decode cX12_guess 16 = .ok (.ifCond .eq 15, 3) := by decide +kernel
theorem dX12_guess_19 : decode cX12_guess 19 = .ok (.iload_n 3, 1) := by decide +kernel
theorem dX12_guess_20 : decode cX12_guess 20 = .ok (.i2l, 1) := by decide +kernel
theorem dX12_guess_21 : decode cX12_guess 21 = .ok (.lconst 0, 1) := by decide +kernel
theorem dX12_guess_22 : decode cX12_guess 22 = .ok (.ldc2_w 111, 3) := by decide +kernel
theorem dX12_guess_25 : decode cX12_guess 25 = .ok (.invokestatic 70, 3) := by decide +kernel
theorem dX12_guess_28 : decode cX12_guess 28 = .ok (.ifCond .ne 6, 3) := by decide +kernel
theorem dX12_guess_31 : decode cX12_guess 31 = .ok (.bipush (-2), 2) := by decide +kernel
theorem dX12_guess_33 : decode cX12_guess 33 = .ok (.ireturn, 1) := by decide +kernel
theorem dX12_guess_34 : decode cX12_guess 34 = .ok (.sipush 1106, 3) := by decide +kernel
theorem dX12_guess_37 : decode cX12_guess 37 = .ok (.bipush 60, 2) := by decide +kernel
theorem dX12_guess_39 : decode cX12_guess 39 = .ok (.iload_n 1, 1) := by decide +kernel
theorem dX12_guess_40 : decode cX12_guess 40 = .ok (.imul, 1) := by decide +kernel
theorem dX12_guess_41 : decode cX12_guess 41 = .ok (.iadd, 1) := by decide +kernel
theorem dX12_guess_42 : decode cX12_guess 42 = .ok (.istore 4, 2) := by decide +kernel
theorem dX12_guess_44 : decode cX12_guess 44 = .ok (.aload_n 0, 1) := by decide +kernel
theorem dX12_guess_45 : decode cX12_guess 45 = .ok (.getfield 7, 3) := by decide +kernel
theorem dX12_guess_48 : decode cX12_guess 48 = .ok (.iload 4, 2) := by decide +kernel
theorem dX12_guess_50 : decode cX12_guess 50 = .ok (.bipush 11, 2) := by decide +kernel
theorem dX12_guess_52 : decode cX12_guess 52 = .ok (.iadd, 1) := by decide +kernel
theorem dX12_guess_53 : decode cX12_guess 53 = .ok (.iaload, 1) := by decide +kernel
theorem dX12_guess_54 : decode cX12_guess 54 = .ok (.iload_n 2, 1) := by decide +kernel
theorem dX12_guess_55 : decode cX12_guess 55 = .ok (.if_icmp .eq 33, 3) := by decide +kernel
theorem dX12_guess_58 : decode cX12_guess 58 = .ok (.iconst 0, 1) := by decide +kernel
theorem dX12_guess_59 : decode cX12_guess 59 = .ok (.istore 5, 2) := by decide +kernel
theorem dX12_guess_61 : decode cX12_guess 61 = .ok (.iload 5, 2) := by decide +kernel
theorem dX12_guess_63 : decode cX12_guess 63 = .ok (.bipush 16, 2) := by decide +kernel
theorem dX12_guess_65 : decode cX12_guess 65 = .ok (.if_icmp .ge 23, 3) := by decide +kernel
theorem dX12_guess_68 : decode cX12_guess 68 = .ok (.aload_n 0, 1) := by decide +kernel
theorem dX12_guess_69 : decode cX12_guess 69 = .ok (.getfield 7, 3) := by decide +kernel
theorem dX12_guess_72 : decode cX12_guess 72 = .ok (.iload 4, 2) := by decide +kernel
theorem dX12_guess_74 : decode cX12_guess 74 = .ok (.bipush 36, 2) := by decide +kernel
theorem dX12_guess_76 : decode cX12_guess 76 = .ok (.iadd, 1) := by decide +kernel
theorem dX12_guess_77 : decode cX12_guess 77 = .ok (.iload 5, 2) := by decide +kernel
theorem dX12_guess_79 : decode cX12_guess 79 = .ok (.iadd, 1) := by decide +kernel
theorem dX12_guess_80 : decode cX12_guess 80 = .ok (.iconst 0, 1) := by decide +kernel
theorem dX12_guess_81 : decode cX12_guess 81 = .ok (.iastore, 1) := by decide +kernel
theorem dX12_guess_82 : decode cX12_guess 82 = .ok (.iinc 5 1, 3) := by decide +kernel
theorem dX12_guess_85 : decode cX12_guess 85 = .ok (.goto (-24), 3) := by decide +kernel
theorem dX12_guess_88 : decode cX12_guess 88 = .ok (.aload_n 0, 1) := by decide +kernel
theorem dX12_guess_89 : decode cX12_guess 89 = .ok (.getfield 7, 3) := by decide +kernel
theorem dX12_guess_92 : decode cX12_guess 92 = .ok (.iload 4, 2) := by decide +kernel
theorem dX12_guess_94 : decode cX12_guess 94 = .ok (.bipush 11, 2) := by decide +kernel
theorem dX12_guess_96 : decode cX12_guess 96 = .ok (.iadd, 1) := by decide +kernel
theorem dX12_guess_97 : decode cX12_guess 97 = .ok (.iload_n 2, 1) := by decide +kernel
theorem dX12_guess_98 : decode cX12_guess 98 = .ok (.iastore, 1) := by decide +kernel
theorem dX12_guess_99 : decode cX12_guess 99 = .ok (.aload_n 0, 1) := by decide +kernel
theorem dX12_guess_100 : decode cX12_guess 100 = .ok (.getfield 7, 3) := by decide +kernel
theorem dX12_guess_103 : decode cX12_guess 103 = .ok (.iload 4, 2) := by decide +kernel
theorem dX12_guess_105 : decode cX12_guess 105 = .ok (.bipush 12, 2) := by decide +kernel
theorem dX12_guess_107 : decode cX12_guess 107 = .ok (.iadd, 1) := by decide +kernel
theorem dX12_guess_108 : decode cX12_guess 108 = .ok (.iload_n 3, 1) := by decide +kernel
theorem dX12_guess_109 : decode cX12_guess 109 = .ok (.iastore, 1) := by decide +kernel
theorem dX12_guess_110 : decode cX12_guess 110 = .ok (.iconst 1, 1) := by decide +kernel
theorem dX12_guess_111 : decode cX12_guess 111 = .ok (.ireturn, 1) := by decide +kernel
theorem dX12_noise_0 : decode cX12_noise 0 = .ok (.iload_n 1, 1) := by decide +kernel
theorem dX12_noise_1 : decode cX12_noise 1 = .ok (.invokestatic 100, 3) := by decide +kernel
theorem dX12_noise_4 : decode cX12_noise 4 = .ok (.ifCond .eq 40, 3) := by decide +kernel
theorem dX12_noise_7 : decode cX12_noise 7 = .ok (.iload_n 2, 1) := by decide +kernel
theorem dX12_noise_8 : decode cX12_noise 8 = .ok (.i2l, 1) := by decide +kernel
theorem dX12_noise_9 : decode cX12_noise 9 = .ok (.lconst 0, 1) := by decide +kernel
theorem dX12_noise_10 : decode cX12_noise 10 = .ok (.ldc2_w 113, 3) := by decide +kernel
theorem dX12_noise_13 : decode cX12_noise 13 = .ok (.invokestatic 70, 3) := by decide +kernel
theorem dX12_noise_16 : decode cX12_noise 16 = .ok (.ifCond .eq 28, 3) := by decide +kernel
theorem dX12_noise_19 : decode cX12_noise 19 = .ok (.iload_n 3, 1) := by decide +kernel
theorem dX12_noise_20 : decode cX12_noise 20 = .ok (.i2l, 1) := by decide +kernel
theorem dX12_noise_21 : decode cX12_noise 21 = .ok (.lconst 0, 1) := by decide +kernel
theorem dX12_noise_22 : decode cX12_noise 22 = .ok (.ldc2_w 80, 3) := by decide +kernel
theorem dX12_noise_25 : decode cX12_noise 25 = .ok (.invokestatic 70, 3) := by decide +kernel
theorem dX12_noise_28 : decode cX12_noise 28 = .ok (.ifCond .eq 16, 3) := by decide +kernel
theorem dX12_noise_31 : decode cX12_noise 31 = .ok (.iload 4, 2) := by decide +kernel
theorem dX12_noise_33 : decode cX12_noise 33 = .ok (.i2l, 1) := by decide +kernel
theorem dX12_noise_34 : decode cX12_noise 34 = .ok (.lconst 0, 1) := by decide +kernel
theorem dX12_noise_35 : decode cX12_noise 35 = .ok (.ldc2_w 111, 3) := by decide +kernel
theorem dX12_noise_38 : decode cX12_noise 38 = .ok (.invokestatic 70, 3) := by decide +kernel
theorem dX12_noise_41 : decode cX12_noise 41 = .ok (.ifCond .ne 6, 3) := by decide +kernel
theorem dX12_noise_44 : decode cX12_noise 44 = .ok (.bipush (-2), 2) := by decide +kernel
theorem dX12_noise_46 : decode cX12_noise 46 = .ok (.ireturn, 1) := by decide +kernel
theorem dX12_noise_47 : decode cX12_noise 47 = .ok (.sipush 1106, 3) := by decide +kernel
theorem dX12_noise_50 : decode cX12_noise 50 = .ok (.bipush 60, 2) := by decide +kernel
theorem dX12_noise_52 : decode cX12_noise 52 = .ok (.iload_n 1, 1) := by decide +kernel
theorem dX12_noise_53 : decode cX12_noise 53 = .ok (.imul, 1) := by decide +kernel
theorem dX12_noise_54 : decode cX12_noise 54 = .ok (.iadd, 1) := by decide +kernel
theorem dX12_noise_55 : decode cX12_noise 55 = .ok (.istore 6, 2) := by decide +kernel
theorem dX12_noise_57 : decode cX12_noise 57 = .ok (.aload_n 0, 1) := by decide +kernel
theorem dX12_noise_58 : decode cX12_noise 58 = .ok (.getfield 7, 3) := by decide +kernel
theorem dX12_noise_61 : decode cX12_noise 61 = .ok (.iload 6, 2) := by decide +kernel
theorem dX12_noise_63 : decode cX12_noise 63 = .ok (.bipush 13, 2) := by decide +kernel
theorem dX12_noise_65 : decode cX12_noise 65 = .ok (.iadd, 1) := by decide +kernel
theorem dX12_noise_66 : decode cX12_noise 66 = .ok (.iload_n 2, 1) := by decide +kernel
theorem dX12_noise_67 : decode cX12_noise 67 = .ok (.iastore, 1) := by decide +kernel
theorem dX12_noise_68 : decode cX12_noise 68 = .ok (.aload_n 0, 1) := by decide +kernel
theorem dX12_noise_69 : decode cX12_noise 69 = .ok (.getfield 7, 3) := by decide +kernel
theorem dX12_noise_72 : decode cX12_noise 72 = .ok (.iload 6, 2) := by decide +kernel
theorem dX12_noise_74 : decode cX12_noise 74 = .ok (.bipush 14, 2) := by decide +kernel
theorem dX12_noise_76 : decode cX12_noise 76 = .ok (.iadd, 1) := by decide +kernel
theorem dX12_noise_77 : decode cX12_noise 77 = .ok (.iload_n 3, 1) := by decide +kernel
theorem dX12_noise_78 : decode cX12_noise 78 = .ok (.iastore, 1) := by decide +kernel
theorem dX12_noise_79 : decode cX12_noise 79 = .ok (.aload_n 0, 1) := by decide +kernel
theorem dX12_noise_80 : decode cX12_noise 80 = .ok (.getfield 7, 3) := by decide +kernel
theorem dX12_noise_83 : decode cX12_noise 83 = .ok (.iload 6, 2) := by decide +kernel
theorem dX12_noise_85 : decode cX12_noise 85 = .ok (.bipush 15, 2) := by decide +kernel
theorem dX12_noise_87 : decode cX12_noise 87 = .ok (.iadd, 1) := by decide +kernel
theorem dX12_noise_88 : decode cX12_noise 88 = .ok (.iload 4, 2) := by decide +kernel
theorem dX12_noise_90 : decode cX12_noise 90 = .ok (.iastore, 1) := by decide +kernel
theorem dX12_noise_91 : decode cX12_noise 91 = .ok (.aload_n 0, 1) := by decide +kernel
theorem dX12_noise_92 : decode cX12_noise 92 = .ok (.getfield 7, 3) := by decide +kernel
theorem dX12_noise_95 : decode cX12_noise 95 = .ok (.iload 6, 2) := by decide +kernel
theorem dX12_noise_97 : decode cX12_noise 97 = .ok (.bipush 16, 2) := by decide +kernel
theorem dX12_noise_99 : decode cX12_noise 99 = .ok (.iadd, 1) := by decide +kernel
theorem dX12_noise_100 : decode cX12_noise 100 = .ok (.iload 5, 2) := by decide +kernel
theorem dX12_noise_102 : decode cX12_noise 102 = .ok (.ifCond .eq 7, 3) := by decide +kernel
theorem dX12_noise_105 : decode cX12_noise 105 = .ok (.iconst 1, 1) := by decide +kernel
theorem dX12_noise_106 : decode cX12_noise 106 = .ok (.goto 4, 3) := by decide +kernel
theorem dX12_noise_109 : decode cX12_noise 109 = .ok (.iconst 0, 1) := by decide +kernel
theorem dX12_noise_110 : decode cX12_noise 110 = .ok (.iastore, 1) := by decide +kernel
theorem dX12_noise_111 : decode cX12_noise 111 = .ok (.iconst 1, 1) := by decide +kernel
theorem dX12_noise_112 : decode cX12_noise 112 = .ok (.ireturn, 1) := by decide +kernel
theorem dX12_assemble_0 : decode cX12_assemble 0 = .ok (.aload_n 0, 1) := by decide +kernel
theorem dX12_assemble_1 : decode cX12_assemble 1 = .ok (.aload_n 0, 1) := by decide +kernel
theorem dX12_assemble_2 : decode cX12_assemble 2 = .ok (.getfield 7, 3) := by decide +kernel
theorem dX12_assemble_5 : decode cX12_assemble 5 = .ok (.sipush 960, 3) := by decide +kernel
theorem dX12_assemble_8 : decode cX12_assemble 8 = .ok (.iload_n 1, 1) := by decide +kernel
theorem dX12_assemble_9 : decode cX12_assemble 9 = .ok (.iadd, 1) := by decide +kernel
theorem dX12_assemble_10 : decode cX12_assemble 10 = .ok (.iaload, 1) := by decide +kernel
theorem dX12_assemble_11 : decode cX12_assemble 11 = .ok (.putfield 115, 3) := by decide +kernel
theorem dX12_assemble_14 : decode cX12_assemble 14 = .ok (.iconst 0, 1) := by decide +kernel
theorem dX12_assemble_15 : decode cX12_assemble 15 = .ok (.istore_n 3, 1) := by decide +kernel
theorem dX12_assemble_16 : decode cX12_assemble 16 = .ok (.iload_n 3, 1) := by decide +kernel
theorem dX12_assemble_17 : decode cX12_assemble 17 = .ok (.iconst 4, 1) := by decide +kernel
theorem dX12_assemble_18 : decode cX12_assemble 18 = .ok (.aload_n 0, 1) := by decide +kernel
theorem dX12_assemble_19 : decode cX12_assemble 19 = .ok (.getfield 115, 3) := by decide +kernel
theorem dX12_assemble_22 : decode cX12_assemble 22 = .ok (.imul, 1) := by decide +kernel
theorem dX12_assemble_23 : decode cX12_assemble 23 = .ok (.if_icmp .ge 29, 3) := by decide +kernel
theorem dX12_assemble_26 : decode cX12_assemble 26 = .ok (.aload_n 0, 1) := by decide +kernel
theorem dX12_assemble_27 : decode cX12_assemble 27 = .ok (.getfield 20, 3) := by decide +kernel
theorem dX12_assemble_30 : decode cX12_assemble 30 = .ok (.iload_n 3, 1) := by decide +kernel
theorem dX12_assemble_31 : decode cX12_assemble 31 = .ok (.aload_n 0, 1) := by decide +kernel
theorem dX12_assemble_32 : decode cX12_assemble 32 = .ok (.getfield 7, 3) := by decide +kernel
theorem dX12_assemble_35 : decode cX12_assemble 35 = .ok (.iconst 0, 1) := by decide +kernel
theorem dX12_assemble_36 : decode cX12_assemble 36 = .ok (.sipush 160, 3) := by decide +kernel
theorem dX12_assemble_39 : decode cX12_assemble 39 = .ok (.iload_n 1, 1) := by decide +kernel
theorem dX12_assemble_40 : decode cX12_assemble 40 = .ok (.imul, 1) := by decide +kernel
theorem dX12_assemble_41 : decode cX12_assemble 41 = .ok (.iadd, 1) := by decide +kernel
theorem dX12_assemble_42 : decode cX12_assemble 42 = .ok (.iload_n 3, 1) := by decide +kernel
theorem dX12_assemble_43 : decode cX12_assemble 43 = .ok (.iadd, 1) := by decide +kernel
theorem dX12_assemble_44 : decode cX12_assemble 44 = .ok (.iaload, 1) := by decide +kernel
theorem dX12_assemble_45 : decode cX12_assemble 45 = .ok (.iastore, 1) := by decide +kernel
theorem dX12_assemble_46 : decode cX12_assemble 46 = .ok (.iinc 3 1, 3) := by decide +kernel
theorem dX12_assemble_49 : decode cX12_assemble 49 = .ok (.goto (-33), 3) := by decide +kernel
theorem dX12_assemble_52 : decode cX12_assemble 52 = .ok (.iconst 0, 1) := by decide +kernel
theorem dX12_assemble_53 : decode cX12_assemble 53 = .ok (.istore_n 3, 1) := by decide +kernel
theorem dX12_assemble_54 : decode cX12_assemble 54 = .ok (.iload_n 3, 1) := by decide +kernel
theorem dX12_assemble_55 : decode cX12_assemble 55 = .ok (.aload_n 0, 1) := by decide +kernel
theorem dX12_assemble_56 : decode cX12_assemble 56 = .ok (.iconst 1, 1) := by decide +kernel
theorem dX12_assemble_57 : decode cX12_assemble 57 = .ok (.invokevirtual 66, 3) := by decide +kernel
theorem dX12_assemble_60 : decode cX12_assemble 60 = .ok (.if_icmp .ge 80, 3) := by decide +kernel
theorem dX12_assemble_63 : decode cX12_assemble 63 = .ok (.iload_n 2, 1) := by decide +kernel
theorem dX12_assemble_64 : decode cX12_assemble 64 = .ok (.iload_n 3, 1) := by decide +kernel
theorem dX12_assemble_65 : decode cX12_assemble 65 = .ok (.ishr, 1) := by decide +kernel
theorem dX12_assemble_66 : decode cX12_assemble 66 = .ok (.iconst 1, 1) := by decide +kernel
theorem dX12_assemble_67 : decode cX12_assemble 67 = .ok (.iand, 1) := by decide +kernel
theorem dX12_assemble_68 : decode cX12_assemble 68 = .ok (.iconst 1, 1) := by decide +kernel
theorem dX12_assemble_69 : decode cX12_assemble 69 = .ok (.if_icmp .ne 65, 3) := by decide +kernel
theorem dX12_assemble_72 : decode cX12_assemble 72 = .ok (.iconst 4, 1) := by decide +kernel
theorem dX12_assemble_73 : decode cX12_assemble 73 = .ok (.aload_n 0, 1) := by decide +kernel
theorem dX12_assemble_74 : decode cX12_assemble 74 = .ok (.getfield 7, 3) := by decide +kernel
theorem dX12_assemble_77 : decode cX12_assemble 77 = .ok (.sipush 966, 3) := by decide +kernel
theorem dX12_assemble_80 : decode cX12_assemble 80 = .ok (.bipush 6, 2) := by decide +kernel
theorem dX12_assemble_82 : decode cX12_assemble 82 = .ok (.iload_n 3, 1) := by decide +kernel
theorem dX12_assemble_83 : decode cX12_assemble 83 = .ok (.imul, 1) := by decide +kernel
theorem dX12_assemble_84 : decode cX12_assemble 84 = .ok (.iadd, 1) := by decide +kernel
theorem dX12_assemble_85 : decode cX12_assemble 85 = .ok (.iconst 1, 1) := by decide +kernel
theorem dX12_assemble_86 : decode cX12_assemble 86 = .ok (.iadd, 1) := by decide +kernel
theorem dX12_assemble_87 : decode cX12_assemble 87 = .ok (.iaload, 1) := by decide +kernel
theorem dX12_assemble_88 : decode cX12_assemble 88 = .ok (.imul, 1) := by decide +kernel
theorem dX12_assemble_89 : decode cX12_assemble 89 = .ok (.istore 4, 2) := by decide +kernel
theorem dX12_assemble_91 : decode cX12_assemble 91 = .ok (.iconst 0, 1) := by decide +kernel
theorem dX12_assemble_92 : decode cX12_assemble 92 = .ok (.istore 5, 2) := by decide +kernel
theorem dX12_assemble_94 : decode cX12_assemble 94 = .ok (.iload 5, 2) := by decide +kernel
theorem dX12_assemble_96 : decode cX12_assemble 96 = .ok (.iconst 4, 1) := by decide +kernel
theorem dX12_assemble_97 : decode cX12_assemble 97 = .ok (.if_icmp .ge 37, 3) := by decide +kernel
theorem dX12_assemble_100 : decode cX12_assemble 100 = .ok (.aload_n 0, 1) := by decide +kernel
theorem dX12_assemble_101 : decode cX12_assemble 101 = .ok (.getfield 20, 3) := by decide +kernel
theorem dX12_assemble_104 : decode cX12_assemble 104 = .ok (.iload 4, 2) := by decide +kernel
theorem dX12_assemble_106 : decode cX12_assemble 106 = .ok (.iload 5, 2) := by decide +kernel
theorem dX12_assemble_108 : decode cX12_assemble 108 = .ok (.iadd, 1) := by decide +kernel
theorem dX12_assemble_109 : decode cX12_assemble 109 = .ok (.aload_n 0, 1) := by decide +kernel
theorem dX12_assemble_110 : decode cX12_assemble 110 = .ok (.getfield 7, 3) := by decide +kernel
theorem dX12_assemble_113 : decode cX12_assemble 113 = .ok (.sipush 966, 3) := by decide +kernel
theorem dX12_assemble_116 : decode cX12_assemble 116 = .ok (.bipush 6, 2) := by decide +kernel
theorem dX12_assemble_118 : decode cX12_assemble 118 = .ok (.iload_n 3, 1) := by decide +kernel
theorem dX12_assemble_119 : decode cX12_assemble 119 = .ok (.imul, 1) := by decide +kernel
theorem dX12_assemble_120 : decode cX12_assemble 120 = .ok (.iadd, 1) := by decide +kernel
theorem dX12_assemble_121 : decode cX12_assemble 121 = .ok (.iconst 2, 1) := by decide +kernel
theorem dX12_assemble_122 : decode cX12_assemble 122 = .ok (.iadd, 1) := by decide +kernel
theorem dX12_assemble_123 : decode cX12_assemble 123 = .ok (.iload 5, 2) := by decide +kernel
theorem dX12_assemble_125 : decode cX12_assemble 125 = .ok (.iadd, 1) := by decide +kernel
theorem dX12_assemble_126 : decode cX12_assemble 126 = .ok (.iaload, 1) := by decide +kernel
theorem dX12_assemble_127 : decode cX12_assemble 127 = .ok (.iastore, 1) := by decide +kernel
theorem dX12_assemble_128 : decode cX12_assemble 128 = .ok (.iinc 5 1, 3) := by decide +kernel
theorem dX12_assemble_131 : decode cX12_assemble 131 = .ok (.goto (-37), 3) := by decide +kernel
theorem dX12_assemble_134 : decode cX12_assemble 134 = .ok (.iinc 3 1, 3) := by decide +kernel
theorem dX12_assemble_137 : decode cX12_assemble 137 = .ok (.goto (-83), 3) := by decide +kernel
theorem dX12_assemble_140 : decode cX12_assemble 140 = .ok (.return_, 1) := by decide +kernel
theorem dX12_empty_0 : decode cX12_empty 0 = .ok (.iconst 0, 1) := by decide +kernel
theorem dX12_empty_1 : decode cX12_empty 1 = .ok (.istore_n 1, 1) := by decide +kernel
theorem dX12_empty_2 : decode cX12_empty 2 = .ok (.iload_n 1, 1) := by decide +kernel
theorem dX12_empty_3 : decode cX12_empty 3 = .ok (.bipush 16, 2) := by decide +kernel
theorem dX12_empty_5 : decode cX12_empty 5 = .ok (.if_icmp .ge 23, 3) := by decide +kernel
theorem dX12_empty_8 : decode cX12_empty 8 = .ok (.aload_n 0, 1) := by decide +kernel
theorem dX12_empty_9 : decode cX12_empty 9 = .ok (.getfield 29, 3) := by decide +kernel
theorem dX12_empty_12 : decode cX12_empty 12 = .ok (.iload_n 1, 1) := by decide +kernel
theorem dX12_empty_13 : decode cX12_empty 13 = .ok (.iconst (-1), 1) := by decide +kernel
theorem dX12_empty_14 : decode cX12_empty 14 = .ok (.iastore, 1) := by decide +kernel
theorem dX12_empty_15 : decode cX12_empty 15 = .ok (.aload_n 0, 1) := by decide +kernel
theorem dX12_empty_16 : decode cX12_empty 16 = .ok (.getfield 32, 3) := by decide +kernel
theorem dX12_empty_19 : decode cX12_empty 19 = .ok (.iload_n 1, 1) := by decide +kernel
theorem dX12_empty_20 : decode cX12_empty 20 = .ok (.iconst 0, 1) := by decide +kernel
theorem dX12_empty_21 : decode cX12_empty 21 = .ok (.iastore, 1) := by decide +kernel
theorem dX12_empty_22 : decode cX12_empty 22 = .ok (.iinc 1 1, 3) := by decide +kernel
theorem dX12_empty_25 : decode cX12_empty 25 = .ok (.goto (-23), 3) := by decide +kernel
theorem dX12_empty_28 : decode cX12_empty 28 = .ok (.return_, 1) := by decide +kernel
theorem dX12_fetch_0 : decode cX12_fetch 0 = .ok (.sipush 1106, 3) := by decide +kernel
theorem dX12_fetch_3 : decode cX12_fetch 3 = .ok (.bipush 60, 2) := by decide +kernel
theorem dX12_fetch_5 : decode cX12_fetch 5 = .ok (.iload_n 1, 1) := by decide +kernel
theorem dX12_fetch_6 : decode cX12_fetch 6 = .ok (.imul, 1) := by decide +kernel
theorem dX12_fetch_7 : decode cX12_fetch 7 = .ok (.iadd, 1) := by decide +kernel
theorem dX12_fetch_8 : decode cX12_fetch 8 = .ok (.istore_n 3, 1) := by decide +kernel
theorem dX12_fetch_9 : decode cX12_fetch 9 = .ok (.iconst 0, 1) := by decide +kernel
theorem dX12_fetch_10 : decode cX12_fetch 10 = .ok (.istore 4, 2) := by decide +kernel
theorem dX12_fetch_12 : decode cX12_fetch 12 = .ok (.iload 4, 2) := by decide +kernel
theorem dX12_fetch_14 : decode cX12_fetch 14 = .ok (.bipush 16, 2) := by decide +kernel
theorem dX12_fetch_16 : decode cX12_fetch 16 = .ok (.if_icmp .ge 92, 3) := by decide +kernel
theorem dX12_fetch_19 : decode cX12_fetch 19 = .ok (.iload_n 2, 1) := by decide +kernel
theorem dX12_fetch_20 : decode cX12_fetch 20 = .ok (.ifCond .eq 44, 3) := by decide +kernel
theorem dX12_fetch_23 : decode cX12_fetch 23 = .ok (.aload_n 0, 1) := by decide +kernel
theorem dX12_fetch_24 : decode cX12_fetch 24 = .ok (.getfield 7, 3) := by decide +kernel
theorem dX12_fetch_27 : decode cX12_fetch 27 = .ok (.iload_n 3, 1) := by decide +kernel
theorem dX12_fetch_28 : decode cX12_fetch 28 = .ok (.bipush 20, 2) := by decide +kernel
theorem dX12_fetch_30 : decode cX12_fetch 30 = .ok (.iadd, 1) := by decide +kernel
theorem dX12_fetch_31 : decode cX12_fetch 31 = .ok (.iload 4, 2) := by decide +kernel
theorem dX12_fetch_33 : decode cX12_fetch 33 = .ok (.iadd, 1) := by decide +kernel
theorem dX12_fetch_34 : decode cX12_fetch 34 = .ok (.aload_n 0, 1) := by decide +kernel
theorem dX12_fetch_35 : decode cX12_fetch 35 = .ok (.getfield 29, 3) := by decide +kernel
theorem dX12_fetch_38 : decode cX12_fetch 38 = .ok (.iload 4, 2) := by decide +kernel
theorem dX12_fetch_40 : decode cX12_fetch 40 = .ok (.iaload, 1) := by decide +kernel
theorem dX12_fetch_41 : decode cX12_fetch 41 = .ok (.iastore, 1) := by decide +kernel
theorem dX12_fetch_42 : decode cX12_fetch 42 = .ok (.aload_n 0, 1) := by decide +kernel
theorem dX12_fetch_43 : decode cX12_fetch 43 = .ok (.getfield 7, 3) := by decide +kernel
theorem dX12_fetch_46 : decode cX12_fetch 46 = .ok (.iload_n 3, 1) := by decide +kernel
theorem dX12_fetch_47 : decode cX12_fetch 47 = .ok (.bipush 36, 2) := by decide +kernel
theorem dX12_fetch_49 : decode cX12_fetch 49 = .ok (.iadd, 1) := by decide +kernel
theorem dX12_fetch_50 : decode cX12_fetch 50 = .ok (.iload 4, 2) := by decide +kernel
theorem dX12_fetch_52 : decode cX12_fetch 52 = .ok (.iadd, 1) := by decide +kernel
theorem dX12_fetch_53 : decode cX12_fetch 53 = .ok (.aload_n 0, 1) := by decide +kernel
theorem dX12_fetch_54 : decode cX12_fetch 54 = .ok (.getfield 32, 3) := by decide +kernel
theorem dX12_fetch_57 : decode cX12_fetch 57 = .ok (.iload 4, 2) := by decide +kernel
theorem dX12_fetch_59 : decode cX12_fetch 59 = .ok (.iaload, 1) := by decide +kernel
theorem dX12_fetch_60 : decode cX12_fetch 60 = .ok (.iastore, 1) := by decide +kernel
theorem dX12_fetch_61 : decode cX12_fetch 61 = .ok (.goto 41, 3) := by decide +kernel
theorem dX12_fetch_64 : decode cX12_fetch 64 = .ok (.aload_n 0, 1) := by decide +kernel
theorem dX12_fetch_65 : decode cX12_fetch 65 = .ok (.getfield 29, 3) := by decide +kernel
theorem dX12_fetch_68 : decode cX12_fetch 68 = .ok (.iload 4, 2) := by decide +kernel
theorem dX12_fetch_70 : decode cX12_fetch 70 = .ok (.aload_n 0, 1) := by decide +kernel
theorem dX12_fetch_71 : decode cX12_fetch 71 = .ok (.getfield 7, 3) := by decide +kernel
theorem dX12_fetch_74 : decode cX12_fetch 74 = .ok (.iload_n 3, 1) := by decide +kernel
theorem dX12_fetch_75 : decode cX12_fetch 75 = .ok (.bipush 20, 2) := by decide +kernel
theorem dX12_fetch_77 : decode cX12_fetch 77 = .ok (.iadd, 1) := by decide +kernel
theorem dX12_fetch_78 : decode cX12_fetch 78 = .ok (.iload 4, 2) := by decide +kernel
theorem dX12_fetch_80 : decode cX12_fetch 80 = .ok (.iadd, 1) := by decide +kernel
theorem dX12_fetch_81 : decode cX12_fetch 81 = .ok (.iaload, 1) := by decide +kernel
theorem dX12_fetch_82 : decode cX12_fetch 82 = .ok (.iastore, 1) := by decide +kernel
theorem dX12_fetch_83 : decode cX12_fetch 83 = .ok (.aload_n 0, 1) := by decide +kernel
theorem dX12_fetch_84 : decode cX12_fetch 84 = .ok (.getfield 32, 3) := by decide +kernel
theorem dX12_fetch_87 : decode cX12_fetch 87 = .ok (.iload 4, 2) := by decide +kernel
theorem dX12_fetch_89 : decode cX12_fetch 89 = .ok (.aload_n 0, 1) := by decide +kernel
theorem dX12_fetch_90 : decode cX12_fetch 90 = .ok (.getfield 7, 3) := by decide +kernel
theorem dX12_fetch_93 : decode cX12_fetch 93 = .ok (.iload_n 3, 1) := by decide +kernel
theorem dX12_fetch_94 : decode cX12_fetch 94 = .ok (.bipush 36, 2) := by decide +kernel
theorem dX12_fetch_96 : decode cX12_fetch 96 = .ok (.iadd, 1) := by decide +kernel
theorem dX12_fetch_97 : decode cX12_fetch 97 = .ok (.iload 4, 2) := by decide +kernel
theorem dX12_fetch_99 : decode cX12_fetch 99 = .ok (.iadd, 1) := by decide +kernel
theorem dX12_fetch_100 : decode cX12_fetch 100 = .ok (.iaload, 1) := by decide +kernel
theorem dX12_fetch_101 : decode cX12_fetch 101 = .ok (.iastore, 1) := by decide +kernel
theorem dX12_fetch_102 : decode cX12_fetch 102 = .ok (.iinc 4 1, 3) := by decide +kernel
theorem dX12_fetch_105 : decode cX12_fetch 105 = .ok (.goto (-93), 3) := by decide +kernel
theorem dX12_fetch_108 : decode cX12_fetch 108 = .ok (.return_, 1) := by decide +kernel
theorem dX12_touch_0 : decode cX12_touch 0 = .ok (.sipush 1106, 3) := by decide +kernel
theorem dX12_touch_3 : decode cX12_touch 3 = .ok (.bipush 60, 2) := by decide +kernel
theorem dX12_touch_5 : decode cX12_touch 5 = .ok (.iload_n 1, 1) := by decide +kernel
theorem dX12_touch_6 : decode cX12_touch 6 = .ok (.imul, 1) := by decide +kernel
theorem dX12_touch_7 : decode cX12_touch 7 = .ok (.iadd, 1) := by decide +kernel
theorem dX12_touch_8 : decode cX12_touch 8 = .ok (.istore 4, 2) := by decide +kernel
theorem dX12_touch_10 : decode cX12_touch 10 = .ok (.iload_n 2, 1) := by decide +kernel
theorem dX12_touch_11 : decode cX12_touch 11 = .ok (.iload_n 3, 1) := by decide +kernel
theorem dX12_touch_12 : decode cX12_touch 12 = .ok (.iadd, 1) := by decide +kernel
theorem dX12_touch_13 : decode cX12_touch 13 = .ok (.aload_n 0, 1) := by decide +kernel
theorem dX12_touch_14 : decode cX12_touch 14 = .ok (.getfield 7, 3) := by decide +kernel
theorem dX12_touch_17 : decode cX12_touch 17 = .ok (.iload 4, 2) := by decide +kernel
theorem dX12_touch_19 : decode cX12_touch 19 = .ok (.bipush 9, 2) := by decide +kernel
theorem dX12_touch_21 : decode cX12_touch 21 = .ok (.iadd, 1) := by decide +kernel
theorem dX12_touch_22 : decode cX12_touch 22 = .ok (.iaload, 1) := by decide +kernel
theorem dX12_touch_23 : decode cX12_touch 23 = .ok (.idiv, 1) := by decide +kernel
theorem dX12_touch_24 : decode cX12_touch 24 = .ok (.istore 5, 2) := by decide +kernel
theorem dX12_touch_26 : decode cX12_touch 26 = .ok (.iload 5, 2) := by decide +kernel
theorem dX12_touch_28 : decode cX12_touch 28 = .ok (.aload_n 0, 1) := by decide +kernel
theorem dX12_touch_29 : decode cX12_touch 29 = .ok (.getfield 7, 3) := by decide +kernel
theorem dX12_touch_32 : decode cX12_touch 32 = .ok (.iload 4, 2) := by decide +kernel
theorem dX12_touch_34 : decode cX12_touch 34 = .ok (.bipush 8, 2) := by decide +kernel
theorem dX12_touch_36 : decode cX12_touch 36 = .ok (.iadd, 1) := by decide +kernel
theorem dX12_touch_37 : decode cX12_touch 37 = .ok (.iaload, 1) := by decide +kernel
theorem dX12_touch_38 : decode cX12_touch 38 = .ok (.irem, 1) := by decide +kernel
theorem dX12_touch_39 : decode cX12_touch 39 = .ok (.istore 6, 2) := by decide +kernel
theorem dX12_touch_41 : decode cX12_touch 41 = .ok (.aload_n 0, 1) := by decide +kernel
theorem dX12_touch_42 : decode cX12_touch 42 = .ok (.getfield 35, 3) := by decide +kernel
theorem dX12_touch_45 : decode cX12_touch 45 = .ok (.iconst 1, 1) := by decide +kernel
theorem dX12_touch_46 : decode cX12_touch 46 = .ok (.dup2, 1) := by decide +kernel
theorem dX12_touch_47 : decode cX12_touch 47 = .ok (.iaload, 1) := by decide +kernel
theorem dX12_touch_48 : decode cX12_touch 48 = .ok (.iconst 1, 1) := by decide +kernel
theorem dX12_touch_49 : decode cX12_touch 49 = .ok (.iadd, 1) := by decide +kernel
theorem dX12_touch_50 : decode cX12_touch 50 = .ok (.iastore, 1) := by decide +kernel
theorem dX12_touch_51 : decode cX12_touch 51 = .ok (.aload_n 0, 1) := by decide +kernel
theorem dX12_touch_52 : decode cX12_touch 52 = .ok (.getfield 29, 3) := by decide +kernel
theorem dX12_touch_55 : decode cX12_touch 55 = .ok (.iload 6, 2) := by decide +kernel
theorem dX12_touch_57 : decode cX12_touch 57 = .ok (.iaload, 1) := by decide +kernel
theorem dX12_touch_58 : decode cX12_touch 58 = .ok (.iload 5, 2) := by decide +kernel
theorem dX12_touch_60 : decode cX12_touch 60 = .ok (.if_icmp .eq 22, 3) := by decide +kernel
theorem dX12_touch_63 : decode cX12_touch 63 = .ok (.aload_n 0, 1) := by decide +kernel
theorem dX12_touch_64 : decode cX12_touch 64 = .ok (.getfield 29, 3) := by decide +kernel
theorem dX12_touch_67 : decode cX12_touch 67 = .ok (.iload 6, 2) := by decide +kernel
theorem dX12_touch_69 : decode cX12_touch 69 = .ok (.iload 5, 2) := by decide +kernel
theorem dX12_touch_71 : decode cX12_touch 71 = .ok (.iastore, 1) := by decide +kernel
theorem dX12_touch_72 : decode cX12_touch 72 = .ok (.aload_n 0, 1) := by decide +kernel
theorem dX12_touch_73 : decode cX12_touch 73 = .ok (.getfield 35, 3) := by decide +kernel
theorem dX12_touch_76 : decode cX12_touch 76 = .ok (.iconst 2, 1) := by decide +kernel
theorem dX12_touch_77 : decode cX12_touch 77 = .ok (.dup2, 1) := by decide +kernel
theorem dX12_touch_78 : decode cX12_touch 78 = .ok (.iaload, 1) := by decide +kernel
theorem dX12_touch_79 : decode cX12_touch 79 = .ok (.iconst 1, 1) := by decide +kernel
theorem dX12_touch_80 : decode cX12_touch 80 = .ok (.iadd, 1) := by decide +kernel
theorem dX12_touch_81 : decode cX12_touch 81 = .ok (.iastore, 1) := by decide +kernel
theorem dX12_touch_82 : decode cX12_touch 82 = .ok (.return_, 1) := by decide +kernel
theorem dX12_goes_0 : decode cX12_goes 0 = .ok (.sipush 1106, 3) := by decide +kernel
theorem dX12_goes_3 : decode cX12_goes 3 = .ok (.bipush 60, 2) := by decide +kernel
theorem dX12_goes_5 : decode cX12_goes 5 = .ok (.iload_n 1, 1) := by decide +kernel
theorem dX12_goes_6 : decode cX12_goes 6 = .ok (.imul, 1) := by decide +kernel
theorem dX12_goes_7 : decode cX12_goes 7 = .ok (.iadd, 1) := by decide +kernel
theorem dX12_goes_8 : decode cX12_goes 8 = .ok (.istore 4, 2) := by decide +kernel
theorem dX12_goes_10 : decode cX12_goes 10 = .ok (.iconst 0, 1) := by decide +kernel
theorem dX12_goes_11 : decode cX12_goes 11 = .ok (.istore 5, 2) := by decide +kernel
theorem dX12_goes_13 : decode cX12_goes 13 = .ok (.iload 5, 2) := by decide +kernel
theorem dX12_goes_15 : decode cX12_goes 15 = .ok (.bipush 6, 2) := by decide +kernel
theorem dX12_goes_17 : decode cX12_goes 17 = .ok (.if_icmp .ge 17, 3) := by decide +kernel
theorem dX12_goes_20 : decode cX12_goes 20 = .ok (.aload_n 0, 1) := by decide +kernel
theorem dX12_goes_21 : decode cX12_goes 21 = .ok (.getfield 35, 3) := by decide +kernel
theorem dX12_goes_24 : decode cX12_goes 24 = .ok (.iload 5, 2) := by decide +kernel
theorem dX12_goes_26 : decode cX12_goes 26 = .ok (.iconst 0, 1) := by decide +kernel
theorem dX12_goes_27 : decode cX12_goes 27 = .ok (.iastore, 1) := by decide +kernel
theorem dX12_goes_28 : decode cX12_goes 28 = .ok (.iinc 5 1, 3) := by decide +kernel
theorem dX12_goes_31 : decode cX12_goes 31 = .ok (.goto (-18), 3) := by decide +kernel
theorem dX12_goes_34 : decode cX12_goes 34 = .ok (.iconst 0, 1) := by decide +kernel
theorem dX12_goes_35 : decode cX12_goes 35 = .ok (.istore 5, 2) := by decide +kernel
theorem dX12_goes_37 : decode cX12_goes 37 = .ok (.iload 5, 2) := by decide +kernel
theorem dX12_goes_39 : decode cX12_goes 39 = .ok (.bipush 64, 2) := by decide +kernel
theorem dX12_goes_41 : decode cX12_goes 41 = .ok (.if_icmp .ge 17, 3) := by decide +kernel
theorem dX12_goes_44 : decode cX12_goes 44 = .ok (.aload_n 0, 1) := by decide +kernel
theorem dX12_goes_45 : decode cX12_goes 45 = .ok (.getfield 26, 3) := by decide +kernel
theorem dX12_goes_48 : decode cX12_goes 48 = .ok (.iload 5, 2) := by decide +kernel
theorem dX12_goes_50 : decode cX12_goes 50 = .ok (.iconst 0, 1) := by decide +kernel
theorem dX12_goes_51 : decode cX12_goes 51 = .ok (.iastore, 1) := by decide +kernel
theorem dX12_goes_52 : decode cX12_goes 52 = .ok (.iinc 5 1, 3) := by decide +kernel
theorem dX12_goes_55 : decode cX12_goes 55 = .ok (.goto (-18), 3) := by decide +kernel
theorem dX12_goes_58 : decode cX12_goes 58 = .ok (.iconst 0, 1) := by decide +kernel
theorem dX12_goes_59 : decode cX12_goes 59 = .ok (.istore 5, 2) := by decide +kernel
theorem dX12_goes_61 : decode cX12_goes 61 = .ok (.iload 5, 2) := by decide +kernel
theorem dX12_goes_63 : decode cX12_goes 63 = .ok (.bipush 8, 2) := by decide +kernel
theorem dX12_goes_65 : decode cX12_goes 65 = .ok (.if_icmp .ge 43, 3) := by decide +kernel
theorem dX12_goes_68 : decode cX12_goes 68 = .ok (.aload_n 0, 1) := by decide +kernel
theorem dX12_goes_69 : decode cX12_goes 69 = .ok (.getfield 23, 3) := by decide +kernel
theorem dX12_goes_72 : decode cX12_goes 72 = .ok (.iload 5, 2) := by decide +kernel
theorem dX12_goes_74 : decode cX12_goes 74 = .ok (.iload 5, 2) := by decide +kernel
theorem dX12_goes_76 : decode cX12_goes 76 = .ok (.iconst 4, 1) := by decide +kernel
theorem dX12_goes_77 : decode cX12_goes 77 = .ok (.if_icmp .ge 7, 3) := by decide +kernel
theorem dX12_goes_80 : decode cX12_goes 80 = .ok (.iconst 0, 1) := by decide +kernel
theorem dX12_goes_81 : decode cX12_goes 81 = .ok (.goto 20, 3) := by decide +kernel
theorem dX12_goes_84 : decode cX12_goes 84 = .ok (.aload_n 0, 1) := by decide +kernel
theorem dX12_goes_85 : decode cX12_goes 85 = .ok (.getfield 7, 3) := by decide +kernel
theorem dX12_goes_88 : decode cX12_goes 88 = .ok (.sipush 1074, 3) := by decide +kernel
theorem dX12_goes_91 : decode cX12_goes 91 = .ok (.iconst 4, 1) := by decide +kernel
theorem dX12_goes_92 : decode cX12_goes 92 = .ok (.iload_n 2, 1) := by decide +kernel
theorem dX12_goes_93 : decode cX12_goes 93 = .ok (.imul, 1) := by decide +kernel
theorem dX12_goes_94 : decode cX12_goes 94 = .ok (.iadd, 1) := by decide +kernel
theorem dX12_goes_95 : decode cX12_goes 95 = .ok (.iload 5, 2) := by decide +kernel
theorem dX12_goes_97 : decode cX12_goes 97 = .ok (.iadd, 1) := by decide +kernel
theorem dX12_goes_98 : decode cX12_goes 98 = .ok (.iconst 4, 1) := by decide +kernel
theorem dX12_goes_99 : decode cX12_goes 99 = .ok (.isub, 1) := by decide +kernel
theorem dX12_goes_100 : decode cX12_goes 100 = .ok (.iaload, 1) := by decide +kernel
theorem dX12_goes_101 : decode cX12_goes 101 = .ok (.iastore, 1) := by decide +kernel
theorem dX12_goes_102 : decode cX12_goes 102 = .ok (.iinc 5 1, 3) := by decide +kernel
theorem dX12_goes_105 : decode cX12_goes 105 = .ok (.goto (-44), 3) := by decide +kernel
theorem dX12_goes_108 : decode cX12_goes 108 = .ok (.iconst 0, 1) := by decide +kernel
theorem dX12_goes_109 : decode cX12_goes 109 = .ok (.istore 5, 2) := by decide +kernel
theorem dX12_goes_111 : decode cX12_goes 111 = .ok (.iconst 0, 1) := by decide +kernel
theorem dX12_goes_112 : decode cX12_goes 112 = .ok (.istore 6, 2) := by decide +kernel
theorem dX12_goes_114 : decode cX12_goes 114 = .ok (.aload_n 0, 1) := by decide +kernel
theorem dX12_goes_115 : decode cX12_goes 115 = .ok (.iconst 0, 1) := by decide +kernel
theorem dX12_goes_116 : decode cX12_goes 116 = .ok (.putfield 119, 3) := by decide +kernel
theorem dX12_goes_119 : decode cX12_goes 119 = .ok (.iload 5, 2) := by decide +kernel
theorem dX12_goes_121 : decode cX12_goes 121 = .ok (.aload_n 0, 1) := by decide +kernel
theorem dX12_goes_122 : decode cX12_goes 122 = .ok (.getfield 115, 3) := by decide +kernel
theorem dX12_goes_125 : decode cX12_goes 125 = .ok (.if_icmp .ge 75, 3) := by decide +kernel
theorem dX12_goes_128 : decode cX12_goes 128 = .ok (.aload_n 0, 1) := by decide +kernel
theorem dX12_goes_129 : decode cX12_goes 129 = .ok (.getfield 119, 3) := by decide +kernel
theorem dX12_goes_132 : decode cX12_goes 132 = .ok (.ifCond .ne 68, 3) := by decide +kernel
theorem dX12_goes_135 : decode cX12_goes 135 = .ok (.aload_n 0, 1) := by decide +kernel
theorem dX12_goes_136 : decode cX12_goes 136 = .ok (.getfield 35, 3) := by decide +kernel
theorem dX12_goes_139 : decode cX12_goes 139 = .ok (.iconst 0, 1) := by decide +kernel
theorem dX12_goes_140 : decode cX12_goes 140 = .ok (.iaload, 1) := by decide +kernel
theorem dX12_goes_141 : decode cX12_goes 141 = .ok (.sipush 2000, 3) := by decide +kernel
theorem dX12_goes_144 : decode cX12_goes 144 = .ok (.if_icmp .ne 11, 3) := by decide +kernel
theorem dX12_goes_147 : decode cX12_goes 147 = .ok (.aload_n 0, 1) := by decide +kernel
theorem dX12_goes_148 : decode cX12_goes 148 = .ok (.iconst 1, 1) := by decide +kernel
theorem dX12_goes_149 : decode cX12_goes 149 = .ok (.putfield 119, 3) := by decide +kernel
theorem dX12_goes_152 : decode cX12_goes 152 = .ok (.goto (-33), 3) := by decide +kernel
theorem dX12_goes_155 : decode cX12_goes 155 = .ok (.aload_n 0, 1) := by decide +kernel
theorem dX12_goes_156 : decode cX12_goes 156 = .ok (.getfield 35, 3) := by decide +kernel
theorem dX12_goes_159 : decode cX12_goes 159 = .ok (.iconst 0, 1) := by decide +kernel
theorem dX12_goes_160 : decode cX12_goes 160 = .ok (.dup2, 1) := by decide +kernel
theorem dX12_goes_161 : decode cX12_goes 161 = .ok (.iaload, 1) := by decide +kernel
theorem dX12_goes_162 : decode cX12_goes 162 = .ok (.iconst 1, 1) := by decide +kernel
theorem dX12_goes_163 : decode cX12_goes 163 = .ok (.iadd, 1) := by decide +kernel
theorem dX12_goes_164 : decode cX12_goes 164 = .ok (.iastore, 1) := by decide +kernel
theorem dX12_goes_165 : decode cX12_goes 165 = .ok (.iload 6, 2) := by decide +kernel
theorem dX12_goes_167 : decode cX12_goes 167 = .ok (.aload_n 0, 1) := by decide +kernel
theorem dX12_goes_168 : decode cX12_goes 168 = .ok (.getfield 7, 3) := by decide +kernel
theorem dX12_goes_171 : decode cX12_goes 171 = .ok (.iload 4, 2) := by decide +kernel
theorem dX12_goes_173 : decode cX12_goes 173 = .ok (.aload_n 0, 1) := by decide +kernel
theorem dX12_goes_174 : decode cX12_goes 174 = .ok (.getfield 20, 3) := by decide +kernel
theorem dX12_goes_177 : decode cX12_goes 177 = .ok (.iconst 4, 1) := by decide +kernel
theorem dX12_goes_178 : decode cX12_goes 178 = .ok (.iload 5, 2) := by decide +kernel
theorem dX12_goes_180 : decode cX12_goes 180 = .ok (.imul, 1) := by decide +kernel
theorem dX12_goes_181 : decode cX12_goes 181 = .ok (.iaload, 1) := by decide +kernel
theorem dX12_goes_182 : decode cX12_goes 182 = .ok (.iadd, 1) := by decide +kernel
theorem dX12_goes_183 : decode cX12_goes 183 = .ok (.iaload, 1) := by decide +kernel
theorem dX12_goes_184 : decode cX12_goes 184 = .ok (.iadd, 1) := by decide +kernel
theorem dX12_goes_185 : decode cX12_goes 185 = .ok (.istore 6, 2) := by decide +kernel
theorem dX12_goes_187 : decode cX12_goes 187 = .ok (.aload_n 0, 1) := by decide +kernel
theorem dX12_goes_188 : decode cX12_goes 188 = .ok (.iload_n 1, 1) := by decide +kernel
theorem dX12_goes_189 : decode cX12_goes 189 = .ok (.iload 5, 2) := by decide +kernel
theorem dX12_goes_191 : decode cX12_goes 191 = .ok (.iload_n 3, 1) := by decide +kernel
theorem dX12_goes_192 : decode cX12_goes 192 = .ok (.invokevirtual 123, 3) := by decide +kernel
theorem dX12_goes_195 : decode cX12_goes 195 = .ok (.istore 5, 2) := by decide +kernel
theorem dX12_goes_197 : decode cX12_goes 197 = .ok (.goto (-78), 3) := by decide +kernel
theorem dX12_goes_200 : decode cX12_goes 200 = .ok (.aload_n 0, 1) := by decide +kernel
theorem dX12_goes_201 : decode cX12_goes 201 = .ok (.getfield 35, 3) := by decide +kernel
theorem dX12_goes_204 : decode cX12_goes 204 = .ok (.iconst 5, 1) := by decide +kernel
theorem dX12_goes_205 : decode cX12_goes 205 = .ok (.aload_n 0, 1) := by decide +kernel
theorem dX12_goes_206 : decode cX12_goes 206 = .ok (.getfield 119, 3) := by decide +kernel
theorem dX12_goes_209 : decode cX12_goes 209 = .ok (.ifCond .eq 7, 3) := by decide +kernel
theorem dX12_goes_212 : decode cX12_goes 212 = .ok (.iconst (-1), 1) := by decide +kernel
theorem dX12_goes_213 : decode cX12_goes 213 = .ok (.goto 41, 3) := by decide +kernel
theorem dX12_goes_216 : decode cX12_goes 216 = .ok (.iload 6, 2) := by decide +kernel
theorem dX12_goes_218 : decode cX12_goes 218 = .ok (.aload_n 0, 1) := by decide +kernel
theorem dX12_goes_219 : decode cX12_goes 219 = .ok (.getfield 35, 3) := by decide +kernel
theorem dX12_goes_222 : decode cX12_goes 222 = .ok (.iconst 2, 1) := by decide +kernel
theorem dX12_goes_223 : decode cX12_goes 223 = .ok (.iaload, 1) := by decide +kernel
theorem dX12_goes_224 : decode cX12_goes 224 = .ok (.aload_n 0, 1) := by decide +kernel
theorem dX12_goes_225 : decode cX12_goes 225 = .ok (.getfield 7, 3) := by decide +kernel
theorem dX12_goes_228 : decode cX12_goes 228 = .ok (.iload 4, 2) := by decide +kernel
theorem dX12_goes_230 : decode cX12_goes 230 = .ok (.bipush 10, 2) := by decide +kernel
theorem dX12_goes_232 : decode cX12_goes 232 = .ok (.iadd, 1) := by decide +kernel
theorem dX12_goes_233 : decode cX12_goes 233 = .ok (.iaload, 1) := by decide +kernel
theorem dX12_goes_234 : decode cX12_goes 234 = .ok (.imul, 1) := by decide +kernel
theorem dX12_goes_235 : decode cX12_goes 235 = .ok (.iadd, 1) := by decide +kernel
theorem dX12_goes_236 : decode cX12_goes 236 = .ok (.aload_n 0, 1) := by decide +kernel
theorem dX12_goes_237 : decode cX12_goes 237 = .ok (.getfield 35, 3) := by decide +kernel
theorem dX12_goes_240 : decode cX12_goes 240 = .ok (.iconst 4, 1) := by decide +kernel
theorem dX12_goes_241 : decode cX12_goes 241 = .ok (.iaload, 1) := by decide +kernel
theorem dX12_goes_242 : decode cX12_goes 242 = .ok (.aload_n 0, 1) := by decide +kernel
theorem dX12_goes_243 : decode cX12_goes 243 = .ok (.getfield 7, 3) := by decide +kernel
theorem dX12_goes_246 : decode cX12_goes 246 = .ok (.iload 4, 2) := by decide +kernel
theorem dX12_goes_248 : decode cX12_goes 248 = .ok (.bipush 12, 2) := by decide +kernel
theorem dX12_goes_250 : decode cX12_goes 250 = .ok (.iadd, 1) := by decide +kernel
theorem dX12_goes_251 : decode cX12_goes 251 = .ok (.iaload, 1) := by decide +kernel
theorem dX12_goes_252 : decode cX12_goes 252 = .ok (.imul, 1) := by decide +kernel
theorem dX12_goes_253 : decode cX12_goes 253 = .ok (.iadd, 1) := by decide +kernel
theorem dX12_goes_254 : decode cX12_goes 254 = .ok (.iastore, 1) := by decide +kernel
theorem dX12_goes_255 : decode cX12_goes 255 = .ok (.return_, 1) := by decide +kernel
theorem dX12_step_0 : decode cX12_step 0 = .ok (.aload_n 0, 1) := by decide +kernel
theorem dX12_step_1 : decode cX12_step 1 = .ok (.getfield 20, 3) := by decide +kernel
theorem dX12_step_4 : decode cX12_step 4 = .ok (.iconst 4, 1) := by decide +kernel
theorem dX12_step_5 : decode cX12_step 5 = .ok (.iload_n 2, 1) := by decide +kernel
theorem dX12_step_6 : decode cX12_step 6 = .ok (.imul, 1) := by decide +kernel
theorem dX12_step_7 : decode cX12_step 7 = .ok (.iconst 1, 1) := by decide +kernel
theorem dX12_step_8 : decode cX12_step 8 = .ok (.iadd, 1) := by decide +kernel
theorem dX12_step_9 : decode cX12_step 9 = .ok (.iaload, 1) := by decide +kernel
theorem dX12_step_10 : decode cX12_step 10 = .ok (.istore 4, 2) := by decide +kernel
theorem dX12_step_12 : decode cX12_step 12 = .ok (.aload_n 0, 1) := by decide +kernel
theorem dX12_step_13 : decode cX12_step 13 = .ok (.getfield 20, 3) := by decide +kernel
theorem dX12_step_16 : decode cX12_step 16 = .ok (.iconst 4, 1) := by decide +kernel
theorem dX12_step_17 : decode cX12_step 17 = .ok (.iload_n 2, 1) := by decide +kernel
theorem dX12_step_18 : decode cX12_step 18 = .ok (.imul, 1) := by decide +kernel
theorem dX12_step_19 : decode cX12_step 19 = .ok (.iconst 2, 1) := by decide +kernel
theorem dX12_step_20 : decode cX12_step 20 = .ok (.iadd, 1) := by decide +kernel
theorem dX12_step_21 : decode cX12_step 21 = .ok (.iaload, 1) := by decide +kernel
theorem dX12_step_22 : decode cX12_step 22 = .ok (.istore 5, 2) := by decide +kernel
theorem dX12_step_24 : decode cX12_step 24 = .ok (.aload_n 0, 1) := by decide +kernel
theorem dX12_step_25 : decode cX12_step 25 = .ok (.getfield 20, 3) := by decide +kernel
theorem dX12_step_28 : decode cX12_step 28 = .ok (.iconst 4, 1) := by decide +kernel
theorem dX12_step_29 : decode cX12_step 29 = .ok (.iload_n 2, 1) := by decide +kernel
theorem dX12_step_30 : decode cX12_step 30 = .ok (.imul, 1) := by decide +kernel
theorem dX12_step_31 : decode cX12_step 31 = .ok (.iconst 3, 1) := by decide +kernel
theorem dX12_step_32 : decode cX12_step 32 = .ok (.iadd, 1) := by decide +kernel
theorem dX12_step_33 : decode cX12_step 33 = .ok (.iaload, 1) := by decide +kernel
theorem dX12_step_34 : decode cX12_step 34 = .ok (.istore 6, 2) := by decide +kernel
theorem dX12_step_36 : decode cX12_step 36 = .ok (.aload_n 0, 1) := by decide +kernel
theorem dX12_step_37 : decode cX12_step 37 = .ok (.getfield 20, 3) := by decide +kernel
theorem dX12_step_40 : decode cX12_step 40 = .ok (.iconst 4, 1) := by decide +kernel
theorem dX12_step_41 : decode cX12_step 41 = .ok (.iload_n 2, 1) := by decide +kernel
theorem dX12_step_42 : decode cX12_step 42 = .ok (.imul, 1) := by decide +kernel
theorem dX12_step_43 : decode cX12_step 43 = .ok (.iaload, 1) := by decide +kernel
theorem dX12_step_44 : decode cX12_step 44 = .ok (.tableswitch 299 0 6 #[44, 57, 83, 109, 135, 135, 202], 44) := by decide +kernel
theorem dX12_step_88 : decode cX12_step 88 = .ok (.aload_n 0, 1) := by decide +kernel
theorem dX12_step_89 : decode cX12_step 89 = .ok (.getfield 23, 3) := by decide +kernel
theorem dX12_step_92 : decode cX12_step 92 = .ok (.iload 4, 2) := by decide +kernel
theorem dX12_step_94 : decode cX12_step 94 = .ok (.iload 5, 2) := by decide +kernel
theorem dX12_step_96 : decode cX12_step 96 = .ok (.iastore, 1) := by decide +kernel
theorem dX12_step_97 : decode cX12_step 97 = .ok (.iload_n 2, 1) := by decide +kernel
theorem dX12_step_98 : decode cX12_step 98 = .ok (.iconst 1, 1) := by decide +kernel
theorem dX12_step_99 : decode cX12_step 99 = .ok (.iadd, 1) := by decide +kernel
theorem dX12_step_100 : decode cX12_step 100 = .ok (.ireturn, 1) := by decide +kernel
theorem dX12_step_101 : decode cX12_step 101 = .ok (.aload_n 0, 1) := by decide +kernel
theorem dX12_step_102 : decode cX12_step 102 = .ok (.getfield 23, 3) := by decide +kernel
theorem dX12_step_105 : decode cX12_step 105 = .ok (.iload 4, 2) := by decide +kernel
theorem dX12_step_107 : decode cX12_step 107 = .ok (.aload_n 0, 1) := by decide +kernel
theorem dX12_step_108 : decode cX12_step 108 = .ok (.getfield 23, 3) := by decide +kernel
theorem dX12_step_111 : decode cX12_step 111 = .ok (.iload 5, 2) := by decide +kernel
theorem dX12_step_113 : decode cX12_step 113 = .ok (.iaload, 1) := by decide +kernel
theorem dX12_step_114 : decode cX12_step 114 = .ok (.aload_n 0, 1) := by decide +kernel
theorem dX12_step_115 : decode cX12_step 115 = .ok (.getfield 23, 3) := by decide +kernel
theorem dX12_step_118 : decode cX12_step 118 = .ok (.iload 6, 2) := by decide +kernel
theorem dX12_step_120 : decode cX12_step 120 = .ok (.iaload, 1) := by decide +kernel
theorem dX12_step_121 : decode cX12_step 121 = .ok (.iadd, 1) := by decide +kernel
theorem dX12_step_122 : decode cX12_step 122 = .ok (.iastore, 1) := by decide +kernel
theorem dX12_step_123 : decode cX12_step 123 = .ok (.iload_n 2, 1) := by decide +kernel
theorem dX12_step_124 : decode cX12_step 124 = .ok (.iconst 1, 1) := by decide +kernel
theorem dX12_step_125 : decode cX12_step 125 = .ok (.iadd, 1) := by decide +kernel
theorem dX12_step_126 : decode cX12_step 126 = .ok (.ireturn, 1) := by decide +kernel
theorem dX12_step_127 : decode cX12_step 127 = .ok (.aload_n 0, 1) := by decide +kernel
theorem dX12_step_128 : decode cX12_step 128 = .ok (.getfield 23, 3) := by decide +kernel
theorem dX12_step_131 : decode cX12_step 131 = .ok (.iload 4, 2) := by decide +kernel
theorem dX12_step_133 : decode cX12_step 133 = .ok (.aload_n 0, 1) := by decide +kernel
theorem dX12_step_134 : decode cX12_step 134 = .ok (.getfield 23, 3) := by decide +kernel
theorem dX12_step_137 : decode cX12_step 137 = .ok (.iload 5, 2) := by decide +kernel
theorem dX12_step_139 : decode cX12_step 139 = .ok (.iaload, 1) := by decide +kernel
theorem dX12_step_140 : decode cX12_step 140 = .ok (.aload_n 0, 1) := by decide +kernel
theorem dX12_step_141 : decode cX12_step 141 = .ok (.getfield 23, 3) := by decide +kernel
theorem dX12_step_144 : decode cX12_step 144 = .ok (.iload 6, 2) := by decide +kernel
theorem dX12_step_146 : decode cX12_step 146 = .ok (.iaload, 1) := by decide +kernel
theorem dX12_step_147 : decode cX12_step 147 = .ok (.isub, 1) := by decide +kernel
theorem dX12_step_148 : decode cX12_step 148 = .ok (.iastore, 1) := by decide +kernel
theorem dX12_step_149 : decode cX12_step 149 = .ok (.iload_n 2, 1) := by decide +kernel
theorem dX12_step_150 : decode cX12_step 150 = .ok (.iconst 1, 1) := by decide +kernel
theorem dX12_step_151 : decode cX12_step 151 = .ok (.iadd, 1) := by decide +kernel
theorem dX12_step_152 : decode cX12_step 152 = .ok (.ireturn, 1) := by decide +kernel
theorem dX12_step_153 : decode cX12_step 153 = .ok (.aload_n 0, 1) := by decide +kernel
theorem dX12_step_154 : decode cX12_step 154 = .ok (.getfield 23, 3) := by decide +kernel
theorem dX12_step_157 : decode cX12_step 157 = .ok (.iload 4, 2) := by decide +kernel
theorem dX12_step_159 : decode cX12_step 159 = .ok (.aload_n 0, 1) := by decide +kernel
theorem dX12_step_160 : decode cX12_step 160 = .ok (.getfield 23, 3) := by decide +kernel
theorem dX12_step_163 : decode cX12_step 163 = .ok (.iload 5, 2) := by decide +kernel
theorem dX12_step_165 : decode cX12_step 165 = .ok (.iaload, 1) := by decide +kernel
theorem dX12_step_166 : decode cX12_step 166 = .ok (.aload_n 0, 1) := by decide +kernel
theorem dX12_step_167 : decode cX12_step 167 = .ok (.getfield 23, 3) := by decide +kernel
theorem dX12_step_170 : decode cX12_step 170 = .ok (.iload 6, 2) := by decide +kernel
theorem dX12_step_172 : decode cX12_step 172 = .ok (.iaload, 1) := by decide +kernel
theorem dX12_step_173 : decode cX12_step 173 = .ok (.imul, 1) := by decide +kernel
theorem dX12_step_174 : decode cX12_step 174 = .ok (.iastore, 1) := by decide +kernel
theorem dX12_step_175 : decode cX12_step 175 = .ok (.iload_n 2, 1) := by decide +kernel
theorem dX12_step_176 : decode cX12_step 176 = .ok (.iconst 1, 1) := by decide +kernel
theorem dX12_step_177 : decode cX12_step 177 = .ok (.iadd, 1) := by decide +kernel
theorem dX12_step_178 : decode cX12_step 178 = .ok (.ireturn, 1) := by decide +kernel
theorem dX12_step_179 : decode cX12_step 179 = .ok (.aload_n 0, 1) := by decide +kernel
theorem dX12_step_180 : decode cX12_step 180 = .ok (.getfield 23, 3) := by decide +kernel
theorem dX12_step_183 : decode cX12_step 183 = .ok (.iload 5, 2) := by decide +kernel
theorem dX12_step_185 : decode cX12_step 185 = .ok (.iaload, 1) := by decide +kernel
theorem dX12_step_186 : decode cX12_step 186 = .ok (.bipush 63, 2) := by decide +kernel
theorem dX12_step_188 : decode cX12_step 188 = .ok (.iand, 1) := by decide +kernel
theorem dX12_step_189 : decode cX12_step 189 = .ok (.istore 7, 2) := by decide +kernel
theorem dX12_step_191 : decode cX12_step 191 = .ok (.aload_n 0, 1) := by decide +kernel
theorem dX12_step_192 : decode cX12_step 192 = .ok (.iload_n 1, 1) := by decide +kernel
theorem dX12_step_193 : decode cX12_step 193 = .ok (.iload 7, 2) := by decide +kernel
theorem dX12_step_195 : decode cX12_step 195 = .ok (.iload_n 3, 1) := by decide +kernel
theorem dX12_step_196 : decode cX12_step 196 = .ok (.invokevirtual 127, 3) := by decide +kernel
theorem dX12_step_199 : decode cX12_step 199 = .ok (.aload_n 0, 1) := by decide +kernel
theorem dX12_step_200 : decode cX12_step 200 = .ok (.getfield 20, 3) := by decide +kernel
theorem dX12_step_203 : decode cX12_step 203 = .ok (.iconst 4, 1) := by decide +kernel
theorem dX12_step_204 : decode cX12_step 204 = .ok (.iload_n 2, 1) := by decide +kernel
theorem dX12_step_205 : decode cX12_step 205 = .ok (.imul, 1) := by decide +kernel
theorem dX12_step_206 : decode cX12_step 206 = .ok (.iaload, 1) := by decide +kernel
theorem dX12_step_207 : decode cX12_step 207 = .ok (.iconst 4, 1) := by decide +kernel
theorem dX12_step_208 : decode cX12_step 208 = .ok (.if_icmp .ne 20, 3) := by decide +kernel
theorem dX12_step_211 : decode cX12_step 211 = .ok (.aload_n 0, 1) := by decide +kernel
theorem dX12_step_212 : decode cX12_step 212 = .ok (.getfield 23, 3) := by decide +kernel
theorem dX12_step_215 : decode cX12_step 215 = .ok (.iload 4, 2) := by decide +kernel
theorem dX12_step_217 : decode cX12_step 217 = .ok (.aload_n 0, 1) := by decide +kernel
theorem dX12_step_218 : decode cX12_step 218 = .ok (.getfield 26, 3) := by decide +kernel
theorem dX12_step_221 : decode cX12_step 221 = .ok (.iload 7, 2) := by decide +kernel
theorem dX12_step_223 : decode cX12_step 223 = .ok (.iaload, 1) := by decide +kernel
theorem dX12_step_224 : decode cX12_step 224 = .ok (.iastore, 1) := by decide +kernel
theorem dX12_step_225 : decode cX12_step 225 = .ok (.goto 17, 3) := by decide +kernel
theorem dX12_step_228 : decode cX12_step 228 = .ok (.aload_n 0, 1) := by decide +kernel
theorem dX12_step_229 : decode cX12_step 229 = .ok (.getfield 26, 3) := by decide +kernel
theorem dX12_step_232 : decode cX12_step 232 = .ok (.iload 7, 2) := by decide +kernel
theorem dX12_step_234 : decode cX12_step 234 = .ok (.aload_n 0, 1) := by decide +kernel
theorem dX12_step_235 : decode cX12_step 235 = .ok (.getfield 23, 3) := by decide +kernel
theorem dX12_step_238 : decode cX12_step 238 = .ok (.iload 4, 2) := by decide +kernel
theorem dX12_step_240 : decode cX12_step 240 = .ok (.iaload, 1) := by decide +kernel
theorem dX12_step_241 : decode cX12_step 241 = .ok (.iastore, 1) := by decide +kernel
theorem dX12_step_242 : decode cX12_step 242 = .ok (.iload_n 2, 1) := by decide +kernel
theorem dX12_step_243 : decode cX12_step 243 = .ok (.iconst 1, 1) := by decide +kernel
theorem dX12_step_244 : decode cX12_step 244 = .ok (.iadd, 1) := by decide +kernel
theorem dX12_step_245 : decode cX12_step 245 = .ok (.ireturn, 1) := by decide +kernel
theorem dX12_step_246 : decode cX12_step 246 = .ok (.aload_n 0, 1) := by decide +kernel
theorem dX12_step_247 : decode cX12_step 247 = .ok (.getfield 23, 3) := by decide +kernel
theorem dX12_step_250 : decode cX12_step 250 = .ok (.iload 4, 2) := by decide +kernel
theorem dX12_step_252 : decode cX12_step 252 = .ok (.iaload, 1) := by decide +kernel
theorem dX12_step_253 : decode cX12_step 253 = .ok (.ifCond .le 7, 3) := by decide +kernel
theorem dX12_step_256 : decode cX12_step 256 = .ok (.iconst 1, 1) := by decide +kernel
theorem dX12_step_257 : decode cX12_step 257 = .ok (.goto 4, 3) := by decide +kernel
theorem dX12_step_260 : decode cX12_step 260 = .ok (.iconst 0, 1) := by decide +kernel
theorem dX12_step_261 : decode cX12_step 261 = .ok (.istore 8, 2) := by decide +kernel
theorem dX12_step_263 : decode cX12_step 263 = .ok (.iload_n 2, 1) := by decide +kernel
theorem dX12_step_264 : decode cX12_step 264 = .ok (.aload_n 0, 1) := by decide +kernel
theorem dX12_step_265 : decode cX12_step 265 = .ok (.getfield 7, 3) := by decide +kernel
theorem dX12_step_268 : decode cX12_step 268 = .ok (.sipush 1106, 3) := by decide +kernel
theorem dX12_step_271 : decode cX12_step 271 = .ok (.bipush 60, 2) := by decide +kernel
theorem dX12_step_273 : decode cX12_step 273 = .ok (.iload_n 1, 1) := by decide +kernel
theorem dX12_step_274 : decode cX12_step 274 = .ok (.imul, 1) := by decide +kernel
theorem dX12_step_275 : decode cX12_step 275 = .ok (.iadd, 1) := by decide +kernel
theorem dX12_step_276 : decode cX12_step 276 = .ok (.bipush 11, 2) := by decide +kernel
theorem dX12_step_278 : decode cX12_step 278 = .ok (.iadd, 1) := by decide +kernel
theorem dX12_step_279 : decode cX12_step 279 = .ok (.iaload, 1) := by decide +kernel
theorem dX12_step_280 : decode cX12_step 280 = .ok (.irem, 1) := by decide +kernel
theorem dX12_step_281 : decode cX12_step 281 = .ok (.istore 9, 2) := by decide +kernel
theorem dX12_step_283 : decode cX12_step 283 = .ok (.aload_n 0, 1) := by decide +kernel
theorem dX12_step_284 : decode cX12_step 284 = .ok (.getfield 35, 3) := by decide +kernel
theorem dX12_step_287 : decode cX12_step 287 = .ok (.iconst 3, 1) := by decide +kernel
theorem dX12_step_288 : decode cX12_step 288 = .ok (.dup2, 1) := by decide +kernel
theorem dX12_step_289 : decode cX12_step 289 = .ok (.iaload, 1) := by decide +kernel
theorem dX12_step_290 : decode cX12_step 290 = .ok (.iconst 1, 1) := by decide +kernel
theorem dX12_step_291 : decode cX12_step 291 = .ok (.iadd, 1) := by decide +kernel
theorem dX12_step_292 : decode cX12_step 292 = .ok (.iastore, 1) := by decide +kernel
theorem dX12_step_293 : decode cX12_step 293 = .ok (.aload_n 0, 1) := by decide +kernel
theorem dX12_step_294 : decode cX12_step 294 = .ok (.getfield 35, 3) := by decide +kernel
theorem dX12_step_297 : decode cX12_step 297 = .ok (.iconst 4, 1) := by decide +kernel
theorem dX12_step_298 : decode cX12_step 298 = .ok (.dup2, 1) := by decide +kernel
theorem dX12_step_299 : decode cX12_step 299 = .ok (.iaload, 1) := by decide +kernel
theorem dX12_step_300 : decode cX12_step 300 = .ok (.aload_n 0, 1) := by decide +kernel
theorem dX12_step_301 : decode cX12_step 301 = .ok (.getfield 32, 3) := by decide +kernel
theorem dX12_step_304 : decode cX12_step 304 = .ok (.iload 9, 2) := by decide +kernel
theorem dX12_step_306 : decode cX12_step 306 = .ok (.iaload, 1) := by decide +kernel
theorem dX12_step_307 : decode cX12_step 307 = .ok (.iload 8, 2) := by decide +kernel
theorem dX12_step_309 : decode cX12_step 309 = .ok (.if_icmp .ne 7, 3) := by decide +kernel
theorem dX12_step_312 : decode cX12_step 312 = .ok (.iconst 0, 1) := by decide +kernel
theorem dX12_step_313 : decode cX12_step 313 = .ok (.goto 4, 3) := by decide +kernel
theorem dX12_step_316 : decode cX12_step 316 = .ok (.iconst 1, 1) := by decide +kernel
theorem dX12_step_317 : decode cX12_step 317 = .ok (.iadd, 1) := by decide +kernel
theorem dX12_step_318 : decode cX12_step 318 = .ok (.iastore, 1) := by decide +kernel
theorem dX12_step_319 : decode cX12_step 319 = .ok (.aload_n 0, 1) := by decide +kernel
theorem dX12_step_320 : decode cX12_step 320 = .ok (.getfield 32, 3) := by decide +kernel
theorem dX12_step_323 : decode cX12_step 323 = .ok (.iload 9, 2) := by decide +kernel
theorem dX12_step_325 : decode cX12_step 325 = .ok (.iload 8, 2) := by decide +kernel
theorem dX12_step_327 : decode cX12_step 327 = .ok (.iastore, 1) := by decide +kernel
theorem dX12_step_328 : decode cX12_step 328 = .ok (.iload 8, 2) := by decide +kernel
theorem dX12_step_330 : decode cX12_step 330 = .ok (.iconst 1, 1) := by decide +kernel
theorem dX12_step_331 : decode cX12_step 331 = .ok (.if_icmp .ne 8, 3) := by decide +kernel
theorem dX12_step_334 : decode cX12_step 334 = .ok (.iload 5, 2) := by decide +kernel
theorem dX12_step_336 : decode cX12_step 336 = .ok (.goto 6, 3) := by decide +kernel
theorem dX12_step_339 : decode cX12_step 339 = .ok (.iload_n 2, 1) := by decide +kernel
theorem dX12_step_340 : decode cX12_step 340 = .ok (.iconst 1, 1) := by decide +kernel
theorem dX12_step_341 : decode cX12_step 341 = .ok (.iadd, 1) := by decide +kernel
theorem dX12_step_342 : decode cX12_step 342 = .ok (.ireturn, 1) := by decide +kernel
theorem dX12_step_343 : decode cX12_step 343 = .ok (.bipush 40, 2) := by decide +kernel
theorem dX12_step_345 : decode cX12_step 345 = .ok (.ireturn, 1) := by decide +kernel
theorem dX12_bits_0 : decode cX12_bits 0 = .ok (.iload_n 1, 1) := by decide +kernel
theorem dX12_bits_1 : decode cX12_bits 1 = .ok (.bipush 16, 2) := by decide +kernel
theorem dX12_bits_3 : decode cX12_bits 3 = .ok (.iushr, 1) := by decide +kernel
theorem dX12_bits_4 : decode cX12_bits 4 = .ok (.ireturn, 1) := by decide +kernel
theorem dX12_goesBy_0 : decode cX12_goesBy 0 = .ok (.sipush 1106, 3) := by decide +kernel
theorem dX12_goesBy_3 : decode cX12_goesBy 3 = .ok (.bipush 60, 2) := by decide +kernel
theorem dX12_goesBy_5 : decode cX12_goesBy 5 = .ok (.iload_n 2, 1) := by decide +kernel
theorem dX12_goesBy_6 : decode cX12_goesBy 6 = .ok (.imul, 1) := by decide +kernel
theorem dX12_goesBy_7 : decode cX12_goesBy 7 = .ok (.iadd, 1) := by decide +kernel
theorem dX12_goesBy_8 : decode cX12_goesBy 8 = .ok (.istore 6, 2) := by decide +kernel
theorem dX12_goesBy_10 : decode cX12_goesBy 10 = .ok (.iload 4, 2) := by decide +kernel
theorem dX12_goesBy_12 : decode cX12_goesBy 12 = .ok (.ldc 131, 2) := by decide +kernel
theorem dX12_goesBy_14 : decode cX12_goesBy 14 = .ok (.imul, 1) := by decide +kernel
theorem dX12_goesBy_15 : decode cX12_goesBy 15 = .ok (.sipush 12345, 3) := by decide +kernel
theorem dX12_goesBy_18 : decode cX12_goesBy 18 = .ok (.iadd, 1) := by decide +kernel
theorem dX12_goesBy_19 : decode cX12_goesBy 19 = .ok (.istore 7, 2) := by decide +kernel
theorem dX12_goesBy_21 : decode cX12_goesBy 21 = .ok (.iload 7, 2) := by decide +kernel
theorem dX12_goesBy_23 : decode cX12_goesBy 23 = .ok (.ldc 131, 2) := by decide +kernel
theorem dX12_goesBy_25 : decode cX12_goesBy 25 = .ok (.imul, 1) := by decide +kernel
theorem dX12_goesBy_26 : decode cX12_goesBy 26 = .ok (.sipush 12345, 3) := by decide +kernel
theorem dX12_goesBy_29 : decode cX12_goesBy 29 = .ok (.iadd, 1) := by decide +kernel
theorem dX12_goesBy_30 : decode cX12_goesBy 30 = .ok (.istore 8, 2) := by decide +kernel
theorem dX12_goesBy_32 : decode cX12_goesBy 32 = .ok (.aload_n 0, 1) := by decide +kernel
theorem dX12_goesBy_33 : decode cX12_goesBy 33 = .ok (.aload_n 0, 1) := by decide +kernel
theorem dX12_goesBy_34 : decode cX12_goesBy 34 = .ok (.getfield 7, 3) := by decide +kernel
theorem dX12_goesBy_37 : decode cX12_goesBy 37 = .ok (.sipush 1026, 3) := by decide +kernel
theorem dX12_goesBy_40 : decode cX12_goesBy 40 = .ok (.iconst 2, 1) := by decide +kernel
theorem dX12_goesBy_41 : decode cX12_goesBy 41 = .ok (.iload_n 1, 1) := by decide +kernel
theorem dX12_goesBy_42 : decode cX12_goesBy 42 = .ok (.imul, 1) := by decide +kernel
theorem dX12_goesBy_43 : decode cX12_goesBy 43 = .ok (.iadd, 1) := by decide +kernel
theorem dX12_goesBy_44 : decode cX12_goesBy 44 = .ok (.iaload, 1) := by decide +kernel
theorem dX12_goesBy_45 : decode cX12_goesBy 45 = .ok (.aload_n 0, 1) := by decide +kernel
theorem dX12_goesBy_46 : decode cX12_goesBy 46 = .ok (.getfield 7, 3) := by decide +kernel
theorem dX12_goesBy_49 : decode cX12_goesBy 49 = .ok (.sipush 1026, 3) := by decide +kernel
theorem dX12_goesBy_52 : decode cX12_goesBy 52 = .ok (.iconst 2, 1) := by decide +kernel
theorem dX12_goesBy_53 : decode cX12_goesBy 53 = .ok (.iload_n 1, 1) := by decide +kernel
theorem dX12_goesBy_54 : decode cX12_goesBy 54 = .ok (.imul, 1) := by decide +kernel
theorem dX12_goesBy_55 : decode cX12_goesBy 55 = .ok (.iadd, 1) := by decide +kernel
theorem dX12_goesBy_56 : decode cX12_goesBy 56 = .ok (.iconst 1, 1) := by decide +kernel
theorem dX12_goesBy_57 : decode cX12_goesBy 57 = .ok (.iadd, 1) := by decide +kernel
theorem dX12_goesBy_58 : decode cX12_goesBy 58 = .ok (.iaload, 1) := by decide +kernel
theorem dX12_goesBy_59 : decode cX12_goesBy 59 = .ok (.invokevirtual 132, 3) := by decide +kernel
theorem dX12_goesBy_62 : decode cX12_goesBy 62 = .ok (.aload_n 0, 1) := by decide +kernel
theorem dX12_goesBy_63 : decode cX12_goesBy 63 = .ok (.iload_n 2, 1) := by decide +kernel
theorem dX12_goesBy_64 : decode cX12_goesBy 64 = .ok (.iload_n 3, 1) := by decide +kernel
theorem dX12_goesBy_65 : decode cX12_goesBy 65 = .ok (.aload_n 0, 1) := by decide +kernel
theorem dX12_goesBy_66 : decode cX12_goesBy 66 = .ok (.getfield 7, 3) := by decide +kernel
theorem dX12_goesBy_69 : decode cX12_goesBy 69 = .ok (.iload 6, 2) := by decide +kernel
theorem dX12_goesBy_71 : decode cX12_goesBy 71 = .ok (.bipush 16, 2) := by decide +kernel
theorem dX12_goesBy_73 : decode cX12_goesBy 73 = .ok (.iadd, 1) := by decide +kernel
theorem dX12_goesBy_74 : decode cX12_goesBy 74 = .ok (.iaload, 1) := by decide +kernel
theorem dX12_goesBy_75 : decode cX12_goesBy 75 = .ok (.iconst 1, 1) := by decide +kernel
theorem dX12_goesBy_76 : decode cX12_goesBy 76 = .ok (.if_icmp .ne 15, 3) := by decide +kernel
theorem dX12_goesBy_79 : decode cX12_goesBy 79 = .ok (.aload_n 0, 1) := by decide +kernel
theorem dX12_goesBy_80 : decode cX12_goesBy 80 = .ok (.iload 7, 2) := by decide +kernel
theorem dX12_goesBy_82 : decode cX12_goesBy 82 = .ok (.invokevirtual 136, 3) := by decide +kernel
theorem dX12_goesBy_85 : decode cX12_goesBy 85 = .ok (.bipush 64, 2) := by decide +kernel
theorem dX12_goesBy_87 : decode cX12_goesBy 87 = .ok (.irem, 1) := by decide +kernel
theorem dX12_goesBy_88 : decode cX12_goesBy 88 = .ok (.goto 4, 3) := by decide +kernel
theorem dX12_goesBy_91 : decode cX12_goesBy 91 = .ok (.iconst 0, 1) := by decide +kernel
theorem dX12_goesBy_92 : decode cX12_goesBy 92 = .ok (.invokevirtual 139, 3) := by decide +kernel
theorem dX12_goesBy_95 : decode cX12_goesBy 95 = .ok (.aload_n 0, 1) := by decide +kernel
theorem dX12_goesBy_96 : decode cX12_goesBy 96 = .ok (.getfield 119, 3) := by decide +kernel
theorem dX12_goesBy_99 : decode cX12_goesBy 99 = .ok (.ifCond .ne 69, 3) := by decide +kernel
theorem dX12_goesBy_102 : decode cX12_goesBy 102 = .ok (.aload_n 0, 1) := by decide +kernel
theorem dX12_goesBy_103 : decode cX12_goesBy 103 = .ok (.getfield 7, 3) := by decide +kernel
theorem dX12_goesBy_106 : decode cX12_goesBy 106 = .ok (.iload 6, 2) := by decide +kernel
theorem dX12_goesBy_108 : decode cX12_goesBy 108 = .ok (.bipush 15, 2) := by decide +kernel
theorem dX12_goesBy_110 : decode cX12_goesBy 110 = .ok (.iadd, 1) := by decide +kernel
theorem dX12_goesBy_111 : decode cX12_goesBy 111 = .ok (.iaload, 1) := by decide +kernel
theorem dX12_goesBy_112 : decode cX12_goesBy 112 = .ok (.istore 9, 2) := by decide +kernel
theorem dX12_goesBy_114 : decode cX12_goesBy 114 = .ok (.aload_n 0, 1) := by decide +kernel
theorem dX12_goesBy_115 : decode cX12_goesBy 115 = .ok (.getfield 35, 3) := by decide +kernel
theorem dX12_goesBy_118 : decode cX12_goesBy 118 = .ok (.iconst 5, 1) := by decide +kernel
theorem dX12_goesBy_119 : decode cX12_goesBy 119 = .ok (.dup2, 1) := by decide +kernel
theorem dX12_goesBy_120 : decode cX12_goesBy 120 = .ok (.iaload, 1) := by decide +kernel
theorem dX12_goesBy_121 : decode cX12_goesBy 121 = .ok (.aload_n 0, 1) := by decide +kernel
theorem dX12_goesBy_122 : decode cX12_goesBy 122 = .ok (.getfield 7, 3) := by decide +kernel
theorem dX12_goesBy_125 : decode cX12_goesBy 125 = .ok (.iload 6, 2) := by decide +kernel
theorem dX12_goesBy_127 : decode cX12_goesBy 127 = .ok (.bipush 13, 2) := by decide +kernel
theorem dX12_goesBy_129 : decode cX12_goesBy 129 = .ok (.iadd, 1) := by decide +kernel
theorem dX12_goesBy_130 : decode cX12_goesBy 130 = .ok (.iaload, 1) := by decide +kernel
theorem dX12_goesBy_131 : decode cX12_goesBy 131 = .ok (.iload 5, 2) := by decide +kernel
theorem dX12_goesBy_133 : decode cX12_goesBy 133 = .ok (.imul, 1) := by decide +kernel
theorem dX12_goesBy_134 : decode cX12_goesBy 134 = .ok (.iload 9, 2) := by decide +kernel
theorem dX12_goesBy_136 : decode cX12_goesBy 136 = .ok (.ifCond .le 28, 3) := by decide +kernel
theorem dX12_goesBy_139 : decode cX12_goesBy 139 = .ok (.aload_n 0, 1) := by decide +kernel
theorem dX12_goesBy_140 : decode cX12_goesBy 140 = .ok (.iload 8, 2) := by decide +kernel
theorem dX12_goesBy_142 : decode cX12_goesBy 142 = .ok (.invokevirtual 136, 3) := by decide +kernel
theorem dX12_goesBy_145 : decode cX12_goesBy 145 = .ok (.iload 9, 2) := by decide +kernel
theorem dX12_goesBy_147 : decode cX12_goesBy 147 = .ok (.irem, 1) := by decide +kernel
theorem dX12_goesBy_148 : decode cX12_goesBy 148 = .ok (.ifCond .ne 16, 3) := by decide +kernel
theorem dX12_goesBy_151 : decode cX12_goesBy 151 = .ok (.aload_n 0, 1) := by decide +kernel
theorem dX12_goesBy_152 : decode cX12_goesBy 152 = .ok (.getfield 7, 3) := by decide +kernel
theorem dX12_goesBy_155 : decode cX12_goesBy 155 = .ok (.iload 6, 2) := by decide +kernel
theorem dX12_goesBy_157 : decode cX12_goesBy 157 = .ok (.bipush 14, 2) := by decide +kernel
theorem dX12_goesBy_159 : decode cX12_goesBy 159 = .ok (.iadd, 1) := by decide +kernel
theorem dX12_goesBy_160 : decode cX12_goesBy 160 = .ok (.iaload, 1) := by decide +kernel
theorem dX12_goesBy_161 : decode cX12_goesBy 161 = .ok (.goto 4, 3) := by decide +kernel
theorem dX12_goesBy_164 : decode cX12_goesBy 164 = .ok (.iconst 0, 1) := by decide +kernel
theorem dX12_goesBy_165 : decode cX12_goesBy 165 = .ok (.iadd, 1) := by decide +kernel
theorem dX12_goesBy_166 : decode cX12_goesBy 166 = .ok (.iadd, 1) := by decide +kernel
theorem dX12_goesBy_167 : decode cX12_goesBy 167 = .ok (.iastore, 1) := by decide +kernel
theorem dX12_goesBy_168 : decode cX12_goesBy 168 = .ok (.return_, 1) := by decide +kernel
theorem dX12_keepRun_0 : decode cX12_keepRun 0 = .ok (.iload 6, 2) := by decide +kernel
theorem dX12_keepRun_2 : decode cX12_keepRun 2 = .ok (.ifCond .eq 12, 3) := by decide +kernel
theorem dX12_keepRun_5 : decode cX12_keepRun 5 = .ok (.aload_n 0, 1) := by decide +kernel
theorem dX12_keepRun_6 : decode cX12_keepRun 6 = .ok (.iload_n 2, 1) := by decide +kernel
theorem dX12_keepRun_7 : decode cX12_keepRun 7 = .ok (.iconst 0, 1) := by decide +kernel
theorem dX12_keepRun_8 : decode cX12_keepRun 8 = .ok (.invokevirtual 142, 3) := by decide +kernel
theorem dX12_keepRun_11 : decode cX12_keepRun 11 = .ok (.goto 7, 3) := by decide +kernel
theorem dX12_keepRun_14 : decode cX12_keepRun 14 = .ok (.aload_n 0, 1) := by decide +kernel
theorem dX12_keepRun_15 : decode cX12_keepRun 15 = .ok (.invokevirtual 146, 3) := by decide +kernel
theorem dX12_keepRun_18 : decode cX12_keepRun 18 = .ok (.aload_n 0, 1) := by decide +kernel
theorem dX12_keepRun_19 : decode cX12_keepRun 19 = .ok (.iload_n 1, 1) := by decide +kernel
theorem dX12_keepRun_20 : decode cX12_keepRun 20 = .ok (.iload_n 2, 1) := by decide +kernel
theorem dX12_keepRun_21 : decode cX12_keepRun 21 = .ok (.iload_n 3, 1) := by decide +kernel
theorem dX12_keepRun_22 : decode cX12_keepRun 22 = .ok (.iload 4, 2) := by decide +kernel
theorem dX12_keepRun_24 : decode cX12_keepRun 24 = .ok (.iload 5, 2) := by decide +kernel
theorem dX12_keepRun_26 : decode cX12_keepRun 26 = .ok (.invokevirtual 149, 3) := by decide +kernel
theorem dX12_keepRun_29 : decode cX12_keepRun 29 = .ok (.aload_n 0, 1) := by decide +kernel
theorem dX12_keepRun_30 : decode cX12_keepRun 30 = .ok (.iload_n 2, 1) := by decide +kernel
theorem dX12_keepRun_31 : decode cX12_keepRun 31 = .ok (.iconst 1, 1) := by decide +kernel
theorem dX12_keepRun_32 : decode cX12_keepRun 32 = .ok (.invokevirtual 142, 3) := by decide +kernel
theorem dX12_keepRun_35 : decode cX12_keepRun 35 = .ok (.sipush 1346, 3) := by decide +kernel
theorem dX12_keepRun_38 : decode cX12_keepRun 38 = .ok (.bipush 14, 2) := by decide +kernel
theorem dX12_keepRun_40 : decode cX12_keepRun 40 = .ok (.aload_n 0, 1) := by decide +kernel
theorem dX12_keepRun_41 : decode cX12_keepRun 41 = .ok (.iconst 4, 1) := by decide +kernel
theorem dX12_keepRun_42 : decode cX12_keepRun 42 = .ok (.invokevirtual 66, 3) := by decide +kernel
theorem dX12_keepRun_45 : decode cX12_keepRun 45 = .ok (.imul, 1) := by decide +kernel
theorem dX12_keepRun_46 : decode cX12_keepRun 46 = .ok (.iadd, 1) := by decide +kernel
theorem dX12_keepRun_47 : decode cX12_keepRun 47 = .ok (.istore 7, 2) := by decide +kernel
theorem dX12_keepRun_49 : decode cX12_keepRun 49 = .ok (.iconst 0, 1) := by decide +kernel
theorem dX12_keepRun_50 : decode cX12_keepRun 50 = .ok (.istore 8, 2) := by decide +kernel
theorem dX12_keepRun_52 : decode cX12_keepRun 52 = .ok (.iload 8, 2) := by decide +kernel
theorem dX12_keepRun_54 : decode cX12_keepRun 54 = .ok (.bipush 6, 2) := by decide +kernel
theorem dX12_keepRun_56 : decode cX12_keepRun 56 = .ok (.if_icmp .ge 26, 3) := by decide +kernel
theorem dX12_keepRun_59 : decode cX12_keepRun 59 = .ok (.aload_n 0, 1) := by decide +kernel
theorem dX12_keepRun_60 : decode cX12_keepRun 60 = .ok (.getfield 7, 3) := by decide +kernel
theorem dX12_keepRun_63 : decode cX12_keepRun 63 = .ok (.iload 7, 2) := by decide +kernel
theorem dX12_keepRun_65 : decode cX12_keepRun 65 = .ok (.iload 8, 2) := by decide +kernel
theorem dX12_keepRun_67 : decode cX12_keepRun 67 = .ok (.iadd, 1) := by decide +kernel
theorem dX12_keepRun_68 : decode cX12_keepRun 68 = .ok (.aload_n 0, 1) := by decide +kernel
theorem dX12_keepRun_69 : decode cX12_keepRun 69 = .ok (.getfield 35, 3) := by decide +kernel
theorem dX12_keepRun_72 : decode cX12_keepRun 72 = .ok (.iload 8, 2) := by decide +kernel
theorem dX12_keepRun_74 : decode cX12_keepRun 74 = .ok (.iaload, 1) := by decide +kernel
theorem dX12_keepRun_75 : decode cX12_keepRun 75 = .ok (.iastore, 1) := by decide +kernel
theorem dX12_keepRun_76 : decode cX12_keepRun 76 = .ok (.iinc 8 1, 3) := by decide +kernel
theorem dX12_keepRun_79 : decode cX12_keepRun 79 = .ok (.goto (-27), 3) := by decide +kernel
theorem dX12_keepRun_82 : decode cX12_keepRun 82 = .ok (.aload_n 0, 1) := by decide +kernel
theorem dX12_keepRun_83 : decode cX12_keepRun 83 = .ok (.getfield 7, 3) := by decide +kernel
theorem dX12_keepRun_86 : decode cX12_keepRun 86 = .ok (.iload 7, 2) := by decide +kernel
theorem dX12_keepRun_88 : decode cX12_keepRun 88 = .ok (.bipush 6, 2) := by decide +kernel
theorem dX12_keepRun_90 : decode cX12_keepRun 90 = .ok (.iadd, 1) := by decide +kernel
theorem dX12_keepRun_91 : decode cX12_keepRun 91 = .ok (.aload_n 0, 1) := by decide +kernel
theorem dX12_keepRun_92 : decode cX12_keepRun 92 = .ok (.getfield 119, 3) := by decide +kernel
theorem dX12_keepRun_95 : decode cX12_keepRun 95 = .ok (.ifCond .eq 7, 3) := by decide +kernel
theorem dX12_keepRun_98 : decode cX12_keepRun 98 = .ok (.iconst 1, 1) := by decide +kernel
theorem dX12_keepRun_99 : decode cX12_keepRun 99 = .ok (.goto 4, 3) := by decide +kernel
theorem dX12_keepRun_102 : decode cX12_keepRun 102 = .ok (.iconst 0, 1) := by decide +kernel
theorem dX12_keepRun_103 : decode cX12_keepRun 103 = .ok (.iastore, 1) := by decide +kernel
theorem dX12_keepRun_104 : decode cX12_keepRun 104 = .ok (.aload_n 0, 1) := by decide +kernel
theorem dX12_keepRun_105 : decode cX12_keepRun 105 = .ok (.getfield 7, 3) := by decide +kernel
theorem dX12_keepRun_108 : decode cX12_keepRun 108 = .ok (.iload 7, 2) := by decide +kernel
theorem dX12_keepRun_110 : decode cX12_keepRun 110 = .ok (.bipush 7, 2) := by decide +kernel
theorem dX12_keepRun_112 : decode cX12_keepRun 112 = .ok (.iadd, 1) := by decide +kernel
theorem dX12_keepRun_113 : decode cX12_keepRun 113 = .ok (.iload_n 1, 1) := by decide +kernel
theorem dX12_keepRun_114 : decode cX12_keepRun 114 = .ok (.iastore, 1) := by decide +kernel
theorem dX12_keepRun_115 : decode cX12_keepRun 115 = .ok (.aload_n 0, 1) := by decide +kernel
theorem dX12_keepRun_116 : decode cX12_keepRun 116 = .ok (.getfield 7, 3) := by decide +kernel
theorem dX12_keepRun_119 : decode cX12_keepRun 119 = .ok (.iload 7, 2) := by decide +kernel
theorem dX12_keepRun_121 : decode cX12_keepRun 121 = .ok (.bipush 8, 2) := by decide +kernel
theorem dX12_keepRun_123 : decode cX12_keepRun 123 = .ok (.iadd, 1) := by decide +kernel
theorem dX12_keepRun_124 : decode cX12_keepRun 124 = .ok (.iload_n 2, 1) := by decide +kernel
theorem dX12_keepRun_125 : decode cX12_keepRun 125 = .ok (.iastore, 1) := by decide +kernel
theorem dX12_keepRun_126 : decode cX12_keepRun 126 = .ok (.aload_n 0, 1) := by decide +kernel
theorem dX12_keepRun_127 : decode cX12_keepRun 127 = .ok (.getfield 7, 3) := by decide +kernel
theorem dX12_keepRun_130 : decode cX12_keepRun 130 = .ok (.iload 7, 2) := by decide +kernel
theorem dX12_keepRun_132 : decode cX12_keepRun 132 = .ok (.bipush 9, 2) := by decide +kernel
theorem dX12_keepRun_134 : decode cX12_keepRun 134 = .ok (.iadd, 1) := by decide +kernel
theorem dX12_keepRun_135 : decode cX12_keepRun 135 = .ok (.iload_n 3, 1) := by decide +kernel
theorem dX12_keepRun_136 : decode cX12_keepRun 136 = .ok (.iastore, 1) := by decide +kernel
theorem dX12_keepRun_137 : decode cX12_keepRun 137 = .ok (.aload_n 0, 1) := by decide +kernel
theorem dX12_keepRun_138 : decode cX12_keepRun 138 = .ok (.getfield 7, 3) := by decide +kernel
theorem dX12_keepRun_141 : decode cX12_keepRun 141 = .ok (.iload 7, 2) := by decide +kernel
theorem dX12_keepRun_143 : decode cX12_keepRun 143 = .ok (.bipush 10, 2) := by decide +kernel
theorem dX12_keepRun_145 : decode cX12_keepRun 145 = .ok (.iadd, 1) := by decide +kernel
theorem dX12_keepRun_146 : decode cX12_keepRun 146 = .ok (.iload 4, 2) := by decide +kernel
theorem dX12_keepRun_148 : decode cX12_keepRun 148 = .ok (.iastore, 1) := by decide +kernel
theorem dX12_keepRun_149 : decode cX12_keepRun 149 = .ok (.aload_n 0, 1) := by decide +kernel
theorem dX12_keepRun_150 : decode cX12_keepRun 150 = .ok (.getfield 7, 3) := by decide +kernel
theorem dX12_keepRun_153 : decode cX12_keepRun 153 = .ok (.iload 7, 2) := by decide +kernel
theorem dX12_keepRun_155 : decode cX12_keepRun 155 = .ok (.bipush 11, 2) := by decide +kernel
theorem dX12_keepRun_157 : decode cX12_keepRun 157 = .ok (.iadd, 1) := by decide +kernel
theorem dX12_keepRun_158 : decode cX12_keepRun 158 = .ok (.iload 5, 2) := by decide +kernel
theorem dX12_keepRun_160 : decode cX12_keepRun 160 = .ok (.iastore, 1) := by decide +kernel
theorem dX12_keepRun_161 : decode cX12_keepRun 161 = .ok (.aload_n 0, 1) := by decide +kernel
theorem dX12_keepRun_162 : decode cX12_keepRun 162 = .ok (.getfield 7, 3) := by decide +kernel
theorem dX12_keepRun_165 : decode cX12_keepRun 165 = .ok (.iload 7, 2) := by decide +kernel
theorem dX12_keepRun_167 : decode cX12_keepRun 167 = .ok (.bipush 12, 2) := by decide +kernel
theorem dX12_keepRun_169 : decode cX12_keepRun 169 = .ok (.iadd, 1) := by decide +kernel
theorem dX12_keepRun_170 : decode cX12_keepRun 170 = .ok (.iload 6, 2) := by decide +kernel
theorem dX12_keepRun_172 : decode cX12_keepRun 172 = .ok (.ifCond .eq 7, 3) := by decide +kernel
theorem dX12_keepRun_175 : decode cX12_keepRun 175 = .ok (.iconst 1, 1) := by decide +kernel
theorem dX12_keepRun_176 : decode cX12_keepRun 176 = .ok (.goto 4, 3) := by decide +kernel
theorem dX12_keepRun_179 : decode cX12_keepRun 179 = .ok (.iconst 0, 1) := by decide +kernel
theorem dX12_keepRun_180 : decode cX12_keepRun 180 = .ok (.iastore, 1) := by decide +kernel
theorem dX12_keepRun_181 : decode cX12_keepRun 181 = .ok (.aload_n 0, 1) := by decide +kernel
theorem dX12_keepRun_182 : decode cX12_keepRun 182 = .ok (.getfield 7, 3) := by decide +kernel
theorem dX12_keepRun_185 : decode cX12_keepRun 185 = .ok (.iload 7, 2) := by decide +kernel
theorem dX12_keepRun_187 : decode cX12_keepRun 187 = .ok (.bipush 13, 2) := by decide +kernel
theorem dX12_keepRun_189 : decode cX12_keepRun 189 = .ok (.iadd, 1) := by decide +kernel
theorem dX12_keepRun_190 : decode cX12_keepRun 190 = .ok (.iconst 0, 1) := by decide +kernel
theorem dX12_keepRun_191 : decode cX12_keepRun 191 = .ok (.iastore, 1) := by decide +kernel
theorem dX12_keepRun_192 : decode cX12_keepRun 192 = .ok (.aload_n 0, 1) := by decide +kernel
theorem dX12_keepRun_193 : decode cX12_keepRun 193 = .ok (.getfield 7, 3) := by decide +kernel
theorem dX12_keepRun_196 : decode cX12_keepRun 196 = .ok (.sipush 4214, 3) := by decide +kernel
theorem dX12_keepRun_199 : decode cX12_keepRun 199 = .ok (.dup2, 1) := by decide +kernel
theorem dX12_keepRun_200 : decode cX12_keepRun 200 = .ok (.iaload, 1) := by decide +kernel
theorem dX12_keepRun_201 : decode cX12_keepRun 201 = .ok (.iconst 1, 1) := by decide +kernel
theorem dX12_keepRun_202 : decode cX12_keepRun 202 = .ok (.iadd, 1) := by decide +kernel
theorem dX12_keepRun_203 : decode cX12_keepRun 203 = .ok (.iastore, 1) := by decide +kernel
theorem dX12_keepRun_204 : decode cX12_keepRun 204 = .ok (.return_, 1) := by decide +kernel
theorem dX12_isThere_0 : decode cX12_isThere 0 = .ok (.aload_n 0, 1) := by decide +kernel
theorem dX12_isThere_1 : decode cX12_isThere 1 = .ok (.iconst 2, 1) := by decide +kernel
theorem dX12_isThere_2 : decode cX12_isThere 2 = .ok (.iload_n 1, 1) := by decide +kernel
theorem dX12_isThere_3 : decode cX12_isThere 3 = .ok (.invokevirtual 84, 3) := by decide +kernel
theorem dX12_isThere_6 : decode cX12_isThere 6 = .ok (.ifCond .eq 23, 3) := by decide +kernel
theorem dX12_isThere_9 : decode cX12_isThere 9 = .ok (.iload_n 2, 1) := by decide +kernel
theorem dX12_isThere_10 : decode cX12_isThere 10 = .ok (.invokestatic 100, 3) := by decide +kernel
theorem dX12_isThere_13 : decode cX12_isThere 13 = .ok (.ifCond .eq 16, 3) := by decide +kernel
theorem dX12_isThere_16 : decode cX12_isThere 16 = .ok (.aload_n 0, 1) := by decide +kernel
theorem dX12_isThere_17 : decode cX12_isThere 17 = .ok (.iconst 3, 1) := by decide +kernel
theorem dX12_isThere_18 : decode cX12_isThere 18 = .ok (.iload_n 3, 1) := by decide +kernel
theorem dX12_isThere_19 : decode cX12_isThere 19 = .ok (.invokevirtual 84, 3) := by decide +kernel
theorem dX12_isThere_22 : decode cX12_isThere 22 = .ok (.ifCond .eq 7, 3) := by decide +kernel
theorem dX12_isThere_25 : decode cX12_isThere 25 = .ok (.iconst 1, 1) := by decide +kernel
theorem dX12_isThere_26 : decode cX12_isThere 26 = .ok (.goto 4, 3) := by decide +kernel
theorem dX12_isThere_29 : decode cX12_isThere 29 = .ok (.iconst 0, 1) := by decide +kernel
theorem dX12_isThere_30 : decode cX12_isThere 30 = .ok (.ireturn, 1) := by decide +kernel
theorem dX12_run_0 : decode cX12_run 0 = .ok (.aload_n 0, 1) := by decide +kernel
theorem dX12_run_1 : decode cX12_run 1 = .ok (.iload_n 1, 1) := by decide +kernel
theorem dX12_run_2 : decode cX12_run 2 = .ok (.iload_n 2, 1) := by decide +kernel
theorem dX12_run_3 : decode cX12_run 3 = .ok (.iload_n 3, 1) := by decide +kernel
theorem dX12_run_4 : decode cX12_run 4 = .ok (.invokevirtual 152, 3) := by decide +kernel
theorem dX12_run_7 : decode cX12_run 7 = .ok (.ifCond .eq 16, 3) := by decide +kernel
theorem dX12_run_10 : decode cX12_run 10 = .ok (.iload 5, 2) := by decide +kernel
theorem dX12_run_12 : decode cX12_run 12 = .ok (.i2l, 1) := by decide +kernel
theorem dX12_run_13 : decode cX12_run 13 = .ok (.lconst 0, 1) := by decide +kernel
theorem dX12_run_14 : decode cX12_run 14 = .ok (.ldc2_w 156, 3) := by decide +kernel
theorem dX12_run_17 : decode cX12_run 17 = .ok (.invokestatic 70, 3) := by decide +kernel
theorem dX12_run_20 : decode cX12_run 20 = .ok (.ifCond .ne 6, 3) := by decide +kernel
theorem dX12_run_23 : decode cX12_run 23 = .ok (.bipush (-2), 2) := by decide +kernel
theorem dX12_run_25 : decode cX12_run 25 = .ok (.ireturn, 1) := by decide +kernel
theorem dX12_run_26 : decode cX12_run 26 = .ok (.aload_n 0, 1) := by decide +kernel
theorem dX12_run_27 : decode cX12_run 27 = .ok (.iconst 4, 1) := by decide +kernel
theorem dX12_run_28 : decode cX12_run 28 = .ok (.invokevirtual 66, 3) := by decide +kernel
theorem dX12_run_31 : decode cX12_run 31 = .ok (.sipush 200, 3) := by decide +kernel
theorem dX12_run_34 : decode cX12_run 34 = .ok (.if_icmp .ne 6, 3) := by decide +kernel
theorem dX12_run_37 : decode cX12_run 37 = .ok (.bipush (-4), 2) := by decide +kernel
theorem dX12_run_39 : decode cX12_run 39 = .ok (.ireturn, 1) := by decide +kernel
theorem dX12_run_40 : decode cX12_run 40 = .ok (.aload_n 0, 1) := by decide +kernel
theorem dX12_run_41 : decode cX12_run 41 = .ok (.iload_n 1, 1) := by decide +kernel
theorem dX12_run_42 : decode cX12_run 42 = .ok (.iload_n 2, 1) := by decide +kernel
theorem dX12_run_43 : decode cX12_run 43 = .ok (.iload_n 3, 1) := by decide +kernel
theorem dX12_run_44 : decode cX12_run 44 = .ok (.iload 4, 2) := by decide +kernel
theorem dX12_run_46 : decode cX12_run 46 = .ok (.iload 5, 2) := by decide +kernel
theorem dX12_run_48 : decode cX12_run 48 = .ok (.iload 6, 2) := by decide +kernel
theorem dX12_run_50 : decode cX12_run 50 = .ok (.invokevirtual 158, 3) := by decide +kernel
theorem dX12_run_53 : decode cX12_run 53 = .ok (.aload_n 0, 1) := by decide +kernel
theorem dX12_run_54 : decode cX12_run 54 = .ok (.iconst 4, 1) := by decide +kernel
theorem dX12_run_55 : decode cX12_run 55 = .ok (.invokevirtual 66, 3) := by decide +kernel
theorem dX12_run_58 : decode cX12_run 58 = .ok (.iconst 1, 1) := by decide +kernel
theorem dX12_run_59 : decode cX12_run 59 = .ok (.isub, 1) := by decide +kernel
theorem dX12_run_60 : decode cX12_run 60 = .ok (.ireturn, 1) := by decide +kernel
theorem dX12_of_0 : decode cX12_of 0 = .ok (.aload_n 0, 1) := by decide +kernel
theorem dX12_of_1 : decode cX12_of 1 = .ok (.iconst 4, 1) := by decide +kernel
theorem dX12_of_2 : decode cX12_of 2 = .ok (.iload_n 1, 1) := by decide +kernel
theorem dX12_of_3 : decode cX12_of 3 = .ok (.invokevirtual 84, 3) := by decide +kernel
theorem dX12_of_6 : decode cX12_of 6 = .ok (.ifCond .eq 33, 3) := by decide +kernel
theorem dX12_of_9 : decode cX12_of 9 = .ok (.iload_n 2, 1) := by decide +kernel
theorem dX12_of_10 : decode cX12_of 10 = .ok (.i2l, 1) := by decide +kernel
theorem dX12_of_11 : decode cX12_of 11 = .ok (.lconst 0, 1) := by decide +kernel
theorem dX12_of_12 : decode cX12_of 12 = .ok (.ldc2_w 162, 3) := by decide +kernel
theorem dX12_of_15 : decode cX12_of 15 = .ok (.invokestatic 70, 3) := by decide +kernel
theorem dX12_of_18 : decode cX12_of 18 = .ok (.ifCond .eq 21, 3) := by decide +kernel
theorem dX12_of_21 : decode cX12_of 21 = .ok (.aload_n 0, 1) := by decide +kernel
theorem dX12_of_22 : decode cX12_of 22 = .ok (.getfield 7, 3) := by decide +kernel
theorem dX12_of_25 : decode cX12_of 25 = .ok (.sipush 1346, 3) := by decide +kernel
theorem dX12_of_28 : decode cX12_of 28 = .ok (.bipush 14, 2) := by decide +kernel
theorem dX12_of_30 : decode cX12_of 30 = .ok (.iload_n 1, 1) := by decide +kernel
theorem dX12_of_31 : decode cX12_of 31 = .ok (.imul, 1) := by decide +kernel
theorem dX12_of_32 : decode cX12_of 32 = .ok (.iadd, 1) := by decide +kernel
theorem dX12_of_33 : decode cX12_of 33 = .ok (.iload_n 2, 1) := by decide +kernel
theorem dX12_of_34 : decode cX12_of 34 = .ok (.iadd, 1) := by decide +kernel
theorem dX12_of_35 : decode cX12_of 35 = .ok (.iaload, 1) := by decide +kernel
theorem dX12_of_36 : decode cX12_of 36 = .ok (.goto 5, 3) := by decide +kernel
theorem dX12_of_39 : decode cX12_of 39 = .ok (.ldc 164, 2) := by decide +kernel
theorem dX12_of_41 : decode cX12_of 41 = .ok (.ireturn, 1) := by decide +kernel
theorem dX12_goesPlain_0 : decode cX12_goesPlain 0 = .ok (.aload_n 0, 1) := by decide +kernel
theorem dX12_goesPlain_1 : decode cX12_goesPlain 1 = .ok (.invokevirtual 146, 3) := by decide +kernel
theorem dX12_goesPlain_4 : decode cX12_goesPlain 4 = .ok (.aload_n 0, 1) := by decide +kernel
theorem dX12_goesPlain_5 : decode cX12_goesPlain 5 = .ok (.iload_n 1, 1) := by decide +kernel
theorem dX12_goesPlain_6 : decode cX12_goesPlain 6 = .ok (.iload_n 2, 1) := by decide +kernel
theorem dX12_goesPlain_7 : decode cX12_goesPlain 7 = .ok (.invokevirtual 132, 3) := by decide +kernel
theorem dX12_goesPlain_10 : decode cX12_goesPlain 10 = .ok (.aload_n 0, 1) := by decide +kernel
theorem dX12_goesPlain_11 : decode cX12_goesPlain 11 = .ok (.iload_n 3, 1) := by decide +kernel
theorem dX12_goesPlain_12 : decode cX12_goesPlain 12 = .ok (.iload 4, 2) := by decide +kernel
theorem dX12_goesPlain_14 : decode cX12_goesPlain 14 = .ok (.iconst 0, 1) := by decide +kernel
theorem dX12_goesPlain_15 : decode cX12_goesPlain 15 = .ok (.invokevirtual 139, 3) := by decide +kernel
theorem dX12_goesPlain_18 : decode cX12_goesPlain 18 = .ok (.return_, 1) := by decide +kernel
theorem dX12_plain_0 : decode cX12_plain 0 = .ok (.aload_n 0, 1) := by decide +kernel
theorem dX12_plain_1 : decode cX12_plain 1 = .ok (.iload_n 1, 1) := by decide +kernel
theorem dX12_plain_2 : decode cX12_plain 2 = .ok (.iload_n 2, 1) := by decide +kernel
theorem dX12_plain_3 : decode cX12_plain 3 = .ok (.iload_n 3, 1) := by decide +kernel
theorem dX12_plain_4 : decode cX12_plain 4 = .ok (.invokevirtual 152, 3) := by decide +kernel
theorem dX12_plain_7 : decode cX12_plain 7 = .ok (.ifCond .eq 16, 3) := by decide +kernel
theorem dX12_plain_10 : decode cX12_plain 10 = .ok (.iload 4, 2) := by decide +kernel
theorem dX12_plain_12 : decode cX12_plain 12 = .ok (.i2l, 1) := by decide +kernel
theorem dX12_plain_13 : decode cX12_plain 13 = .ok (.lconst 0, 1) := by decide +kernel
theorem dX12_plain_14 : decode cX12_plain 14 = .ok (.ldc2_w 165, 3) := by decide +kernel
theorem dX12_plain_17 : decode cX12_plain 17 = .ok (.invokestatic 70, 3) := by decide +kernel
theorem dX12_plain_20 : decode cX12_plain 20 = .ok (.ifCond .ne 6, 3) := by decide +kernel
theorem dX12_plain_23 : decode cX12_plain 23 = .ok (.bipush (-2), 2) := by decide +kernel
theorem dX12_plain_25 : decode cX12_plain 25 = .ok (.ireturn, 1) := by decide +kernel
theorem dX12_plain_26 : decode cX12_plain 26 = .ok (.aload_n 0, 1) := by decide +kernel
theorem dX12_plain_27 : decode cX12_plain 27 = .ok (.aload_n 0, 1) := by decide +kernel
theorem dX12_plain_28 : decode cX12_plain 28 = .ok (.getfield 7, 3) := by decide +kernel
theorem dX12_plain_31 : decode cX12_plain 31 = .ok (.sipush 1026, 3) := by decide +kernel
theorem dX12_plain_34 : decode cX12_plain 34 = .ok (.iconst 2, 1) := by decide +kernel
theorem dX12_plain_35 : decode cX12_plain 35 = .ok (.iload_n 1, 1) := by decide +kernel
theorem dX12_plain_36 : decode cX12_plain 36 = .ok (.imul, 1) := by decide +kernel
theorem dX12_plain_37 : decode cX12_plain 37 = .ok (.iadd, 1) := by decide +kernel
theorem dX12_plain_38 : decode cX12_plain 38 = .ok (.iaload, 1) := by decide +kernel
theorem dX12_plain_39 : decode cX12_plain 39 = .ok (.aload_n 0, 1) := by decide +kernel
theorem dX12_plain_40 : decode cX12_plain 40 = .ok (.getfield 7, 3) := by decide +kernel
theorem dX12_plain_43 : decode cX12_plain 43 = .ok (.sipush 1026, 3) := by decide +kernel
theorem dX12_plain_46 : decode cX12_plain 46 = .ok (.iconst 2, 1) := by decide +kernel
theorem dX12_plain_47 : decode cX12_plain 47 = .ok (.iload_n 1, 1) := by decide +kernel
theorem dX12_plain_48 : decode cX12_plain 48 = .ok (.imul, 1) := by decide +kernel
theorem dX12_plain_49 : decode cX12_plain 49 = .ok (.iadd, 1) := by decide +kernel
theorem dX12_plain_50 : decode cX12_plain 50 = .ok (.iconst 1, 1) := by decide +kernel
theorem dX12_plain_51 : decode cX12_plain 51 = .ok (.iadd, 1) := by decide +kernel
theorem dX12_plain_52 : decode cX12_plain 52 = .ok (.iaload, 1) := by decide +kernel
theorem dX12_plain_53 : decode cX12_plain 53 = .ok (.iload_n 2, 1) := by decide +kernel
theorem dX12_plain_54 : decode cX12_plain 54 = .ok (.iload_n 3, 1) := by decide +kernel
theorem dX12_plain_55 : decode cX12_plain 55 = .ok (.invokevirtual 167, 3) := by decide +kernel
theorem dX12_plain_58 : decode cX12_plain 58 = .ok (.aload_n 0, 1) := by decide +kernel
theorem dX12_plain_59 : decode cX12_plain 59 = .ok (.getfield 35, 3) := by decide +kernel
theorem dX12_plain_62 : decode cX12_plain 62 = .ok (.iload 4, 2) := by decide +kernel
theorem dX12_plain_64 : decode cX12_plain 64 = .ok (.iaload, 1) := by decide +kernel
theorem dX12_plain_65 : decode cX12_plain 65 = .ok (.ireturn, 1) := by decide +kernel
theorem dX12_sortIn_0 : decode cX12_sortIn 0 = .ok (.aload_n 0, 1) := by decide +kernel
theorem dX12_sortIn_1 : decode cX12_sortIn 1 = .ok (.getfield 171, 3) := by decide +kernel
theorem dX12_sortIn_4 : decode cX12_sortIn 4 = .ok (.istore_n 2, 1) := by decide +kernel
theorem dX12_sortIn_5 : decode cX12_sortIn 5 = .ok (.iload_n 2, 1) := by decide +kernel
theorem dX12_sortIn_6 : decode cX12_sortIn 6 = .ok (.ifCond .le 35, 3) := by decide +kernel
theorem dX12_sortIn_9 : decode cX12_sortIn 9 = .ok (.aload_n 0, 1) := by decide +kernel
theorem dX12_sortIn_10 : decode cX12_sortIn 10 = .ok (.getfield 38, 3) := by decide +kernel
theorem dX12_sortIn_13 : decode cX12_sortIn 13 = .ok (.iload_n 2, 1) := by decide +kernel
theorem dX12_sortIn_14 : decode cX12_sortIn 14 = .ok (.iconst 1, 1) := by decide +kernel
theorem dX12_sortIn_15 : decode cX12_sortIn 15 = .ok (.isub, 1) := by decide +kernel
theorem dX12_sortIn_16 : decode cX12_sortIn 16 = .ok (.iaload, 1) := by decide +kernel
theorem dX12_sortIn_17 : decode cX12_sortIn 17 = .ok (.iload_n 1, 1) := by decide +kernel
theorem dX12_sortIn_18 : decode cX12_sortIn 18 = .ok (.if_icmp .le 23, 3) := by decide +kernel
theorem dX12_sortIn_21 : decode cX12_sortIn 21 = .ok (.aload_n 0, 1) := by decide +kernel
theorem dX12_sortIn_22 : decode cX12_sortIn 22 = .ok (.getfield 38, 3) := by decide +kernel
theorem dX12_sortIn_25 : decode cX12_sortIn 25 = .ok (.iload_n 2, 1) := by decide +kernel
theorem dX12_sortIn_26 : decode cX12_sortIn 26 = .ok (.aload_n 0, 1) := by decide +kernel
theorem dX12_sortIn_27 : decode cX12_sortIn 27 = .ok (.getfield 38, 3) := by decide +kernel
theorem dX12_sortIn_30 : decode cX12_sortIn 30 = .ok (.iload_n 2, 1) := by decide +kernel
theorem dX12_sortIn_31 : decode cX12_sortIn 31 = .ok (.iconst 1, 1) := by decide +kernel
theorem dX12_sortIn_32 : decode cX12_sortIn 32 = .ok (.isub, 1) := by decide +kernel
theorem dX12_sortIn_33 : decode cX12_sortIn 33 = .ok (.iaload, 1) := by decide +kernel
theorem dX12_sortIn_34 : decode cX12_sortIn 34 = .ok (.iastore, 1) := by decide +kernel
theorem dX12_sortIn_35 : decode cX12_sortIn 35 = .ok (.iinc 2 (-1), 3) := by decide +kernel
theorem dX12_sortIn_38 : decode cX12_sortIn 38 = .ok (.goto (-33), 3) := by decide +kernel
theorem dX12_sortIn_41 : decode cX12_sortIn 41 = .ok (.aload_n 0, 1) := by decide +kernel
theorem dX12_sortIn_42 : decode cX12_sortIn 42 = .ok (.getfield 38, 3) := by decide +kernel
theorem dX12_sortIn_45 : decode cX12_sortIn 45 = .ok (.iload_n 2, 1) := by decide +kernel
theorem dX12_sortIn_46 : decode cX12_sortIn 46 = .ok (.iload_n 1, 1) := by decide +kernel
theorem dX12_sortIn_47 : decode cX12_sortIn 47 = .ok (.iastore, 1) := by decide +kernel
theorem dX12_sortIn_48 : decode cX12_sortIn 48 = .ok (.aload_n 0, 1) := by decide +kernel
theorem dX12_sortIn_49 : decode cX12_sortIn 49 = .ok (.dup, 1) := by decide +kernel
theorem dX12_sortIn_50 : decode cX12_sortIn 50 = .ok (.getfield 171, 3) := by decide +kernel
theorem dX12_sortIn_53 : decode cX12_sortIn 53 = .ok (.iconst 1, 1) := by decide +kernel
theorem dX12_sortIn_54 : decode cX12_sortIn 54 = .ok (.iadd, 1) := by decide +kernel
theorem dX12_sortIn_55 : decode cX12_sortIn 55 = .ok (.putfield 171, 3) := by decide +kernel
theorem dX12_sortIn_58 : decode cX12_sortIn 58 = .ok (.return_, 1) := by decide +kernel
theorem dX12_middle_0 : decode cX12_middle 0 = .ok (.aload_n 0, 1) := by decide +kernel
theorem dX12_middle_1 : decode cX12_middle 1 = .ok (.getfield 171, 3) := by decide +kernel
theorem dX12_middle_4 : decode cX12_middle 4 = .ok (.iconst 2, 1) := by decide +kernel
theorem dX12_middle_5 : decode cX12_middle 5 = .ok (.idiv, 1) := by decide +kernel
theorem dX12_middle_6 : decode cX12_middle 6 = .ok (.istore_n 1, 1) := by decide +kernel
theorem dX12_middle_7 : decode cX12_middle 7 = .ok (.aload_n 0, 1) := by decide +kernel
theorem dX12_middle_8 : decode cX12_middle 8 = .ok (.getfield 171, 3) := by decide +kernel
theorem dX12_middle_11 : decode cX12_middle 11 = .ok (.iconst 2, 1) := by decide +kernel
theorem dX12_middle_12 : decode cX12_middle 12 = .ok (.irem, 1) := by decide +kernel
theorem dX12_middle_13 : decode cX12_middle 13 = .ok (.iconst 1, 1) := by decide +kernel
theorem dX12_middle_14 : decode cX12_middle 14 = .ok (.if_icmp .ne 12, 3) := by decide +kernel
theorem dX12_middle_17 : decode cX12_middle 17 = .ok (.aload_n 0, 1) := by decide +kernel
theorem dX12_middle_18 : decode cX12_middle 18 = .ok (.getfield 38, 3) := by decide +kernel
theorem dX12_middle_21 : decode cX12_middle 21 = .ok (.iload_n 1, 1) := by decide +kernel
theorem dX12_middle_22 : decode cX12_middle 22 = .ok (.iaload, 1) := by decide +kernel
theorem dX12_middle_23 : decode cX12_middle 23 = .ok (.goto 20, 3) := by decide +kernel
theorem dX12_middle_26 : decode cX12_middle 26 = .ok (.aload_n 0, 1) := by decide +kernel
theorem dX12_middle_27 : decode cX12_middle 27 = .ok (.getfield 38, 3) := by decide +kernel
theorem dX12_middle_30 : decode cX12_middle 30 = .ok (.iload_n 1, 1) := by decide +kernel
theorem dX12_middle_31 : decode cX12_middle 31 = .ok (.iconst 1, 1) := by decide +kernel
theorem dX12_middle_32 : decode cX12_middle 32 = .ok (.isub, 1) := by decide +kernel
theorem dX12_middle_33 : decode cX12_middle 33 = .ok (.iaload, 1) := by decide +kernel
theorem dX12_middle_34 : decode cX12_middle 34 = .ok (.aload_n 0, 1) := by decide +kernel
theorem dX12_middle_35 : decode cX12_middle 35 = .ok (.getfield 38, 3) := by decide +kernel
theorem dX12_middle_38 : decode cX12_middle 38 = .ok (.iload_n 1, 1) := by decide +kernel
theorem dX12_middle_39 : decode cX12_middle 39 = .ok (.iaload, 1) := by decide +kernel
theorem dX12_middle_40 : decode cX12_middle 40 = .ok (.iadd, 1) := by decide +kernel
theorem dX12_middle_41 : decode cX12_middle 41 = .ok (.iconst 2, 1) := by decide +kernel
theorem dX12_middle_42 : decode cX12_middle 42 = .ok (.idiv, 1) := by decide +kernel
theorem dX12_middle_43 : decode cX12_middle 43 = .ok (.ireturn, 1) := by decide +kernel
theorem dX12_sortRuns_0 : decode cX12_sortRuns 0 = .ok (.aload_n 0, 1) := by decide +kernel
theorem dX12_sortRuns_1 : decode cX12_sortRuns 1 = .ok (.iconst 0, 1) := by decide +kernel
theorem dX12_sortRuns_2 : decode cX12_sortRuns 2 = .ok (.putfield 171, 3) := by decide +kernel
theorem dX12_sortRuns_5 : decode cX12_sortRuns 5 = .ok (.iconst 0, 1) := by decide +kernel
theorem dX12_sortRuns_6 : decode cX12_sortRuns 6 = .ok (.istore 5, 2) := by decide +kernel
theorem dX12_sortRuns_8 : decode cX12_sortRuns 8 = .ok (.iload 5, 2) := by decide +kernel
theorem dX12_sortRuns_10 : decode cX12_sortRuns 10 = .ok (.aload_n 0, 1) := by decide +kernel
theorem dX12_sortRuns_11 : decode cX12_sortRuns 11 = .ok (.iconst 4, 1) := by decide +kernel
theorem dX12_sortRuns_12 : decode cX12_sortRuns 12 = .ok (.invokevirtual 66, 3) := by decide +kernel
theorem dX12_sortRuns_15 : decode cX12_sortRuns 15 = .ok (.if_icmp .ge 95, 3) := by decide +kernel
theorem dX12_sortRuns_18 : decode cX12_sortRuns 18 = .ok (.iload 5, 2) := by decide +kernel
theorem dX12_sortRuns_20 : decode cX12_sortRuns 20 = .ok (.iload 4, 2) := by decide +kernel
theorem dX12_sortRuns_22 : decode cX12_sortRuns 22 = .ok (.if_icmp .ge 88, 3) := by decide +kernel
theorem dX12_sortRuns_25 : decode cX12_sortRuns 25 = .ok (.sipush 1346, 3) := by decide +kernel
theorem dX12_sortRuns_28 : decode cX12_sortRuns 28 = .ok (.bipush 14, 2) := by decide +kernel
theorem dX12_sortRuns_30 : decode cX12_sortRuns 30 = .ok (.iload 5, 2) := by decide +kernel
theorem dX12_sortRuns_32 : decode cX12_sortRuns 32 = .ok (.imul, 1) := by decide +kernel
theorem dX12_sortRuns_33 : decode cX12_sortRuns 33 = .ok (.iadd, 1) := by decide +kernel
theorem dX12_sortRuns_34 : decode cX12_sortRuns 34 = .ok (.istore 6, 2) := by decide +kernel
theorem dX12_sortRuns_36 : decode cX12_sortRuns 36 = .ok (.aload_n 0, 1) := by decide +kernel
theorem dX12_sortRuns_37 : decode cX12_sortRuns 37 = .ok (.getfield 7, 3) := by decide +kernel
theorem dX12_sortRuns_40 : decode cX12_sortRuns 40 = .ok (.iload 6, 2) := by decide +kernel
theorem dX12_sortRuns_42 : decode cX12_sortRuns 42 = .ok (.bipush 6, 2) := by decide +kernel
theorem dX12_sortRuns_44 : decode cX12_sortRuns 44 = .ok (.iadd, 1) := by decide +kernel
theorem dX12_sortRuns_45 : decode cX12_sortRuns 45 = .ok (.iaload, 1) := by decide +kernel
theorem dX12_sortRuns_46 : decode cX12_sortRuns 46 = .ok (.ifCond .ne 58, 3) := by decide +kernel
theorem dX12_sortRuns_49 : decode cX12_sortRuns 49 = .ok (.aload_n 0, 1) := by decide +kernel
theorem dX12_sortRuns_50 : decode cX12_sortRuns 50 = .ok (.getfield 7, 3) := by decide +kernel
theorem dX12_sortRuns_53 : decode cX12_sortRuns 53 = .ok (.iload 6, 2) := by decide +kernel
theorem dX12_sortRuns_55 : decode cX12_sortRuns 55 = .ok (.bipush 7, 2) := by decide +kernel
theorem dX12_sortRuns_57 : decode cX12_sortRuns 57 = .ok (.iadd, 1) := by decide +kernel
theorem dX12_sortRuns_58 : decode cX12_sortRuns 58 = .ok (.iaload, 1) := by decide +kernel
theorem dX12_sortRuns_59 : decode cX12_sortRuns 59 = .ok (.iload_n 1, 1) := by decide +kernel
theorem dX12_sortRuns_60 : decode cX12_sortRuns 60 = .ok (.if_icmp .ne 44, 3) := by decide +kernel
theorem dX12_sortRuns_63 : decode cX12_sortRuns 63 = .ok (.aload_n 0, 1) := by decide +kernel
theorem dX12_sortRuns_64 : decode cX12_sortRuns 64 = .ok (.getfield 7, 3) := by decide +kernel
theorem dX12_sortRuns_67 : decode cX12_sortRuns 67 = .ok (.iload 6, 2) := by decide +kernel
theorem dX12_sortRuns_69 : decode cX12_sortRuns 69 = .ok (.bipush 8, 2) := by decide +kernel
theorem dX12_sortRuns_71 : decode cX12_sortRuns 71 = .ok (.iadd, 1) := by decide +kernel
theorem dX12_sortRuns_72 : decode cX12_sortRuns 72 = .ok (.iaload, 1) := by decide +kernel
theorem dX12_sortRuns_73 : decode cX12_sortRuns 73 = .ok (.iload_n 2, 1) := by decide +kernel
theorem dX12_sortRuns_74 : decode cX12_sortRuns 74 = .ok (.if_icmp .ne 30, 3) := by decide +kernel
theorem dX12_sortRuns_77 : decode cX12_sortRuns 77 = .ok (.aload_n 0, 1) := by decide +kernel
theorem dX12_sortRuns_78 : decode cX12_sortRuns 78 = .ok (.getfield 7, 3) := by decide +kernel
theorem dX12_sortRuns_81 : decode cX12_sortRuns 81 = .ok (.iload 6, 2) := by decide +kernel
theorem dX12_sortRuns_83 : decode cX12_sortRuns 83 = .ok (.bipush 9, 2) := by decide +kernel
theorem dX12_sortRuns_85 : decode cX12_sortRuns 85 = .ok (.iadd, 1) := by decide +kernel
theorem dX12_sortRuns_86 : decode cX12_sortRuns 86 = .ok (.iaload, 1) := by decide +kernel
theorem dX12_sortRuns_87 : decode cX12_sortRuns 87 = .ok (.iload_n 3, 1) := by decide +kernel
theorem dX12_sortRuns_88 : decode cX12_sortRuns 88 = .ok (.if_icmp .ne 16, 3) := by decide +kernel
theorem dX12_sortRuns_91 : decode cX12_sortRuns 91 = .ok (.aload_n 0, 1) := by decide +kernel
theorem dX12_sortRuns_92 : decode cX12_sortRuns 92 = .ok (.aload_n 0, 1) := by decide +kernel
theorem dX12_sortRuns_93 : decode cX12_sortRuns 93 = .ok (.getfield 7, 3) := by decide +kernel
theorem dX12_sortRuns_96 : decode cX12_sortRuns 96 = .ok (.iload 6, 2) := by decide +kernel
theorem dX12_sortRuns_98 : decode cX12_sortRuns 98 = .ok (.iconst 5, 1) := by decide +kernel
theorem dX12_sortRuns_99 : decode cX12_sortRuns 99 = .ok (.iadd, 1) := by decide +kernel
theorem dX12_sortRuns_100 : decode cX12_sortRuns 100 = .ok (.iaload, 1) := by decide +kernel
theorem dX12_sortRuns_101 : decode cX12_sortRuns 101 = .ok (.invokevirtual 174, 3) := by decide +kernel
theorem dX12_sortRuns_104 : decode cX12_sortRuns 104 = .ok (.iinc 5 1, 3) := by decide +kernel
theorem dX12_sortRuns_107 : decode cX12_sortRuns 107 = .ok (.goto (-99), 3) := by decide +kernel
theorem dX12_sortRuns_110 : decode cX12_sortRuns 110 = .ok (.return_, 1) := by decide +kernel
theorem dX12_figure_0 : decode cX12_figure 0 = .ok (.aload_n 0, 1) := by decide +kernel
theorem dX12_figure_1 : decode cX12_figure 1 = .ok (.iload_n 1, 1) := by decide +kernel
theorem dX12_figure_2 : decode cX12_figure 2 = .ok (.iload_n 2, 1) := by decide +kernel
theorem dX12_figure_3 : decode cX12_figure 3 = .ok (.iload_n 3, 1) := by decide +kernel
theorem dX12_figure_4 : decode cX12_figure 4 = .ok (.invokevirtual 152, 3) := by decide +kernel
theorem dX12_figure_7 : decode cX12_figure 7 = .ok (.ifCond .eq 29, 3) := by decide +kernel
theorem dX12_figure_10 : decode cX12_figure 10 = .ok (.iload 4, 2) := by decide +kernel
theorem dX12_figure_12 : decode cX12_figure 12 = .ok (.i2l, 1) := by decide +kernel
theorem dX12_figure_13 : decode cX12_figure 13 = .ok (.lconst 0, 1) := by decide +kernel
theorem dX12_figure_14 : decode cX12_figure 14 = .ok (.ldc2_w 109, 3) := by decide +kernel
theorem dX12_figure_17 : decode cX12_figure 17 = .ok (.invokestatic 70, 3) := by decide +kernel
theorem dX12_figure_20 : decode cX12_figure 20 = .ok (.ifCond .eq 16, 3) := by decide +kernel
theorem dX12_figure_23 : decode cX12_figure 23 = .ok (.iload 5, 2) := by decide +kernel
theorem dX12_figure_25 : decode cX12_figure 25 = .ok (.i2l, 1) := by decide +kernel
theorem dX12_figure_26 : decode cX12_figure 26 = .ok (.lconst 0, 1) := by decide +kernel
theorem dX12_figure_27 : decode cX12_figure 27 = .ok (.ldc2_w 74, 3) := by decide +kernel
theorem dX12_figure_30 : decode cX12_figure 30 = .ok (.invokestatic 70, 3) := by decide +kernel
theorem dX12_figure_33 : decode cX12_figure 33 = .ok (.ifCond .ne 6, 3) := by decide +kernel
theorem dX12_figure_36 : decode cX12_figure 36 = .ok (.bipush (-2), 2) := by decide +kernel
theorem dX12_figure_38 : decode cX12_figure 38 = .ok (.ireturn, 1) := by decide +kernel
theorem dX12_figure_39 : decode cX12_figure 39 = .ok (.aload_n 0, 1) := by decide +kernel
theorem dX12_figure_40 : decode cX12_figure 40 = .ok (.iload_n 1, 1) := by decide +kernel
theorem dX12_figure_41 : decode cX12_figure 41 = .ok (.iload_n 2, 1) := by decide +kernel
theorem dX12_figure_42 : decode cX12_figure 42 = .ok (.iload_n 3, 1) := by decide +kernel
theorem dX12_figure_43 : decode cX12_figure 43 = .ok (.iload 4, 2) := by decide +kernel
theorem dX12_figure_45 : decode cX12_figure 45 = .ok (.invokevirtual 178, 3) := by decide +kernel
theorem dX12_figure_48 : decode cX12_figure 48 = .ok (.iload 5, 2) := by decide +kernel
theorem dX12_figure_50 : decode cX12_figure 50 = .ok (.ifCond .ne 8, 3) := by decide +kernel
theorem dX12_figure_53 : decode cX12_figure 53 = .ok (.aload_n 0, 1) := by decide +kernel
theorem dX12_figure_54 : decode cX12_figure 54 = .ok (.getfield 171, 3) := by decide +kernel
theorem dX12_figure_57 : decode cX12_figure 57 = .ok (.ireturn, 1) := by decide +kernel
theorem dX12_figure_58 : decode cX12_figure 58 = .ok (.aload_n 0, 1) := by decide +kernel
theorem dX12_figure_59 : decode cX12_figure 59 = .ok (.getfield 171, 3) := by decide +kernel
theorem dX12_figure_62 : decode cX12_figure 62 = .ok (.ifCond .ne 7, 3) := by decide +kernel
theorem dX12_figure_65 : decode cX12_figure 65 = .ok (.iconst (-1), 1) := by decide +kernel
theorem dX12_figure_66 : decode cX12_figure 66 = .ok (.goto 42, 3) := by decide +kernel
theorem dX12_figure_69 : decode cX12_figure 69 = .ok (.iload 5, 2) := by decide +kernel
theorem dX12_figure_71 : decode cX12_figure 71 = .ok (.iconst 1, 1) := by decide +kernel
theorem dX12_figure_72 : decode cX12_figure 72 = .ok (.if_icmp .ne 12, 3) := by decide +kernel
theorem dX12_figure_75 : decode cX12_figure 75 = .ok (.aload_n 0, 1) := by decide +kernel
theorem dX12_figure_76 : decode cX12_figure 76 = .ok (.getfield 38, 3) := by decide +kernel
theorem dX12_figure_79 : decode cX12_figure 79 = .ok (.iconst 0, 1) := by decide +kernel
theorem dX12_figure_80 : decode cX12_figure 80 = .ok (.iaload, 1) := by decide +kernel
theorem dX12_figure_81 : decode cX12_figure 81 = .ok (.goto 27, 3) := by decide +kernel
theorem dX12_figure_84 : decode cX12_figure 84 = .ok (.iload 5, 2) := by decide +kernel
theorem dX12_figure_86 : decode cX12_figure 86 = .ok (.iconst 2, 1) := by decide +kernel
theorem dX12_figure_87 : decode cX12_figure 87 = .ok (.if_icmp .ne 17, 3) := by decide +kernel
theorem dX12_figure_90 : decode cX12_figure 90 = .ok (.aload_n 0, 1) := by decide +kernel
theorem dX12_figure_91 : decode cX12_figure 91 = .ok (.getfield 38, 3) := by decide +kernel
theorem dX12_figure_94 : decode cX12_figure 94 = .ok (.aload_n 0, 1) := by decide +kernel
theorem dX12_figure_95 : decode cX12_figure 95 = .ok (.getfield 171, 3) := by decide +kernel
theorem dX12_figure_98 : decode cX12_figure 98 = .ok (.iconst 1, 1) := by decide +kernel
theorem dX12_figure_99 : decode cX12_figure 99 = .ok (.isub, 1) := by decide +kernel
theorem dX12_figure_100 : decode cX12_figure 100 = .ok (.iaload, 1) := by decide +kernel
theorem dX12_figure_101 : decode cX12_figure 101 = .ok (.goto 7, 3) := by decide +kernel
theorem dX12_figure_104 : decode cX12_figure 104 = .ok (.aload_n 0, 1) := by decide +kernel
theorem dX12_figure_105 : decode cX12_figure 105 = .ok (.invokevirtual 181, 3) := by decide +kernel
theorem dX12_figure_108 : decode cX12_figure 108 = .ok (.ireturn, 1) := by decide +kernel
theorem dX12_pair_0 : decode cX12_pair 0 = .ok (.aload_n 0, 1) := by decide +kernel
theorem dX12_pair_1 : decode cX12_pair 1 = .ok (.iload_n 1, 1) := by decide +kernel
theorem dX12_pair_2 : decode cX12_pair 2 = .ok (.iload_n 3, 1) := by decide +kernel
theorem dX12_pair_3 : decode cX12_pair 3 = .ok (.iload 4, 2) := by decide +kernel
theorem dX12_pair_5 : decode cX12_pair 5 = .ok (.invokevirtual 152, 3) := by decide +kernel
theorem dX12_pair_8 : decode cX12_pair 8 = .ok (.ifCond .eq 25, 3) := by decide +kernel
theorem dX12_pair_11 : decode cX12_pair 11 = .ok (.aload_n 0, 1) := by decide +kernel
theorem dX12_pair_12 : decode cX12_pair 12 = .ok (.iconst 2, 1) := by decide +kernel
theorem dX12_pair_13 : decode cX12_pair 13 = .ok (.iload_n 2, 1) := by decide +kernel
theorem dX12_pair_14 : decode cX12_pair 14 = .ok (.invokevirtual 84, 3) := by decide +kernel
theorem dX12_pair_17 : decode cX12_pair 17 = .ok (.ifCond .eq 16, 3) := by decide +kernel
theorem dX12_pair_20 : decode cX12_pair 20 = .ok (.iload 6, 2) := by decide +kernel
theorem dX12_pair_22 : decode cX12_pair 22 = .ok (.i2l, 1) := by decide +kernel
theorem dX12_pair_23 : decode cX12_pair 23 = .ok (.lconst 0, 1) := by decide +kernel
theorem dX12_pair_24 : decode cX12_pair 24 = .ok (.ldc2_w 156, 3) := by decide +kernel
theorem dX12_pair_27 : decode cX12_pair 27 = .ok (.invokestatic 70, 3) := by decide +kernel
theorem dX12_pair_30 : decode cX12_pair 30 = .ok (.ifCond .ne 6, 3) := by decide +kernel
theorem dX12_pair_33 : decode cX12_pair 33 = .ok (.bipush (-2), 2) := by decide +kernel
theorem dX12_pair_35 : decode cX12_pair 35 = .ok (.ireturn, 1) := by decide +kernel
theorem dX12_pair_36 : decode cX12_pair 36 = .ok (.aload_n 0, 1) := by decide +kernel
theorem dX12_pair_37 : decode cX12_pair 37 = .ok (.iconst 5, 1) := by decide +kernel
theorem dX12_pair_38 : decode cX12_pair 38 = .ok (.invokevirtual 66, 3) := by decide +kernel
theorem dX12_pair_41 : decode cX12_pair 41 = .ok (.bipush 16, 2) := by decide +kernel
theorem dX12_pair_43 : decode cX12_pair 43 = .ok (.if_icmp .ne 6, 3) := by decide +kernel
theorem dX12_pair_46 : decode cX12_pair 46 = .ok (.bipush (-3), 2) := by decide +kernel
theorem dX12_pair_48 : decode cX12_pair 48 = .ok (.ireturn, 1) := by decide +kernel
theorem dX12_pair_49 : decode cX12_pair 49 = .ok (.aload_n 0, 1) := by decide +kernel
theorem dX12_pair_50 : decode cX12_pair 50 = .ok (.iconst 4, 1) := by decide +kernel
theorem dX12_pair_51 : decode cX12_pair 51 = .ok (.invokevirtual 66, 3) := by decide +kernel
theorem dX12_pair_54 : decode cX12_pair 54 = .ok (.sipush 198, 3) := by decide +kernel
theorem dX12_pair_57 : decode cX12_pair 57 = .ok (.if_icmp .le 6, 3) := by decide +kernel
theorem dX12_pair_60 : decode cX12_pair 60 = .ok (.bipush (-4), 2) := by decide +kernel
theorem dX12_pair_62 : decode cX12_pair 62 = .ok (.ireturn, 1) := by decide +kernel
theorem dX12_pair_63 : decode cX12_pair 63 = .ok (.aload_n 0, 1) := by decide +kernel
theorem dX12_pair_64 : decode cX12_pair 64 = .ok (.iload 7, 2) := by decide +kernel
theorem dX12_pair_66 : decode cX12_pair 66 = .ok (.ifCond .eq 7, 3) := by decide +kernel
theorem dX12_pair_69 : decode cX12_pair 69 = .ok (.iload_n 2, 1) := by decide +kernel
theorem dX12_pair_70 : decode cX12_pair 70 = .ok (.goto 4, 3) := by decide +kernel
theorem dX12_pair_73 : decode cX12_pair 73 = .ok (.iload_n 1, 1) := by decide +kernel
theorem dX12_pair_74 : decode cX12_pair 74 = .ok (.iload_n 3, 1) := by decide +kernel
theorem dX12_pair_75 : decode cX12_pair 75 = .ok (.iload 4, 2) := by decide +kernel
theorem dX12_pair_77 : decode cX12_pair 77 = .ok (.iload 5, 2) := by decide +kernel
theorem dX12_pair_79 : decode cX12_pair 79 = .ok (.iload 6, 2) := by decide +kernel
theorem dX12_pair_81 : decode cX12_pair 81 = .ok (.iconst 0, 1) := by decide +kernel
theorem dX12_pair_82 : decode cX12_pair 82 = .ok (.invokevirtual 158, 3) := by decide +kernel
theorem dX12_pair_85 : decode cX12_pair 85 = .ok (.aload_n 0, 1) := by decide +kernel
theorem dX12_pair_86 : decode cX12_pair 86 = .ok (.iload 7, 2) := by decide +kernel
theorem dX12_pair_88 : decode cX12_pair 88 = .ok (.ifCond .eq 7, 3) := by decide +kernel
theorem dX12_pair_91 : decode cX12_pair 91 = .ok (.iload_n 1, 1) := by decide +kernel
theorem dX12_pair_92 : decode cX12_pair 92 = .ok (.goto 4, 3) := by decide +kernel
theorem dX12_pair_95 : decode cX12_pair 95 = .ok (.iload_n 2, 1) := by decide +kernel
theorem dX12_pair_96 : decode cX12_pair 96 = .ok (.iload_n 3, 1) := by decide +kernel
theorem dX12_pair_97 : decode cX12_pair 97 = .ok (.iload 4, 2) := by decide +kernel
theorem dX12_pair_99 : decode cX12_pair 99 = .ok (.iload 5, 2) := by decide +kernel
theorem dX12_pair_101 : decode cX12_pair 101 = .ok (.iload 6, 2) := by decide +kernel
theorem dX12_pair_103 : decode cX12_pair 103 = .ok (.iconst 1, 1) := by decide +kernel
theorem dX12_pair_104 : decode cX12_pair 104 = .ok (.invokevirtual 158, 3) := by decide +kernel
theorem dX12_pair_107 : decode cX12_pair 107 = .ok (.sipush 1346, 3) := by decide +kernel
theorem dX12_pair_110 : decode cX12_pair 110 = .ok (.bipush 14, 2) := by decide +kernel
theorem dX12_pair_112 : decode cX12_pair 112 = .ok (.aload_n 0, 1) := by decide +kernel
theorem dX12_pair_113 : decode cX12_pair 113 = .ok (.iconst 4, 1) := by decide +kernel
theorem dX12_pair_114 : decode cX12_pair 114 = .ok (.invokevirtual 66, 3) := by decide +kernel
theorem dX12_pair_117 : decode cX12_pair 117 = .ok (.iconst 2, 1) := by decide +kernel
theorem dX12_pair_118 : decode cX12_pair 118 = .ok (.isub, 1) := by decide +kernel
theorem dX12_pair_119 : decode cX12_pair 119 = .ok (.imul, 1) := by decide +kernel
theorem dX12_pair_120 : decode cX12_pair 120 = .ok (.iadd, 1) := by decide +kernel
theorem dX12_pair_121 : decode cX12_pair 121 = .ok (.istore 8, 2) := by decide +kernel
theorem dX12_pair_123 : decode cX12_pair 123 = .ok (.aload_n 0, 1) := by decide +kernel
theorem dX12_pair_124 : decode cX12_pair 124 = .ok (.getfield 7, 3) := by decide +kernel
theorem dX12_pair_127 : decode cX12_pair 127 = .ok (.iload 8, 2) := by decide +kernel
theorem dX12_pair_129 : decode cX12_pair 129 = .ok (.bipush 6, 2) := by decide +kernel
theorem dX12_pair_131 : decode cX12_pair 131 = .ok (.iadd, 1) := by decide +kernel
theorem dX12_pair_132 : decode cX12_pair 132 = .ok (.iaload, 1) := by decide +kernel
theorem dX12_pair_133 : decode cX12_pair 133 = .ok (.ifCond .ne 77, 3) := by decide +kernel
theorem dX12_pair_136 : decode cX12_pair 136 = .ok (.aload_n 0, 1) := by decide +kernel
theorem dX12_pair_137 : decode cX12_pair 137 = .ok (.getfield 7, 3) := by decide +kernel
theorem dX12_pair_140 : decode cX12_pair 140 = .ok (.iload 8, 2) := by decide +kernel
theorem dX12_pair_142 : decode cX12_pair 142 = .ok (.bipush 20, 2) := by decide +kernel
theorem dX12_pair_144 : decode cX12_pair 144 = .ok (.iadd, 1) := by decide +kernel
theorem dX12_pair_145 : decode cX12_pair 145 = .ok (.iaload, 1) := by decide +kernel
theorem dX12_pair_146 : decode cX12_pair 146 = .ok (.ifCond .ne 64, 3) := by decide +kernel
theorem dX12_pair_149 : decode cX12_pair 149 = .ok (.aload_n 0, 1) := by decide +kernel
theorem dX12_pair_150 : decode cX12_pair 150 = .ok (.getfield 7, 3) := by decide +kernel
theorem dX12_pair_153 : decode cX12_pair 153 = .ok (.iload 8, 2) := by decide +kernel
theorem dX12_pair_155 : decode cX12_pair 155 = .ok (.bipush 19, 2) := by decide +kernel
theorem dX12_pair_157 : decode cX12_pair 157 = .ok (.iadd, 1) := by decide +kernel
theorem dX12_pair_158 : decode cX12_pair 158 = .ok (.iaload, 1) := by decide +kernel
theorem dX12_pair_159 : decode cX12_pair 159 = .ok (.aload_n 0, 1) := by decide +kernel
theorem dX12_pair_160 : decode cX12_pair 160 = .ok (.getfield 7, 3) := by decide +kernel
theorem dX12_pair_163 : decode cX12_pair 163 = .ok (.iload 8, 2) := by decide +kernel
theorem dX12_pair_165 : decode cX12_pair 165 = .ok (.iconst 5, 1) := by decide +kernel
theorem dX12_pair_166 : decode cX12_pair 166 = .ok (.iadd, 1) := by decide +kernel
theorem dX12_pair_167 : decode cX12_pair 167 = .ok (.iaload, 1) := by decide +kernel
theorem dX12_pair_168 : decode cX12_pair 168 = .ok (.isub, 1) := by decide +kernel
theorem dX12_pair_169 : decode cX12_pair 169 = .ok (.istore 9, 2) := by decide +kernel
theorem dX12_pair_171 : decode cX12_pair 171 = .ok (.aload_n 0, 1) := by decide +kernel
theorem dX12_pair_172 : decode cX12_pair 172 = .ok (.getfield 7, 3) := by decide +kernel
theorem dX12_pair_175 : decode cX12_pair 175 = .ok (.sipush 4146, 3) := by decide +kernel
theorem dX12_pair_178 : decode cX12_pair 178 = .ok (.aload_n 0, 1) := by decide +kernel
theorem dX12_pair_179 : decode cX12_pair 179 = .ok (.iconst 5, 1) := by decide +kernel
theorem dX12_pair_180 : decode cX12_pair 180 = .ok (.invokevirtual 66, 3) := by decide +kernel
theorem dX12_pair_183 : decode cX12_pair 183 = .ok (.iadd, 1) := by decide +kernel
theorem dX12_pair_184 : decode cX12_pair 184 = .ok (.iload 7, 2) := by decide +kernel
theorem dX12_pair_186 : decode cX12_pair 186 = .ok (.ifCond .eq 9, 3) := by decide +kernel
theorem dX12_pair_189 : decode cX12_pair 189 = .ok (.iload 9, 2) := by decide +kernel
theorem dX12_pair_191 : decode cX12_pair 191 = .ok (.ineg, 1) := by decide +kernel
theorem dX12_pair_192 : decode cX12_pair 192 = .ok (.goto 5, 3) := by decide +kernel
theorem dX12_pair_195 : decode cX12_pair 195 = .ok (.iload 9, 2) := by decide +kernel
theorem dX12_pair_197 : decode cX12_pair 197 = .ok (.iastore, 1) := by decide +kernel
theorem dX12_pair_198 : decode cX12_pair 198 = .ok (.aload_n 0, 1) := by decide +kernel
theorem dX12_pair_199 : decode cX12_pair 199 = .ok (.getfield 7, 3) := by decide +kernel
theorem dX12_pair_202 : decode cX12_pair 202 = .ok (.sipush 4215, 3) := by decide +kernel
theorem dX12_pair_205 : decode cX12_pair 205 = .ok (.dup2, 1) := by decide +kernel
theorem dX12_pair_206 : decode cX12_pair 206 = .ok (.iaload, 1) := by decide +kernel
theorem dX12_pair_207 : decode cX12_pair 207 = .ok (.iconst 1, 1) := by decide +kernel
theorem dX12_pair_208 : decode cX12_pair 208 = .ok (.iadd, 1) := by decide +kernel
theorem dX12_pair_209 : decode cX12_pair 209 = .ok (.iastore, 1) := by decide +kernel
theorem dX12_pair_210 : decode cX12_pair 210 = .ok (.aload_n 0, 1) := by decide +kernel
theorem dX12_pair_211 : decode cX12_pair 211 = .ok (.iconst 5, 1) := by decide +kernel
theorem dX12_pair_212 : decode cX12_pair 212 = .ok (.invokevirtual 66, 3) := by decide +kernel
theorem dX12_pair_215 : decode cX12_pair 215 = .ok (.ireturn, 1) := by decide +kernel
theorem dX12_difference_0 : decode cX12_difference 0 = .ok (.iload_n 1, 1) := by decide +kernel
theorem dX12_difference_1 : decode cX12_difference 1 = .ok (.ifCond .ge 8, 3) := by decide +kernel
theorem dX12_difference_4 : decode cX12_difference 4 = .ok (.ldc 164, 2) := by decide +kernel
theorem dX12_difference_6 : decode cX12_difference 6 = .ok (.goto 27, 3) := by decide +kernel
theorem dX12_difference_9 : decode cX12_difference 9 = .ok (.iload_n 1, 1) := by decide +kernel
theorem dX12_difference_10 : decode cX12_difference 10 = .ok (.aload_n 0, 1) := by decide +kernel
theorem dX12_difference_11 : decode cX12_difference 11 = .ok (.iconst 5, 1) := by decide +kernel
theorem dX12_difference_12 : decode cX12_difference 12 = .ok (.invokevirtual 66, 3) := by decide +kernel
theorem dX12_difference_15 : decode cX12_difference 15 = .ok (.if_icmp .ge 16, 3) := by decide +kernel
theorem dX12_difference_18 : decode cX12_difference 18 = .ok (.aload_n 0, 1) := by decide +kernel
theorem dX12_difference_19 : decode cX12_difference 19 = .ok (.getfield 7, 3) := by decide +kernel
theorem dX12_difference_22 : decode cX12_difference 22 = .ok (.sipush 4146, 3) := by decide +kernel
theorem dX12_difference_25 : decode cX12_difference 25 = .ok (.iload_n 1, 1) := by decide +kernel
theorem dX12_difference_26 : decode cX12_difference 26 = .ok (.iadd, 1) := by decide +kernel
theorem dX12_difference_27 : decode cX12_difference 27 = .ok (.iaload, 1) := by decide +kernel
theorem dX12_difference_28 : decode cX12_difference 28 = .ok (.goto 5, 3) := by decide +kernel
theorem dX12_difference_31 : decode cX12_difference 31 = .ok (.ldc 185, 2) := by decide +kernel
theorem dX12_difference_33 : decode cX12_difference 33 = .ok (.ireturn, 1) := by decide +kernel
theorem dX12_stand_0 : decode cX12_stand 0 = .ok (.aload_n 0, 1) := by decide +kernel
theorem dX12_stand_1 : decode cX12_stand 1 = .ok (.iconst 5, 1) := by decide +kernel
theorem dX12_stand_2 : decode cX12_stand 2 = .ok (.invokevirtual 66, 3) := by decide +kernel
theorem dX12_stand_5 : decode cX12_stand 5 = .ok (.istore_n 1, 1) := by decide +kernel
theorem dX12_stand_6 : decode cX12_stand 6 = .ok (.aload_n 0, 1) := by decide +kernel
theorem dX12_stand_7 : decode cX12_stand 7 = .ok (.getfield 7, 3) := by decide +kernel
theorem dX12_stand_10 : decode cX12_stand 10 = .ok (.sipush 4215, 3) := by decide +kernel
theorem dX12_stand_13 : decode cX12_stand 13 = .ok (.iconst 0, 1) := by decide +kernel
theorem dX12_stand_14 : decode cX12_stand 14 = .ok (.iastore, 1) := by decide +kernel
theorem dX12_stand_15 : decode cX12_stand 15 = .ok (.iload_n 1, 1) := by decide +kernel
theorem dX12_stand_16 : decode cX12_stand 16 = .ok (.ireturn, 1) := by decide +kernel
theorem dX12_oddsOf_0 : decode cX12_oddsOf 0 = .ok (.iconst 0, 1) := by decide +kernel
theorem dX12_oddsOf_1 : decode cX12_oddsOf 1 = .ok (.istore_n 3, 1) := by decide +kernel
theorem dX12_oddsOf_2 : decode cX12_oddsOf 2 = .ok (.iconst 0, 1) := by decide +kernel
theorem dX12_oddsOf_3 : decode cX12_oddsOf 3 = .ok (.istore 4, 2) := by decide +kernel
theorem dX12_oddsOf_5 : decode cX12_oddsOf 5 = .ok (.iload 4, 2) := by decide +kernel
theorem dX12_oddsOf_7 : decode cX12_oddsOf 7 = .ok (.iload_n 1, 1) := by decide +kernel
theorem dX12_oddsOf_8 : decode cX12_oddsOf 8 = .ok (.if_icmp .ge 23, 3) := by decide +kernel
theorem dX12_oddsOf_11 : decode cX12_oddsOf 11 = .ok (.iload_n 3, 1) := by decide +kernel
theorem dX12_oddsOf_12 : decode cX12_oddsOf 12 = .ok (.aload_n 0, 1) := by decide +kernel
theorem dX12_oddsOf_13 : decode cX12_oddsOf 13 = .ok (.getfield 7, 3) := by decide +kernel
theorem dX12_oddsOf_16 : decode cX12_oddsOf 16 = .ok (.sipush 4146, 3) := by decide +kernel
theorem dX12_oddsOf_19 : decode cX12_oddsOf 19 = .ok (.iload 4, 2) := by decide +kernel
theorem dX12_oddsOf_21 : decode cX12_oddsOf 21 = .ok (.iadd, 1) := by decide +kernel
theorem dX12_oddsOf_22 : decode cX12_oddsOf 22 = .ok (.iaload, 1) := by decide +kernel
theorem dX12_oddsOf_23 : decode cX12_oddsOf 23 = .ok (.iadd, 1) := by decide +kernel
theorem dX12_oddsOf_24 : decode cX12_oddsOf 24 = .ok (.istore_n 3, 1) := by decide +kernel
theorem dX12_oddsOf_25 : decode cX12_oddsOf 25 = .ok (.iinc 4 1, 3) := by decide +kernel
theorem dX12_oddsOf_28 : decode cX12_oddsOf 28 = .ok (.goto (-23), 3) := by decide +kernel
theorem dX12_oddsOf_31 : decode cX12_oddsOf 31 = .ok (.iconst 0, 1) := by decide +kernel
theorem dX12_oddsOf_32 : decode cX12_oddsOf 32 = .ok (.istore 4, 2) := by decide +kernel
theorem dX12_oddsOf_34 : decode cX12_oddsOf 34 = .ok (.iconst 0, 1) := by decide +kernel
theorem dX12_oddsOf_35 : decode cX12_oddsOf 35 = .ok (.istore 5, 2) := by decide +kernel
theorem dX12_oddsOf_37 : decode cX12_oddsOf 37 = .ok (.iload 5, 2) := by decide +kernel
theorem dX12_oddsOf_39 : decode cX12_oddsOf 39 = .ok (.iconst 1, 1) := by decide +kernel
theorem dX12_oddsOf_40 : decode cX12_oddsOf 40 = .ok (.iload_n 1, 1) := by decide +kernel
theorem dX12_oddsOf_41 : decode cX12_oddsOf 41 = .ok (.ishl, 1) := by decide +kernel
theorem dX12_oddsOf_42 : decode cX12_oddsOf 42 = .ok (.if_icmp .ge 98, 3) := by decide +kernel
theorem dX12_oddsOf_45 : decode cX12_oddsOf 45 = .ok (.iconst 0, 1) := by decide +kernel
theorem dX12_oddsOf_46 : decode cX12_oddsOf 46 = .ok (.istore 6, 2) := by decide +kernel
theorem dX12_oddsOf_48 : decode cX12_oddsOf 48 = .ok (.iconst 0, 1) := by decide +kernel
theorem dX12_oddsOf_49 : decode cX12_oddsOf 49 = .ok (.istore 7, 2) := by decide +kernel
theorem dX12_oddsOf_51 : decode cX12_oddsOf 51 = .ok (.iload 7, 2) := by decide +kernel
theorem dX12_oddsOf_53 : decode cX12_oddsOf 53 = .ok (.iload_n 1, 1) := by decide +kernel
theorem dX12_oddsOf_54 : decode cX12_oddsOf 54 = .ok (.if_icmp .ge 51, 3) := by decide +kernel
theorem dX12_oddsOf_57 : decode cX12_oddsOf 57 = .ok (.iload 6, 2) := by decide +kernel
theorem dX12_oddsOf_59 : decode cX12_oddsOf 59 = .ok (.iload 5, 2) := by decide +kernel
theorem dX12_oddsOf_61 : decode cX12_oddsOf 61 = .ok (.iload 7, 2) := by decide +kernel
theorem dX12_oddsOf_63 : decode cX12_oddsOf 63 = .ok (.ishr, 1) := by decide +kernel
theorem dX12_oddsOf_64 : decode cX12_oddsOf 64 = .ok (.iconst 1, 1) := by decide +kernel
theorem dX12_oddsOf_65 : decode cX12_oddsOf 65 = .ok (.iand, 1) := by decide +kernel
theorem dX12_oddsOf_66 : decode cX12_oddsOf 66 = .ok (.iconst 1, 1) := by decide +kernel
theorem dX12_oddsOf_67 : decode cX12_oddsOf 67 = .ok (.if_icmp .ne 18, 3) := by decide +kernel
theorem dX12_oddsOf_70 : decode cX12_oddsOf 70 = .ok (.aload_n 0, 1) := by decide +kernel
theorem dX12_oddsOf_71 : decode cX12_oddsOf 71 = .ok (.getfield 7, 3) := by decide +kernel
theorem dX12_oddsOf_74 : decode cX12_oddsOf 74 = .ok (.sipush 4146, 3) := by decide +kernel
theorem dX12_oddsOf_77 : decode cX12_oddsOf 77 = .ok (.iload 7, 2) := by decide +kernel
theorem dX12_oddsOf_79 : decode cX12_oddsOf 79 = .ok (.iadd, 1) := by decide +kernel
theorem dX12_oddsOf_80 : decode cX12_oddsOf 80 = .ok (.iaload, 1) := by decide +kernel
theorem dX12_oddsOf_81 : decode cX12_oddsOf 81 = .ok (.ineg, 1) := by decide +kernel
theorem dX12_oddsOf_82 : decode cX12_oddsOf 82 = .ok (.goto 14, 3) := by decide +kernel
theorem dX12_oddsOf_85 : decode cX12_oddsOf 85 = .ok (.aload_n 0, 1) := by decide +kernel
theorem dX12_oddsOf_86 : decode cX12_oddsOf 86 = .ok (.getfield 7, 3) := by decide +kernel
theorem dX12_oddsOf_89 : decode cX12_oddsOf 89 = .ok (.sipush 4146, 3) := by decide +kernel
theorem dX12_oddsOf_92 : decode cX12_oddsOf 92 = .ok (.iload 7, 2) := by decide +kernel
theorem dX12_oddsOf_94 : decode cX12_oddsOf 94 = .ok (.iadd, 1) := by decide +kernel
theorem dX12_oddsOf_95 : decode cX12_oddsOf 95 = .ok (.iaload, 1) := by decide +kernel
theorem dX12_oddsOf_96 : decode cX12_oddsOf 96 = .ok (.iadd, 1) := by decide +kernel
theorem dX12_oddsOf_97 : decode cX12_oddsOf 97 = .ok (.istore 6, 2) := by decide +kernel
theorem dX12_oddsOf_99 : decode cX12_oddsOf 99 = .ok (.iinc 7 1, 3) := by decide +kernel
theorem dX12_oddsOf_102 : decode cX12_oddsOf 102 = .ok (.goto (-51), 3) := by decide +kernel
theorem dX12_oddsOf_105 : decode cX12_oddsOf 105 = .ok (.iload 4, 2) := by decide +kernel
theorem dX12_oddsOf_107 : decode cX12_oddsOf 107 = .ok (.iload_n 2, 1) := by decide +kernel
theorem dX12_oddsOf_108 : decode cX12_oddsOf 108 = .ok (.ifCond .eq 12, 3) := by decide +kernel
theorem dX12_oddsOf_111 : decode cX12_oddsOf 111 = .ok (.iload 6, 2) := by decide +kernel
theorem dX12_oddsOf_113 : decode cX12_oddsOf 113 = .ok (.iload_n 3, 1) := by decide +kernel
theorem dX12_oddsOf_114 : decode cX12_oddsOf 114 = .ok (.if_icmp .gt 16, 3) := by decide +kernel
theorem dX12_oddsOf_117 : decode cX12_oddsOf 117 = .ok (.goto 9, 3) := by decide +kernel
theorem dX12_oddsOf_120 : decode cX12_oddsOf 120 = .ok (.iload 6, 2) := by decide +kernel
theorem dX12_oddsOf_122 : decode cX12_oddsOf 122 = .ok (.iload_n 3, 1) := by decide +kernel
theorem dX12_oddsOf_123 : decode cX12_oddsOf 123 = .ok (.if_icmp .lt 7, 3) := by decide +kernel
theorem dX12_oddsOf_126 : decode cX12_oddsOf 126 = .ok (.iconst 1, 1) := by decide +kernel
theorem dX12_oddsOf_127 : decode cX12_oddsOf 127 = .ok (.goto 4, 3) := by decide +kernel
theorem dX12_oddsOf_130 : decode cX12_oddsOf 130 = .ok (.iconst 0, 1) := by decide +kernel
theorem dX12_oddsOf_131 : decode cX12_oddsOf 131 = .ok (.iadd, 1) := by decide +kernel
theorem dX12_oddsOf_132 : decode cX12_oddsOf 132 = .ok (.istore 4, 2) := by decide +kernel
theorem dX12_oddsOf_134 : decode cX12_oddsOf 134 = .ok (.iinc 5 1, 3) := by decide +kernel
theorem dX12_oddsOf_137 : decode cX12_oddsOf 137 = .ok (.goto (-100), 3) := by decide +kernel
theorem dX12_oddsOf_140 : decode cX12_oddsOf 140 = .ok (.iload 4, 2) := by decide +kernel
theorem dX12_oddsOf_142 : decode cX12_oddsOf 142 = .ok (.ireturn, 1) := by decide +kernel
theorem dX12_odds_0 : decode cX12_odds 0 = .ok (.iload_n 1, 1) := by decide +kernel
theorem dX12_odds_1 : decode cX12_odds 1 = .ok (.i2l, 1) := by decide +kernel
theorem dX12_odds_2 : decode cX12_odds 2 = .ok (.lconst 0, 1) := by decide +kernel
theorem dX12_odds_3 : decode cX12_odds 3 = .ok (.lconst 1, 1) := by decide +kernel
theorem dX12_odds_4 : decode cX12_odds 4 = .ok (.invokestatic 70, 3) := by decide +kernel
theorem dX12_odds_7 : decode cX12_odds 7 = .ok (.ifCond .eq 25, 3) := by decide +kernel
theorem dX12_odds_10 : decode cX12_odds 10 = .ok (.aload_n 0, 1) := by decide +kernel
theorem dX12_odds_11 : decode cX12_odds 11 = .ok (.aload_n 0, 1) := by decide +kernel
theorem dX12_odds_12 : decode cX12_odds 12 = .ok (.iconst 5, 1) := by decide +kernel
theorem dX12_odds_13 : decode cX12_odds 13 = .ok (.invokevirtual 66, 3) := by decide +kernel
theorem dX12_odds_16 : decode cX12_odds 16 = .ok (.iload_n 1, 1) := by decide +kernel
theorem dX12_odds_17 : decode cX12_odds 17 = .ok (.iconst 1, 1) := by decide +kernel
theorem dX12_odds_18 : decode cX12_odds 18 = .ok (.if_icmp .ne 7, 3) := by decide +kernel
theorem dX12_odds_21 : decode cX12_odds 21 = .ok (.iconst 1, 1) := by decide +kernel
theorem dX12_odds_22 : decode cX12_odds 22 = .ok (.goto 4, 3) := by decide +kernel
theorem dX12_odds_25 : decode cX12_odds 25 = .ok (.iconst 0, 1) := by decide +kernel
theorem dX12_odds_26 : decode cX12_odds 26 = .ok (.invokevirtual 186, 3) := by decide +kernel
theorem dX12_odds_29 : decode cX12_odds 29 = .ok (.goto 5, 3) := by decide +kernel
theorem dX12_odds_32 : decode cX12_odds 32 = .ok (.bipush (-2), 2) := by decide +kernel
theorem dX12_odds_34 : decode cX12_odds 34 = .ok (.ireturn, 1) := by decide +kernel
theorem dX12_look_0 : decode cX12_look 0 = .ok (.aload_n 0, 1) := by decide +kernel
theorem dX12_look_1 : decode cX12_look 1 = .ok (.bipush 6, 2) := by decide +kernel
theorem dX12_look_3 : decode cX12_look 3 = .ok (.invokevirtual 66, 3) := by decide +kernel
theorem dX12_look_6 : decode cX12_look 6 = .ok (.ifCond .ne 7, 3) := by decide +kernel
theorem dX12_look_9 : decode cX12_look 9 = .ok (.iconst 0, 1) := by decide +kernel
theorem dX12_look_10 : decode cX12_look 10 = .ok (.goto 20, 3) := by decide +kernel
theorem dX12_look_13 : decode cX12_look 13 = .ok (.aload_n 0, 1) := by decide +kernel
theorem dX12_look_14 : decode cX12_look 14 = .ok (.getfield 7, 3) := by decide +kernel
theorem dX12_look_17 : decode cX12_look 17 = .ok (.sipush 4162, 3) := by decide +kernel
theorem dX12_look_20 : decode cX12_look 20 = .ok (.aload_n 0, 1) := by decide +kernel
theorem dX12_look_21 : decode cX12_look 21 = .ok (.bipush 6, 2) := by decide +kernel
theorem dX12_look_23 : decode cX12_look 23 = .ok (.invokevirtual 66, 3) := by decide +kernel
theorem dX12_look_26 : decode cX12_look 26 = .ok (.iadd, 1) := by decide +kernel
theorem dX12_look_27 : decode cX12_look 27 = .ok (.iconst 1, 1) := by decide +kernel
theorem dX12_look_28 : decode cX12_look 28 = .ok (.isub, 1) := by decide +kernel
theorem dX12_look_29 : decode cX12_look 29 = .ok (.iaload, 1) := by decide +kernel
theorem dX12_look_30 : decode cX12_look 30 = .ok (.istore_n 2, 1) := by decide +kernel
theorem dX12_look_31 : decode cX12_look 31 = .ok (.iload_n 1, 1) := by decide +kernel
theorem dX12_look_32 : decode cX12_look 32 = .ok (.i2l, 1) := by decide +kernel
theorem dX12_look_33 : decode cX12_look 33 = .ok (.iload_n 2, 1) := by decide +kernel
theorem dX12_look_34 : decode cX12_look 34 = .ok (.iconst 1, 1) := by decide +kernel
theorem dX12_look_35 : decode cX12_look 35 = .ok (.iadd, 1) := by decide +kernel
theorem dX12_look_36 : decode cX12_look 36 = .ok (.i2l, 1) := by decide +kernel
theorem dX12_look_37 : decode cX12_look 37 = .ok (.ldc2_w 105, 3) := by decide +kernel
theorem dX12_look_40 : decode cX12_look 40 = .ok (.invokestatic 70, 3) := by decide +kernel
theorem dX12_look_43 : decode cX12_look 43 = .ok (.ifCond .ne 6, 3) := by decide +kernel
theorem dX12_look_46 : decode cX12_look 46 = .ok (.bipush (-2), 2) := by decide +kernel
theorem dX12_look_48 : decode cX12_look 48 = .ok (.ireturn, 1) := by decide +kernel
theorem dX12_look_49 : decode cX12_look 49 = .ok (.aload_n 0, 1) := by decide +kernel
theorem dX12_look_50 : decode cX12_look 50 = .ok (.bipush 6, 2) := by decide +kernel
theorem dX12_look_52 : decode cX12_look 52 = .ok (.invokevirtual 66, 3) := by decide +kernel
theorem dX12_look_55 : decode cX12_look 55 = .ok (.bipush 8, 2) := by decide +kernel
theorem dX12_look_57 : decode cX12_look 57 = .ok (.if_icmp .ne 6, 3) := by decide +kernel
theorem dX12_look_60 : decode cX12_look 60 = .ok (.bipush (-4), 2) := by decide +kernel
theorem dX12_look_62 : decode cX12_look 62 = .ok (.ireturn, 1) := by decide +kernel
theorem dX12_look_63 : decode cX12_look 63 = .ok (.aload_n 0, 1) := by decide +kernel
theorem dX12_look_64 : decode cX12_look 64 = .ok (.getfield 7, 3) := by decide +kernel
theorem dX12_look_67 : decode cX12_look 67 = .ok (.sipush 4162, 3) := by decide +kernel
theorem dX12_look_70 : decode cX12_look 70 = .ok (.aload_n 0, 1) := by decide +kernel
theorem dX12_look_71 : decode cX12_look 71 = .ok (.bipush 6, 2) := by decide +kernel
theorem dX12_look_73 : decode cX12_look 73 = .ok (.invokevirtual 66, 3) := by decide +kernel
theorem dX12_look_76 : decode cX12_look 76 = .ok (.iadd, 1) := by decide +kernel
theorem dX12_look_77 : decode cX12_look 77 = .ok (.iload_n 1, 1) := by decide +kernel
theorem dX12_look_78 : decode cX12_look 78 = .ok (.iastore, 1) := by decide +kernel
theorem dX12_look_79 : decode cX12_look 79 = .ok (.aload_n 0, 1) := by decide +kernel
theorem dX12_look_80 : decode cX12_look 80 = .ok (.getfield 7, 3) := by decide +kernel
theorem dX12_look_83 : decode cX12_look 83 = .ok (.sipush 4216, 3) := by decide +kernel
theorem dX12_look_86 : decode cX12_look 86 = .ok (.dup2, 1) := by decide +kernel
theorem dX12_look_87 : decode cX12_look 87 = .ok (.iaload, 1) := by decide +kernel
theorem dX12_look_88 : decode cX12_look 88 = .ok (.iconst 1, 1) := by decide +kernel
theorem dX12_look_89 : decode cX12_look 89 = .ok (.iadd, 1) := by decide +kernel
theorem dX12_look_90 : decode cX12_look 90 = .ok (.iastore, 1) := by decide +kernel
theorem dX12_look_91 : decode cX12_look 91 = .ok (.aload_n 0, 1) := by decide +kernel
theorem dX12_look_92 : decode cX12_look 92 = .ok (.bipush 6, 2) := by decide +kernel
theorem dX12_look_94 : decode cX12_look 94 = .ok (.invokevirtual 66, 3) := by decide +kernel
theorem dX12_look_97 : decode cX12_look 97 = .ok (.ireturn, 1) := by decide +kernel
theorem dX12_sure_0 : decode cX12_sure 0 = .ok (.iload_n 1, 1) := by decide +kernel
theorem dX12_sure_1 : decode cX12_sure 1 = .ok (.i2l, 1) := by decide +kernel
theorem dX12_sure_2 : decode cX12_sure 2 = .ok (.ldc2_w 190, 3) := by decide +kernel
theorem dX12_sure_5 : decode cX12_sure 5 = .ok (.ldc2_w 80, 3) := by decide +kernel
theorem dX12_sure_8 : decode cX12_sure 8 = .ok (.invokestatic 70, 3) := by decide +kernel
theorem dX12_sure_11 : decode cX12_sure 11 = .ok (.ifCond .eq 15, 3) := by decide +kernel
theorem dX12_sure_14 : decode cX12_sure 14 = .ok (.iload_n 2, 1) := by decide +kernel
theorem dX12_sure_15 : decode cX12_sure 15 = .ok (.i2l, 1) := by decide +kernel
theorem dX12_sure_16 : decode cX12_sure 16 = .ok (.lconst 0, 1) := by decide +kernel
theorem dX12_sure_17 : decode cX12_sure 17 = .ok (.ldc2_w 192, 3) := by decide +kernel
theorem dX12_sure_20 : decode cX12_sure 20 = .ok (.invokestatic 70, 3) := by decide +kernel
theorem dX12_sure_23 : decode cX12_sure 23 = .ok (.ifCond .ne 6, 3) := by decide +kernel
theorem dX12_sure_26 : decode cX12_sure 26 = .ok (.bipush (-2), 2) := by decide +kernel
theorem dX12_sure_28 : decode cX12_sure 28 = .ok (.ireturn, 1) := by decide +kernel
theorem dX12_sure_29 : decode cX12_sure 29 = .ok (.aload_n 0, 1) := by decide +kernel
theorem dX12_sure_30 : decode cX12_sure 30 = .ok (.getfield 7, 3) := by decide +kernel
theorem dX12_sure_33 : decode cX12_sure 33 = .ok (.sipush 4218, 3) := by decide +kernel
theorem dX12_sure_36 : decode cX12_sure 36 = .ok (.iload_n 1, 1) := by decide +kernel
theorem dX12_sure_37 : decode cX12_sure 37 = .ok (.iastore, 1) := by decide +kernel
theorem dX12_sure_38 : decode cX12_sure 38 = .ok (.aload_n 0, 1) := by decide +kernel
theorem dX12_sure_39 : decode cX12_sure 39 = .ok (.getfield 7, 3) := by decide +kernel
theorem dX12_sure_42 : decode cX12_sure 42 = .ok (.sipush 4219, 3) := by decide +kernel
theorem dX12_sure_45 : decode cX12_sure 45 = .ok (.iload_n 2, 1) := by decide +kernel
theorem dX12_sure_46 : decode cX12_sure 46 = .ok (.iastore, 1) := by decide +kernel
theorem dX12_sure_47 : decode cX12_sure 47 = .ok (.aload_n 0, 1) := by decide +kernel
theorem dX12_sure_48 : decode cX12_sure 48 = .ok (.getfield 7, 3) := by decide +kernel
theorem dX12_sure_51 : decode cX12_sure 51 = .ok (.sipush 4216, 3) := by decide +kernel
theorem dX12_sure_54 : decode cX12_sure 54 = .ok (.iconst 0, 1) := by decide +kernel
theorem dX12_sure_55 : decode cX12_sure 55 = .ok (.iastore, 1) := by decide +kernel
theorem dX12_sure_56 : decode cX12_sure 56 = .ok (.iconst 1, 1) := by decide +kernel
theorem dX12_sure_57 : decode cX12_sure 57 = .ok (.ireturn, 1) := by decide +kernel
theorem dX12_answer_0 : decode cX12_answer 0 = .ok (.aload_n 0, 1) := by decide +kernel
theorem dX12_answer_1 : decode cX12_answer 1 = .ok (.bipush 6, 2) := by decide +kernel
theorem dX12_answer_3 : decode cX12_answer 3 = .ok (.invokevirtual 66, 3) := by decide +kernel
theorem dX12_answer_6 : decode cX12_answer 6 = .ok (.istore_n 1, 1) := by decide +kernel
theorem dX12_answer_7 : decode cX12_answer 7 = .ok (.iload_n 1, 1) := by decide +kernel
theorem dX12_answer_8 : decode cX12_answer 8 = .ok (.ifCond .ne 5, 3) := by decide +kernel
theorem dX12_answer_11 : decode cX12_answer 11 = .ok (.iconst 0, 1) := by decide +kernel
theorem dX12_answer_12 : decode cX12_answer 12 = .ok (.ireturn, 1) := by decide +kernel
theorem dX12_answer_13 : decode cX12_answer 13 = .ok (.iconst 0, 1) := by decide +kernel
theorem dX12_answer_14 : decode cX12_answer 14 = .ok (.istore_n 2, 1) := by decide +kernel
theorem dX12_answer_15 : decode cX12_answer 15 = .ok (.iload_n 2, 1) := by decide +kernel
theorem dX12_answer_16 : decode cX12_answer 16 = .ok (.iload_n 1, 1) := by decide +kernel
theorem dX12_answer_17 : decode cX12_answer 17 = .ok (.if_icmp .ge 88, 3) := by decide +kernel
theorem dX12_answer_20 : decode cX12_answer 20 = .ok (.aload_n 0, 1) := by decide +kernel
theorem dX12_answer_21 : decode cX12_answer 21 = .ok (.getfield 7, 3) := by decide +kernel
theorem dX12_answer_24 : decode cX12_answer 24 = .ok (.sipush 4162, 3) := by decide +kernel
theorem dX12_answer_27 : decode cX12_answer 27 = .ok (.iload_n 2, 1) := by decide +kernel
theorem dX12_answer_28 : decode cX12_answer 28 = .ok (.iadd, 1) := by decide +kernel
theorem dX12_answer_29 : decode cX12_answer 29 = .ok (.iaload, 1) := by decide +kernel
theorem dX12_answer_30 : decode cX12_answer 30 = .ok (.aload_n 0, 1) := by decide +kernel
theorem dX12_answer_31 : decode cX12_answer 31 = .ok (.iconst 5, 1) := by decide +kernel
theorem dX12_answer_32 : decode cX12_answer 32 = .ok (.invokevirtual 66, 3) := by decide +kernel
theorem dX12_answer_35 : decode cX12_answer 35 = .ok (.if_icmp .gt 70, 3) := by decide +kernel
theorem dX12_answer_38 : decode cX12_answer 38 = .ok (.aload_n 0, 1) := by decide +kernel
theorem dX12_answer_39 : decode cX12_answer 39 = .ok (.getfield 7, 3) := by decide +kernel
theorem dX12_answer_42 : decode cX12_answer 42 = .ok (.sipush 4162, 3) := by decide +kernel
theorem dX12_answer_45 : decode cX12_answer 45 = .ok (.iload_n 2, 1) := by decide +kernel
theorem dX12_answer_46 : decode cX12_answer 46 = .ok (.iadd, 1) := by decide +kernel
theorem dX12_answer_47 : decode cX12_answer 47 = .ok (.iaload, 1) := by decide +kernel
theorem dX12_answer_48 : decode cX12_answer 48 = .ok (.istore_n 3, 1) := by decide +kernel
theorem dX12_answer_49 : decode cX12_answer 49 = .ok (.aload_n 0, 1) := by decide +kernel
theorem dX12_answer_50 : decode cX12_answer 50 = .ok (.bipush 8, 2) := by decide +kernel
theorem dX12_answer_52 : decode cX12_answer 52 = .ok (.invokevirtual 66, 3) := by decide +kernel
theorem dX12_answer_55 : decode cX12_answer 55 = .ok (.i2l, 1) := by decide +kernel
theorem dX12_answer_56 : decode cX12_answer 56 = .ok (.iload_n 1, 1) := by decide +kernel
theorem dX12_answer_57 : decode cX12_answer 57 = .ok (.i2l, 1) := by decide +kernel
theorem dX12_answer_58 : decode cX12_answer 58 = .ok (.lmul, 1) := by decide +kernel
theorem dX12_answer_59 : decode cX12_answer 59 = .ok (.lstore 4, 2) := by decide +kernel
theorem dX12_answer_61 : decode cX12_answer 61 = .ok (.aload_n 0, 1) := by decide +kernel
theorem dX12_answer_62 : decode cX12_answer 62 = .ok (.iload_n 3, 1) := by decide +kernel
theorem dX12_answer_63 : decode cX12_answer 63 = .ok (.iconst 0, 1) := by decide +kernel
theorem dX12_answer_64 : decode cX12_answer 64 = .ok (.invokevirtual 186, 3) := by decide +kernel
theorem dX12_answer_67 : decode cX12_answer 67 = .ok (.i2l, 1) := by decide +kernel
theorem dX12_answer_68 : decode cX12_answer 68 = .ok (.lload 4, 2) := by decide +kernel
theorem dX12_answer_70 : decode cX12_answer 70 = .ok (.lmul, 1) := by decide +kernel
theorem dX12_answer_71 : decode cX12_answer 71 = .ok (.lconst 1, 1) := by decide +kernel
theorem dX12_answer_72 : decode cX12_answer 72 = .ok (.iload_n 3, 1) := by decide +kernel
theorem dX12_answer_73 : decode cX12_answer 73 = .ok (.lshl, 1) := by decide +kernel
theorem dX12_answer_74 : decode cX12_answer 74 = .ok (.lcmp, 1) := by decide +kernel
theorem dX12_answer_75 : decode cX12_answer 75 = .ok (.ifCond .gt 5, 3) := by decide +kernel
theorem dX12_answer_78 : decode cX12_answer 78 = .ok (.iconst 1, 1) := by decide +kernel
theorem dX12_answer_79 : decode cX12_answer 79 = .ok (.ireturn, 1) := by decide +kernel
theorem dX12_answer_80 : decode cX12_answer 80 = .ok (.aload_n 0, 1) := by decide +kernel
theorem dX12_answer_81 : decode cX12_answer 81 = .ok (.iload_n 3, 1) := by decide +kernel
theorem dX12_answer_82 : decode cX12_answer 82 = .ok (.iconst 1, 1) := by decide +kernel
theorem dX12_answer_83 : decode cX12_answer 83 = .ok (.invokevirtual 186, 3) := by decide +kernel
theorem dX12_answer_86 : decode cX12_answer 86 = .ok (.i2l, 1) := by decide +kernel
theorem dX12_answer_87 : decode cX12_answer 87 = .ok (.lload 4, 2) := by decide +kernel
theorem dX12_answer_89 : decode cX12_answer 89 = .ok (.lmul, 1) := by decide +kernel
theorem dX12_answer_90 : decode cX12_answer 90 = .ok (.lconst 1, 1) := by decide +kernel
theorem dX12_answer_91 : decode cX12_answer 91 = .ok (.iload_n 3, 1) := by decide +kernel
theorem dX12_answer_92 : decode cX12_answer 92 = .ok (.lshl, 1) := by decide +kernel
theorem dX12_answer_93 : decode cX12_answer 93 = .ok (.lcmp, 1) := by decide +kernel
theorem dX12_answer_94 : decode cX12_answer 94 = .ok (.ifCond .gt 5, 3) := by decide +kernel
theorem dX12_answer_97 : decode cX12_answer 97 = .ok (.iconst 2, 1) := by decide +kernel
theorem dX12_answer_98 : decode cX12_answer 98 = .ok (.ireturn, 1) := by decide +kernel
theorem dX12_answer_99 : decode cX12_answer 99 = .ok (.iinc 2 1, 3) := by decide +kernel
theorem dX12_answer_102 : decode cX12_answer 102 = .ok (.goto (-87), 3) := by decide +kernel
theorem dX12_answer_105 : decode cX12_answer 105 = .ok (.aload_n 0, 1) := by decide +kernel
theorem dX12_answer_106 : decode cX12_answer 106 = .ok (.getfield 7, 3) := by decide +kernel
theorem dX12_answer_109 : decode cX12_answer 109 = .ok (.sipush 4162, 3) := by decide +kernel
theorem dX12_answer_112 : decode cX12_answer 112 = .ok (.iload_n 1, 1) := by decide +kernel
theorem dX12_answer_113 : decode cX12_answer 113 = .ok (.iadd, 1) := by decide +kernel
theorem dX12_answer_114 : decode cX12_answer 114 = .ok (.iconst 1, 1) := by decide +kernel
theorem dX12_answer_115 : decode cX12_answer 115 = .ok (.isub, 1) := by decide +kernel
theorem dX12_answer_116 : decode cX12_answer 116 = .ok (.iaload, 1) := by decide +kernel
theorem dX12_answer_117 : decode cX12_answer 117 = .ok (.istore_n 2, 1) := by decide +kernel
theorem dX12_answer_118 : decode cX12_answer 118 = .ok (.iload_n 2, 1) := by decide +kernel
theorem dX12_answer_119 : decode cX12_answer 119 = .ok (.aload_n 0, 1) := by decide +kernel
theorem dX12_answer_120 : decode cX12_answer 120 = .ok (.iconst 5, 1) := by decide +kernel
theorem dX12_answer_121 : decode cX12_answer 121 = .ok (.invokevirtual 66, 3) := by decide +kernel
theorem dX12_answer_124 : decode cX12_answer 124 = .ok (.if_icmp .le 5, 3) := by decide +kernel
theorem dX12_answer_127 : decode cX12_answer 127 = .ok (.iconst 0, 1) := by decide +kernel
theorem dX12_answer_128 : decode cX12_answer 128 = .ok (.ireturn, 1) := by decide +kernel
theorem dX12_answer_129 : decode cX12_answer 129 = .ok (.aload_n 0, 1) := by decide +kernel
theorem dX12_answer_130 : decode cX12_answer 130 = .ok (.iconst 0, 1) := by decide +kernel
theorem dX12_answer_131 : decode cX12_answer 131 = .ok (.putfield 171, 3) := by decide +kernel
theorem dX12_answer_134 : decode cX12_answer 134 = .ok (.iconst 0, 1) := by decide +kernel
theorem dX12_answer_135 : decode cX12_answer 135 = .ok (.istore_n 3, 1) := by decide +kernel
theorem dX12_answer_136 : decode cX12_answer 136 = .ok (.iload_n 3, 1) := by decide +kernel
theorem dX12_answer_137 : decode cX12_answer 137 = .ok (.iload_n 2, 1) := by decide +kernel
theorem dX12_answer_138 : decode cX12_answer 138 = .ok (.if_icmp .ge 23, 3) := by decide +kernel
theorem dX12_answer_141 : decode cX12_answer 141 = .ok (.aload_n 0, 1) := by decide +kernel
theorem dX12_answer_142 : decode cX12_answer 142 = .ok (.aload_n 0, 1) := by decide +kernel
theorem dX12_answer_143 : decode cX12_answer 143 = .ok (.getfield 7, 3) := by decide +kernel
theorem dX12_answer_146 : decode cX12_answer 146 = .ok (.sipush 4146, 3) := by decide +kernel
theorem dX12_answer_149 : decode cX12_answer 149 = .ok (.iload_n 3, 1) := by decide +kernel
theorem dX12_answer_150 : decode cX12_answer 150 = .ok (.iadd, 1) := by decide +kernel
theorem dX12_answer_151 : decode cX12_answer 151 = .ok (.iaload, 1) := by decide +kernel
theorem dX12_answer_152 : decode cX12_answer 152 = .ok (.invokevirtual 174, 3) := by decide +kernel
theorem dX12_answer_155 : decode cX12_answer 155 = .ok (.iinc 3 1, 3) := by decide +kernel
theorem dX12_answer_158 : decode cX12_answer 158 = .ok (.goto (-22), 3) := by decide +kernel
theorem dX12_answer_161 : decode cX12_answer 161 = .ok (.aload_n 0, 1) := by decide +kernel
theorem dX12_answer_162 : decode cX12_answer 162 = .ok (.invokevirtual 181, 3) := by decide +kernel
theorem dX12_answer_165 : decode cX12_answer 165 = .ok (.i2l, 1) := by decide +kernel
theorem dX12_answer_166 : decode cX12_answer 166 = .ok (.aload_n 0, 1) := by decide +kernel
theorem dX12_answer_167 : decode cX12_answer 167 = .ok (.bipush 9, 2) := by decide +kernel
theorem dX12_answer_169 : decode cX12_answer 169 = .ok (.invokevirtual 66, 3) := by decide +kernel
theorem dX12_answer_172 : decode cX12_answer 172 = .ok (.ineg, 1) := by decide +kernel
theorem dX12_answer_173 : decode cX12_answer 173 = .ok (.i2l, 1) := by decide +kernel
theorem dX12_answer_174 : decode cX12_answer 174 = .ok (.aload_n 0, 1) := by decide +kernel
theorem dX12_answer_175 : decode cX12_answer 175 = .ok (.bipush 9, 2) := by decide +kernel
theorem dX12_answer_177 : decode cX12_answer 177 = .ok (.invokevirtual 66, 3) := by decide +kernel
theorem dX12_answer_180 : decode cX12_answer 180 = .ok (.i2l, 1) := by decide +kernel
theorem dX12_answer_181 : decode cX12_answer 181 = .ok (.invokestatic 70, 3) := by decide +kernel
theorem dX12_answer_184 : decode cX12_answer 184 = .ok (.ifCond .eq 7, 3) := by decide +kernel
theorem dX12_answer_187 : decode cX12_answer 187 = .ok (.iconst 3, 1) := by decide +kernel
theorem dX12_answer_188 : decode cX12_answer 188 = .ok (.goto 4, 3) := by decide +kernel
theorem dX12_answer_191 : decode cX12_answer 191 = .ok (.iconst 4, 1) := by decide +kernel
theorem dX12_answer_192 : decode cX12_answer 192 = .ok (.ireturn, 1) := by decide +kernel
theorem dX12_farOf_0 : decode cX12_farOf 0 = .ok (.aload_n 0, 1) := by decide +kernel
theorem dX12_farOf_1 : decode cX12_farOf 1 = .ok (.iconst 0, 1) := by decide +kernel
theorem dX12_farOf_2 : decode cX12_farOf 2 = .ok (.putfield 171, 3) := by decide +kernel
theorem dX12_farOf_5 : decode cX12_farOf 5 = .ok (.iload_n 1, 1) := by decide +kernel
theorem dX12_farOf_6 : decode cX12_farOf 6 = .ok (.istore_n 3, 1) := by decide +kernel
theorem dX12_farOf_7 : decode cX12_farOf 7 = .ok (.iload_n 3, 1) := by decide +kernel
theorem dX12_farOf_8 : decode cX12_farOf 8 = .ok (.iload_n 2, 1) := by decide +kernel
theorem dX12_farOf_9 : decode cX12_farOf 9 = .ok (.if_icmp .ge 19, 3) := by decide +kernel
theorem dX12_farOf_12 : decode cX12_farOf 12 = .ok (.aload_n 0, 1) := by decide +kernel
theorem dX12_farOf_13 : decode cX12_farOf 13 = .ok (.aload_n 0, 1) := by decide +kernel
theorem dX12_farOf_14 : decode cX12_farOf 14 = .ok (.getfield 41, 3) := by decide +kernel
theorem dX12_farOf_17 : decode cX12_farOf 17 = .ok (.iload_n 3, 1) := by decide +kernel
theorem dX12_farOf_18 : decode cX12_farOf 18 = .ok (.iaload, 1) := by decide +kernel
theorem dX12_farOf_19 : decode cX12_farOf 19 = .ok (.invokevirtual 174, 3) := by decide +kernel
theorem dX12_farOf_22 : decode cX12_farOf 22 = .ok (.iinc 3 1, 3) := by decide +kernel
theorem dX12_farOf_25 : decode cX12_farOf 25 = .ok (.goto (-18), 3) := by decide +kernel
theorem dX12_farOf_28 : decode cX12_farOf 28 = .ok (.aload_n 0, 1) := by decide +kernel
theorem dX12_farOf_29 : decode cX12_farOf 29 = .ok (.invokevirtual 181, 3) := by decide +kernel
theorem dX12_farOf_32 : decode cX12_farOf 32 = .ok (.istore_n 3, 1) := by decide +kernel
theorem dX12_farOf_33 : decode cX12_farOf 33 = .ok (.iconst 0, 1) := by decide +kernel
theorem dX12_farOf_34 : decode cX12_farOf 34 = .ok (.istore 4, 2) := by decide +kernel
theorem dX12_farOf_36 : decode cX12_farOf 36 = .ok (.iload_n 1, 1) := by decide +kernel
theorem dX12_farOf_37 : decode cX12_farOf 37 = .ok (.istore 5, 2) := by decide +kernel
theorem dX12_farOf_39 : decode cX12_farOf 39 = .ok (.iload 5, 2) := by decide +kernel
theorem dX12_farOf_41 : decode cX12_farOf 41 = .ok (.iload_n 2, 1) := by decide +kernel
theorem dX12_farOf_42 : decode cX12_farOf 42 = .ok (.if_icmp .ge 46, 3) := by decide +kernel
theorem dX12_farOf_45 : decode cX12_farOf 45 = .ok (.iload 4, 2) := by decide +kernel
theorem dX12_farOf_47 : decode cX12_farOf 47 = .ok (.aload_n 0, 1) := by decide +kernel
theorem dX12_farOf_48 : decode cX12_farOf 48 = .ok (.getfield 41, 3) := by decide +kernel
theorem dX12_farOf_51 : decode cX12_farOf 51 = .ok (.iload 5, 2) := by decide +kernel
theorem dX12_farOf_53 : decode cX12_farOf 53 = .ok (.iaload, 1) := by decide +kernel
theorem dX12_farOf_54 : decode cX12_farOf 54 = .ok (.iload_n 3, 1) := by decide +kernel
theorem dX12_farOf_55 : decode cX12_farOf 55 = .ok (.if_icmp .le 15, 3) := by decide +kernel
theorem dX12_farOf_58 : decode cX12_farOf 58 = .ok (.aload_n 0, 1) := by decide +kernel
theorem dX12_farOf_59 : decode cX12_farOf 59 = .ok (.getfield 41, 3) := by decide +kernel
theorem dX12_farOf_62 : decode cX12_farOf 62 = .ok (.iload 5, 2) := by decide +kernel
theorem dX12_farOf_64 : decode cX12_farOf 64 = .ok (.iaload, 1) := by decide +kernel
theorem dX12_farOf_65 : decode cX12_farOf 65 = .ok (.iload_n 3, 1) := by decide +kernel
theorem dX12_farOf_66 : decode cX12_farOf 66 = .ok (.isub, 1) := by decide +kernel
theorem dX12_farOf_67 : decode cX12_farOf 67 = .ok (.goto 12, 3) := by decide +kernel
theorem dX12_farOf_70 : decode cX12_farOf 70 = .ok (.iload_n 3, 1) := by decide +kernel
theorem dX12_farOf_71 : decode cX12_farOf 71 = .ok (.aload_n 0, 1) := by decide +kernel
theorem dX12_farOf_72 : decode cX12_farOf 72 = .ok (.getfield 41, 3) := by decide +kernel
theorem dX12_farOf_75 : decode cX12_farOf 75 = .ok (.iload 5, 2) := by decide +kernel
theorem dX12_farOf_77 : decode cX12_farOf 77 = .ok (.iaload, 1) := by decide +kernel
theorem dX12_farOf_78 : decode cX12_farOf 78 = .ok (.isub, 1) := by decide +kernel
theorem dX12_farOf_79 : decode cX12_farOf 79 = .ok (.iadd, 1) := by decide +kernel
theorem dX12_farOf_80 : decode cX12_farOf 80 = .ok (.istore 4, 2) := by decide +kernel
theorem dX12_farOf_82 : decode cX12_farOf 82 = .ok (.iinc 5 1, 3) := by decide +kernel
theorem dX12_farOf_85 : decode cX12_farOf 85 = .ok (.goto (-46), 3) := by decide +kernel
theorem dX12_farOf_88 : decode cX12_farOf 88 = .ok (.iload 4, 2) := by decide +kernel
theorem dX12_farOf_90 : decode cX12_farOf 90 = .ok (.ireturn, 1) := by decide +kernel
theorem dX12_step__0 : decode cX12_step_ 0 = .ok (.aload_n 0, 1) := by decide +kernel
theorem dX12_step__1 : decode cX12_step_ 1 = .ok (.iconst 2, 1) := by decide +kernel
theorem dX12_step__2 : decode cX12_step_ 2 = .ok (.iload_n 1, 1) := by decide +kernel
theorem dX12_step__3 : decode cX12_step_ 3 = .ok (.invokevirtual 84, 3) := by decide +kernel
theorem dX12_step__6 : decode cX12_step_ 6 = .ok (.ifCond .eq 54, 3) := by decide +kernel
theorem dX12_step__9 : decode cX12_step_ 9 = .ok (.aload_n 0, 1) := by decide +kernel
theorem dX12_step__10 : decode cX12_step_ 10 = .ok (.iconst 2, 1) := by decide +kernel
theorem dX12_step__11 : decode cX12_step_ 11 = .ok (.iload_n 2, 1) := by decide +kernel
theorem dX12_step__12 : decode cX12_step_ 12 = .ok (.invokevirtual 84, 3) := by decide +kernel
theorem dX12_step__15 : decode cX12_step_ 15 = .ok (.ifCond .eq 45, 3) := by decide +kernel
theorem dX12_step__18 : decode cX12_step_ 18 = .ok (.iload_n 1, 1) := by decide +kernel
theorem dX12_step__19 : decode cX12_step_ 19 = .ok (.iload_n 2, 1) := by decide +kernel
theorem dX12_step__20 : decode cX12_step_ 20 = .ok (.if_icmp .gt 40, 3) := by decide +kernel
theorem dX12_step__23 : decode cX12_step_ 23 = .ok (.aload_n 0, 1) := by decide +kernel
theorem dX12_step__24 : decode cX12_step_ 24 = .ok (.iload_n 1, 1) := by decide +kernel
theorem dX12_step__25 : decode cX12_step_ 25 = .ok (.iload_n 3, 1) := by decide +kernel
theorem dX12_step__26 : decode cX12_step_ 26 = .ok (.iload 4, 2) := by decide +kernel
theorem dX12_step__28 : decode cX12_step_ 28 = .ok (.invokevirtual 152, 3) := by decide +kernel
theorem dX12_step__31 : decode cX12_step_ 31 = .ok (.ifCond .eq 29, 3) := by decide +kernel
theorem dX12_step__34 : decode cX12_step_ 34 = .ok (.iload 5, 2) := by decide +kernel
theorem dX12_step__36 : decode cX12_step_ 36 = .ok (.i2l, 1) := by decide +kernel
theorem dX12_step__37 : decode cX12_step_ 37 = .ok (.lconst 0, 1) := by decide +kernel
theorem dX12_step__38 : decode cX12_step_ 38 = .ok (.ldc2_w 194, 3) := by decide +kernel
theorem dX12_step__41 : decode cX12_step_ 41 = .ok (.invokestatic 70, 3) := by decide +kernel
theorem dX12_step__44 : decode cX12_step_ 44 = .ok (.ifCond .eq 16, 3) := by decide +kernel
theorem dX12_step__47 : decode cX12_step_ 47 = .ok (.iload 6, 2) := by decide +kernel
theorem dX12_step__49 : decode cX12_step_ 49 = .ok (.i2l, 1) := by decide +kernel
theorem dX12_step__50 : decode cX12_step_ 50 = .ok (.lconst 0, 1) := by decide +kernel
theorem dX12_step__51 : decode cX12_step_ 51 = .ok (.ldc2_w 190, 3) := by decide +kernel
theorem dX12_step__54 : decode cX12_step_ 54 = .ok (.invokestatic 70, 3) := by decide +kernel
theorem dX12_step__57 : decode cX12_step_ 57 = .ok (.ifCond .ne 6, 3) := by decide +kernel
theorem dX12_step__60 : decode cX12_step_ 60 = .ok (.bipush (-2), 2) := by decide +kernel
theorem dX12_step__62 : decode cX12_step_ 62 = .ok (.ireturn, 1) := by decide +kernel
theorem dX12_step__63 : decode cX12_step_ 63 = .ok (.iconst 0, 1) := by decide +kernel
theorem dX12_step__64 : decode cX12_step_ 64 = .ok (.istore 7, 2) := by decide +kernel
theorem dX12_step__66 : decode cX12_step_ 66 = .ok (.iload_n 1, 1) := by decide +kernel
theorem dX12_step__67 : decode cX12_step_ 67 = .ok (.istore 8, 2) := by decide +kernel
theorem dX12_step__69 : decode cX12_step_ 69 = .ok (.iload 8, 2) := by decide +kernel
theorem dX12_step__71 : decode cX12_step_ 71 = .ok (.iload_n 2, 1) := by decide +kernel
theorem dX12_step__72 : decode cX12_step_ 72 = .ok (.if_icmp .gt 51, 3) := by decide +kernel
theorem dX12_step__75 : decode cX12_step_ 75 = .ok (.aload_n 0, 1) := by decide +kernel
theorem dX12_step__76 : decode cX12_step_ 76 = .ok (.iload 8, 2) := by decide +kernel
theorem dX12_step__78 : decode cX12_step_ 78 = .ok (.iload_n 3, 1) := by decide +kernel
theorem dX12_step__79 : decode cX12_step_ 79 = .ok (.iload 4, 2) := by decide +kernel
theorem dX12_step__81 : decode cX12_step_ 81 = .ok (.sipush 200, 3) := by decide +kernel
theorem dX12_step__84 : decode cX12_step_ 84 = .ok (.invokevirtual 178, 3) := by decide +kernel
theorem dX12_step__87 : decode cX12_step_ 87 = .ok (.aload_n 0, 1) := by decide +kernel
theorem dX12_step__88 : decode cX12_step_ 88 = .ok (.getfield 171, 3) := by decide +kernel
theorem dX12_step__91 : decode cX12_step_ 91 = .ok (.ifCond .le 26, 3) := by decide +kernel
theorem dX12_step__94 : decode cX12_step_ 94 = .ok (.aload_n 0, 1) := by decide +kernel
theorem dX12_step__95 : decode cX12_step_ 95 = .ok (.getfield 41, 3) := by decide +kernel
theorem dX12_step__98 : decode cX12_step_ 98 = .ok (.iload 7, 2) := by decide +kernel
theorem dX12_step__100 : decode cX12_step_ 100 = .ok (.aload_n 0, 1) := by decide +kernel
theorem dX12_step__101 : decode cX12_step_ 101 = .ok (.invokevirtual 181, 3) := by decide +kernel
theorem dX12_step__104 : decode cX12_step_ 104 = .ok (.iastore, 1) := by decide +kernel
theorem dX12_step__105 : decode cX12_step_ 105 = .ok (.aload_n 0, 1) := by decide +kernel
theorem dX12_step__106 : decode cX12_step_ 106 = .ok (.getfield 44, 3) := by decide +kernel
theorem dX12_step__109 : decode cX12_step_ 109 = .ok (.iload 7, 2) := by decide +kernel
theorem dX12_step__111 : decode cX12_step_ 111 = .ok (.iload 8, 2) := by decide +kernel
theorem dX12_step__113 : decode cX12_step_ 113 = .ok (.iastore, 1) := by decide +kernel
theorem dX12_step__114 : decode cX12_step_ 114 = .ok (.iinc 7 1, 3) := by decide +kernel
theorem dX12_step__117 : decode cX12_step_ 117 = .ok (.iinc 8 1, 3) := by decide +kernel
theorem dX12_step__120 : decode cX12_step_ 120 = .ok (.goto (-51), 3) := by decide +kernel
theorem dX12_step__123 : decode cX12_step_ 123 = .ok (.iload 7, 2) := by decide +kernel
theorem dX12_step__125 : decode cX12_step_ 125 = .ok (.iconst 2, 1) := by decide +kernel
theorem dX12_step__126 : decode cX12_step_ 126 = .ok (.if_icmp .ge 5, 3) := by decide +kernel
theorem dX12_step__129 : decode cX12_step_ 129 = .ok (.iconst (-1), 1) := by decide +kernel
theorem dX12_step__130 : decode cX12_step_ 130 = .ok (.ireturn, 1) := by decide +kernel
theorem dX12_step__131 : decode cX12_step_ 131 = .ok (.iconst 1, 1) := by decide +kernel
theorem dX12_step__132 : decode cX12_step_ 132 = .ok (.istore 8, 2) := by decide +kernel
theorem dX12_step__134 : decode cX12_step_ 134 = .ok (.iconst 1, 1) := by decide +kernel
theorem dX12_step__135 : decode cX12_step_ 135 = .ok (.istore 9, 2) := by decide +kernel
theorem dX12_step__137 : decode cX12_step_ 137 = .ok (.iload 9, 2) := by decide +kernel
theorem dX12_step__139 : decode cX12_step_ 139 = .ok (.iload 7, 2) := by decide +kernel
theorem dX12_step__141 : decode cX12_step_ 141 = .ok (.if_icmp .ge 58, 3) := by decide +kernel
theorem dX12_step__144 : decode cX12_step_ 144 = .ok (.aload_n 0, 1) := by decide +kernel
theorem dX12_step__145 : decode cX12_step_ 145 = .ok (.getfield 47, 3) := by decide +kernel
theorem dX12_step__148 : decode cX12_step_ 148 = .ok (.iload 9, 2) := by decide +kernel
theorem dX12_step__150 : decode cX12_step_ 150 = .ok (.aload_n 0, 1) := by decide +kernel
theorem dX12_step__151 : decode cX12_step_ 151 = .ok (.iconst 0, 1) := by decide +kernel
theorem dX12_step__152 : decode cX12_step_ 152 = .ok (.iload 9, 2) := by decide +kernel
theorem dX12_step__154 : decode cX12_step_ 154 = .ok (.invokevirtual 196, 3) := by decide +kernel
theorem dX12_step__157 : decode cX12_step_ 157 = .ok (.aload_n 0, 1) := by decide +kernel
theorem dX12_step__158 : decode cX12_step_ 158 = .ok (.iload 9, 2) := by decide +kernel
theorem dX12_step__160 : decode cX12_step_ 160 = .ok (.iload 7, 2) := by decide +kernel
theorem dX12_step__162 : decode cX12_step_ 162 = .ok (.invokevirtual 196, 3) := by decide +kernel
theorem dX12_step__165 : decode cX12_step_ 165 = .ok (.iadd, 1) := by decide +kernel
theorem dX12_step__166 : decode cX12_step_ 166 = .ok (.iastore, 1) := by decide +kernel
theorem dX12_step__167 : decode cX12_step_ 167 = .ok (.aload_n 0, 1) := by decide +kernel
theorem dX12_step__168 : decode cX12_step_ 168 = .ok (.getfield 47, 3) := by decide +kernel
theorem dX12_step__171 : decode cX12_step_ 171 = .ok (.iload 9, 2) := by decide +kernel
theorem dX12_step__173 : decode cX12_step_ 173 = .ok (.iaload, 1) := by decide +kernel
theorem dX12_step__174 : decode cX12_step_ 174 = .ok (.aload_n 0, 1) := by decide +kernel
theorem dX12_step__175 : decode cX12_step_ 175 = .ok (.getfield 47, 3) := by decide +kernel
theorem dX12_step__178 : decode cX12_step_ 178 = .ok (.iload 8, 2) := by decide +kernel
theorem dX12_step__180 : decode cX12_step_ 180 = .ok (.iaload, 1) := by decide +kernel
theorem dX12_step__181 : decode cX12_step_ 181 = .ok (.if_icmp .ge 8, 3) := by decide +kernel
theorem dX12_step__184 : decode cX12_step_ 184 = .ok (.iload 9, 2) := by decide +kernel
theorem dX12_step__186 : decode cX12_step_ 186 = .ok (.goto 5, 3) := by decide +kernel
theorem dX12_step__189 : decode cX12_step_ 189 = .ok (.iload 8, 2) := by decide +kernel
theorem dX12_step__191 : decode cX12_step_ 191 = .ok (.istore 8, 2) := by decide +kernel
theorem dX12_step__193 : decode cX12_step_ 193 = .ok (.iinc 9 1, 3) := by decide +kernel
theorem dX12_step__196 : decode cX12_step_ 196 = .ok (.goto (-59), 3) := by decide +kernel
theorem dX12_step__199 : decode cX12_step_ 199 = .ok (.iconst 0, 1) := by decide +kernel
theorem dX12_step__200 : decode cX12_step_ 200 = .ok (.istore 9, 2) := by decide +kernel
theorem dX12_step__202 : decode cX12_step_ 202 = .ok (.iconst 1, 1) := by decide +kernel
theorem dX12_step__203 : decode cX12_step_ 203 = .ok (.istore 10, 2) := by decide +kernel
theorem dX12_step__205 : decode cX12_step_ 205 = .ok (.iload 10, 2) := by decide +kernel
theorem dX12_step__207 : decode cX12_step_ 207 = .ok (.iload 7, 2) := by decide +kernel
theorem dX12_step__209 : decode cX12_step_ 209 = .ok (.if_icmp .ge 47, 3) := by decide +kernel
theorem dX12_step__212 : decode cX12_step_ 212 = .ok (.iload 9, 2) := by decide +kernel
theorem dX12_step__214 : decode cX12_step_ 214 = .ok (.aload_n 0, 1) := by decide +kernel
theorem dX12_step__215 : decode cX12_step_ 215 = .ok (.getfield 47, 3) := by decide +kernel
theorem dX12_step__218 : decode cX12_step_ 218 = .ok (.iload 10, 2) := by decide +kernel
theorem dX12_step__220 : decode cX12_step_ 220 = .ok (.iaload, 1) := by decide +kernel
theorem dX12_step__221 : decode cX12_step_ 221 = .ok (.aload_n 0, 1) := by decide +kernel
theorem dX12_step__222 : decode cX12_step_ 222 = .ok (.getfield 47, 3) := by decide +kernel
theorem dX12_step__225 : decode cX12_step_ 225 = .ok (.iload 8, 2) := by decide +kernel
theorem dX12_step__227 : decode cX12_step_ 227 = .ok (.iaload, 1) := by decide +kernel
theorem dX12_step__228 : decode cX12_step_ 228 = .ok (.iload 5, 2) := by decide +kernel
theorem dX12_step__230 : decode cX12_step_ 230 = .ok (.iadd, 1) := by decide +kernel
theorem dX12_step__231 : decode cX12_step_ 231 = .ok (.if_icmp .gt 15, 3) := by decide +kernel
theorem dX12_step__234 : decode cX12_step_ 234 = .ok (.iconst 1, 1) := by decide +kernel
theorem dX12_step__235 : decode cX12_step_ 235 = .ok (.aload_n 0, 1) := by decide +kernel
theorem dX12_step__236 : decode cX12_step_ 236 = .ok (.getfield 44, 3) := by decide +kernel
theorem dX12_step__239 : decode cX12_step_ 239 = .ok (.iload 10, 2) := by decide +kernel
theorem dX12_step__241 : decode cX12_step_ 241 = .ok (.iaload, 1) := by decide +kernel
theorem dX12_step__242 : decode cX12_step_ 242 = .ok (.ishl, 1) := by decide +kernel
theorem dX12_step__243 : decode cX12_step_ 243 = .ok (.goto 4, 3) := by decide +kernel
theorem dX12_step__246 : decode cX12_step_ 246 = .ok (.iconst 0, 1) := by decide +kernel
theorem dX12_step__247 : decode cX12_step_ 247 = .ok (.ior, 1) := by decide +kernel
theorem dX12_step__248 : decode cX12_step_ 248 = .ok (.istore 9, 2) := by decide +kernel
theorem dX12_step__250 : decode cX12_step_ 250 = .ok (.iinc 10 1, 3) := by decide +kernel
theorem dX12_step__253 : decode cX12_step_ 253 = .ok (.goto (-48), 3) := by decide +kernel
theorem dX12_step__256 : decode cX12_step_ 256 = .ok (.iload 6, 2) := by decide +kernel
theorem dX12_step__258 : decode cX12_step_ 258 = .ok (.ifCond .ne 13, 3) := by decide +kernel
theorem dX12_step__261 : decode cX12_step_ 261 = .ok (.aload_n 0, 1) := by decide +kernel
theorem dX12_step__262 : decode cX12_step_ 262 = .ok (.getfield 44, 3) := by decide +kernel
theorem dX12_step__265 : decode cX12_step_ 265 = .ok (.iload 8, 2) := by decide +kernel
theorem dX12_step__267 : decode cX12_step_ 267 = .ok (.iaload, 1) := by decide +kernel
theorem dX12_step__268 : decode cX12_step_ 268 = .ok (.goto 21, 3) := by decide +kernel
theorem dX12_step__271 : decode cX12_step_ 271 = .ok (.iload 6, 2) := by decide +kernel
theorem dX12_step__273 : decode cX12_step_ 273 = .ok (.iconst 1, 1) := by decide +kernel
theorem dX12_step__274 : decode cX12_step_ 274 = .ok (.if_icmp .ne 13, 3) := by decide +kernel
theorem dX12_step__277 : decode cX12_step_ 277 = .ok (.aload_n 0, 1) := by decide +kernel
theorem dX12_step__278 : decode cX12_step_ 278 = .ok (.getfield 47, 3) := by decide +kernel
theorem dX12_step__281 : decode cX12_step_ 281 = .ok (.iload 8, 2) := by decide +kernel
theorem dX12_step__283 : decode cX12_step_ 283 = .ok (.iaload, 1) := by decide +kernel
theorem dX12_step__284 : decode cX12_step_ 284 = .ok (.goto 5, 3) := by decide +kernel
theorem dX12_step__287 : decode cX12_step_ 287 = .ok (.iload 9, 2) := by decide +kernel
theorem dX12_step__289 : decode cX12_step_ 289 = .ok (.ireturn, 1) := by decide +kernel
theorem dX12_back_0 : decode cX12_back 0 = .ok (.aload_n 0, 1) := by decide +kernel
theorem dX12_back_1 : decode cX12_back 1 = .ok (.iload_n 1, 1) := by decide +kernel
theorem dX12_back_2 : decode cX12_back 2 = .ok (.iload_n 3, 1) := by decide +kernel
theorem dX12_back_3 : decode cX12_back 3 = .ok (.iload 4, 2) := by decide +kernel
theorem dX12_back_5 : decode cX12_back 5 = .ok (.invokevirtual 152, 3) := by decide +kernel
theorem dX12_back_8 : decode cX12_back 8 = .ok (.ifCond .eq 38, 3) := by decide +kernel
theorem dX12_back_11 : decode cX12_back 11 = .ok (.aload_n 0, 1) := by decide +kernel
theorem dX12_back_12 : decode cX12_back 12 = .ok (.iconst 2, 1) := by decide +kernel
theorem dX12_back_13 : decode cX12_back 13 = .ok (.iload_n 2, 1) := by decide +kernel
theorem dX12_back_14 : decode cX12_back 14 = .ok (.invokevirtual 84, 3) := by decide +kernel
theorem dX12_back_17 : decode cX12_back 17 = .ok (.ifCond .eq 29, 3) := by decide +kernel
theorem dX12_back_20 : decode cX12_back 20 = .ok (.iload 5, 2) := by decide +kernel
theorem dX12_back_22 : decode cX12_back 22 = .ok (.i2l, 1) := by decide +kernel
theorem dX12_back_23 : decode cX12_back 23 = .ok (.lconst 0, 1) := by decide +kernel
theorem dX12_back_24 : decode cX12_back 24 = .ok (.ldc2_w 194, 3) := by decide +kernel
theorem dX12_back_27 : decode cX12_back 27 = .ok (.invokestatic 70, 3) := by decide +kernel
theorem dX12_back_30 : decode cX12_back 30 = .ok (.ifCond .eq 16, 3) := by decide +kernel
theorem dX12_back_33 : decode cX12_back 33 = .ok (.iload 6, 2) := by decide +kernel
theorem dX12_back_35 : decode cX12_back 35 = .ok (.i2l, 1) := by decide +kernel
theorem dX12_back_36 : decode cX12_back 36 = .ok (.lconst 0, 1) := by decide +kernel
theorem dX12_back_37 : decode cX12_back 37 = .ok (.ldc2_w 190, 3) := by decide +kernel
theorem dX12_back_40 : decode cX12_back 40 = .ok (.invokestatic 70, 3) := by decide +kernel
theorem dX12_back_43 : decode cX12_back 43 = .ok (.ifCond .ne 6, 3) := by decide +kernel
theorem dX12_back_46 : decode cX12_back 46 = .ok (.bipush (-2), 2) := by decide +kernel
theorem dX12_back_48 : decode cX12_back 48 = .ok (.ireturn, 1) := by decide +kernel
theorem dX12_back_49 : decode cX12_back 49 = .ok (.aload_n 0, 1) := by decide +kernel
theorem dX12_back_50 : decode cX12_back 50 = .ok (.getfield 7, 3) := by decide +kernel
theorem dX12_back_53 : decode cX12_back 53 = .ok (.sipush 1026, 3) := by decide +kernel
theorem dX12_back_56 : decode cX12_back 56 = .ok (.iconst 2, 1) := by decide +kernel
theorem dX12_back_57 : decode cX12_back 57 = .ok (.iload_n 1, 1) := by decide +kernel
theorem dX12_back_58 : decode cX12_back 58 = .ok (.imul, 1) := by decide +kernel
theorem dX12_back_59 : decode cX12_back 59 = .ok (.iadd, 1) := by decide +kernel
theorem dX12_back_60 : decode cX12_back 60 = .ok (.iaload, 1) := by decide +kernel
theorem dX12_back_61 : decode cX12_back 61 = .ok (.istore 7, 2) := by decide +kernel
theorem dX12_back_63 : decode cX12_back 63 = .ok (.iload 7, 2) := by decide +kernel
theorem dX12_back_65 : decode cX12_back 65 = .ok (.aload_n 0, 1) := by decide +kernel
theorem dX12_back_66 : decode cX12_back 66 = .ok (.getfield 7, 3) := by decide +kernel
theorem dX12_back_69 : decode cX12_back 69 = .ok (.sipush 1026, 3) := by decide +kernel
theorem dX12_back_72 : decode cX12_back 72 = .ok (.iconst 2, 1) := by decide +kernel
theorem dX12_back_73 : decode cX12_back 73 = .ok (.iload_n 2, 1) := by decide +kernel
theorem dX12_back_74 : decode cX12_back 74 = .ok (.imul, 1) := by decide +kernel
theorem dX12_back_75 : decode cX12_back 75 = .ok (.iadd, 1) := by decide +kernel
theorem dX12_back_76 : decode cX12_back 76 = .ok (.iaload, 1) := by decide +kernel
theorem dX12_back_77 : decode cX12_back 77 = .ok (.if_icmp .eq 6, 3) := by decide +kernel
theorem dX12_back_80 : decode cX12_back 80 = .ok (.bipush (-3), 2) := by decide +kernel
theorem dX12_back_82 : decode cX12_back 82 = .ok (.ireturn, 1) := by decide +kernel
theorem dX12_back_83 : decode cX12_back 83 = .ok (.aload_n 0, 1) := by decide +kernel
theorem dX12_back_84 : decode cX12_back 84 = .ok (.iload 7, 2) := by decide +kernel
theorem dX12_back_86 : decode cX12_back 86 = .ok (.aload_n 0, 1) := by decide +kernel
theorem dX12_back_87 : decode cX12_back 87 = .ok (.getfield 7, 3) := by decide +kernel
theorem dX12_back_90 : decode cX12_back 90 = .ok (.sipush 1026, 3) := by decide +kernel
theorem dX12_back_93 : decode cX12_back 93 = .ok (.iconst 2, 1) := by decide +kernel
theorem dX12_back_94 : decode cX12_back 94 = .ok (.iload_n 2, 1) := by decide +kernel
theorem dX12_back_95 : decode cX12_back 95 = .ok (.imul, 1) := by decide +kernel
theorem dX12_back_96 : decode cX12_back 96 = .ok (.iadd, 1) := by decide +kernel
theorem dX12_back_97 : decode cX12_back 97 = .ok (.iconst 1, 1) := by decide +kernel
theorem dX12_back_98 : decode cX12_back 98 = .ok (.iadd, 1) := by decide +kernel
theorem dX12_back_99 : decode cX12_back 99 = .ok (.iaload, 1) := by decide +kernel
theorem dX12_back_100 : decode cX12_back 100 = .ok (.iload_n 3, 1) := by decide +kernel
theorem dX12_back_101 : decode cX12_back 101 = .ok (.iload 4, 2) := by decide +kernel
theorem dX12_back_103 : decode cX12_back 103 = .ok (.invokevirtual 167, 3) := by decide +kernel
theorem dX12_back_106 : decode cX12_back 106 = .ok (.aload_n 0, 1) := by decide +kernel
theorem dX12_back_107 : decode cX12_back 107 = .ok (.getfield 119, 3) := by decide +kernel
theorem dX12_back_110 : decode cX12_back 110 = .ok (.ifCond .eq 6, 3) := by decide +kernel
theorem dX12_back_113 : decode cX12_back 113 = .ok (.bipush (-3), 2) := by decide +kernel
theorem dX12_back_115 : decode cX12_back 115 = .ok (.ireturn, 1) := by decide +kernel
theorem dX12_back_116 : decode cX12_back 116 = .ok (.aload_n 0, 1) := by decide +kernel
theorem dX12_back_117 : decode cX12_back 117 = .ok (.getfield 35, 3) := by decide +kernel
theorem dX12_back_120 : decode cX12_back 120 = .ok (.iconst 5, 1) := by decide +kernel
theorem dX12_back_121 : decode cX12_back 121 = .ok (.iaload, 1) := by decide +kernel
theorem dX12_back_122 : decode cX12_back 122 = .ok (.iload 5, 2) := by decide +kernel
theorem dX12_back_124 : decode cX12_back 124 = .ok (.iadd, 1) := by decide +kernel
theorem dX12_back_125 : decode cX12_back 125 = .ok (.istore 8, 2) := by decide +kernel
theorem dX12_back_127 : decode cX12_back 127 = .ok (.aload_n 0, 1) := by decide +kernel
theorem dX12_back_128 : decode cX12_back 128 = .ok (.getfield 7, 3) := by decide +kernel
theorem dX12_back_131 : decode cX12_back 131 = .ok (.sipush 1026, 3) := by decide +kernel
theorem dX12_back_134 : decode cX12_back 134 = .ok (.iconst 2, 1) := by decide +kernel
theorem dX12_back_135 : decode cX12_back 135 = .ok (.iload_n 1, 1) := by decide +kernel
theorem dX12_back_136 : decode cX12_back 136 = .ok (.imul, 1) := by decide +kernel
theorem dX12_back_137 : decode cX12_back 137 = .ok (.iadd, 1) := by decide +kernel
theorem dX12_back_138 : decode cX12_back 138 = .ok (.iconst 1, 1) := by decide +kernel
theorem dX12_back_139 : decode cX12_back 139 = .ok (.iadd, 1) := by decide +kernel
theorem dX12_back_140 : decode cX12_back 140 = .ok (.iaload, 1) := by decide +kernel
theorem dX12_back_141 : decode cX12_back 141 = .ok (.istore 9, 2) := by decide +kernel
theorem dX12_back_143 : decode cX12_back 143 = .ok (.iload 9, 2) := by decide +kernel
theorem dX12_back_145 : decode cX12_back 145 = .ok (.aload_n 0, 1) := by decide +kernel
theorem dX12_back_146 : decode cX12_back 146 = .ok (.getfield 7, 3) := by decide +kernel
theorem dX12_back_149 : decode cX12_back 149 = .ok (.sipush 1026, 3) := by decide +kernel
theorem dX12_back_152 : decode cX12_back 152 = .ok (.iconst 2, 1) := by decide +kernel
theorem dX12_back_153 : decode cX12_back 153 = .ok (.iload_n 2, 1) := by decide +kernel
theorem dX12_back_154 : decode cX12_back 154 = .ok (.imul, 1) := by decide +kernel
theorem dX12_back_155 : decode cX12_back 155 = .ok (.iadd, 1) := by decide +kernel
theorem dX12_back_156 : decode cX12_back 156 = .ok (.iconst 1, 1) := by decide +kernel
theorem dX12_back_157 : decode cX12_back 157 = .ok (.iadd, 1) := by decide +kernel
theorem dX12_back_158 : decode cX12_back 158 = .ok (.iaload, 1) := by decide +kernel
theorem dX12_back_159 : decode cX12_back 159 = .ok (.iconst (-1), 1) := by decide +kernel
theorem dX12_back_160 : decode cX12_back 160 = .ok (.ixor, 1) := by decide +kernel
theorem dX12_back_161 : decode cX12_back 161 = .ok (.iand, 1) := by decide +kernel
theorem dX12_back_162 : decode cX12_back 162 = .ok (.istore 10, 2) := by decide +kernel
theorem dX12_back_164 : decode cX12_back 164 = .ok (.iconst 0, 1) := by decide +kernel
theorem dX12_back_165 : decode cX12_back 165 = .ok (.istore 11, 2) := by decide +kernel
theorem dX12_back_167 : decode cX12_back 167 = .ok (.iconst (-1), 1) := by decide +kernel
theorem dX12_back_168 : decode cX12_back 168 = .ok (.istore 12, 2) := by decide +kernel
theorem dX12_back_170 : decode cX12_back 170 = .ok (.bipush 99, 2) := by decide +kernel
theorem dX12_back_172 : decode cX12_back 172 = .ok (.istore 13, 2) := by decide +kernel
theorem dX12_back_174 : decode cX12_back 174 = .ok (.iconst 0, 1) := by decide +kernel
theorem dX12_back_175 : decode cX12_back 175 = .ok (.istore 14, 2) := by decide +kernel
theorem dX12_back_177 : decode cX12_back 177 = .ok (.iconst 0, 1) := by decide +kernel
theorem dX12_back_178 : decode cX12_back 178 = .ok (.istore 15, 2) := by decide +kernel
theorem dX12_back_180 : decode cX12_back 180 = .ok (.iload 15, 2) := by decide +kernel
theorem dX12_back_182 : decode cX12_back 182 = .ok (.sipush 1024, 3) := by decide +kernel
theorem dX12_back_185 : decode cX12_back 185 = .ok (.if_icmp .ge 249, 3) := by decide +kernel
theorem dX12_back_188 : decode cX12_back 188 = .ok (.aload_n 0, 1) := by decide +kernel
theorem dX12_back_189 : decode cX12_back 189 = .ok (.getfield 50, 3) := by decide +kernel
theorem dX12_back_192 : decode cX12_back 192 = .ok (.iload 15, 2) := by decide +kernel
theorem dX12_back_194 : decode cX12_back 194 = .ok (.iconst 0, 1) := by decide +kernel
theorem dX12_back_195 : decode cX12_back 195 = .ok (.bastore, 1) := by decide +kernel
theorem dX12_back_196 : decode cX12_back 196 = .ok (.aload_n 0, 1) := by decide +kernel
theorem dX12_back_197 : decode cX12_back 197 = .ok (.getfield 53, 3) := by decide +kernel
theorem dX12_back_200 : decode cX12_back 200 = .ok (.iload 15, 2) := by decide +kernel
theorem dX12_back_202 : decode cX12_back 202 = .ok (.iconst 0, 1) := by decide +kernel
theorem dX12_back_203 : decode cX12_back 203 = .ok (.bastore, 1) := by decide +kernel
theorem dX12_back_204 : decode cX12_back 204 = .ok (.iload 15, 2) := by decide +kernel
theorem dX12_back_206 : decode cX12_back 206 = .ok (.iload 10, 2) := by decide +kernel
theorem dX12_back_208 : decode cX12_back 208 = .ok (.iconst (-1), 1) := by decide +kernel
theorem dX12_back_209 : decode cX12_back 209 = .ok (.ixor, 1) := by decide +kernel
theorem dX12_back_210 : decode cX12_back 210 = .ok (.iand, 1) := by decide +kernel
theorem dX12_back_211 : decode cX12_back 211 = .ok (.ifCond .ne 217, 3) := by decide +kernel
theorem dX12_back_214 : decode cX12_back 214 = .ok (.aload_n 0, 1) := by decide +kernel
theorem dX12_back_215 : decode cX12_back 215 = .ok (.iload 7, 2) := by decide +kernel
theorem dX12_back_217 : decode cX12_back 217 = .ok (.iload 9, 2) := by decide +kernel
theorem dX12_back_219 : decode cX12_back 219 = .ok (.iload 15, 2) := by decide +kernel
theorem dX12_back_221 : decode cX12_back 221 = .ok (.iconst (-1), 1) := by decide +kernel
theorem dX12_back_222 : decode cX12_back 222 = .ok (.ixor, 1) := by decide +kernel
theorem dX12_back_223 : decode cX12_back 223 = .ok (.iand, 1) := by decide +kernel
theorem dX12_back_224 : decode cX12_back 224 = .ok (.iload_n 3, 1) := by decide +kernel
theorem dX12_back_225 : decode cX12_back 225 = .ok (.iload 4, 2) := by decide +kernel
theorem dX12_back_227 : decode cX12_back 227 = .ok (.invokevirtual 167, 3) := by decide +kernel
theorem dX12_back_230 : decode cX12_back 230 = .ok (.aload_n 0, 1) := by decide +kernel
theorem dX12_back_231 : decode cX12_back 231 = .ok (.getfield 50, 3) := by decide +kernel
theorem dX12_back_234 : decode cX12_back 234 = .ok (.iload 15, 2) := by decide +kernel
theorem dX12_back_236 : decode cX12_back 236 = .ok (.aload_n 0, 1) := by decide +kernel
theorem dX12_back_237 : decode cX12_back 237 = .ok (.getfield 119, 3) := by decide +kernel
theorem dX12_back_240 : decode cX12_back 240 = .ok (.ifCond .ne 18, 3) := by decide +kernel
theorem dX12_back_243 : decode cX12_back 243 = .ok (.aload_n 0, 1) := by decide +kernel
theorem dX12_back_244 : decode cX12_back 244 = .ok (.getfield 35, 3) := by decide +kernel
theorem dX12_back_247 : decode cX12_back 247 = .ok (.iconst 5, 1) := by decide +kernel
theorem dX12_back_248 : decode cX12_back 248 = .ok (.iaload, 1) := by decide +kernel
theorem dX12_back_249 : decode cX12_back 249 = .ok (.iload 8, 2) := by decide +kernel
theorem dX12_back_251 : decode cX12_back 251 = .ok (.if_icmp .gt 7, 3) := by decide +kernel
theorem dX12_back_254 : decode cX12_back 254 = .ok (.iconst 1, 1) := by decide +kernel
theorem dX12_back_255 : decode cX12_back 255 = .ok (.goto 4, 3) := by decide +kernel
theorem dX12_back_258 : decode cX12_back 258 = .ok (.iconst 0, 1) := by decide +kernel
theorem dX12_back_259 : decode cX12_back 259 = .ok (.bastore, 1) := by decide +kernel
theorem dX12_back_260 : decode cX12_back 260 = .ok (.iconst 0, 1) := by decide +kernel
theorem dX12_back_261 : decode cX12_back 261 = .ok (.istore 16, 2) := by decide +kernel
theorem dX12_back_263 : decode cX12_back 263 = .ok (.iconst 0, 1) := by decide +kernel
theorem dX12_back_264 : decode cX12_back 264 = .ok (.istore 17, 2) := by decide +kernel
theorem dX12_back_266 : decode cX12_back 266 = .ok (.iload 17, 2) := by decide +kernel
theorem dX12_back_268 : decode cX12_back 268 = .ok (.bipush 10, 2) := by decide +kernel
theorem dX12_back_270 : decode cX12_back 270 = .ok (.if_icmp .ge 76, 3) := by decide +kernel
theorem dX12_back_273 : decode cX12_back 273 = .ok (.iload 15, 2) := by decide +kernel
theorem dX12_back_275 : decode cX12_back 275 = .ok (.iload 17, 2) := by decide +kernel
theorem dX12_back_277 : decode cX12_back 277 = .ok (.ishr, 1) := by decide +kernel
theorem dX12_back_278 : decode cX12_back 278 = .ok (.iconst 1, 1) := by decide +kernel
theorem dX12_back_279 : decode cX12_back 279 = .ok (.iand, 1) := by decide +kernel
theorem dX12_back_280 : decode cX12_back 280 = .ok (.iconst 1, 1) := by decide +kernel
theorem dX12_back_281 : decode cX12_back 281 = .ok (.if_icmp .ne 59, 3) := by decide +kernel
theorem dX12_back_284 : decode cX12_back 284 = .ok (.iinc 16 1, 3) := by decide +kernel
theorem dX12_back_287 : decode cX12_back 287 = .ok (.iload 15, 2) := by decide +kernel
theorem dX12_back_289 : decode cX12_back 289 = .ok (.iconst 1, 1) := by decide +kernel
theorem dX12_back_290 : decode cX12_back 290 = .ok (.iload 17, 2) := by decide +kernel
theorem dX12_back_292 : decode cX12_back 292 = .ok (.ishl, 1) := by decide +kernel
theorem dX12_back_293 : decode cX12_back 293 = .ok (.iconst (-1), 1) := by decide +kernel
theorem dX12_back_294 : decode cX12_back 294 = .ok (.ixor, 1) := by decide +kernel
theorem dX12_back_295 : decode cX12_back 295 = .ok (.iand, 1) := by decide +kernel
theorem dX12_back_296 : decode cX12_back 296 = .ok (.istore 18, 2) := by decide +kernel
theorem dX12_back_298 : decode cX12_back 298 = .ok (.aload_n 0, 1) := by decide +kernel
theorem dX12_back_299 : decode cX12_back 299 = .ok (.getfield 53, 3) := by decide +kernel
theorem dX12_back_302 : decode cX12_back 302 = .ok (.iload 15, 2) := by decide +kernel
theorem dX12_back_304 : decode cX12_back 304 = .ok (.aload_n 0, 1) := by decide +kernel
theorem dX12_back_305 : decode cX12_back 305 = .ok (.getfield 53, 3) := by decide +kernel
theorem dX12_back_308 : decode cX12_back 308 = .ok (.iload 15, 2) := by decide +kernel
theorem dX12_back_310 : decode cX12_back 310 = .ok (.baload, 1) := by decide +kernel
theorem dX12_back_311 : decode cX12_back 311 = .ok (.ifCond .ne 23, 3) := by decide +kernel
theorem dX12_back_314 : decode cX12_back 314 = .ok (.aload_n 0, 1) := by decide +kernel
theorem dX12_back_315 : decode cX12_back 315 = .ok (.getfield 50, 3) := by decide +kernel
theorem dX12_back_318 : decode cX12_back 318 = .ok (.iload 18, 2) := by decide +kernel
theorem dX12_back_320 : decode cX12_back 320 = .ok (.baload, 1) := by decide +kernel
theorem dX12_back_321 : decode cX12_back 321 = .ok (.ifCond .ne 13, 3) := by decide +kernel
theorem dX12_back_324 : decode cX12_back 324 = .ok (.aload_n 0, 1) := by decide +kernel
theorem dX12_back_325 : decode cX12_back 325 = .ok (.getfield 53, 3) := by decide +kernel
theorem dX12_back_328 : decode cX12_back 328 = .ok (.iload 18, 2) := by decide +kernel
theorem dX12_back_330 : decode cX12_back 330 = .ok (.baload, 1) := by decide +kernel
theorem dX12_back_331 : decode cX12_back 331 = .ok (.ifCond .eq 7, 3) := by decide +kernel
theorem dX12_back_334 : decode cX12_back 334 = .ok (.iconst 1, 1) := by decide +kernel
theorem dX12_back_335 : decode cX12_back 335 = .ok (.goto 4, 3) := by decide +kernel
theorem dX12_back_338 : decode cX12_back 338 = .ok (.iconst 0, 1) := by decide +kernel
theorem dX12_back_339 : decode cX12_back 339 = .ok (.bastore, 1) := by decide +kernel
theorem dX12_back_340 : decode cX12_back 340 = .ok (.iinc 17 1, 3) := by decide +kernel
theorem dX12_back_343 : decode cX12_back 343 = .ok (.goto (-77), 3) := by decide +kernel
theorem dX12_back_346 : decode cX12_back 346 = .ok (.aload_n 0, 1) := by decide +kernel
theorem dX12_back_347 : decode cX12_back 347 = .ok (.getfield 50, 3) := by decide +kernel
theorem dX12_back_350 : decode cX12_back 350 = .ok (.iload 15, 2) := by decide +kernel
theorem dX12_back_352 : decode cX12_back 352 = .ok (.baload, 1) := by decide +kernel
theorem dX12_back_353 : decode cX12_back 353 = .ok (.ifCond .eq 48, 3) := by decide +kernel
theorem dX12_back_356 : decode cX12_back 356 = .ok (.aload_n 0, 1) := by decide +kernel
theorem dX12_back_357 : decode cX12_back 357 = .ok (.getfield 53, 3) := by decide +kernel
theorem dX12_back_360 : decode cX12_back 360 = .ok (.iload 15, 2) := by decide +kernel
theorem dX12_back_362 : decode cX12_back 362 = .ok (.baload, 1) := by decide +kernel
theorem dX12_back_363 : decode cX12_back 363 = .ok (.ifCond .ne 38, 3) := by decide +kernel
theorem dX12_back_366 : decode cX12_back 366 = .ok (.iinc 11 1, 3) := by decide +kernel
theorem dX12_back_369 : decode cX12_back 369 = .ok (.iload 16, 2) := by decide +kernel
theorem dX12_back_371 : decode cX12_back 371 = .ok (.iload 13, 2) := by decide +kernel
theorem dX12_back_373 : decode cX12_back 373 = .ok (.if_icmp .ge 8, 3) := by decide +kernel
theorem dX12_back_376 : decode cX12_back 376 = .ok (.iload 15, 2) := by decide +kernel
theorem dX12_back_378 : decode cX12_back 378 = .ok (.goto 5, 3) := by decide +kernel
theorem dX12_back_381 : decode cX12_back 381 = .ok (.iload 12, 2) := by decide +kernel
theorem dX12_back_383 : decode cX12_back 383 = .ok (.istore 12, 2) := by decide +kernel
theorem dX12_back_385 : decode cX12_back 385 = .ok (.iload 16, 2) := by decide +kernel
theorem dX12_back_387 : decode cX12_back 387 = .ok (.iload 13, 2) := by decide +kernel
theorem dX12_back_389 : decode cX12_back 389 = .ok (.if_icmp .ge 8, 3) := by decide +kernel
theorem dX12_back_392 : decode cX12_back 392 = .ok (.iload 16, 2) := by decide +kernel
theorem dX12_back_394 : decode cX12_back 394 = .ok (.goto 5, 3) := by decide +kernel
theorem dX12_back_397 : decode cX12_back 397 = .ok (.iload 13, 2) := by decide +kernel
theorem dX12_back_399 : decode cX12_back 399 = .ok (.istore 13, 2) := by decide +kernel
theorem dX12_back_401 : decode cX12_back 401 = .ok (.iload 14, 2) := by decide +kernel
theorem dX12_back_403 : decode cX12_back 403 = .ok (.aload_n 0, 1) := by decide +kernel
theorem dX12_back_404 : decode cX12_back 404 = .ok (.getfield 50, 3) := by decide +kernel
theorem dX12_back_407 : decode cX12_back 407 = .ok (.iload 15, 2) := by decide +kernel
theorem dX12_back_409 : decode cX12_back 409 = .ok (.baload, 1) := by decide +kernel
theorem dX12_back_410 : decode cX12_back 410 = .ok (.ifCond .eq 14, 3) := by decide +kernel
theorem dX12_back_413 : decode cX12_back 413 = .ok (.iload 16, 2) := by decide +kernel
theorem dX12_back_415 : decode cX12_back 415 = .ok (.iconst 1, 1) := by decide +kernel
theorem dX12_back_416 : decode cX12_back 416 = .ok (.if_icmp .ne 8, 3) := by decide +kernel
theorem dX12_back_419 : decode cX12_back 419 = .ok (.iload 15, 2) := by decide +kernel
theorem dX12_back_421 : decode cX12_back 421 = .ok (.goto 4, 3) := by decide +kernel
theorem dX12_back_424 : decode cX12_back 424 = .ok (.iconst 0, 1) := by decide +kernel
theorem dX12_back_425 : decode cX12_back 425 = .ok (.ior, 1) := by decide +kernel
theorem dX12_back_426 : decode cX12_back 426 = .ok (.istore 14, 2) := by decide +kernel
theorem dX12_back_428 : decode cX12_back 428 = .ok (.iinc 15 1, 3) := by decide +kernel
theorem dX12_back_431 : decode cX12_back 431 = .ok (.goto (-251), 3) := by decide +kernel
theorem dX12_back_434 : decode cX12_back 434 = .ok (.iload 6, 2) := by decide +kernel
theorem dX12_back_436 : decode cX12_back 436 = .ok (.ifCond .ne 8, 3) := by decide +kernel
theorem dX12_back_439 : decode cX12_back 439 = .ok (.iload 11, 2) := by decide +kernel
theorem dX12_back_441 : decode cX12_back 441 = .ok (.goto 16, 3) := by decide +kernel
theorem dX12_back_444 : decode cX12_back 444 = .ok (.iload 6, 2) := by decide +kernel
theorem dX12_back_446 : decode cX12_back 446 = .ok (.iconst 1, 1) := by decide +kernel
theorem dX12_back_447 : decode cX12_back 447 = .ok (.if_icmp .ne 8, 3) := by decide +kernel
theorem dX12_back_450 : decode cX12_back 450 = .ok (.iload 12, 2) := by decide +kernel
theorem dX12_back_452 : decode cX12_back 452 = .ok (.goto 5, 3) := by decide +kernel
theorem dX12_back_455 : decode cX12_back 455 = .ok (.iload 14, 2) := by decide +kernel
theorem dX12_back_457 : decode cX12_back 457 = .ok (.ireturn, 1) := by decide +kernel
theorem dX12_isOf_0 : decode cX12_isOf 0 = .ok (.aload_n 0, 1) := by decide +kernel
theorem dX12_isOf_1 : decode cX12_isOf 1 = .ok (.getfield 7, 3) := by decide +kernel
theorem dX12_isOf_4 : decode cX12_isOf 4 = .ok (.sipush 1346, 3) := by decide +kernel
theorem dX12_isOf_7 : decode cX12_isOf 7 = .ok (.bipush 14, 2) := by decide +kernel
theorem dX12_isOf_9 : decode cX12_isOf 9 = .ok (.iload_n 1, 1) := by decide +kernel
theorem dX12_isOf_10 : decode cX12_isOf 10 = .ok (.imul, 1) := by decide +kernel
theorem dX12_isOf_11 : decode cX12_isOf 11 = .ok (.iadd, 1) := by decide +kernel
theorem dX12_isOf_12 : decode cX12_isOf 12 = .ok (.bipush 8, 2) := by decide +kernel
theorem dX12_isOf_14 : decode cX12_isOf 14 = .ok (.iadd, 1) := by decide +kernel
theorem dX12_isOf_15 : decode cX12_isOf 15 = .ok (.iaload, 1) := by decide +kernel
theorem dX12_isOf_16 : decode cX12_isOf 16 = .ok (.iload_n 2, 1) := by decide +kernel
theorem dX12_isOf_17 : decode cX12_isOf 17 = .ok (.if_icmp .ne 26, 3) := by decide +kernel
theorem dX12_isOf_20 : decode cX12_isOf 20 = .ok (.aload_n 0, 1) := by decide +kernel
theorem dX12_isOf_21 : decode cX12_isOf 21 = .ok (.getfield 7, 3) := by decide +kernel
theorem dX12_isOf_24 : decode cX12_isOf 24 = .ok (.sipush 1346, 3) := by decide +kernel
theorem dX12_isOf_27 : decode cX12_isOf 27 = .ok (.bipush 14, 2) := by decide +kernel
theorem dX12_isOf_29 : decode cX12_isOf 29 = .ok (.iload_n 1, 1) := by decide +kernel
theorem dX12_isOf_30 : decode cX12_isOf 30 = .ok (.imul, 1) := by decide +kernel
theorem dX12_isOf_31 : decode cX12_isOf 31 = .ok (.iadd, 1) := by decide +kernel
theorem dX12_isOf_32 : decode cX12_isOf 32 = .ok (.bipush 6, 2) := by decide +kernel
theorem dX12_isOf_34 : decode cX12_isOf 34 = .ok (.iadd, 1) := by decide +kernel
theorem dX12_isOf_35 : decode cX12_isOf 35 = .ok (.iaload, 1) := by decide +kernel
theorem dX12_isOf_36 : decode cX12_isOf 36 = .ok (.ifCond .ne 7, 3) := by decide +kernel
theorem dX12_isOf_39 : decode cX12_isOf 39 = .ok (.iconst 1, 1) := by decide +kernel
theorem dX12_isOf_40 : decode cX12_isOf 40 = .ok (.goto 4, 3) := by decide +kernel
theorem dX12_isOf_43 : decode cX12_isOf 43 = .ok (.iconst 0, 1) := by decide +kernel
theorem dX12_isOf_44 : decode cX12_isOf 44 = .ok (.ireturn, 1) := by decide +kernel
theorem dX12_isCounter_0 : decode cX12_isCounter 0 = .ok (.iload_n 0, 1) := by decide +kernel
theorem dX12_isCounter_1 : decode cX12_isCounter 1 = .ok (.i2l, 1) := by decide +kernel
theorem dX12_isCounter_2 : decode cX12_isCounter 2 = .ok (.lconst 0, 1) := by decide +kernel
theorem dX12_isCounter_3 : decode cX12_isCounter 3 = .ok (.ldc2_w 200, 3) := by decide +kernel
theorem dX12_isCounter_6 : decode cX12_isCounter 6 = .ok (.invokestatic 70, 3) := by decide +kernel
theorem dX12_isCounter_9 : decode cX12_isCounter 9 = .ok (.ireturn, 1) := by decide +kernel
theorem dX12_with_0 : decode cX12_with 0 = .ok (.iload_n 1, 1) := by decide +kernel
theorem dX12_with_1 : decode cX12_with 1 = .ok (.invokestatic 100, 3) := by decide +kernel
theorem dX12_with_4 : decode cX12_with 4 = .ok (.ifCond .eq 10, 3) := by decide +kernel
theorem dX12_with_7 : decode cX12_with 7 = .ok (.iload_n 2, 1) := by decide +kernel
theorem dX12_with_8 : decode cX12_with 8 = .ok (.invokestatic 202, 3) := by decide +kernel
theorem dX12_with_11 : decode cX12_with 11 = .ok (.ifCond .ne 7, 3) := by decide +kernel
theorem dX12_with_14 : decode cX12_with 14 = .ok (.ldc2_w 205, 3) := by decide +kernel
theorem dX12_with_17 : decode cX12_with 17 = .ok (.lreturn, 1) := by decide +kernel
theorem dX12_with_18 : decode cX12_with 18 = .ok (.lconst 0, 1) := by decide +kernel
theorem dX12_with_19 : decode cX12_with 19 = .ok (.lstore_n 3, 1) := by decide +kernel
theorem dX12_with_20 : decode cX12_with 20 = .ok (.lconst 0, 1) := by decide +kernel
theorem dX12_with_21 : decode cX12_with 21 = .ok (.lstore 5, 2) := by decide +kernel
theorem dX12_with_23 : decode cX12_with 23 = .ok (.lconst 0, 1) := by decide +kernel
theorem dX12_with_24 : decode cX12_with 24 = .ok (.lstore 7, 2) := by decide +kernel
theorem dX12_with_26 : decode cX12_with 26 = .ok (.lconst 0, 1) := by decide +kernel
theorem dX12_with_27 : decode cX12_with 27 = .ok (.lstore 9, 2) := by decide +kernel
theorem dX12_with_29 : decode cX12_with 29 = .ok (.iconst 0, 1) := by decide +kernel
theorem dX12_with_30 : decode cX12_with 30 = .ok (.istore 11, 2) := by decide +kernel
theorem dX12_with_32 : decode cX12_with 32 = .ok (.iload 11, 2) := by decide +kernel
theorem dX12_with_34 : decode cX12_with 34 = .ok (.aload_n 0, 1) := by decide +kernel
theorem dX12_with_35 : decode cX12_with 35 = .ok (.iconst 4, 1) := by decide +kernel
theorem dX12_with_36 : decode cX12_with 36 = .ok (.invokevirtual 66, 3) := by decide +kernel
theorem dX12_with_39 : decode cX12_with 39 = .ok (.if_icmp .ge 85, 3) := by decide +kernel
theorem dX12_with_42 : decode cX12_with 42 = .ok (.aload_n 0, 1) := by decide +kernel
theorem dX12_with_43 : decode cX12_with 43 = .ok (.iload 11, 2) := by decide +kernel
theorem dX12_with_45 : decode cX12_with 45 = .ok (.iload_n 1, 1) := by decide +kernel
theorem dX12_with_46 : decode cX12_with 46 = .ok (.invokevirtual 207, 3) := by decide +kernel
theorem dX12_with_49 : decode cX12_with 49 = .ok (.ifCond .eq 69, 3) := by decide +kernel
theorem dX12_with_52 : decode cX12_with 52 = .ok (.aload_n 0, 1) := by decide +kernel
theorem dX12_with_53 : decode cX12_with 53 = .ok (.getfield 7, 3) := by decide +kernel
theorem dX12_with_56 : decode cX12_with 56 = .ok (.sipush 1346, 3) := by decide +kernel
theorem dX12_with_59 : decode cX12_with 59 = .ok (.bipush 14, 2) := by decide +kernel
theorem dX12_with_61 : decode cX12_with 61 = .ok (.iload 11, 2) := by decide +kernel
theorem dX12_with_63 : decode cX12_with 63 = .ok (.imul, 1) := by decide +kernel
theorem dX12_with_64 : decode cX12_with 64 = .ok (.iadd, 1) := by decide +kernel
theorem dX12_with_65 : decode cX12_with 65 = .ok (.iload_n 2, 1) := by decide +kernel
theorem dX12_with_66 : decode cX12_with 66 = .ok (.iadd, 1) := by decide +kernel
theorem dX12_with_67 : decode cX12_with 67 = .ok (.iaload, 1) := by decide +kernel
theorem dX12_with_68 : decode cX12_with 68 = .ok (.i2l, 1) := by decide +kernel
theorem dX12_with_69 : decode cX12_with 69 = .ok (.lstore 12, 2) := by decide +kernel
theorem dX12_with_71 : decode cX12_with 71 = .ok (.aload_n 0, 1) := by decide +kernel
theorem dX12_with_72 : decode cX12_with 72 = .ok (.getfield 7, 3) := by decide +kernel
theorem dX12_with_75 : decode cX12_with 75 = .ok (.sipush 1346, 3) := by decide +kernel
theorem dX12_with_78 : decode cX12_with 78 = .ok (.bipush 14, 2) := by decide +kernel
theorem dX12_with_80 : decode cX12_with 80 = .ok (.iload 11, 2) := by decide +kernel
theorem dX12_with_82 : decode cX12_with 82 = .ok (.imul, 1) := by decide +kernel
theorem dX12_with_83 : decode cX12_with 83 = .ok (.iadd, 1) := by decide +kernel
theorem dX12_with_84 : decode cX12_with 84 = .ok (.iconst 5, 1) := by decide +kernel
theorem dX12_with_85 : decode cX12_with 85 = .ok (.iadd, 1) := by decide +kernel
theorem dX12_with_86 : decode cX12_with 86 = .ok (.iaload, 1) := by decide +kernel
theorem dX12_with_87 : decode cX12_with 87 = .ok (.i2l, 1) := by decide +kernel
theorem dX12_with_88 : decode cX12_with 88 = .ok (.lstore 14, 2) := by decide +kernel
theorem dX12_with_90 : decode cX12_with 90 = .ok (.lload_n 3, 1) := by decide +kernel
theorem dX12_with_91 : decode cX12_with 91 = .ok (.lconst 1, 1) := by decide +kernel
theorem dX12_with_92 : decode cX12_with 92 = .ok (.ladd, 1) := by decide +kernel
theorem dX12_with_93 : decode cX12_with 93 = .ok (.lstore_n 3, 1) := by decide +kernel
theorem dX12_with_94 : decode cX12_with 94 = .ok (.lload 5, 2) := by decide +kernel
theorem dX12_with_96 : decode cX12_with 96 = .ok (.lload 12, 2) := by decide +kernel
theorem dX12_with_98 : decode cX12_with 98 = .ok (.lload 14, 2) := by decide +kernel
theorem dX12_with_100 : decode cX12_with 100 = .ok (.lmul, 1) := by decide +kernel
theorem dX12_with_101 : decode cX12_with 101 = .ok (.ladd, 1) := by decide +kernel
theorem dX12_with_102 : decode cX12_with 102 = .ok (.lstore 5, 2) := by decide +kernel
theorem dX12_with_104 : decode cX12_with 104 = .ok (.lload 7, 2) := by decide +kernel
theorem dX12_with_106 : decode cX12_with 106 = .ok (.lload 12, 2) := by decide +kernel
theorem dX12_with_108 : decode cX12_with 108 = .ok (.ladd, 1) := by decide +kernel
theorem dX12_with_109 : decode cX12_with 109 = .ok (.lstore 7, 2) := by decide +kernel
theorem dX12_with_111 : decode cX12_with 111 = .ok (.lload 9, 2) := by decide +kernel
theorem dX12_with_113 : decode cX12_with 113 = .ok (.lload 14, 2) := by decide +kernel
theorem dX12_with_115 : decode cX12_with 115 = .ok (.ladd, 1) := by decide +kernel
theorem dX12_with_116 : decode cX12_with 116 = .ok (.lstore 9, 2) := by decide +kernel
theorem dX12_with_118 : decode cX12_with 118 = .ok (.iinc 11 1, 3) := by decide +kernel
theorem dX12_with_121 : decode cX12_with 121 = .ok (.goto (-89), 3) := by decide +kernel
theorem dX12_with_124 : decode cX12_with 124 = .ok (.lload_n 3, 1) := by decide +kernel
theorem dX12_with_125 : decode cX12_with 125 = .ok (.lload 5, 2) := by decide +kernel
theorem dX12_with_127 : decode cX12_with 127 = .ok (.lmul, 1) := by decide +kernel
theorem dX12_with_128 : decode cX12_with 128 = .ok (.lload 7, 2) := by decide +kernel
theorem dX12_with_130 : decode cX12_with 130 = .ok (.lload 9, 2) := by decide +kernel
theorem dX12_with_132 : decode cX12_with 132 = .ok (.lmul, 1) := by decide +kernel
theorem dX12_with_133 : decode cX12_with 133 = .ok (.lsub, 1) := by decide +kernel
theorem dX12_with_134 : decode cX12_with 134 = .ok (.lreturn, 1) := by decide +kernel
theorem dX12_keep_0 : decode cX12_keep 0 = .ok (.aload_n 0, 1) := by decide +kernel
theorem dX12_keep_1 : decode cX12_keep 1 = .ok (.iconst 4, 1) := by decide +kernel
theorem dX12_keep_2 : decode cX12_keep 2 = .ok (.iload_n 1, 1) := by decide +kernel
theorem dX12_keep_3 : decode cX12_keep 3 = .ok (.invokevirtual 84, 3) := by decide +kernel
theorem dX12_keep_6 : decode cX12_keep 6 = .ok (.ifCond .ne 6, 3) := by decide +kernel
theorem dX12_keep_9 : decode cX12_keep 9 = .ok (.bipush (-2), 2) := by decide +kernel
theorem dX12_keep_11 : decode cX12_keep 11 = .ok (.ireturn, 1) := by decide +kernel
theorem dX12_keep_12 : decode cX12_keep 12 = .ok (.sipush 1346, 3) := by decide +kernel
theorem dX12_keep_15 : decode cX12_keep 15 = .ok (.bipush 14, 2) := by decide +kernel
theorem dX12_keep_17 : decode cX12_keep 17 = .ok (.iload_n 1, 1) := by decide +kernel
theorem dX12_keep_18 : decode cX12_keep 18 = .ok (.imul, 1) := by decide +kernel
theorem dX12_keep_19 : decode cX12_keep 19 = .ok (.iadd, 1) := by decide +kernel
theorem dX12_keep_20 : decode cX12_keep 20 = .ok (.bipush 13, 2) := by decide +kernel
theorem dX12_keep_22 : decode cX12_keep 22 = .ok (.iadd, 1) := by decide +kernel
theorem dX12_keep_23 : decode cX12_keep 23 = .ok (.istore_n 3, 1) := by decide +kernel
theorem dX12_keep_24 : decode cX12_keep 24 = .ok (.aload_n 0, 1) := by decide +kernel
theorem dX12_keep_25 : decode cX12_keep 25 = .ok (.getfield 7, 3) := by decide +kernel
theorem dX12_keep_28 : decode cX12_keep 28 = .ok (.iload_n 3, 1) := by decide +kernel
theorem dX12_keep_29 : decode cX12_keep 29 = .ok (.iaload, 1) := by decide +kernel
theorem dX12_keep_30 : decode cX12_keep 30 = .ok (.iload_n 2, 1) := by decide +kernel
theorem dX12_keep_31 : decode cX12_keep 31 = .ok (.ifCond .eq 7, 3) := by decide +kernel
theorem dX12_keep_34 : decode cX12_keep 34 = .ok (.iconst 1, 1) := by decide +kernel
theorem dX12_keep_35 : decode cX12_keep 35 = .ok (.goto 4, 3) := by decide +kernel
theorem dX12_keep_38 : decode cX12_keep 38 = .ok (.iconst 0, 1) := by decide +kernel
theorem dX12_keep_39 : decode cX12_keep 39 = .ok (.if_icmp .ne 6, 3) := by decide +kernel
theorem dX12_keep_42 : decode cX12_keep 42 = .ok (.bipush (-3), 2) := by decide +kernel
theorem dX12_keep_44 : decode cX12_keep 44 = .ok (.ireturn, 1) := by decide +kernel
theorem dX12_keep_45 : decode cX12_keep 45 = .ok (.aload_n 0, 1) := by decide +kernel
theorem dX12_keep_46 : decode cX12_keep 46 = .ok (.getfield 7, 3) := by decide +kernel
theorem dX12_keep_49 : decode cX12_keep 49 = .ok (.iload_n 3, 1) := by decide +kernel
theorem dX12_keep_50 : decode cX12_keep 50 = .ok (.iload_n 2, 1) := by decide +kernel
theorem dX12_keep_51 : decode cX12_keep 51 = .ok (.ifCond .eq 7, 3) := by decide +kernel
theorem dX12_keep_54 : decode cX12_keep 54 = .ok (.iconst 1, 1) := by decide +kernel
theorem dX12_keep_55 : decode cX12_keep 55 = .ok (.goto 4, 3) := by decide +kernel
theorem dX12_keep_58 : decode cX12_keep 58 = .ok (.iconst 0, 1) := by decide +kernel
theorem dX12_keep_59 : decode cX12_keep 59 = .ok (.iastore, 1) := by decide +kernel
theorem dX12_keep_60 : decode cX12_keep 60 = .ok (.iconst 1, 1) := by decide +kernel
theorem dX12_keep_61 : decode cX12_keep 61 = .ok (.ireturn, 1) := by decide +kernel
theorem dX12_made_0 : decode cX12_made 0 = .ok (.sipush 1346, 3) := by decide +kernel
theorem dX12_made_3 : decode cX12_made 3 = .ok (.bipush 14, 2) := by decide +kernel
theorem dX12_made_5 : decode cX12_made 5 = .ok (.iload_n 1, 1) := by decide +kernel
theorem dX12_made_6 : decode cX12_made 6 = .ok (.imul, 1) := by decide +kernel
theorem dX12_made_7 : decode cX12_made 7 = .ok (.iadd, 1) := by decide +kernel
theorem dX12_made_8 : decode cX12_made 8 = .ok (.istore 8, 2) := by decide +kernel
theorem dX12_made_10 : decode cX12_made 10 = .ok (.iload 5, 2) := by decide +kernel
theorem dX12_made_12 : decode cX12_made 12 = .ok (.i2l, 1) := by decide +kernel
theorem dX12_made_13 : decode cX12_made 13 = .ok (.aload_n 0, 1) := by decide +kernel
theorem dX12_made_14 : decode cX12_made 14 = .ok (.getfield 7, 3) := by decide +kernel
theorem dX12_made_17 : decode cX12_made 17 = .ok (.iload 8, 2) := by decide +kernel
theorem dX12_made_19 : decode cX12_made 19 = .ok (.iload_n 2, 1) := by decide +kernel
theorem dX12_made_20 : decode cX12_made 20 = .ok (.iadd, 1) := by decide +kernel
theorem dX12_made_21 : decode cX12_made 21 = .ok (.iaload, 1) := by decide +kernel
theorem dX12_made_22 : decode cX12_made 22 = .ok (.i2l, 1) := by decide +kernel
theorem dX12_made_23 : decode cX12_made 23 = .ok (.lmul, 1) := by decide +kernel
theorem dX12_made_24 : decode cX12_made 24 = .ok (.iload 6, 2) := by decide +kernel
theorem dX12_made_26 : decode cX12_made 26 = .ok (.i2l, 1) := by decide +kernel
theorem dX12_made_27 : decode cX12_made 27 = .ok (.aload_n 0, 1) := by decide +kernel
theorem dX12_made_28 : decode cX12_made 28 = .ok (.getfield 7, 3) := by decide +kernel
theorem dX12_made_31 : decode cX12_made 31 = .ok (.iload 8, 2) := by decide +kernel
theorem dX12_made_33 : decode cX12_made 33 = .ok (.iload_n 3, 1) := by decide +kernel
theorem dX12_made_34 : decode cX12_made 34 = .ok (.iadd, 1) := by decide +kernel
theorem dX12_made_35 : decode cX12_made 35 = .ok (.iaload, 1) := by decide +kernel
theorem dX12_made_36 : decode cX12_made 36 = .ok (.i2l, 1) := by decide +kernel
theorem dX12_made_37 : decode cX12_made 37 = .ok (.lmul, 1) := by decide +kernel
theorem dX12_made_38 : decode cX12_made 38 = .ok (.ladd, 1) := by decide +kernel
theorem dX12_made_39 : decode cX12_made 39 = .ok (.iload 7, 2) := by decide +kernel
theorem dX12_made_41 : decode cX12_made 41 = .ok (.i2l, 1) := by decide +kernel
theorem dX12_made_42 : decode cX12_made 42 = .ok (.aload_n 0, 1) := by decide +kernel
theorem dX12_made_43 : decode cX12_made 43 = .ok (.getfield 7, 3) := by decide +kernel
theorem dX12_made_46 : decode cX12_made 46 = .ok (.iload 8, 2) := by decide +kernel
theorem dX12_made_48 : decode cX12_made 48 = .ok (.iload 4, 2) := by decide +kernel
theorem dX12_made_50 : decode cX12_made 50 = .ok (.iadd, 1) := by decide +kernel
theorem dX12_made_51 : decode cX12_made 51 = .ok (.iaload, 1) := by decide +kernel
theorem dX12_made_52 : decode cX12_made 52 = .ok (.i2l, 1) := by decide +kernel
theorem dX12_made_53 : decode cX12_made 53 = .ok (.lmul, 1) := by decide +kernel
theorem dX12_made_54 : decode cX12_made 54 = .ok (.ladd, 1) := by decide +kernel
theorem dX12_made_55 : decode cX12_made 55 = .ok (.lreturn, 1) := by decide +kernel
theorem dX12_size_0 : decode cX12_size 0 = .ok (.lload_n 0, 1) := by decide +kernel
theorem dX12_size_1 : decode cX12_size 1 = .ok (.lconst 0, 1) := by decide +kernel
theorem dX12_size_2 : decode cX12_size 2 = .ok (.lcmp, 1) := by decide +kernel
theorem dX12_size_3 : decode cX12_size 3 = .ok (.ifCond .ge 8, 3) := by decide +kernel
theorem dX12_size_6 : decode cX12_size 6 = .ok (.lload_n 0, 1) := by decide +kernel
theorem dX12_size_7 : decode cX12_size 7 = .ok (.lneg, 1) := by decide +kernel
theorem dX12_size_8 : decode cX12_size 8 = .ok (.goto 4, 3) := by decide +kernel
theorem dX12_size_11 : decode cX12_size 11 = .ok (.lload_n 0, 1) := by decide +kernel
theorem dX12_size_12 : decode cX12_size 12 = .ok (.lreturn, 1) := by decide +kernel
theorem dX12_fitAll_0 : decode cX12_fitAll 0 = .ok (.aload_n 0, 1) := by decide +kernel
theorem dX12_fitAll_1 : decode cX12_fitAll 1 = .ok (.ldc2_w 210, 3) := by decide +kernel
theorem dX12_fitAll_4 : decode cX12_fitAll 4 = .ok (.putfield 212, 3) := by decide +kernel
theorem dX12_fitAll_7 : decode cX12_fitAll 7 = .ok (.iconst 0, 1) := by decide +kernel
theorem dX12_fitAll_8 : decode cX12_fitAll 8 = .ok (.istore 5, 2) := by decide +kernel
theorem dX12_fitAll_10 : decode cX12_fitAll 10 = .ok (.iload 5, 2) := by decide +kernel
theorem dX12_fitAll_12 : decode cX12_fitAll 12 = .ok (.sipush 2197, 3) := by decide +kernel
theorem dX12_fitAll_15 : decode cX12_fitAll 15 = .ok (.if_icmp .ge 171, 3) := by decide +kernel
theorem dX12_fitAll_18 : decode cX12_fitAll 18 = .ok (.iload 5, 2) := by decide +kernel
theorem dX12_fitAll_20 : decode cX12_fitAll 20 = .ok (.sipush 169, 3) := by decide +kernel
theorem dX12_fitAll_23 : decode cX12_fitAll 23 = .ok (.idiv, 1) := by decide +kernel
theorem dX12_fitAll_24 : decode cX12_fitAll 24 = .ok (.istore 6, 2) := by decide +kernel
theorem dX12_fitAll_26 : decode cX12_fitAll 26 = .ok (.iload 5, 2) := by decide +kernel
theorem dX12_fitAll_28 : decode cX12_fitAll 28 = .ok (.bipush 13, 2) := by decide +kernel
theorem dX12_fitAll_30 : decode cX12_fitAll 30 = .ok (.idiv, 1) := by decide +kernel
theorem dX12_fitAll_31 : decode cX12_fitAll 31 = .ok (.bipush 13, 2) := by decide +kernel
theorem dX12_fitAll_33 : decode cX12_fitAll 33 = .ok (.irem, 1) := by decide +kernel
theorem dX12_fitAll_34 : decode cX12_fitAll 34 = .ok (.istore 7, 2) := by decide +kernel
theorem dX12_fitAll_36 : decode cX12_fitAll 36 = .ok (.iload 5, 2) := by decide +kernel
theorem dX12_fitAll_38 : decode cX12_fitAll 38 = .ok (.bipush 13, 2) := by decide +kernel
theorem dX12_fitAll_40 : decode cX12_fitAll 40 = .ok (.irem, 1) := by decide +kernel
theorem dX12_fitAll_41 : decode cX12_fitAll 41 = .ok (.istore 8, 2) := by decide +kernel
theorem dX12_fitAll_43 : decode cX12_fitAll 43 = .ok (.lconst 0, 1) := by decide +kernel
theorem dX12_fitAll_44 : decode cX12_fitAll 44 = .ok (.lstore 9, 2) := by decide +kernel
theorem dX12_fitAll_46 : decode cX12_fitAll 46 = .ok (.iconst 0, 1) := by decide +kernel
theorem dX12_fitAll_47 : decode cX12_fitAll 47 = .ok (.istore 11, 2) := by decide +kernel
theorem dX12_fitAll_49 : decode cX12_fitAll 49 = .ok (.iload 11, 2) := by decide +kernel
theorem dX12_fitAll_51 : decode cX12_fitAll 51 = .ok (.aload_n 0, 1) := by decide +kernel
theorem dX12_fitAll_52 : decode cX12_fitAll 52 = .ok (.iconst 4, 1) := by decide +kernel
theorem dX12_fitAll_53 : decode cX12_fitAll 53 = .ok (.invokevirtual 66, 3) := by decide +kernel
theorem dX12_fitAll_56 : decode cX12_fitAll 56 = .ok (.if_icmp .ge 81, 3) := by decide +kernel
theorem dX12_fitAll_59 : decode cX12_fitAll 59 = .ok (.aload_n 0, 1) := by decide +kernel
theorem dX12_fitAll_60 : decode cX12_fitAll 60 = .ok (.iload 11, 2) := by decide +kernel
theorem dX12_fitAll_62 : decode cX12_fitAll 62 = .ok (.iload_n 1, 1) := by decide +kernel
theorem dX12_fitAll_63 : decode cX12_fitAll 63 = .ok (.invokevirtual 207, 3) := by decide +kernel
theorem dX12_fitAll_66 : decode cX12_fitAll 66 = .ok (.ifCond .eq 65, 3) := by decide +kernel
theorem dX12_fitAll_69 : decode cX12_fitAll 69 = .ok (.aload_n 0, 1) := by decide +kernel
theorem dX12_fitAll_70 : decode cX12_fitAll 70 = .ok (.getfield 7, 3) := by decide +kernel
theorem dX12_fitAll_73 : decode cX12_fitAll 73 = .ok (.sipush 1346, 3) := by decide +kernel
theorem dX12_fitAll_76 : decode cX12_fitAll 76 = .ok (.bipush 14, 2) := by decide +kernel
theorem dX12_fitAll_78 : decode cX12_fitAll 78 = .ok (.iload 11, 2) := by decide +kernel
theorem dX12_fitAll_80 : decode cX12_fitAll 80 = .ok (.imul, 1) := by decide +kernel
theorem dX12_fitAll_81 : decode cX12_fitAll 81 = .ok (.iadd, 1) := by decide +kernel
theorem dX12_fitAll_82 : decode cX12_fitAll 82 = .ok (.bipush 13, 2) := by decide +kernel
theorem dX12_fitAll_84 : decode cX12_fitAll 84 = .ok (.iadd, 1) := by decide +kernel
theorem dX12_fitAll_85 : decode cX12_fitAll 85 = .ok (.iaload, 1) := by decide +kernel
theorem dX12_fitAll_86 : decode cX12_fitAll 86 = .ok (.ifCond .ne 45, 3) := by decide +kernel
theorem dX12_fitAll_89 : decode cX12_fitAll 89 = .ok (.lload 9, 2) := by decide +kernel
theorem dX12_fitAll_91 : decode cX12_fitAll 91 = .ok (.aload_n 0, 1) := by decide +kernel
theorem dX12_fitAll_92 : decode cX12_fitAll 92 = .ok (.getfield 7, 3) := by decide +kernel
theorem dX12_fitAll_95 : decode cX12_fitAll 95 = .ok (.sipush 1346, 3) := by decide +kernel
theorem dX12_fitAll_98 : decode cX12_fitAll 98 = .ok (.bipush 14, 2) := by decide +kernel
theorem dX12_fitAll_100 : decode cX12_fitAll 100 = .ok (.iload 11, 2) := by decide +kernel
theorem dX12_fitAll_102 : decode cX12_fitAll 102 = .ok (.imul, 1) := by decide +kernel
theorem dX12_fitAll_103 : decode cX12_fitAll 103 = .ok (.iadd, 1) := by decide +kernel
theorem dX12_fitAll_104 : decode cX12_fitAll 104 = .ok (.iconst 5, 1) := by decide +kernel
theorem dX12_fitAll_105 : decode cX12_fitAll 105 = .ok (.iadd, 1) := by decide +kernel
theorem dX12_fitAll_106 : decode cX12_fitAll 106 = .ok (.iaload, 1) := by decide +kernel
theorem dX12_fitAll_107 : decode cX12_fitAll 107 = .ok (.i2l, 1) := by decide +kernel
theorem dX12_fitAll_108 : decode cX12_fitAll 108 = .ok (.aload_n 0, 1) := by decide +kernel
theorem dX12_fitAll_109 : decode cX12_fitAll 109 = .ok (.iload 11, 2) := by decide +kernel
theorem dX12_fitAll_111 : decode cX12_fitAll 111 = .ok (.iload_n 2, 1) := by decide +kernel
theorem dX12_fitAll_112 : decode cX12_fitAll 112 = .ok (.iload_n 3, 1) := by decide +kernel
theorem dX12_fitAll_113 : decode cX12_fitAll 113 = .ok (.iload 4, 2) := by decide +kernel
theorem dX12_fitAll_115 : decode cX12_fitAll 115 = .ok (.iload 6, 2) := by decide +kernel
theorem dX12_fitAll_117 : decode cX12_fitAll 117 = .ok (.iload 7, 2) := by decide +kernel
theorem dX12_fitAll_119 : decode cX12_fitAll 119 = .ok (.iload 8, 2) := by decide +kernel
theorem dX12_fitAll_121 : decode cX12_fitAll 121 = .ok (.invokevirtual 216, 3) := by decide +kernel
theorem dX12_fitAll_124 : decode cX12_fitAll 124 = .ok (.lsub, 1) := by decide +kernel
theorem dX12_fitAll_125 : decode cX12_fitAll 125 = .ok (.invokestatic 220, 3) := by decide +kernel
theorem dX12_fitAll_128 : decode cX12_fitAll 128 = .ok (.ladd, 1) := by decide +kernel
theorem dX12_fitAll_129 : decode cX12_fitAll 129 = .ok (.lstore 9, 2) := by decide +kernel
theorem dX12_fitAll_131 : decode cX12_fitAll 131 = .ok (.iinc 11 1, 3) := by decide +kernel
theorem dX12_fitAll_134 : decode cX12_fitAll 134 = .ok (.goto (-85), 3) := by decide +kernel
theorem dX12_fitAll_137 : decode cX12_fitAll 137 = .ok (.aload_n 0, 1) := by decide +kernel
theorem dX12_fitAll_138 : decode cX12_fitAll 138 = .ok (.getfield 212, 3) := by decide +kernel
theorem dX12_fitAll_141 : decode cX12_fitAll 141 = .ok (.lconst 0, 1) := by decide +kernel
theorem dX12_fitAll_142 : decode cX12_fitAll 142 = .ok (.lcmp, 1) := by decide +kernel
theorem dX12_fitAll_143 : decode cX12_fitAll 143 = .ok (.ifCond .lt 13, 3) := by decide +kernel
theorem dX12_fitAll_146 : decode cX12_fitAll 146 = .ok (.lload 9, 2) := by decide +kernel
theorem dX12_fitAll_148 : decode cX12_fitAll 148 = .ok (.aload_n 0, 1) := by decide +kernel
theorem dX12_fitAll_149 : decode cX12_fitAll 149 = .ok (.getfield 212, 3) := by decide +kernel
theorem dX12_fitAll_152 : decode cX12_fitAll 152 = .ok (.lcmp, 1) := by decide +kernel
theorem dX12_fitAll_153 : decode cX12_fitAll 153 = .ok (.ifCond .ge 27, 3) := by decide +kernel
theorem dX12_fitAll_156 : decode cX12_fitAll 156 = .ok (.aload_n 0, 1) := by decide +kernel
theorem dX12_fitAll_157 : decode cX12_fitAll 157 = .ok (.lload 9, 2) := by decide +kernel
theorem dX12_fitAll_159 : decode cX12_fitAll 159 = .ok (.putfield 212, 3) := by decide +kernel
theorem dX12_fitAll_162 : decode cX12_fitAll 162 = .ok (.aload_n 0, 1) := by decide +kernel
theorem dX12_fitAll_163 : decode cX12_fitAll 163 = .ok (.iload 6, 2) := by decide +kernel
theorem dX12_fitAll_165 : decode cX12_fitAll 165 = .ok (.putfield 224, 3) := by decide +kernel
theorem dX12_fitAll_168 : decode cX12_fitAll 168 = .ok (.aload_n 0, 1) := by decide +kernel
theorem dX12_fitAll_169 : decode cX12_fitAll 169 = .ok (.iload 7, 2) := by decide +kernel
theorem dX12_fitAll_171 : decode cX12_fitAll 171 = .ok (.putfield 227, 3) := by decide +kernel
theorem dX12_fitAll_174 : decode cX12_fitAll 174 = .ok (.aload_n 0, 1) := by decide +kernel
theorem dX12_fitAll_175 : decode cX12_fitAll 175 = .ok (.iload 8, 2) := by decide +kernel
theorem dX12_fitAll_177 : decode cX12_fitAll 177 = .ok (.putfield 230, 3) := by decide +kernel
theorem dX12_fitAll_180 : decode cX12_fitAll 180 = .ok (.iinc 5 1, 3) := by decide +kernel
theorem dX12_fitAll_183 : decode cX12_fitAll 183 = .ok (.goto (-173), 3) := by decide +kernel
theorem dX12_fitAll_186 : decode cX12_fitAll 186 = .ok (.return_, 1) := by decide +kernel
theorem dX12_areCounters_0 : decode cX12_areCounters 0 = .ok (.iload_n 0, 1) := by decide +kernel
theorem dX12_areCounters_1 : decode cX12_areCounters 1 = .ok (.invokestatic 202, 3) := by decide +kernel
theorem dX12_areCounters_4 : decode cX12_areCounters 4 = .ok (.ifCond .eq 36, 3) := by decide +kernel
theorem dX12_areCounters_7 : decode cX12_areCounters 7 = .ok (.iload_n 1, 1) := by decide +kernel
theorem dX12_areCounters_8 : decode cX12_areCounters 8 = .ok (.invokestatic 202, 3) := by decide +kernel
theorem dX12_areCounters_11 : decode cX12_areCounters 11 = .ok (.ifCond .eq 29, 3) := by decide +kernel
theorem dX12_areCounters_14 : decode cX12_areCounters 14 = .ok (.iload_n 2, 1) := by decide +kernel
theorem dX12_areCounters_15 : decode cX12_areCounters 15 = .ok (.invokestatic 202, 3) := by decide +kernel
theorem dX12_areCounters_18 : decode cX12_areCounters 18 = .ok (.ifCond .eq 22, 3) := by decide +kernel
theorem dX12_areCounters_21 : decode cX12_areCounters 21 = .ok (.iload_n 0, 1) := by decide +kernel
theorem dX12_areCounters_22 : decode cX12_areCounters 22 = .ok (.iload_n 1, 1) := by decide +kernel
theorem dX12_areCounters_23 : decode cX12_areCounters 23 = .ok (.if_icmp .eq 17, 3) := by decide +kernel
theorem dX12_areCounters_26 : decode cX12_areCounters 26 = .ok (.iload_n 0, 1) := by decide +kernel
theorem dX12_areCounters_27 : decode cX12_areCounters 27 = .ok (.iload_n 2, 1) := by decide +kernel
theorem dX12_areCounters_28 : decode cX12_areCounters 28 = .ok (.if_icmp .eq 12, 3) := by decide +kernel
theorem dX12_areCounters_31 : decode cX12_areCounters 31 = .ok (.iload_n 1, 1) := by decide +kernel
theorem dX12_areCounters_32 : decode cX12_areCounters 32 = .ok (.iload_n 2, 1) := by decide +kernel
theorem dX12_areCounters_33 : decode cX12_areCounters 33 = .ok (.if_icmp .eq 7, 3) := by decide +kernel
theorem dX12_areCounters_36 : decode cX12_areCounters 36 = .ok (.iconst 1, 1) := by decide +kernel
theorem dX12_areCounters_37 : decode cX12_areCounters 37 = .ok (.goto 4, 3) := by decide +kernel
theorem dX12_areCounters_40 : decode cX12_areCounters 40 = .ok (.iconst 0, 1) := by decide +kernel
theorem dX12_areCounters_41 : decode cX12_areCounters 41 = .ok (.ireturn, 1) := by decide +kernel
theorem dX12_fit_0 : decode cX12_fit 0 = .ok (.iload_n 1, 1) := by decide +kernel
theorem dX12_fit_1 : decode cX12_fit 1 = .ok (.invokestatic 100, 3) := by decide +kernel
theorem dX12_fit_4 : decode cX12_fit 4 = .ok (.ifCond .eq 26, 3) := by decide +kernel
theorem dX12_fit_7 : decode cX12_fit 7 = .ok (.iload_n 2, 1) := by decide +kernel
theorem dX12_fit_8 : decode cX12_fit 8 = .ok (.iload_n 3, 1) := by decide +kernel
theorem dX12_fit_9 : decode cX12_fit 9 = .ok (.iload 4, 2) := by decide +kernel
theorem dX12_fit_11 : decode cX12_fit 11 = .ok (.invokestatic 233, 3) := by decide +kernel
theorem dX12_fit_14 : decode cX12_fit 14 = .ok (.ifCond .eq 16, 3) := by decide +kernel
theorem dX12_fit_17 : decode cX12_fit 17 = .ok (.iload 5, 2) := by decide +kernel
theorem dX12_fit_19 : decode cX12_fit 19 = .ok (.i2l, 1) := by decide +kernel
theorem dX12_fit_20 : decode cX12_fit 20 = .ok (.lconst 0, 1) := by decide +kernel
theorem dX12_fit_21 : decode cX12_fit 21 = .ok (.ldc2_w 200, 3) := by decide +kernel
theorem dX12_fit_24 : decode cX12_fit 24 = .ok (.invokestatic 70, 3) := by decide +kernel
theorem dX12_fit_27 : decode cX12_fit 27 = .ok (.ifCond .ne 7, 3) := by decide +kernel
theorem dX12_fit_30 : decode cX12_fit 30 = .ok (.ldc2_w 236, 3) := by decide +kernel
theorem dX12_fit_33 : decode cX12_fit 33 = .ok (.lreturn, 1) := by decide +kernel
theorem dX12_fit_34 : decode cX12_fit 34 = .ok (.aload_n 0, 1) := by decide +kernel
theorem dX12_fit_35 : decode cX12_fit 35 = .ok (.iload_n 1, 1) := by decide +kernel
theorem dX12_fit_36 : decode cX12_fit 36 = .ok (.iload_n 2, 1) := by decide +kernel
theorem dX12_fit_37 : decode cX12_fit 37 = .ok (.iload_n 3, 1) := by decide +kernel
theorem dX12_fit_38 : decode cX12_fit 38 = .ok (.iload 4, 2) := by decide +kernel
theorem dX12_fit_40 : decode cX12_fit 40 = .ok (.invokevirtual 238, 3) := by decide +kernel
theorem dX12_fit_43 : decode cX12_fit 43 = .ok (.iload 5, 2) := by decide +kernel
theorem dX12_fit_45 : decode cX12_fit 45 = .ok (.iconst 4, 1) := by decide +kernel
theorem dX12_fit_46 : decode cX12_fit 46 = .ok (.if_icmp .ge 49, 3) := by decide +kernel
theorem dX12_fit_49 : decode cX12_fit 49 = .ok (.iload 5, 2) := by decide +kernel
theorem dX12_fit_51 : decode cX12_fit 51 = .ok (.ifCond .ne 11, 3) := by decide +kernel
theorem dX12_fit_54 : decode cX12_fit 54 = .ok (.aload_n 0, 1) := by decide +kernel
theorem dX12_fit_55 : decode cX12_fit 55 = .ok (.getfield 224, 3) := by decide +kernel
theorem dX12_fit_58 : decode cX12_fit 58 = .ok (.i2l, 1) := by decide +kernel
theorem dX12_fit_59 : decode cX12_fit 59 = .ok (.goto 35, 3) := by decide +kernel
theorem dX12_fit_62 : decode cX12_fit 62 = .ok (.iload 5, 2) := by decide +kernel
theorem dX12_fit_64 : decode cX12_fit 64 = .ok (.iconst 1, 1) := by decide +kernel
theorem dX12_fit_65 : decode cX12_fit 65 = .ok (.if_icmp .ne 11, 3) := by decide +kernel
theorem dX12_fit_68 : decode cX12_fit 68 = .ok (.aload_n 0, 1) := by decide +kernel
theorem dX12_fit_69 : decode cX12_fit 69 = .ok (.getfield 227, 3) := by decide +kernel
theorem dX12_fit_72 : decode cX12_fit 72 = .ok (.i2l, 1) := by decide +kernel
theorem dX12_fit_73 : decode cX12_fit 73 = .ok (.goto 21, 3) := by decide +kernel
theorem dX12_fit_76 : decode cX12_fit 76 = .ok (.iload 5, 2) := by decide +kernel
theorem dX12_fit_78 : decode cX12_fit 78 = .ok (.iconst 2, 1) := by decide +kernel
theorem dX12_fit_79 : decode cX12_fit 79 = .ok (.if_icmp .ne 11, 3) := by decide +kernel
theorem dX12_fit_82 : decode cX12_fit 82 = .ok (.aload_n 0, 1) := by decide +kernel
theorem dX12_fit_83 : decode cX12_fit 83 = .ok (.getfield 230, 3) := by decide +kernel
theorem dX12_fit_86 : decode cX12_fit 86 = .ok (.i2l, 1) := by decide +kernel
theorem dX12_fit_87 : decode cX12_fit 87 = .ok (.goto 7, 3) := by decide +kernel
theorem dX12_fit_90 : decode cX12_fit 90 = .ok (.aload_n 0, 1) := by decide +kernel
theorem dX12_fit_91 : decode cX12_fit 91 = .ok (.getfield 212, 3) := by decide +kernel
theorem dX12_fit_94 : decode cX12_fit 94 = .ok (.lreturn, 1) := by decide +kernel
theorem dX12_fit_95 : decode cX12_fit 95 = .ok (.iconst (-1), 1) := by decide +kernel
theorem dX12_fit_96 : decode cX12_fit 96 = .ok (.istore 6, 2) := by decide +kernel
theorem dX12_fit_98 : decode cX12_fit 98 = .ok (.ldc2_w 210, 3) := by decide +kernel
theorem dX12_fit_101 : decode cX12_fit 101 = .ok (.lstore 7, 2) := by decide +kernel
theorem dX12_fit_103 : decode cX12_fit 103 = .ok (.iconst 0, 1) := by decide +kernel
theorem dX12_fit_104 : decode cX12_fit 104 = .ok (.istore 9, 2) := by decide +kernel
theorem dX12_fit_106 : decode cX12_fit 106 = .ok (.iload 9, 2) := by decide +kernel
theorem dX12_fit_108 : decode cX12_fit 108 = .ok (.aload_n 0, 1) := by decide +kernel
theorem dX12_fit_109 : decode cX12_fit 109 = .ok (.iconst 4, 1) := by decide +kernel
theorem dX12_fit_110 : decode cX12_fit 110 = .ok (.invokevirtual 66, 3) := by decide +kernel
theorem dX12_fit_113 : decode cX12_fit 113 = .ok (.if_icmp .ge 118, 3) := by decide +kernel
theorem dX12_fit_116 : decode cX12_fit 116 = .ok (.aload_n 0, 1) := by decide +kernel
theorem dX12_fit_117 : decode cX12_fit 117 = .ok (.iload 9, 2) := by decide +kernel
theorem dX12_fit_119 : decode cX12_fit 119 = .ok (.iload_n 1, 1) := by decide +kernel
theorem dX12_fit_120 : decode cX12_fit 120 = .ok (.invokevirtual 207, 3) := by decide +kernel
theorem dX12_fit_123 : decode cX12_fit 123 = .ok (.ifCond .eq 102, 3) := by decide +kernel
theorem dX12_fit_126 : decode cX12_fit 126 = .ok (.aload_n 0, 1) := by decide +kernel
theorem dX12_fit_127 : decode cX12_fit 127 = .ok (.getfield 7, 3) := by decide +kernel
theorem dX12_fit_130 : decode cX12_fit 130 = .ok (.sipush 1346, 3) := by decide +kernel
theorem dX12_fit_133 : decode cX12_fit 133 = .ok (.bipush 14, 2) := by decide +kernel
theorem dX12_fit_135 : decode cX12_fit 135 = .ok (.iload 9, 2) := by decide +kernel
theorem dX12_fit_137 : decode cX12_fit 137 = .ok (.imul, 1) := by decide +kernel
theorem dX12_fit_138 : decode cX12_fit 138 = .ok (.iadd, 1) := by decide +kernel
theorem dX12_fit_139 : decode cX12_fit 139 = .ok (.bipush 13, 2) := by decide +kernel
theorem dX12_fit_141 : decode cX12_fit 141 = .ok (.iadd, 1) := by decide +kernel
theorem dX12_fit_142 : decode cX12_fit 142 = .ok (.iaload, 1) := by decide +kernel
theorem dX12_fit_143 : decode cX12_fit 143 = .ok (.ifCond .ne 82, 3) := by decide +kernel
theorem dX12_fit_146 : decode cX12_fit 146 = .ok (.aload_n 0, 1) := by decide +kernel
theorem dX12_fit_147 : decode cX12_fit 147 = .ok (.getfield 7, 3) := by decide +kernel
theorem dX12_fit_150 : decode cX12_fit 150 = .ok (.sipush 1346, 3) := by decide +kernel
theorem dX12_fit_153 : decode cX12_fit 153 = .ok (.bipush 14, 2) := by decide +kernel
theorem dX12_fit_155 : decode cX12_fit 155 = .ok (.iload 9, 2) := by decide +kernel
theorem dX12_fit_157 : decode cX12_fit 157 = .ok (.imul, 1) := by decide +kernel
theorem dX12_fit_158 : decode cX12_fit 158 = .ok (.iadd, 1) := by decide +kernel
theorem dX12_fit_159 : decode cX12_fit 159 = .ok (.iconst 5, 1) := by decide +kernel
theorem dX12_fit_160 : decode cX12_fit 160 = .ok (.iadd, 1) := by decide +kernel
theorem dX12_fit_161 : decode cX12_fit 161 = .ok (.iaload, 1) := by decide +kernel
theorem dX12_fit_162 : decode cX12_fit 162 = .ok (.i2l, 1) := by decide +kernel
theorem dX12_fit_163 : decode cX12_fit 163 = .ok (.aload_n 0, 1) := by decide +kernel
theorem dX12_fit_164 : decode cX12_fit 164 = .ok (.iload 9, 2) := by decide +kernel
theorem dX12_fit_166 : decode cX12_fit 166 = .ok (.iload_n 2, 1) := by decide +kernel
theorem dX12_fit_167 : decode cX12_fit 167 = .ok (.iload_n 3, 1) := by decide +kernel
theorem dX12_fit_168 : decode cX12_fit 168 = .ok (.iload 4, 2) := by decide +kernel
theorem dX12_fit_170 : decode cX12_fit 170 = .ok (.aload_n 0, 1) := by decide +kernel
theorem dX12_fit_171 : decode cX12_fit 171 = .ok (.getfield 224, 3) := by decide +kernel
theorem dX12_fit_174 : decode cX12_fit 174 = .ok (.aload_n 0, 1) := by decide +kernel
theorem dX12_fit_175 : decode cX12_fit 175 = .ok (.getfield 227, 3) := by decide +kernel
theorem dX12_fit_178 : decode cX12_fit 178 = .ok (.aload_n 0, 1) := by decide +kernel
theorem dX12_fit_179 : decode cX12_fit 179 = .ok (.getfield 230, 3) := by decide +kernel
theorem dX12_fit_182 : decode cX12_fit 182 = .ok (.invokevirtual 216, 3) := by decide +kernel
theorem dX12_fit_185 : decode cX12_fit 185 = .ok (.lsub, 1) := by decide +kernel
theorem dX12_fit_186 : decode cX12_fit 186 = .ok (.invokestatic 220, 3) := by decide +kernel
theorem dX12_fit_189 : decode cX12_fit 189 = .ok (.lstore 10, 2) := by decide +kernel
theorem dX12_fit_191 : decode cX12_fit 191 = .ok (.lload 10, 2) := by decide +kernel
theorem dX12_fit_193 : decode cX12_fit 193 = .ok (.lload 7, 2) := by decide +kernel
theorem dX12_fit_195 : decode cX12_fit 195 = .ok (.lcmp, 1) := by decide +kernel
theorem dX12_fit_196 : decode cX12_fit 196 = .ok (.ifCond .le 8, 3) := by decide +kernel
theorem dX12_fit_199 : decode cX12_fit 199 = .ok (.iload 9, 2) := by decide +kernel
theorem dX12_fit_201 : decode cX12_fit 201 = .ok (.goto 5, 3) := by decide +kernel
theorem dX12_fit_204 : decode cX12_fit 204 = .ok (.iload 6, 2) := by decide +kernel
theorem dX12_fit_206 : decode cX12_fit 206 = .ok (.istore 6, 2) := by decide +kernel
theorem dX12_fit_208 : decode cX12_fit 208 = .ok (.lload 10, 2) := by decide +kernel
theorem dX12_fit_210 : decode cX12_fit 210 = .ok (.lload 7, 2) := by decide +kernel
theorem dX12_fit_212 : decode cX12_fit 212 = .ok (.lcmp, 1) := by decide +kernel
theorem dX12_fit_213 : decode cX12_fit 213 = .ok (.ifCond .le 8, 3) := by decide +kernel
theorem dX12_fit_216 : decode cX12_fit 216 = .ok (.lload 10, 2) := by decide +kernel
theorem dX12_fit_218 : decode cX12_fit 218 = .ok (.goto 5, 3) := by decide +kernel
theorem dX12_fit_221 : decode cX12_fit 221 = .ok (.lload 7, 2) := by decide +kernel
theorem dX12_fit_223 : decode cX12_fit 223 = .ok (.lstore 7, 2) := by decide +kernel
theorem dX12_fit_225 : decode cX12_fit 225 = .ok (.iinc 9 1, 3) := by decide +kernel
theorem dX12_fit_228 : decode cX12_fit 228 = .ok (.goto (-122), 3) := by decide +kernel
theorem dX12_fit_231 : decode cX12_fit 231 = .ok (.iload 6, 2) := by decide +kernel
theorem dX12_fit_233 : decode cX12_fit 233 = .ok (.i2l, 1) := by decide +kernel
theorem dX12_fit_234 : decode cX12_fit 234 = .ok (.lreturn, 1) := by decide +kernel
theorem dX12_foretell_0 : decode cX12_foretell 0 = .ok (.aload_n 0, 1) := by decide +kernel
theorem dX12_foretell_1 : decode cX12_foretell 1 = .ok (.iload_n 1, 1) := by decide +kernel
theorem dX12_foretell_2 : decode cX12_foretell 2 = .ok (.iload_n 2, 1) := by decide +kernel
theorem dX12_foretell_3 : decode cX12_foretell 3 = .ok (.iload_n 3, 1) := by decide +kernel
theorem dX12_foretell_4 : decode cX12_foretell 4 = .ok (.invokevirtual 152, 3) := by decide +kernel
theorem dX12_foretell_7 : decode cX12_foretell 7 = .ok (.ifCond .eq 28, 3) := by decide +kernel
theorem dX12_foretell_10 : decode cX12_foretell 10 = .ok (.iload 4, 2) := by decide +kernel
theorem dX12_foretell_12 : decode cX12_foretell 12 = .ok (.iload 5, 2) := by decide +kernel
theorem dX12_foretell_14 : decode cX12_foretell 14 = .ok (.iload 6, 2) := by decide +kernel
theorem dX12_foretell_16 : decode cX12_foretell 16 = .ok (.invokestatic 233, 3) := by decide +kernel
theorem dX12_foretell_19 : decode cX12_foretell 19 = .ok (.ifCond .eq 16, 3) := by decide +kernel
theorem dX12_foretell_22 : decode cX12_foretell 22 = .ok (.iload 7, 2) := by decide +kernel
theorem dX12_foretell_24 : decode cX12_foretell 24 = .ok (.i2l, 1) := by decide +kernel
theorem dX12_foretell_25 : decode cX12_foretell 25 = .ok (.lconst 0, 1) := by decide +kernel
theorem dX12_foretell_26 : decode cX12_foretell 26 = .ok (.ldc2_w 190, 3) := by decide +kernel
theorem dX12_foretell_29 : decode cX12_foretell 29 = .ok (.invokestatic 70, 3) := by decide +kernel
theorem dX12_foretell_32 : decode cX12_foretell 32 = .ok (.ifCond .ne 7, 3) := by decide +kernel
theorem dX12_foretell_35 : decode cX12_foretell 35 = .ok (.ldc2_w 241, 3) := by decide +kernel
theorem dX12_foretell_38 : decode cX12_foretell 38 = .ok (.lreturn, 1) := by decide +kernel
theorem dX12_foretell_39 : decode cX12_foretell 39 = .ok (.aload_n 0, 1) := by decide +kernel
theorem dX12_foretell_40 : decode cX12_foretell 40 = .ok (.aload_n 0, 1) := by decide +kernel
theorem dX12_foretell_41 : decode cX12_foretell 41 = .ok (.getfield 7, 3) := by decide +kernel
theorem dX12_foretell_44 : decode cX12_foretell 44 = .ok (.sipush 1026, 3) := by decide +kernel
theorem dX12_foretell_47 : decode cX12_foretell 47 = .ok (.iconst 2, 1) := by decide +kernel
theorem dX12_foretell_48 : decode cX12_foretell 48 = .ok (.iload_n 1, 1) := by decide +kernel
theorem dX12_foretell_49 : decode cX12_foretell 49 = .ok (.imul, 1) := by decide +kernel
theorem dX12_foretell_50 : decode cX12_foretell 50 = .ok (.iadd, 1) := by decide +kernel
theorem dX12_foretell_51 : decode cX12_foretell 51 = .ok (.iaload, 1) := by decide +kernel
theorem dX12_foretell_52 : decode cX12_foretell 52 = .ok (.aload_n 0, 1) := by decide +kernel
theorem dX12_foretell_53 : decode cX12_foretell 53 = .ok (.getfield 7, 3) := by decide +kernel
theorem dX12_foretell_56 : decode cX12_foretell 56 = .ok (.sipush 1026, 3) := by decide +kernel
theorem dX12_foretell_59 : decode cX12_foretell 59 = .ok (.iconst 2, 1) := by decide +kernel
theorem dX12_foretell_60 : decode cX12_foretell 60 = .ok (.iload_n 1, 1) := by decide +kernel
theorem dX12_foretell_61 : decode cX12_foretell 61 = .ok (.imul, 1) := by decide +kernel
theorem dX12_foretell_62 : decode cX12_foretell 62 = .ok (.iadd, 1) := by decide +kernel
theorem dX12_foretell_63 : decode cX12_foretell 63 = .ok (.iconst 1, 1) := by decide +kernel
theorem dX12_foretell_64 : decode cX12_foretell 64 = .ok (.iadd, 1) := by decide +kernel
theorem dX12_foretell_65 : decode cX12_foretell 65 = .ok (.iaload, 1) := by decide +kernel
theorem dX12_foretell_66 : decode cX12_foretell 66 = .ok (.iload_n 2, 1) := by decide +kernel
theorem dX12_foretell_67 : decode cX12_foretell 67 = .ok (.iload_n 3, 1) := by decide +kernel
theorem dX12_foretell_68 : decode cX12_foretell 68 = .ok (.invokevirtual 167, 3) := by decide +kernel
theorem dX12_foretell_71 : decode cX12_foretell 71 = .ok (.aload_n 0, 1) := by decide +kernel
theorem dX12_foretell_72 : decode cX12_foretell 72 = .ok (.getfield 119, 3) := by decide +kernel
theorem dX12_foretell_75 : decode cX12_foretell 75 = .ok (.ifCond .eq 7, 3) := by decide +kernel
theorem dX12_foretell_78 : decode cX12_foretell 78 = .ok (.ldc2_w 243, 3) := by decide +kernel
theorem dX12_foretell_81 : decode cX12_foretell 81 = .ok (.lreturn, 1) := by decide +kernel
theorem dX12_foretell_82 : decode cX12_foretell 82 = .ok (.aload_n 0, 1) := by decide +kernel
theorem dX12_foretell_83 : decode cX12_foretell 83 = .ok (.iload_n 2, 1) := by decide +kernel
theorem dX12_foretell_84 : decode cX12_foretell 84 = .ok (.iload 4, 2) := by decide +kernel
theorem dX12_foretell_86 : decode cX12_foretell 86 = .ok (.iload 5, 2) := by decide +kernel
theorem dX12_foretell_88 : decode cX12_foretell 88 = .ok (.iload 6, 2) := by decide +kernel
theorem dX12_foretell_90 : decode cX12_foretell 90 = .ok (.invokevirtual 238, 3) := by decide +kernel
theorem dX12_foretell_93 : decode cX12_foretell 93 = .ok (.aload_n 0, 1) := by decide +kernel
theorem dX12_foretell_94 : decode cX12_foretell 94 = .ok (.getfield 224, 3) := by decide +kernel
theorem dX12_foretell_97 : decode cX12_foretell 97 = .ok (.i2l, 1) := by decide +kernel
theorem dX12_foretell_98 : decode cX12_foretell 98 = .ok (.aload_n 0, 1) := by decide +kernel
theorem dX12_foretell_99 : decode cX12_foretell 99 = .ok (.getfield 35, 3) := by decide +kernel
theorem dX12_foretell_102 : decode cX12_foretell 102 = .ok (.iload 4, 2) := by decide +kernel
theorem dX12_foretell_104 : decode cX12_foretell 104 = .ok (.iaload, 1) := by decide +kernel
theorem dX12_foretell_105 : decode cX12_foretell 105 = .ok (.i2l, 1) := by decide +kernel
theorem dX12_foretell_106 : decode cX12_foretell 106 = .ok (.lmul, 1) := by decide +kernel
theorem dX12_foretell_107 : decode cX12_foretell 107 = .ok (.aload_n 0, 1) := by decide +kernel
theorem dX12_foretell_108 : decode cX12_foretell 108 = .ok (.getfield 227, 3) := by decide +kernel
theorem dX12_foretell_111 : decode cX12_foretell 111 = .ok (.i2l, 1) := by decide +kernel
theorem dX12_foretell_112 : decode cX12_foretell 112 = .ok (.aload_n 0, 1) := by decide +kernel
theorem dX12_foretell_113 : decode cX12_foretell 113 = .ok (.getfield 35, 3) := by decide +kernel
theorem dX12_foretell_116 : decode cX12_foretell 116 = .ok (.iload 5, 2) := by decide +kernel
theorem dX12_foretell_118 : decode cX12_foretell 118 = .ok (.iaload, 1) := by decide +kernel
theorem dX12_foretell_119 : decode cX12_foretell 119 = .ok (.i2l, 1) := by decide +kernel
theorem dX12_foretell_120 : decode cX12_foretell 120 = .ok (.lmul, 1) := by decide +kernel
theorem dX12_foretell_121 : decode cX12_foretell 121 = .ok (.ladd, 1) := by decide +kernel
theorem dX12_foretell_122 : decode cX12_foretell 122 = .ok (.aload_n 0, 1) := by decide +kernel
theorem dX12_foretell_123 : decode cX12_foretell 123 = .ok (.getfield 230, 3) := by decide +kernel
theorem dX12_foretell_126 : decode cX12_foretell 126 = .ok (.i2l, 1) := by decide +kernel
theorem dX12_foretell_127 : decode cX12_foretell 127 = .ok (.aload_n 0, 1) := by decide +kernel
theorem dX12_foretell_128 : decode cX12_foretell 128 = .ok (.getfield 35, 3) := by decide +kernel
theorem dX12_foretell_131 : decode cX12_foretell 131 = .ok (.iload 6, 2) := by decide +kernel
theorem dX12_foretell_133 : decode cX12_foretell 133 = .ok (.iaload, 1) := by decide +kernel
theorem dX12_foretell_134 : decode cX12_foretell 134 = .ok (.i2l, 1) := by decide +kernel
theorem dX12_foretell_135 : decode cX12_foretell 135 = .ok (.lmul, 1) := by decide +kernel
theorem dX12_foretell_136 : decode cX12_foretell 136 = .ok (.ladd, 1) := by decide +kernel
theorem dX12_foretell_137 : decode cX12_foretell 137 = .ok (.lstore 8, 2) := by decide +kernel
theorem dX12_foretell_139 : decode cX12_foretell 139 = .ok (.iload 7, 2) := by decide +kernel
theorem dX12_foretell_141 : decode cX12_foretell 141 = .ok (.ifCond .ne 6, 3) := by decide +kernel
theorem dX12_foretell_144 : decode cX12_foretell 144 = .ok (.lload 8, 2) := by decide +kernel
theorem dX12_foretell_146 : decode cX12_foretell 146 = .ok (.lreturn, 1) := by decide +kernel
theorem dX12_foretell_147 : decode cX12_foretell 147 = .ok (.iconst 0, 1) := by decide +kernel
theorem dX12_foretell_148 : decode cX12_foretell 148 = .ok (.istore 10, 2) := by decide +kernel
theorem dX12_foretell_150 : decode cX12_foretell 150 = .ok (.lconst 0, 1) := by decide +kernel
theorem dX12_foretell_151 : decode cX12_foretell 151 = .ok (.lstore 11, 2) := by decide +kernel
theorem dX12_foretell_153 : decode cX12_foretell 153 = .ok (.iconst 0, 1) := by decide +kernel
theorem dX12_foretell_154 : decode cX12_foretell 154 = .ok (.istore 13, 2) := by decide +kernel
theorem dX12_foretell_156 : decode cX12_foretell 156 = .ok (.iload 13, 2) := by decide +kernel
theorem dX12_foretell_158 : decode cX12_foretell 158 = .ok (.aload_n 0, 1) := by decide +kernel
theorem dX12_foretell_159 : decode cX12_foretell 159 = .ok (.iconst 4, 1) := by decide +kernel
theorem dX12_foretell_160 : decode cX12_foretell 160 = .ok (.invokevirtual 66, 3) := by decide +kernel
theorem dX12_foretell_163 : decode cX12_foretell 163 = .ok (.if_icmp .ge 126, 3) := by decide +kernel
theorem dX12_foretell_166 : decode cX12_foretell 166 = .ok (.aload_n 0, 1) := by decide +kernel
theorem dX12_foretell_167 : decode cX12_foretell 167 = .ok (.iload 13, 2) := by decide +kernel
theorem dX12_foretell_169 : decode cX12_foretell 169 = .ok (.iload_n 2, 1) := by decide +kernel
theorem dX12_foretell_170 : decode cX12_foretell 170 = .ok (.invokevirtual 207, 3) := by decide +kernel
theorem dX12_foretell_173 : decode cX12_foretell 173 = .ok (.ifCond .eq 110, 3) := by decide +kernel
theorem dX12_foretell_176 : decode cX12_foretell 176 = .ok (.aload_n 0, 1) := by decide +kernel
theorem dX12_foretell_177 : decode cX12_foretell 177 = .ok (.getfield 7, 3) := by decide +kernel
theorem dX12_foretell_180 : decode cX12_foretell 180 = .ok (.sipush 1346, 3) := by decide +kernel
theorem dX12_foretell_183 : decode cX12_foretell 183 = .ok (.bipush 14, 2) := by decide +kernel
theorem dX12_foretell_185 : decode cX12_foretell 185 = .ok (.iload 13, 2) := by decide +kernel
theorem dX12_foretell_187 : decode cX12_foretell 187 = .ok (.imul, 1) := by decide +kernel
theorem dX12_foretell_188 : decode cX12_foretell 188 = .ok (.iadd, 1) := by decide +kernel
theorem dX12_foretell_189 : decode cX12_foretell 189 = .ok (.bipush 13, 2) := by decide +kernel
theorem dX12_foretell_191 : decode cX12_foretell 191 = .ok (.iadd, 1) := by decide +kernel
theorem dX12_foretell_192 : decode cX12_foretell 192 = .ok (.iaload, 1) := by decide +kernel
theorem dX12_foretell_193 : decode cX12_foretell 193 = .ok (.iconst 1, 1) := by decide +kernel
theorem dX12_foretell_194 : decode cX12_foretell 194 = .ok (.if_icmp .ne 89, 3) := by decide +kernel
theorem dX12_foretell_197 : decode cX12_foretell 197 = .ok (.aload_n 0, 1) := by decide +kernel
theorem dX12_foretell_198 : decode cX12_foretell 198 = .ok (.getfield 7, 3) := by decide +kernel
theorem dX12_foretell_201 : decode cX12_foretell 201 = .ok (.sipush 1346, 3) := by decide +kernel
theorem dX12_foretell_204 : decode cX12_foretell 204 = .ok (.bipush 14, 2) := by decide +kernel
theorem dX12_foretell_206 : decode cX12_foretell 206 = .ok (.iload 13, 2) := by decide +kernel
theorem dX12_foretell_208 : decode cX12_foretell 208 = .ok (.imul, 1) := by decide +kernel
theorem dX12_foretell_209 : decode cX12_foretell 209 = .ok (.iadd, 1) := by decide +kernel
theorem dX12_foretell_210 : decode cX12_foretell 210 = .ok (.iconst 5, 1) := by decide +kernel
theorem dX12_foretell_211 : decode cX12_foretell 211 = .ok (.iadd, 1) := by decide +kernel
theorem dX12_foretell_212 : decode cX12_foretell 212 = .ok (.iaload, 1) := by decide +kernel
theorem dX12_foretell_213 : decode cX12_foretell 213 = .ok (.i2l, 1) := by decide +kernel
theorem dX12_foretell_214 : decode cX12_foretell 214 = .ok (.aload_n 0, 1) := by decide +kernel
theorem dX12_foretell_215 : decode cX12_foretell 215 = .ok (.iload 13, 2) := by decide +kernel
theorem dX12_foretell_217 : decode cX12_foretell 217 = .ok (.iload 4, 2) := by decide +kernel
theorem dX12_foretell_219 : decode cX12_foretell 219 = .ok (.iload 5, 2) := by decide +kernel
theorem dX12_foretell_221 : decode cX12_foretell 221 = .ok (.iload 6, 2) := by decide +kernel
theorem dX12_foretell_223 : decode cX12_foretell 223 = .ok (.aload_n 0, 1) := by decide +kernel
theorem dX12_foretell_224 : decode cX12_foretell 224 = .ok (.getfield 224, 3) := by decide +kernel
theorem dX12_foretell_227 : decode cX12_foretell 227 = .ok (.aload_n 0, 1) := by decide +kernel
theorem dX12_foretell_228 : decode cX12_foretell 228 = .ok (.getfield 227, 3) := by decide +kernel
theorem dX12_foretell_231 : decode cX12_foretell 231 = .ok (.aload_n 0, 1) := by decide +kernel
theorem dX12_foretell_232 : decode cX12_foretell 232 = .ok (.getfield 230, 3) := by decide +kernel
theorem dX12_foretell_235 : decode cX12_foretell 235 = .ok (.invokevirtual 216, 3) := by decide +kernel
theorem dX12_foretell_238 : decode cX12_foretell 238 = .ok (.lsub, 1) := by decide +kernel
theorem dX12_foretell_239 : decode cX12_foretell 239 = .ok (.lstore 14, 2) := by decide +kernel
theorem dX12_foretell_241 : decode cX12_foretell 241 = .ok (.iload 10, 2) := by decide +kernel
theorem dX12_foretell_243 : decode cX12_foretell 243 = .ok (.ifCond .eq 28, 3) := by decide +kernel
theorem dX12_foretell_246 : decode cX12_foretell 246 = .ok (.iload 7, 2) := by decide +kernel
theorem dX12_foretell_248 : decode cX12_foretell 248 = .ok (.iconst 1, 1) := by decide +kernel
theorem dX12_foretell_249 : decode cX12_foretell 249 = .ok (.if_icmp .ne 14, 3) := by decide +kernel
theorem dX12_foretell_252 : decode cX12_foretell 252 = .ok (.lload 14, 2) := by decide +kernel
theorem dX12_foretell_254 : decode cX12_foretell 254 = .ok (.lload 11, 2) := by decide +kernel
theorem dX12_foretell_256 : decode cX12_foretell 256 = .ok (.lcmp, 1) := by decide +kernel
theorem dX12_foretell_257 : decode cX12_foretell 257 = .ok (.ifCond .ge 19, 3) := by decide +kernel
theorem dX12_foretell_260 : decode cX12_foretell 260 = .ok (.goto 11, 3) := by decide +kernel
theorem dX12_foretell_263 : decode cX12_foretell 263 = .ok (.lload 14, 2) := by decide +kernel
theorem dX12_foretell_265 : decode cX12_foretell 265 = .ok (.lload 11, 2) := by decide +kernel
theorem dX12_foretell_267 : decode cX12_foretell 267 = .ok (.lcmp, 1) := by decide +kernel
theorem dX12_foretell_268 : decode cX12_foretell 268 = .ok (.ifCond .le 8, 3) := by decide +kernel
theorem dX12_foretell_271 : decode cX12_foretell 271 = .ok (.lload 14, 2) := by decide +kernel
theorem dX12_foretell_273 : decode cX12_foretell 273 = .ok (.goto 5, 3) := by decide +kernel
theorem dX12_foretell_276 : decode cX12_foretell 276 = .ok (.lload 11, 2) := by decide +kernel
theorem dX12_foretell_278 : decode cX12_foretell 278 = .ok (.lstore 11, 2) := by decide +kernel
theorem dX12_foretell_280 : decode cX12_foretell 280 = .ok (.iconst 1, 1) := by decide +kernel
theorem dX12_foretell_281 : decode cX12_foretell 281 = .ok (.istore 10, 2) := by decide +kernel
theorem dX12_foretell_283 : decode cX12_foretell 283 = .ok (.iinc 13 1, 3) := by decide +kernel
theorem dX12_foretell_286 : decode cX12_foretell 286 = .ok (.goto (-130), 3) := by decide +kernel
theorem dX12_foretell_289 : decode cX12_foretell 289 = .ok (.iload 10, 2) := by decide +kernel
theorem dX12_foretell_291 : decode cX12_foretell 291 = .ok (.ifCond .eq 11, 3) := by decide +kernel
theorem dX12_foretell_294 : decode cX12_foretell 294 = .ok (.lload 8, 2) := by decide +kernel
theorem dX12_foretell_296 : decode cX12_foretell 296 = .ok (.lload 11, 2) := by decide +kernel
theorem dX12_foretell_298 : decode cX12_foretell 298 = .ok (.ladd, 1) := by decide +kernel
theorem dX12_foretell_299 : decode cX12_foretell 299 = .ok (.goto 6, 3) := by decide +kernel
theorem dX12_foretell_302 : decode cX12_foretell 302 = .ok (.ldc2_w 243, 3) := by decide +kernel
theorem dX12_foretell_305 : decode cX12_foretell 305 = .ok (.lreturn, 1) := by decide +kernel
theorem dX12_seek_0 : decode cX12_seek 0 = .ok (.aload_n 0, 1) := by decide +kernel
theorem dX12_seek_1 : decode cX12_seek 1 = .ok (.iconst 2, 1) := by decide +kernel
theorem dX12_seek_2 : decode cX12_seek 2 = .ok (.iload_n 1, 1) := by decide +kernel
theorem dX12_seek_3 : decode cX12_seek 3 = .ok (.invokevirtual 84, 3) := by decide +kernel
theorem dX12_seek_6 : decode cX12_seek 6 = .ok (.ifCond .eq 33, 3) := by decide +kernel
theorem dX12_seek_9 : decode cX12_seek 9 = .ok (.iload_n 2, 1) := by decide +kernel
theorem dX12_seek_10 : decode cX12_seek 10 = .ok (.invokestatic 100, 3) := by decide +kernel
theorem dX12_seek_13 : decode cX12_seek 13 = .ok (.ifCond .eq 26, 3) := by decide +kernel
theorem dX12_seek_16 : decode cX12_seek 16 = .ok (.iload_n 3, 1) := by decide +kernel
theorem dX12_seek_17 : decode cX12_seek 17 = .ok (.i2l, 1) := by decide +kernel
theorem dX12_seek_18 : decode cX12_seek 18 = .ok (.lconst 0, 1) := by decide +kernel
theorem dX12_seek_19 : decode cX12_seek 19 = .ok (.ldc2_w 245, 3) := by decide +kernel
theorem dX12_seek_22 : decode cX12_seek 22 = .ok (.invokestatic 70, 3) := by decide +kernel
theorem dX12_seek_25 : decode cX12_seek 25 = .ok (.ifCond .eq 14, 3) := by decide +kernel
theorem dX12_seek_28 : decode cX12_seek 28 = .ok (.iload 4, 2) := by decide +kernel
theorem dX12_seek_30 : decode cX12_seek 30 = .ok (.i2l, 1) := by decide +kernel
theorem dX12_seek_31 : decode cX12_seek 31 = .ok (.lconst 0, 1) := by decide +kernel
theorem dX12_seek_32 : decode cX12_seek 32 = .ok (.lconst 1, 1) := by decide +kernel
theorem dX12_seek_33 : decode cX12_seek 33 = .ok (.invokestatic 70, 3) := by decide +kernel
theorem dX12_seek_36 : decode cX12_seek 36 = .ok (.ifCond .ne 6, 3) := by decide +kernel
theorem dX12_seek_39 : decode cX12_seek 39 = .ok (.bipush (-2), 2) := by decide +kernel
theorem dX12_seek_41 : decode cX12_seek 41 = .ok (.ireturn, 1) := by decide +kernel
theorem dX12_seek_42 : decode cX12_seek 42 = .ok (.iconst 0, 1) := by decide +kernel
theorem dX12_seek_43 : decode cX12_seek 43 = .ok (.istore 5, 2) := by decide +kernel
theorem dX12_seek_45 : decode cX12_seek 45 = .ok (.iconst 0, 1) := by decide +kernel
theorem dX12_seek_46 : decode cX12_seek 46 = .ok (.istore 6, 2) := by decide +kernel
theorem dX12_seek_48 : decode cX12_seek 48 = .ok (.iconst (-1), 1) := by decide +kernel
theorem dX12_seek_49 : decode cX12_seek 49 = .ok (.istore 7, 2) := by decide +kernel
theorem dX12_seek_51 : decode cX12_seek 51 = .ok (.iconst 0, 1) := by decide +kernel
theorem dX12_seek_52 : decode cX12_seek 52 = .ok (.istore 8, 2) := by decide +kernel
theorem dX12_seek_54 : decode cX12_seek 54 = .ok (.iconst 0, 1) := by decide +kernel
theorem dX12_seek_55 : decode cX12_seek 55 = .ok (.istore 9, 2) := by decide +kernel
theorem dX12_seek_57 : decode cX12_seek 57 = .ok (.iload 9, 2) := by decide +kernel
theorem dX12_seek_59 : decode cX12_seek 59 = .ok (.aload_n 0, 1) := by decide +kernel
theorem dX12_seek_60 : decode cX12_seek 60 = .ok (.iconst 3, 1) := by decide +kernel
theorem dX12_seek_61 : decode cX12_seek 61 = .ok (.invokevirtual 66, 3) := by decide +kernel
theorem dX12_seek_64 : decode cX12_seek 64 = .ok (.if_icmp .ge 121, 3) := by decide +kernel
theorem dX12_seek_67 : decode cX12_seek 67 = .ok (.aload_n 0, 1) := by decide +kernel
theorem dX12_seek_68 : decode cX12_seek 68 = .ok (.aload_n 0, 1) := by decide +kernel
theorem dX12_seek_69 : decode cX12_seek 69 = .ok (.getfield 7, 3) := by decide +kernel
theorem dX12_seek_72 : decode cX12_seek 72 = .ok (.sipush 1026, 3) := by decide +kernel
theorem dX12_seek_75 : decode cX12_seek 75 = .ok (.iconst 2, 1) := by decide +kernel
theorem dX12_seek_76 : decode cX12_seek 76 = .ok (.iload_n 1, 1) := by decide +kernel
theorem dX12_seek_77 : decode cX12_seek 77 = .ok (.imul, 1) := by decide +kernel
theorem dX12_seek_78 : decode cX12_seek 78 = .ok (.iadd, 1) := by decide +kernel
theorem dX12_seek_79 : decode cX12_seek 79 = .ok (.iaload, 1) := by decide +kernel
theorem dX12_seek_80 : decode cX12_seek 80 = .ok (.aload_n 0, 1) := by decide +kernel
theorem dX12_seek_81 : decode cX12_seek 81 = .ok (.getfield 7, 3) := by decide +kernel
theorem dX12_seek_84 : decode cX12_seek 84 = .ok (.sipush 1026, 3) := by decide +kernel
theorem dX12_seek_87 : decode cX12_seek 87 = .ok (.iconst 2, 1) := by decide +kernel
theorem dX12_seek_88 : decode cX12_seek 88 = .ok (.iload_n 1, 1) := by decide +kernel
theorem dX12_seek_89 : decode cX12_seek 89 = .ok (.imul, 1) := by decide +kernel
theorem dX12_seek_90 : decode cX12_seek 90 = .ok (.iadd, 1) := by decide +kernel
theorem dX12_seek_91 : decode cX12_seek 91 = .ok (.iconst 1, 1) := by decide +kernel
theorem dX12_seek_92 : decode cX12_seek 92 = .ok (.iadd, 1) := by decide +kernel
theorem dX12_seek_93 : decode cX12_seek 93 = .ok (.iaload, 1) := by decide +kernel
theorem dX12_seek_94 : decode cX12_seek 94 = .ok (.iload_n 2, 1) := by decide +kernel
theorem dX12_seek_95 : decode cX12_seek 95 = .ok (.iload 9, 2) := by decide +kernel
theorem dX12_seek_97 : decode cX12_seek 97 = .ok (.invokevirtual 167, 3) := by decide +kernel
theorem dX12_seek_100 : decode cX12_seek 100 = .ok (.iload 6, 2) := by decide +kernel
theorem dX12_seek_102 : decode cX12_seek 102 = .ok (.aload_n 0, 1) := by decide +kernel
theorem dX12_seek_103 : decode cX12_seek 103 = .ok (.getfield 119, 3) := by decide +kernel
theorem dX12_seek_106 : decode cX12_seek 106 = .ok (.ifCond .eq 9, 3) := by decide +kernel
theorem dX12_seek_109 : decode cX12_seek 109 = .ok (.sipush 2000, 3) := by decide +kernel
theorem dX12_seek_112 : decode cX12_seek 112 = .ok (.goto 9, 3) := by decide +kernel
theorem dX12_seek_115 : decode cX12_seek 115 = .ok (.aload_n 0, 1) := by decide +kernel
theorem dX12_seek_116 : decode cX12_seek 116 = .ok (.getfield 35, 3) := by decide +kernel
theorem dX12_seek_119 : decode cX12_seek 119 = .ok (.iconst 5, 1) := by decide +kernel
theorem dX12_seek_120 : decode cX12_seek 120 = .ok (.iaload, 1) := by decide +kernel
theorem dX12_seek_121 : decode cX12_seek 121 = .ok (.iadd, 1) := by decide +kernel
theorem dX12_seek_122 : decode cX12_seek 122 = .ok (.istore 6, 2) := by decide +kernel
theorem dX12_seek_124 : decode cX12_seek 124 = .ok (.iload 6, 2) := by decide +kernel
theorem dX12_seek_126 : decode cX12_seek 126 = .ok (.iload_n 3, 1) := by decide +kernel
theorem dX12_seek_127 : decode cX12_seek 127 = .ok (.if_icmp .le 13, 3) := by decide +kernel
theorem dX12_seek_130 : decode cX12_seek 130 = .ok (.aload_n 0, 1) := by decide +kernel
theorem dX12_seek_131 : decode cX12_seek 131 = .ok (.iconst 3, 1) := by decide +kernel
theorem dX12_seek_132 : decode cX12_seek 132 = .ok (.invokevirtual 66, 3) := by decide +kernel
theorem dX12_seek_135 : decode cX12_seek 135 = .ok (.istore 9, 2) := by decide +kernel
theorem dX12_seek_137 : decode cX12_seek 137 = .ok (.goto 42, 3) := by decide +kernel
theorem dX12_seek_140 : decode cX12_seek 140 = .ok (.iinc 5 1, 3) := by decide +kernel
theorem dX12_seek_143 : decode cX12_seek 143 = .ok (.aload_n 0, 1) := by decide +kernel
theorem dX12_seek_144 : decode cX12_seek 144 = .ok (.getfield 119, 3) := by decide +kernel
theorem dX12_seek_147 : decode cX12_seek 147 = .ok (.ifCond .ne 32, 3) := by decide +kernel
theorem dX12_seek_150 : decode cX12_seek 150 = .ok (.iload 7, 2) := by decide +kernel
theorem dX12_seek_152 : decode cX12_seek 152 = .ok (.iconst (-1), 1) := by decide +kernel
theorem dX12_seek_153 : decode cX12_seek 153 = .ok (.if_icmp .eq 14, 3) := by decide +kernel
theorem dX12_seek_156 : decode cX12_seek 156 = .ok (.aload_n 0, 1) := by decide +kernel
theorem dX12_seek_157 : decode cX12_seek 157 = .ok (.getfield 35, 3) := by decide +kernel
theorem dX12_seek_160 : decode cX12_seek 160 = .ok (.iconst 5, 1) := by decide +kernel
theorem dX12_seek_161 : decode cX12_seek 161 = .ok (.iaload, 1) := by decide +kernel
theorem dX12_seek_162 : decode cX12_seek 162 = .ok (.iload 8, 2) := by decide +kernel
theorem dX12_seek_164 : decode cX12_seek 164 = .ok (.if_icmp .ge 15, 3) := by decide +kernel
theorem dX12_seek_167 : decode cX12_seek 167 = .ok (.iload 9, 2) := by decide +kernel
theorem dX12_seek_169 : decode cX12_seek 169 = .ok (.istore 7, 2) := by decide +kernel
theorem dX12_seek_171 : decode cX12_seek 171 = .ok (.aload_n 0, 1) := by decide +kernel
theorem dX12_seek_172 : decode cX12_seek 172 = .ok (.getfield 35, 3) := by decide +kernel
theorem dX12_seek_175 : decode cX12_seek 175 = .ok (.iconst 5, 1) := by decide +kernel
theorem dX12_seek_176 : decode cX12_seek 176 = .ok (.iaload, 1) := by decide +kernel
theorem dX12_seek_177 : decode cX12_seek 177 = .ok (.istore 8, 2) := by decide +kernel
theorem dX12_seek_179 : decode cX12_seek 179 = .ok (.iinc 9 1, 3) := by decide +kernel
theorem dX12_seek_182 : decode cX12_seek 182 = .ok (.goto (-125), 3) := by decide +kernel
theorem dX12_seek_185 : decode cX12_seek 185 = .ok (.iload 4, 2) := by decide +kernel
theorem dX12_seek_187 : decode cX12_seek 187 = .ok (.ifCond .ne 8, 3) := by decide +kernel
theorem dX12_seek_190 : decode cX12_seek 190 = .ok (.iload 7, 2) := by decide +kernel
theorem dX12_seek_192 : decode cX12_seek 192 = .ok (.goto 5, 3) := by decide +kernel
theorem dX12_seek_195 : decode cX12_seek 195 = .ok (.iload 5, 2) := by decide +kernel
theorem dX12_seek_197 : decode cX12_seek 197 = .ok (.ireturn, 1) := by decide +kernel
theorem dX12_write_0 : decode cX12_write 0 = .ok (.iload_n 1, 1) := by decide +kernel
theorem dX12_write_1 : decode cX12_write 1 = .ok (.i2l, 1) := by decide +kernel
theorem dX12_write_2 : decode cX12_write 2 = .ok (.lconst 0, 1) := by decide +kernel
theorem dX12_write_3 : decode cX12_write 3 = .ok (.ldc2_w 247, 3) := by decide +kernel
theorem dX12_write_6 : decode cX12_write 6 = .ok (.invokestatic 70, 3) := by decide +kernel
theorem dX12_write_9 : decode cX12_write 9 = .ok (.ifCond .ne 6, 3) := by decide +kernel
theorem dX12_write_12 : decode cX12_write 12 = .ok (.bipush (-2), 2) := by decide +kernel
theorem dX12_write_14 : decode cX12_write 14 = .ok (.ireturn, 1) := by decide +kernel
theorem dX12_write_15 : decode cX12_write 15 = .ok (.aload_n 0, 1) := by decide +kernel
theorem dX12_write_16 : decode cX12_write 16 = .ok (.bipush 7, 2) := by decide +kernel
theorem dX12_write_18 : decode cX12_write 18 = .ok (.invokevirtual 66, 3) := by decide +kernel
theorem dX12_write_21 : decode cX12_write 21 = .ok (.bipush 40, 2) := by decide +kernel
theorem dX12_write_23 : decode cX12_write 23 = .ok (.if_icmp .ne 6, 3) := by decide +kernel
theorem dX12_write_26 : decode cX12_write 26 = .ok (.bipush (-4), 2) := by decide +kernel
theorem dX12_write_28 : decode cX12_write 28 = .ok (.ireturn, 1) := by decide +kernel
theorem dX12_write_29 : decode cX12_write 29 = .ok (.aload_n 0, 1) := by decide +kernel
theorem dX12_write_30 : decode cX12_write 30 = .ok (.getfield 7, 3) := by decide +kernel
theorem dX12_write_33 : decode cX12_write 33 = .ok (.sipush 4170, 3) := by decide +kernel
theorem dX12_write_36 : decode cX12_write 36 = .ok (.aload_n 0, 1) := by decide +kernel
theorem dX12_write_37 : decode cX12_write 37 = .ok (.bipush 7, 2) := by decide +kernel
theorem dX12_write_39 : decode cX12_write 39 = .ok (.invokevirtual 66, 3) := by decide +kernel
theorem dX12_write_42 : decode cX12_write 42 = .ok (.iadd, 1) := by decide +kernel
theorem dX12_write_43 : decode cX12_write 43 = .ok (.iload_n 1, 1) := by decide +kernel
theorem dX12_write_44 : decode cX12_write 44 = .ok (.iastore, 1) := by decide +kernel
theorem dX12_write_45 : decode cX12_write 45 = .ok (.aload_n 0, 1) := by decide +kernel
theorem dX12_write_46 : decode cX12_write 46 = .ok (.getfield 7, 3) := by decide +kernel
theorem dX12_write_49 : decode cX12_write 49 = .ok (.sipush 4217, 3) := by decide +kernel
theorem dX12_write_52 : decode cX12_write 52 = .ok (.dup2, 1) := by decide +kernel
theorem dX12_write_53 : decode cX12_write 53 = .ok (.iaload, 1) := by decide +kernel
theorem dX12_write_54 : decode cX12_write 54 = .ok (.iconst 1, 1) := by decide +kernel
theorem dX12_write_55 : decode cX12_write 55 = .ok (.iadd, 1) := by decide +kernel
theorem dX12_write_56 : decode cX12_write 56 = .ok (.iastore, 1) := by decide +kernel
theorem dX12_write_57 : decode cX12_write 57 = .ok (.aload_n 0, 1) := by decide +kernel
theorem dX12_write_58 : decode cX12_write 58 = .ok (.bipush 7, 2) := by decide +kernel
theorem dX12_write_60 : decode cX12_write 60 = .ok (.invokevirtual 66, 3) := by decide +kernel
theorem dX12_write_63 : decode cX12_write 63 = .ok (.ireturn, 1) := by decide +kernel
theorem dX12_erase_0 : decode cX12_erase 0 = .ok (.aload_n 0, 1) := by decide +kernel
theorem dX12_erase_1 : decode cX12_erase 1 = .ok (.bipush 7, 2) := by decide +kernel
theorem dX12_erase_3 : decode cX12_erase 3 = .ok (.invokevirtual 66, 3) := by decide +kernel
theorem dX12_erase_6 : decode cX12_erase 6 = .ok (.istore_n 1, 1) := by decide +kernel
theorem dX12_erase_7 : decode cX12_erase 7 = .ok (.aload_n 0, 1) := by decide +kernel
theorem dX12_erase_8 : decode cX12_erase 8 = .ok (.getfield 7, 3) := by decide +kernel
theorem dX12_erase_11 : decode cX12_erase 11 = .ok (.sipush 4217, 3) := by decide +kernel
theorem dX12_erase_14 : decode cX12_erase 14 = .ok (.iconst 0, 1) := by decide +kernel
theorem dX12_erase_15 : decode cX12_erase 15 = .ok (.iastore, 1) := by decide +kernel
theorem dX12_erase_16 : decode cX12_erase 16 = .ok (.iload_n 1, 1) := by decide +kernel
theorem dX12_erase_17 : decode cX12_erase 17 = .ok (.ireturn, 1) := by decide +kernel
theorem dX12_ahead_0 : decode cX12_ahead 0 = .ok (.aload_n 0, 1) := by decide +kernel
theorem dX12_ahead_1 : decode cX12_ahead 1 = .ok (.getfield 249, 3) := by decide +kernel
theorem dX12_ahead_4 : decode cX12_ahead 4 = .ok (.aload_n 0, 1) := by decide +kernel
theorem dX12_ahead_5 : decode cX12_ahead 5 = .ok (.bipush 7, 2) := by decide +kernel
theorem dX12_ahead_7 : decode cX12_ahead 7 = .ok (.invokevirtual 66, 3) := by decide +kernel
theorem dX12_ahead_10 : decode cX12_ahead 10 = .ok (.if_icmp .ge 34, 3) := by decide +kernel
theorem dX12_ahead_13 : decode cX12_ahead 13 = .ok (.aload_n 0, 1) := by decide +kernel
theorem dX12_ahead_14 : decode cX12_ahead 14 = .ok (.getfield 7, 3) := by decide +kernel
theorem dX12_ahead_17 : decode cX12_ahead 17 = .ok (.sipush 4170, 3) := by decide +kernel
theorem dX12_ahead_20 : decode cX12_ahead 20 = .ok (.aload_n 0, 1) := by decide +kernel
theorem dX12_ahead_21 : decode cX12_ahead 21 = .ok (.getfield 249, 3) := by decide +kernel
theorem dX12_ahead_24 : decode cX12_ahead 24 = .ok (.iadd, 1) := by decide +kernel
theorem dX12_ahead_25 : decode cX12_ahead 25 = .ok (.iaload, 1) := by decide +kernel
theorem dX12_ahead_26 : decode cX12_ahead 26 = .ok (.bipush 32, 2) := by decide +kernel
theorem dX12_ahead_28 : decode cX12_ahead 28 = .ok (.if_icmp .ne 16, 3) := by decide +kernel
theorem dX12_ahead_31 : decode cX12_ahead 31 = .ok (.aload_n 0, 1) := by decide +kernel
theorem dX12_ahead_32 : decode cX12_ahead 32 = .ok (.dup, 1) := by decide +kernel
theorem dX12_ahead_33 : decode cX12_ahead 33 = .ok (.getfield 249, 3) := by decide +kernel
theorem dX12_ahead_36 : decode cX12_ahead 36 = .ok (.iconst 1, 1) := by decide +kernel
theorem dX12_ahead_37 : decode cX12_ahead 37 = .ok (.iadd, 1) := by decide +kernel
theorem dX12_ahead_38 : decode cX12_ahead 38 = .ok (.putfield 249, 3) := by decide +kernel
theorem dX12_ahead_41 : decode cX12_ahead 41 = .ok (.goto (-41), 3) := by decide +kernel
theorem dX12_ahead_44 : decode cX12_ahead 44 = .ok (.aload_n 0, 1) := by decide +kernel
theorem dX12_ahead_45 : decode cX12_ahead 45 = .ok (.getfield 249, 3) := by decide +kernel
theorem dX12_ahead_48 : decode cX12_ahead 48 = .ok (.aload_n 0, 1) := by decide +kernel
theorem dX12_ahead_49 : decode cX12_ahead 49 = .ok (.bipush 7, 2) := by decide +kernel
theorem dX12_ahead_51 : decode cX12_ahead 51 = .ok (.invokevirtual 66, 3) := by decide +kernel
theorem dX12_ahead_54 : decode cX12_ahead 54 = .ok (.if_icmp .ge 19, 3) := by decide +kernel
theorem dX12_ahead_57 : decode cX12_ahead 57 = .ok (.aload_n 0, 1) := by decide +kernel
theorem dX12_ahead_58 : decode cX12_ahead 58 = .ok (.getfield 7, 3) := by decide +kernel
theorem dX12_ahead_61 : decode cX12_ahead 61 = .ok (.sipush 4170, 3) := by decide +kernel
theorem dX12_ahead_64 : decode cX12_ahead 64 = .ok (.aload_n 0, 1) := by decide +kernel
theorem dX12_ahead_65 : decode cX12_ahead 65 = .ok (.getfield 249, 3) := by decide +kernel
theorem dX12_ahead_68 : decode cX12_ahead 68 = .ok (.iadd, 1) := by decide +kernel
theorem dX12_ahead_69 : decode cX12_ahead 69 = .ok (.iaload, 1) := by decide +kernel
theorem dX12_ahead_70 : decode cX12_ahead 70 = .ok (.goto 4, 3) := by decide +kernel
theorem dX12_ahead_73 : decode cX12_ahead 73 = .ok (.iconst (-1), 1) := by decide +kernel
theorem dX12_ahead_74 : decode cX12_ahead 74 = .ok (.ireturn, 1) := by decide +kernel
theorem dX12_rank_0 : decode cX12_rank 0 = .ok (.iload_n 0, 1) := by decide +kernel
theorem dX12_rank_1 : decode cX12_rank 1 = .ok (.lookupswitch 93 #[(38, 85), (42, 91), (43, 89), (45, 89), (47, 91), (60, 87), (61, 87), (62, 87), (124, 83)], 83) := by decide +kernel
theorem dX12_rank_84 : decode cX12_rank 84 = .ok (.iconst 1, 1) := by decide +kernel
theorem dX12_rank_85 : decode cX12_rank 85 = .ok (.ireturn, 1) := by decide +kernel
theorem dX12_rank_86 : decode cX12_rank 86 = .ok (.iconst 2, 1) := by decide +kernel
theorem dX12_rank_87 : decode cX12_rank 87 = .ok (.ireturn, 1) := by decide +kernel
theorem dX12_rank_88 : decode cX12_rank 88 = .ok (.iconst 3, 1) := by decide +kernel
theorem dX12_rank_89 : decode cX12_rank 89 = .ok (.ireturn, 1) := by decide +kernel
theorem dX12_rank_90 : decode cX12_rank 90 = .ok (.iconst 4, 1) := by decide +kernel
theorem dX12_rank_91 : decode cX12_rank 91 = .ok (.ireturn, 1) := by decide +kernel
theorem dX12_rank_92 : decode cX12_rank 92 = .ok (.iconst 5, 1) := by decide +kernel
theorem dX12_rank_93 : decode cX12_rank 93 = .ok (.ireturn, 1) := by decide +kernel
theorem dX12_rank_94 : decode cX12_rank 94 = .ok (.iconst 0, 1) := by decide +kernel
theorem dX12_rank_95 : decode cX12_rank 95 = .ok (.ireturn, 1) := by decide +kernel
theorem dX12_works_0 : decode cX12_works 0 = .ok (.aload_n 0, 1) := by decide +kernel
theorem dX12_works_1 : decode cX12_works 1 = .ok (.dup, 1) := by decide +kernel
theorem dX12_works_2 : decode cX12_works 2 = .ok (.getfield 252, 3) := by decide +kernel
theorem dX12_works_5 : decode cX12_works 5 = .ok (.iconst 1, 1) := by decide +kernel
theorem dX12_works_6 : decode cX12_works 6 = .ok (.isub, 1) := by decide +kernel
theorem dX12_works_7 : decode cX12_works 7 = .ok (.putfield 252, 3) := by decide +kernel
theorem dX12_works_10 : decode cX12_works 10 = .ok (.aload_n 0, 1) := by decide +kernel
theorem dX12_works_11 : decode cX12_works 11 = .ok (.dup, 1) := by decide +kernel
theorem dX12_works_12 : decode cX12_works 12 = .ok (.getfield 255, 3) := by decide +kernel
theorem dX12_works_15 : decode cX12_works 15 = .ok (.iconst 1, 1) := by decide +kernel
theorem dX12_works_16 : decode cX12_works 16 = .ok (.isub, 1) := by decide +kernel
theorem dX12_works_17 : decode cX12_works 17 = .ok (.putfield 255, 3) := by decide +kernel
theorem dX12_works_20 : decode cX12_works 20 = .ok (.aload_n 0, 1) := by decide +kernel
theorem dX12_works_21 : decode cX12_works 21 = .ok (.getfield 56, 3) := by decide +kernel
theorem dX12_works_24 : decode cX12_works 24 = .ok (.aload_n 0, 1) := by decide +kernel
theorem dX12_works_25 : decode cX12_works 25 = .ok (.getfield 255, 3) := by decide +kernel
theorem dX12_works_28 : decode cX12_works 28 = .ok (.iconst 1, 1) := by decide +kernel
theorem dX12_works_29 : decode cX12_works 29 = .ok (.isub, 1) := by decide +kernel
theorem dX12_works_30 : decode cX12_works 30 = .ok (.laload, 1) := by decide +kernel
theorem dX12_works_31 : decode cX12_works 31 = .ok (.lstore_n 1, 1) := by decide +kernel
theorem dX12_works_32 : decode cX12_works 32 = .ok (.aload_n 0, 1) := by decide +kernel
theorem dX12_works_33 : decode cX12_works 33 = .ok (.getfield 56, 3) := by decide +kernel
theorem dX12_works_36 : decode cX12_works 36 = .ok (.aload_n 0, 1) := by decide +kernel
theorem dX12_works_37 : decode cX12_works 37 = .ok (.getfield 255, 3) := by decide +kernel
theorem dX12_works_40 : decode cX12_works 40 = .ok (.laload, 1) := by decide +kernel
theorem dX12_works_41 : decode cX12_works 41 = .ok (.lstore_n 3, 1) := by decide +kernel
theorem dX12_works_42 : decode cX12_works 42 = .ok (.lconst 0, 1) := by decide +kernel
theorem dX12_works_43 : decode cX12_works 43 = .ok (.lstore 5, 2) := by decide +kernel
theorem dX12_works_45 : decode cX12_works 45 = .ok (.aload_n 0, 1) := by decide +kernel
theorem dX12_works_46 : decode cX12_works 46 = .ok (.getfield 60, 3) := by decide +kernel
theorem dX12_works_49 : decode cX12_works 49 = .ok (.aload_n 0, 1) := by decide +kernel
theorem dX12_works_50 : decode cX12_works 50 = .ok (.getfield 252, 3) := by decide +kernel
theorem dX12_works_53 : decode cX12_works 53 = .ok (.iaload, 1) := by decide +kernel
theorem dX12_works_54 : decode cX12_works 54 = .ok (.lookupswitch 190 #[(38, 96), (42, 182), (43, 166), (45, 174), (60, 118), (61, 150), (62, 134), (124, 74)], 74) := by decide +kernel
theorem dX12_works_128 : decode cX12_works 128 = .ok (.lload_n 1, 1) := by decide +kernel
theorem dX12_works_129 : decode cX12_works 129 = .ok (.lconst 0, 1) := by decide +kernel
theorem dX12_works_130 : decode cX12_works 130 = .ok (.lcmp, 1) := by decide +kernel
theorem dX12_works_131 : decode cX12_works 131 = .ok (.ifCond .ne 9, 3) := by decide +kernel
theorem dX12_works_134 : decode cX12_works 134 = .ok (.lload_n 3, 1) := by decide +kernel
theorem dX12_works_135 : decode cX12_works 135 = .ok (.lconst 0, 1) := by decide +kernel
theorem dX12_works_136 : decode cX12_works 136 = .ok (.lcmp, 1) := by decide +kernel
theorem dX12_works_137 : decode cX12_works 137 = .ok (.ifCond .eq 7, 3) := by decide +kernel
theorem dX12_works_140 : decode cX12_works 140 = .ok (.lconst 1, 1) := by decide +kernel
theorem dX12_works_141 : decode cX12_works 141 = .ok (.goto 4, 3) := by decide +kernel
theorem dX12_works_144 : decode cX12_works 144 = .ok (.lconst 0, 1) := by decide +kernel
theorem dX12_works_145 : decode cX12_works 145 = .ok (.lstore 5, 2) := by decide +kernel
theorem dX12_works_147 : decode cX12_works 147 = .ok (.goto 112, 3) := by decide +kernel
theorem dX12_works_150 : decode cX12_works 150 = .ok (.lload_n 1, 1) := by decide +kernel
theorem dX12_works_151 : decode cX12_works 151 = .ok (.lconst 0, 1) := by decide +kernel
theorem dX12_works_152 : decode cX12_works 152 = .ok (.lcmp, 1) := by decide +kernel
theorem dX12_works_153 : decode cX12_works 153 = .ok (.ifCond .eq 13, 3) := by decide +kernel
theorem dX12_works_156 : decode cX12_works 156 = .ok (.lload_n 3, 1) := by decide +kernel
theorem dX12_works_157 : decode cX12_works 157 = .ok (.lconst 0, 1) := by decide +kernel
theorem dX12_works_158 : decode cX12_works 158 = .ok (.lcmp, 1) := by decide +kernel
theorem dX12_works_159 : decode cX12_works 159 = .ok (.ifCond .eq 7, 3) := by decide +kernel
theorem dX12_works_162 : decode cX12_works 162 = .ok (.lconst 1, 1) := by decide +kernel
theorem dX12_works_163 : decode cX12_works 163 = .ok (.goto 4, 3) := by decide +kernel
theorem dX12_works_166 : decode cX12_works 166 = .ok (.lconst 0, 1) := by decide +kernel
theorem dX12_works_167 : decode cX12_works 167 = .ok (.lstore 5, 2) := by decide +kernel
theorem dX12_works_169 : decode cX12_works 169 = .ok (.goto 90, 3) := by decide +kernel
theorem dX12_works_172 : decode cX12_works 172 = .ok (.lload_n 1, 1) := by decide +kernel
theorem dX12_works_173 : decode cX12_works 173 = .ok (.lload_n 3, 1) := by decide +kernel
theorem dX12_works_174 : decode cX12_works 174 = .ok (.lcmp, 1) := by decide +kernel
theorem dX12_works_175 : decode cX12_works 175 = .ok (.ifCond .ge 7, 3) := by decide +kernel
theorem dX12_works_178 : decode cX12_works 178 = .ok (.lconst 1, 1) := by decide +kernel
theorem dX12_works_179 : decode cX12_works 179 = .ok (.goto 4, 3) := by decide +kernel
theorem dX12_works_182 : decode cX12_works 182 = .ok (.lconst 0, 1) := by decide +kernel
theorem dX12_works_183 : decode cX12_works 183 = .ok (.lstore 5, 2) := by decide +kernel
theorem dX12_works_185 : decode cX12_works 185 = .ok (.goto 74, 3) := by decide +kernel
theorem dX12_works_188 : decode cX12_works 188 = .ok (.lload_n 1, 1) := by decide +kernel
theorem dX12_works_189 : decode cX12_works 189 = .ok (.lload_n 3, 1) := by decide +kernel
theorem dX12_works_190 : decode cX12_works 190 = .ok (.lcmp, 1) := by decide +kernel
theorem dX12_works_191 : decode cX12_works 191 = .ok (.ifCond .le 7, 3) := by decide +kernel
theorem dX12_works_194 : decode cX12_works 194 = .ok (.lconst 1, 1) := by decide +kernel
theorem dX12_works_195 : decode cX12_works 195 = .ok (.goto 4, 3) := by decide +kernel
theorem dX12_works_198 : decode cX12_works 198 = .ok (.lconst 0, 1) := by decide +kernel
theorem dX12_works_199 : decode cX12_works 199 = .ok (.lstore 5, 2) := by decide +kernel
theorem dX12_works_201 : decode cX12_works 201 = .ok (.goto 58, 3) := by decide +kernel
theorem dX12_works_204 : decode cX12_works 204 = .ok (.lload_n 1, 1) := by decide +kernel
theorem dX12_works_205 : decode cX12_works 205 = .ok (.lload_n 3, 1) := by decide +kernel
theorem dX12_works_206 : decode cX12_works 206 = .ok (.lcmp, 1) := by decide +kernel
theorem dX12_works_207 : decode cX12_works 207 = .ok (.ifCond .ne 7, 3) := by decide +kernel
theorem dX12_works_210 : decode cX12_works 210 = .ok (.lconst 1, 1) := by decide +kernel
theorem dX12_works_211 : decode cX12_works 211 = .ok (.goto 4, 3) := by decide +kernel
theorem dX12_works_214 : decode cX12_works 214 = .ok (.lconst 0, 1) := by decide +kernel
theorem dX12_works_215 : decode cX12_works 215 = .ok (.lstore 5, 2) := by decide +kernel
theorem dX12_works_217 : decode cX12_works 217 = .ok (.goto 42, 3) := by decide +kernel
theorem dX12_works_220 : decode cX12_works 220 = .ok (.lload_n 1, 1) := by decide +kernel
theorem dX12_works_221 : decode cX12_works 221 = .ok (.lload_n 3, 1) := by decide +kernel
theorem dX12_works_222 : decode cX12_works 222 = .ok (.ladd, 1) := by decide +kernel
theorem dX12_works_223 : decode cX12_works 223 = .ok (.lstore 5, 2) := by decide +kernel
theorem dX12_works_225 : decode cX12_works 225 = .ok (.goto 34, 3) := by decide +kernel
theorem dX12_works_228 : decode cX12_works 228 = .ok (.lload_n 1, 1) := by decide +kernel
theorem dX12_works_229 : decode cX12_works 229 = .ok (.lload_n 3, 1) := by decide +kernel
theorem dX12_works_230 : decode cX12_works 230 = .ok (.lsub, 1) := by decide +kernel
theorem dX12_works_231 : decode cX12_works 231 = .ok (.lstore 5, 2) := by decide +kernel
theorem dX12_works_233 : decode cX12_works 233 = .ok (.goto 26, 3) := by decide +kernel
theorem dX12_works_236 : decode cX12_works 236 = .ok (.lload_n 1, 1) := by decide +kernel
theorem dX12_works_237 : decode cX12_works 237 = .ok (.lload_n 3, 1) := by decide +kernel
theorem dX12_works_238 : decode cX12_works 238 = .ok (.lmul, 1) := by decide +kernel
theorem dX12_works_239 : decode cX12_works 239 = .ok (.lstore 5, 2) := by decide +kernel
theorem dX12_works_241 : decode cX12_works 241 = .ok (.goto 18, 3) := by decide +kernel
theorem dX12_works_244 : decode cX12_works 244 = .ok (.lload_n 3, 1) := by decide +kernel
theorem dX12_works_245 : decode cX12_works 245 = .ok (.lconst 0, 1) := by decide +kernel
theorem dX12_works_246 : decode cX12_works 246 = .ok (.lcmp, 1) := by decide +kernel
theorem dX12_works_247 : decode cX12_works 247 = .ok (.ifCond .ne 7, 3) := by decide +kernel
theorem dX12_works_250 : decode cX12_works 250 = .ok (.lconst 0, 1) := by decide +kernel
theorem dX12_works_251 : decode cX12_works 251 = .ok (.goto 6, 3) := by decide +kernel
theorem dX12_works_254 : decode cX12_works 254 = .ok (.lload_n 1, 1) := by decide +kernel
theorem dX12_works_255 : decode cX12_works 255 = .ok (.lload_n 3, 1) := by decide +kernel
theorem dX12_works_256 : decode cX12_works 256 = .ok (.ldiv, 1) := by decide +kernel
theorem dX12_works_257 : decode cX12_works 257 = .ok (.lstore 5, 2) := by decide +kernel
theorem dX12_works_259 : decode cX12_works 259 = .ok (.aload_n 0, 1) := by decide +kernel
theorem dX12_works_260 : decode cX12_works 260 = .ok (.getfield 56, 3) := by decide +kernel
theorem dX12_works_263 : decode cX12_works 263 = .ok (.aload_n 0, 1) := by decide +kernel
theorem dX12_works_264 : decode cX12_works 264 = .ok (.getfield 255, 3) := by decide +kernel
theorem dX12_works_267 : decode cX12_works 267 = .ok (.iconst 1, 1) := by decide +kernel
theorem dX12_works_268 : decode cX12_works 268 = .ok (.isub, 1) := by decide +kernel
theorem dX12_works_269 : decode cX12_works 269 = .ok (.lload 5, 2) := by decide +kernel
theorem dX12_works_271 : decode cX12_works 271 = .ok (.lastore, 1) := by decide +kernel
theorem dX12_works_272 : decode cX12_works 272 = .ok (.return_, 1) := by decide +kernel
theorem dX12_worksDown_0 : decode cX12_worksDown 0 = .ok (.aload_n 0, 1) := by decide +kernel
theorem dX12_worksDown_1 : decode cX12_worksDown 1 = .ok (.getfield 252, 3) := by decide +kernel
theorem dX12_worksDown_4 : decode cX12_worksDown 4 = .ok (.ifCond .le 45, 3) := by decide +kernel
theorem dX12_worksDown_7 : decode cX12_worksDown 7 = .ok (.aload_n 0, 1) := by decide +kernel
theorem dX12_worksDown_8 : decode cX12_worksDown 8 = .ok (.getfield 60, 3) := by decide +kernel
theorem dX12_worksDown_11 : decode cX12_worksDown 11 = .ok (.aload_n 0, 1) := by decide +kernel
theorem dX12_worksDown_12 : decode cX12_worksDown 12 = .ok (.getfield 252, 3) := by decide +kernel
theorem dX12_worksDown_15 : decode cX12_worksDown 15 = .ok (.iconst 1, 1) := by decide +kernel
theorem dX12_worksDown_16 : decode cX12_worksDown 16 = .ok (.isub, 1) := by decide +kernel
theorem dX12_worksDown_17 : decode cX12_worksDown 17 = .ok (.iaload, 1) := by decide +kernel
theorem dX12_worksDown_18 : decode cX12_worksDown 18 = .ok (.sipush 1000, 3) := by decide +kernel
theorem dX12_worksDown_21 : decode cX12_worksDown 21 = .ok (.if_icmp .ge 28, 3) := by decide +kernel
theorem dX12_worksDown_24 : decode cX12_worksDown 24 = .ok (.aload_n 0, 1) := by decide +kernel
theorem dX12_worksDown_25 : decode cX12_worksDown 25 = .ok (.getfield 60, 3) := by decide +kernel
theorem dX12_worksDown_28 : decode cX12_worksDown 28 = .ok (.aload_n 0, 1) := by decide +kernel
theorem dX12_worksDown_29 : decode cX12_worksDown 29 = .ok (.getfield 252, 3) := by decide +kernel
theorem dX12_worksDown_32 : decode cX12_worksDown 32 = .ok (.iconst 1, 1) := by decide +kernel
theorem dX12_worksDown_33 : decode cX12_worksDown 33 = .ok (.isub, 1) := by decide +kernel
theorem dX12_worksDown_34 : decode cX12_worksDown 34 = .ok (.iaload, 1) := by decide +kernel
theorem dX12_worksDown_35 : decode cX12_worksDown 35 = .ok (.invokestatic 258, 3) := by decide +kernel
theorem dX12_worksDown_38 : decode cX12_worksDown 38 = .ok (.iload_n 1, 1) := by decide +kernel
theorem dX12_worksDown_39 : decode cX12_worksDown 39 = .ok (.if_icmp .lt 10, 3) := by decide +kernel
theorem dX12_worksDown_42 : decode cX12_worksDown 42 = .ok (.aload_n 0, 1) := by decide +kernel
theorem dX12_worksDown_43 : decode cX12_worksDown 43 = .ok (.invokevirtual 261, 3) := by decide +kernel
theorem dX12_worksDown_46 : decode cX12_worksDown 46 = .ok (.goto (-46), 3) := by decide +kernel
theorem dX12_worksDown_49 : decode cX12_worksDown 49 = .ok (.return_, 1) := by decide +kernel
theorem dX12_stands_0 : decode cX12_stands 0 = .ok (.lload_n 1, 1) := by decide +kernel
theorem dX12_stands_1 : decode cX12_stands 1 = .ok (.lstore_n 3, 1) := by decide +kernel
theorem dX12_stands_2 : decode cX12_stands 2 = .ok (.aload_n 0, 1) := by decide +kernel
theorem dX12_stands_3 : decode cX12_stands 3 = .ok (.getfield 252, 3) := by decide +kernel
theorem dX12_stands_6 : decode cX12_stands 6 = .ok (.ifCond .le 67, 3) := by decide +kernel
theorem dX12_stands_9 : decode cX12_stands 9 = .ok (.aload_n 0, 1) := by decide +kernel
theorem dX12_stands_10 : decode cX12_stands 10 = .ok (.getfield 60, 3) := by decide +kernel
theorem dX12_stands_13 : decode cX12_stands 13 = .ok (.aload_n 0, 1) := by decide +kernel
theorem dX12_stands_14 : decode cX12_stands 14 = .ok (.getfield 252, 3) := by decide +kernel
theorem dX12_stands_17 : decode cX12_stands 17 = .ok (.iconst 1, 1) := by decide +kernel
theorem dX12_stands_18 : decode cX12_stands 18 = .ok (.isub, 1) := by decide +kernel
theorem dX12_stands_19 : decode cX12_stands 19 = .ok (.iaload, 1) := by decide +kernel
theorem dX12_stands_20 : decode cX12_stands 20 = .ok (.sipush 1000, 3) := by decide +kernel
theorem dX12_stands_23 : decode cX12_stands 23 = .ok (.if_icmp .le 50, 3) := by decide +kernel
theorem dX12_stands_26 : decode cX12_stands 26 = .ok (.aload_n 0, 1) := by decide +kernel
theorem dX12_stands_27 : decode cX12_stands 27 = .ok (.getfield 60, 3) := by decide +kernel
theorem dX12_stands_30 : decode cX12_stands 30 = .ok (.aload_n 0, 1) := by decide +kernel
theorem dX12_stands_31 : decode cX12_stands 31 = .ok (.getfield 252, 3) := by decide +kernel
theorem dX12_stands_34 : decode cX12_stands 34 = .ok (.iconst 1, 1) := by decide +kernel
theorem dX12_stands_35 : decode cX12_stands 35 = .ok (.isub, 1) := by decide +kernel
theorem dX12_stands_36 : decode cX12_stands 36 = .ok (.iaload, 1) := by decide +kernel
theorem dX12_stands_37 : decode cX12_stands 37 = .ok (.sipush 1001, 3) := by decide +kernel
theorem dX12_stands_40 : decode cX12_stands 40 = .ok (.if_icmp .ne 17, 3) := by decide +kernel
theorem dX12_stands_43 : decode cX12_stands 43 = .ok (.lload_n 3, 1) := by decide +kernel
theorem dX12_stands_44 : decode cX12_stands 44 = .ok (.lconst 0, 1) := by decide +kernel
theorem dX12_stands_45 : decode cX12_stands 45 = .ok (.lcmp, 1) := by decide +kernel
theorem dX12_stands_46 : decode cX12_stands 46 = .ok (.ifCond .ne 7, 3) := by decide +kernel
theorem dX12_stands_49 : decode cX12_stands 49 = .ok (.lconst 1, 1) := by decide +kernel
theorem dX12_stands_50 : decode cX12_stands 50 = .ok (.goto 9, 3) := by decide +kernel
theorem dX12_stands_53 : decode cX12_stands 53 = .ok (.lconst 0, 1) := by decide +kernel
theorem dX12_stands_54 : decode cX12_stands 54 = .ok (.goto 5, 3) := by decide +kernel
theorem dX12_stands_57 : decode cX12_stands 57 = .ok (.lload_n 3, 1) := by decide +kernel
theorem dX12_stands_58 : decode cX12_stands 58 = .ok (.lneg, 1) := by decide +kernel
theorem dX12_stands_59 : decode cX12_stands 59 = .ok (.lstore_n 3, 1) := by decide +kernel
theorem dX12_stands_60 : decode cX12_stands 60 = .ok (.aload_n 0, 1) := by decide +kernel
theorem dX12_stands_61 : decode cX12_stands 61 = .ok (.dup, 1) := by decide +kernel
theorem dX12_stands_62 : decode cX12_stands 62 = .ok (.getfield 252, 3) := by decide +kernel
theorem dX12_stands_65 : decode cX12_stands 65 = .ok (.iconst 1, 1) := by decide +kernel
theorem dX12_stands_66 : decode cX12_stands 66 = .ok (.isub, 1) := by decide +kernel
theorem dX12_stands_67 : decode cX12_stands 67 = .ok (.putfield 252, 3) := by decide +kernel
theorem dX12_stands_70 : decode cX12_stands 70 = .ok (.goto (-68), 3) := by decide +kernel
theorem dX12_stands_73 : decode cX12_stands 73 = .ok (.aload_n 0, 1) := by decide +kernel
theorem dX12_stands_74 : decode cX12_stands 74 = .ok (.getfield 56, 3) := by decide +kernel
theorem dX12_stands_77 : decode cX12_stands 77 = .ok (.aload_n 0, 1) := by decide +kernel
theorem dX12_stands_78 : decode cX12_stands 78 = .ok (.getfield 255, 3) := by decide +kernel
theorem dX12_stands_81 : decode cX12_stands 81 = .ok (.lload_n 3, 1) := by decide +kernel
theorem dX12_stands_82 : decode cX12_stands 82 = .ok (.lastore, 1) := by decide +kernel
theorem dX12_stands_83 : decode cX12_stands 83 = .ok (.aload_n 0, 1) := by decide +kernel
theorem dX12_stands_84 : decode cX12_stands 84 = .ok (.dup, 1) := by decide +kernel
theorem dX12_stands_85 : decode cX12_stands 85 = .ok (.getfield 255, 3) := by decide +kernel
theorem dX12_stands_88 : decode cX12_stands 88 = .ok (.iconst 1, 1) := by decide +kernel
theorem dX12_stands_89 : decode cX12_stands 89 = .ok (.iadd, 1) := by decide +kernel
theorem dX12_stands_90 : decode cX12_stands 90 = .ok (.putfield 255, 3) := by decide +kernel
theorem dX12_stands_93 : decode cX12_stands 93 = .ok (.return_, 1) := by decide +kernel
theorem dX12_nameOf_0 : decode cX12_nameOf 0 = .ok (.iload_n 1, 1) := by decide +kernel
theorem dX12_nameOf_1 : decode cX12_nameOf 1 = .ok (.bipush 110, 2) := by decide +kernel
theorem dX12_nameOf_3 : decode cX12_nameOf 3 = .ok (.if_icmp .ne 7, 3) := by decide +kernel
theorem dX12_nameOf_6 : decode cX12_nameOf 6 = .ok (.iconst 0, 1) := by decide +kernel
theorem dX12_nameOf_7 : decode cX12_nameOf 7 = .ok (.goto 54, 3) := by decide +kernel
theorem dX12_nameOf_10 : decode cX12_nameOf 10 = .ok (.iload_n 1, 1) := by decide +kernel
theorem dX12_nameOf_11 : decode cX12_nameOf 11 = .ok (.bipush 109, 2) := by decide +kernel
theorem dX12_nameOf_13 : decode cX12_nameOf 13 = .ok (.if_icmp .ne 7, 3) := by decide +kernel
theorem dX12_nameOf_16 : decode cX12_nameOf 16 = .ok (.iconst 1, 1) := by decide +kernel
theorem dX12_nameOf_17 : decode cX12_nameOf 17 = .ok (.goto 44, 3) := by decide +kernel
theorem dX12_nameOf_20 : decode cX12_nameOf 20 = .ok (.iload_n 1, 1) := by decide +kernel
theorem dX12_nameOf_21 : decode cX12_nameOf 21 = .ok (.bipush 108, 2) := by decide +kernel
theorem dX12_nameOf_23 : decode cX12_nameOf 23 = .ok (.if_icmp .ne 7, 3) := by decide +kernel
theorem dX12_nameOf_26 : decode cX12_nameOf 26 = .ok (.iconst 2, 1) := by decide +kernel
theorem dX12_nameOf_27 : decode cX12_nameOf 27 = .ok (.goto 34, 3) := by decide +kernel
theorem dX12_nameOf_30 : decode cX12_nameOf 30 = .ok (.iload_n 1, 1) := by decide +kernel
theorem dX12_nameOf_31 : decode cX12_nameOf 31 = .ok (.bipush 103, 2) := by decide +kernel
theorem dX12_nameOf_33 : decode cX12_nameOf 33 = .ok (.if_icmp .ne 7, 3) := by decide +kernel
theorem dX12_nameOf_36 : decode cX12_nameOf 36 = .ok (.iconst 3, 1) := by decide +kernel
theorem dX12_nameOf_37 : decode cX12_nameOf 37 = .ok (.goto 24, 3) := by decide +kernel
theorem dX12_nameOf_40 : decode cX12_nameOf 40 = .ok (.iload_n 1, 1) := by decide +kernel
theorem dX12_nameOf_41 : decode cX12_nameOf 41 = .ok (.bipush 112, 2) := by decide +kernel
theorem dX12_nameOf_43 : decode cX12_nameOf 43 = .ok (.if_icmp .ne 7, 3) := by decide +kernel
theorem dX12_nameOf_46 : decode cX12_nameOf 46 = .ok (.iconst 4, 1) := by decide +kernel
theorem dX12_nameOf_47 : decode cX12_nameOf 47 = .ok (.goto 14, 3) := by decide +kernel
theorem dX12_nameOf_50 : decode cX12_nameOf 50 = .ok (.iload_n 1, 1) := by decide +kernel
theorem dX12_nameOf_51 : decode cX12_nameOf 51 = .ok (.bipush 98, 2) := by decide +kernel
theorem dX12_nameOf_53 : decode cX12_nameOf 53 = .ok (.if_icmp .ne 7, 3) := by decide +kernel
theorem dX12_nameOf_56 : decode cX12_nameOf 56 = .ok (.iconst 5, 1) := by decide +kernel
theorem dX12_nameOf_57 : decode cX12_nameOf 57 = .ok (.goto 4, 3) := by decide +kernel
theorem dX12_nameOf_60 : decode cX12_nameOf 60 = .ok (.iconst (-1), 1) := by decide +kernel
theorem dX12_nameOf_61 : decode cX12_nameOf 61 = .ok (.ireturn, 1) := by decide +kernel
theorem dX12_digits_0 : decode cX12_digits 0 = .ok (.aload_n 0, 1) := by decide +kernel
theorem dX12_digits_1 : decode cX12_digits 1 = .ok (.getfield 249, 3) := by decide +kernel
theorem dX12_digits_4 : decode cX12_digits 4 = .ok (.istore_n 1, 1) := by decide +kernel
theorem dX12_digits_5 : decode cX12_digits 5 = .ok (.lconst 0, 1) := by decide +kernel
theorem dX12_digits_6 : decode cX12_digits 6 = .ok (.lstore_n 2, 1) := by decide +kernel
theorem dX12_digits_7 : decode cX12_digits 7 = .ok (.aload_n 0, 1) := by decide +kernel
theorem dX12_digits_8 : decode cX12_digits 8 = .ok (.getfield 249, 3) := by decide +kernel
theorem dX12_digits_11 : decode cX12_digits 11 = .ok (.aload_n 0, 1) := by decide +kernel
theorem dX12_digits_12 : decode cX12_digits 12 = .ok (.bipush 7, 2) := by decide +kernel
theorem dX12_digits_14 : decode cX12_digits 14 = .ok (.invokevirtual 66, 3) := by decide +kernel
theorem dX12_digits_17 : decode cX12_digits 17 = .ok (.if_icmp .ge 90, 3) := by decide +kernel
theorem dX12_digits_20 : decode cX12_digits 20 = .ok (.aload_n 0, 1) := by decide +kernel
theorem dX12_digits_21 : decode cX12_digits 21 = .ok (.getfield 7, 3) := by decide +kernel
theorem dX12_digits_24 : decode cX12_digits 24 = .ok (.sipush 4170, 3) := by decide +kernel
theorem dX12_digits_27 : decode cX12_digits 27 = .ok (.aload_n 0, 1) := by decide +kernel
theorem dX12_digits_28 : decode cX12_digits 28 = .ok (.getfield 249, 3) := by decide +kernel
theorem dX12_digits_31 : decode cX12_digits 31 = .ok (.iadd, 1) := by decide +kernel
theorem dX12_digits_32 : decode cX12_digits 32 = .ok (.iaload, 1) := by decide +kernel
theorem dX12_digits_33 : decode cX12_digits 33 = .ok (.i2l, 1) := by decide +kernel
theorem dX12_digits_34 : decode cX12_digits 34 = .ok (.ldc2_w 264, 3) := by decide +kernel
theorem dX12_digits_37 : decode cX12_digits 37 = .ok (.ldc2_w 266, 3) := by decide +kernel
theorem dX12_digits_40 : decode cX12_digits 40 = .ok (.invokestatic 70, 3) := by decide +kernel
theorem dX12_digits_43 : decode cX12_digits 43 = .ok (.ifCond .eq 64, 3) := by decide +kernel
theorem dX12_digits_46 : decode cX12_digits 46 = .ok (.aload_n 0, 1) := by decide +kernel
theorem dX12_digits_47 : decode cX12_digits 47 = .ok (.getfield 249, 3) := by decide +kernel
theorem dX12_digits_50 : decode cX12_digits 50 = .ok (.iload_n 1, 1) := by decide +kernel
theorem dX12_digits_51 : decode cX12_digits 51 = .ok (.isub, 1) := by decide +kernel
theorem dX12_digits_52 : decode cX12_digits 52 = .ok (.bipush 6, 2) := by decide +kernel
theorem dX12_digits_54 : decode cX12_digits 54 = .ok (.if_icmp .ne 15, 3) := by decide +kernel
theorem dX12_digits_57 : decode cX12_digits 57 = .ok (.aload_n 0, 1) := by decide +kernel
theorem dX12_digits_58 : decode cX12_digits 58 = .ok (.bipush 10, 2) := by decide +kernel
theorem dX12_digits_60 : decode cX12_digits 60 = .ok (.iload_n 1, 1) := by decide +kernel
theorem dX12_digits_61 : decode cX12_digits 61 = .ok (.imul, 1) := by decide +kernel
theorem dX12_digits_62 : decode cX12_digits 62 = .ok (.iconst 2, 1) := by decide +kernel
theorem dX12_digits_63 : decode cX12_digits 63 = .ok (.iadd, 1) := by decide +kernel
theorem dX12_digits_64 : decode cX12_digits 64 = .ok (.putfield 268, 3) := by decide +kernel
theorem dX12_digits_67 : decode cX12_digits 67 = .ok (.lconst 0, 1) := by decide +kernel
theorem dX12_digits_68 : decode cX12_digits 68 = .ok (.lreturn, 1) := by decide +kernel
theorem dX12_digits_69 : decode cX12_digits 69 = .ok (.ldc2_w 271, 3) := by decide +kernel
theorem dX12_digits_72 : decode cX12_digits 72 = .ok (.lload_n 2, 1) := by decide +kernel
theorem dX12_digits_73 : decode cX12_digits 73 = .ok (.lmul, 1) := by decide +kernel
theorem dX12_digits_74 : decode cX12_digits 74 = .ok (.aload_n 0, 1) := by decide +kernel
theorem dX12_digits_75 : decode cX12_digits 75 = .ok (.getfield 7, 3) := by decide +kernel
theorem dX12_digits_78 : decode cX12_digits 78 = .ok (.sipush 4170, 3) := by decide +kernel
theorem dX12_digits_81 : decode cX12_digits 81 = .ok (.aload_n 0, 1) := by decide +kernel
theorem dX12_digits_82 : decode cX12_digits 82 = .ok (.getfield 249, 3) := by decide +kernel
theorem dX12_digits_85 : decode cX12_digits 85 = .ok (.iadd, 1) := by decide +kernel
theorem dX12_digits_86 : decode cX12_digits 86 = .ok (.iaload, 1) := by decide +kernel
theorem dX12_digits_87 : decode cX12_digits 87 = .ok (.i2l, 1) := by decide +kernel
theorem dX12_digits_88 : decode cX12_digits 88 = .ok (.ladd, 1) := by decide +kernel
theorem dX12_digits_89 : decode cX12_digits 89 = .ok (.ldc2_w 264, 3) := by decide +kernel
theorem dX12_digits_92 : decode cX12_digits 92 = .ok (.lsub, 1) := by decide +kernel
theorem dX12_digits_93 : decode cX12_digits 93 = .ok (.lstore_n 2, 1) := by decide +kernel
theorem dX12_digits_94 : decode cX12_digits 94 = .ok (.aload_n 0, 1) := by decide +kernel
theorem dX12_digits_95 : decode cX12_digits 95 = .ok (.dup, 1) := by decide +kernel
theorem dX12_digits_96 : decode cX12_digits 96 = .ok (.getfield 249, 3) := by decide +kernel
theorem dX12_digits_99 : decode cX12_digits 99 = .ok (.iconst 1, 1) := by decide +kernel
theorem dX12_digits_100 : decode cX12_digits 100 = .ok (.iadd, 1) := by decide +kernel
theorem dX12_digits_101 : decode cX12_digits 101 = .ok (.putfield 249, 3) := by decide +kernel
theorem dX12_digits_104 : decode cX12_digits 104 = .ok (.goto (-97), 3) := by decide +kernel
theorem dX12_digits_107 : decode cX12_digits 107 = .ok (.lload_n 2, 1) := by decide +kernel
theorem dX12_digits_108 : decode cX12_digits 108 = .ok (.lreturn, 1) := by decide +kernel
theorem dX12_reads_0 : decode cX12_reads 0 = .ok (.aload_n 0, 1) := by decide +kernel
theorem dX12_reads_1 : decode cX12_reads 1 = .ok (.iconst 0, 1) := by decide +kernel
theorem dX12_reads_2 : decode cX12_reads 2 = .ok (.putfield 249, 3) := by decide +kernel
theorem dX12_reads_5 : decode cX12_reads 5 = .ok (.aload_n 0, 1) := by decide +kernel
theorem dX12_reads_6 : decode cX12_reads 6 = .ok (.iconst (-1), 1) := by decide +kernel
theorem dX12_reads_7 : decode cX12_reads 7 = .ok (.putfield 268, 3) := by decide +kernel
theorem dX12_reads_10 : decode cX12_reads 10 = .ok (.aload_n 0, 1) := by decide +kernel
theorem dX12_reads_11 : decode cX12_reads 11 = .ok (.iconst 0, 1) := by decide +kernel
theorem dX12_reads_12 : decode cX12_reads 12 = .ok (.putfield 255, 3) := by decide +kernel
theorem dX12_reads_15 : decode cX12_reads 15 = .ok (.aload_n 0, 1) := by decide +kernel
theorem dX12_reads_16 : decode cX12_reads 16 = .ok (.iconst 0, 1) := by decide +kernel
theorem dX12_reads_17 : decode cX12_reads 17 = .ok (.putfield 252, 3) := by decide +kernel
theorem dX12_reads_20 : decode cX12_reads 20 = .ok (.iconst 0, 1) := by decide +kernel
theorem dX12_reads_21 : decode cX12_reads 21 = .ok (.istore_n 1, 1) := by decide +kernel
theorem dX12_reads_22 : decode cX12_reads 22 = .ok (.iconst 1, 1) := by decide +kernel
theorem dX12_reads_23 : decode cX12_reads 23 = .ok (.istore_n 2, 1) := by decide +kernel
theorem dX12_reads_24 : decode cX12_reads 24 = .ok (.iconst 1, 1) := by decide +kernel
theorem dX12_reads_25 : decode cX12_reads 25 = .ok (.istore_n 3, 1) := by decide +kernel
theorem dX12_reads_26 : decode cX12_reads 26 = .ok (.iload_n 3, 1) := by decide +kernel
theorem dX12_reads_27 : decode cX12_reads 27 = .ok (.ifCond .eq 463, 3) := by decide +kernel
theorem dX12_reads_30 : decode cX12_reads 30 = .ok (.aload_n 0, 1) := by decide +kernel
theorem dX12_reads_31 : decode cX12_reads 31 = .ok (.getfield 268, 3) := by decide +kernel
theorem dX12_reads_34 : decode cX12_reads 34 = .ok (.iconst (-1), 1) := by decide +kernel
theorem dX12_reads_35 : decode cX12_reads 35 = .ok (.if_icmp .ne 455, 3) := by decide +kernel
theorem dX12_reads_38 : decode cX12_reads 38 = .ok (.aload_n 0, 1) := by decide +kernel
theorem dX12_reads_39 : decode cX12_reads 39 = .ok (.invokevirtual 273, 3) := by decide +kernel
theorem dX12_reads_42 : decode cX12_reads 42 = .ok (.istore 4, 2) := by decide +kernel
theorem dX12_reads_44 : decode cX12_reads 44 = .ok (.iload_n 2, 1) := by decide +kernel
theorem dX12_reads_45 : decode cX12_reads 45 = .ok (.ifCond .eq 211, 3) := by decide +kernel
theorem dX12_reads_48 : decode cX12_reads 48 = .ok (.iload 4, 2) := by decide +kernel
theorem dX12_reads_50 : decode cX12_reads 50 = .ok (.i2l, 1) := by decide +kernel
theorem dX12_reads_51 : decode cX12_reads 51 = .ok (.ldc2_w 264, 3) := by decide +kernel
theorem dX12_reads_54 : decode cX12_reads 54 = .ok (.ldc2_w 266, 3) := by decide +kernel
theorem dX12_reads_57 : decode cX12_reads 57 = .ok (.invokestatic 70, 3) := by decide +kernel
theorem dX12_reads_60 : decode cX12_reads 60 = .ok (.ifCond .eq 16, 3) := by decide +kernel
theorem dX12_reads_63 : decode cX12_reads 63 = .ok (.aload_n 0, 1) := by decide +kernel
theorem dX12_reads_64 : decode cX12_reads 64 = .ok (.aload_n 0, 1) := by decide +kernel
theorem dX12_reads_65 : decode cX12_reads 65 = .ok (.invokevirtual 276, 3) := by decide +kernel
theorem dX12_reads_68 : decode cX12_reads 68 = .ok (.invokevirtual 280, 3) := by decide +kernel
theorem dX12_reads_71 : decode cX12_reads 71 = .ok (.iconst 0, 1) := by decide +kernel
theorem dX12_reads_72 : decode cX12_reads 72 = .ok (.istore_n 2, 1) := by decide +kernel
theorem dX12_reads_73 : decode cX12_reads 73 = .ok (.goto 414, 3) := by decide +kernel
theorem dX12_reads_76 : decode cX12_reads 76 = .ok (.aload_n 0, 1) := by decide +kernel
theorem dX12_reads_77 : decode cX12_reads 77 = .ok (.iload 4, 2) := by decide +kernel
theorem dX12_reads_79 : decode cX12_reads 79 = .ok (.invokevirtual 284, 3) := by decide +kernel
theorem dX12_reads_82 : decode cX12_reads 82 = .ok (.iconst (-1), 1) := by decide +kernel
theorem dX12_reads_83 : decode cX12_reads 83 = .ok (.if_icmp .eq 33, 3) := by decide +kernel
theorem dX12_reads_86 : decode cX12_reads 86 = .ok (.aload_n 0, 1) := by decide +kernel
theorem dX12_reads_87 : decode cX12_reads 87 = .ok (.dup, 1) := by decide +kernel
theorem dX12_reads_88 : decode cX12_reads 88 = .ok (.getfield 249, 3) := by decide +kernel
theorem dX12_reads_91 : decode cX12_reads 91 = .ok (.iconst 1, 1) := by decide +kernel
theorem dX12_reads_92 : decode cX12_reads 92 = .ok (.iadd, 1) := by decide +kernel
theorem dX12_reads_93 : decode cX12_reads 93 = .ok (.putfield 249, 3) := by decide +kernel
theorem dX12_reads_96 : decode cX12_reads 96 = .ok (.aload_n 0, 1) := by decide +kernel
theorem dX12_reads_97 : decode cX12_reads 97 = .ok (.aload_n 0, 1) := by decide +kernel
theorem dX12_reads_98 : decode cX12_reads 98 = .ok (.getfield 63, 3) := by decide +kernel
theorem dX12_reads_101 : decode cX12_reads 101 = .ok (.aload_n 0, 1) := by decide +kernel
theorem dX12_reads_102 : decode cX12_reads 102 = .ok (.iload 4, 2) := by decide +kernel
theorem dX12_reads_104 : decode cX12_reads 104 = .ok (.invokevirtual 284, 3) := by decide +kernel
theorem dX12_reads_107 : decode cX12_reads 107 = .ok (.laload, 1) := by decide +kernel
theorem dX12_reads_108 : decode cX12_reads 108 = .ok (.invokevirtual 280, 3) := by decide +kernel
theorem dX12_reads_111 : decode cX12_reads 111 = .ok (.iconst 0, 1) := by decide +kernel
theorem dX12_reads_112 : decode cX12_reads 112 = .ok (.istore_n 2, 1) := by decide +kernel
theorem dX12_reads_113 : decode cX12_reads 113 = .ok (.goto 374, 3) := by decide +kernel
theorem dX12_reads_116 : decode cX12_reads 116 = .ok (.iload 4, 2) := by decide +kernel
theorem dX12_reads_118 : decode cX12_reads 118 = .ok (.bipush 33, 2) := by decide +kernel
theorem dX12_reads_120 : decode cX12_reads 120 = .ok (.if_icmp .eq 10, 3) := by decide +kernel
theorem dX12_reads_123 : decode cX12_reads 123 = .ok (.iload 4, 2) := by decide +kernel
theorem dX12_reads_125 : decode cX12_reads 125 = .ok (.bipush 45, 2) := by decide +kernel
theorem dX12_reads_127 : decode cX12_reads 127 = .ok (.if_icmp .ne 51, 3) := by decide +kernel
theorem dX12_reads_130 : decode cX12_reads 130 = .ok (.aload_n 0, 1) := by decide +kernel
theorem dX12_reads_131 : decode cX12_reads 131 = .ok (.dup, 1) := by decide +kernel
theorem dX12_reads_132 : decode cX12_reads 132 = .ok (.getfield 249, 3) := by decide +kernel
theorem dX12_reads_135 : decode cX12_reads 135 = .ok (.iconst 1, 1) := by decide +kernel
theorem dX12_reads_136 : decode cX12_reads 136 = .ok (.iadd, 1) := by decide +kernel
theorem dX12_reads_137 : decode cX12_reads 137 = .ok (.putfield 249, 3) := by decide +kernel
theorem dX12_reads_140 : decode cX12_reads 140 = .ok (.aload_n 0, 1) := by decide +kernel
theorem dX12_reads_141 : decode cX12_reads 141 = .ok (.getfield 60, 3) := by decide +kernel
theorem dX12_reads_144 : decode cX12_reads 144 = .ok (.aload_n 0, 1) := by decide +kernel
theorem dX12_reads_145 : decode cX12_reads 145 = .ok (.getfield 252, 3) := by decide +kernel
theorem dX12_reads_148 : decode cX12_reads 148 = .ok (.iload 4, 2) := by decide +kernel
theorem dX12_reads_150 : decode cX12_reads 150 = .ok (.bipush 33, 2) := by decide +kernel
theorem dX12_reads_152 : decode cX12_reads 152 = .ok (.if_icmp .ne 9, 3) := by decide +kernel
theorem dX12_reads_155 : decode cX12_reads 155 = .ok (.sipush 1001, 3) := by decide +kernel
theorem dX12_reads_158 : decode cX12_reads 158 = .ok (.goto 6, 3) := by decide +kernel
theorem dX12_reads_161 : decode cX12_reads 161 = .ok (.sipush 1002, 3) := by decide +kernel
theorem dX12_reads_164 : decode cX12_reads 164 = .ok (.iastore, 1) := by decide +kernel
theorem dX12_reads_165 : decode cX12_reads 165 = .ok (.aload_n 0, 1) := by decide +kernel
theorem dX12_reads_166 : decode cX12_reads 166 = .ok (.dup, 1) := by decide +kernel
theorem dX12_reads_167 : decode cX12_reads 167 = .ok (.getfield 252, 3) := by decide +kernel
theorem dX12_reads_170 : decode cX12_reads 170 = .ok (.iconst 1, 1) := by decide +kernel
theorem dX12_reads_171 : decode cX12_reads 171 = .ok (.iadd, 1) := by decide +kernel
theorem dX12_reads_172 : decode cX12_reads 172 = .ok (.putfield 252, 3) := by decide +kernel
theorem dX12_reads_175 : decode cX12_reads 175 = .ok (.goto 312, 3) := by decide +kernel
theorem dX12_reads_178 : decode cX12_reads 178 = .ok (.iload 4, 2) := by decide +kernel
theorem dX12_reads_180 : decode cX12_reads 180 = .ok (.bipush 40, 2) := by decide +kernel
theorem dX12_reads_182 : decode cX12_reads 182 = .ok (.if_icmp .ne 47, 3) := by decide +kernel
theorem dX12_reads_185 : decode cX12_reads 185 = .ok (.iload_n 1, 1) := by decide +kernel
theorem dX12_reads_186 : decode cX12_reads 186 = .ok (.bipush 8, 2) := by decide +kernel
theorem dX12_reads_188 : decode cX12_reads 188 = .ok (.if_icmp .ge 41, 3) := by decide +kernel
theorem dX12_reads_191 : decode cX12_reads 191 = .ok (.aload_n 0, 1) := by decide +kernel
theorem dX12_reads_192 : decode cX12_reads 192 = .ok (.dup, 1) := by decide +kernel
theorem dX12_reads_193 : decode cX12_reads 193 = .ok (.getfield 249, 3) := by decide +kernel
theorem dX12_reads_196 : decode cX12_reads 196 = .ok (.iconst 1, 1) := by decide +kernel
theorem dX12_reads_197 : decode cX12_reads 197 = .ok (.iadd, 1) := by decide +kernel
theorem dX12_reads_198 : decode cX12_reads 198 = .ok (.putfield 249, 3) := by decide +kernel
theorem dX12_reads_201 : decode cX12_reads 201 = .ok (.iinc 1 1, 3) := by decide +kernel
theorem dX12_reads_204 : decode cX12_reads 204 = .ok (.aload_n 0, 1) := by decide +kernel
theorem dX12_reads_205 : decode cX12_reads 205 = .ok (.getfield 60, 3) := by decide +kernel
theorem dX12_reads_208 : decode cX12_reads 208 = .ok (.aload_n 0, 1) := by decide +kernel
theorem dX12_reads_209 : decode cX12_reads 209 = .ok (.getfield 252, 3) := by decide +kernel
theorem dX12_reads_212 : decode cX12_reads 212 = .ok (.sipush 1000, 3) := by decide +kernel
theorem dX12_reads_215 : decode cX12_reads 215 = .ok (.iastore, 1) := by decide +kernel
theorem dX12_reads_216 : decode cX12_reads 216 = .ok (.aload_n 0, 1) := by decide +kernel
theorem dX12_reads_217 : decode cX12_reads 217 = .ok (.dup, 1) := by decide +kernel
theorem dX12_reads_218 : decode cX12_reads 218 = .ok (.getfield 252, 3) := by decide +kernel
theorem dX12_reads_221 : decode cX12_reads 221 = .ok (.iconst 1, 1) := by decide +kernel
theorem dX12_reads_222 : decode cX12_reads 222 = .ok (.iadd, 1) := by decide +kernel
theorem dX12_reads_223 : decode cX12_reads 223 = .ok (.putfield 252, 3) := by decide +kernel
theorem dX12_reads_226 : decode cX12_reads 226 = .ok (.goto 261, 3) := by decide +kernel
theorem dX12_reads_229 : decode cX12_reads 229 = .ok (.aload_n 0, 1) := by decide +kernel
theorem dX12_reads_230 : decode cX12_reads 230 = .ok (.bipush 10, 2) := by decide +kernel
theorem dX12_reads_232 : decode cX12_reads 232 = .ok (.aload_n 0, 1) := by decide +kernel
theorem dX12_reads_233 : decode cX12_reads 233 = .ok (.getfield 249, 3) := by decide +kernel
theorem dX12_reads_236 : decode cX12_reads 236 = .ok (.imul, 1) := by decide +kernel
theorem dX12_reads_237 : decode cX12_reads 237 = .ok (.iload 4, 2) := by decide +kernel
theorem dX12_reads_239 : decode cX12_reads 239 = .ok (.bipush 40, 2) := by decide +kernel
theorem dX12_reads_241 : decode cX12_reads 241 = .ok (.if_icmp .ne 7, 3) := by decide +kernel
theorem dX12_reads_244 : decode cX12_reads 244 = .ok (.iconst 3, 1) := by decide +kernel
theorem dX12_reads_245 : decode cX12_reads 245 = .ok (.goto 4, 3) := by decide +kernel
theorem dX12_reads_248 : decode cX12_reads 248 = .ok (.iconst 1, 1) := by decide +kernel
theorem dX12_reads_249 : decode cX12_reads 249 = .ok (.iadd, 1) := by decide +kernel
theorem dX12_reads_250 : decode cX12_reads 250 = .ok (.putfield 268, 3) := by decide +kernel
theorem dX12_reads_253 : decode cX12_reads 253 = .ok (.goto 234, 3) := by decide +kernel
theorem dX12_reads_256 : decode cX12_reads 256 = .ok (.iload 4, 2) := by decide +kernel
theorem dX12_reads_258 : decode cX12_reads 258 = .ok (.bipush 41, 2) := by decide +kernel
theorem dX12_reads_260 : decode cX12_reads 260 = .ok (.if_icmp .ne 61, 3) := by decide +kernel
theorem dX12_reads_263 : decode cX12_reads 263 = .ok (.iload_n 1, 1) := by decide +kernel
theorem dX12_reads_264 : decode cX12_reads 264 = .ok (.ifCond .le 57, 3) := by decide +kernel
theorem dX12_reads_267 : decode cX12_reads 267 = .ok (.aload_n 0, 1) := by decide +kernel
theorem dX12_reads_268 : decode cX12_reads 268 = .ok (.dup, 1) := by decide +kernel
theorem dX12_reads_269 : decode cX12_reads 269 = .ok (.getfield 249, 3) := by decide +kernel
theorem dX12_reads_272 : decode cX12_reads 272 = .ok (.iconst 1, 1) := by decide +kernel
theorem dX12_reads_273 : decode cX12_reads 273 = .ok (.iadd, 1) := by decide +kernel
theorem dX12_reads_274 : decode cX12_reads 274 = .ok (.putfield 249, 3) := by decide +kernel
theorem dX12_reads_277 : decode cX12_reads 277 = .ok (.iinc 1 (-1), 3) := by decide +kernel
theorem dX12_reads_280 : decode cX12_reads 280 = .ok (.aload_n 0, 1) := by decide +kernel
theorem dX12_reads_281 : decode cX12_reads 281 = .ok (.iconst 1, 1) := by decide +kernel
theorem dX12_reads_282 : decode cX12_reads 282 = .ok (.invokevirtual 287, 3) := by decide +kernel
theorem dX12_reads_285 : decode cX12_reads 285 = .ok (.aload_n 0, 1) := by decide +kernel
theorem dX12_reads_286 : decode cX12_reads 286 = .ok (.dup, 1) := by decide +kernel
theorem dX12_reads_287 : decode cX12_reads 287 = .ok (.getfield 252, 3) := by decide +kernel
theorem dX12_reads_290 : decode cX12_reads 290 = .ok (.iconst 1, 1) := by decide +kernel
theorem dX12_reads_291 : decode cX12_reads 291 = .ok (.isub, 1) := by decide +kernel
theorem dX12_reads_292 : decode cX12_reads 292 = .ok (.putfield 252, 3) := by decide +kernel
theorem dX12_reads_295 : decode cX12_reads 295 = .ok (.aload_n 0, 1) := by decide +kernel
theorem dX12_reads_296 : decode cX12_reads 296 = .ok (.dup, 1) := by decide +kernel
theorem dX12_reads_297 : decode cX12_reads 297 = .ok (.getfield 255, 3) := by decide +kernel
theorem dX12_reads_300 : decode cX12_reads 300 = .ok (.iconst 1, 1) := by decide +kernel
theorem dX12_reads_301 : decode cX12_reads 301 = .ok (.isub, 1) := by decide +kernel
theorem dX12_reads_302 : decode cX12_reads 302 = .ok (.putfield 255, 3) := by decide +kernel
theorem dX12_reads_305 : decode cX12_reads 305 = .ok (.aload_n 0, 1) := by decide +kernel
theorem dX12_reads_306 : decode cX12_reads 306 = .ok (.aload_n 0, 1) := by decide +kernel
theorem dX12_reads_307 : decode cX12_reads 307 = .ok (.getfield 56, 3) := by decide +kernel
theorem dX12_reads_310 : decode cX12_reads 310 = .ok (.aload_n 0, 1) := by decide +kernel
theorem dX12_reads_311 : decode cX12_reads 311 = .ok (.getfield 255, 3) := by decide +kernel
theorem dX12_reads_314 : decode cX12_reads 314 = .ok (.laload, 1) := by decide +kernel
theorem dX12_reads_315 : decode cX12_reads 315 = .ok (.invokevirtual 280, 3) := by decide +kernel
theorem dX12_reads_318 : decode cX12_reads 318 = .ok (.goto 169, 3) := by decide +kernel
theorem dX12_reads_321 : decode cX12_reads 321 = .ok (.iload 4, 2) := by decide +kernel
theorem dX12_reads_323 : decode cX12_reads 323 = .ok (.invokestatic 258, 3) := by decide +kernel
theorem dX12_reads_326 : decode cX12_reads 326 = .ok (.ifCond .le 128, 3) := by decide +kernel
theorem dX12_reads_329 : decode cX12_reads 329 = .ok (.aload_n 0, 1) := by decide +kernel
theorem dX12_reads_330 : decode cX12_reads 330 = .ok (.iload 4, 2) := by decide +kernel
theorem dX12_reads_332 : decode cX12_reads 332 = .ok (.invokestatic 258, 3) := by decide +kernel
theorem dX12_reads_335 : decode cX12_reads 335 = .ok (.iconst 3, 1) := by decide +kernel
theorem dX12_reads_336 : decode cX12_reads 336 = .ok (.if_icmp .ne 7, 3) := by decide +kernel
theorem dX12_reads_339 : decode cX12_reads 339 = .ok (.iconst 4, 1) := by decide +kernel
theorem dX12_reads_340 : decode cX12_reads 340 = .ok (.goto 8, 3) := by decide +kernel
theorem dX12_reads_343 : decode cX12_reads 343 = .ok (.iload 4, 2) := by decide +kernel
theorem dX12_reads_345 : decode cX12_reads 345 = .ok (.invokestatic 258, 3) := by decide +kernel
theorem dX12_reads_348 : decode cX12_reads 348 = .ok (.invokevirtual 287, 3) := by decide +kernel
theorem dX12_reads_351 : decode cX12_reads 351 = .ok (.iload 4, 2) := by decide +kernel
theorem dX12_reads_353 : decode cX12_reads 353 = .ok (.invokestatic 258, 3) := by decide +kernel
theorem dX12_reads_356 : decode cX12_reads 356 = .ok (.iconst 3, 1) := by decide +kernel
theorem dX12_reads_357 : decode cX12_reads 357 = .ok (.if_icmp .ne 61, 3) := by decide +kernel
theorem dX12_reads_360 : decode cX12_reads 360 = .ok (.aload_n 0, 1) := by decide +kernel
theorem dX12_reads_361 : decode cX12_reads 361 = .ok (.getfield 252, 3) := by decide +kernel
theorem dX12_reads_364 : decode cX12_reads 364 = .ok (.ifCond .le 54, 3) := by decide +kernel
theorem dX12_reads_367 : decode cX12_reads 367 = .ok (.aload_n 0, 1) := by decide +kernel
theorem dX12_reads_368 : decode cX12_reads 368 = .ok (.getfield 60, 3) := by decide +kernel
theorem dX12_reads_371 : decode cX12_reads 371 = .ok (.aload_n 0, 1) := by decide +kernel
theorem dX12_reads_372 : decode cX12_reads 372 = .ok (.getfield 252, 3) := by decide +kernel
theorem dX12_reads_375 : decode cX12_reads 375 = .ok (.iconst 1, 1) := by decide +kernel
theorem dX12_reads_376 : decode cX12_reads 376 = .ok (.isub, 1) := by decide +kernel
theorem dX12_reads_377 : decode cX12_reads 377 = .ok (.iaload, 1) := by decide +kernel
theorem dX12_reads_378 : decode cX12_reads 378 = .ok (.sipush 1000, 3) := by decide +kernel
theorem dX12_reads_381 : decode cX12_reads 381 = .ok (.if_icmp .ge 37, 3) := by decide +kernel
theorem dX12_reads_384 : decode cX12_reads 384 = .ok (.aload_n 0, 1) := by decide +kernel
theorem dX12_reads_385 : decode cX12_reads 385 = .ok (.getfield 60, 3) := by decide +kernel
theorem dX12_reads_388 : decode cX12_reads 388 = .ok (.aload_n 0, 1) := by decide +kernel
theorem dX12_reads_389 : decode cX12_reads 389 = .ok (.getfield 252, 3) := by decide +kernel
theorem dX12_reads_392 : decode cX12_reads 392 = .ok (.iconst 1, 1) := by decide +kernel
theorem dX12_reads_393 : decode cX12_reads 393 = .ok (.isub, 1) := by decide +kernel
theorem dX12_reads_394 : decode cX12_reads 394 = .ok (.iaload, 1) := by decide +kernel
theorem dX12_reads_395 : decode cX12_reads 395 = .ok (.invokestatic 258, 3) := by decide +kernel
theorem dX12_reads_398 : decode cX12_reads 398 = .ok (.iconst 3, 1) := by decide +kernel
theorem dX12_reads_399 : decode cX12_reads 399 = .ok (.if_icmp .ne 19, 3) := by decide +kernel
theorem dX12_reads_402 : decode cX12_reads 402 = .ok (.aload_n 0, 1) := by decide +kernel
theorem dX12_reads_403 : decode cX12_reads 403 = .ok (.bipush 10, 2) := by decide +kernel
theorem dX12_reads_405 : decode cX12_reads 405 = .ok (.aload_n 0, 1) := by decide +kernel
theorem dX12_reads_406 : decode cX12_reads 406 = .ok (.getfield 249, 3) := by decide +kernel
theorem dX12_reads_409 : decode cX12_reads 409 = .ok (.imul, 1) := by decide +kernel
theorem dX12_reads_410 : decode cX12_reads 410 = .ok (.iconst 1, 1) := by decide +kernel
theorem dX12_reads_411 : decode cX12_reads 411 = .ok (.iadd, 1) := by decide +kernel
theorem dX12_reads_412 : decode cX12_reads 412 = .ok (.putfield 268, 3) := by decide +kernel
theorem dX12_reads_415 : decode cX12_reads 415 = .ok (.goto 72, 3) := by decide +kernel
theorem dX12_reads_418 : decode cX12_reads 418 = .ok (.aload_n 0, 1) := by decide +kernel
theorem dX12_reads_419 : decode cX12_reads 419 = .ok (.dup, 1) := by decide +kernel
theorem dX12_reads_420 : decode cX12_reads 420 = .ok (.getfield 249, 3) := by decide +kernel
theorem dX12_reads_423 : decode cX12_reads 423 = .ok (.iconst 1, 1) := by decide +kernel
theorem dX12_reads_424 : decode cX12_reads 424 = .ok (.iadd, 1) := by decide +kernel
theorem dX12_reads_425 : decode cX12_reads 425 = .ok (.putfield 249, 3) := by decide +kernel
theorem dX12_reads_428 : decode cX12_reads 428 = .ok (.aload_n 0, 1) := by decide +kernel
theorem dX12_reads_429 : decode cX12_reads 429 = .ok (.getfield 60, 3) := by decide +kernel
theorem dX12_reads_432 : decode cX12_reads 432 = .ok (.aload_n 0, 1) := by decide +kernel
theorem dX12_reads_433 : decode cX12_reads 433 = .ok (.getfield 252, 3) := by decide +kernel
theorem dX12_reads_436 : decode cX12_reads 436 = .ok (.iload 4, 2) := by decide +kernel
theorem dX12_reads_438 : decode cX12_reads 438 = .ok (.iastore, 1) := by decide +kernel
theorem dX12_reads_439 : decode cX12_reads 439 = .ok (.aload_n 0, 1) := by decide +kernel
theorem dX12_reads_440 : decode cX12_reads 440 = .ok (.dup, 1) := by decide +kernel
theorem dX12_reads_441 : decode cX12_reads 441 = .ok (.getfield 252, 3) := by decide +kernel
theorem dX12_reads_444 : decode cX12_reads 444 = .ok (.iconst 1, 1) := by decide +kernel
theorem dX12_reads_445 : decode cX12_reads 445 = .ok (.iadd, 1) := by decide +kernel
theorem dX12_reads_446 : decode cX12_reads 446 = .ok (.putfield 252, 3) := by decide +kernel
theorem dX12_reads_449 : decode cX12_reads 449 = .ok (.iconst 1, 1) := by decide +kernel
theorem dX12_reads_450 : decode cX12_reads 450 = .ok (.istore_n 2, 1) := by decide +kernel
theorem dX12_reads_451 : decode cX12_reads 451 = .ok (.goto 36, 3) := by decide +kernel
theorem dX12_reads_454 : decode cX12_reads 454 = .ok (.iload 4, 2) := by decide +kernel
theorem dX12_reads_456 : decode cX12_reads 456 = .ok (.iconst (-1), 1) := by decide +kernel
theorem dX12_reads_457 : decode cX12_reads 457 = .ok (.if_icmp .ne 17, 3) := by decide +kernel
theorem dX12_reads_460 : decode cX12_reads 460 = .ok (.iload_n 1, 1) := by decide +kernel
theorem dX12_reads_461 : decode cX12_reads 461 = .ok (.ifCond .ne 13, 3) := by decide +kernel
theorem dX12_reads_464 : decode cX12_reads 464 = .ok (.aload_n 0, 1) := by decide +kernel
theorem dX12_reads_465 : decode cX12_reads 465 = .ok (.iconst 1, 1) := by decide +kernel
theorem dX12_reads_466 : decode cX12_reads 466 = .ok (.invokevirtual 287, 3) := by decide +kernel
theorem dX12_reads_469 : decode cX12_reads 469 = .ok (.iconst 0, 1) := by decide +kernel
theorem dX12_reads_470 : decode cX12_reads 470 = .ok (.istore_n 3, 1) := by decide +kernel
theorem dX12_reads_471 : decode cX12_reads 471 = .ok (.goto 16, 3) := by decide +kernel
theorem dX12_reads_474 : decode cX12_reads 474 = .ok (.aload_n 0, 1) := by decide +kernel
theorem dX12_reads_475 : decode cX12_reads 475 = .ok (.bipush 10, 2) := by decide +kernel
theorem dX12_reads_477 : decode cX12_reads 477 = .ok (.aload_n 0, 1) := by decide +kernel
theorem dX12_reads_478 : decode cX12_reads 478 = .ok (.getfield 249, 3) := by decide +kernel
theorem dX12_reads_481 : decode cX12_reads 481 = .ok (.imul, 1) := by decide +kernel
theorem dX12_reads_482 : decode cX12_reads 482 = .ok (.iconst 1, 1) := by decide +kernel
theorem dX12_reads_483 : decode cX12_reads 483 = .ok (.iadd, 1) := by decide +kernel
theorem dX12_reads_484 : decode cX12_reads 484 = .ok (.putfield 268, 3) := by decide +kernel
theorem dX12_reads_487 : decode cX12_reads 487 = .ok (.goto (-461), 3) := by decide +kernel
theorem dX12_reads_490 : decode cX12_reads 490 = .ok (.aload_n 0, 1) := by decide +kernel
theorem dX12_reads_491 : decode cX12_reads 491 = .ok (.aload_n 0, 1) := by decide +kernel
theorem dX12_reads_492 : decode cX12_reads 492 = .ok (.getfield 268, 3) := by decide +kernel
theorem dX12_reads_495 : decode cX12_reads 495 = .ok (.iconst (-1), 1) := by decide +kernel
theorem dX12_reads_496 : decode cX12_reads 496 = .ok (.if_icmp .ne 12, 3) := by decide +kernel
theorem dX12_reads_499 : decode cX12_reads 499 = .ok (.aload_n 0, 1) := by decide +kernel
theorem dX12_reads_500 : decode cX12_reads 500 = .ok (.getfield 56, 3) := by decide +kernel
theorem dX12_reads_503 : decode cX12_reads 503 = .ok (.iconst 0, 1) := by decide +kernel
theorem dX12_reads_504 : decode cX12_reads 504 = .ok (.laload, 1) := by decide +kernel
theorem dX12_reads_505 : decode cX12_reads 505 = .ok (.goto 4, 3) := by decide +kernel
theorem dX12_reads_508 : decode cX12_reads 508 = .ok (.lconst 0, 1) := by decide +kernel
theorem dX12_reads_509 : decode cX12_reads 509 = .ok (.putfield 290, 3) := by decide +kernel
theorem dX12_reads_512 : decode cX12_reads 512 = .ok (.aload_n 0, 1) := by decide +kernel
theorem dX12_reads_513 : decode cX12_reads 513 = .ok (.getfield 268, 3) := by decide +kernel
theorem dX12_reads_516 : decode cX12_reads 516 = .ok (.iconst (-1), 1) := by decide +kernel
theorem dX12_reads_517 : decode cX12_reads 517 = .ok (.if_icmp .ne 7, 3) := by decide +kernel
theorem dX12_reads_520 : decode cX12_reads 520 = .ok (.iconst 1, 1) := by decide +kernel
theorem dX12_reads_521 : decode cX12_reads 521 = .ok (.goto 4, 3) := by decide +kernel
theorem dX12_reads_524 : decode cX12_reads 524 = .ok (.iconst 0, 1) := by decide +kernel
theorem dX12_reads_525 : decode cX12_reads 525 = .ok (.ireturn, 1) := by decide +kernel
theorem dX12_fault_0 : decode cX12_fault 0 = .ok (.aload_n 0, 1) := by decide +kernel
theorem dX12_fault_1 : decode cX12_fault 1 = .ok (.invokevirtual 293, 3) := by decide +kernel
theorem dX12_fault_4 : decode cX12_fault 4 = .ok (.istore_n 1, 1) := by decide +kernel
theorem dX12_fault_5 : decode cX12_fault 5 = .ok (.aload_n 0, 1) := by decide +kernel
theorem dX12_fault_6 : decode cX12_fault 6 = .ok (.getfield 268, 3) := by decide +kernel
theorem dX12_fault_9 : decode cX12_fault 9 = .ok (.ireturn, 1) := by decide +kernel
theorem dX12_rung_0 : decode cX12_rung 0 = .ok (.iload_n 1, 1) := by decide +kernel
theorem dX12_rung_1 : decode cX12_rung 1 = .ok (.invokestatic 100, 3) := by decide +kernel
theorem dX12_rung_4 : decode cX12_rung 4 = .ok (.ifCond .eq 24, 3) := by decide +kernel
theorem dX12_rung_7 : decode cX12_rung 7 = .ok (.aload_n 0, 1) := by decide +kernel
theorem dX12_rung_8 : decode cX12_rung 8 = .ok (.iconst 3, 1) := by decide +kernel
theorem dX12_rung_9 : decode cX12_rung 9 = .ok (.iload_n 2, 1) := by decide +kernel
theorem dX12_rung_10 : decode cX12_rung 10 = .ok (.invokevirtual 84, 3) := by decide +kernel
theorem dX12_rung_13 : decode cX12_rung 13 = .ok (.ifCond .eq 15, 3) := by decide +kernel
theorem dX12_rung_16 : decode cX12_rung 16 = .ok (.iload_n 3, 1) := by decide +kernel
theorem dX12_rung_17 : decode cX12_rung 17 = .ok (.i2l, 1) := by decide +kernel
theorem dX12_rung_18 : decode cX12_rung 18 = .ok (.lconst 0, 1) := by decide +kernel
theorem dX12_rung_19 : decode cX12_rung 19 = .ok (.ldc2_w 109, 3) := by decide +kernel
theorem dX12_rung_22 : decode cX12_rung 22 = .ok (.invokestatic 70, 3) := by decide +kernel
theorem dX12_rung_25 : decode cX12_rung 25 = .ok (.ifCond .ne 6, 3) := by decide +kernel
theorem dX12_rung_28 : decode cX12_rung 28 = .ok (.bipush (-2), 2) := by decide +kernel
theorem dX12_rung_30 : decode cX12_rung 30 = .ok (.ireturn, 1) := by decide +kernel
theorem dX12_rung_31 : decode cX12_rung 31 = .ok (.aload_n 0, 1) := by decide +kernel
theorem dX12_rung_32 : decode cX12_rung 32 = .ok (.invokevirtual 293, 3) := by decide +kernel
theorem dX12_rung_35 : decode cX12_rung 35 = .ok (.ifCond .ne 6, 3) := by decide +kernel
theorem dX12_rung_38 : decode cX12_rung 38 = .ok (.bipush (-3), 2) := by decide +kernel
theorem dX12_rung_40 : decode cX12_rung 40 = .ok (.ireturn, 1) := by decide +kernel
theorem dX12_rung_41 : decode cX12_rung 41 = .ok (.iconst 0, 1) := by decide +kernel
theorem dX12_rung_42 : decode cX12_rung 42 = .ok (.istore 4, 2) := by decide +kernel
theorem dX12_rung_44 : decode cX12_rung 44 = .ok (.iconst 0, 1) := by decide +kernel
theorem dX12_rung_45 : decode cX12_rung 45 = .ok (.istore 5, 2) := by decide +kernel
theorem dX12_rung_47 : decode cX12_rung 47 = .ok (.iconst 0, 1) := by decide +kernel
theorem dX12_rung_48 : decode cX12_rung 48 = .ok (.istore 6, 2) := by decide +kernel
theorem dX12_rung_50 : decode cX12_rung 50 = .ok (.iload 6, 2) := by decide +kernel
theorem dX12_rung_52 : decode cX12_rung 52 = .ok (.aload_n 0, 1) := by decide +kernel
theorem dX12_rung_53 : decode cX12_rung 53 = .ok (.iconst 2, 1) := by decide +kernel
theorem dX12_rung_54 : decode cX12_rung 54 = .ok (.invokevirtual 66, 3) := by decide +kernel
theorem dX12_rung_57 : decode cX12_rung 57 = .ok (.if_icmp .ge 143, 3) := by decide +kernel
theorem dX12_rung_60 : decode cX12_rung 60 = .ok (.aload_n 0, 1) := by decide +kernel
theorem dX12_rung_61 : decode cX12_rung 61 = .ok (.iload 6, 2) := by decide +kernel
theorem dX12_rung_63 : decode cX12_rung 63 = .ok (.iload_n 1, 1) := by decide +kernel
theorem dX12_rung_64 : decode cX12_rung 64 = .ok (.iload_n 2, 1) := by decide +kernel
theorem dX12_rung_65 : decode cX12_rung 65 = .ok (.iload_n 3, 1) := by decide +kernel
theorem dX12_rung_66 : decode cX12_rung 66 = .ok (.invokevirtual 178, 3) := by decide +kernel
theorem dX12_rung_69 : decode cX12_rung 69 = .ok (.aload_n 0, 1) := by decide +kernel
theorem dX12_rung_70 : decode cX12_rung 70 = .ok (.getfield 171, 3) := by decide +kernel
theorem dX12_rung_73 : decode cX12_rung 73 = .ok (.ifCond .ne 7, 3) := by decide +kernel
theorem dX12_rung_76 : decode cX12_rung 76 = .ok (.iconst 0, 1) := by decide +kernel
theorem dX12_rung_77 : decode cX12_rung 77 = .ok (.goto 7, 3) := by decide +kernel
theorem dX12_rung_80 : decode cX12_rung 80 = .ok (.aload_n 0, 1) := by decide +kernel
theorem dX12_rung_81 : decode cX12_rung 81 = .ok (.invokevirtual 181, 3) := by decide +kernel
theorem dX12_rung_84 : decode cX12_rung 84 = .ok (.istore 7, 2) := by decide +kernel
theorem dX12_rung_86 : decode cX12_rung 86 = .ok (.aload_n 0, 1) := by decide +kernel
theorem dX12_rung_87 : decode cX12_rung 87 = .ok (.getfield 171, 3) := by decide +kernel
theorem dX12_rung_90 : decode cX12_rung 90 = .ok (.ifCond .le 100, 3) := by decide +kernel
theorem dX12_rung_93 : decode cX12_rung 93 = .ok (.aload_n 0, 1) := by decide +kernel
theorem dX12_rung_94 : decode cX12_rung 94 = .ok (.getfield 63, 3) := by decide +kernel
theorem dX12_rung_97 : decode cX12_rung 97 = .ok (.iconst 0, 1) := by decide +kernel
theorem dX12_rung_98 : decode cX12_rung 98 = .ok (.aload_n 0, 1) := by decide +kernel
theorem dX12_rung_99 : decode cX12_rung 99 = .ok (.getfield 171, 3) := by decide +kernel
theorem dX12_rung_102 : decode cX12_rung 102 = .ok (.i2l, 1) := by decide +kernel
theorem dX12_rung_103 : decode cX12_rung 103 = .ok (.lastore, 1) := by decide +kernel
theorem dX12_rung_104 : decode cX12_rung 104 = .ok (.aload_n 0, 1) := by decide +kernel
theorem dX12_rung_105 : decode cX12_rung 105 = .ok (.getfield 63, 3) := by decide +kernel
theorem dX12_rung_108 : decode cX12_rung 108 = .ok (.iconst 1, 1) := by decide +kernel
theorem dX12_rung_109 : decode cX12_rung 109 = .ok (.iload 7, 2) := by decide +kernel
theorem dX12_rung_111 : decode cX12_rung 111 = .ok (.i2l, 1) := by decide +kernel
theorem dX12_rung_112 : decode cX12_rung 112 = .ok (.lastore, 1) := by decide +kernel
theorem dX12_rung_113 : decode cX12_rung 113 = .ok (.aload_n 0, 1) := by decide +kernel
theorem dX12_rung_114 : decode cX12_rung 114 = .ok (.getfield 63, 3) := by decide +kernel
theorem dX12_rung_117 : decode cX12_rung 117 = .ok (.iconst 2, 1) := by decide +kernel
theorem dX12_rung_118 : decode cX12_rung 118 = .ok (.aload_n 0, 1) := by decide +kernel
theorem dX12_rung_119 : decode cX12_rung 119 = .ok (.getfield 38, 3) := by decide +kernel
theorem dX12_rung_122 : decode cX12_rung 122 = .ok (.iconst 0, 1) := by decide +kernel
theorem dX12_rung_123 : decode cX12_rung 123 = .ok (.iaload, 1) := by decide +kernel
theorem dX12_rung_124 : decode cX12_rung 124 = .ok (.i2l, 1) := by decide +kernel
theorem dX12_rung_125 : decode cX12_rung 125 = .ok (.lastore, 1) := by decide +kernel
theorem dX12_rung_126 : decode cX12_rung 126 = .ok (.aload_n 0, 1) := by decide +kernel
theorem dX12_rung_127 : decode cX12_rung 127 = .ok (.getfield 63, 3) := by decide +kernel
theorem dX12_rung_130 : decode cX12_rung 130 = .ok (.iconst 3, 1) := by decide +kernel
theorem dX12_rung_131 : decode cX12_rung 131 = .ok (.aload_n 0, 1) := by decide +kernel
theorem dX12_rung_132 : decode cX12_rung 132 = .ok (.getfield 38, 3) := by decide +kernel
theorem dX12_rung_135 : decode cX12_rung 135 = .ok (.aload_n 0, 1) := by decide +kernel
theorem dX12_rung_136 : decode cX12_rung 136 = .ok (.getfield 171, 3) := by decide +kernel
theorem dX12_rung_139 : decode cX12_rung 139 = .ok (.iconst 1, 1) := by decide +kernel
theorem dX12_rung_140 : decode cX12_rung 140 = .ok (.isub, 1) := by decide +kernel
theorem dX12_rung_141 : decode cX12_rung 141 = .ok (.iaload, 1) := by decide +kernel
theorem dX12_rung_142 : decode cX12_rung 142 = .ok (.i2l, 1) := by decide +kernel
theorem dX12_rung_143 : decode cX12_rung 143 = .ok (.lastore, 1) := by decide +kernel
theorem dX12_rung_144 : decode cX12_rung 144 = .ok (.aload_n 0, 1) := by decide +kernel
theorem dX12_rung_145 : decode cX12_rung 145 = .ok (.getfield 63, 3) := by decide +kernel
theorem dX12_rung_148 : decode cX12_rung 148 = .ok (.iconst 4, 1) := by decide +kernel
theorem dX12_rung_149 : decode cX12_rung 149 = .ok (.iload 5, 2) := by decide +kernel
theorem dX12_rung_151 : decode cX12_rung 151 = .ok (.i2l, 1) := by decide +kernel
theorem dX12_rung_152 : decode cX12_rung 152 = .ok (.lastore, 1) := by decide +kernel
theorem dX12_rung_153 : decode cX12_rung 153 = .ok (.aload_n 0, 1) := by decide +kernel
theorem dX12_rung_154 : decode cX12_rung 154 = .ok (.getfield 63, 3) := by decide +kernel
theorem dX12_rung_157 : decode cX12_rung 157 = .ok (.iconst 5, 1) := by decide +kernel
theorem dX12_rung_158 : decode cX12_rung 158 = .ok (.iload 6, 2) := by decide +kernel
theorem dX12_rung_160 : decode cX12_rung 160 = .ok (.i2l, 1) := by decide +kernel
theorem dX12_rung_161 : decode cX12_rung 161 = .ok (.lastore, 1) := by decide +kernel
theorem dX12_rung_162 : decode cX12_rung 162 = .ok (.aload_n 0, 1) := by decide +kernel
theorem dX12_rung_163 : decode cX12_rung 163 = .ok (.invokevirtual 293, 3) := by decide +kernel
theorem dX12_rung_166 : decode cX12_rung 166 = .ok (.istore 8, 2) := by decide +kernel
theorem dX12_rung_168 : decode cX12_rung 168 = .ok (.iload 4, 2) := by decide +kernel
theorem dX12_rung_170 : decode cX12_rung 170 = .ok (.aload_n 0, 1) := by decide +kernel
theorem dX12_rung_171 : decode cX12_rung 171 = .ok (.getfield 290, 3) := by decide +kernel
theorem dX12_rung_174 : decode cX12_rung 174 = .ok (.lconst 0, 1) := by decide +kernel
theorem dX12_rung_175 : decode cX12_rung 175 = .ok (.lcmp, 1) := by decide +kernel
theorem dX12_rung_176 : decode cX12_rung 176 = .ok (.ifCond .eq 10, 3) := by decide +kernel
theorem dX12_rung_179 : decode cX12_rung 179 = .ok (.iconst 1, 1) := by decide +kernel
theorem dX12_rung_180 : decode cX12_rung 180 = .ok (.iload 6, 2) := by decide +kernel
theorem dX12_rung_182 : decode cX12_rung 182 = .ok (.ishl, 1) := by decide +kernel
theorem dX12_rung_183 : decode cX12_rung 183 = .ok (.goto 4, 3) := by decide +kernel
theorem dX12_rung_186 : decode cX12_rung 186 = .ok (.iconst 0, 1) := by decide +kernel
theorem dX12_rung_187 : decode cX12_rung 187 = .ok (.ior, 1) := by decide +kernel
theorem dX12_rung_188 : decode cX12_rung 188 = .ok (.istore 4, 2) := by decide +kernel
theorem dX12_rung_190 : decode cX12_rung 190 = .ok (.iload 7, 2) := by decide +kernel
theorem dX12_rung_192 : decode cX12_rung 192 = .ok (.istore 5, 2) := by decide +kernel
theorem dX12_rung_194 : decode cX12_rung 194 = .ok (.iinc 6 1, 3) := by decide +kernel
theorem dX12_rung_197 : decode cX12_rung 197 = .ok (.goto (-147), 3) := by decide +kernel
theorem dX12_rung_200 : decode cX12_rung 200 = .ok (.iload 4, 2) := by decide +kernel
theorem dX12_rung_202 : decode cX12_rung 202 = .ok (.ireturn, 1) := by decide +kernel
theorem dX12_forge_0 : decode cX12_forge 0 = .ok (.aload_n 0, 1) := by decide +kernel
theorem dX12_forge_1 : decode cX12_forge 1 = .ok (.iconst 4, 1) := by decide +kernel
theorem dX12_forge_2 : decode cX12_forge 2 = .ok (.iload_n 1, 1) := by decide +kernel
theorem dX12_forge_3 : decode cX12_forge 3 = .ok (.invokevirtual 84, 3) := by decide +kernel
theorem dX12_forge_6 : decode cX12_forge 6 = .ok (.ifCond .eq 35, 3) := by decide +kernel
theorem dX12_forge_9 : decode cX12_forge 9 = .ok (.aload_n 0, 1) := by decide +kernel
theorem dX12_forge_10 : decode cX12_forge 10 = .ok (.getfield 7, 3) := by decide +kernel
theorem dX12_forge_13 : decode cX12_forge 13 = .ok (.sipush 1346, 3) := by decide +kernel
theorem dX12_forge_16 : decode cX12_forge 16 = .ok (.bipush 14, 2) := by decide +kernel
theorem dX12_forge_18 : decode cX12_forge 18 = .ok (.iload_n 1, 1) := by decide +kernel
theorem dX12_forge_19 : decode cX12_forge 19 = .ok (.imul, 1) := by decide +kernel
theorem dX12_forge_20 : decode cX12_forge 20 = .ok (.iadd, 1) := by decide +kernel
theorem dX12_forge_21 : decode cX12_forge 21 = .ok (.bipush 6, 2) := by decide +kernel
theorem dX12_forge_23 : decode cX12_forge 23 = .ok (.iadd, 1) := by decide +kernel
theorem dX12_forge_24 : decode cX12_forge 24 = .ok (.iaload, 1) := by decide +kernel
theorem dX12_forge_25 : decode cX12_forge 25 = .ok (.iconst 1, 1) := by decide +kernel
theorem dX12_forge_26 : decode cX12_forge 26 = .ok (.if_icmp .eq 15, 3) := by decide +kernel
theorem dX12_forge_29 : decode cX12_forge 29 = .ok (.iload_n 2, 1) := by decide +kernel
theorem dX12_forge_30 : decode cX12_forge 30 = .ok (.i2l, 1) := by decide +kernel
theorem dX12_forge_31 : decode cX12_forge 31 = .ok (.lconst 0, 1) := by decide +kernel
theorem dX12_forge_32 : decode cX12_forge 32 = .ok (.ldc2_w 297, 3) := by decide +kernel
theorem dX12_forge_35 : decode cX12_forge 35 = .ok (.invokestatic 70, 3) := by decide +kernel
theorem dX12_forge_38 : decode cX12_forge 38 = .ok (.ifCond .ne 6, 3) := by decide +kernel
theorem dX12_forge_41 : decode cX12_forge 41 = .ok (.ldc 164, 2) := by decide +kernel
theorem dX12_forge_43 : decode cX12_forge 43 = .ok (.ireturn, 1) := by decide +kernel
theorem dX12_forge_44 : decode cX12_forge 44 = .ok (.aload_n 0, 1) := by decide +kernel
theorem dX12_forge_45 : decode cX12_forge 45 = .ok (.getfield 7, 3) := by decide +kernel
theorem dX12_forge_48 : decode cX12_forge 48 = .ok (.sipush 1346, 3) := by decide +kernel
theorem dX12_forge_51 : decode cX12_forge 51 = .ok (.bipush 14, 2) := by decide +kernel
theorem dX12_forge_53 : decode cX12_forge 53 = .ok (.iload_n 1, 1) := by decide +kernel
theorem dX12_forge_54 : decode cX12_forge 54 = .ok (.imul, 1) := by decide +kernel
theorem dX12_forge_55 : decode cX12_forge 55 = .ok (.iadd, 1) := by decide +kernel
theorem dX12_forge_56 : decode cX12_forge 56 = .ok (.iconst 5, 1) := by decide +kernel
theorem dX12_forge_57 : decode cX12_forge 57 = .ok (.iadd, 1) := by decide +kernel
theorem dX12_forge_58 : decode cX12_forge 58 = .ok (.iaload, 1) := by decide +kernel
theorem dX12_forge_59 : decode cX12_forge 59 = .ok (.istore_n 3, 1) := by decide +kernel
theorem dX12_forge_60 : decode cX12_forge 60 = .ok (.aload_n 0, 1) := by decide +kernel
theorem dX12_forge_61 : decode cX12_forge 61 = .ok (.getfield 7, 3) := by decide +kernel
theorem dX12_forge_64 : decode cX12_forge 64 = .ok (.sipush 1346, 3) := by decide +kernel
theorem dX12_forge_67 : decode cX12_forge 67 = .ok (.bipush 14, 2) := by decide +kernel
theorem dX12_forge_69 : decode cX12_forge 69 = .ok (.iload_n 1, 1) := by decide +kernel
theorem dX12_forge_70 : decode cX12_forge 70 = .ok (.imul, 1) := by decide +kernel
theorem dX12_forge_71 : decode cX12_forge 71 = .ok (.iadd, 1) := by decide +kernel
theorem dX12_forge_72 : decode cX12_forge 72 = .ok (.iconst 5, 1) := by decide +kernel
theorem dX12_forge_73 : decode cX12_forge 73 = .ok (.iadd, 1) := by decide +kernel
theorem dX12_forge_74 : decode cX12_forge 74 = .ok (.iload_n 2, 1) := by decide +kernel
theorem dX12_forge_75 : decode cX12_forge 75 = .ok (.iastore, 1) := by decide +kernel
theorem dX12_forge_76 : decode cX12_forge 76 = .ok (.iload_n 3, 1) := by decide +kernel
theorem dX12_forge_77 : decode cX12_forge 77 = .ok (.ireturn, 1) := by decide +kernel
theorem dX12_check_0 : decode cX12_check 0 = .ok (.iconst 0, 1) := by decide +kernel
theorem dX12_check_1 : decode cX12_check 1 = .ok (.istore_n 1, 1) := by decide +kernel
theorem dX12_check_2 : decode cX12_check 2 = .ok (.iload_n 1, 1) := by decide +kernel
theorem dX12_check_3 : decode cX12_check 3 = .ok (.aload_n 0, 1) := by decide +kernel
theorem dX12_check_4 : decode cX12_check 4 = .ok (.iconst 4, 1) := by decide +kernel
theorem dX12_check_5 : decode cX12_check 5 = .ok (.invokevirtual 66, 3) := by decide +kernel
theorem dX12_check_8 : decode cX12_check 8 = .ok (.if_icmp .ge 116, 3) := by decide +kernel
theorem dX12_check_11 : decode cX12_check 11 = .ok (.sipush 1346, 3) := by decide +kernel
theorem dX12_check_14 : decode cX12_check 14 = .ok (.bipush 14, 2) := by decide +kernel
theorem dX12_check_16 : decode cX12_check 16 = .ok (.iload_n 1, 1) := by decide +kernel
theorem dX12_check_17 : decode cX12_check 17 = .ok (.imul, 1) := by decide +kernel
theorem dX12_check_18 : decode cX12_check 18 = .ok (.iadd, 1) := by decide +kernel
theorem dX12_check_19 : decode cX12_check 19 = .ok (.istore_n 2, 1) := by decide +kernel
theorem dX12_check_20 : decode cX12_check 20 = .ok (.aload_n 0, 1) := by decide +kernel
theorem dX12_check_21 : decode cX12_check 21 = .ok (.getfield 7, 3) := by decide +kernel
theorem dX12_check_24 : decode cX12_check 24 = .ok (.iload_n 2, 1) := by decide +kernel
theorem dX12_check_25 : decode cX12_check 25 = .ok (.bipush 12, 2) := by decide +kernel
theorem dX12_check_27 : decode cX12_check 27 = .ok (.iadd, 1) := by decide +kernel
theorem dX12_check_28 : decode cX12_check 28 = .ok (.iaload, 1) := by decide +kernel
theorem dX12_check_29 : decode cX12_check 29 = .ok (.ifCond .ne 89, 3) := by decide +kernel
theorem dX12_check_32 : decode cX12_check 32 = .ok (.aload_n 0, 1) := by decide +kernel
theorem dX12_check_33 : decode cX12_check 33 = .ok (.invokevirtual 146, 3) := by decide +kernel
theorem dX12_check_36 : decode cX12_check 36 = .ok (.aload_n 0, 1) := by decide +kernel
theorem dX12_check_37 : decode cX12_check 37 = .ok (.aload_n 0, 1) := by decide +kernel
theorem dX12_check_38 : decode cX12_check 38 = .ok (.getfield 7, 3) := by decide +kernel
theorem dX12_check_41 : decode cX12_check 41 = .ok (.iload_n 2, 1) := by decide +kernel
theorem dX12_check_42 : decode cX12_check 42 = .ok (.bipush 7, 2) := by decide +kernel
theorem dX12_check_44 : decode cX12_check 44 = .ok (.iadd, 1) := by decide +kernel
theorem dX12_check_45 : decode cX12_check 45 = .ok (.iaload, 1) := by decide +kernel
theorem dX12_check_46 : decode cX12_check 46 = .ok (.aload_n 0, 1) := by decide +kernel
theorem dX12_check_47 : decode cX12_check 47 = .ok (.getfield 7, 3) := by decide +kernel
theorem dX12_check_50 : decode cX12_check 50 = .ok (.iload_n 2, 1) := by decide +kernel
theorem dX12_check_51 : decode cX12_check 51 = .ok (.bipush 8, 2) := by decide +kernel
theorem dX12_check_53 : decode cX12_check 53 = .ok (.iadd, 1) := by decide +kernel
theorem dX12_check_54 : decode cX12_check 54 = .ok (.iaload, 1) := by decide +kernel
theorem dX12_check_55 : decode cX12_check 55 = .ok (.aload_n 0, 1) := by decide +kernel
theorem dX12_check_56 : decode cX12_check 56 = .ok (.getfield 7, 3) := by decide +kernel
theorem dX12_check_59 : decode cX12_check 59 = .ok (.iload_n 2, 1) := by decide +kernel
theorem dX12_check_60 : decode cX12_check 60 = .ok (.bipush 9, 2) := by decide +kernel
theorem dX12_check_62 : decode cX12_check 62 = .ok (.iadd, 1) := by decide +kernel
theorem dX12_check_63 : decode cX12_check 63 = .ok (.iaload, 1) := by decide +kernel
theorem dX12_check_64 : decode cX12_check 64 = .ok (.aload_n 0, 1) := by decide +kernel
theorem dX12_check_65 : decode cX12_check 65 = .ok (.getfield 7, 3) := by decide +kernel
theorem dX12_check_68 : decode cX12_check 68 = .ok (.iload_n 2, 1) := by decide +kernel
theorem dX12_check_69 : decode cX12_check 69 = .ok (.bipush 10, 2) := by decide +kernel
theorem dX12_check_71 : decode cX12_check 71 = .ok (.iadd, 1) := by decide +kernel
theorem dX12_check_72 : decode cX12_check 72 = .ok (.iaload, 1) := by decide +kernel
theorem dX12_check_73 : decode cX12_check 73 = .ok (.aload_n 0, 1) := by decide +kernel
theorem dX12_check_74 : decode cX12_check 74 = .ok (.getfield 7, 3) := by decide +kernel
theorem dX12_check_77 : decode cX12_check 77 = .ok (.iload_n 2, 1) := by decide +kernel
theorem dX12_check_78 : decode cX12_check 78 = .ok (.bipush 11, 2) := by decide +kernel
theorem dX12_check_80 : decode cX12_check 80 = .ok (.iadd, 1) := by decide +kernel
theorem dX12_check_81 : decode cX12_check 81 = .ok (.iaload, 1) := by decide +kernel
theorem dX12_check_82 : decode cX12_check 82 = .ok (.invokevirtual 149, 3) := by decide +kernel
theorem dX12_check_85 : decode cX12_check 85 = .ok (.iconst 0, 1) := by decide +kernel
theorem dX12_check_86 : decode cX12_check 86 = .ok (.istore_n 3, 1) := by decide +kernel
theorem dX12_check_87 : decode cX12_check 87 = .ok (.iload_n 3, 1) := by decide +kernel
theorem dX12_check_88 : decode cX12_check 88 = .ok (.bipush 6, 2) := by decide +kernel
theorem dX12_check_90 : decode cX12_check 90 = .ok (.if_icmp .ge 28, 3) := by decide +kernel
theorem dX12_check_93 : decode cX12_check 93 = .ok (.aload_n 0, 1) := by decide +kernel
theorem dX12_check_94 : decode cX12_check 94 = .ok (.getfield 35, 3) := by decide +kernel
theorem dX12_check_97 : decode cX12_check 97 = .ok (.iload_n 3, 1) := by decide +kernel
theorem dX12_check_98 : decode cX12_check 98 = .ok (.iaload, 1) := by decide +kernel
theorem dX12_check_99 : decode cX12_check 99 = .ok (.aload_n 0, 1) := by decide +kernel
theorem dX12_check_100 : decode cX12_check 100 = .ok (.getfield 7, 3) := by decide +kernel
theorem dX12_check_103 : decode cX12_check 103 = .ok (.iload_n 2, 1) := by decide +kernel
theorem dX12_check_104 : decode cX12_check 104 = .ok (.iload_n 3, 1) := by decide +kernel
theorem dX12_check_105 : decode cX12_check 105 = .ok (.iadd, 1) := by decide +kernel
theorem dX12_check_106 : decode cX12_check 106 = .ok (.iaload, 1) := by decide +kernel
theorem dX12_check_107 : decode cX12_check 107 = .ok (.if_icmp .eq 5, 3) := by decide +kernel
theorem dX12_check_110 : decode cX12_check 110 = .ok (.iload_n 1, 1) := by decide +kernel
theorem dX12_check_111 : decode cX12_check 111 = .ok (.ireturn, 1) := by decide +kernel
theorem dX12_check_112 : decode cX12_check 112 = .ok (.iinc 3 1, 3) := by decide +kernel
theorem dX12_check_115 : decode cX12_check 115 = .ok (.goto (-28), 3) := by decide +kernel
theorem dX12_check_118 : decode cX12_check 118 = .ok (.iinc 1 1, 3) := by decide +kernel
theorem dX12_check_121 : decode cX12_check 121 = .ok (.goto (-119), 3) := by decide +kernel
theorem dX12_check_124 : decode cX12_check 124 = .ok (.iconst (-1), 1) := by decide +kernel
theorem dX12_check_125 : decode cX12_check 125 = .ok (.ireturn, 1) := by decide +kernel
theorem dX12_image_0 : decode cX12_image 0 = .ok (.iload_n 1, 1) := by decide +kernel
theorem dX12_image_1 : decode cX12_image 1 = .ok (.i2l, 1) := by decide +kernel
theorem dX12_image_2 : decode cX12_image 2 = .ok (.lconst 0, 1) := by decide +kernel
theorem dX12_image_3 : decode cX12_image 3 = .ok (.lconst 1, 1) := by decide +kernel
theorem dX12_image_4 : decode cX12_image 4 = .ok (.invokestatic 70, 3) := by decide +kernel
theorem dX12_image_7 : decode cX12_image 7 = .ok (.ifCond .ne 6, 3) := by decide +kernel
theorem dX12_image_10 : decode cX12_image 10 = .ok (.bipush (-2), 2) := by decide +kernel
theorem dX12_image_12 : decode cX12_image 12 = .ok (.ireturn, 1) := by decide +kernel
theorem dX12_image_13 : decode cX12_image 13 = .ok (.iconst 0, 1) := by decide +kernel
theorem dX12_image_14 : decode cX12_image 14 = .ok (.istore_n 2, 1) := by decide +kernel
theorem dX12_image_15 : decode cX12_image 15 = .ok (.iload_n 2, 1) := by decide +kernel
theorem dX12_image_16 : decode cX12_image 16 = .ok (.sipush 4230, 3) := by decide +kernel
theorem dX12_image_19 : decode cX12_image 19 = .ok (.if_icmp .ge 27, 3) := by decide +kernel
theorem dX12_image_22 : decode cX12_image 22 = .ok (.aload_n 0, 1) := by decide +kernel
theorem dX12_image_23 : decode cX12_image 23 = .ok (.getfield 13, 3) := by decide +kernel
theorem dX12_image_26 : decode cX12_image 26 = .ok (.sipush 4230, 3) := by decide +kernel
theorem dX12_image_29 : decode cX12_image 29 = .ok (.iload_n 1, 1) := by decide +kernel
theorem dX12_image_30 : decode cX12_image 30 = .ok (.imul, 1) := by decide +kernel
theorem dX12_image_31 : decode cX12_image 31 = .ok (.iload_n 2, 1) := by decide +kernel
theorem dX12_image_32 : decode cX12_image 32 = .ok (.iadd, 1) := by decide +kernel
theorem dX12_image_33 : decode cX12_image 33 = .ok (.aload_n 0, 1) := by decide +kernel
theorem dX12_image_34 : decode cX12_image 34 = .ok (.getfield 7, 3) := by decide +kernel
theorem dX12_image_37 : decode cX12_image 37 = .ok (.iload_n 2, 1) := by decide +kernel
theorem dX12_image_38 : decode cX12_image 38 = .ok (.iaload, 1) := by decide +kernel
theorem dX12_image_39 : decode cX12_image 39 = .ok (.iastore, 1) := by decide +kernel
theorem dX12_image_40 : decode cX12_image 40 = .ok (.iinc 2 1, 3) := by decide +kernel
theorem dX12_image_43 : decode cX12_image 43 = .ok (.goto (-28), 3) := by decide +kernel
theorem dX12_image_46 : decode cX12_image 46 = .ok (.aload_n 0, 1) := by decide +kernel
theorem dX12_image_47 : decode cX12_image 47 = .ok (.getfield 16, 3) := by decide +kernel
theorem dX12_image_50 : decode cX12_image 50 = .ok (.iload_n 1, 1) := by decide +kernel
theorem dX12_image_51 : decode cX12_image 51 = .ok (.iconst 1, 1) := by decide +kernel
theorem dX12_image_52 : decode cX12_image 52 = .ok (.bastore, 1) := by decide +kernel
theorem dX12_image_53 : decode cX12_image 53 = .ok (.iconst 1, 1) := by decide +kernel
theorem dX12_image_54 : decode cX12_image 54 = .ok (.ireturn, 1) := by decide +kernel
theorem dX12_from_0 : decode cX12_from 0 = .ok (.iload_n 1, 1) := by decide +kernel
theorem dX12_from_1 : decode cX12_from 1 = .ok (.i2l, 1) := by decide +kernel
theorem dX12_from_2 : decode cX12_from 2 = .ok (.lconst 0, 1) := by decide +kernel
theorem dX12_from_3 : decode cX12_from 3 = .ok (.lconst 1, 1) := by decide +kernel
theorem dX12_from_4 : decode cX12_from 4 = .ok (.invokestatic 70, 3) := by decide +kernel
theorem dX12_from_7 : decode cX12_from 7 = .ok (.ifCond .ne 6, 3) := by decide +kernel
theorem dX12_from_10 : decode cX12_from 10 = .ok (.bipush (-2), 2) := by decide +kernel
theorem dX12_from_12 : decode cX12_from 12 = .ok (.ireturn, 1) := by decide +kernel
theorem dX12_from_13 : decode cX12_from 13 = .ok (.aload_n 0, 1) := by decide +kernel
theorem dX12_from_14 : decode cX12_from 14 = .ok (.getfield 16, 3) := by decide +kernel
theorem dX12_from_17 : decode cX12_from 17 = .ok (.iload_n 1, 1) := by decide +kernel
theorem dX12_from_18 : decode cX12_from 18 = .ok (.baload, 1) := by decide +kernel
theorem dX12_from_19 : decode cX12_from 19 = .ok (.ifCond .ne 6, 3) := by decide +kernel
theorem dX12_from_22 : decode cX12_from 22 = .ok (.bipush (-3), 2) := by decide +kernel
theorem dX12_from_24 : decode cX12_from 24 = .ok (.ireturn, 1) := by decide +kernel
theorem dX12_from_25 : decode cX12_from 25 = .ok (.iconst 0, 1) := by decide +kernel
theorem dX12_from_26 : decode cX12_from 26 = .ok (.istore_n 2, 1) := by decide +kernel
theorem dX12_from_27 : decode cX12_from 27 = .ok (.iload_n 2, 1) := by decide +kernel
theorem dX12_from_28 : decode cX12_from 28 = .ok (.sipush 4230, 3) := by decide +kernel
theorem dX12_from_31 : decode cX12_from 31 = .ok (.if_icmp .ge 27, 3) := by decide +kernel
theorem dX12_from_34 : decode cX12_from 34 = .ok (.aload_n 0, 1) := by decide +kernel
theorem dX12_from_35 : decode cX12_from 35 = .ok (.getfield 7, 3) := by decide +kernel
theorem dX12_from_38 : decode cX12_from 38 = .ok (.iload_n 2, 1) := by decide +kernel
theorem dX12_from_39 : decode cX12_from 39 = .ok (.aload_n 0, 1) := by decide +kernel
theorem dX12_from_40 : decode cX12_from 40 = .ok (.getfield 13, 3) := by decide +kernel
theorem dX12_from_43 : decode cX12_from 43 = .ok (.sipush 4230, 3) := by decide +kernel
theorem dX12_from_46 : decode cX12_from 46 = .ok (.iload_n 1, 1) := by decide +kernel
theorem dX12_from_47 : decode cX12_from 47 = .ok (.imul, 1) := by decide +kernel
theorem dX12_from_48 : decode cX12_from 48 = .ok (.iload_n 2, 1) := by decide +kernel
theorem dX12_from_49 : decode cX12_from 49 = .ok (.iadd, 1) := by decide +kernel
theorem dX12_from_50 : decode cX12_from 50 = .ok (.iaload, 1) := by decide +kernel
theorem dX12_from_51 : decode cX12_from 51 = .ok (.iastore, 1) := by decide +kernel
theorem dX12_from_52 : decode cX12_from 52 = .ok (.iinc 2 1, 3) := by decide +kernel
theorem dX12_from_55 : decode cX12_from 55 = .ok (.goto (-28), 3) := by decide +kernel
theorem dX12_from_58 : decode cX12_from 58 = .ok (.iconst 1, 1) := by decide +kernel
theorem dX12_from_59 : decode cX12_from 59 = .ok (.ireturn, 1) := by decide +kernel
theorem dX12_count_0 : decode cX12_count 0 = .ok (.iload_n 1, 1) := by decide +kernel
theorem dX12_count_1 : decode cX12_count 1 = .ok (.i2l, 1) := by decide +kernel
theorem dX12_count_2 : decode cX12_count 2 = .ok (.lconst 0, 1) := by decide +kernel
theorem dX12_count_3 : decode cX12_count 3 = .ok (.ldc2_w 107, 3) := by decide +kernel
theorem dX12_count_6 : decode cX12_count 6 = .ok (.invokestatic 70, 3) := by decide +kernel
theorem dX12_count_9 : decode cX12_count 9 = .ok (.ifCond .ne 6, 3) := by decide +kernel
theorem dX12_count_12 : decode cX12_count 12 = .ok (.bipush (-2), 2) := by decide +kernel
theorem dX12_count_14 : decode cX12_count 14 = .ok (.ireturn, 1) := by decide +kernel
theorem dX12_count_15 : decode cX12_count 15 = .ok (.iload_n 1, 1) := by decide +kernel
theorem dX12_count_16 : decode cX12_count 16 = .ok (.iconst 5, 1) := by decide +kernel
theorem dX12_count_17 : decode cX12_count 17 = .ok (.if_icmp .ge 9, 3) := by decide +kernel
theorem dX12_count_20 : decode cX12_count 20 = .ok (.aload_n 0, 1) := by decide +kernel
theorem dX12_count_21 : decode cX12_count 21 = .ok (.iload_n 1, 1) := by decide +kernel
theorem dX12_count_22 : decode cX12_count 22 = .ok (.invokevirtual 66, 3) := by decide +kernel
theorem dX12_count_25 : decode cX12_count 25 = .ok (.ireturn, 1) := by decide +kernel
theorem dX12_count_26 : decode cX12_count 26 = .ok (.iload_n 1, 1) := by decide +kernel
theorem dX12_count_27 : decode cX12_count 27 = .ok (.iconst 5, 1) := by decide +kernel
theorem dX12_count_28 : decode cX12_count 28 = .ok (.if_icmp .le 11, 3) := by decide +kernel
theorem dX12_count_31 : decode cX12_count 31 = .ok (.aload_n 0, 1) := by decide +kernel
theorem dX12_count_32 : decode cX12_count 32 = .ok (.iload_n 1, 1) := by decide +kernel
theorem dX12_count_33 : decode cX12_count 33 = .ok (.iconst 1, 1) := by decide +kernel
theorem dX12_count_34 : decode cX12_count 34 = .ok (.isub, 1) := by decide +kernel
theorem dX12_count_35 : decode cX12_count 35 = .ok (.invokevirtual 66, 3) := by decide +kernel
theorem dX12_count_38 : decode cX12_count 38 = .ok (.ireturn, 1) := by decide +kernel
theorem dX12_count_39 : decode cX12_count 39 = .ok (.iconst 0, 1) := by decide +kernel
theorem dX12_count_40 : decode cX12_count 40 = .ok (.istore_n 2, 1) := by decide +kernel
theorem dX12_count_41 : decode cX12_count 41 = .ok (.iconst 0, 1) := by decide +kernel
theorem dX12_count_42 : decode cX12_count 42 = .ok (.istore_n 3, 1) := by decide +kernel
theorem dX12_count_43 : decode cX12_count 43 = .ok (.iload_n 3, 1) := by decide +kernel
theorem dX12_count_44 : decode cX12_count 44 = .ok (.aload_n 0, 1) := by decide +kernel
theorem dX12_count_45 : decode cX12_count 45 = .ok (.iconst 4, 1) := by decide +kernel
theorem dX12_count_46 : decode cX12_count 46 = .ok (.invokevirtual 66, 3) := by decide +kernel
theorem dX12_count_49 : decode cX12_count 49 = .ok (.if_icmp .ge 28, 3) := by decide +kernel
theorem dX12_count_52 : decode cX12_count 52 = .ok (.iload_n 2, 1) := by decide +kernel
theorem dX12_count_53 : decode cX12_count 53 = .ok (.aload_n 0, 1) := by decide +kernel
theorem dX12_count_54 : decode cX12_count 54 = .ok (.getfield 7, 3) := by decide +kernel
theorem dX12_count_57 : decode cX12_count 57 = .ok (.sipush 1346, 3) := by decide +kernel
theorem dX12_count_60 : decode cX12_count 60 = .ok (.bipush 14, 2) := by decide +kernel
theorem dX12_count_62 : decode cX12_count 62 = .ok (.iload_n 3, 1) := by decide +kernel
theorem dX12_count_63 : decode cX12_count 63 = .ok (.imul, 1) := by decide +kernel
theorem dX12_count_64 : decode cX12_count 64 = .ok (.iadd, 1) := by decide +kernel
theorem dX12_count_65 : decode cX12_count 65 = .ok (.bipush 6, 2) := by decide +kernel
theorem dX12_count_67 : decode cX12_count 67 = .ok (.iadd, 1) := by decide +kernel
theorem dX12_count_68 : decode cX12_count 68 = .ok (.iaload, 1) := by decide +kernel
theorem dX12_count_69 : decode cX12_count 69 = .ok (.iadd, 1) := by decide +kernel
theorem dX12_count_70 : decode cX12_count 70 = .ok (.istore_n 2, 1) := by decide +kernel
theorem dX12_count_71 : decode cX12_count 71 = .ok (.iinc 3 1, 3) := by decide +kernel
theorem dX12_count_74 : decode cX12_count 74 = .ok (.goto (-31), 3) := by decide +kernel
theorem dX12_count_77 : decode cX12_count 77 = .ok (.iload_n 2, 1) := by decide +kernel
theorem dX12_count_78 : decode cX12_count 78 = .ok (.ireturn, 1) := by decide +kernel
theorem dX12_sums_0 : decode cX12_sums 0 = .ok (.lload_n 1, 1) := by decide +kernel
theorem dX12_sums_1 : decode cX12_sums 1 = .ok (.lstore 5, 2) := by decide +kernel
theorem dX12_sums_3 : decode cX12_sums 3 = .ok (.iconst 0, 1) := by decide +kernel
theorem dX12_sums_4 : decode cX12_sums 4 = .ok (.istore 7, 2) := by decide +kernel
theorem dX12_sums_6 : decode cX12_sums 6 = .ok (.iload 7, 2) := by decide +kernel
theorem dX12_sums_8 : decode cX12_sums 8 = .ok (.iload 4, 2) := by decide +kernel
theorem dX12_sums_10 : decode cX12_sums 10 = .ok (.if_icmp .ge 28, 3) := by decide +kernel
theorem dX12_sums_13 : decode cX12_sums 13 = .ok (.ldc2_w 299, 3) := by decide +kernel
theorem dX12_sums_16 : decode cX12_sums 16 = .ok (.lload 5, 2) := by decide +kernel
theorem dX12_sums_18 : decode cX12_sums 18 = .ok (.lmul, 1) := by decide +kernel
theorem dX12_sums_19 : decode cX12_sums 19 = .ok (.aload_n 0, 1) := by decide +kernel
theorem dX12_sums_20 : decode cX12_sums 20 = .ok (.getfield 7, 3) := by decide +kernel
theorem dX12_sums_23 : decode cX12_sums 23 = .ok (.iload_n 3, 1) := by decide +kernel
theorem dX12_sums_24 : decode cX12_sums 24 = .ok (.iload 7, 2) := by decide +kernel
theorem dX12_sums_26 : decode cX12_sums 26 = .ok (.iadd, 1) := by decide +kernel
theorem dX12_sums_27 : decode cX12_sums 27 = .ok (.iaload, 1) := by decide +kernel
theorem dX12_sums_28 : decode cX12_sums 28 = .ok (.i2l, 1) := by decide +kernel
theorem dX12_sums_29 : decode cX12_sums 29 = .ok (.ladd, 1) := by decide +kernel
theorem dX12_sums_30 : decode cX12_sums 30 = .ok (.lstore 5, 2) := by decide +kernel
theorem dX12_sums_32 : decode cX12_sums 32 = .ok (.iinc 7 1, 3) := by decide +kernel
theorem dX12_sums_35 : decode cX12_sums 35 = .ok (.goto (-29), 3) := by decide +kernel
theorem dX12_sums_38 : decode cX12_sums 38 = .ok (.lload 5, 2) := by decide +kernel
theorem dX12_sums_40 : decode cX12_sums 40 = .ok (.lreturn, 1) := by decide +kernel
theorem dX12_digest_0 : decode cX12_digest 0 = .ok (.ldc2_w 301, 3) := by decide +kernel
theorem dX12_digest_3 : decode cX12_digest 3 = .ok (.lstore_n 1, 1) := by decide +kernel
theorem dX12_digest_4 : decode cX12_digest 4 = .ok (.iconst 0, 1) := by decide +kernel
theorem dX12_digest_5 : decode cX12_digest 5 = .ok (.istore_n 3, 1) := by decide +kernel
theorem dX12_digest_6 : decode cX12_digest 6 = .ok (.iload_n 3, 1) := by decide +kernel
theorem dX12_digest_7 : decode cX12_digest 7 = .ok (.bipush 9, 2) := by decide +kernel
theorem dX12_digest_9 : decode cX12_digest 9 = .ok (.if_icmp .ge 22, 3) := by decide +kernel
theorem dX12_digest_12 : decode cX12_digest 12 = .ok (.ldc2_w 299, 3) := by decide +kernel
theorem dX12_digest_15 : decode cX12_digest 15 = .ok (.lload_n 1, 1) := by decide +kernel
theorem dX12_digest_16 : decode cX12_digest 16 = .ok (.lmul, 1) := by decide +kernel
theorem dX12_digest_17 : decode cX12_digest 17 = .ok (.aload_n 0, 1) := by decide +kernel
theorem dX12_digest_18 : decode cX12_digest 18 = .ok (.iload_n 3, 1) := by decide +kernel
theorem dX12_digest_19 : decode cX12_digest 19 = .ok (.invokevirtual 303, 3) := by decide +kernel
theorem dX12_digest_22 : decode cX12_digest 22 = .ok (.i2l, 1) := by decide +kernel
theorem dX12_digest_23 : decode cX12_digest 23 = .ok (.ladd, 1) := by decide +kernel
theorem dX12_digest_24 : decode cX12_digest 24 = .ok (.lstore_n 1, 1) := by decide +kernel
theorem dX12_digest_25 : decode cX12_digest 25 = .ok (.iinc 3 1, 3) := by decide +kernel
theorem dX12_digest_28 : decode cX12_digest 28 = .ok (.goto (-22), 3) := by decide +kernel
theorem dX12_digest_31 : decode cX12_digest 31 = .ok (.aload_n 0, 1) := by decide +kernel
theorem dX12_digest_32 : decode cX12_digest 32 = .ok (.lload_n 1, 1) := by decide +kernel
theorem dX12_digest_33 : decode cX12_digest 33 = .ok (.sipush 1346, 3) := by decide +kernel
theorem dX12_digest_36 : decode cX12_digest 36 = .ok (.bipush 14, 2) := by decide +kernel
theorem dX12_digest_38 : decode cX12_digest 38 = .ok (.aload_n 0, 1) := by decide +kernel
theorem dX12_digest_39 : decode cX12_digest 39 = .ok (.iconst 4, 1) := by decide +kernel
theorem dX12_digest_40 : decode cX12_digest 40 = .ok (.invokevirtual 66, 3) := by decide +kernel
theorem dX12_digest_43 : decode cX12_digest 43 = .ok (.imul, 1) := by decide +kernel
theorem dX12_digest_44 : decode cX12_digest 44 = .ok (.invokevirtual 306, 3) := by decide +kernel
theorem dX12_digest_47 : decode cX12_digest 47 = .ok (.lstore_n 1, 1) := by decide +kernel
theorem dX12_digest_48 : decode cX12_digest 48 = .ok (.aload_n 0, 1) := by decide +kernel
theorem dX12_digest_49 : decode cX12_digest 49 = .ok (.lload_n 1, 1) := by decide +kernel
theorem dX12_digest_50 : decode cX12_digest 50 = .ok (.sipush 4146, 3) := by decide +kernel
theorem dX12_digest_53 : decode cX12_digest 53 = .ok (.aload_n 0, 1) := by decide +kernel
theorem dX12_digest_54 : decode cX12_digest 54 = .ok (.iconst 5, 1) := by decide +kernel
theorem dX12_digest_55 : decode cX12_digest 55 = .ok (.invokevirtual 66, 3) := by decide +kernel
theorem dX12_digest_58 : decode cX12_digest 58 = .ok (.invokevirtual 306, 3) := by decide +kernel
theorem dX12_digest_61 : decode cX12_digest 61 = .ok (.lstore_n 1, 1) := by decide +kernel
theorem dX12_digest_62 : decode cX12_digest 62 = .ok (.aload_n 0, 1) := by decide +kernel
theorem dX12_digest_63 : decode cX12_digest 63 = .ok (.lload_n 1, 1) := by decide +kernel
theorem dX12_digest_64 : decode cX12_digest 64 = .ok (.sipush 4162, 3) := by decide +kernel
theorem dX12_digest_67 : decode cX12_digest 67 = .ok (.aload_n 0, 1) := by decide +kernel
theorem dX12_digest_68 : decode cX12_digest 68 = .ok (.bipush 6, 2) := by decide +kernel
theorem dX12_digest_70 : decode cX12_digest 70 = .ok (.invokevirtual 66, 3) := by decide +kernel
theorem dX12_digest_73 : decode cX12_digest 73 = .ok (.invokevirtual 306, 3) := by decide +kernel
theorem dX12_digest_76 : decode cX12_digest 76 = .ok (.lstore_n 1, 1) := by decide +kernel
theorem dX12_digest_77 : decode cX12_digest 77 = .ok (.aload_n 0, 1) := by decide +kernel
theorem dX12_digest_78 : decode cX12_digest 78 = .ok (.lload_n 1, 1) := by decide +kernel
theorem dX12_digest_79 : decode cX12_digest 79 = .ok (.sipush 4218, 3) := by decide +kernel
theorem dX12_digest_82 : decode cX12_digest 82 = .ok (.iconst 2, 1) := by decide +kernel
theorem dX12_digest_83 : decode cX12_digest 83 = .ok (.invokevirtual 306, 3) := by decide +kernel
theorem dX12_digest_86 : decode cX12_digest 86 = .ok (.lstore_n 1, 1) := by decide +kernel
theorem dX12_digest_87 : decode cX12_digest 87 = .ok (.aload_n 0, 1) := by decide +kernel
theorem dX12_digest_88 : decode cX12_digest 88 = .ok (.lload_n 1, 1) := by decide +kernel
theorem dX12_digest_89 : decode cX12_digest 89 = .ok (.sipush 4170, 3) := by decide +kernel
theorem dX12_digest_92 : decode cX12_digest 92 = .ok (.aload_n 0, 1) := by decide +kernel
theorem dX12_digest_93 : decode cX12_digest 93 = .ok (.bipush 7, 2) := by decide +kernel
theorem dX12_digest_95 : decode cX12_digest 95 = .ok (.invokevirtual 66, 3) := by decide +kernel
theorem dX12_digest_98 : decode cX12_digest 98 = .ok (.invokevirtual 306, 3) := by decide +kernel
theorem dX12_digest_101 : decode cX12_digest 101 = .ok (.lstore_n 1, 1) := by decide +kernel
theorem dX12_digest_102 : decode cX12_digest 102 = .ok (.aload_n 0, 1) := by decide +kernel
theorem dX12_digest_103 : decode cX12_digest 103 = .ok (.lload_n 1, 1) := by decide +kernel
theorem dX12_digest_104 : decode cX12_digest 104 = .ok (.sipush 1026, 3) := by decide +kernel
theorem dX12_digest_107 : decode cX12_digest 107 = .ok (.iconst 2, 1) := by decide +kernel
theorem dX12_digest_108 : decode cX12_digest 108 = .ok (.aload_n 0, 1) := by decide +kernel
theorem dX12_digest_109 : decode cX12_digest 109 = .ok (.iconst 2, 1) := by decide +kernel
theorem dX12_digest_110 : decode cX12_digest 110 = .ok (.invokevirtual 66, 3) := by decide +kernel
theorem dX12_digest_113 : decode cX12_digest 113 = .ok (.imul, 1) := by decide +kernel
theorem dX12_digest_114 : decode cX12_digest 114 = .ok (.invokevirtual 306, 3) := by decide +kernel
theorem dX12_digest_117 : decode cX12_digest 117 = .ok (.lstore_n 1, 1) := by decide +kernel
theorem dX12_digest_118 : decode cX12_digest 118 = .ok (.iconst 0, 1) := by decide +kernel
theorem dX12_digest_119 : decode cX12_digest 119 = .ok (.istore_n 3, 1) := by decide +kernel
theorem dX12_digest_120 : decode cX12_digest 120 = .ok (.iload_n 3, 1) := by decide +kernel
theorem dX12_digest_121 : decode cX12_digest 121 = .ok (.iconst 4, 1) := by decide +kernel
theorem dX12_digest_122 : decode cX12_digest 122 = .ok (.if_icmp .ge 61, 3) := by decide +kernel
theorem dX12_digest_125 : decode cX12_digest 125 = .ok (.sipush 1106, 3) := by decide +kernel
theorem dX12_digest_128 : decode cX12_digest 128 = .ok (.bipush 60, 2) := by decide +kernel
theorem dX12_digest_130 : decode cX12_digest 130 = .ok (.iload_n 3, 1) := by decide +kernel
theorem dX12_digest_131 : decode cX12_digest 131 = .ok (.imul, 1) := by decide +kernel
theorem dX12_digest_132 : decode cX12_digest 132 = .ok (.iadd, 1) := by decide +kernel
theorem dX12_digest_133 : decode cX12_digest 133 = .ok (.istore 4, 2) := by decide +kernel
theorem dX12_digest_135 : decode cX12_digest 135 = .ok (.aload_n 0, 1) := by decide +kernel
theorem dX12_digest_136 : decode cX12_digest 136 = .ok (.lload_n 1, 1) := by decide +kernel
theorem dX12_digest_137 : decode cX12_digest 137 = .ok (.iload 4, 2) := by decide +kernel
theorem dX12_digest_139 : decode cX12_digest 139 = .ok (.bipush 20, 2) := by decide +kernel
theorem dX12_digest_141 : decode cX12_digest 141 = .ok (.iadd, 1) := by decide +kernel
theorem dX12_digest_142 : decode cX12_digest 142 = .ok (.aload_n 0, 1) := by decide +kernel
theorem dX12_digest_143 : decode cX12_digest 143 = .ok (.getfield 7, 3) := by decide +kernel
theorem dX12_digest_146 : decode cX12_digest 146 = .ok (.iload 4, 2) := by decide +kernel
theorem dX12_digest_148 : decode cX12_digest 148 = .ok (.bipush 8, 2) := by decide +kernel
theorem dX12_digest_150 : decode cX12_digest 150 = .ok (.iadd, 1) := by decide +kernel
theorem dX12_digest_151 : decode cX12_digest 151 = .ok (.iaload, 1) := by decide +kernel
theorem dX12_digest_152 : decode cX12_digest 152 = .ok (.invokevirtual 306, 3) := by decide +kernel
theorem dX12_digest_155 : decode cX12_digest 155 = .ok (.lstore_n 1, 1) := by decide +kernel
theorem dX12_digest_156 : decode cX12_digest 156 = .ok (.aload_n 0, 1) := by decide +kernel
theorem dX12_digest_157 : decode cX12_digest 157 = .ok (.lload_n 1, 1) := by decide +kernel
theorem dX12_digest_158 : decode cX12_digest 158 = .ok (.iload 4, 2) := by decide +kernel
theorem dX12_digest_160 : decode cX12_digest 160 = .ok (.bipush 36, 2) := by decide +kernel
theorem dX12_digest_162 : decode cX12_digest 162 = .ok (.iadd, 1) := by decide +kernel
theorem dX12_digest_163 : decode cX12_digest 163 = .ok (.aload_n 0, 1) := by decide +kernel
theorem dX12_digest_164 : decode cX12_digest 164 = .ok (.getfield 7, 3) := by decide +kernel
theorem dX12_digest_167 : decode cX12_digest 167 = .ok (.iload 4, 2) := by decide +kernel
theorem dX12_digest_169 : decode cX12_digest 169 = .ok (.bipush 11, 2) := by decide +kernel
theorem dX12_digest_171 : decode cX12_digest 171 = .ok (.iadd, 1) := by decide +kernel
theorem dX12_digest_172 : decode cX12_digest 172 = .ok (.iaload, 1) := by decide +kernel
theorem dX12_digest_173 : decode cX12_digest 173 = .ok (.invokevirtual 306, 3) := by decide +kernel
theorem dX12_digest_176 : decode cX12_digest 176 = .ok (.lstore_n 1, 1) := by decide +kernel
theorem dX12_digest_177 : decode cX12_digest 177 = .ok (.iinc 3 1, 3) := by decide +kernel
theorem dX12_digest_180 : decode cX12_digest 180 = .ok (.goto (-60), 3) := by decide +kernel
theorem dX12_digest_183 : decode cX12_digest 183 = .ok (.lload_n 1, 1) := by decide +kernel
theorem dX12_digest_184 : decode cX12_digest 184 = .ok (.lreturn, 1) := by decide +kernel
