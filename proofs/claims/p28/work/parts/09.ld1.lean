theorem dL_same_51 : decode cL_same 51 = .ok (.ireturn, 1) := by decide +kernel
theorem dL_same_52 : decode cL_same 52 = .ok (.iload 4, 2) := by decide +kernel
theorem dL_same_54 : decode cL_same 54 = .ok (.istore 7, 2) := by decide +kernel
theorem dL_same_56 : decode cL_same 56 = .ok (.iload 5, 2) := by decide +kernel
theorem dL_same_58 : decode cL_same 58 = .ok (.istore 8, 2) := by decide +kernel
theorem dL_same_60 : decode cL_same 60 = .ok (.iload 8, 2) := by decide +kernel
theorem dL_same_62 : decode cL_same 62 = .ok (.ifCond .eq 21, 3) := by decide +kernel
theorem dL_same_65 : decode cL_same 65 = .ok (.iload 7, 2) := by decide +kernel
theorem dL_same_67 : decode cL_same 67 = .ok (.iload 8, 2) := by decide +kernel
theorem dL_same_69 : decode cL_same 69 = .ok (.irem, 1) := by decide +kernel
theorem dL_same_70 : decode cL_same 70 = .ok (.istore 9, 2) := by decide +kernel
theorem dL_same_72 : decode cL_same 72 = .ok (.iload 8, 2) := by decide +kernel
theorem dL_same_74 : decode cL_same 74 = .ok (.istore 7, 2) := by decide +kernel
theorem dL_same_76 : decode cL_same 76 = .ok (.iload 9, 2) := by decide +kernel
theorem dL_same_78 : decode cL_same 78 = .ok (.istore 8, 2) := by decide +kernel
theorem dL_same_80 : decode cL_same 80 = .ok (.goto (-20), 3) := by decide +kernel
theorem dL_same_83 : decode cL_same 83 = .ok (.iload 7, 2) := by decide +kernel
theorem dL_same_85 : decode cL_same 85 = .ok (.iconst 1, 1) := by decide +kernel
theorem dL_same_86 : decode cL_same 86 = .ok (.if_icmp .ne 7, 3) := by decide +kernel
theorem dL_same_89 : decode cL_same 89 = .ok (.iconst 1, 1) := by decide +kernel
theorem dL_same_90 : decode cL_same 90 = .ok (.goto 4, 3) := by decide +kernel
theorem dL_same_93 : decode cL_same 93 = .ok (.iconst 0, 1) := by decide +kernel
theorem dL_same_94 : decode cL_same 94 = .ok (.ireturn, 1) := by decide +kernel
theorem dL_told_0 : decode cL_told 0 = .ok (.iconst 0, 1) := by decide +kernel
theorem dL_told_1 : decode cL_told 1 = .ok (.istore 5, 2) := by decide +kernel
theorem dL_told_3 : decode cL_told 3 = .ok (.iconst 0, 1) := by decide +kernel
theorem dL_told_4 : decode cL_told 4 = .ok (.istore 6, 2) := by decide +kernel
theorem dL_told_6 : decode cL_told 6 = .ok (.lconst 0, 1) := by decide +kernel
theorem dL_told_7 : decode cL_told 7 = .ok (.lstore 7, 2) := by decide +kernel
theorem dL_told_9 : decode cL_told 9 = .ok (.lconst 0, 1) := by decide +kernel
theorem dL_told_10 : decode cL_told 10 = .ok (.lstore 9, 2) := by decide +kernel
theorem dL_told_12 : decode cL_told 12 = .ok (.iconst 0, 1) := by decide +kernel
theorem dL_told_13 : decode cL_told 13 = .ok (.istore 11, 2) := by decide +kernel
theorem dL_told_15 : decode cL_told 15 = .ok (.iconst (-1), 1) := by decide +kernel
theorem dL_told_16 : decode cL_told 16 = .ok (.istore 12, 2) := by decide +kernel
theorem dL_told_18 : decode cL_told 18 = .ok (.iconst 1, 1) := by decide +kernel
theorem dL_told_19 : decode cL_told 19 = .ok (.istore 13, 2) := by decide +kernel
theorem dL_told_21 : decode cL_told 21 = .ok (.iload 13, 2) := by decide +kernel
theorem dL_told_23 : decode cL_told 23 = .ok (.bipush 16, 2) := by decide +kernel
theorem dL_told_25 : decode cL_told 25 = .ok (.if_icmp .ge 206, 3) := by decide +kernel
theorem dL_told_28 : decode cL_told 28 = .ok (.iload 13, 2) := by decide +kernel
theorem dL_told_30 : decode cL_told 30 = .ok (.iconst 0, 1) := by decide +kernel
theorem dL_told_31 : decode cL_told 31 = .ok (.aload_n 1, 1) := by decide +kernel
theorem dL_told_32 : decode cL_told 32 = .ok (.aload_n 2, 1) := by decide +kernel
theorem dL_told_33 : decode cL_told 33 = .ok (.aload_n 3, 1) := by decide +kernel
theorem dL_told_34 : decode cL_told 34 = .ok (.aload 4, 2) := by decide +kernel
theorem dL_told_36 : decode cL_told 36 = .ok (.invokestatic 27, 3) := by decide +kernel
theorem dL_told_39 : decode cL_told 39 = .ok (.pop, 1) := by decide +kernel
theorem dL_told_40 : decode cL_told 40 = .ok (.aload_n 0, 1) := by decide +kernel
theorem dL_told_41 : decode cL_told 41 = .ok (.iload 13, 2) := by decide +kernel
theorem dL_told_43 : decode cL_told 43 = .ok (.iconst 0, 1) := by decide +kernel
theorem dL_told_44 : decode cL_told 44 = .ok (.invokevirtual 31, 3) := by decide +kernel
theorem dL_told_47 : decode cL_told 47 = .ok (.i2l, 1) := by decide +kernel
theorem dL_told_48 : decode cL_told 48 = .ok (.aload 4, 2) := by decide +kernel
theorem dL_told_50 : decode cL_told 50 = .ok (.iconst 0, 1) := by decide +kernel
theorem dL_told_51 : decode cL_told 51 = .ok (.laload, 1) := by decide +kernel
theorem dL_told_52 : decode cL_told 52 = .ok (.lcmp, 1) := by decide +kernel
theorem dL_told_53 : decode cL_told 53 = .ok (.ifCond .ne 64, 3) := by decide +kernel
theorem dL_told_56 : decode cL_told 56 = .ok (.aload_n 0, 1) := by decide +kernel
theorem dL_told_57 : decode cL_told 57 = .ok (.iload 13, 2) := by decide +kernel
theorem dL_told_59 : decode cL_told 59 = .ok (.iconst 4, 1) := by decide +kernel
theorem dL_told_60 : decode cL_told 60 = .ok (.invokevirtual 31, 3) := by decide +kernel
theorem dL_told_63 : decode cL_told 63 = .ok (.i2l, 1) := by decide +kernel
theorem dL_told_64 : decode cL_told 64 = .ok (.aload 4, 2) := by decide +kernel
theorem dL_told_66 : decode cL_told 66 = .ok (.iconst 1, 1) := by decide +kernel
theorem dL_told_67 : decode cL_told 67 = .ok (.laload, 1) := by decide +kernel
theorem dL_told_68 : decode cL_told 68 = .ok (.lcmp, 1) := by decide +kernel
theorem dL_told_69 : decode cL_told 69 = .ok (.ifCond .ne 48, 3) := by decide +kernel
theorem dL_told_72 : decode cL_told 72 = .ok (.aload 4, 2) := by decide +kernel
theorem dL_told_74 : decode cL_told 74 = .ok (.iconst 2, 1) := by decide +kernel
theorem dL_told_75 : decode cL_told 75 = .ok (.laload, 1) := by decide +kernel
theorem dL_told_76 : decode cL_told 76 = .ok (.aload 4, 2) := by decide +kernel
theorem dL_told_78 : decode cL_told 78 = .ok (.iconst 3, 1) := by decide +kernel
theorem dL_told_79 : decode cL_told 79 = .ok (.laload, 1) := by decide +kernel
theorem dL_told_80 : decode cL_told 80 = .ok (.aload_n 0, 1) := by decide +kernel
theorem dL_told_81 : decode cL_told 81 = .ok (.iload 13, 2) := by decide +kernel
theorem dL_told_83 : decode cL_told 83 = .ok (.iconst 2, 1) := by decide +kernel
theorem dL_told_84 : decode cL_told 84 = .ok (.invokevirtual 31, 3) := by decide +kernel
theorem dL_told_87 : decode cL_told 87 = .ok (.aload_n 0, 1) := by decide +kernel
theorem dL_told_88 : decode cL_told 88 = .ok (.iload 13, 2) := by decide +kernel
theorem dL_told_90 : decode cL_told 90 = .ok (.iconst 3, 1) := by decide +kernel
theorem dL_told_91 : decode cL_told 91 = .ok (.invokevirtual 31, 3) := by decide +kernel
theorem dL_told_94 : decode cL_told 94 = .ok (.aload_n 1, 1) := by decide +kernel
theorem dL_told_95 : decode cL_told 95 = .ok (.invokestatic 37, 3) := by decide +kernel
theorem dL_told_98 : decode cL_told 98 = .ok (.ifCond .eq 19, 3) := by decide +kernel
theorem dL_told_101 : decode cL_told 101 = .ok (.aload_n 0, 1) := by decide +kernel
theorem dL_told_102 : decode cL_told 102 = .ok (.iload 13, 2) := by decide +kernel
theorem dL_told_104 : decode cL_told 104 = .ok (.iconst 5, 1) := by decide +kernel
theorem dL_told_105 : decode cL_told 105 = .ok (.invokevirtual 31, 3) := by decide +kernel
theorem dL_told_108 : decode cL_told 108 = .ok (.aload_n 1, 1) := by decide +kernel
theorem dL_told_109 : decode cL_told 109 = .ok (.iconst 3, 1) := by decide +kernel
theorem dL_told_110 : decode cL_told 110 = .ok (.iload 13, 2) := by decide +kernel
theorem dL_told_112 : decode cL_told 112 = .ok (.iadd, 1) := by decide +kernel
theorem dL_told_113 : decode cL_told 113 = .ok (.iaload, 1) := by decide +kernel
theorem dL_told_114 : decode cL_told 114 = .ok (.if_icmp .eq 5, 3) := by decide +kernel
theorem dL_told_117 : decode cL_told 117 = .ok (.iconst 0, 1) := by decide +kernel
theorem dL_told_118 : decode cL_told 118 = .ok (.ireturn, 1) := by decide +kernel
theorem dL_told_119 : decode cL_told 119 = .ok (.iload 6, 2) := by decide +kernel
theorem dL_told_121 : decode cL_told 121 = .ok (.aload_n 1, 1) := by decide +kernel
theorem dL_told_122 : decode cL_told 122 = .ok (.iconst 3, 1) := by decide +kernel
theorem dL_told_123 : decode cL_told 123 = .ok (.iload 13, 2) := by decide +kernel
theorem dL_told_125 : decode cL_told 125 = .ok (.iadd, 1) := by decide +kernel
theorem dL_told_126 : decode cL_told 126 = .ok (.iaload, 1) := by decide +kernel
theorem dL_told_127 : decode cL_told 127 = .ok (.iadd, 1) := by decide +kernel
theorem dL_told_128 : decode cL_told 128 = .ok (.istore 6, 2) := by decide +kernel
theorem dL_told_130 : decode cL_told 130 = .ok (.aload 4, 2) := by decide +kernel
theorem dL_told_132 : decode cL_told 132 = .ok (.iconst 1, 1) := by decide +kernel
theorem dL_told_133 : decode cL_told 133 = .ok (.laload, 1) := by decide +kernel
theorem dL_told_134 : decode cL_told 134 = .ok (.lconst 0, 1) := by decide +kernel
theorem dL_told_135 : decode cL_told 135 = .ok (.lcmp, 1) := by decide +kernel
theorem dL_told_136 : decode cL_told 136 = .ok (.ifCond .ge 6, 3) := by decide +kernel
theorem dL_told_139 : decode cL_told 139 = .ok (.goto 86, 3) := by decide +kernel
theorem dL_told_142 : decode cL_told 142 = .ok (.iload 12, 2) := by decide +kernel
theorem dL_told_144 : decode cL_told 144 = .ok (.ifCond .ge 9, 3) := by decide +kernel
theorem dL_told_147 : decode cL_told 147 = .ok (.ldc2_w 18, 3) := by decide +kernel
theorem dL_told_150 : decode cL_told 150 = .ok (.goto 18, 3) := by decide +kernel
theorem dL_told_153 : decode cL_told 153 = .ok (.aload 4, 2) := by decide +kernel
theorem dL_told_155 : decode cL_told 155 = .ok (.iconst 2, 1) := by decide +kernel
theorem dL_told_156 : decode cL_told 156 = .ok (.laload, 1) := by decide +kernel
theorem dL_told_157 : decode cL_told 157 = .ok (.lload 9, 2) := by decide +kernel
theorem dL_told_159 : decode cL_told 159 = .ok (.lmul, 1) := by decide +kernel
theorem dL_told_160 : decode cL_told 160 = .ok (.lload 7, 2) := by decide +kernel
theorem dL_told_162 : decode cL_told 162 = .ok (.aload 4, 2) := by decide +kernel
theorem dL_told_164 : decode cL_told 164 = .ok (.iconst 3, 1) := by decide +kernel
theorem dL_told_165 : decode cL_told 165 = .ok (.laload, 1) := by decide +kernel
theorem dL_told_166 : decode cL_told 166 = .ok (.lmul, 1) := by decide +kernel
theorem dL_told_167 : decode cL_told 167 = .ok (.lsub, 1) := by decide +kernel
theorem dL_told_168 : decode cL_told 168 = .ok (.lstore 14, 2) := by decide +kernel
theorem dL_told_170 : decode cL_told 170 = .ok (.lload 14, 2) := by decide +kernel
theorem dL_told_172 : decode cL_told 172 = .ok (.lconst 0, 1) := by decide +kernel
theorem dL_told_173 : decode cL_told 173 = .ok (.lcmp, 1) := by decide +kernel
theorem dL_told_174 : decode cL_told 174 = .ok (.ifCond .ge 7, 3) := by decide +kernel
theorem dL_told_177 : decode cL_told 177 = .ok (.iconst 1, 1) := by decide +kernel
theorem dL_told_178 : decode cL_told 178 = .ok (.goto 19, 3) := by decide +kernel
theorem dL_told_181 : decode cL_told 181 = .ok (.lload 14, 2) := by decide +kernel
theorem dL_told_183 : decode cL_told 183 = .ok (.lconst 0, 1) := by decide +kernel
theorem dL_told_184 : decode cL_told 184 = .ok (.lcmp, 1) := by decide +kernel
theorem dL_told_185 : decode cL_told 185 = .ok (.ifCond .ne 10, 3) := by decide +kernel
theorem dL_told_188 : decode cL_told 188 = .ok (.iload 11, 2) := by decide +kernel
theorem dL_told_190 : decode cL_told 190 = .ok (.iconst 1, 1) := by decide +kernel
theorem dL_told_191 : decode cL_told 191 = .ok (.iadd, 1) := by decide +kernel
theorem dL_told_192 : decode cL_told 192 = .ok (.goto 5, 3) := by decide +kernel
theorem dL_told_195 : decode cL_told 195 = .ok (.iload 11, 2) := by decide +kernel
theorem dL_told_197 : decode cL_told 197 = .ok (.istore 11, 2) := by decide +kernel
theorem dL_told_199 : decode cL_told 199 = .ok (.lload 14, 2) := by decide +kernel
theorem dL_told_201 : decode cL_told 201 = .ok (.lconst 0, 1) := by decide +kernel
theorem dL_told_202 : decode cL_told 202 = .ok (.lcmp, 1) := by decide +kernel
theorem dL_told_203 : decode cL_told 203 = .ok (.ifCond .lt 6, 3) := by decide +kernel
theorem dL_told_206 : decode cL_told 206 = .ok (.goto 19, 3) := by decide +kernel
theorem dL_told_209 : decode cL_told 209 = .ok (.iload 13, 2) := by decide +kernel
theorem dL_told_211 : decode cL_told 211 = .ok (.istore 12, 2) := by decide +kernel
theorem dL_told_213 : decode cL_told 213 = .ok (.aload 4, 2) := by decide +kernel
theorem dL_told_215 : decode cL_told 215 = .ok (.iconst 2, 1) := by decide +kernel
theorem dL_told_216 : decode cL_told 216 = .ok (.laload, 1) := by decide +kernel
theorem dL_told_217 : decode cL_told 217 = .ok (.lstore 7, 2) := by decide +kernel
theorem dL_told_219 : decode cL_told 219 = .ok (.aload 4, 2) := by decide +kernel
theorem dL_told_221 : decode cL_told 221 = .ok (.iconst 3, 1) := by decide +kernel
theorem dL_told_222 : decode cL_told 222 = .ok (.laload, 1) := by decide +kernel
theorem dL_told_223 : decode cL_told 223 = .ok (.lstore 9, 2) := by decide +kernel
theorem dL_told_225 : decode cL_told 225 = .ok (.iinc 13 1, 3) := by decide +kernel
theorem dL_told_228 : decode cL_told 228 = .ok (.goto (-207), 3) := by decide +kernel
theorem dL_told_231 : decode cL_told 231 = .ok (.lload 7, 2) := by decide +kernel
theorem dL_told_233 : decode cL_told 233 = .ok (.lload 9, 2) := by decide +kernel
theorem dL_told_235 : decode cL_told 235 = .ok (.aload_n 0, 1) := by decide +kernel
theorem dL_told_236 : decode cL_told 236 = .ok (.iconst 0, 1) := by decide +kernel
theorem dL_told_237 : decode cL_told 237 = .ok (.invokevirtual 41, 3) := by decide +kernel
theorem dL_told_240 : decode cL_told 240 = .ok (.aload_n 0, 1) := by decide +kernel
theorem dL_told_241 : decode cL_told 241 = .ok (.iconst 1, 1) := by decide +kernel
theorem dL_told_242 : decode cL_told 242 = .ok (.invokevirtual 41, 3) := by decide +kernel
theorem dL_told_245 : decode cL_told 245 = .ok (.aload_n 1, 1) := by decide +kernel
theorem dL_told_246 : decode cL_told 246 = .ok (.invokestatic 37, 3) := by decide +kernel
theorem dL_told_249 : decode cL_told 249 = .ok (.ifCond .eq 23, 3) := by decide +kernel
theorem dL_told_252 : decode cL_told 252 = .ok (.aload_n 0, 1) := by decide +kernel
theorem dL_told_253 : decode cL_told 253 = .ok (.iconst 2, 1) := by decide +kernel
theorem dL_told_254 : decode cL_told 254 = .ok (.invokevirtual 41, 3) := by decide +kernel
theorem dL_told_257 : decode cL_told 257 = .ok (.iload 11, 2) := by decide +kernel
theorem dL_told_259 : decode cL_told 259 = .ok (.if_icmp .ne 13, 3) := by decide +kernel
theorem dL_told_262 : decode cL_told 262 = .ok (.aload_n 0, 1) := by decide +kernel
theorem dL_told_263 : decode cL_told 263 = .ok (.iconst 3, 1) := by decide +kernel
theorem dL_told_264 : decode cL_told 264 = .ok (.invokevirtual 41, 3) := by decide +kernel
theorem dL_told_267 : decode cL_told 267 = .ok (.iload 12, 2) := by decide +kernel
theorem dL_told_269 : decode cL_told 269 = .ok (.if_icmp .eq 5, 3) := by decide +kernel
theorem dL_told_272 : decode cL_told 272 = .ok (.iconst 0, 1) := by decide +kernel
theorem dL_told_273 : decode cL_told 273 = .ok (.ireturn, 1) := by decide +kernel
theorem dL_told_274 : decode cL_told 274 = .ok (.iconst 1, 1) := by decide +kernel
theorem dL_told_275 : decode cL_told 275 = .ok (.iconst 0, 1) := by decide +kernel
theorem dL_told_276 : decode cL_told 276 = .ok (.aload_n 1, 1) := by decide +kernel
theorem dL_told_277 : decode cL_told 277 = .ok (.aload_n 2, 1) := by decide +kernel
theorem dL_told_278 : decode cL_told 278 = .ok (.aload_n 3, 1) := by decide +kernel
theorem dL_told_279 : decode cL_told 279 = .ok (.aload 4, 2) := by decide +kernel
theorem dL_told_281 : decode cL_told 281 = .ok (.invokestatic 27, 3) := by decide +kernel
theorem dL_told_284 : decode cL_told 284 = .ok (.pop, 1) := by decide +kernel
theorem dL_told_285 : decode cL_told 285 = .ok (.iconst 0, 1) := by decide +kernel
theorem dL_told_286 : decode cL_told 286 = .ok (.istore 13, 2) := by decide +kernel
theorem dL_told_288 : decode cL_told 288 = .ok (.iconst 0, 1) := by decide +kernel
theorem dL_told_289 : decode cL_told 289 = .ok (.istore 14, 2) := by decide +kernel
theorem dL_told_291 : decode cL_told 291 = .ok (.iload 14, 2) := by decide +kernel
theorem dL_told_293 : decode cL_told 293 = .ok (.bipush 16, 2) := by decide +kernel
theorem dL_told_295 : decode cL_told 295 = .ok (.if_icmp .ge 225, 3) := by decide +kernel
theorem dL_told_298 : decode cL_told 298 = .ok (.aload_n 2, 1) := by decide +kernel
theorem dL_told_299 : decode cL_told 299 = .ok (.iconst 4, 1) := by decide +kernel
theorem dL_told_300 : decode cL_told 300 = .ok (.iload 14, 2) := by decide +kernel
theorem dL_told_302 : decode cL_told 302 = .ok (.imul, 1) := by decide +kernel
theorem dL_told_303 : decode cL_told 303 = .ok (.iaload, 1) := by decide +kernel
theorem dL_told_304 : decode cL_told 304 = .ok (.ifCond .ne 6, 3) := by decide +kernel
theorem dL_told_307 : decode cL_told 307 = .ok (.goto 207, 3) := by decide +kernel
theorem dL_told_310 : decode cL_told 310 = .ok (.iinc 5 1, 3) := by decide +kernel
theorem dL_told_313 : decode cL_told 313 = .ok (.iconst 0, 1) := by decide +kernel
theorem dL_told_314 : decode cL_told 314 = .ok (.istore 15, 2) := by decide +kernel
theorem dL_told_316 : decode cL_told 316 = .ok (.iconst 0, 1) := by decide +kernel
theorem dL_told_317 : decode cL_told 317 = .ok (.istore 16, 2) := by decide +kernel
theorem dL_told_319 : decode cL_told 319 = .ok (.iload 16, 2) := by decide +kernel
theorem dL_told_321 : decode cL_told 321 = .ok (.bipush 16, 2) := by decide +kernel
theorem dL_told_323 : decode cL_told 323 = .ok (.if_icmp .ge 48, 3) := by decide +kernel
theorem dL_told_326 : decode cL_told 326 = .ok (.iload 15, 2) := by decide +kernel
theorem dL_told_328 : decode cL_told 328 = .ok (.iload 16, 2) := by decide +kernel
theorem dL_told_330 : decode cL_told 330 = .ok (.iload 14, 2) := by decide +kernel
theorem dL_told_332 : decode cL_told 332 = .ok (.if_icmp .eq 29, 3) := by decide +kernel
theorem dL_told_335 : decode cL_told 335 = .ok (.aload_n 2, 1) := by decide +kernel
theorem dL_told_336 : decode cL_told 336 = .ok (.iconst 4, 1) := by decide +kernel
theorem dL_told_337 : decode cL_told 337 = .ok (.iload 16, 2) := by decide +kernel
theorem dL_told_339 : decode cL_told 339 = .ok (.imul, 1) := by decide +kernel
theorem dL_told_340 : decode cL_told 340 = .ok (.iaload, 1) := by decide +kernel
theorem dL_told_341 : decode cL_told 341 = .ok (.iconst 1, 1) := by decide +kernel
theorem dL_told_342 : decode cL_told 342 = .ok (.if_icmp .ne 19, 3) := by decide +kernel
theorem dL_told_345 : decode cL_told 345 = .ok (.iload 16, 2) := by decide +kernel
theorem dL_told_347 : decode cL_told 347 = .ok (.iload 14, 2) := by decide +kernel
theorem dL_told_349 : decode cL_told 349 = .ok (.aload_n 1, 1) := by decide +kernel
theorem dL_told_350 : decode cL_told 350 = .ok (.aload_n 2, 1) := by decide +kernel
theorem dL_told_351 : decode cL_told 351 = .ok (.invokestatic 8, 3) := by decide +kernel
theorem dL_told_354 : decode cL_told 354 = .ok (.ifCond .eq 7, 3) := by decide +kernel
theorem dL_told_357 : decode cL_told 357 = .ok (.iconst 1, 1) := by decide +kernel
theorem dL_told_358 : decode cL_told 358 = .ok (.goto 4, 3) := by decide +kernel
theorem dL_told_361 : decode cL_told 361 = .ok (.iconst 0, 1) := by decide +kernel
theorem dL_told_362 : decode cL_told 362 = .ok (.iadd, 1) := by decide +kernel
theorem dL_told_363 : decode cL_told 363 = .ok (.istore 15, 2) := by decide +kernel
theorem dL_told_365 : decode cL_told 365 = .ok (.iinc 16 1, 3) := by decide +kernel
theorem dL_told_368 : decode cL_told 368 = .ok (.goto (-49), 3) := by decide +kernel
theorem dL_told_371 : decode cL_told 371 = .ok (.iload 14, 2) := by decide +kernel
theorem dL_told_373 : decode cL_told 373 = .ok (.iconst 0, 1) := by decide +kernel
theorem dL_told_374 : decode cL_told 374 = .ok (.bipush 16, 2) := by decide +kernel
theorem dL_told_376 : decode cL_told 376 = .ok (.aload_n 1, 1) := by decide +kernel
theorem dL_told_377 : decode cL_told 377 = .ok (.aload_n 2, 1) := by decide +kernel
theorem dL_told_378 : decode cL_told 378 = .ok (.aload_n 3, 1) := by decide +kernel
theorem dL_told_379 : decode cL_told 379 = .ok (.aload 4, 2) := by decide +kernel
theorem dL_told_381 : decode cL_told 381 = .ok (.invokestatic 23, 3) := by decide +kernel
theorem dL_told_384 : decode cL_told 384 = .ok (.istore 16, 2) := by decide +kernel
theorem dL_told_386 : decode cL_told 386 = .ok (.iload 13, 2) := by decide +kernel
theorem dL_told_388 : decode cL_told 388 = .ok (.iload 16, 2) := by decide +kernel
theorem dL_told_390 : decode cL_told 390 = .ok (.ifCond .eq 7, 3) := by decide +kernel
theorem dL_told_393 : decode cL_told 393 = .ok (.iconst 1, 1) := by decide +kernel
theorem dL_told_394 : decode cL_told 394 = .ok (.goto 4, 3) := by decide +kernel
theorem dL_told_397 : decode cL_told 397 = .ok (.iconst 0, 1) := by decide +kernel
theorem dL_told_398 : decode cL_told 398 = .ok (.iadd, 1) := by decide +kernel
theorem dL_told_399 : decode cL_told 399 = .ok (.istore 13, 2) := by decide +kernel
theorem dL_told_401 : decode cL_told 401 = .ok (.aload_n 0, 1) := by decide +kernel
theorem dL_told_402 : decode cL_told 402 = .ok (.iload 14, 2) := by decide +kernel
theorem dL_told_404 : decode cL_told 404 = .ok (.iconst 0, 1) := by decide +kernel
theorem dL_told_405 : decode cL_told 405 = .ok (.invokevirtual 44, 3) := by decide +kernel
theorem dL_told_408 : decode cL_told 408 = .ok (.aload_n 2, 1) := by decide +kernel
theorem dL_told_409 : decode cL_told 409 = .ok (.iconst 4, 1) := by decide +kernel
theorem dL_told_410 : decode cL_told 410 = .ok (.iload 14, 2) := by decide +kernel
theorem dL_told_412 : decode cL_told 412 = .ok (.imul, 1) := by decide +kernel
theorem dL_told_413 : decode cL_told 413 = .ok (.iconst 1, 1) := by decide +kernel
theorem dL_told_414 : decode cL_told 414 = .ok (.iadd, 1) := by decide +kernel
theorem dL_told_415 : decode cL_told 415 = .ok (.iaload, 1) := by decide +kernel
theorem dL_told_416 : decode cL_told 416 = .ok (.if_icmp .ne 96, 3) := by decide +kernel
theorem dL_told_419 : decode cL_told 419 = .ok (.aload_n 0, 1) := by decide +kernel
theorem dL_told_420 : decode cL_told 420 = .ok (.iload 14, 2) := by decide +kernel
theorem dL_told_422 : decode cL_told 422 = .ok (.iconst 1, 1) := by decide +kernel
theorem dL_told_423 : decode cL_told 423 = .ok (.invokevirtual 44, 3) := by decide +kernel
theorem dL_told_426 : decode cL_told 426 = .ok (.aload_n 2, 1) := by decide +kernel
theorem dL_told_427 : decode cL_told 427 = .ok (.iconst 4, 1) := by decide +kernel
theorem dL_told_428 : decode cL_told 428 = .ok (.iload 14, 2) := by decide +kernel
theorem dL_told_430 : decode cL_told 430 = .ok (.imul, 1) := by decide +kernel
theorem dL_told_431 : decode cL_told 431 = .ok (.iconst 2, 1) := by decide +kernel
theorem dL_told_432 : decode cL_told 432 = .ok (.iadd, 1) := by decide +kernel
theorem dL_told_433 : decode cL_told 433 = .ok (.iaload, 1) := by decide +kernel
theorem dL_told_434 : decode cL_told 434 = .ok (.if_icmp .ne 78, 3) := by decide +kernel
theorem dL_told_437 : decode cL_told 437 = .ok (.aload_n 0, 1) := by decide +kernel
theorem dL_told_438 : decode cL_told 438 = .ok (.iload 14, 2) := by decide +kernel
theorem dL_told_440 : decode cL_told 440 = .ok (.iconst 2, 1) := by decide +kernel
theorem dL_told_441 : decode cL_told 441 = .ok (.invokevirtual 44, 3) := by decide +kernel
theorem dL_told_444 : decode cL_told 444 = .ok (.iload 15, 2) := by decide +kernel
theorem dL_told_446 : decode cL_told 446 = .ok (.if_icmp .ne 66, 3) := by decide +kernel
theorem dL_told_449 : decode cL_told 449 = .ok (.aload_n 0, 1) := by decide +kernel
theorem dL_told_450 : decode cL_told 450 = .ok (.iload 14, 2) := by decide +kernel
theorem dL_told_452 : decode cL_told 452 = .ok (.bipush 6, 2) := by decide +kernel
theorem dL_told_454 : decode cL_told 454 = .ok (.invokevirtual 44, 3) := by decide +kernel
theorem dL_told_457 : decode cL_told 457 = .ok (.aload_n 2, 1) := by decide +kernel
theorem dL_told_458 : decode cL_told 458 = .ok (.iconst 4, 1) := by decide +kernel
theorem dL_told_459 : decode cL_told 459 = .ok (.iload 14, 2) := by decide +kernel
theorem dL_told_461 : decode cL_told 461 = .ok (.imul, 1) := by decide +kernel
theorem dL_told_462 : decode cL_told 462 = .ok (.iconst 3, 1) := by decide +kernel
theorem dL_told_463 : decode cL_told 463 = .ok (.iadd, 1) := by decide +kernel
theorem dL_told_464 : decode cL_told 464 = .ok (.iaload, 1) := by decide +kernel
theorem dL_told_465 : decode cL_told 465 = .ok (.if_icmp .ne 47, 3) := by decide +kernel
theorem dL_told_468 : decode cL_told 468 = .ok (.aload_n 3, 1) := by decide +kernel
theorem dL_told_469 : decode cL_told 469 = .ok (.iconst 4, 1) := by decide +kernel
theorem dL_told_470 : decode cL_told 470 = .ok (.iload 14, 2) := by decide +kernel
theorem dL_told_472 : decode cL_told 472 = .ok (.imul, 1) := by decide +kernel
theorem dL_told_473 : decode cL_told 473 = .ok (.laload, 1) := by decide +kernel
theorem dL_told_474 : decode cL_told 474 = .ok (.iload 16, 2) := by decide +kernel
theorem dL_told_476 : decode cL_told 476 = .ok (.ifCond .eq 14, 3) := by decide +kernel
theorem dL_told_479 : decode cL_told 479 = .ok (.aload_n 3, 1) := by decide +kernel
theorem dL_told_480 : decode cL_told 480 = .ok (.iconst 4, 1) := by decide +kernel
theorem dL_told_481 : decode cL_told 481 = .ok (.iload 14, 2) := by decide +kernel
theorem dL_told_483 : decode cL_told 483 = .ok (.imul, 1) := by decide +kernel
theorem dL_told_484 : decode cL_told 484 = .ok (.iconst 1, 1) := by decide +kernel
theorem dL_told_485 : decode cL_told 485 = .ok (.iadd, 1) := by decide +kernel
theorem dL_told_486 : decode cL_told 486 = .ok (.laload, 1) := by decide +kernel
theorem dL_told_487 : decode cL_told 487 = .ok (.goto 4, 3) := by decide +kernel
theorem dL_told_490 : decode cL_told 490 = .ok (.lconst 0, 1) := by decide +kernel
theorem dL_told_491 : decode cL_told 491 = .ok (.aload_n 0, 1) := by decide +kernel
theorem dL_told_492 : decode cL_told 492 = .ok (.iload 14, 2) := by decide +kernel
theorem dL_told_494 : decode cL_told 494 = .ok (.iconst 4, 1) := by decide +kernel
theorem dL_told_495 : decode cL_told 495 = .ok (.invokevirtual 44, 3) := by decide +kernel
theorem dL_told_498 : decode cL_told 498 = .ok (.aload_n 0, 1) := by decide +kernel
theorem dL_told_499 : decode cL_told 499 = .ok (.iload 14, 2) := by decide +kernel
theorem dL_told_501 : decode cL_told 501 = .ok (.iconst 5, 1) := by decide +kernel
theorem dL_told_502 : decode cL_told 502 = .ok (.invokevirtual 44, 3) := by decide +kernel
theorem dL_told_505 : decode cL_told 505 = .ok (.aload_n 1, 1) := by decide +kernel
theorem dL_told_506 : decode cL_told 506 = .ok (.invokestatic 37, 3) := by decide +kernel
theorem dL_told_509 : decode cL_told 509 = .ok (.ifCond .ne 5, 3) := by decide +kernel
theorem dL_told_512 : decode cL_told 512 = .ok (.iconst 0, 1) := by decide +kernel
theorem dL_told_513 : decode cL_told 513 = .ok (.ireturn, 1) := by decide +kernel
theorem dL_told_514 : decode cL_told 514 = .ok (.iinc 14 1, 3) := by decide +kernel
theorem dL_told_517 : decode cL_told 517 = .ok (.goto (-226), 3) := by decide +kernel
theorem dL_told_520 : decode cL_told 520 = .ok (.aload_n 0, 1) := by decide +kernel
theorem dL_told_521 : decode cL_told 521 = .ok (.iconst 0, 1) := by decide +kernel
theorem dL_told_522 : decode cL_told 522 = .ok (.invokevirtual 47, 3) := by decide +kernel
theorem dL_told_525 : decode cL_told 525 = .ok (.aload_n 1, 1) := by decide +kernel
theorem dL_told_526 : decode cL_told 526 = .ok (.iconst 0, 1) := by decide +kernel
theorem dL_told_527 : decode cL_told 527 = .ok (.iaload, 1) := by decide +kernel
theorem dL_told_528 : decode cL_told 528 = .ok (.if_icmp .ne 93, 3) := by decide +kernel
theorem dL_told_531 : decode cL_told 531 = .ok (.aload_n 0, 1) := by decide +kernel
theorem dL_told_532 : decode cL_told 532 = .ok (.iconst 1, 1) := by decide +kernel
theorem dL_told_533 : decode cL_told 533 = .ok (.invokevirtual 47, 3) := by decide +kernel
theorem dL_told_536 : decode cL_told 536 = .ok (.iload 5, 2) := by decide +kernel
theorem dL_told_538 : decode cL_told 538 = .ok (.if_icmp .ne 83, 3) := by decide +kernel
theorem dL_told_541 : decode cL_told 541 = .ok (.aload_n 0, 1) := by decide +kernel
theorem dL_told_542 : decode cL_told 542 = .ok (.iconst 2, 1) := by decide +kernel
theorem dL_told_543 : decode cL_told 543 = .ok (.invokevirtual 47, 3) := by decide +kernel
theorem dL_told_546 : decode cL_told 546 = .ok (.iload 13, 2) := by decide +kernel
theorem dL_told_548 : decode cL_told 548 = .ok (.if_icmp .ne 73, 3) := by decide +kernel
theorem dL_told_551 : decode cL_told 551 = .ok (.aload_n 0, 1) := by decide +kernel
theorem dL_told_552 : decode cL_told 552 = .ok (.iconst 3, 1) := by decide +kernel
theorem dL_told_553 : decode cL_told 553 = .ok (.invokevirtual 47, 3) := by decide +kernel
theorem dL_told_556 : decode cL_told 556 = .ok (.iload 6, 2) := by decide +kernel
theorem dL_told_558 : decode cL_told 558 = .ok (.if_icmp .ne 63, 3) := by decide +kernel
theorem dL_told_561 : decode cL_told 561 = .ok (.aload_n 0, 1) := by decide +kernel
theorem dL_told_562 : decode cL_told 562 = .ok (.iconst 4, 1) := by decide +kernel
theorem dL_told_563 : decode cL_told 563 = .ok (.invokevirtual 47, 3) := by decide +kernel
theorem dL_told_566 : decode cL_told 566 = .ok (.aload_n 1, 1) := by decide +kernel
theorem dL_told_567 : decode cL_told 567 = .ok (.iconst 4, 1) := by decide +kernel
theorem dL_told_568 : decode cL_told 568 = .ok (.iaload, 1) := by decide +kernel
theorem dL_told_569 : decode cL_told 569 = .ok (.if_icmp .ne 52, 3) := by decide +kernel
theorem dL_told_572 : decode cL_told 572 = .ok (.aload_n 0, 1) := by decide +kernel
theorem dL_told_573 : decode cL_told 573 = .ok (.iconst 5, 1) := by decide +kernel
theorem dL_told_574 : decode cL_told 574 = .ok (.invokevirtual 47, 3) := by decide +kernel
theorem dL_told_577 : decode cL_told 577 = .ok (.iload 5, 2) := by decide +kernel
theorem dL_told_579 : decode cL_told 579 = .ok (.iload 13, 2) := by decide +kernel
theorem dL_told_581 : decode cL_told 581 = .ok (.isub, 1) := by decide +kernel
theorem dL_told_582 : decode cL_told 582 = .ok (.if_icmp .ne 39, 3) := by decide +kernel
theorem dL_told_585 : decode cL_told 585 = .ok (.aload_n 0, 1) := by decide +kernel
theorem dL_told_586 : decode cL_told 586 = .ok (.iconst 0, 1) := by decide +kernel
theorem dL_told_587 : decode cL_told 587 = .ok (.invokevirtual 50, 3) := by decide +kernel
theorem dL_told_590 : decode cL_told 590 = .ok (.aload_n 1, 1) := by decide +kernel
theorem dL_told_591 : decode cL_told 591 = .ok (.iconst 1, 1) := by decide +kernel
theorem dL_told_592 : decode cL_told 592 = .ok (.iaload, 1) := by decide +kernel
theorem dL_told_593 : decode cL_told 593 = .ok (.if_icmp .ne 28, 3) := by decide +kernel
theorem dL_told_596 : decode cL_told 596 = .ok (.aload_n 0, 1) := by decide +kernel
theorem dL_told_597 : decode cL_told 597 = .ok (.iconst 1, 1) := by decide +kernel
theorem dL_told_598 : decode cL_told 598 = .ok (.invokevirtual 50, 3) := by decide +kernel
theorem dL_told_601 : decode cL_told 601 = .ok (.aload_n 1, 1) := by decide +kernel
theorem dL_told_602 : decode cL_told 602 = .ok (.iconst 2, 1) := by decide +kernel
theorem dL_told_603 : decode cL_told 603 = .ok (.iaload, 1) := by decide +kernel
theorem dL_told_604 : decode cL_told 604 = .ok (.if_icmp .ne 17, 3) := by decide +kernel
theorem dL_told_607 : decode cL_told 607 = .ok (.aload_n 0, 1) := by decide +kernel
theorem dL_told_608 : decode cL_told 608 = .ok (.iload 13, 2) := by decide +kernel
theorem dL_told_610 : decode cL_told 610 = .ok (.aload_n 3, 1) := by decide +kernel
theorem dL_told_611 : decode cL_told 611 = .ok (.invokestatic 53, 3) := by decide +kernel
theorem dL_told_614 : decode cL_told 614 = .ok (.ifCond .eq 7, 3) := by decide +kernel
theorem dL_told_617 : decode cL_told 617 = .ok (.iconst 1, 1) := by decide +kernel
theorem dL_told_618 : decode cL_told 618 = .ok (.goto 4, 3) := by decide +kernel
theorem dL_told_621 : decode cL_told 621 = .ok (.iconst 0, 1) := by decide +kernel
theorem dL_told_622 : decode cL_told 622 = .ok (.ireturn, 1) := by decide +kernel
theorem dL_spans_0 : decode cL_spans 0 = .ok (.aload_n 0, 1) := by decide +kernel
theorem dL_spans_1 : decode cL_spans 1 = .ok (.iload_n 1, 1) := by decide +kernel
theorem dL_spans_2 : decode cL_spans 2 = .ok (.iconst 0, 1) := by decide +kernel
theorem dL_spans_3 : decode cL_spans 3 = .ok (.invokevirtual 57, 3) := by decide +kernel
theorem dL_spans_6 : decode cL_spans 6 = .ok (.iconst (-1), 1) := by decide +kernel
theorem dL_spans_7 : decode cL_spans 7 = .ok (.if_icmp .eq 5, 3) := by decide +kernel
theorem dL_spans_10 : decode cL_spans 10 = .ok (.iconst 0, 1) := by decide +kernel
theorem dL_spans_11 : decode cL_spans 11 = .ok (.ireturn, 1) := by decide +kernel
theorem dL_spans_12 : decode cL_spans 12 = .ok (.iconst 0, 1) := by decide +kernel
theorem dL_spans_13 : decode cL_spans 13 = .ok (.istore_n 3, 1) := by decide +kernel
theorem dL_spans_14 : decode cL_spans 14 = .ok (.iload_n 3, 1) := by decide +kernel
theorem dL_spans_15 : decode cL_spans 15 = .ok (.iload_n 1, 1) := by decide +kernel
theorem dL_spans_16 : decode cL_spans 16 = .ok (.if_icmp .ge 118, 3) := by decide +kernel
theorem dL_spans_19 : decode cL_spans 19 = .ok (.aload_n 0, 1) := by decide +kernel
theorem dL_spans_20 : decode cL_spans 20 = .ok (.iload_n 3, 1) := by decide +kernel
theorem dL_spans_21 : decode cL_spans 21 = .ok (.iconst 0, 1) := by decide +kernel
theorem dL_spans_22 : decode cL_spans 22 = .ok (.invokevirtual 57, 3) := by decide +kernel
theorem dL_spans_25 : decode cL_spans 25 = .ok (.istore 4, 2) := by decide +kernel
theorem dL_spans_27 : decode cL_spans 27 = .ok (.aload_n 0, 1) := by decide +kernel
theorem dL_spans_28 : decode cL_spans 28 = .ok (.iload_n 3, 1) := by decide +kernel
theorem dL_spans_29 : decode cL_spans 29 = .ok (.iconst 1, 1) := by decide +kernel
theorem dL_spans_30 : decode cL_spans 30 = .ok (.invokevirtual 57, 3) := by decide +kernel
theorem dL_spans_33 : decode cL_spans 33 = .ok (.aload_n 0, 1) := by decide +kernel
theorem dL_spans_34 : decode cL_spans 34 = .ok (.iload 4, 2) := by decide +kernel
theorem dL_spans_36 : decode cL_spans 36 = .ok (.iconst 4, 1) := by decide +kernel
theorem dL_spans_37 : decode cL_spans 37 = .ok (.invokevirtual 44, 3) := by decide +kernel
theorem dL_spans_40 : decode cL_spans 40 = .ok (.if_icmp .ne 34, 3) := by decide +kernel
theorem dL_spans_43 : decode cL_spans 43 = .ok (.aload_n 0, 1) := by decide +kernel
theorem dL_spans_44 : decode cL_spans 44 = .ok (.iload_n 3, 1) := by decide +kernel
theorem dL_spans_45 : decode cL_spans 45 = .ok (.iconst 2, 1) := by decide +kernel
theorem dL_spans_46 : decode cL_spans 46 = .ok (.invokevirtual 57, 3) := by decide +kernel
theorem dL_spans_49 : decode cL_spans 49 = .ok (.aload_n 0, 1) := by decide +kernel
theorem dL_spans_50 : decode cL_spans 50 = .ok (.iload 4, 2) := by decide +kernel
theorem dL_spans_52 : decode cL_spans 52 = .ok (.iconst 5, 1) := by decide +kernel
theorem dL_spans_53 : decode cL_spans 53 = .ok (.invokevirtual 44, 3) := by decide +kernel
theorem dL_spans_56 : decode cL_spans 56 = .ok (.if_icmp .ne 18, 3) := by decide +kernel
theorem dL_spans_59 : decode cL_spans 59 = .ok (.iload_n 3, 1) := by decide +kernel
theorem dL_spans_60 : decode cL_spans 60 = .ok (.ifCond .ne 16, 3) := by decide +kernel
theorem dL_spans_63 : decode cL_spans 63 = .ok (.aload_n 2, 1) := by decide +kernel
theorem dL_spans_64 : decode cL_spans 64 = .ok (.iconst 4, 1) := by decide +kernel
theorem dL_spans_65 : decode cL_spans 65 = .ok (.iload 4, 2) := by decide +kernel
theorem dL_spans_67 : decode cL_spans 67 = .ok (.imul, 1) := by decide +kernel
theorem dL_spans_68 : decode cL_spans 68 = .ok (.laload, 1) := by decide +kernel
theorem dL_spans_69 : decode cL_spans 69 = .ok (.lconst 0, 1) := by decide +kernel
theorem dL_spans_70 : decode cL_spans 70 = .ok (.lcmp, 1) := by decide +kernel
theorem dL_spans_71 : decode cL_spans 71 = .ok (.ifCond .eq 5, 3) := by decide +kernel
theorem dL_spans_74 : decode cL_spans 74 = .ok (.iconst 0, 1) := by decide +kernel
theorem dL_spans_75 : decode cL_spans 75 = .ok (.ireturn, 1) := by decide +kernel
theorem dL_spans_76 : decode cL_spans 76 = .ok (.iload_n 3, 1) := by decide +kernel
theorem dL_spans_77 : decode cL_spans 77 = .ok (.ifCond .le 51, 3) := by decide +kernel
theorem dL_spans_80 : decode cL_spans 80 = .ok (.aload_n 2, 1) := by decide +kernel
theorem dL_spans_81 : decode cL_spans 81 = .ok (.iconst 4, 1) := by decide +kernel
theorem dL_spans_82 : decode cL_spans 82 = .ok (.iload 4, 2) := by decide +kernel
theorem dL_spans_84 : decode cL_spans 84 = .ok (.imul, 1) := by decide +kernel
theorem dL_spans_85 : decode cL_spans 85 = .ok (.laload, 1) := by decide +kernel
theorem dL_spans_86 : decode cL_spans 86 = .ok (.aload_n 2, 1) := by decide +kernel
theorem dL_spans_87 : decode cL_spans 87 = .ok (.iconst 4, 1) := by decide +kernel
theorem dL_spans_88 : decode cL_spans 88 = .ok (.aload_n 0, 1) := by decide +kernel
theorem dL_spans_89 : decode cL_spans 89 = .ok (.iload_n 3, 1) := by decide +kernel
theorem dL_spans_90 : decode cL_spans 90 = .ok (.iconst 1, 1) := by decide +kernel
theorem dL_spans_91 : decode cL_spans 91 = .ok (.isub, 1) := by decide +kernel
theorem dL_spans_92 : decode cL_spans 92 = .ok (.iconst 0, 1) := by decide +kernel
theorem dL_spans_93 : decode cL_spans 93 = .ok (.invokevirtual 57, 3) := by decide +kernel
theorem dL_spans_96 : decode cL_spans 96 = .ok (.imul, 1) := by decide +kernel
theorem dL_spans_97 : decode cL_spans 97 = .ok (.iconst 1, 1) := by decide +kernel
theorem dL_spans_98 : decode cL_spans 98 = .ok (.iadd, 1) := by decide +kernel
theorem dL_spans_99 : decode cL_spans 99 = .ok (.laload, 1) := by decide +kernel
theorem dL_spans_100 : decode cL_spans 100 = .ok (.lmul, 1) := by decide +kernel
theorem dL_spans_101 : decode cL_spans 101 = .ok (.aload_n 2, 1) := by decide +kernel
theorem dL_spans_102 : decode cL_spans 102 = .ok (.iconst 4, 1) := by decide +kernel
theorem dL_spans_103 : decode cL_spans 103 = .ok (.aload_n 0, 1) := by decide +kernel
theorem dL_spans_104 : decode cL_spans 104 = .ok (.iload_n 3, 1) := by decide +kernel
theorem dL_spans_105 : decode cL_spans 105 = .ok (.iconst 1, 1) := by decide +kernel
theorem dL_spans_106 : decode cL_spans 106 = .ok (.isub, 1) := by decide +kernel
theorem dL_spans_107 : decode cL_spans 107 = .ok (.iconst 0, 1) := by decide +kernel
theorem dL_spans_108 : decode cL_spans 108 = .ok (.invokevirtual 57, 3) := by decide +kernel
theorem dL_spans_111 : decode cL_spans 111 = .ok (.imul, 1) := by decide +kernel
theorem dL_spans_112 : decode cL_spans 112 = .ok (.laload, 1) := by decide +kernel
theorem dL_spans_113 : decode cL_spans 113 = .ok (.aload_n 2, 1) := by decide +kernel
theorem dL_spans_114 : decode cL_spans 114 = .ok (.iconst 4, 1) := by decide +kernel
theorem dL_spans_115 : decode cL_spans 115 = .ok (.iload 4, 2) := by decide +kernel
theorem dL_spans_117 : decode cL_spans 117 = .ok (.imul, 1) := by decide +kernel
theorem dL_spans_118 : decode cL_spans 118 = .ok (.iconst 1, 1) := by decide +kernel
theorem dL_spans_119 : decode cL_spans 119 = .ok (.iadd, 1) := by decide +kernel
theorem dL_spans_120 : decode cL_spans 120 = .ok (.laload, 1) := by decide +kernel
theorem dL_spans_121 : decode cL_spans 121 = .ok (.lmul, 1) := by decide +kernel
theorem dL_spans_122 : decode cL_spans 122 = .ok (.lcmp, 1) := by decide +kernel
theorem dL_spans_123 : decode cL_spans 123 = .ok (.ifCond .gt 5, 3) := by decide +kernel
theorem dL_spans_126 : decode cL_spans 126 = .ok (.iconst 0, 1) := by decide +kernel
theorem dL_spans_127 : decode cL_spans 127 = .ok (.ireturn, 1) := by decide +kernel
theorem dL_spans_128 : decode cL_spans 128 = .ok (.iinc 3 1, 3) := by decide +kernel
theorem dL_spans_131 : decode cL_spans 131 = .ok (.goto (-117), 3) := by decide +kernel
theorem dL_spans_134 : decode cL_spans 134 = .ok (.iconst 1, 1) := by decide +kernel
theorem dL_spans_135 : decode cL_spans 135 = .ok (.ireturn, 1) := by decide +kernel
theorem dL_passes_0 : decode cL_passes 0 = .ok (.iconst 0, 1) := by decide +kernel
theorem dL_passes_1 : decode cL_passes 1 = .ok (.istore 6, 2) := by decide +kernel
theorem dL_passes_3 : decode cL_passes 3 = .ok (.iconst 1, 1) := by decide +kernel
theorem dL_passes_4 : decode cL_passes 4 = .ok (.istore 7, 2) := by decide +kernel
theorem dL_passes_6 : decode cL_passes 6 = .ok (.iload 7, 2) := by decide +kernel
theorem dL_passes_8 : decode cL_passes 8 = .ok (.bipush 16, 2) := by decide +kernel
theorem dL_passes_10 : decode cL_passes 10 = .ok (.if_icmp .ge 41, 3) := by decide +kernel
theorem dL_passes_13 : decode cL_passes 13 = .ok (.iload 7, 2) := by decide +kernel
theorem dL_passes_15 : decode cL_passes 15 = .ok (.iload_n 1, 1) := by decide +kernel
theorem dL_passes_16 : decode cL_passes 16 = .ok (.aload_n 2, 1) := by decide +kernel
theorem dL_passes_17 : decode cL_passes 17 = .ok (.aload_n 3, 1) := by decide +kernel
theorem dL_passes_18 : decode cL_passes 18 = .ok (.aload 4, 2) := by decide +kernel
theorem dL_passes_20 : decode cL_passes 20 = .ok (.aload 5, 2) := by decide +kernel
theorem dL_passes_22 : decode cL_passes 22 = .ok (.invokestatic 27, 3) := by decide +kernel
theorem dL_passes_25 : decode cL_passes 25 = .ok (.istore 8, 2) := by decide +kernel
theorem dL_passes_27 : decode cL_passes 27 = .ok (.aload_n 2, 1) := by decide +kernel
theorem dL_passes_28 : decode cL_passes 28 = .ok (.iconst 3, 1) := by decide +kernel
theorem dL_passes_29 : decode cL_passes 29 = .ok (.iload 7, 2) := by decide +kernel
theorem dL_passes_31 : decode cL_passes 31 = .ok (.iadd, 1) := by decide +kernel
theorem dL_passes_32 : decode cL_passes 32 = .ok (.dup2, 1) := by decide +kernel
theorem dL_passes_33 : decode cL_passes 33 = .ok (.iaload, 1) := by decide +kernel
theorem dL_passes_34 : decode cL_passes 34 = .ok (.iload 8, 2) := by decide +kernel
theorem dL_passes_36 : decode cL_passes 36 = .ok (.iadd, 1) := by decide +kernel
theorem dL_passes_37 : decode cL_passes 37 = .ok (.iastore, 1) := by decide +kernel
