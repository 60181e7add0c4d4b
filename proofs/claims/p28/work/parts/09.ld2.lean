theorem dL_passes_38 : decode cL_passes 38 = .ok (.iload 6, 2) := by decide +kernel
theorem dL_passes_40 : decode cL_passes 40 = .ok (.iload 8, 2) := by decide +kernel
theorem dL_passes_42 : decode cL_passes 42 = .ok (.iadd, 1) := by decide +kernel
theorem dL_passes_43 : decode cL_passes 43 = .ok (.istore 6, 2) := by decide +kernel
theorem dL_passes_45 : decode cL_passes 45 = .ok (.iinc 7 1, 3) := by decide +kernel
theorem dL_passes_48 : decode cL_passes 48 = .ok (.goto (-42), 3) := by decide +kernel
theorem dL_passes_51 : decode cL_passes 51 = .ok (.aload_n 0, 1) := by decide +kernel
theorem dL_passes_52 : decode cL_passes 52 = .ok (.iload_n 1, 1) := by decide +kernel
theorem dL_passes_53 : decode cL_passes 53 = .ok (.invokevirtual 60, 3) := by decide +kernel
theorem dL_passes_56 : decode cL_passes 56 = .ok (.iload 6, 2) := by decide +kernel
theorem dL_passes_58 : decode cL_passes 58 = .ok (.if_icmp .eq 5, 3) := by decide +kernel
theorem dL_passes_61 : decode cL_passes 61 = .ok (.iconst 0, 1) := by decide +kernel
theorem dL_passes_62 : decode cL_passes 62 = .ok (.ireturn, 1) := by decide +kernel
theorem dL_passes_63 : decode cL_passes 63 = .ok (.iconst 0, 1) := by decide +kernel
theorem dL_passes_64 : decode cL_passes 64 = .ok (.istore 7, 2) := by decide +kernel
theorem dL_passes_66 : decode cL_passes 66 = .ok (.iload 7, 2) := by decide +kernel
theorem dL_passes_68 : decode cL_passes 68 = .ok (.bipush 16, 2) := by decide +kernel
theorem dL_passes_70 : decode cL_passes 70 = .ok (.if_icmp .ge 30, 3) := by decide +kernel
theorem dL_passes_73 : decode cL_passes 73 = .ok (.aload_n 3, 1) := by decide +kernel
theorem dL_passes_74 : decode cL_passes 74 = .ok (.iconst 4, 1) := by decide +kernel
theorem dL_passes_75 : decode cL_passes 75 = .ok (.iload 7, 2) := by decide +kernel
theorem dL_passes_77 : decode cL_passes 77 = .ok (.imul, 1) := by decide +kernel
theorem dL_passes_78 : decode cL_passes 78 = .ok (.iconst 1, 1) := by decide +kernel
theorem dL_passes_79 : decode cL_passes 79 = .ok (.iadd, 1) := by decide +kernel
theorem dL_passes_80 : decode cL_passes 80 = .ok (.dup2, 1) := by decide +kernel
theorem dL_passes_81 : decode cL_passes 81 = .ok (.iaload, 1) := by decide +kernel
theorem dL_passes_82 : decode cL_passes 82 = .ok (.iload_n 1, 1) := by decide +kernel
theorem dL_passes_83 : decode cL_passes 83 = .ok (.aload_n 3, 1) := by decide +kernel
theorem dL_passes_84 : decode cL_passes 84 = .ok (.iconst 4, 1) := by decide +kernel
theorem dL_passes_85 : decode cL_passes 85 = .ok (.iload 7, 2) := by decide +kernel
theorem dL_passes_87 : decode cL_passes 87 = .ok (.imul, 1) := by decide +kernel
theorem dL_passes_88 : decode cL_passes 88 = .ok (.iconst 2, 1) := by decide +kernel
theorem dL_passes_89 : decode cL_passes 89 = .ok (.iadd, 1) := by decide +kernel
theorem dL_passes_90 : decode cL_passes 90 = .ok (.iaload, 1) := by decide +kernel
theorem dL_passes_91 : decode cL_passes 91 = .ok (.imul, 1) := by decide +kernel
theorem dL_passes_92 : decode cL_passes 92 = .ok (.iadd, 1) := by decide +kernel
theorem dL_passes_93 : decode cL_passes 93 = .ok (.iastore, 1) := by decide +kernel
theorem dL_passes_94 : decode cL_passes 94 = .ok (.iinc 7 1, 3) := by decide +kernel
theorem dL_passes_97 : decode cL_passes 97 = .ok (.goto (-31), 3) := by decide +kernel
theorem dL_passes_100 : decode cL_passes 100 = .ok (.aload_n 2, 1) := by decide +kernel
theorem dL_passes_101 : decode cL_passes 101 = .ok (.iconst 0, 1) := by decide +kernel
theorem dL_passes_102 : decode cL_passes 102 = .ok (.dup2, 1) := by decide +kernel
theorem dL_passes_103 : decode cL_passes 103 = .ok (.iaload, 1) := by decide +kernel
theorem dL_passes_104 : decode cL_passes 104 = .ok (.iload_n 1, 1) := by decide +kernel
theorem dL_passes_105 : decode cL_passes 105 = .ok (.iadd, 1) := by decide +kernel
theorem dL_passes_106 : decode cL_passes 106 = .ok (.iastore, 1) := by decide +kernel
theorem dL_passes_107 : decode cL_passes 107 = .ok (.aload_n 0, 1) := by decide +kernel
theorem dL_passes_108 : decode cL_passes 108 = .ok (.iload_n 1, 1) := by decide +kernel
theorem dL_passes_109 : decode cL_passes 109 = .ok (.invokevirtual 63, 3) := by decide +kernel
theorem dL_passes_112 : decode cL_passes 112 = .ok (.iload 6, 2) := by decide +kernel
theorem dL_passes_114 : decode cL_passes 114 = .ok (.if_icmp .ne 7, 3) := by decide +kernel
theorem dL_passes_117 : decode cL_passes 117 = .ok (.iconst 1, 1) := by decide +kernel
theorem dL_passes_118 : decode cL_passes 118 = .ok (.goto 4, 3) := by decide +kernel
theorem dL_passes_121 : decode cL_passes 121 = .ok (.iconst 0, 1) := by decide +kernel
theorem dL_passes_122 : decode cL_passes 122 = .ok (.ireturn, 1) := by decide +kernel
theorem dL_act_0 : decode cL_act 0 = .ok (.iload_n 2, 1) := by decide +kernel
theorem dL_act_1 : decode cL_act 1 = .ok (.bipush 16, 2) := by decide +kernel
theorem dL_act_3 : decode cL_act 3 = .ok (.invokestatic 66, 3) := by decide +kernel
theorem dL_act_6 : decode cL_act 6 = .ok (.istore 8, 2) := by decide +kernel
theorem dL_act_8 : decode cL_act 8 = .ok (.iload_n 3, 1) := by decide +kernel
theorem dL_act_9 : decode cL_act 9 = .ok (.iload_n 2, 1) := by decide +kernel
theorem dL_act_10 : decode cL_act 10 = .ok (.iconst 4, 1) := by decide +kernel
theorem dL_act_11 : decode cL_act 11 = .ok (.ishr, 1) := by decide +kernel
theorem dL_act_12 : decode cL_act 12 = .ok (.iconst 3, 1) := by decide +kernel
theorem dL_act_13 : decode cL_act 13 = .ok (.invokestatic 66, 3) := by decide +kernel
theorem dL_act_16 : decode cL_act 16 = .ok (.ifCond .ne 9, 3) := by decide +kernel
theorem dL_act_19 : decode cL_act 19 = .ok (.sipush 19999, 3) := by decide +kernel
theorem dL_act_22 : decode cL_act 22 = .ok (.goto 5, 3) := by decide +kernel
theorem dL_act_25 : decode cL_act 25 = .ok (.bipush 60, 2) := by decide +kernel
theorem dL_act_27 : decode cL_act 27 = .ok (.invokestatic 66, 3) := by decide +kernel
theorem dL_act_30 : decode cL_act 30 = .ok (.iload_n 2, 1) := by decide +kernel
theorem dL_act_31 : decode cL_act 31 = .ok (.iconst 4, 1) := by decide +kernel
theorem dL_act_32 : decode cL_act 32 = .ok (.ishr, 1) := by decide +kernel
theorem dL_act_33 : decode cL_act 33 = .ok (.iconst 3, 1) := by decide +kernel
theorem dL_act_34 : decode cL_act 34 = .ok (.invokestatic 66, 3) := by decide +kernel
theorem dL_act_37 : decode cL_act 37 = .ok (.ifCond .ne 9, 3) := by decide +kernel
theorem dL_act_40 : decode cL_act 40 = .ok (.sipush 9999, 3) := by decide +kernel
theorem dL_act_43 : decode cL_act 43 = .ok (.goto 5, 3) := by decide +kernel
theorem dL_act_46 : decode cL_act 46 = .ok (.bipush 30, 2) := by decide +kernel
theorem dL_act_48 : decode cL_act 48 = .ok (.isub, 1) := by decide +kernel
theorem dL_act_49 : decode cL_act 49 = .ok (.istore 9, 2) := by decide +kernel
theorem dL_act_51 : decode cL_act 51 = .ok (.iload_n 3, 1) := by decide +kernel
theorem dL_act_52 : decode cL_act 52 = .ok (.iconst 5, 1) := by decide +kernel
theorem dL_act_53 : decode cL_act 53 = .ok (.ishr, 1) := by decide +kernel
theorem dL_act_54 : decode cL_act 54 = .ok (.iload_n 2, 1) := by decide +kernel
theorem dL_act_55 : decode cL_act 55 = .ok (.iconst 5, 1) := by decide +kernel
theorem dL_act_56 : decode cL_act 56 = .ok (.ishr, 1) := by decide +kernel
theorem dL_act_57 : decode cL_act 57 = .ok (.iconst 3, 1) := by decide +kernel
theorem dL_act_58 : decode cL_act 58 = .ok (.invokestatic 66, 3) := by decide +kernel
theorem dL_act_61 : decode cL_act 61 = .ok (.ifCond .ne 9, 3) := by decide +kernel
theorem dL_act_64 : decode cL_act 64 = .ok (.sipush 199, 3) := by decide +kernel
theorem dL_act_67 : decode cL_act 67 = .ok (.goto 5, 3) := by decide +kernel
theorem dL_act_70 : decode cL_act 70 = .ok (.bipush 11, 2) := by decide +kernel
theorem dL_act_72 : decode cL_act 72 = .ok (.invokestatic 66, 3) := by decide +kernel
theorem dL_act_75 : decode cL_act 75 = .ok (.iload_n 2, 1) := by decide +kernel
theorem dL_act_76 : decode cL_act 76 = .ok (.iconst 5, 1) := by decide +kernel
theorem dL_act_77 : decode cL_act 77 = .ok (.ishr, 1) := by decide +kernel
theorem dL_act_78 : decode cL_act 78 = .ok (.iconst 3, 1) := by decide +kernel
theorem dL_act_79 : decode cL_act 79 = .ok (.invokestatic 66, 3) := by decide +kernel
theorem dL_act_82 : decode cL_act 82 = .ok (.ifCond .ne 8, 3) := by decide +kernel
theorem dL_act_85 : decode cL_act 85 = .ok (.bipush 99, 2) := by decide +kernel
theorem dL_act_87 : decode cL_act 87 = .ok (.goto 4, 3) := by decide +kernel
theorem dL_act_90 : decode cL_act 90 = .ok (.iconst 5, 1) := by decide +kernel
theorem dL_act_91 : decode cL_act 91 = .ok (.isub, 1) := by decide +kernel
theorem dL_act_92 : decode cL_act 92 = .ok (.istore 10, 2) := by decide +kernel
theorem dL_act_94 : decode cL_act 94 = .ok (.iload_n 1, 1) := by decide +kernel
theorem dL_act_95 : decode cL_act 95 = .ok (.iconst 5, 1) := by decide +kernel
theorem dL_act_96 : decode cL_act 96 = .ok (.if_icmp .ge 101, 3) := by decide +kernel
theorem dL_act_99 : decode cL_act 99 = .ok (.iconst 0, 1) := by decide +kernel
theorem dL_act_100 : decode cL_act 100 = .ok (.istore 11, 2) := by decide +kernel
theorem dL_act_102 : decode cL_act 102 = .ok (.iload 11, 2) := by decide +kernel
theorem dL_act_104 : decode cL_act 104 = .ok (.bipush 16, 2) := by decide +kernel
theorem dL_act_106 : decode cL_act 106 = .ok (.if_icmp .ge 20, 3) := by decide +kernel
theorem dL_act_109 : decode cL_act 109 = .ok (.aload 5, 2) := by decide +kernel
theorem dL_act_111 : decode cL_act 111 = .ok (.iconst 4, 1) := by decide +kernel
theorem dL_act_112 : decode cL_act 112 = .ok (.iload 11, 2) := by decide +kernel
theorem dL_act_114 : decode cL_act 114 = .ok (.imul, 1) := by decide +kernel
theorem dL_act_115 : decode cL_act 115 = .ok (.iaload, 1) := by decide +kernel
theorem dL_act_116 : decode cL_act 116 = .ok (.iconst 1, 1) := by decide +kernel
theorem dL_act_117 : decode cL_act 117 = .ok (.if_icmp .ne 9, 3) := by decide +kernel
theorem dL_act_120 : decode cL_act 120 = .ok (.iinc 11 1, 3) := by decide +kernel
theorem dL_act_123 : decode cL_act 123 = .ok (.goto (-21), 3) := by decide +kernel
theorem dL_act_126 : decode cL_act 126 = .ok (.iload 11, 2) := by decide +kernel
theorem dL_act_128 : decode cL_act 128 = .ok (.bipush 16, 2) := by decide +kernel
theorem dL_act_130 : decode cL_act 130 = .ok (.if_icmp .ne 5, 3) := by decide +kernel
theorem dL_act_133 : decode cL_act 133 = .ok (.iconst 1, 1) := by decide +kernel
theorem dL_act_134 : decode cL_act 134 = .ok (.ireturn, 1) := by decide +kernel
theorem dL_act_135 : decode cL_act 135 = .ok (.aload 5, 2) := by decide +kernel
theorem dL_act_137 : decode cL_act 137 = .ok (.iconst 4, 1) := by decide +kernel
theorem dL_act_138 : decode cL_act 138 = .ok (.iload 11, 2) := by decide +kernel
theorem dL_act_140 : decode cL_act 140 = .ok (.imul, 1) := by decide +kernel
theorem dL_act_141 : decode cL_act 141 = .ok (.iconst 1, 1) := by decide +kernel
theorem dL_act_142 : decode cL_act 142 = .ok (.iastore, 1) := by decide +kernel
theorem dL_act_143 : decode cL_act 143 = .ok (.aload 5, 2) := by decide +kernel
theorem dL_act_145 : decode cL_act 145 = .ok (.iconst 4, 1) := by decide +kernel
theorem dL_act_146 : decode cL_act 146 = .ok (.iload 11, 2) := by decide +kernel
theorem dL_act_148 : decode cL_act 148 = .ok (.imul, 1) := by decide +kernel
theorem dL_act_149 : decode cL_act 149 = .ok (.iconst 1, 1) := by decide +kernel
theorem dL_act_150 : decode cL_act 150 = .ok (.iadd, 1) := by decide +kernel
theorem dL_act_151 : decode cL_act 151 = .ok (.iload 9, 2) := by decide +kernel
theorem dL_act_153 : decode cL_act 153 = .ok (.iastore, 1) := by decide +kernel
theorem dL_act_154 : decode cL_act 154 = .ok (.aload 5, 2) := by decide +kernel
theorem dL_act_156 : decode cL_act 156 = .ok (.iconst 4, 1) := by decide +kernel
theorem dL_act_157 : decode cL_act 157 = .ok (.iload 11, 2) := by decide +kernel
theorem dL_act_159 : decode cL_act 159 = .ok (.imul, 1) := by decide +kernel
theorem dL_act_160 : decode cL_act 160 = .ok (.iconst 2, 1) := by decide +kernel
theorem dL_act_161 : decode cL_act 161 = .ok (.iadd, 1) := by decide +kernel
theorem dL_act_162 : decode cL_act 162 = .ok (.iload 10, 2) := by decide +kernel
theorem dL_act_164 : decode cL_act 164 = .ok (.iastore, 1) := by decide +kernel
theorem dL_act_165 : decode cL_act 165 = .ok (.aload 5, 2) := by decide +kernel
theorem dL_act_167 : decode cL_act 167 = .ok (.iconst 4, 1) := by decide +kernel
theorem dL_act_168 : decode cL_act 168 = .ok (.iload 11, 2) := by decide +kernel
theorem dL_act_170 : decode cL_act 170 = .ok (.imul, 1) := by decide +kernel
theorem dL_act_171 : decode cL_act 171 = .ok (.iconst 3, 1) := by decide +kernel
theorem dL_act_172 : decode cL_act 172 = .ok (.iadd, 1) := by decide +kernel
theorem dL_act_173 : decode cL_act 173 = .ok (.aload 4, 2) := by decide +kernel
theorem dL_act_175 : decode cL_act 175 = .ok (.iconst 0, 1) := by decide +kernel
theorem dL_act_176 : decode cL_act 176 = .ok (.iaload, 1) := by decide +kernel
theorem dL_act_177 : decode cL_act 177 = .ok (.iastore, 1) := by decide +kernel
theorem dL_act_178 : decode cL_act 178 = .ok (.aload_n 0, 1) := by decide +kernel
theorem dL_act_179 : decode cL_act 179 = .ok (.iload 9, 2) := by decide +kernel
theorem dL_act_181 : decode cL_act 181 = .ok (.iload 10, 2) := by decide +kernel
theorem dL_act_183 : decode cL_act 183 = .ok (.invokevirtual 69, 3) := by decide +kernel
theorem dL_act_186 : decode cL_act 186 = .ok (.iload 11, 2) := by decide +kernel
theorem dL_act_188 : decode cL_act 188 = .ok (.if_icmp .ne 7, 3) := by decide +kernel
theorem dL_act_191 : decode cL_act 191 = .ok (.iconst 1, 1) := by decide +kernel
theorem dL_act_192 : decode cL_act 192 = .ok (.goto 4, 3) := by decide +kernel
theorem dL_act_195 : decode cL_act 195 = .ok (.iconst 0, 1) := by decide +kernel
theorem dL_act_196 : decode cL_act 196 = .ok (.ireturn, 1) := by decide +kernel
theorem dL_act_197 : decode cL_act 197 = .ok (.iload_n 1, 1) := by decide +kernel
theorem dL_act_198 : decode cL_act 198 = .ok (.bipush 8, 2) := by decide +kernel
theorem dL_act_200 : decode cL_act 200 = .ok (.if_icmp .ge 37, 3) := by decide +kernel
theorem dL_act_203 : decode cL_act 203 = .ok (.aload_n 0, 1) := by decide +kernel
theorem dL_act_204 : decode cL_act 204 = .ok (.iconst 1, 1) := by decide +kernel
theorem dL_act_205 : decode cL_act 205 = .ok (.iload_n 3, 1) := by decide +kernel
theorem dL_act_206 : decode cL_act 206 = .ok (.iload_n 2, 1) := by decide +kernel
theorem dL_act_207 : decode cL_act 207 = .ok (.iconst 3, 1) := by decide +kernel
theorem dL_act_208 : decode cL_act 208 = .ok (.invokestatic 66, 3) := by decide +kernel
theorem dL_act_211 : decode cL_act 211 = .ok (.ifCond .ne 8, 3) := by decide +kernel
theorem dL_act_214 : decode cL_act 214 = .ok (.bipush 99, 2) := by decide +kernel
theorem dL_act_216 : decode cL_act 216 = .ok (.goto 5, 3) := by decide +kernel
theorem dL_act_219 : decode cL_act 219 = .ok (.bipush 6, 2) := by decide +kernel
theorem dL_act_221 : decode cL_act 221 = .ok (.invokestatic 66, 3) := by decide +kernel
theorem dL_act_224 : decode cL_act 224 = .ok (.iadd, 1) := by decide +kernel
theorem dL_act_225 : decode cL_act 225 = .ok (.aload 4, 2) := by decide +kernel
theorem dL_act_227 : decode cL_act 227 = .ok (.aload 5, 2) := by decide +kernel
theorem dL_act_229 : decode cL_act 229 = .ok (.aload 6, 2) := by decide +kernel
theorem dL_act_231 : decode cL_act 231 = .ok (.aload 7, 2) := by decide +kernel
theorem dL_act_233 : decode cL_act 233 = .ok (.invokestatic 72, 3) := by decide +kernel
theorem dL_act_236 : decode cL_act 236 = .ok (.ireturn, 1) := by decide +kernel
theorem dL_act_237 : decode cL_act 237 = .ok (.iload_n 1, 1) := by decide +kernel
theorem dL_act_238 : decode cL_act 238 = .ok (.bipush 8, 2) := by decide +kernel
theorem dL_act_240 : decode cL_act 240 = .ok (.if_icmp .ne 75, 3) := by decide +kernel
theorem dL_act_243 : decode cL_act 243 = .ok (.iload_n 2, 1) := by decide +kernel
theorem dL_act_244 : decode cL_act 244 = .ok (.bipush 6, 2) := by decide +kernel
theorem dL_act_246 : decode cL_act 246 = .ok (.ishr, 1) := by decide +kernel
theorem dL_act_247 : decode cL_act 247 = .ok (.iconst 2, 1) := by decide +kernel
theorem dL_act_248 : decode cL_act 248 = .ok (.invokestatic 66, 3) := by decide +kernel
theorem dL_act_251 : decode cL_act 251 = .ok (.istore 11, 2) := by decide +kernel
theorem dL_act_253 : decode cL_act 253 = .ok (.aload 4, 2) := by decide +kernel
theorem dL_act_255 : decode cL_act 255 = .ok (.iconst 1, 1) := by decide +kernel
theorem dL_act_256 : decode cL_act 256 = .ok (.iload 11, 2) := by decide +kernel
theorem dL_act_258 : decode cL_act 258 = .ok (.iadd, 1) := by decide +kernel
theorem dL_act_259 : decode cL_act 259 = .ok (.iaload, 1) := by decide +kernel
theorem dL_act_260 : decode cL_act 260 = .ok (.istore 12, 2) := by decide +kernel
theorem dL_act_262 : decode cL_act 262 = .ok (.aload 4, 2) := by decide +kernel
theorem dL_act_264 : decode cL_act 264 = .ok (.iconst 1, 1) := by decide +kernel
theorem dL_act_265 : decode cL_act 265 = .ok (.iload 11, 2) := by decide +kernel
theorem dL_act_267 : decode cL_act 267 = .ok (.iadd, 1) := by decide +kernel
theorem dL_act_268 : decode cL_act 268 = .ok (.iload 11, 2) := by decide +kernel
theorem dL_act_270 : decode cL_act 270 = .ok (.ifCond .ne 11, 3) := by decide +kernel
theorem dL_act_273 : decode cL_act 273 = .ok (.iload_n 3, 1) := by decide +kernel
theorem dL_act_274 : decode cL_act 274 = .ok (.iconst 2, 1) := by decide +kernel
theorem dL_act_275 : decode cL_act 275 = .ok (.invokestatic 66, 3) := by decide +kernel
theorem dL_act_278 : decode cL_act 278 = .ok (.goto 12, 3) := by decide +kernel
theorem dL_act_281 : decode cL_act 281 = .ok (.iconst 1, 1) := by decide +kernel
theorem dL_act_282 : decode cL_act 282 = .ok (.iload_n 3, 1) := by decide +kernel
theorem dL_act_283 : decode cL_act 283 = .ok (.sipush 999, 3) := by decide +kernel
theorem dL_act_286 : decode cL_act 286 = .ok (.invokestatic 66, 3) := by decide +kernel
theorem dL_act_289 : decode cL_act 289 = .ok (.iadd, 1) := by decide +kernel
theorem dL_act_290 : decode cL_act 290 = .ok (.iastore, 1) := by decide +kernel
theorem dL_act_291 : decode cL_act 291 = .ok (.aload_n 0, 1) := by decide +kernel
theorem dL_act_292 : decode cL_act 292 = .ok (.iload 11, 2) := by decide +kernel
theorem dL_act_294 : decode cL_act 294 = .ok (.aload 4, 2) := by decide +kernel
theorem dL_act_296 : decode cL_act 296 = .ok (.iconst 1, 1) := by decide +kernel
theorem dL_act_297 : decode cL_act 297 = .ok (.iload 11, 2) := by decide +kernel
theorem dL_act_299 : decode cL_act 299 = .ok (.iadd, 1) := by decide +kernel
theorem dL_act_300 : decode cL_act 300 = .ok (.iaload, 1) := by decide +kernel
theorem dL_act_301 : decode cL_act 301 = .ok (.invokevirtual 76, 3) := by decide +kernel
theorem dL_act_304 : decode cL_act 304 = .ok (.iload 12, 2) := by decide +kernel
theorem dL_act_306 : decode cL_act 306 = .ok (.if_icmp .ne 7, 3) := by decide +kernel
theorem dL_act_309 : decode cL_act 309 = .ok (.iconst 1, 1) := by decide +kernel
theorem dL_act_310 : decode cL_act 310 = .ok (.goto 4, 3) := by decide +kernel
theorem dL_act_313 : decode cL_act 313 = .ok (.iconst 0, 1) := by decide +kernel
theorem dL_act_314 : decode cL_act 314 = .ok (.ireturn, 1) := by decide +kernel
theorem dL_act_315 : decode cL_act 315 = .ok (.iload_n 1, 1) := by decide +kernel
theorem dL_act_316 : decode cL_act 316 = .ok (.bipush 9, 2) := by decide +kernel
theorem dL_act_318 : decode cL_act 318 = .ok (.if_icmp .ne 99, 3) := by decide +kernel
theorem dL_act_321 : decode cL_act 321 = .ok (.iload_n 3, 1) := by decide +kernel
theorem dL_act_322 : decode cL_act 322 = .ok (.bipush 16, 2) := by decide +kernel
theorem dL_act_324 : decode cL_act 324 = .ok (.invokestatic 66, 3) := by decide +kernel
theorem dL_act_327 : decode cL_act 327 = .ok (.istore 11, 2) := by decide +kernel
theorem dL_act_329 : decode cL_act 329 = .ok (.iconst 0, 1) := by decide +kernel
theorem dL_act_330 : decode cL_act 330 = .ok (.istore 12, 2) := by decide +kernel
theorem dL_act_332 : decode cL_act 332 = .ok (.iload 12, 2) := by decide +kernel
theorem dL_act_334 : decode cL_act 334 = .ok (.iconst 4, 1) := by decide +kernel
theorem dL_act_335 : decode cL_act 335 = .ok (.if_icmp .ge 53, 3) := by decide +kernel
theorem dL_act_338 : decode cL_act 338 = .ok (.aload 5, 2) := by decide +kernel
theorem dL_act_340 : decode cL_act 340 = .ok (.iconst 4, 1) := by decide +kernel
theorem dL_act_341 : decode cL_act 341 = .ok (.iload 8, 2) := by decide +kernel
theorem dL_act_343 : decode cL_act 343 = .ok (.imul, 1) := by decide +kernel
theorem dL_act_344 : decode cL_act 344 = .ok (.iload 12, 2) := by decide +kernel
theorem dL_act_346 : decode cL_act 346 = .ok (.iadd, 1) := by decide +kernel
theorem dL_act_347 : decode cL_act 347 = .ok (.iaload, 1) := by decide +kernel
theorem dL_act_348 : decode cL_act 348 = .ok (.istore 13, 2) := by decide +kernel
theorem dL_act_350 : decode cL_act 350 = .ok (.aload 5, 2) := by decide +kernel
theorem dL_act_352 : decode cL_act 352 = .ok (.iconst 4, 1) := by decide +kernel
theorem dL_act_353 : decode cL_act 353 = .ok (.iload 8, 2) := by decide +kernel
theorem dL_act_355 : decode cL_act 355 = .ok (.imul, 1) := by decide +kernel
theorem dL_act_356 : decode cL_act 356 = .ok (.iload 12, 2) := by decide +kernel
theorem dL_act_358 : decode cL_act 358 = .ok (.iadd, 1) := by decide +kernel
theorem dL_act_359 : decode cL_act 359 = .ok (.aload 5, 2) := by decide +kernel
theorem dL_act_361 : decode cL_act 361 = .ok (.iconst 4, 1) := by decide +kernel
theorem dL_act_362 : decode cL_act 362 = .ok (.iload 11, 2) := by decide +kernel
theorem dL_act_364 : decode cL_act 364 = .ok (.imul, 1) := by decide +kernel
theorem dL_act_365 : decode cL_act 365 = .ok (.iload 12, 2) := by decide +kernel
theorem dL_act_367 : decode cL_act 367 = .ok (.iadd, 1) := by decide +kernel
theorem dL_act_368 : decode cL_act 368 = .ok (.iaload, 1) := by decide +kernel
theorem dL_act_369 : decode cL_act 369 = .ok (.iastore, 1) := by decide +kernel
theorem dL_act_370 : decode cL_act 370 = .ok (.aload 5, 2) := by decide +kernel
theorem dL_act_372 : decode cL_act 372 = .ok (.iconst 4, 1) := by decide +kernel
theorem dL_act_373 : decode cL_act 373 = .ok (.iload 11, 2) := by decide +kernel
theorem dL_act_375 : decode cL_act 375 = .ok (.imul, 1) := by decide +kernel
theorem dL_act_376 : decode cL_act 376 = .ok (.iload 12, 2) := by decide +kernel
theorem dL_act_378 : decode cL_act 378 = .ok (.iadd, 1) := by decide +kernel
theorem dL_act_379 : decode cL_act 379 = .ok (.iload 13, 2) := by decide +kernel
theorem dL_act_381 : decode cL_act 381 = .ok (.iastore, 1) := by decide +kernel
theorem dL_act_382 : decode cL_act 382 = .ok (.iinc 12 1, 3) := by decide +kernel
theorem dL_act_385 : decode cL_act 385 = .ok (.goto (-53), 3) := by decide +kernel
theorem dL_act_388 : decode cL_act 388 = .ok (.aload_n 0, 1) := by decide +kernel
theorem dL_act_389 : decode cL_act 389 = .ok (.iload 8, 2) := by decide +kernel
theorem dL_act_391 : decode cL_act 391 = .ok (.iload 11, 2) := by decide +kernel
theorem dL_act_393 : decode cL_act 393 = .ok (.invokevirtual 79, 3) := by decide +kernel
theorem dL_act_396 : decode cL_act 396 = .ok (.iload 8, 2) := by decide +kernel
theorem dL_act_398 : decode cL_act 398 = .ok (.iload 11, 2) := by decide +kernel
theorem dL_act_400 : decode cL_act 400 = .ok (.if_icmp .ne 7, 3) := by decide +kernel
theorem dL_act_403 : decode cL_act 403 = .ok (.iconst 0, 1) := by decide +kernel
theorem dL_act_404 : decode cL_act 404 = .ok (.goto 4, 3) := by decide +kernel
theorem dL_act_407 : decode cL_act 407 = .ok (.iconst (-1), 1) := by decide +kernel
theorem dL_act_408 : decode cL_act 408 = .ok (.if_icmp .lt 7, 3) := by decide +kernel
theorem dL_act_411 : decode cL_act 411 = .ok (.iconst 1, 1) := by decide +kernel
theorem dL_act_412 : decode cL_act 412 = .ok (.goto 4, 3) := by decide +kernel
theorem dL_act_415 : decode cL_act 415 = .ok (.iconst 0, 1) := by decide +kernel
theorem dL_act_416 : decode cL_act 416 = .ok (.ireturn, 1) := by decide +kernel
theorem dL_act_417 : decode cL_act 417 = .ok (.aload 5, 2) := by decide +kernel
theorem dL_act_419 : decode cL_act 419 = .ok (.iconst 4, 1) := by decide +kernel
theorem dL_act_420 : decode cL_act 420 = .ok (.iload 8, 2) := by decide +kernel
theorem dL_act_422 : decode cL_act 422 = .ok (.imul, 1) := by decide +kernel
theorem dL_act_423 : decode cL_act 423 = .ok (.iaload, 1) := by decide +kernel
theorem dL_act_424 : decode cL_act 424 = .ok (.ifCond .ne 5, 3) := by decide +kernel
theorem dL_act_427 : decode cL_act 427 = .ok (.iconst 1, 1) := by decide +kernel
theorem dL_act_428 : decode cL_act 428 = .ok (.ireturn, 1) := by decide +kernel
theorem dL_act_429 : decode cL_act 429 = .ok (.iload_n 1, 1) := by decide +kernel
theorem dL_act_430 : decode cL_act 430 = .ok (.bipush 12, 2) := by decide +kernel
theorem dL_act_432 : decode cL_act 432 = .ok (.if_icmp .ge 44, 3) := by decide +kernel
theorem dL_act_435 : decode cL_act 435 = .ok (.aload 5, 2) := by decide +kernel
theorem dL_act_437 : decode cL_act 437 = .ok (.iconst 4, 1) := by decide +kernel
theorem dL_act_438 : decode cL_act 438 = .ok (.iload 8, 2) := by decide +kernel
theorem dL_act_440 : decode cL_act 440 = .ok (.imul, 1) := by decide +kernel
theorem dL_act_441 : decode cL_act 441 = .ok (.iconst 2, 1) := by decide +kernel
theorem dL_act_442 : decode cL_act 442 = .ok (.iadd, 1) := by decide +kernel
theorem dL_act_443 : decode cL_act 443 = .ok (.iaload, 1) := by decide +kernel
theorem dL_act_444 : decode cL_act 444 = .ok (.istore 11, 2) := by decide +kernel
theorem dL_act_446 : decode cL_act 446 = .ok (.aload 5, 2) := by decide +kernel
theorem dL_act_448 : decode cL_act 448 = .ok (.iconst 4, 1) := by decide +kernel
theorem dL_act_449 : decode cL_act 449 = .ok (.iload 8, 2) := by decide +kernel
theorem dL_act_451 : decode cL_act 451 = .ok (.imul, 1) := by decide +kernel
theorem dL_act_452 : decode cL_act 452 = .ok (.iconst 2, 1) := by decide +kernel
theorem dL_act_453 : decode cL_act 453 = .ok (.iadd, 1) := by decide +kernel
theorem dL_act_454 : decode cL_act 454 = .ok (.iload 10, 2) := by decide +kernel
theorem dL_act_456 : decode cL_act 456 = .ok (.iastore, 1) := by decide +kernel
theorem dL_act_457 : decode cL_act 457 = .ok (.aload_n 0, 1) := by decide +kernel
theorem dL_act_458 : decode cL_act 458 = .ok (.iload 8, 2) := by decide +kernel
theorem dL_act_460 : decode cL_act 460 = .ok (.iload 10, 2) := by decide +kernel
theorem dL_act_462 : decode cL_act 462 = .ok (.invokevirtual 82, 3) := by decide +kernel
theorem dL_act_465 : decode cL_act 465 = .ok (.iload 11, 2) := by decide +kernel
theorem dL_act_467 : decode cL_act 467 = .ok (.if_icmp .ne 7, 3) := by decide +kernel
theorem dL_act_470 : decode cL_act 470 = .ok (.iconst 1, 1) := by decide +kernel
theorem dL_act_471 : decode cL_act 471 = .ok (.goto 4, 3) := by decide +kernel
theorem dL_act_474 : decode cL_act 474 = .ok (.iconst 0, 1) := by decide +kernel
theorem dL_act_475 : decode cL_act 475 = .ok (.ireturn, 1) := by decide +kernel
theorem dL_act_476 : decode cL_act 476 = .ok (.iload_n 1, 1) := by decide +kernel
theorem dL_act_477 : decode cL_act 477 = .ok (.bipush 12, 2) := by decide +kernel
theorem dL_act_479 : decode cL_act 479 = .ok (.if_icmp .ne 71, 3) := by decide +kernel
theorem dL_act_482 : decode cL_act 482 = .ok (.aload 5, 2) := by decide +kernel
theorem dL_act_484 : decode cL_act 484 = .ok (.iconst 4, 1) := by decide +kernel
theorem dL_act_485 : decode cL_act 485 = .ok (.iload 8, 2) := by decide +kernel
theorem dL_act_487 : decode cL_act 487 = .ok (.imul, 1) := by decide +kernel
theorem dL_act_488 : decode cL_act 488 = .ok (.iconst 1, 1) := by decide +kernel
theorem dL_act_489 : decode cL_act 489 = .ok (.iadd, 1) := by decide +kernel
theorem dL_act_490 : decode cL_act 490 = .ok (.dup2, 1) := by decide +kernel
theorem dL_act_491 : decode cL_act 491 = .ok (.iaload, 1) := by decide +kernel
theorem dL_act_492 : decode cL_act 492 = .ok (.iload 9, 2) := by decide +kernel
theorem dL_act_494 : decode cL_act 494 = .ok (.iadd, 1) := by decide +kernel
theorem dL_act_495 : decode cL_act 495 = .ok (.iastore, 1) := by decide +kernel
theorem dL_act_496 : decode cL_act 496 = .ok (.aload 5, 2) := by decide +kernel
theorem dL_act_498 : decode cL_act 498 = .ok (.iconst 4, 1) := by decide +kernel
theorem dL_act_499 : decode cL_act 499 = .ok (.iload 8, 2) := by decide +kernel
theorem dL_act_501 : decode cL_act 501 = .ok (.imul, 1) := by decide +kernel
theorem dL_act_502 : decode cL_act 502 = .ok (.iconst 1, 1) := by decide +kernel
theorem dL_act_503 : decode cL_act 503 = .ok (.iadd, 1) := by decide +kernel
theorem dL_act_504 : decode cL_act 504 = .ok (.iaload, 1) := by decide +kernel
theorem dL_act_505 : decode cL_act 505 = .ok (.ldc 85, 2) := by decide +kernel
theorem dL_act_507 : decode cL_act 507 = .ok (.if_icmp .le 41, 3) := by decide +kernel
theorem dL_act_510 : decode cL_act 510 = .ok (.aload 5, 2) := by decide +kernel
theorem dL_act_512 : decode cL_act 512 = .ok (.iconst 4, 1) := by decide +kernel
theorem dL_act_513 : decode cL_act 513 = .ok (.iload 8, 2) := by decide +kernel
theorem dL_act_515 : decode cL_act 515 = .ok (.imul, 1) := by decide +kernel
theorem dL_act_516 : decode cL_act 516 = .ok (.iconst 1, 1) := by decide +kernel
theorem dL_act_517 : decode cL_act 517 = .ok (.iadd, 1) := by decide +kernel
theorem dL_act_518 : decode cL_act 518 = .ok (.iaload, 1) := by decide +kernel
theorem dL_act_519 : decode cL_act 519 = .ok (.ldc 86, 2) := by decide +kernel
theorem dL_act_521 : decode cL_act 521 = .ok (.if_icmp .ge 27, 3) := by decide +kernel
theorem dL_act_524 : decode cL_act 524 = .ok (.aload_n 0, 1) := by decide +kernel
theorem dL_act_525 : decode cL_act 525 = .ok (.iload 8, 2) := by decide +kernel
theorem dL_act_527 : decode cL_act 527 = .ok (.iload 9, 2) := by decide +kernel
theorem dL_act_529 : decode cL_act 529 = .ok (.invokevirtual 87, 3) := by decide +kernel
theorem dL_act_532 : decode cL_act 532 = .ok (.aload 5, 2) := by decide +kernel
theorem dL_act_534 : decode cL_act 534 = .ok (.iconst 4, 1) := by decide +kernel
theorem dL_act_535 : decode cL_act 535 = .ok (.iload 8, 2) := by decide +kernel
theorem dL_act_537 : decode cL_act 537 = .ok (.imul, 1) := by decide +kernel
theorem dL_act_538 : decode cL_act 538 = .ok (.iconst 1, 1) := by decide +kernel
theorem dL_act_539 : decode cL_act 539 = .ok (.iadd, 1) := by decide +kernel
theorem dL_act_540 : decode cL_act 540 = .ok (.iaload, 1) := by decide +kernel
theorem dL_act_541 : decode cL_act 541 = .ok (.if_icmp .ne 7, 3) := by decide +kernel
theorem dL_act_544 : decode cL_act 544 = .ok (.iconst 1, 1) := by decide +kernel
theorem dL_act_545 : decode cL_act 545 = .ok (.goto 4, 3) := by decide +kernel
theorem dL_act_548 : decode cL_act 548 = .ok (.iconst 0, 1) := by decide +kernel
theorem dL_act_549 : decode cL_act 549 = .ok (.ireturn, 1) := by decide +kernel
theorem dL_act_550 : decode cL_act 550 = .ok (.aload 5, 2) := by decide +kernel
theorem dL_act_552 : decode cL_act 552 = .ok (.iconst 4, 1) := by decide +kernel
theorem dL_act_553 : decode cL_act 553 = .ok (.iload 8, 2) := by decide +kernel
theorem dL_act_555 : decode cL_act 555 = .ok (.imul, 1) := by decide +kernel
theorem dL_act_556 : decode cL_act 556 = .ok (.iconst 1, 1) := by decide +kernel
theorem dL_act_557 : decode cL_act 557 = .ok (.iadd, 1) := by decide +kernel
theorem dL_act_558 : decode cL_act 558 = .ok (.iaload, 1) := by decide +kernel
theorem dL_act_559 : decode cL_act 559 = .ok (.istore 11, 2) := by decide +kernel
theorem dL_act_561 : decode cL_act 561 = .ok (.iconst 0, 1) := by decide +kernel
theorem dL_act_562 : decode cL_act 562 = .ok (.istore 12, 2) := by decide +kernel
theorem dL_act_564 : decode cL_act 564 = .ok (.iload 12, 2) := by decide +kernel
theorem dL_act_566 : decode cL_act 566 = .ok (.iconst 4, 1) := by decide +kernel
theorem dL_act_567 : decode cL_act 567 = .ok (.if_icmp .ge 20, 3) := by decide +kernel
theorem dL_act_570 : decode cL_act 570 = .ok (.aload 5, 2) := by decide +kernel
theorem dL_act_572 : decode cL_act 572 = .ok (.iconst 4, 1) := by decide +kernel
theorem dL_act_573 : decode cL_act 573 = .ok (.iload 8, 2) := by decide +kernel
theorem dL_act_575 : decode cL_act 575 = .ok (.imul, 1) := by decide +kernel
theorem dL_act_576 : decode cL_act 576 = .ok (.iload 12, 2) := by decide +kernel
theorem dL_act_578 : decode cL_act 578 = .ok (.iadd, 1) := by decide +kernel
theorem dL_act_579 : decode cL_act 579 = .ok (.iconst 0, 1) := by decide +kernel
theorem dL_act_580 : decode cL_act 580 = .ok (.iastore, 1) := by decide +kernel
theorem dL_act_581 : decode cL_act 581 = .ok (.iinc 12 1, 3) := by decide +kernel
theorem dL_act_584 : decode cL_act 584 = .ok (.goto (-20), 3) := by decide +kernel
theorem dL_act_587 : decode cL_act 587 = .ok (.aload_n 0, 1) := by decide +kernel
theorem dL_act_588 : decode cL_act 588 = .ok (.iload 8, 2) := by decide +kernel
theorem dL_act_590 : decode cL_act 590 = .ok (.invokevirtual 90, 3) := by decide +kernel
theorem dL_act_593 : decode cL_act 593 = .ok (.iload 11, 2) := by decide +kernel
theorem dL_act_595 : decode cL_act 595 = .ok (.if_icmp .ne 7, 3) := by decide +kernel
theorem dL_act_598 : decode cL_act 598 = .ok (.iconst 1, 1) := by decide +kernel
theorem dL_act_599 : decode cL_act 599 = .ok (.goto 4, 3) := by decide +kernel
theorem dL_act_602 : decode cL_act 602 = .ok (.iconst 0, 1) := by decide +kernel
theorem dL_act_603 : decode cL_act 603 = .ok (.ireturn, 1) := by decide +kernel
theorem dL_law_0 : decode cL_law 0 = .ok (.new 32, 3) := by decide +kernel
theorem dL_law_3 : decode cL_law 3 = .ok (.dup, 1) := by decide +kernel
theorem dL_law_4 : decode cL_law 4 = .ok (.invokespecial 93, 3) := by decide +kernel
theorem dL_law_7 : decode cL_law 7 = .ok (.astore_n 1, 1) := by decide +kernel
theorem dL_law_8 : decode cL_law 8 = .ok (.bipush 19, 2) := by decide +kernel
theorem dL_law_10 : decode cL_law 10 = .ok (.newarray .int, 2) := by decide +kernel
theorem dL_law_12 : decode cL_law 12 = .ok (.astore_n 2, 1) := by decide +kernel
theorem dL_law_13 : decode cL_law 13 = .ok (.bipush 64, 2) := by decide +kernel
theorem dL_law_15 : decode cL_law 15 = .ok (.newarray .int, 2) := by decide +kernel
theorem dL_law_17 : decode cL_law 17 = .ok (.astore_n 3, 1) := by decide +kernel
theorem dL_law_18 : decode cL_law 18 = .ok (.bipush 64, 2) := by decide +kernel
theorem dL_law_20 : decode cL_law 20 = .ok (.newarray .long, 2) := by decide +kernel
theorem dL_law_22 : decode cL_law 22 = .ok (.astore 4, 2) := by decide +kernel
theorem dL_law_24 : decode cL_law 24 = .ok (.iconst 4, 1) := by decide +kernel
theorem dL_law_25 : decode cL_law 25 = .ok (.newarray .long, 2) := by decide +kernel
theorem dL_law_27 : decode cL_law 27 = .ok (.astore 5, 2) := by decide +kernel
theorem dL_law_29 : decode cL_law 29 = .ok (.aload_n 2, 1) := by decide +kernel
theorem dL_law_30 : decode cL_law 30 = .ok (.iconst 2, 1) := by decide +kernel
theorem dL_law_31 : decode cL_law 31 = .ok (.bipush 50, 2) := by decide +kernel
theorem dL_law_33 : decode cL_law 33 = .ok (.iastore, 1) := by decide +kernel
theorem dL_law_34 : decode cL_law 34 = .ok (.aload_n 1, 1) := by decide +kernel
theorem dL_law_35 : decode cL_law 35 = .ok (.aload_n 2, 1) := by decide +kernel
theorem dL_law_36 : decode cL_law 36 = .ok (.aload_n 3, 1) := by decide +kernel
theorem dL_law_37 : decode cL_law 37 = .ok (.aload 4, 2) := by decide +kernel
theorem dL_law_39 : decode cL_law 39 = .ok (.aload 5, 2) := by decide +kernel
theorem dL_law_41 : decode cL_law 41 = .ok (.invokestatic 94, 3) := by decide +kernel
theorem dL_law_44 : decode cL_law 44 = .ok (.ifCond .ne 5, 3) := by decide +kernel
theorem dL_law_47 : decode cL_law 47 = .ok (.iconst 0, 1) := by decide +kernel
theorem dL_law_48 : decode cL_law 48 = .ok (.ireturn, 1) := by decide +kernel
theorem dL_law_49 : decode cL_law 49 = .ok (.iconst 0, 1) := by decide +kernel
theorem dL_law_50 : decode cL_law 50 = .ok (.istore 6, 2) := by decide +kernel
theorem dL_law_52 : decode cL_law 52 = .ok (.iload 6, 2) := by decide +kernel
theorem dL_law_54 : decode cL_law 54 = .ok (.bipush 40, 2) := by decide +kernel
theorem dL_law_56 : decode cL_law 56 = .ok (.if_icmp .ge 93, 3) := by decide +kernel
theorem dL_law_59 : decode cL_law 59 = .ok (.aload_n 0, 1) := by decide +kernel
theorem dL_law_60 : decode cL_law 60 = .ok (.iconst 2, 1) := by decide +kernel
theorem dL_law_61 : decode cL_law 61 = .ok (.iload 6, 2) := by decide +kernel
theorem dL_law_63 : decode cL_law 63 = .ok (.imul, 1) := by decide +kernel
theorem dL_law_64 : decode cL_law 64 = .ok (.invokestatic 98, 3) := by decide +kernel
theorem dL_law_67 : decode cL_law 67 = .ok (.ldc 102, 2) := by decide +kernel
theorem dL_law_69 : decode cL_law 69 = .ok (.iand, 1) := by decide +kernel
theorem dL_law_70 : decode cL_law 70 = .ok (.istore 7, 2) := by decide +kernel
theorem dL_law_72 : decode cL_law 72 = .ok (.aload_n 0, 1) := by decide +kernel
theorem dL_law_73 : decode cL_law 73 = .ok (.iconst 2, 1) := by decide +kernel
theorem dL_law_74 : decode cL_law 74 = .ok (.iload 6, 2) := by decide +kernel
theorem dL_law_76 : decode cL_law 76 = .ok (.imul, 1) := by decide +kernel
theorem dL_law_77 : decode cL_law 77 = .ok (.iconst 1, 1) := by decide +kernel
theorem dL_law_78 : decode cL_law 78 = .ok (.iadd, 1) := by decide +kernel
theorem dL_law_79 : decode cL_law 79 = .ok (.invokestatic 98, 3) := by decide +kernel
theorem dL_law_82 : decode cL_law 82 = .ok (.ldc 102, 2) := by decide +kernel
theorem dL_law_84 : decode cL_law 84 = .ok (.iand, 1) := by decide +kernel
theorem dL_law_85 : decode cL_law 85 = .ok (.istore 8, 2) := by decide +kernel
theorem dL_law_87 : decode cL_law 87 = .ok (.iload 6, 2) := by decide +kernel
theorem dL_law_89 : decode cL_law 89 = .ok (.iconst 4, 1) := by decide +kernel
theorem dL_law_90 : decode cL_law 90 = .ok (.if_icmp .ge 7, 3) := by decide +kernel
theorem dL_law_93 : decode cL_law 93 = .ok (.iconst 0, 1) := by decide +kernel
theorem dL_law_94 : decode cL_law 94 = .ok (.goto 13, 3) := by decide +kernel
theorem dL_law_97 : decode cL_law 97 = .ok (.iload 7, 2) := by decide +kernel
theorem dL_law_99 : decode cL_law 99 = .ok (.bipush 13, 2) := by decide +kernel
theorem dL_law_101 : decode cL_law 101 = .ok (.ishr, 1) := by decide +kernel
theorem dL_law_102 : decode cL_law 102 = .ok (.bipush 14, 2) := by decide +kernel
theorem dL_law_104 : decode cL_law 104 = .ok (.invokestatic 66, 3) := by decide +kernel
theorem dL_law_107 : decode cL_law 107 = .ok (.istore 9, 2) := by decide +kernel
theorem dL_law_109 : decode cL_law 109 = .ok (.aload_n 1, 1) := by decide +kernel
theorem dL_law_110 : decode cL_law 110 = .ok (.iload 9, 2) := by decide +kernel
theorem dL_law_112 : decode cL_law 112 = .ok (.iload 7, 2) := by decide +kernel
theorem dL_law_114 : decode cL_law 114 = .ok (.iload 8, 2) := by decide +kernel
theorem dL_law_116 : decode cL_law 116 = .ok (.aload_n 2, 1) := by decide +kernel
theorem dL_law_117 : decode cL_law 117 = .ok (.aload_n 3, 1) := by decide +kernel
theorem dL_law_118 : decode cL_law 118 = .ok (.aload 4, 2) := by decide +kernel
theorem dL_law_120 : decode cL_law 120 = .ok (.aload 5, 2) := by decide +kernel
theorem dL_law_122 : decode cL_law 122 = .ok (.invokestatic 103, 3) := by decide +kernel
theorem dL_law_125 : decode cL_law 125 = .ok (.ifCond .eq 16, 3) := by decide +kernel
theorem dL_law_128 : decode cL_law 128 = .ok (.aload_n 1, 1) := by decide +kernel
theorem dL_law_129 : decode cL_law 129 = .ok (.aload_n 2, 1) := by decide +kernel
theorem dL_law_130 : decode cL_law 130 = .ok (.aload_n 3, 1) := by decide +kernel
theorem dL_law_131 : decode cL_law 131 = .ok (.aload 4, 2) := by decide +kernel
theorem dL_law_133 : decode cL_law 133 = .ok (.aload 5, 2) := by decide +kernel
theorem dL_law_135 : decode cL_law 135 = .ok (.invokestatic 94, 3) := by decide +kernel
theorem dL_law_138 : decode cL_law 138 = .ok (.ifCond .ne 5, 3) := by decide +kernel
theorem dL_law_141 : decode cL_law 141 = .ok (.iconst 0, 1) := by decide +kernel
theorem dL_law_142 : decode cL_law 142 = .ok (.ireturn, 1) := by decide +kernel
theorem dL_law_143 : decode cL_law 143 = .ok (.iinc 6 1, 3) := by decide +kernel
theorem dL_law_146 : decode cL_law 146 = .ok (.goto (-94), 3) := by decide +kernel
theorem dL_law_149 : decode cL_law 149 = .ok (.aload_n 1, 1) := by decide +kernel
theorem dL_law_150 : decode cL_law 150 = .ok (.bipush 6, 2) := by decide +kernel
theorem dL_law_152 : decode cL_law 152 = .ok (.invokevirtual 47, 3) := by decide +kernel
theorem dL_law_155 : decode cL_law 155 = .ok (.ifCond .le 7, 3) := by decide +kernel
theorem dL_law_158 : decode cL_law 158 = .ok (.iconst 1, 1) := by decide +kernel
theorem dL_law_159 : decode cL_law 159 = .ok (.goto 4, 3) := by decide +kernel
theorem dL_law_162 : decode cL_law 162 = .ok (.iconst 0, 1) := by decide +kernel
theorem dL_law_163 : decode cL_law 163 = .ok (.ireturn, 1) := by decide +kernel
