theorem dL_cell_0 : decode cL_cell 0 = .ok (.iload_n 1, 1) := by decide +kernel
theorem dL_cell_1 : decode cL_cell 1 = .ok (.aload_n 0, 1) := by decide +kernel
theorem dL_cell_2 : decode cL_cell 2 = .ok (.arraylength, 1) := by decide +kernel
theorem dL_cell_3 : decode cL_cell 3 = .ok (.if_icmp .ge 9, 3) := by decide +kernel
theorem dL_cell_6 : decode cL_cell 6 = .ok (.aload_n 0, 1) := by decide +kernel
theorem dL_cell_7 : decode cL_cell 7 = .ok (.iload_n 1, 1) := by decide +kernel
theorem dL_cell_8 : decode cL_cell 8 = .ok (.iaload, 1) := by decide +kernel
theorem dL_cell_9 : decode cL_cell 9 = .ok (.goto 9, 3) := by decide +kernel
theorem dL_cell_12 : decode cL_cell 12 = .ok (.ldc 7, 2) := by decide +kernel
theorem dL_cell_14 : decode cL_cell 14 = .ok (.iload_n 1, 1) := by decide +kernel
theorem dL_cell_15 : decode cL_cell 15 = .ok (.iconst 1, 1) := by decide +kernel
theorem dL_cell_16 : decode cL_cell 16 = .ok (.iadd, 1) := by decide +kernel
theorem dL_cell_17 : decode cL_cell 17 = .ok (.imul, 1) := by decide +kernel
theorem dL_cell_18 : decode cL_cell 18 = .ok (.ireturn, 1) := by decide +kernel
theorem dL_at_0 : decode cL_at 0 = .ok (.iload_n 0, 1) := by decide +kernel
theorem dL_at_1 : decode cL_at 1 = .ok (.iconst 1, 1) := by decide +kernel
theorem dL_at_2 : decode cL_at 2 = .ok (.iushr, 1) := by decide +kernel
theorem dL_at_3 : decode cL_at 3 = .ok (.iload_n 1, 1) := by decide +kernel
theorem dL_at_4 : decode cL_at 4 = .ok (.irem, 1) := by decide +kernel
theorem dL_at_5 : decode cL_at 5 = .ok (.ireturn, 1) := by decide +kernel
theorem dL_first_0 : decode cL_first 0 = .ok (.aload_n 3, 1) := by decide +kernel
theorem dL_first_1 : decode cL_first 1 = .ok (.iconst 4, 1) := by decide +kernel
theorem dL_first_2 : decode cL_first 2 = .ok (.iload_n 0, 1) := by decide +kernel
theorem dL_first_3 : decode cL_first 3 = .ok (.imul, 1) := by decide +kernel
theorem dL_first_4 : decode cL_first 4 = .ok (.iconst 1, 1) := by decide +kernel
theorem dL_first_5 : decode cL_first 5 = .ok (.iadd, 1) := by decide +kernel
theorem dL_first_6 : decode cL_first 6 = .ok (.iaload, 1) := by decide +kernel
theorem dL_first_7 : decode cL_first 7 = .ok (.aload_n 3, 1) := by decide +kernel
theorem dL_first_8 : decode cL_first 8 = .ok (.iconst 4, 1) := by decide +kernel
theorem dL_first_9 : decode cL_first 9 = .ok (.iload_n 1, 1) := by decide +kernel
theorem dL_first_10 : decode cL_first 10 = .ok (.imul, 1) := by decide +kernel
theorem dL_first_11 : decode cL_first 11 = .ok (.iconst 1, 1) := by decide +kernel
theorem dL_first_12 : decode cL_first 12 = .ok (.iadd, 1) := by decide +kernel
theorem dL_first_13 : decode cL_first 13 = .ok (.iaload, 1) := by decide +kernel
theorem dL_first_14 : decode cL_first 14 = .ok (.isub, 1) := by decide +kernel
theorem dL_first_15 : decode cL_first 15 = .ok (.istore 4, 2) := by decide +kernel
theorem dL_first_17 : decode cL_first 17 = .ok (.iload 4, 2) := by decide +kernel
theorem dL_first_19 : decode cL_first 19 = .ok (.ifCond .ne 21, 3) := by decide +kernel
theorem dL_first_22 : decode cL_first 22 = .ok (.aload_n 3, 1) := by decide +kernel
theorem dL_first_23 : decode cL_first 23 = .ok (.iconst 4, 1) := by decide +kernel
theorem dL_first_24 : decode cL_first 24 = .ok (.iload_n 0, 1) := by decide +kernel
theorem dL_first_25 : decode cL_first 25 = .ok (.imul, 1) := by decide +kernel
theorem dL_first_26 : decode cL_first 26 = .ok (.iconst 2, 1) := by decide +kernel
theorem dL_first_27 : decode cL_first 27 = .ok (.iadd, 1) := by decide +kernel
theorem dL_first_28 : decode cL_first 28 = .ok (.iaload, 1) := by decide +kernel
theorem dL_first_29 : decode cL_first 29 = .ok (.aload_n 3, 1) := by decide +kernel
theorem dL_first_30 : decode cL_first 30 = .ok (.iconst 4, 1) := by decide +kernel
theorem dL_first_31 : decode cL_first 31 = .ok (.iload_n 1, 1) := by decide +kernel
theorem dL_first_32 : decode cL_first 32 = .ok (.imul, 1) := by decide +kernel
theorem dL_first_33 : decode cL_first 33 = .ok (.iconst 2, 1) := by decide +kernel
theorem dL_first_34 : decode cL_first 34 = .ok (.iadd, 1) := by decide +kernel
theorem dL_first_35 : decode cL_first 35 = .ok (.iaload, 1) := by decide +kernel
theorem dL_first_36 : decode cL_first 36 = .ok (.isub, 1) := by decide +kernel
theorem dL_first_37 : decode cL_first 37 = .ok (.goto 5, 3) := by decide +kernel
theorem dL_first_40 : decode cL_first 40 = .ok (.iload 4, 2) := by decide +kernel
theorem dL_first_42 : decode cL_first 42 = .ok (.istore 4, 2) := by decide +kernel
theorem dL_first_44 : decode cL_first 44 = .ok (.iload 4, 2) := by decide +kernel
theorem dL_first_46 : decode cL_first 46 = .ok (.ifCond .ne 35, 3) := by decide +kernel
theorem dL_first_49 : decode cL_first 49 = .ok (.iload_n 0, 1) := by decide +kernel
theorem dL_first_50 : decode cL_first 50 = .ok (.iload_n 1, 1) := by decide +kernel
theorem dL_first_51 : decode cL_first 51 = .ok (.if_icmp .ge 7, 3) := by decide +kernel
theorem dL_first_54 : decode cL_first 54 = .ok (.iconst 1, 1) := by decide +kernel
theorem dL_first_55 : decode cL_first 55 = .ok (.goto 4, 3) := by decide +kernel
theorem dL_first_58 : decode cL_first 58 = .ok (.iconst 0, 1) := by decide +kernel
theorem dL_first_59 : decode cL_first 59 = .ok (.aload_n 2, 1) := by decide +kernel
theorem dL_first_60 : decode cL_first 60 = .ok (.iconst 1, 1) := by decide +kernel
theorem dL_first_61 : decode cL_first 61 = .ok (.iaload, 1) := by decide +kernel
theorem dL_first_62 : decode cL_first 62 = .ok (.ifCond .ne 7, 3) := by decide +kernel
theorem dL_first_65 : decode cL_first 65 = .ok (.iconst 1, 1) := by decide +kernel
theorem dL_first_66 : decode cL_first 66 = .ok (.goto 4, 3) := by decide +kernel
theorem dL_first_69 : decode cL_first 69 = .ok (.iconst 0, 1) := by decide +kernel
theorem dL_first_70 : decode cL_first 70 = .ok (.if_icmp .ne 7, 3) := by decide +kernel
theorem dL_first_73 : decode cL_first 73 = .ok (.iconst 1, 1) := by decide +kernel
theorem dL_first_74 : decode cL_first 74 = .ok (.goto 17, 3) := by decide +kernel
theorem dL_first_77 : decode cL_first 77 = .ok (.iconst 0, 1) := by decide +kernel
theorem dL_first_78 : decode cL_first 78 = .ok (.goto 13, 3) := by decide +kernel
theorem dL_first_81 : decode cL_first 81 = .ok (.iload 4, 2) := by decide +kernel
theorem dL_first_83 : decode cL_first 83 = .ok (.ifCond .le 7, 3) := by decide +kernel
theorem dL_first_86 : decode cL_first 86 = .ok (.iconst 1, 1) := by decide +kernel
theorem dL_first_87 : decode cL_first 87 = .ok (.goto 4, 3) := by decide +kernel
theorem dL_first_90 : decode cL_first 90 = .ok (.iconst 0, 1) := by decide +kernel
theorem dL_first_91 : decode cL_first 91 = .ok (.ireturn, 1) := by decide +kernel
theorem dL_wins_0 : decode cL_wins 0 = .ok (.aload 5, 2) := by decide +kernel
theorem dL_wins_2 : decode cL_wins 2 = .ok (.iconst 4, 1) := by decide +kernel
theorem dL_wins_3 : decode cL_wins 3 = .ok (.iload_n 0, 1) := by decide +kernel
theorem dL_wins_4 : decode cL_wins 4 = .ok (.imul, 1) := by decide +kernel
theorem dL_wins_5 : decode cL_wins 5 = .ok (.lconst 0, 1) := by decide +kernel
theorem dL_wins_6 : decode cL_wins 6 = .ok (.lastore, 1) := by decide +kernel
theorem dL_wins_7 : decode cL_wins 7 = .ok (.aload 5, 2) := by decide +kernel
theorem dL_wins_9 : decode cL_wins 9 = .ok (.iconst 4, 1) := by decide +kernel
theorem dL_wins_10 : decode cL_wins 10 = .ok (.iload_n 0, 1) := by decide +kernel
theorem dL_wins_11 : decode cL_wins 11 = .ok (.imul, 1) := by decide +kernel
theorem dL_wins_12 : decode cL_wins 12 = .ok (.iconst 1, 1) := by decide +kernel
theorem dL_wins_13 : decode cL_wins 13 = .ok (.iadd, 1) := by decide +kernel
theorem dL_wins_14 : decode cL_wins 14 = .ok (.lconst 1, 1) := by decide +kernel
theorem dL_wins_15 : decode cL_wins 15 = .ok (.lastore, 1) := by decide +kernel
theorem dL_wins_16 : decode cL_wins 16 = .ok (.aload 5, 2) := by decide +kernel
theorem dL_wins_18 : decode cL_wins 18 = .ok (.iconst 4, 1) := by decide +kernel
theorem dL_wins_19 : decode cL_wins 19 = .ok (.iload_n 0, 1) := by decide +kernel
theorem dL_wins_20 : decode cL_wins 20 = .ok (.imul, 1) := by decide +kernel
theorem dL_wins_21 : decode cL_wins 21 = .ok (.iconst 2, 1) := by decide +kernel
theorem dL_wins_22 : decode cL_wins 22 = .ok (.iadd, 1) := by decide +kernel
theorem dL_wins_23 : decode cL_wins 23 = .ok (.lconst 1, 1) := by decide +kernel
theorem dL_wins_24 : decode cL_wins 24 = .ok (.lastore, 1) := by decide +kernel
theorem dL_wins_25 : decode cL_wins 25 = .ok (.aload 5, 2) := by decide +kernel
theorem dL_wins_27 : decode cL_wins 27 = .ok (.iconst 4, 1) := by decide +kernel
theorem dL_wins_28 : decode cL_wins 28 = .ok (.iload_n 0, 1) := by decide +kernel
theorem dL_wins_29 : decode cL_wins 29 = .ok (.imul, 1) := by decide +kernel
theorem dL_wins_30 : decode cL_wins 30 = .ok (.iconst 3, 1) := by decide +kernel
theorem dL_wins_31 : decode cL_wins 31 = .ok (.iadd, 1) := by decide +kernel
theorem dL_wins_32 : decode cL_wins 32 = .ok (.lconst 0, 1) := by decide +kernel
theorem dL_wins_33 : decode cL_wins 33 = .ok (.lastore, 1) := by decide +kernel
theorem dL_wins_34 : decode cL_wins 34 = .ok (.iload_n 1, 1) := by decide +kernel
theorem dL_wins_35 : decode cL_wins 35 = .ok (.istore 7, 2) := by decide +kernel
theorem dL_wins_37 : decode cL_wins 37 = .ok (.iload 7, 2) := by decide +kernel
theorem dL_wins_39 : decode cL_wins 39 = .ok (.iload_n 1, 1) := by decide +kernel
theorem dL_wins_40 : decode cL_wins 40 = .ok (.iload_n 2, 1) := by decide +kernel
theorem dL_wins_41 : decode cL_wins 41 = .ok (.iadd, 1) := by decide +kernel
theorem dL_wins_42 : decode cL_wins 42 = .ok (.if_icmp .ge 208, 3) := by decide +kernel
theorem dL_wins_45 : decode cL_wins 45 = .ok (.iload 7, 2) := by decide +kernel
theorem dL_wins_47 : decode cL_wins 47 = .ok (.iload_n 0, 1) := by decide +kernel
theorem dL_wins_48 : decode cL_wins 48 = .ok (.if_icmp .eq 196, 3) := by decide +kernel
theorem dL_wins_51 : decode cL_wins 51 = .ok (.aload 4, 2) := by decide +kernel
theorem dL_wins_53 : decode cL_wins 53 = .ok (.iconst 4, 1) := by decide +kernel
theorem dL_wins_54 : decode cL_wins 54 = .ok (.iload 7, 2) := by decide +kernel
theorem dL_wins_56 : decode cL_wins 56 = .ok (.imul, 1) := by decide +kernel
theorem dL_wins_57 : decode cL_wins 57 = .ok (.iaload, 1) := by decide +kernel
theorem dL_wins_58 : decode cL_wins 58 = .ok (.ifCond .ne 6, 3) := by decide +kernel
theorem dL_wins_61 : decode cL_wins 61 = .ok (.goto 183, 3) := by decide +kernel
theorem dL_wins_64 : decode cL_wins 64 = .ok (.aload 4, 2) := by decide +kernel
theorem dL_wins_66 : decode cL_wins 66 = .ok (.iconst 4, 1) := by decide +kernel
theorem dL_wins_67 : decode cL_wins 67 = .ok (.iload_n 0, 1) := by decide +kernel
theorem dL_wins_68 : decode cL_wins 68 = .ok (.imul, 1) := by decide +kernel
theorem dL_wins_69 : decode cL_wins 69 = .ok (.iconst 2, 1) := by decide +kernel
theorem dL_wins_70 : decode cL_wins 70 = .ok (.iadd, 1) := by decide +kernel
theorem dL_wins_71 : decode cL_wins 71 = .ok (.iaload, 1) := by decide +kernel
theorem dL_wins_72 : decode cL_wins 72 = .ok (.aload 4, 2) := by decide +kernel
theorem dL_wins_74 : decode cL_wins 74 = .ok (.iconst 4, 1) := by decide +kernel
theorem dL_wins_75 : decode cL_wins 75 = .ok (.iload 7, 2) := by decide +kernel
theorem dL_wins_77 : decode cL_wins 77 = .ok (.imul, 1) := by decide +kernel
theorem dL_wins_78 : decode cL_wins 78 = .ok (.iconst 2, 1) := by decide +kernel
theorem dL_wins_79 : decode cL_wins 79 = .ok (.iadd, 1) := by decide +kernel
theorem dL_wins_80 : decode cL_wins 80 = .ok (.iaload, 1) := by decide +kernel
theorem dL_wins_81 : decode cL_wins 81 = .ok (.isub, 1) := by decide +kernel
theorem dL_wins_82 : decode cL_wins 82 = .ok (.i2l, 1) := by decide +kernel
theorem dL_wins_83 : decode cL_wins 83 = .ok (.lstore 8, 2) := by decide +kernel
theorem dL_wins_85 : decode cL_wins 85 = .ok (.aload 4, 2) := by decide +kernel
theorem dL_wins_87 : decode cL_wins 87 = .ok (.iconst 4, 1) := by decide +kernel
theorem dL_wins_88 : decode cL_wins 88 = .ok (.iload 7, 2) := by decide +kernel
theorem dL_wins_90 : decode cL_wins 90 = .ok (.imul, 1) := by decide +kernel
theorem dL_wins_91 : decode cL_wins 91 = .ok (.iconst 1, 1) := by decide +kernel
theorem dL_wins_92 : decode cL_wins 92 = .ok (.iadd, 1) := by decide +kernel
theorem dL_wins_93 : decode cL_wins 93 = .ok (.iaload, 1) := by decide +kernel
theorem dL_wins_94 : decode cL_wins 94 = .ok (.aload 4, 2) := by decide +kernel
theorem dL_wins_96 : decode cL_wins 96 = .ok (.iconst 4, 1) := by decide +kernel
theorem dL_wins_97 : decode cL_wins 97 = .ok (.iload_n 0, 1) := by decide +kernel
theorem dL_wins_98 : decode cL_wins 98 = .ok (.imul, 1) := by decide +kernel
theorem dL_wins_99 : decode cL_wins 99 = .ok (.iconst 1, 1) := by decide +kernel
theorem dL_wins_100 : decode cL_wins 100 = .ok (.iadd, 1) := by decide +kernel
theorem dL_wins_101 : decode cL_wins 101 = .ok (.iaload, 1) := by decide +kernel
theorem dL_wins_102 : decode cL_wins 102 = .ok (.isub, 1) := by decide +kernel
theorem dL_wins_103 : decode cL_wins 103 = .ok (.i2l, 1) := by decide +kernel
theorem dL_wins_104 : decode cL_wins 104 = .ok (.lstore 10, 2) := by decide +kernel
theorem dL_wins_106 : decode cL_wins 106 = .ok (.lload 8, 2) := by decide +kernel
theorem dL_wins_108 : decode cL_wins 108 = .ok (.lconst 0, 1) := by decide +kernel
theorem dL_wins_109 : decode cL_wins 109 = .ok (.lcmp, 1) := by decide +kernel
theorem dL_wins_110 : decode cL_wins 110 = .ok (.ifCond .ne 17, 3) := by decide +kernel
theorem dL_wins_113 : decode cL_wins 113 = .ok (.iload_n 0, 1) := by decide +kernel
theorem dL_wins_114 : decode cL_wins 114 = .ok (.iload 7, 2) := by decide +kernel
theorem dL_wins_116 : decode cL_wins 116 = .ok (.aload_n 3, 1) := by decide +kernel
theorem dL_wins_117 : decode cL_wins 117 = .ok (.aload 4, 2) := by decide +kernel
theorem dL_wins_119 : decode cL_wins 119 = .ok (.invokestatic 8, 3) := by decide +kernel
theorem dL_wins_122 : decode cL_wins 122 = .ok (.ifCond .ne 5, 3) := by decide +kernel
theorem dL_wins_125 : decode cL_wins 125 = .ok (.iconst 0, 1) := by decide +kernel
theorem dL_wins_126 : decode cL_wins 126 = .ok (.ireturn, 1) := by decide +kernel
theorem dL_wins_127 : decode cL_wins 127 = .ok (.lload 8, 2) := by decide +kernel
theorem dL_wins_129 : decode cL_wins 129 = .ok (.lconst 0, 1) := by decide +kernel
theorem dL_wins_130 : decode cL_wins 130 = .ok (.lcmp, 1) := by decide +kernel
theorem dL_wins_131 : decode cL_wins 131 = .ok (.ifCond .le 45, 3) := by decide +kernel
theorem dL_wins_134 : decode cL_wins 134 = .ok (.lload 10, 2) := by decide +kernel
theorem dL_wins_136 : decode cL_wins 136 = .ok (.aload 5, 2) := by decide +kernel
theorem dL_wins_138 : decode cL_wins 138 = .ok (.iconst 4, 1) := by decide +kernel
theorem dL_wins_139 : decode cL_wins 139 = .ok (.iload_n 0, 1) := by decide +kernel
theorem dL_wins_140 : decode cL_wins 140 = .ok (.imul, 1) := by decide +kernel
theorem dL_wins_141 : decode cL_wins 141 = .ok (.iconst 1, 1) := by decide +kernel
theorem dL_wins_142 : decode cL_wins 142 = .ok (.iadd, 1) := by decide +kernel
theorem dL_wins_143 : decode cL_wins 143 = .ok (.laload, 1) := by decide +kernel
theorem dL_wins_144 : decode cL_wins 144 = .ok (.lmul, 1) := by decide +kernel
theorem dL_wins_145 : decode cL_wins 145 = .ok (.aload 5, 2) := by decide +kernel
theorem dL_wins_147 : decode cL_wins 147 = .ok (.iconst 4, 1) := by decide +kernel
theorem dL_wins_148 : decode cL_wins 148 = .ok (.iload_n 0, 1) := by decide +kernel
theorem dL_wins_149 : decode cL_wins 149 = .ok (.imul, 1) := by decide +kernel
theorem dL_wins_150 : decode cL_wins 150 = .ok (.laload, 1) := by decide +kernel
theorem dL_wins_151 : decode cL_wins 151 = .ok (.lload 8, 2) := by decide +kernel
theorem dL_wins_153 : decode cL_wins 153 = .ok (.lmul, 1) := by decide +kernel
theorem dL_wins_154 : decode cL_wins 154 = .ok (.lcmp, 1) := by decide +kernel
theorem dL_wins_155 : decode cL_wins 155 = .ok (.ifCond .le 21, 3) := by decide +kernel
theorem dL_wins_158 : decode cL_wins 158 = .ok (.aload 5, 2) := by decide +kernel
theorem dL_wins_160 : decode cL_wins 160 = .ok (.iconst 4, 1) := by decide +kernel
theorem dL_wins_161 : decode cL_wins 161 = .ok (.iload_n 0, 1) := by decide +kernel
theorem dL_wins_162 : decode cL_wins 162 = .ok (.imul, 1) := by decide +kernel
theorem dL_wins_163 : decode cL_wins 163 = .ok (.lload 10, 2) := by decide +kernel
theorem dL_wins_165 : decode cL_wins 165 = .ok (.lastore, 1) := by decide +kernel
theorem dL_wins_166 : decode cL_wins 166 = .ok (.aload 5, 2) := by decide +kernel
theorem dL_wins_168 : decode cL_wins 168 = .ok (.iconst 4, 1) := by decide +kernel
theorem dL_wins_169 : decode cL_wins 169 = .ok (.iload_n 0, 1) := by decide +kernel
theorem dL_wins_170 : decode cL_wins 170 = .ok (.imul, 1) := by decide +kernel
theorem dL_wins_171 : decode cL_wins 171 = .ok (.iconst 1, 1) := by decide +kernel
theorem dL_wins_172 : decode cL_wins 172 = .ok (.iadd, 1) := by decide +kernel
theorem dL_wins_173 : decode cL_wins 173 = .ok (.lload 8, 2) := by decide +kernel
theorem dL_wins_175 : decode cL_wins 175 = .ok (.lastore, 1) := by decide +kernel
theorem dL_wins_176 : decode cL_wins 176 = .ok (.lload 8, 2) := by decide +kernel
theorem dL_wins_178 : decode cL_wins 178 = .ok (.lconst 0, 1) := by decide +kernel
theorem dL_wins_179 : decode cL_wins 179 = .ok (.lcmp, 1) := by decide +kernel
theorem dL_wins_180 : decode cL_wins 180 = .ok (.ifCond .ge 64, 3) := by decide +kernel
theorem dL_wins_183 : decode cL_wins 183 = .ok (.aload 5, 2) := by decide +kernel
theorem dL_wins_185 : decode cL_wins 185 = .ok (.iconst 4, 1) := by decide +kernel
theorem dL_wins_186 : decode cL_wins 186 = .ok (.iload_n 0, 1) := by decide +kernel
theorem dL_wins_187 : decode cL_wins 187 = .ok (.imul, 1) := by decide +kernel
theorem dL_wins_188 : decode cL_wins 188 = .ok (.iconst 3, 1) := by decide +kernel
theorem dL_wins_189 : decode cL_wins 189 = .ok (.iadd, 1) := by decide +kernel
theorem dL_wins_190 : decode cL_wins 190 = .ok (.laload, 1) := by decide +kernel
theorem dL_wins_191 : decode cL_wins 191 = .ok (.lconst 0, 1) := by decide +kernel
theorem dL_wins_192 : decode cL_wins 192 = .ok (.lcmp, 1) := by decide +kernel
theorem dL_wins_193 : decode cL_wins 193 = .ok (.ifCond .eq 29, 3) := by decide +kernel
theorem dL_wins_196 : decode cL_wins 196 = .ok (.lload 10, 2) := by decide +kernel
theorem dL_wins_198 : decode cL_wins 198 = .ok (.aload 5, 2) := by decide +kernel
theorem dL_wins_200 : decode cL_wins 200 = .ok (.iconst 4, 1) := by decide +kernel
theorem dL_wins_201 : decode cL_wins 201 = .ok (.iload_n 0, 1) := by decide +kernel
theorem dL_wins_202 : decode cL_wins 202 = .ok (.imul, 1) := by decide +kernel
theorem dL_wins_203 : decode cL_wins 203 = .ok (.iconst 3, 1) := by decide +kernel
theorem dL_wins_204 : decode cL_wins 204 = .ok (.iadd, 1) := by decide +kernel
theorem dL_wins_205 : decode cL_wins 205 = .ok (.laload, 1) := by decide +kernel
theorem dL_wins_206 : decode cL_wins 206 = .ok (.lmul, 1) := by decide +kernel
theorem dL_wins_207 : decode cL_wins 207 = .ok (.aload 5, 2) := by decide +kernel
theorem dL_wins_209 : decode cL_wins 209 = .ok (.iconst 4, 1) := by decide +kernel
theorem dL_wins_210 : decode cL_wins 210 = .ok (.iload_n 0, 1) := by decide +kernel
theorem dL_wins_211 : decode cL_wins 211 = .ok (.imul, 1) := by decide +kernel
theorem dL_wins_212 : decode cL_wins 212 = .ok (.iconst 2, 1) := by decide +kernel
theorem dL_wins_213 : decode cL_wins 213 = .ok (.iadd, 1) := by decide +kernel
theorem dL_wins_214 : decode cL_wins 214 = .ok (.laload, 1) := by decide +kernel
theorem dL_wins_215 : decode cL_wins 215 = .ok (.lload 8, 2) := by decide +kernel
theorem dL_wins_217 : decode cL_wins 217 = .ok (.lmul, 1) := by decide +kernel
theorem dL_wins_218 : decode cL_wins 218 = .ok (.lcmp, 1) := by decide +kernel
theorem dL_wins_219 : decode cL_wins 219 = .ok (.ifCond .le 25, 3) := by decide +kernel
theorem dL_wins_222 : decode cL_wins 222 = .ok (.aload 5, 2) := by decide +kernel
theorem dL_wins_224 : decode cL_wins 224 = .ok (.iconst 4, 1) := by decide +kernel
theorem dL_wins_225 : decode cL_wins 225 = .ok (.iload_n 0, 1) := by decide +kernel
theorem dL_wins_226 : decode cL_wins 226 = .ok (.imul, 1) := by decide +kernel
theorem dL_wins_227 : decode cL_wins 227 = .ok (.iconst 2, 1) := by decide +kernel
theorem dL_wins_228 : decode cL_wins 228 = .ok (.iadd, 1) := by decide +kernel
theorem dL_wins_229 : decode cL_wins 229 = .ok (.lload 10, 2) := by decide +kernel
theorem dL_wins_231 : decode cL_wins 231 = .ok (.lneg, 1) := by decide +kernel
theorem dL_wins_232 : decode cL_wins 232 = .ok (.lastore, 1) := by decide +kernel
theorem dL_wins_233 : decode cL_wins 233 = .ok (.aload 5, 2) := by decide +kernel
theorem dL_wins_235 : decode cL_wins 235 = .ok (.iconst 4, 1) := by decide +kernel
theorem dL_wins_236 : decode cL_wins 236 = .ok (.iload_n 0, 1) := by decide +kernel
theorem dL_wins_237 : decode cL_wins 237 = .ok (.imul, 1) := by decide +kernel
theorem dL_wins_238 : decode cL_wins 238 = .ok (.iconst 3, 1) := by decide +kernel
theorem dL_wins_239 : decode cL_wins 239 = .ok (.iadd, 1) := by decide +kernel
theorem dL_wins_240 : decode cL_wins 240 = .ok (.lload 8, 2) := by decide +kernel
theorem dL_wins_242 : decode cL_wins 242 = .ok (.lneg, 1) := by decide +kernel
theorem dL_wins_243 : decode cL_wins 243 = .ok (.lastore, 1) := by decide +kernel
theorem dL_wins_244 : decode cL_wins 244 = .ok (.iinc 7 1, 3) := by decide +kernel
theorem dL_wins_247 : decode cL_wins 247 = .ok (.goto (-210), 3) := by decide +kernel
theorem dL_wins_250 : decode cL_wins 250 = .ok (.aload 5, 2) := by decide +kernel
theorem dL_wins_252 : decode cL_wins 252 = .ok (.iconst 4, 1) := by decide +kernel
theorem dL_wins_253 : decode cL_wins 253 = .ok (.iload_n 0, 1) := by decide +kernel
theorem dL_wins_254 : decode cL_wins 254 = .ok (.imul, 1) := by decide +kernel
theorem dL_wins_255 : decode cL_wins 255 = .ok (.iconst 3, 1) := by decide +kernel
theorem dL_wins_256 : decode cL_wins 256 = .ok (.iadd, 1) := by decide +kernel
theorem dL_wins_257 : decode cL_wins 257 = .ok (.laload, 1) := by decide +kernel
theorem dL_wins_258 : decode cL_wins 258 = .ok (.lconst 0, 1) := by decide +kernel
theorem dL_wins_259 : decode cL_wins 259 = .ok (.lcmp, 1) := by decide +kernel
theorem dL_wins_260 : decode cL_wins 260 = .ok (.ifCond .eq 39, 3) := by decide +kernel
theorem dL_wins_263 : decode cL_wins 263 = .ok (.aload 5, 2) := by decide +kernel
theorem dL_wins_265 : decode cL_wins 265 = .ok (.iconst 4, 1) := by decide +kernel
theorem dL_wins_266 : decode cL_wins 266 = .ok (.iload_n 0, 1) := by decide +kernel
theorem dL_wins_267 : decode cL_wins 267 = .ok (.imul, 1) := by decide +kernel
theorem dL_wins_268 : decode cL_wins 268 = .ok (.laload, 1) := by decide +kernel
theorem dL_wins_269 : decode cL_wins 269 = .ok (.aload 5, 2) := by decide +kernel
theorem dL_wins_271 : decode cL_wins 271 = .ok (.iconst 4, 1) := by decide +kernel
theorem dL_wins_272 : decode cL_wins 272 = .ok (.iload_n 0, 1) := by decide +kernel
theorem dL_wins_273 : decode cL_wins 273 = .ok (.imul, 1) := by decide +kernel
theorem dL_wins_274 : decode cL_wins 274 = .ok (.iconst 3, 1) := by decide +kernel
theorem dL_wins_275 : decode cL_wins 275 = .ok (.iadd, 1) := by decide +kernel
theorem dL_wins_276 : decode cL_wins 276 = .ok (.laload, 1) := by decide +kernel
theorem dL_wins_277 : decode cL_wins 277 = .ok (.lmul, 1) := by decide +kernel
theorem dL_wins_278 : decode cL_wins 278 = .ok (.aload 5, 2) := by decide +kernel
theorem dL_wins_280 : decode cL_wins 280 = .ok (.iconst 4, 1) := by decide +kernel
theorem dL_wins_281 : decode cL_wins 281 = .ok (.iload_n 0, 1) := by decide +kernel
theorem dL_wins_282 : decode cL_wins 282 = .ok (.imul, 1) := by decide +kernel
theorem dL_wins_283 : decode cL_wins 283 = .ok (.iconst 2, 1) := by decide +kernel
theorem dL_wins_284 : decode cL_wins 284 = .ok (.iadd, 1) := by decide +kernel
theorem dL_wins_285 : decode cL_wins 285 = .ok (.laload, 1) := by decide +kernel
theorem dL_wins_286 : decode cL_wins 286 = .ok (.aload 5, 2) := by decide +kernel
theorem dL_wins_288 : decode cL_wins 288 = .ok (.iconst 4, 1) := by decide +kernel
theorem dL_wins_289 : decode cL_wins 289 = .ok (.iload_n 0, 1) := by decide +kernel
theorem dL_wins_290 : decode cL_wins 290 = .ok (.imul, 1) := by decide +kernel
theorem dL_wins_291 : decode cL_wins 291 = .ok (.iconst 1, 1) := by decide +kernel
theorem dL_wins_292 : decode cL_wins 292 = .ok (.iadd, 1) := by decide +kernel
theorem dL_wins_293 : decode cL_wins 293 = .ok (.laload, 1) := by decide +kernel
theorem dL_wins_294 : decode cL_wins 294 = .ok (.lmul, 1) := by decide +kernel
theorem dL_wins_295 : decode cL_wins 295 = .ok (.lcmp, 1) := by decide +kernel
theorem dL_wins_296 : decode cL_wins 296 = .ok (.ifCond .ge 7, 3) := by decide +kernel
theorem dL_wins_299 : decode cL_wins 299 = .ok (.iconst 1, 1) := by decide +kernel
theorem dL_wins_300 : decode cL_wins 300 = .ok (.goto 4, 3) := by decide +kernel
theorem dL_wins_303 : decode cL_wins 303 = .ok (.iconst 0, 1) := by decide +kernel
theorem dL_wins_304 : decode cL_wins 304 = .ok (.ireturn, 1) := by decide +kernel
theorem dL_size_0 : decode cL_size 0 = .ok (.iload_n 0, 1) := by decide +kernel
theorem dL_size_1 : decode cL_size 1 = .ok (.iconst 1, 1) := by decide +kernel
theorem dL_size_2 : decode cL_size 2 = .ok (.if_icmp .ne 8, 3) := by decide +kernel
theorem dL_size_5 : decode cL_size 5 = .ok (.bipush 16, 2) := by decide +kernel
theorem dL_size_7 : decode cL_size 7 = .ok (.goto 24, 3) := by decide +kernel
theorem dL_size_10 : decode cL_size 10 = .ok (.iload_n 0, 1) := by decide +kernel
theorem dL_size_11 : decode cL_size 11 = .ok (.iconst 4, 1) := by decide +kernel
theorem dL_size_12 : decode cL_size 12 = .ok (.if_icmp .ge 8, 3) := by decide +kernel
theorem dL_size_15 : decode cL_size 15 = .ok (.bipush 8, 2) := by decide +kernel
theorem dL_size_17 : decode cL_size 17 = .ok (.goto 14, 3) := by decide +kernel
theorem dL_size_20 : decode cL_size 20 = .ok (.iload_n 0, 1) := by decide +kernel
theorem dL_size_21 : decode cL_size 21 = .ok (.bipush 8, 2) := by decide +kernel
theorem dL_size_23 : decode cL_size 23 = .ok (.if_icmp .ge 7, 3) := by decide +kernel
theorem dL_size_26 : decode cL_size 26 = .ok (.iconst 4, 1) := by decide +kernel
theorem dL_size_27 : decode cL_size 27 = .ok (.goto 4, 3) := by decide +kernel
theorem dL_size_30 : decode cL_size 30 = .ok (.iconst 2, 1) := by decide +kernel
theorem dL_size_31 : decode cL_size 31 = .ok (.ireturn, 1) := by decide +kernel
theorem dL_begin_0 : decode cL_begin 0 = .ok (.iload_n 0, 1) := by decide +kernel
theorem dL_begin_1 : decode cL_begin 1 = .ok (.iload_n 0, 1) := by decide +kernel
theorem dL_begin_2 : decode cL_begin 2 = .ok (.invokestatic 14, 3) := by decide +kernel
theorem dL_begin_5 : decode cL_begin 5 = .ok (.imul, 1) := by decide +kernel
theorem dL_begin_6 : decode cL_begin 6 = .ok (.bipush 16, 2) := by decide +kernel
theorem dL_begin_8 : decode cL_begin 8 = .ok (.isub, 1) := by decide +kernel
theorem dL_begin_9 : decode cL_begin 9 = .ok (.ireturn, 1) := by decide +kernel
theorem dL_turns_0 : decode cL_turns 0 = .ok (.iconst 0, 1) := by decide +kernel
theorem dL_turns_1 : decode cL_turns 1 = .ok (.istore 6, 2) := by decide +kernel
theorem dL_turns_3 : decode cL_turns 3 = .ok (.aload 5, 2) := by decide +kernel
theorem dL_turns_5 : decode cL_turns 5 = .ok (.iconst 0, 1) := by decide +kernel
theorem dL_turns_6 : decode cL_turns 6 = .ok (.ldc2_w 18, 3) := by decide +kernel
theorem dL_turns_9 : decode cL_turns 9 = .ok (.lastore, 1) := by decide +kernel
theorem dL_turns_10 : decode cL_turns 10 = .ok (.aload 5, 2) := by decide +kernel
theorem dL_turns_12 : decode cL_turns 12 = .ok (.iconst 1, 1) := by decide +kernel
theorem dL_turns_13 : decode cL_turns 13 = .ok (.ldc2_w 18, 3) := by decide +kernel
theorem dL_turns_16 : decode cL_turns 16 = .ok (.lastore, 1) := by decide +kernel
theorem dL_turns_17 : decode cL_turns 17 = .ok (.aload 5, 2) := by decide +kernel
theorem dL_turns_19 : decode cL_turns 19 = .ok (.iconst 2, 1) := by decide +kernel
theorem dL_turns_20 : decode cL_turns 20 = .ok (.lconst 0, 1) := by decide +kernel
theorem dL_turns_21 : decode cL_turns 21 = .ok (.lastore, 1) := by decide +kernel
theorem dL_turns_22 : decode cL_turns 22 = .ok (.aload 5, 2) := by decide +kernel
theorem dL_turns_24 : decode cL_turns 24 = .ok (.iconst 3, 1) := by decide +kernel
theorem dL_turns_25 : decode cL_turns 25 = .ok (.lconst 0, 1) := by decide +kernel
theorem dL_turns_26 : decode cL_turns 26 = .ok (.lastore, 1) := by decide +kernel
theorem dL_turns_27 : decode cL_turns 27 = .ok (.iload_n 0, 1) := by decide +kernel
theorem dL_turns_28 : decode cL_turns 28 = .ok (.invokestatic 20, 3) := by decide +kernel
theorem dL_turns_31 : decode cL_turns 31 = .ok (.istore 7, 2) := by decide +kernel
theorem dL_turns_33 : decode cL_turns 33 = .ok (.iload 7, 2) := by decide +kernel
theorem dL_turns_35 : decode cL_turns 35 = .ok (.iload_n 0, 1) := by decide +kernel
theorem dL_turns_36 : decode cL_turns 36 = .ok (.invokestatic 20, 3) := by decide +kernel
theorem dL_turns_39 : decode cL_turns 39 = .ok (.iload_n 0, 1) := by decide +kernel
theorem dL_turns_40 : decode cL_turns 40 = .ok (.invokestatic 14, 3) := by decide +kernel
theorem dL_turns_43 : decode cL_turns 43 = .ok (.iadd, 1) := by decide +kernel
theorem dL_turns_44 : decode cL_turns 44 = .ok (.if_icmp .ge 171, 3) := by decide +kernel
theorem dL_turns_47 : decode cL_turns 47 = .ok (.aload_n 3, 1) := by decide +kernel
theorem dL_turns_48 : decode cL_turns 48 = .ok (.iconst 4, 1) := by decide +kernel
theorem dL_turns_49 : decode cL_turns 49 = .ok (.iload 7, 2) := by decide +kernel
theorem dL_turns_51 : decode cL_turns 51 = .ok (.imul, 1) := by decide +kernel
theorem dL_turns_52 : decode cL_turns 52 = .ok (.iaload, 1) := by decide +kernel
theorem dL_turns_53 : decode cL_turns 53 = .ok (.ifCond .eq 156, 3) := by decide +kernel
theorem dL_turns_56 : decode cL_turns 56 = .ok (.iload 7, 2) := by decide +kernel
theorem dL_turns_58 : decode cL_turns 58 = .ok (.iload_n 0, 1) := by decide +kernel
theorem dL_turns_59 : decode cL_turns 59 = .ok (.invokestatic 20, 3) := by decide +kernel
theorem dL_turns_62 : decode cL_turns 62 = .ok (.iload_n 0, 1) := by decide +kernel
theorem dL_turns_63 : decode cL_turns 63 = .ok (.invokestatic 14, 3) := by decide +kernel
theorem dL_turns_66 : decode cL_turns 66 = .ok (.aload_n 2, 1) := by decide +kernel
theorem dL_turns_67 : decode cL_turns 67 = .ok (.aload_n 3, 1) := by decide +kernel
theorem dL_turns_68 : decode cL_turns 68 = .ok (.aload 4, 2) := by decide +kernel
theorem dL_turns_70 : decode cL_turns 70 = .ok (.aload 5, 2) := by decide +kernel
theorem dL_turns_72 : decode cL_turns 72 = .ok (.invokestatic 23, 3) := by decide +kernel
theorem dL_turns_75 : decode cL_turns 75 = .ok (.ifCond .ne 6, 3) := by decide +kernel
theorem dL_turns_78 : decode cL_turns 78 = .ok (.goto 131, 3) := by decide +kernel
theorem dL_turns_81 : decode cL_turns 81 = .ok (.aload 4, 2) := by decide +kernel
theorem dL_turns_83 : decode cL_turns 83 = .ok (.iconst 4, 1) := by decide +kernel
theorem dL_turns_84 : decode cL_turns 84 = .ok (.iload 7, 2) := by decide +kernel
theorem dL_turns_86 : decode cL_turns 86 = .ok (.imul, 1) := by decide +kernel
theorem dL_turns_87 : decode cL_turns 87 = .ok (.laload, 1) := by decide +kernel
theorem dL_turns_88 : decode cL_turns 88 = .ok (.lconst 0, 1) := by decide +kernel
theorem dL_turns_89 : decode cL_turns 89 = .ok (.lcmp, 1) := by decide +kernel
theorem dL_turns_90 : decode cL_turns 90 = .ok (.ifCond .ne 13, 3) := by decide +kernel
theorem dL_turns_93 : decode cL_turns 93 = .ok (.aload 5, 2) := by decide +kernel
theorem dL_turns_95 : decode cL_turns 95 = .ok (.iconst 0, 1) := by decide +kernel
theorem dL_turns_96 : decode cL_turns 96 = .ok (.iload 7, 2) := by decide +kernel
theorem dL_turns_98 : decode cL_turns 98 = .ok (.i2l, 1) := by decide +kernel
theorem dL_turns_99 : decode cL_turns 99 = .ok (.lastore, 1) := by decide +kernel
theorem dL_turns_100 : decode cL_turns 100 = .ok (.goto 109, 3) := by decide +kernel
theorem dL_turns_103 : decode cL_turns 103 = .ok (.iload 6, 2) := by decide +kernel
theorem dL_turns_105 : decode cL_turns 105 = .ok (.aload 4, 2) := by decide +kernel
theorem dL_turns_107 : decode cL_turns 107 = .ok (.iconst 4, 1) := by decide +kernel
theorem dL_turns_108 : decode cL_turns 108 = .ok (.iload 7, 2) := by decide +kernel
theorem dL_turns_110 : decode cL_turns 110 = .ok (.imul, 1) := by decide +kernel
theorem dL_turns_111 : decode cL_turns 111 = .ok (.laload, 1) := by decide +kernel
theorem dL_turns_112 : decode cL_turns 112 = .ok (.iload_n 1, 1) := by decide +kernel
theorem dL_turns_113 : decode cL_turns 113 = .ok (.i2l, 1) := by decide +kernel
theorem dL_turns_114 : decode cL_turns 114 = .ok (.aload 4, 2) := by decide +kernel
theorem dL_turns_116 : decode cL_turns 116 = .ok (.iconst 4, 1) := by decide +kernel
theorem dL_turns_117 : decode cL_turns 117 = .ok (.iload 7, 2) := by decide +kernel
theorem dL_turns_119 : decode cL_turns 119 = .ok (.imul, 1) := by decide +kernel
theorem dL_turns_120 : decode cL_turns 120 = .ok (.iconst 1, 1) := by decide +kernel
theorem dL_turns_121 : decode cL_turns 121 = .ok (.iadd, 1) := by decide +kernel
theorem dL_turns_122 : decode cL_turns 122 = .ok (.laload, 1) := by decide +kernel
theorem dL_turns_123 : decode cL_turns 123 = .ok (.lmul, 1) := by decide +kernel
theorem dL_turns_124 : decode cL_turns 124 = .ok (.lcmp, 1) := by decide +kernel
theorem dL_turns_125 : decode cL_turns 125 = .ok (.ifCond .gt 7, 3) := by decide +kernel
theorem dL_turns_128 : decode cL_turns 128 = .ok (.iconst 1, 1) := by decide +kernel
theorem dL_turns_129 : decode cL_turns 129 = .ok (.goto 4, 3) := by decide +kernel
theorem dL_turns_132 : decode cL_turns 132 = .ok (.iconst 0, 1) := by decide +kernel
theorem dL_turns_133 : decode cL_turns 133 = .ok (.iadd, 1) := by decide +kernel
theorem dL_turns_134 : decode cL_turns 134 = .ok (.istore 6, 2) := by decide +kernel
theorem dL_turns_136 : decode cL_turns 136 = .ok (.aload 5, 2) := by decide +kernel
theorem dL_turns_138 : decode cL_turns 138 = .ok (.iconst 1, 1) := by decide +kernel
theorem dL_turns_139 : decode cL_turns 139 = .ok (.laload, 1) := by decide +kernel
theorem dL_turns_140 : decode cL_turns 140 = .ok (.lconst 0, 1) := by decide +kernel
theorem dL_turns_141 : decode cL_turns 141 = .ok (.lcmp, 1) := by decide +kernel
theorem dL_turns_142 : decode cL_turns 142 = .ok (.ifCond .lt 36, 3) := by decide +kernel
theorem dL_turns_145 : decode cL_turns 145 = .ok (.aload 4, 2) := by decide +kernel
theorem dL_turns_147 : decode cL_turns 147 = .ok (.iconst 4, 1) := by decide +kernel
theorem dL_turns_148 : decode cL_turns 148 = .ok (.iload 7, 2) := by decide +kernel
theorem dL_turns_150 : decode cL_turns 150 = .ok (.imul, 1) := by decide +kernel
theorem dL_turns_151 : decode cL_turns 151 = .ok (.laload, 1) := by decide +kernel
theorem dL_turns_152 : decode cL_turns 152 = .ok (.aload 5, 2) := by decide +kernel
theorem dL_turns_154 : decode cL_turns 154 = .ok (.iconst 3, 1) := by decide +kernel
theorem dL_turns_155 : decode cL_turns 155 = .ok (.laload, 1) := by decide +kernel
theorem dL_turns_156 : decode cL_turns 156 = .ok (.lmul, 1) := by decide +kernel
theorem dL_turns_157 : decode cL_turns 157 = .ok (.aload 5, 2) := by decide +kernel
theorem dL_turns_159 : decode cL_turns 159 = .ok (.iconst 2, 1) := by decide +kernel
theorem dL_turns_160 : decode cL_turns 160 = .ok (.laload, 1) := by decide +kernel
theorem dL_turns_161 : decode cL_turns 161 = .ok (.aload 4, 2) := by decide +kernel
theorem dL_turns_163 : decode cL_turns 163 = .ok (.iconst 4, 1) := by decide +kernel
theorem dL_turns_164 : decode cL_turns 164 = .ok (.iload 7, 2) := by decide +kernel
theorem dL_turns_166 : decode cL_turns 166 = .ok (.imul, 1) := by decide +kernel
theorem dL_turns_167 : decode cL_turns 167 = .ok (.iconst 1, 1) := by decide +kernel
theorem dL_turns_168 : decode cL_turns 168 = .ok (.iadd, 1) := by decide +kernel
theorem dL_turns_169 : decode cL_turns 169 = .ok (.laload, 1) := by decide +kernel
theorem dL_turns_170 : decode cL_turns 170 = .ok (.lmul, 1) := by decide +kernel
theorem dL_turns_171 : decode cL_turns 171 = .ok (.lcmp, 1) := by decide +kernel
theorem dL_turns_172 : decode cL_turns 172 = .ok (.ifCond .lt 6, 3) := by decide +kernel
theorem dL_turns_175 : decode cL_turns 175 = .ok (.goto 34, 3) := by decide +kernel
theorem dL_turns_178 : decode cL_turns 178 = .ok (.aload 5, 2) := by decide +kernel
theorem dL_turns_180 : decode cL_turns 180 = .ok (.iconst 1, 1) := by decide +kernel
theorem dL_turns_181 : decode cL_turns 181 = .ok (.iload 7, 2) := by decide +kernel
theorem dL_turns_183 : decode cL_turns 183 = .ok (.i2l, 1) := by decide +kernel
theorem dL_turns_184 : decode cL_turns 184 = .ok (.lastore, 1) := by decide +kernel
theorem dL_turns_185 : decode cL_turns 185 = .ok (.aload 5, 2) := by decide +kernel
theorem dL_turns_187 : decode cL_turns 187 = .ok (.iconst 2, 1) := by decide +kernel
theorem dL_turns_188 : decode cL_turns 188 = .ok (.aload 4, 2) := by decide +kernel
theorem dL_turns_190 : decode cL_turns 190 = .ok (.iconst 4, 1) := by decide +kernel
theorem dL_turns_191 : decode cL_turns 191 = .ok (.iload 7, 2) := by decide +kernel
theorem dL_turns_193 : decode cL_turns 193 = .ok (.imul, 1) := by decide +kernel
theorem dL_turns_194 : decode cL_turns 194 = .ok (.laload, 1) := by decide +kernel
theorem dL_turns_195 : decode cL_turns 195 = .ok (.lastore, 1) := by decide +kernel
theorem dL_turns_196 : decode cL_turns 196 = .ok (.aload 5, 2) := by decide +kernel
theorem dL_turns_198 : decode cL_turns 198 = .ok (.iconst 3, 1) := by decide +kernel
theorem dL_turns_199 : decode cL_turns 199 = .ok (.aload 4, 2) := by decide +kernel
theorem dL_turns_201 : decode cL_turns 201 = .ok (.iconst 4, 1) := by decide +kernel
theorem dL_turns_202 : decode cL_turns 202 = .ok (.iload 7, 2) := by decide +kernel
theorem dL_turns_204 : decode cL_turns 204 = .ok (.imul, 1) := by decide +kernel
theorem dL_turns_205 : decode cL_turns 205 = .ok (.iconst 1, 1) := by decide +kernel
theorem dL_turns_206 : decode cL_turns 206 = .ok (.iadd, 1) := by decide +kernel
theorem dL_turns_207 : decode cL_turns 207 = .ok (.laload, 1) := by decide +kernel
theorem dL_turns_208 : decode cL_turns 208 = .ok (.lastore, 1) := by decide +kernel
theorem dL_turns_209 : decode cL_turns 209 = .ok (.iinc 7 1, 3) := by decide +kernel
theorem dL_turns_212 : decode cL_turns 212 = .ok (.goto (-179), 3) := by decide +kernel
theorem dL_turns_215 : decode cL_turns 215 = .ok (.iload 6, 2) := by decide +kernel
theorem dL_turns_217 : decode cL_turns 217 = .ok (.ireturn, 1) := by decide +kernel
theorem dL_same_0 : decode cL_same 0 = .ok (.lload_n 2, 1) := by decide +kernel
theorem dL_same_1 : decode cL_same 1 = .ok (.lconst 0, 1) := by decide +kernel
theorem dL_same_2 : decode cL_same 2 = .ok (.lcmp, 1) := by decide +kernel
theorem dL_same_3 : decode cL_same 3 = .ok (.ifCond .ne 19, 3) := by decide +kernel
theorem dL_same_6 : decode cL_same 6 = .ok (.iload 4, 2) := by decide +kernel
theorem dL_same_8 : decode cL_same 8 = .ok (.ifCond .ne 12, 3) := by decide +kernel
theorem dL_same_11 : decode cL_same 11 = .ok (.iload 5, 2) := by decide +kernel
theorem dL_same_13 : decode cL_same 13 = .ok (.ifCond .ne 7, 3) := by decide +kernel
theorem dL_same_16 : decode cL_same 16 = .ok (.iconst 1, 1) := by decide +kernel
theorem dL_same_17 : decode cL_same 17 = .ok (.goto 4, 3) := by decide +kernel
theorem dL_same_20 : decode cL_same 20 = .ok (.iconst 0, 1) := by decide +kernel
theorem dL_same_21 : decode cL_same 21 = .ok (.ireturn, 1) := by decide +kernel
theorem dL_same_22 : decode cL_same 22 = .ok (.iload 5, 2) := by decide +kernel
theorem dL_same_24 : decode cL_same 24 = .ok (.iconst 1, 1) := by decide +kernel
theorem dL_same_25 : decode cL_same 25 = .ok (.if_icmp .lt 25, 3) := by decide +kernel
theorem dL_same_28 : decode cL_same 28 = .ok (.aload 6, 2) := by decide +kernel
theorem dL_same_30 : decode cL_same 30 = .ok (.iconst 0, 1) := by decide +kernel
theorem dL_same_31 : decode cL_same 31 = .ok (.iaload, 1) := by decide +kernel
theorem dL_same_32 : decode cL_same 32 = .ok (.i2l, 1) := by decide +kernel
theorem dL_same_33 : decode cL_same 33 = .ok (.lload_n 2, 1) := by decide +kernel
theorem dL_same_34 : decode cL_same 34 = .ok (.lmul, 1) := by decide +kernel
theorem dL_same_35 : decode cL_same 35 = .ok (.lload_n 0, 1) := by decide +kernel
theorem dL_same_36 : decode cL_same 36 = .ok (.ladd, 1) := by decide +kernel
theorem dL_same_37 : decode cL_same 37 = .ok (.iload 5, 2) := by decide +kernel
theorem dL_same_39 : decode cL_same 39 = .ok (.i2l, 1) := by decide +kernel
theorem dL_same_40 : decode cL_same 40 = .ok (.lmul, 1) := by decide +kernel
theorem dL_same_41 : decode cL_same 41 = .ok (.iload 4, 2) := by decide +kernel
theorem dL_same_43 : decode cL_same 43 = .ok (.i2l, 1) := by decide +kernel
theorem dL_same_44 : decode cL_same 44 = .ok (.lload_n 2, 1) := by decide +kernel
theorem dL_same_45 : decode cL_same 45 = .ok (.lmul, 1) := by decide +kernel
theorem dL_same_46 : decode cL_same 46 = .ok (.lcmp, 1) := by decide +kernel
theorem dL_same_47 : decode cL_same 47 = .ok (.ifCond .eq 5, 3) := by decide +kernel
theorem dL_same_50 : decode cL_same 50 = .ok (.iconst 0, 1) := by decide +kernel
