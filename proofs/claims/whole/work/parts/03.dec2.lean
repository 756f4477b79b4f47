theorem dX10_isLetter_12 : decode cX10_isLetter 12 = .ok (.iconst 1, 1) := by decide +kernel
theorem dX10_isLetter_13 : decode cX10_isLetter 13 = .ok (.goto 4, 3) := by decide +kernel
theorem dX10_isLetter_16 : decode cX10_isLetter 16 = .ok (.iconst 0, 1) := by decide +kernel
theorem dX10_isLetter_17 : decode cX10_isLetter 17 = .ok (.ireturn, 1) := by decide +kernel
theorem dX10_isDigit_0 : decode cX10_isDigit 0 = .ok (.iload_n 0, 1) := by decide +kernel
theorem dX10_isDigit_1 : decode cX10_isDigit 1 = .ok (.bipush 48, 2) := by decide +kernel
theorem dX10_isDigit_3 : decode cX10_isDigit 3 = .ok (.if_icmp .lt 13, 3) := by decide +kernel
theorem dX10_isDigit_6 : decode cX10_isDigit 6 = .ok (.iload_n 0, 1) := by decide +kernel
theorem dX10_isDigit_7 : decode cX10_isDigit 7 = .ok (.bipush 57, 2) := by decide +kernel
theorem dX10_isDigit_9 : decode cX10_isDigit 9 = .ok (.if_icmp .gt 7, 3) := by decide +kernel
theorem dX10_isDigit_12 : decode cX10_isDigit 12 = .ok (.iconst 1, 1) := by decide +kernel
theorem dX10_isDigit_13 : decode cX10_isDigit 13 = .ok (.goto 4, 3) := by decide +kernel
theorem dX10_isDigit_16 : decode cX10_isDigit 16 = .ok (.iconst 0, 1) := by decide +kernel
theorem dX10_isDigit_17 : decode cX10_isDigit 17 = .ok (.ireturn, 1) := by decide +kernel
theorem dX10_wordOf_0 : decode cX10_wordOf 0 = .ok (.lconst 0, 1) := by decide +kernel
theorem dX10_wordOf_1 : decode cX10_wordOf 1 = .ok (.lstore_n 1, 1) := by decide +kernel
theorem dX10_wordOf_2 : decode cX10_wordOf 2 = .ok (.iconst 0, 1) := by decide +kernel
theorem dX10_wordOf_3 : decode cX10_wordOf 3 = .ok (.istore_n 3, 1) := by decide +kernel
theorem dX10_wordOf_4 : decode cX10_wordOf 4 = .ok (.iload_n 3, 1) := by decide +kernel
theorem dX10_wordOf_5 : decode cX10_wordOf 5 = .ok (.aload_n 0, 1) := by decide +kernel
theorem dX10_wordOf_6 : decode cX10_wordOf 6 = .ok (.invokevirtual 72, 3) := by decide +kernel
theorem dX10_wordOf_9 : decode cX10_wordOf 9 = .ok (.if_icmp .ge 27, 3) := by decide +kernel
theorem dX10_wordOf_12 : decode cX10_wordOf 12 = .ok (.ldc2_w 78, 3) := by decide +kernel
theorem dX10_wordOf_15 : decode cX10_wordOf 15 = .ok (.lload_n 1, 1) := by decide +kernel
theorem dX10_wordOf_16 : decode cX10_wordOf 16 = .ok (.lmul, 1) := by decide +kernel
theorem dX10_wordOf_17 : decode cX10_wordOf 17 = .ok (.aload_n 0, 1) := by decide +kernel
theorem dX10_wordOf_18 : decode cX10_wordOf 18 = .ok (.iload_n 3, 1) := by decide +kernel
theorem dX10_wordOf_19 : decode cX10_wordOf 19 = .ok (.invokevirtual 80, 3) := by decide +kernel
theorem dX10_wordOf_22 : decode cX10_wordOf 22 = .ok (.bipush 97, 2) := by decide +kernel
theorem dX10_wordOf_24 : decode cX10_wordOf 24 = .ok (.isub, 1) := by decide +kernel
theorem dX10_wordOf_25 : decode cX10_wordOf 25 = .ok (.iconst 1, 1) := by decide +kernel
theorem dX10_wordOf_26 : decode cX10_wordOf 26 = .ok (.iadd, 1) := by decide +kernel
theorem dX10_wordOf_27 : decode cX10_wordOf 27 = .ok (.i2l, 1) := by decide +kernel
theorem dX10_wordOf_28 : decode cX10_wordOf 28 = .ok (.ladd, 1) := by decide +kernel
theorem dX10_wordOf_29 : decode cX10_wordOf 29 = .ok (.lstore_n 1, 1) := by decide +kernel
theorem dX10_wordOf_30 : decode cX10_wordOf 30 = .ok (.iinc 3 1, 3) := by decide +kernel
theorem dX10_wordOf_33 : decode cX10_wordOf 33 = .ok (.goto (-29), 3) := by decide +kernel
theorem dX10_wordOf_36 : decode cX10_wordOf 36 = .ok (.lload_n 1, 1) := by decide +kernel
theorem dX10_wordOf_37 : decode cX10_wordOf 37 = .ok (.lreturn, 1) := by decide +kernel
theorem dX10_goesOn_0 : decode cX10_goesOn 0 = .ok (.aload_n 0, 1) := by decide +kernel
theorem dX10_goesOn_1 : decode cX10_goesOn 1 = .ok (.getfield 84, 3) := by decide +kernel
theorem dX10_goesOn_4 : decode cX10_goesOn 4 = .ok (.iconst 5, 1) := by decide +kernel
theorem dX10_goesOn_5 : decode cX10_goesOn 5 = .ok (.if_icmp .ne 4, 3) := by decide +kernel
theorem dX10_goesOn_8 : decode cX10_goesOn 8 = .ok (.return_, 1) := by decide +kernel
theorem dX10_goesOn_9 : decode cX10_goesOn 9 = .ok (.aload_n 0, 1) := by decide +kernel
theorem dX10_goesOn_10 : decode cX10_goesOn 10 = .ok (.aload_n 0, 1) := by decide +kernel
theorem dX10_goesOn_11 : decode cX10_goesOn 11 = .ok (.getfield 87, 3) := by decide +kernel
theorem dX10_goesOn_14 : decode cX10_goesOn 14 = .ok (.invokevirtual 90, 3) := by decide +kernel
theorem dX10_goesOn_17 : decode cX10_goesOn 17 = .ok (.bipush 32, 2) := by decide +kernel
theorem dX10_goesOn_19 : decode cX10_goesOn 19 = .ok (.if_icmp .ne 16, 3) := by decide +kernel
theorem dX10_goesOn_22 : decode cX10_goesOn 22 = .ok (.aload_n 0, 1) := by decide +kernel
theorem dX10_goesOn_23 : decode cX10_goesOn 23 = .ok (.dup, 1) := by decide +kernel
theorem dX10_goesOn_24 : decode cX10_goesOn 24 = .ok (.getfield 87, 3) := by decide +kernel
theorem dX10_goesOn_27 : decode cX10_goesOn 27 = .ok (.iconst 1, 1) := by decide +kernel
theorem dX10_goesOn_28 : decode cX10_goesOn 28 = .ok (.iadd, 1) := by decide +kernel
theorem dX10_goesOn_29 : decode cX10_goesOn 29 = .ok (.putfield 87, 3) := by decide +kernel
theorem dX10_goesOn_32 : decode cX10_goesOn 32 = .ok (.goto (-23), 3) := by decide +kernel
theorem dX10_goesOn_35 : decode cX10_goesOn 35 = .ok (.aload_n 0, 1) := by decide +kernel
theorem dX10_goesOn_36 : decode cX10_goesOn 36 = .ok (.aload_n 0, 1) := by decide +kernel
theorem dX10_goesOn_37 : decode cX10_goesOn 37 = .ok (.getfield 87, 3) := by decide +kernel
theorem dX10_goesOn_40 : decode cX10_goesOn 40 = .ok (.putfield 93, 3) := by decide +kernel
theorem dX10_goesOn_43 : decode cX10_goesOn 43 = .ok (.aload_n 0, 1) := by decide +kernel
theorem dX10_goesOn_44 : decode cX10_goesOn 44 = .ok (.iconst 0, 1) := by decide +kernel
theorem dX10_goesOn_45 : decode cX10_goesOn 45 = .ok (.putfield 84, 3) := by decide +kernel
theorem dX10_goesOn_48 : decode cX10_goesOn 48 = .ok (.aload_n 0, 1) := by decide +kernel
theorem dX10_goesOn_49 : decode cX10_goesOn 49 = .ok (.iconst 0, 1) := by decide +kernel
theorem dX10_goesOn_50 : decode cX10_goesOn 50 = .ok (.putfield 96, 3) := by decide +kernel
theorem dX10_goesOn_53 : decode cX10_goesOn 53 = .ok (.aload_n 0, 1) := by decide +kernel
theorem dX10_goesOn_54 : decode cX10_goesOn 54 = .ok (.aload_n 0, 1) := by decide +kernel
theorem dX10_goesOn_55 : decode cX10_goesOn 55 = .ok (.getfield 87, 3) := by decide +kernel
theorem dX10_goesOn_58 : decode cX10_goesOn 58 = .ok (.invokevirtual 90, 3) := by decide +kernel
theorem dX10_goesOn_61 : decode cX10_goesOn 61 = .ok (.istore_n 1, 1) := by decide +kernel
theorem dX10_goesOn_62 : decode cX10_goesOn 62 = .ok (.iconst 0, 1) := by decide +kernel
theorem dX10_goesOn_63 : decode cX10_goesOn 63 = .ok (.istore_n 2, 1) := by decide +kernel
theorem dX10_goesOn_64 : decode cX10_goesOn 64 = .ok (.iload_n 1, 1) := by decide +kernel
theorem dX10_goesOn_65 : decode cX10_goesOn 65 = .ok (.iconst (-1), 1) := by decide +kernel
theorem dX10_goesOn_66 : decode cX10_goesOn 66 = .ok (.if_icmp .ne 11, 3) := by decide +kernel
theorem dX10_goesOn_69 : decode cX10_goesOn 69 = .ok (.aload_n 0, 1) := by decide +kernel
theorem dX10_goesOn_70 : decode cX10_goesOn 70 = .ok (.iconst 1, 1) := by decide +kernel
theorem dX10_goesOn_71 : decode cX10_goesOn 71 = .ok (.putfield 84, 3) := by decide +kernel
theorem dX10_goesOn_74 : decode cX10_goesOn 74 = .ok (.goto 207, 3) := by decide +kernel
theorem dX10_goesOn_77 : decode cX10_goesOn 77 = .ok (.iload_n 1, 1) := by decide +kernel
theorem dX10_goesOn_78 : decode cX10_goesOn 78 = .ok (.invokestatic 99, 3) := by decide +kernel
theorem dX10_goesOn_81 : decode cX10_goesOn 81 = .ok (.ifCond .eq 85, 3) := by decide +kernel
theorem dX10_goesOn_84 : decode cX10_goesOn 84 = .ok (.aload_n 0, 1) := by decide +kernel
theorem dX10_goesOn_85 : decode cX10_goesOn 85 = .ok (.lconst 0, 1) := by decide +kernel
theorem dX10_goesOn_86 : decode cX10_goesOn 86 = .ok (.putfield 103, 3) := by decide +kernel
theorem dX10_goesOn_89 : decode cX10_goesOn 89 = .ok (.aload_n 0, 1) := by decide +kernel
theorem dX10_goesOn_90 : decode cX10_goesOn 90 = .ok (.aload_n 0, 1) := by decide +kernel
theorem dX10_goesOn_91 : decode cX10_goesOn 91 = .ok (.getfield 87, 3) := by decide +kernel
theorem dX10_goesOn_94 : decode cX10_goesOn 94 = .ok (.invokevirtual 90, 3) := by decide +kernel
theorem dX10_goesOn_97 : decode cX10_goesOn 97 = .ok (.invokestatic 99, 3) := by decide +kernel
theorem dX10_goesOn_100 : decode cX10_goesOn 100 = .ok (.ifCond .eq 52, 3) := by decide +kernel
theorem dX10_goesOn_103 : decode cX10_goesOn 103 = .ok (.iload_n 2, 1) := by decide +kernel
theorem dX10_goesOn_104 : decode cX10_goesOn 104 = .ok (.bipush 8, 2) := by decide +kernel
theorem dX10_goesOn_106 : decode cX10_goesOn 106 = .ok (.if_icmp .ge 30, 3) := by decide +kernel
theorem dX10_goesOn_109 : decode cX10_goesOn 109 = .ok (.aload_n 0, 1) := by decide +kernel
theorem dX10_goesOn_110 : decode cX10_goesOn 110 = .ok (.ldc2_w 78, 3) := by decide +kernel
theorem dX10_goesOn_113 : decode cX10_goesOn 113 = .ok (.aload_n 0, 1) := by decide +kernel
theorem dX10_goesOn_114 : decode cX10_goesOn 114 = .ok (.getfield 103, 3) := by decide +kernel
theorem dX10_goesOn_117 : decode cX10_goesOn 117 = .ok (.lmul, 1) := by decide +kernel
theorem dX10_goesOn_118 : decode cX10_goesOn 118 = .ok (.aload_n 0, 1) := by decide +kernel
theorem dX10_goesOn_119 : decode cX10_goesOn 119 = .ok (.aload_n 0, 1) := by decide +kernel
theorem dX10_goesOn_120 : decode cX10_goesOn 120 = .ok (.getfield 87, 3) := by decide +kernel
theorem dX10_goesOn_123 : decode cX10_goesOn 123 = .ok (.invokevirtual 90, 3) := by decide +kernel
theorem dX10_goesOn_126 : decode cX10_goesOn 126 = .ok (.bipush 97, 2) := by decide +kernel
theorem dX10_goesOn_128 : decode cX10_goesOn 128 = .ok (.isub, 1) := by decide +kernel
theorem dX10_goesOn_129 : decode cX10_goesOn 129 = .ok (.iconst 1, 1) := by decide +kernel
theorem dX10_goesOn_130 : decode cX10_goesOn 130 = .ok (.iadd, 1) := by decide +kernel
theorem dX10_goesOn_131 : decode cX10_goesOn 131 = .ok (.i2l, 1) := by decide +kernel
theorem dX10_goesOn_132 : decode cX10_goesOn 132 = .ok (.ladd, 1) := by decide +kernel
theorem dX10_goesOn_133 : decode cX10_goesOn 133 = .ok (.putfield 103, 3) := by decide +kernel
theorem dX10_goesOn_136 : decode cX10_goesOn 136 = .ok (.iinc 2 1, 3) := by decide +kernel
theorem dX10_goesOn_139 : decode cX10_goesOn 139 = .ok (.aload_n 0, 1) := by decide +kernel
theorem dX10_goesOn_140 : decode cX10_goesOn 140 = .ok (.dup, 1) := by decide +kernel
theorem dX10_goesOn_141 : decode cX10_goesOn 141 = .ok (.getfield 87, 3) := by decide +kernel
theorem dX10_goesOn_144 : decode cX10_goesOn 144 = .ok (.iconst 1, 1) := by decide +kernel
theorem dX10_goesOn_145 : decode cX10_goesOn 145 = .ok (.iadd, 1) := by decide +kernel
theorem dX10_goesOn_146 : decode cX10_goesOn 146 = .ok (.putfield 87, 3) := by decide +kernel
theorem dX10_goesOn_149 : decode cX10_goesOn 149 = .ok (.goto (-60), 3) := by decide +kernel
theorem dX10_goesOn_152 : decode cX10_goesOn 152 = .ok (.iload_n 2, 1) := by decide +kernel
theorem dX10_goesOn_153 : decode cX10_goesOn 153 = .ok (.bipush 8, 2) := by decide +kernel
theorem dX10_goesOn_155 : decode cX10_goesOn 155 = .ok (.if_icmp .gt 126, 3) := by decide +kernel
theorem dX10_goesOn_158 : decode cX10_goesOn 158 = .ok (.aload_n 0, 1) := by decide +kernel
theorem dX10_goesOn_159 : decode cX10_goesOn 159 = .ok (.iconst 2, 1) := by decide +kernel
theorem dX10_goesOn_160 : decode cX10_goesOn 160 = .ok (.putfield 84, 3) := by decide +kernel
theorem dX10_goesOn_163 : decode cX10_goesOn 163 = .ok (.goto 118, 3) := by decide +kernel
theorem dX10_goesOn_166 : decode cX10_goesOn 166 = .ok (.iload_n 1, 1) := by decide +kernel
theorem dX10_goesOn_167 : decode cX10_goesOn 167 = .ok (.invokestatic 107, 3) := by decide +kernel
theorem dX10_goesOn_170 : decode cX10_goesOn 170 = .ok (.ifCond .eq 79, 3) := by decide +kernel
theorem dX10_goesOn_173 : decode cX10_goesOn 173 = .ok (.aload_n 0, 1) := by decide +kernel
theorem dX10_goesOn_174 : decode cX10_goesOn 174 = .ok (.iconst 0, 1) := by decide +kernel
theorem dX10_goesOn_175 : decode cX10_goesOn 175 = .ok (.putfield 110, 3) := by decide +kernel
theorem dX10_goesOn_178 : decode cX10_goesOn 178 = .ok (.aload_n 0, 1) := by decide +kernel
theorem dX10_goesOn_179 : decode cX10_goesOn 179 = .ok (.aload_n 0, 1) := by decide +kernel
theorem dX10_goesOn_180 : decode cX10_goesOn 180 = .ok (.getfield 87, 3) := by decide +kernel
theorem dX10_goesOn_183 : decode cX10_goesOn 183 = .ok (.invokevirtual 90, 3) := by decide +kernel
theorem dX10_goesOn_186 : decode cX10_goesOn 186 = .ok (.invokestatic 107, 3) := by decide +kernel
theorem dX10_goesOn_189 : decode cX10_goesOn 189 = .ok (.ifCond .eq 47, 3) := by decide +kernel
theorem dX10_goesOn_192 : decode cX10_goesOn 192 = .ok (.iload_n 2, 1) := by decide +kernel
theorem dX10_goesOn_193 : decode cX10_goesOn 193 = .ok (.iconst 3, 1) := by decide +kernel
theorem dX10_goesOn_194 : decode cX10_goesOn 194 = .ok (.if_icmp .ge 26, 3) := by decide +kernel
theorem dX10_goesOn_197 : decode cX10_goesOn 197 = .ok (.aload_n 0, 1) := by decide +kernel
theorem dX10_goesOn_198 : decode cX10_goesOn 198 = .ok (.bipush 10, 2) := by decide +kernel
theorem dX10_goesOn_200 : decode cX10_goesOn 200 = .ok (.aload_n 0, 1) := by decide +kernel
theorem dX10_goesOn_201 : decode cX10_goesOn 201 = .ok (.getfield 110, 3) := by decide +kernel
theorem dX10_goesOn_204 : decode cX10_goesOn 204 = .ok (.imul, 1) := by decide +kernel
theorem dX10_goesOn_205 : decode cX10_goesOn 205 = .ok (.aload_n 0, 1) := by decide +kernel
theorem dX10_goesOn_206 : decode cX10_goesOn 206 = .ok (.aload_n 0, 1) := by decide +kernel
theorem dX10_goesOn_207 : decode cX10_goesOn 207 = .ok (.getfield 87, 3) := by decide +kernel
theorem dX10_goesOn_210 : decode cX10_goesOn 210 = .ok (.invokevirtual 90, 3) := by decide +kernel
theorem dX10_goesOn_213 : decode cX10_goesOn 213 = .ok (.iadd, 1) := by decide +kernel
theorem dX10_goesOn_214 : decode cX10_goesOn 214 = .ok (.bipush 48, 2) := by decide +kernel
theorem dX10_goesOn_216 : decode cX10_goesOn 216 = .ok (.isub, 1) := by decide +kernel
theorem dX10_goesOn_217 : decode cX10_goesOn 217 = .ok (.putfield 110, 3) := by decide +kernel
theorem dX10_goesOn_220 : decode cX10_goesOn 220 = .ok (.iinc 2 1, 3) := by decide +kernel
theorem dX10_goesOn_223 : decode cX10_goesOn 223 = .ok (.aload_n 0, 1) := by decide +kernel
theorem dX10_goesOn_224 : decode cX10_goesOn 224 = .ok (.dup, 1) := by decide +kernel
theorem dX10_goesOn_225 : decode cX10_goesOn 225 = .ok (.getfield 87, 3) := by decide +kernel
theorem dX10_goesOn_228 : decode cX10_goesOn 228 = .ok (.iconst 1, 1) := by decide +kernel
theorem dX10_goesOn_229 : decode cX10_goesOn 229 = .ok (.iadd, 1) := by decide +kernel
theorem dX10_goesOn_230 : decode cX10_goesOn 230 = .ok (.putfield 87, 3) := by decide +kernel
theorem dX10_goesOn_233 : decode cX10_goesOn 233 = .ok (.goto (-55), 3) := by decide +kernel
theorem dX10_goesOn_236 : decode cX10_goesOn 236 = .ok (.iload_n 2, 1) := by decide +kernel
theorem dX10_goesOn_237 : decode cX10_goesOn 237 = .ok (.iconst 3, 1) := by decide +kernel
theorem dX10_goesOn_238 : decode cX10_goesOn 238 = .ok (.if_icmp .gt 43, 3) := by decide +kernel
theorem dX10_goesOn_241 : decode cX10_goesOn 241 = .ok (.aload_n 0, 1) := by decide +kernel
theorem dX10_goesOn_242 : decode cX10_goesOn 242 = .ok (.iconst 3, 1) := by decide +kernel
theorem dX10_goesOn_243 : decode cX10_goesOn 243 = .ok (.putfield 84, 3) := by decide +kernel
theorem dX10_goesOn_246 : decode cX10_goesOn 246 = .ok (.goto 35, 3) := by decide +kernel
theorem dX10_goesOn_249 : decode cX10_goesOn 249 = .ok (.iload_n 1, 1) := by decide +kernel
theorem dX10_goesOn_250 : decode cX10_goesOn 250 = .ok (.bipush 59, 2) := by decide +kernel
theorem dX10_goesOn_252 : decode cX10_goesOn 252 = .ok (.if_icmp .eq 9, 3) := by decide +kernel
theorem dX10_goesOn_255 : decode cX10_goesOn 255 = .ok (.iload_n 1, 1) := by decide +kernel
theorem dX10_goesOn_256 : decode cX10_goesOn 256 = .ok (.bipush 44, 2) := by decide +kernel
theorem dX10_goesOn_258 : decode cX10_goesOn 258 = .ok (.if_icmp .ne 23, 3) := by decide +kernel
theorem dX10_goesOn_261 : decode cX10_goesOn 261 = .ok (.aload_n 0, 1) := by decide +kernel
theorem dX10_goesOn_262 : decode cX10_goesOn 262 = .ok (.iconst 4, 1) := by decide +kernel
theorem dX10_goesOn_263 : decode cX10_goesOn 263 = .ok (.putfield 84, 3) := by decide +kernel
theorem dX10_goesOn_266 : decode cX10_goesOn 266 = .ok (.aload_n 0, 1) := by decide +kernel
theorem dX10_goesOn_267 : decode cX10_goesOn 267 = .ok (.iload_n 1, 1) := by decide +kernel
theorem dX10_goesOn_268 : decode cX10_goesOn 268 = .ok (.putfield 96, 3) := by decide +kernel
theorem dX10_goesOn_271 : decode cX10_goesOn 271 = .ok (.aload_n 0, 1) := by decide +kernel
theorem dX10_goesOn_272 : decode cX10_goesOn 272 = .ok (.dup, 1) := by decide +kernel
theorem dX10_goesOn_273 : decode cX10_goesOn 273 = .ok (.getfield 87, 3) := by decide +kernel
theorem dX10_goesOn_276 : decode cX10_goesOn 276 = .ok (.iconst 1, 1) := by decide +kernel
theorem dX10_goesOn_277 : decode cX10_goesOn 277 = .ok (.iadd, 1) := by decide +kernel
theorem dX10_goesOn_278 : decode cX10_goesOn 278 = .ok (.putfield 87, 3) := by decide +kernel
theorem dX10_goesOn_281 : decode cX10_goesOn 281 = .ok (.return_, 1) := by decide +kernel
theorem dX10_flaw_0 : decode cX10_flaw 0 = .ok (.aload_n 0, 1) := by decide +kernel
theorem dX10_flaw_1 : decode cX10_flaw 1 = .ok (.getfield 84, 3) := by decide +kernel
theorem dX10_flaw_4 : decode cX10_flaw 4 = .ok (.iconst 5, 1) := by decide +kernel
theorem dX10_flaw_5 : decode cX10_flaw 5 = .ok (.if_icmp .ne 4, 3) := by decide +kernel
theorem dX10_flaw_8 : decode cX10_flaw 8 = .ok (.return_, 1) := by decide +kernel
theorem dX10_flaw_9 : decode cX10_flaw 9 = .ok (.aload_n 0, 1) := by decide +kernel
theorem dX10_flaw_10 : decode cX10_flaw 10 = .ok (.iload_n 1, 1) := by decide +kernel
theorem dX10_flaw_11 : decode cX10_flaw 11 = .ok (.putfield 113, 3) := by decide +kernel
theorem dX10_flaw_14 : decode cX10_flaw 14 = .ok (.aload_n 0, 1) := by decide +kernel
theorem dX10_flaw_15 : decode cX10_flaw 15 = .ok (.aload_n 0, 1) := by decide +kernel
theorem dX10_flaw_16 : decode cX10_flaw 16 = .ok (.getfield 93, 3) := by decide +kernel
theorem dX10_flaw_19 : decode cX10_flaw 19 = .ok (.putfield 116, 3) := by decide +kernel
theorem dX10_flaw_22 : decode cX10_flaw 22 = .ok (.aload_n 0, 1) := by decide +kernel
theorem dX10_flaw_23 : decode cX10_flaw 23 = .ok (.iconst 5, 1) := by decide +kernel
theorem dX10_flaw_24 : decode cX10_flaw 24 = .ok (.putfield 84, 3) := by decide +kernel
theorem dX10_flaw_27 : decode cX10_flaw 27 = .ok (.return_, 1) := by decide +kernel
theorem dX10_isWord_0 : decode cX10_isWord 0 = .ok (.aload_n 0, 1) := by decide +kernel
theorem dX10_isWord_1 : decode cX10_isWord 1 = .ok (.getfield 84, 3) := by decide +kernel
theorem dX10_isWord_4 : decode cX10_isWord 4 = .ok (.iconst 2, 1) := by decide +kernel
theorem dX10_isWord_5 : decode cX10_isWord 5 = .ok (.if_icmp .ne 19, 3) := by decide +kernel
theorem dX10_isWord_8 : decode cX10_isWord 8 = .ok (.aload_n 0, 1) := by decide +kernel
theorem dX10_isWord_9 : decode cX10_isWord 9 = .ok (.getfield 103, 3) := by decide +kernel
theorem dX10_isWord_12 : decode cX10_isWord 12 = .ok (.aload_n 1, 1) := by decide +kernel
theorem dX10_isWord_13 : decode cX10_isWord 13 = .ok (.invokestatic 119, 3) := by decide +kernel
theorem dX10_isWord_16 : decode cX10_isWord 16 = .ok (.lcmp, 1) := by decide +kernel
theorem dX10_isWord_17 : decode cX10_isWord 17 = .ok (.ifCond .ne 7, 3) := by decide +kernel
theorem dX10_isWord_20 : decode cX10_isWord 20 = .ok (.iconst 1, 1) := by decide +kernel
theorem dX10_isWord_21 : decode cX10_isWord 21 = .ok (.goto 4, 3) := by decide +kernel
theorem dX10_isWord_24 : decode cX10_isWord 24 = .ok (.iconst 0, 1) := by decide +kernel
theorem dX10_isWord_25 : decode cX10_isWord 25 = .ok (.ireturn, 1) := by decide +kernel
theorem dX10_eatsWord_0 : decode cX10_eatsWord 0 = .ok (.aload_n 0, 1) := by decide +kernel
theorem dX10_eatsWord_1 : decode cX10_eatsWord 1 = .ok (.aload_n 1, 1) := by decide +kernel
theorem dX10_eatsWord_2 : decode cX10_eatsWord 2 = .ok (.invokevirtual 123, 3) := by decide +kernel
theorem dX10_eatsWord_5 : decode cX10_eatsWord 5 = .ok (.istore_n 2, 1) := by decide +kernel
theorem dX10_eatsWord_6 : decode cX10_eatsWord 6 = .ok (.iload_n 2, 1) := by decide +kernel
theorem dX10_eatsWord_7 : decode cX10_eatsWord 7 = .ok (.ifCond .eq 7, 3) := by decide +kernel
theorem dX10_eatsWord_10 : decode cX10_eatsWord 10 = .ok (.aload_n 0, 1) := by decide +kernel
theorem dX10_eatsWord_11 : decode cX10_eatsWord 11 = .ok (.invokevirtual 127, 3) := by decide +kernel
theorem dX10_eatsWord_14 : decode cX10_eatsWord 14 = .ok (.iload_n 2, 1) := by decide +kernel
theorem dX10_eatsWord_15 : decode cX10_eatsWord 15 = .ok (.ireturn, 1) := by decide +kernel
theorem dX10_eatsSign_0 : decode cX10_eatsSign 0 = .ok (.aload_n 0, 1) := by decide +kernel
theorem dX10_eatsSign_1 : decode cX10_eatsSign 1 = .ok (.getfield 84, 3) := by decide +kernel
theorem dX10_eatsSign_4 : decode cX10_eatsSign 4 = .ok (.iconst 4, 1) := by decide +kernel
theorem dX10_eatsSign_5 : decode cX10_eatsSign 5 = .ok (.if_icmp .ne 15, 3) := by decide +kernel
theorem dX10_eatsSign_8 : decode cX10_eatsSign 8 = .ok (.aload_n 0, 1) := by decide +kernel
theorem dX10_eatsSign_9 : decode cX10_eatsSign 9 = .ok (.getfield 96, 3) := by decide +kernel
theorem dX10_eatsSign_12 : decode cX10_eatsSign 12 = .ok (.iload_n 1, 1) := by decide +kernel
theorem dX10_eatsSign_13 : decode cX10_eatsSign 13 = .ok (.if_icmp .ne 7, 3) := by decide +kernel
theorem dX10_eatsSign_16 : decode cX10_eatsSign 16 = .ok (.iconst 1, 1) := by decide +kernel
theorem dX10_eatsSign_17 : decode cX10_eatsSign 17 = .ok (.goto 4, 3) := by decide +kernel
theorem dX10_eatsSign_20 : decode cX10_eatsSign 20 = .ok (.iconst 0, 1) := by decide +kernel
theorem dX10_eatsSign_21 : decode cX10_eatsSign 21 = .ok (.istore_n 2, 1) := by decide +kernel
theorem dX10_eatsSign_22 : decode cX10_eatsSign 22 = .ok (.iload_n 2, 1) := by decide +kernel
theorem dX10_eatsSign_23 : decode cX10_eatsSign 23 = .ok (.ifCond .eq 7, 3) := by decide +kernel
theorem dX10_eatsSign_26 : decode cX10_eatsSign 26 = .ok (.aload_n 0, 1) := by decide +kernel
theorem dX10_eatsSign_27 : decode cX10_eatsSign 27 = .ok (.invokevirtual 127, 3) := by decide +kernel
theorem dX10_eatsSign_30 : decode cX10_eatsSign 30 = .ok (.iload_n 2, 1) := by decide +kernel
theorem dX10_eatsSign_31 : decode cX10_eatsSign 31 = .ok (.ireturn, 1) := by decide +kernel
theorem dX10_needs_0 : decode cX10_needs 0 = .ok (.aload_n 0, 1) := by decide +kernel
theorem dX10_needs_1 : decode cX10_needs 1 = .ok (.aload_n 1, 1) := by decide +kernel
theorem dX10_needs_2 : decode cX10_needs 2 = .ok (.invokevirtual 123, 3) := by decide +kernel
theorem dX10_needs_5 : decode cX10_needs 5 = .ok (.ifCond .ne 8, 3) := by decide +kernel
theorem dX10_needs_8 : decode cX10_needs 8 = .ok (.aload_n 0, 1) := by decide +kernel
theorem dX10_needs_9 : decode cX10_needs 9 = .ok (.iconst 1, 1) := by decide +kernel
theorem dX10_needs_10 : decode cX10_needs 10 = .ok (.invokevirtual 130, 3) := by decide +kernel
theorem dX10_needs_13 : decode cX10_needs 13 = .ok (.aload_n 0, 1) := by decide +kernel
theorem dX10_needs_14 : decode cX10_needs 14 = .ok (.invokevirtual 127, 3) := by decide +kernel
theorem dX10_needs_17 : decode cX10_needs 17 = .ok (.return_, 1) := by decide +kernel
theorem dX10_readWhole_0 : decode cX10_readWhole 0 = .ok (.aload_n 0, 1) := by decide +kernel
theorem dX10_readWhole_1 : decode cX10_readWhole 1 = .ok (.getfield 84, 3) := by decide +kernel
theorem dX10_readWhole_4 : decode cX10_readWhole 4 = .ok (.iconst 3, 1) := by decide +kernel
theorem dX10_readWhole_5 : decode cX10_readWhole 5 = .ok (.if_icmp .eq 11, 3) := by decide +kernel
theorem dX10_readWhole_8 : decode cX10_readWhole 8 = .ok (.aload_n 0, 1) := by decide +kernel
theorem dX10_readWhole_9 : decode cX10_readWhole 9 = .ok (.iconst 1, 1) := by decide +kernel
theorem dX10_readWhole_10 : decode cX10_readWhole 10 = .ok (.invokevirtual 130, 3) := by decide +kernel
theorem dX10_readWhole_13 : decode cX10_readWhole 13 = .ok (.goto 20, 3) := by decide +kernel
theorem dX10_readWhole_16 : decode cX10_readWhole 16 = .ok (.aload_n 0, 1) := by decide +kernel
theorem dX10_readWhole_17 : decode cX10_readWhole 17 = .ok (.getfield 110, 3) := by decide +kernel
theorem dX10_readWhole_20 : decode cX10_readWhole 20 = .ok (.iload_n 1, 1) := by decide +kernel
theorem dX10_readWhole_21 : decode cX10_readWhole 21 = .ok (.iload_n 2, 1) := by decide +kernel
theorem dX10_readWhole_22 : decode cX10_readWhole 22 = .ok (.invokestatic 134, 3) := by decide +kernel
theorem dX10_readWhole_25 : decode cX10_readWhole 25 = .ok (.ifCond .ne 8, 3) := by decide +kernel
theorem dX10_readWhole_28 : decode cX10_readWhole 28 = .ok (.aload_n 0, 1) := by decide +kernel
theorem dX10_readWhole_29 : decode cX10_readWhole 29 = .ok (.iconst 4, 1) := by decide +kernel
theorem dX10_readWhole_30 : decode cX10_readWhole 30 = .ok (.invokevirtual 130, 3) := by decide +kernel
theorem dX10_readWhole_33 : decode cX10_readWhole 33 = .ok (.aload_n 0, 1) := by decide +kernel
theorem dX10_readWhole_34 : decode cX10_readWhole 34 = .ok (.getfield 84, 3) := by decide +kernel
theorem dX10_readWhole_37 : decode cX10_readWhole 37 = .ok (.iconst 5, 1) := by decide +kernel
theorem dX10_readWhole_38 : decode cX10_readWhole 38 = .ok (.if_icmp .ne 7, 3) := by decide +kernel
theorem dX10_readWhole_41 : decode cX10_readWhole 41 = .ok (.iload_n 1, 1) := by decide +kernel
theorem dX10_readWhole_42 : decode cX10_readWhole 42 = .ok (.goto 7, 3) := by decide +kernel
theorem dX10_readWhole_45 : decode cX10_readWhole 45 = .ok (.aload_n 0, 1) := by decide +kernel
theorem dX10_readWhole_46 : decode cX10_readWhole 46 = .ok (.getfield 110, 3) := by decide +kernel
theorem dX10_readWhole_49 : decode cX10_readWhole 49 = .ok (.istore_n 3, 1) := by decide +kernel
theorem dX10_readWhole_50 : decode cX10_readWhole 50 = .ok (.aload_n 0, 1) := by decide +kernel
theorem dX10_readWhole_51 : decode cX10_readWhole 51 = .ok (.invokevirtual 127, 3) := by decide +kernel
theorem dX10_readWhole_54 : decode cX10_readWhole 54 = .ok (.iload_n 3, 1) := by decide +kernel
theorem dX10_readWhole_55 : decode cX10_readWhole 55 = .ok (.ireturn, 1) := by decide +kernel
theorem dX10_readPart_0 : decode cX10_readPart 0 = .ok (.aload_n 0, 1) := by decide +kernel
theorem dX10_readPart_1 : decode cX10_readPart 1 = .ok (.aload_n 1, 1) := by decide +kernel
theorem dX10_readPart_2 : decode cX10_readPart 2 = .ok (.invokevirtual 138, 3) := by decide +kernel
theorem dX10_readPart_5 : decode cX10_readPart 5 = .ok (.aload_n 0, 1) := by decide +kernel
theorem dX10_readPart_6 : decode cX10_readPart 6 = .ok (.iload_n 2, 1) := by decide +kernel
theorem dX10_readPart_7 : decode cX10_readPart 7 = .ok (.iload_n 3, 1) := by decide +kernel
theorem dX10_readPart_8 : decode cX10_readPart 8 = .ok (.invokevirtual 142, 3) := by decide +kernel
theorem dX10_readPart_11 : decode cX10_readPart 11 = .ok (.ireturn, 1) := by decide +kernel
theorem dX10_isName_0 : decode cX10_isName 0 = .ok (.aload_n 0, 1) := by decide +kernel
theorem dX10_isName_1 : decode cX10_isName 1 = .ok (.getfield 84, 3) := by decide +kernel
theorem dX10_isName_4 : decode cX10_isName 4 = .ok (.iconst 2, 1) := by decide +kernel
theorem dX10_isName_5 : decode cX10_isName 5 = .ok (.if_icmp .ne 66, 3) := by decide +kernel
theorem dX10_isName_8 : decode cX10_isName 8 = .ok (.aload_n 0, 1) := by decide +kernel
theorem dX10_isName_9 : decode cX10_isName 9 = .ok (.ldc 146, 2) := by decide +kernel
theorem dX10_isName_11 : decode cX10_isName 11 = .ok (.invokevirtual 123, 3) := by decide +kernel
theorem dX10_isName_14 : decode cX10_isName 14 = .ok (.ifCond .ne 57, 3) := by decide +kernel
theorem dX10_isName_17 : decode cX10_isName 17 = .ok (.aload_n 0, 1) := by decide +kernel
theorem dX10_isName_18 : decode cX10_isName 18 = .ok (.ldc 148, 2) := by decide +kernel
theorem dX10_isName_20 : decode cX10_isName 20 = .ok (.invokevirtual 123, 3) := by decide +kernel
theorem dX10_isName_23 : decode cX10_isName 23 = .ok (.ifCond .ne 48, 3) := by decide +kernel
theorem dX10_isName_26 : decode cX10_isName 26 = .ok (.aload_n 0, 1) := by decide +kernel
theorem dX10_isName_27 : decode cX10_isName 27 = .ok (.ldc 150, 2) := by decide +kernel
theorem dX10_isName_29 : decode cX10_isName 29 = .ok (.invokevirtual 123, 3) := by decide +kernel
theorem dX10_isName_32 : decode cX10_isName 32 = .ok (.ifCond .ne 39, 3) := by decide +kernel
theorem dX10_isName_35 : decode cX10_isName 35 = .ok (.aload_n 0, 1) := by decide +kernel
theorem dX10_isName_36 : decode cX10_isName 36 = .ok (.ldc 151, 2) := by decide +kernel
theorem dX10_isName_38 : decode cX10_isName 38 = .ok (.invokevirtual 123, 3) := by decide +kernel
theorem dX10_isName_41 : decode cX10_isName 41 = .ok (.ifCond .ne 30, 3) := by decide +kernel
theorem dX10_isName_44 : decode cX10_isName 44 = .ok (.aload_n 0, 1) := by decide +kernel
theorem dX10_isName_45 : decode cX10_isName 45 = .ok (.ldc 153, 2) := by decide +kernel
theorem dX10_isName_47 : decode cX10_isName 47 = .ok (.invokevirtual 123, 3) := by decide +kernel
theorem dX10_isName_50 : decode cX10_isName 50 = .ok (.ifCond .ne 21, 3) := by decide +kernel
theorem dX10_isName_53 : decode cX10_isName 53 = .ok (.aload_n 0, 1) := by decide +kernel
theorem dX10_isName_54 : decode cX10_isName 54 = .ok (.ldc 155, 2) := by decide +kernel
theorem dX10_isName_56 : decode cX10_isName 56 = .ok (.invokevirtual 123, 3) := by decide +kernel
theorem dX10_isName_59 : decode cX10_isName 59 = .ok (.ifCond .ne 12, 3) := by decide +kernel
theorem dX10_isName_62 : decode cX10_isName 62 = .ok (.aload_n 0, 1) := by decide +kernel
theorem dX10_isName_63 : decode cX10_isName 63 = .ok (.ldc 156, 2) := by decide +kernel
theorem dX10_isName_65 : decode cX10_isName 65 = .ok (.invokevirtual 123, 3) := by decide +kernel
theorem dX10_isName_68 : decode cX10_isName 68 = .ok (.ifCond .eq 5, 3) := by decide +kernel
theorem dX10_isName_71 : decode cX10_isName 71 = .ok (.iconst 0, 1) := by decide +kernel
theorem dX10_isName_72 : decode cX10_isName 72 = .ok (.ireturn, 1) := by decide +kernel
theorem dX10_isName_73 : decode cX10_isName 73 = .ok (.aload_n 0, 1) := by decide +kernel
theorem dX10_isName_74 : decode cX10_isName 74 = .ok (.ldc 158, 2) := by decide +kernel
theorem dX10_isName_76 : decode cX10_isName 76 = .ok (.invokevirtual 123, 3) := by decide +kernel
theorem dX10_isName_79 : decode cX10_isName 79 = .ok (.ifCond .ne 43, 3) := by decide +kernel
theorem dX10_isName_82 : decode cX10_isName 82 = .ok (.aload_n 0, 1) := by decide +kernel
theorem dX10_isName_83 : decode cX10_isName 83 = .ok (.ldc 160, 2) := by decide +kernel
theorem dX10_isName_85 : decode cX10_isName 85 = .ok (.invokevirtual 123, 3) := by decide +kernel
theorem dX10_isName_88 : decode cX10_isName 88 = .ok (.ifCond .ne 34, 3) := by decide +kernel
theorem dX10_isName_91 : decode cX10_isName 91 = .ok (.aload_n 0, 1) := by decide +kernel
theorem dX10_isName_92 : decode cX10_isName 92 = .ok (.ldc 162, 2) := by decide +kernel
theorem dX10_isName_94 : decode cX10_isName 94 = .ok (.invokevirtual 123, 3) := by decide +kernel
theorem dX10_isName_97 : decode cX10_isName 97 = .ok (.ifCond .ne 25, 3) := by decide +kernel
theorem dX10_isName_100 : decode cX10_isName 100 = .ok (.aload_n 0, 1) := by decide +kernel
theorem dX10_isName_101 : decode cX10_isName 101 = .ok (.ldc 164, 2) := by decide +kernel
theorem dX10_isName_103 : decode cX10_isName 103 = .ok (.invokevirtual 123, 3) := by decide +kernel
theorem dX10_isName_106 : decode cX10_isName 106 = .ok (.ifCond .ne 16, 3) := by decide +kernel
theorem dX10_isName_109 : decode cX10_isName 109 = .ok (.aload_n 0, 1) := by decide +kernel
theorem dX10_isName_110 : decode cX10_isName 110 = .ok (.ldc 165, 2) := by decide +kernel
theorem dX10_isName_112 : decode cX10_isName 112 = .ok (.invokevirtual 123, 3) := by decide +kernel
theorem dX10_isName_115 : decode cX10_isName 115 = .ok (.ifCond .ne 7, 3) := by decide +kernel
theorem dX10_isName_118 : decode cX10_isName 118 = .ok (.iconst 1, 1) := by decide +kernel
theorem dX10_isName_119 : decode cX10_isName 119 = .ok (.goto 4, 3) := by decide +kernel
theorem dX10_isName_122 : decode cX10_isName 122 = .ok (.iconst 0, 1) := by decide +kernel
theorem dX10_isName_123 : decode cX10_isName 123 = .ok (.ireturn, 1) := by decide +kernel
theorem dX10_begins_0 : decode cX10_begins 0 = .ok (.iload_n 1, 1) := by decide +kernel
theorem dX10_begins_1 : decode cX10_begins 1 = .ok (.iload_n 2, 1) := by decide +kernel
theorem dX10_begins_2 : decode cX10_begins 2 = .ok (.if_icmp .ne 8, 3) := by decide +kernel
theorem dX10_begins_5 : decode cX10_begins 5 = .ok (.aload_n 0, 1) := by decide +kernel
theorem dX10_begins_6 : decode cX10_begins 6 = .ok (.iconst 5, 1) := by decide +kernel
theorem dX10_begins_7 : decode cX10_begins 7 = .ok (.invokevirtual 130, 3) := by decide +kernel
theorem dX10_begins_10 : decode cX10_begins 10 = .ok (.aload_n 0, 1) := by decide +kernel
theorem dX10_begins_11 : decode cX10_begins 11 = .ok (.invokevirtual 127, 3) := by decide +kernel
theorem dX10_begins_14 : decode cX10_begins 14 = .ok (.return_, 1) := by decide +kernel
theorem dX10_readFresh_0 : decode cX10_readFresh 0 = .ok (.aload_n 0, 1) := by decide +kernel
theorem dX10_readFresh_1 : decode cX10_readFresh 1 = .ok (.invokevirtual 167, 3) := by decide +kernel
theorem dX10_readFresh_4 : decode cX10_readFresh 4 = .ok (.ifCond .ne 8, 3) := by decide +kernel
theorem dX10_readFresh_7 : decode cX10_readFresh 7 = .ok (.aload_n 0, 1) := by decide +kernel
theorem dX10_readFresh_8 : decode cX10_readFresh 8 = .ok (.iconst 1, 1) := by decide +kernel
theorem dX10_readFresh_9 : decode cX10_readFresh 9 = .ok (.invokevirtual 130, 3) := by decide +kernel
theorem dX10_readFresh_12 : decode cX10_readFresh 12 = .ok (.aload_n 0, 1) := by decide +kernel
theorem dX10_readFresh_13 : decode cX10_readFresh 13 = .ok (.getfield 171, 3) := by decide +kernel
theorem dX10_readFresh_16 : decode cX10_readFresh 16 = .ok (.aload_n 0, 1) := by decide +kernel
theorem dX10_readFresh_17 : decode cX10_readFresh 17 = .ok (.getfield 103, 3) := by decide +kernel
theorem dX10_readFresh_20 : decode cX10_readFresh 20 = .ok (.invokevirtual 175, 3) := by decide +kernel
theorem dX10_readFresh_23 : decode cX10_readFresh 23 = .ok (.iconst (-1), 1) := by decide +kernel
theorem dX10_readFresh_24 : decode cX10_readFresh 24 = .ok (.if_icmp .eq 8, 3) := by decide +kernel
theorem dX10_readFresh_27 : decode cX10_readFresh 27 = .ok (.aload_n 0, 1) := by decide +kernel
theorem dX10_readFresh_28 : decode cX10_readFresh 28 = .ok (.iconst 3, 1) := by decide +kernel
theorem dX10_readFresh_29 : decode cX10_readFresh 29 = .ok (.invokevirtual 130, 3) := by decide +kernel
theorem dX10_readFresh_32 : decode cX10_readFresh 32 = .ok (.aload_n 0, 1) := by decide +kernel
theorem dX10_readFresh_33 : decode cX10_readFresh 33 = .ok (.getfield 103, 3) := by decide +kernel
theorem dX10_readFresh_36 : decode cX10_readFresh 36 = .ok (.lstore_n 1, 1) := by decide +kernel
theorem dX10_readFresh_37 : decode cX10_readFresh 37 = .ok (.aload_n 0, 1) := by decide +kernel
theorem dX10_readFresh_38 : decode cX10_readFresh 38 = .ok (.invokevirtual 127, 3) := by decide +kernel
theorem dX10_readFresh_41 : decode cX10_readFresh 41 = .ok (.lload_n 1, 1) := by decide +kernel
theorem dX10_readFresh_42 : decode cX10_readFresh 42 = .ok (.lreturn, 1) := by decide +kernel
theorem dX10_names_0 : decode cX10_names 0 = .ok (.aload_n 0, 1) := by decide +kernel
theorem dX10_names_1 : decode cX10_names 1 = .ok (.getfield 171, 3) := by decide +kernel
theorem dX10_names_4 : decode cX10_names 4 = .ok (.getfield 181, 3) := by decide +kernel
theorem dX10_names_7 : decode cX10_names 7 = .ok (.aload_n 0, 1) := by decide +kernel
theorem dX10_names_8 : decode cX10_names 8 = .ok (.getfield 171, 3) := by decide +kernel
theorem dX10_names_11 : decode cX10_names 11 = .ok (.getfield 184, 3) := by decide +kernel
theorem dX10_names_14 : decode cX10_names 14 = .ok (.lload_n 1, 1) := by decide +kernel
theorem dX10_names_15 : decode cX10_names 15 = .ok (.lastore, 1) := by decide +kernel
theorem dX10_names_16 : decode cX10_names 16 = .ok (.aload_n 0, 1) := by decide +kernel
theorem dX10_names_17 : decode cX10_names 17 = .ok (.getfield 171, 3) := by decide +kernel
theorem dX10_names_20 : decode cX10_names 20 = .ok (.getfield 187, 3) := by decide +kernel
theorem dX10_names_23 : decode cX10_names 23 = .ok (.aload_n 0, 1) := by decide +kernel
theorem dX10_names_24 : decode cX10_names 24 = .ok (.getfield 171, 3) := by decide +kernel
theorem dX10_names_27 : decode cX10_names 27 = .ok (.getfield 184, 3) := by decide +kernel
theorem dX10_names_30 : decode cX10_names 30 = .ok (.iload_n 3, 1) := by decide +kernel
theorem dX10_names_31 : decode cX10_names 31 = .ok (.iastore, 1) := by decide +kernel
theorem dX10_names_32 : decode cX10_names 32 = .ok (.aload_n 0, 1) := by decide +kernel
theorem dX10_names_33 : decode cX10_names 33 = .ok (.getfield 171, 3) := by decide +kernel
theorem dX10_names_36 : decode cX10_names 36 = .ok (.getfield 190, 3) := by decide +kernel
theorem dX10_names_39 : decode cX10_names 39 = .ok (.aload_n 0, 1) := by decide +kernel
theorem dX10_names_40 : decode cX10_names 40 = .ok (.getfield 171, 3) := by decide +kernel
theorem dX10_names_43 : decode cX10_names 43 = .ok (.getfield 184, 3) := by decide +kernel
theorem dX10_names_46 : decode cX10_names 46 = .ok (.iload 4, 2) := by decide +kernel
theorem dX10_names_48 : decode cX10_names 48 = .ok (.iastore, 1) := by decide +kernel
theorem dX10_names_49 : decode cX10_names 49 = .ok (.aload_n 0, 1) := by decide +kernel
theorem dX10_names_50 : decode cX10_names 50 = .ok (.getfield 171, 3) := by decide +kernel
theorem dX10_names_53 : decode cX10_names 53 = .ok (.dup, 1) := by decide +kernel
theorem dX10_names_54 : decode cX10_names 54 = .ok (.getfield 184, 3) := by decide +kernel
theorem dX10_names_57 : decode cX10_names 57 = .ok (.iconst 1, 1) := by decide +kernel
theorem dX10_names_58 : decode cX10_names 58 = .ok (.iadd, 1) := by decide +kernel
theorem dX10_names_59 : decode cX10_names 59 = .ok (.putfield 184, 3) := by decide +kernel
theorem dX10_names_62 : decode cX10_names 62 = .ok (.return_, 1) := by decide +kernel
theorem dX10_known_0 : decode cX10_known 0 = .ok (.aload_n 0, 1) := by decide +kernel
theorem dX10_known_1 : decode cX10_known 1 = .ok (.invokevirtual 167, 3) := by decide +kernel
theorem dX10_known_4 : decode cX10_known 4 = .ok (.ifCond .ne 8, 3) := by decide +kernel
theorem dX10_known_7 : decode cX10_known 7 = .ok (.aload_n 0, 1) := by decide +kernel
theorem dX10_known_8 : decode cX10_known 8 = .ok (.iconst 1, 1) := by decide +kernel
theorem dX10_known_9 : decode cX10_known 9 = .ok (.invokevirtual 130, 3) := by decide +kernel
theorem dX10_known_12 : decode cX10_known 12 = .ok (.aload_n 0, 1) := by decide +kernel
theorem dX10_known_13 : decode cX10_known 13 = .ok (.getfield 171, 3) := by decide +kernel
theorem dX10_known_16 : decode cX10_known 16 = .ok (.aload_n 0, 1) := by decide +kernel
theorem dX10_known_17 : decode cX10_known 17 = .ok (.getfield 103, 3) := by decide +kernel
theorem dX10_known_20 : decode cX10_known 20 = .ok (.invokevirtual 175, 3) := by decide +kernel
theorem dX10_known_23 : decode cX10_known 23 = .ok (.istore_n 2, 1) := by decide +kernel
theorem dX10_known_24 : decode cX10_known 24 = .ok (.iload_n 2, 1) := by decide +kernel
theorem dX10_known_25 : decode cX10_known 25 = .ok (.iconst (-1), 1) := by decide +kernel
theorem dX10_known_26 : decode cX10_known 26 = .ok (.if_icmp .eq 16, 3) := by decide +kernel
theorem dX10_known_29 : decode cX10_known 29 = .ok (.aload_n 0, 1) := by decide +kernel
theorem dX10_known_30 : decode cX10_known 30 = .ok (.getfield 171, 3) := by decide +kernel
theorem dX10_known_33 : decode cX10_known 33 = .ok (.getfield 187, 3) := by decide +kernel
theorem dX10_known_36 : decode cX10_known 36 = .ok (.iload_n 2, 1) := by decide +kernel
theorem dX10_known_37 : decode cX10_known 37 = .ok (.iaload, 1) := by decide +kernel
theorem dX10_known_38 : decode cX10_known 38 = .ok (.iload_n 1, 1) := by decide +kernel
theorem dX10_known_39 : decode cX10_known 39 = .ok (.if_icmp .eq 8, 3) := by decide +kernel
theorem dX10_known_42 : decode cX10_known 42 = .ok (.aload_n 0, 1) := by decide +kernel
theorem dX10_known_43 : decode cX10_known 43 = .ok (.iconst 2, 1) := by decide +kernel
theorem dX10_known_44 : decode cX10_known 44 = .ok (.invokevirtual 130, 3) := by decide +kernel
theorem dX10_known_47 : decode cX10_known 47 = .ok (.aload_n 0, 1) := by decide +kernel
theorem dX10_known_48 : decode cX10_known 48 = .ok (.getfield 84, 3) := by decide +kernel
theorem dX10_known_51 : decode cX10_known 51 = .ok (.iconst 5, 1) := by decide +kernel
theorem dX10_known_52 : decode cX10_known 52 = .ok (.if_icmp .ne 7, 3) := by decide +kernel
theorem dX10_known_55 : decode cX10_known 55 = .ok (.iconst 0, 1) := by decide +kernel
theorem dX10_known_56 : decode cX10_known 56 = .ok (.goto 12, 3) := by decide +kernel
theorem dX10_known_59 : decode cX10_known 59 = .ok (.aload_n 0, 1) := by decide +kernel
theorem dX10_known_60 : decode cX10_known 60 = .ok (.getfield 171, 3) := by decide +kernel
theorem dX10_known_63 : decode cX10_known 63 = .ok (.getfield 190, 3) := by decide +kernel
theorem dX10_known_66 : decode cX10_known 66 = .ok (.iload_n 2, 1) := by decide +kernel
theorem dX10_known_67 : decode cX10_known 67 = .ok (.iaload, 1) := by decide +kernel
theorem dX10_known_68 : decode cX10_known 68 = .ok (.ireturn, 1) := by decide +kernel
theorem dX10_readAll_0 : decode cX10_readAll 0 = .ok (.iconst 1, 1) := by decide +kernel
theorem dX10_readAll_1 : decode cX10_readAll 1 = .ok (.istore_n 1, 1) := by decide +kernel
theorem dX10_readAll_2 : decode cX10_readAll 2 = .ok (.iload_n 1, 1) := by decide +kernel
theorem dX10_readAll_3 : decode cX10_readAll 3 = .ok (.ifCond .eq 17, 3) := by decide +kernel
theorem dX10_readAll_6 : decode cX10_readAll 6 = .ok (.aload_n 0, 1) := by decide +kernel
theorem dX10_readAll_7 : decode cX10_readAll 7 = .ok (.invokevirtual 193, 3) := by decide +kernel
theorem dX10_readAll_10 : decode cX10_readAll 10 = .ok (.aload_n 0, 1) := by decide +kernel
theorem dX10_readAll_11 : decode cX10_readAll 11 = .ok (.bipush 59, 2) := by decide +kernel
theorem dX10_readAll_13 : decode cX10_readAll 13 = .ok (.invokevirtual 196, 3) := by decide +kernel
theorem dX10_readAll_16 : decode cX10_readAll 16 = .ok (.istore_n 1, 1) := by decide +kernel
theorem dX10_readAll_17 : decode cX10_readAll 17 = .ok (.goto (-15), 3) := by decide +kernel
theorem dX10_readAll_20 : decode cX10_readAll 20 = .ok (.aload_n 0, 1) := by decide +kernel
theorem dX10_readAll_21 : decode cX10_readAll 21 = .ok (.getfield 84, 3) := by decide +kernel
theorem dX10_readAll_24 : decode cX10_readAll 24 = .ok (.iconst 1, 1) := by decide +kernel
theorem dX10_readAll_25 : decode cX10_readAll 25 = .ok (.if_icmp .eq 8, 3) := by decide +kernel
theorem dX10_readAll_28 : decode cX10_readAll 28 = .ok (.aload_n 0, 1) := by decide +kernel
theorem dX10_readAll_29 : decode cX10_readAll 29 = .ok (.iconst 1, 1) := by decide +kernel
theorem dX10_readAll_30 : decode cX10_readAll 30 = .ok (.invokevirtual 130, 3) := by decide +kernel
theorem dX10_readAll_33 : decode cX10_readAll 33 = .ok (.aload_n 0, 1) := by decide +kernel
theorem dX10_readAll_34 : decode cX10_readAll 34 = .ok (.getfield 171, 3) := by decide +kernel
theorem dX10_readAll_37 : decode cX10_readAll 37 = .ok (.getfield 199, 3) := by decide +kernel
theorem dX10_readAll_40 : decode cX10_readAll 40 = .ok (.ifCond .eq 13, 3) := by decide +kernel
theorem dX10_readAll_43 : decode cX10_readAll 43 = .ok (.aload_n 0, 1) := by decide +kernel
theorem dX10_readAll_44 : decode cX10_readAll 44 = .ok (.getfield 171, 3) := by decide +kernel
theorem dX10_readAll_47 : decode cX10_readAll 47 = .ok (.getfield 203, 3) := by decide +kernel
theorem dX10_readAll_50 : decode cX10_readAll 50 = .ok (.ifCond .ne 9, 3) := by decide +kernel
theorem dX10_readAll_53 : decode cX10_readAll 53 = .ok (.aload_n 0, 1) := by decide +kernel
theorem dX10_readAll_54 : decode cX10_readAll 54 = .ok (.bipush 6, 2) := by decide +kernel
theorem dX10_readAll_56 : decode cX10_readAll 56 = .ok (.invokevirtual 130, 3) := by decide +kernel
theorem dX10_readAll_59 : decode cX10_readAll 59 = .ok (.return_, 1) := by decide +kernel
theorem dX10_readLine_0 : decode cX10_readLine 0 = .ok (.aload_n 0, 1) := by decide +kernel
theorem dX10_readLine_1 : decode cX10_readLine 1 = .ok (.ldc 146, 2) := by decide +kernel
theorem dX10_readLine_3 : decode cX10_readLine 3 = .ok (.invokevirtual 123, 3) := by decide +kernel
theorem dX10_readLine_6 : decode cX10_readLine 6 = .ok (.ifCond .eq 10, 3) := by decide +kernel
theorem dX10_readLine_9 : decode cX10_readLine 9 = .ok (.aload_n 0, 1) := by decide +kernel
theorem dX10_readLine_10 : decode cX10_readLine 10 = .ok (.invokevirtual 206, 3) := by decide +kernel
theorem dX10_readLine_13 : decode cX10_readLine 13 = .ok (.goto 138, 3) := by decide +kernel
theorem dX10_readLine_16 : decode cX10_readLine 16 = .ok (.aload_n 0, 1) := by decide +kernel
theorem dX10_readLine_17 : decode cX10_readLine 17 = .ok (.ldc 148, 2) := by decide +kernel
theorem dX10_readLine_19 : decode cX10_readLine 19 = .ok (.invokevirtual 123, 3) := by decide +kernel
theorem dX10_readLine_22 : decode cX10_readLine 22 = .ok (.ifCond .eq 10, 3) := by decide +kernel
theorem dX10_readLine_25 : decode cX10_readLine 25 = .ok (.aload_n 0, 1) := by decide +kernel
theorem dX10_readLine_26 : decode cX10_readLine 26 = .ok (.invokevirtual 209, 3) := by decide +kernel
theorem dX10_readLine_29 : decode cX10_readLine 29 = .ok (.goto 122, 3) := by decide +kernel
theorem dX10_readLine_32 : decode cX10_readLine 32 = .ok (.aload_n 0, 1) := by decide +kernel
theorem dX10_readLine_33 : decode cX10_readLine 33 = .ok (.ldc 150, 2) := by decide +kernel
theorem dX10_readLine_35 : decode cX10_readLine 35 = .ok (.invokevirtual 123, 3) := by decide +kernel
theorem dX10_readLine_38 : decode cX10_readLine 38 = .ok (.ifCond .eq 10, 3) := by decide +kernel
theorem dX10_readLine_41 : decode cX10_readLine 41 = .ok (.aload_n 0, 1) := by decide +kernel
theorem dX10_readLine_42 : decode cX10_readLine 42 = .ok (.invokevirtual 212, 3) := by decide +kernel
theorem dX10_readLine_45 : decode cX10_readLine 45 = .ok (.goto 106, 3) := by decide +kernel
theorem dX10_readLine_48 : decode cX10_readLine 48 = .ok (.aload_n 0, 1) := by decide +kernel
theorem dX10_readLine_49 : decode cX10_readLine 49 = .ok (.ldc 151, 2) := by decide +kernel
theorem dX10_readLine_51 : decode cX10_readLine 51 = .ok (.invokevirtual 123, 3) := by decide +kernel
theorem dX10_readLine_54 : decode cX10_readLine 54 = .ok (.ifCond .eq 10, 3) := by decide +kernel
theorem dX10_readLine_57 : decode cX10_readLine 57 = .ok (.aload_n 0, 1) := by decide +kernel
theorem dX10_readLine_58 : decode cX10_readLine 58 = .ok (.invokevirtual 215, 3) := by decide +kernel
theorem dX10_readLine_61 : decode cX10_readLine 61 = .ok (.goto 90, 3) := by decide +kernel
theorem dX10_readLine_64 : decode cX10_readLine 64 = .ok (.aload_n 0, 1) := by decide +kernel
theorem dX10_readLine_65 : decode cX10_readLine 65 = .ok (.ldc 153, 2) := by decide +kernel
theorem dX10_readLine_67 : decode cX10_readLine 67 = .ok (.invokevirtual 123, 3) := by decide +kernel
theorem dX10_readLine_70 : decode cX10_readLine 70 = .ok (.ifCond .eq 10, 3) := by decide +kernel
theorem dX10_readLine_73 : decode cX10_readLine 73 = .ok (.aload_n 0, 1) := by decide +kernel
theorem dX10_readLine_74 : decode cX10_readLine 74 = .ok (.invokevirtual 218, 3) := by decide +kernel
theorem dX10_readLine_77 : decode cX10_readLine 77 = .ok (.goto 74, 3) := by decide +kernel
theorem dX10_readLine_80 : decode cX10_readLine 80 = .ok (.aload_n 0, 1) := by decide +kernel
theorem dX10_readLine_81 : decode cX10_readLine 81 = .ok (.ldc 155, 2) := by decide +kernel
theorem dX10_readLine_83 : decode cX10_readLine 83 = .ok (.invokevirtual 123, 3) := by decide +kernel
theorem dX10_readLine_86 : decode cX10_readLine 86 = .ok (.ifCond .eq 11, 3) := by decide +kernel
theorem dX10_readLine_89 : decode cX10_readLine 89 = .ok (.aload_n 0, 1) := by decide +kernel
theorem dX10_readLine_90 : decode cX10_readLine 90 = .ok (.iconst 0, 1) := by decide +kernel
theorem dX10_readLine_91 : decode cX10_readLine 91 = .ok (.invokevirtual 221, 3) := by decide +kernel
theorem dX10_readLine_94 : decode cX10_readLine 94 = .ok (.goto 57, 3) := by decide +kernel
theorem dX10_readLine_97 : decode cX10_readLine 97 = .ok (.aload_n 0, 1) := by decide +kernel
theorem dX10_readLine_98 : decode cX10_readLine 98 = .ok (.ldc 156, 2) := by decide +kernel
theorem dX10_readLine_100 : decode cX10_readLine 100 = .ok (.invokevirtual 123, 3) := by decide +kernel
theorem dX10_readLine_103 : decode cX10_readLine 103 = .ok (.ifCond .eq 11, 3) := by decide +kernel
theorem dX10_readLine_106 : decode cX10_readLine 106 = .ok (.aload_n 0, 1) := by decide +kernel
theorem dX10_readLine_107 : decode cX10_readLine 107 = .ok (.iconst 1, 1) := by decide +kernel
theorem dX10_readLine_108 : decode cX10_readLine 108 = .ok (.invokevirtual 221, 3) := by decide +kernel
theorem dX10_readLine_111 : decode cX10_readLine 111 = .ok (.goto 40, 3) := by decide +kernel
theorem dX10_readLine_114 : decode cX10_readLine 114 = .ok (.aload_n 0, 1) := by decide +kernel
theorem dX10_readLine_115 : decode cX10_readLine 115 = .ok (.ldc 158, 2) := by decide +kernel
theorem dX10_readLine_117 : decode cX10_readLine 117 = .ok (.invokevirtual 123, 3) := by decide +kernel
theorem dX10_readLine_120 : decode cX10_readLine 120 = .ok (.ifCond .eq 10, 3) := by decide +kernel
theorem dX10_readLine_123 : decode cX10_readLine 123 = .ok (.aload_n 0, 1) := by decide +kernel
theorem dX10_readLine_124 : decode cX10_readLine 124 = .ok (.invokevirtual 224, 3) := by decide +kernel
theorem dX10_readLine_127 : decode cX10_readLine 127 = .ok (.goto 24, 3) := by decide +kernel
theorem dX10_readLine_130 : decode cX10_readLine 130 = .ok (.aload_n 0, 1) := by decide +kernel
theorem dX10_readLine_131 : decode cX10_readLine 131 = .ok (.ldc 160, 2) := by decide +kernel
theorem dX10_readLine_133 : decode cX10_readLine 133 = .ok (.invokevirtual 123, 3) := by decide +kernel
theorem dX10_readLine_136 : decode cX10_readLine 136 = .ok (.ifCond .eq 10, 3) := by decide +kernel
theorem dX10_readLine_139 : decode cX10_readLine 139 = .ok (.aload_n 0, 1) := by decide +kernel
theorem dX10_readLine_140 : decode cX10_readLine 140 = .ok (.invokevirtual 227, 3) := by decide +kernel
theorem dX10_readLine_143 : decode cX10_readLine 143 = .ok (.goto 8, 3) := by decide +kernel
theorem dX10_readLine_146 : decode cX10_readLine 146 = .ok (.aload_n 0, 1) := by decide +kernel
theorem dX10_readLine_147 : decode cX10_readLine 147 = .ok (.iconst 1, 1) := by decide +kernel
theorem dX10_readLine_148 : decode cX10_readLine 148 = .ok (.invokevirtual 130, 3) := by decide +kernel
theorem dX10_readLine_151 : decode cX10_readLine 151 = .ok (.return_, 1) := by decide +kernel
theorem dX10_readCloth_0 : decode cX10_readCloth 0 = .ok (.aload_n 0, 1) := by decide +kernel
theorem dX10_readCloth_1 : decode cX10_readCloth 1 = .ok (.getfield 171, 3) := by decide +kernel
theorem dX10_readCloth_4 : decode cX10_readCloth 4 = .ok (.getfield 199, 3) := by decide +kernel
theorem dX10_readCloth_7 : decode cX10_readCloth 7 = .ok (.ifCond .eq 8, 3) := by decide +kernel
theorem dX10_readCloth_10 : decode cX10_readCloth 10 = .ok (.aload_n 0, 1) := by decide +kernel
theorem dX10_readCloth_11 : decode cX10_readCloth 11 = .ok (.iconst 3, 1) := by decide +kernel
theorem dX10_readCloth_12 : decode cX10_readCloth 12 = .ok (.invokevirtual 130, 3) := by decide +kernel
theorem dX10_readCloth_15 : decode cX10_readCloth 15 = .ok (.aload_n 0, 1) := by decide +kernel
theorem dX10_readCloth_16 : decode cX10_readCloth 16 = .ok (.invokevirtual 127, 3) := by decide +kernel
theorem dX10_readCloth_19 : decode cX10_readCloth 19 = .ok (.aload_n 0, 1) := by decide +kernel
theorem dX10_readCloth_20 : decode cX10_readCloth 20 = .ok (.getfield 171, 3) := by decide +kernel
theorem dX10_readCloth_23 : decode cX10_readCloth 23 = .ok (.aload_n 0, 1) := by decide +kernel
theorem dX10_readCloth_24 : decode cX10_readCloth 24 = .ok (.ldc 230, 2) := by decide +kernel
theorem dX10_readCloth_26 : decode cX10_readCloth 26 = .ok (.iconst 4, 1) := by decide +kernel
theorem dX10_readCloth_27 : decode cX10_readCloth 27 = .ok (.bipush 60, 2) := by decide +kernel
theorem dX10_readCloth_29 : decode cX10_readCloth 29 = .ok (.invokevirtual 231, 3) := by decide +kernel
theorem dX10_readCloth_32 : decode cX10_readCloth 32 = .ok (.putfield 235, 3) := by decide +kernel
theorem dX10_readCloth_35 : decode cX10_readCloth 35 = .ok (.aload_n 0, 1) := by decide +kernel
theorem dX10_readCloth_36 : decode cX10_readCloth 36 = .ok (.getfield 171, 3) := by decide +kernel
theorem dX10_readCloth_39 : decode cX10_readCloth 39 = .ok (.aload_n 0, 1) := by decide +kernel
theorem dX10_readCloth_40 : decode cX10_readCloth 40 = .ok (.ldc 237, 2) := by decide +kernel
theorem dX10_readCloth_42 : decode cX10_readCloth 42 = .ok (.iconst 0, 1) := by decide +kernel
theorem dX10_readCloth_43 : decode cX10_readCloth 43 = .ok (.bipush 9, 2) := by decide +kernel
theorem dX10_readCloth_45 : decode cX10_readCloth 45 = .ok (.invokevirtual 231, 3) := by decide +kernel
theorem dX10_readCloth_48 : decode cX10_readCloth 48 = .ok (.putfield 239, 3) := by decide +kernel
theorem dX10_readCloth_51 : decode cX10_readCloth 51 = .ok (.aload_n 0, 1) := by decide +kernel
theorem dX10_readCloth_52 : decode cX10_readCloth 52 = .ok (.getfield 171, 3) := by decide +kernel
theorem dX10_readCloth_55 : decode cX10_readCloth 55 = .ok (.getfield 241, 3) := by decide +kernel
theorem dX10_readCloth_58 : decode cX10_readCloth 58 = .ok (.iconst 0, 1) := by decide +kernel
theorem dX10_readCloth_59 : decode cX10_readCloth 59 = .ok (.aload_n 0, 1) := by decide +kernel
theorem dX10_readCloth_60 : decode cX10_readCloth 60 = .ok (.ldc 155, 2) := by decide +kernel
theorem dX10_readCloth_62 : decode cX10_readCloth 62 = .ok (.iconst 1, 1) := by decide +kernel
theorem dX10_readCloth_63 : decode cX10_readCloth 63 = .ok (.bipush 9, 2) := by decide +kernel
theorem dX10_readCloth_65 : decode cX10_readCloth 65 = .ok (.invokevirtual 231, 3) := by decide +kernel
theorem dX10_readCloth_68 : decode cX10_readCloth 68 = .ok (.iastore, 1) := by decide +kernel
theorem dX10_readCloth_69 : decode cX10_readCloth 69 = .ok (.aload_n 0, 1) := by decide +kernel
theorem dX10_readCloth_70 : decode cX10_readCloth 70 = .ok (.getfield 171, 3) := by decide +kernel
theorem dX10_readCloth_73 : decode cX10_readCloth 73 = .ok (.getfield 241, 3) := by decide +kernel
theorem dX10_readCloth_76 : decode cX10_readCloth 76 = .ok (.iconst 1, 1) := by decide +kernel
theorem dX10_readCloth_77 : decode cX10_readCloth 77 = .ok (.aload_n 0, 1) := by decide +kernel
theorem dX10_readCloth_78 : decode cX10_readCloth 78 = .ok (.ldc 156, 2) := by decide +kernel
theorem dX10_readCloth_80 : decode cX10_readCloth 80 = .ok (.iconst 1, 1) := by decide +kernel
theorem dX10_readCloth_81 : decode cX10_readCloth 81 = .ok (.bipush 9, 2) := by decide +kernel
theorem dX10_readCloth_83 : decode cX10_readCloth 83 = .ok (.invokevirtual 231, 3) := by decide +kernel
theorem dX10_readCloth_86 : decode cX10_readCloth 86 = .ok (.iastore, 1) := by decide +kernel
theorem dX10_readCloth_87 : decode cX10_readCloth 87 = .ok (.aload_n 0, 1) := by decide +kernel
theorem dX10_readCloth_88 : decode cX10_readCloth 88 = .ok (.getfield 171, 3) := by decide +kernel
theorem dX10_readCloth_91 : decode cX10_readCloth 91 = .ok (.aload_n 0, 1) := by decide +kernel
theorem dX10_readCloth_92 : decode cX10_readCloth 92 = .ok (.ldc 244, 2) := by decide +kernel
theorem dX10_readCloth_94 : decode cX10_readCloth 94 = .ok (.iconst 1, 1) := by decide +kernel
theorem dX10_readCloth_95 : decode cX10_readCloth 95 = .ok (.iconst 5, 1) := by decide +kernel
theorem dX10_readCloth_96 : decode cX10_readCloth 96 = .ok (.invokevirtual 231, 3) := by decide +kernel
theorem dX10_readCloth_99 : decode cX10_readCloth 99 = .ok (.putfield 246, 3) := by decide +kernel
theorem dX10_readCloth_102 : decode cX10_readCloth 102 = .ok (.aload_n 0, 1) := by decide +kernel
theorem dX10_readCloth_103 : decode cX10_readCloth 103 = .ok (.getfield 171, 3) := by decide +kernel
theorem dX10_readCloth_106 : decode cX10_readCloth 106 = .ok (.iconst 1, 1) := by decide +kernel
theorem dX10_readCloth_107 : decode cX10_readCloth 107 = .ok (.putfield 199, 3) := by decide +kernel
theorem dX10_readCloth_110 : decode cX10_readCloth 110 = .ok (.return_, 1) := by decide +kernel
theorem dX10_readColour_0 : decode cX10_readColour 0 = .ok (.aload_n 0, 1) := by decide +kernel
theorem dX10_readColour_1 : decode cX10_readColour 1 = .ok (.aload_n 0, 1) := by decide +kernel
theorem dX10_readColour_2 : decode cX10_readColour 2 = .ok (.getfield 171, 3) := by decide +kernel
theorem dX10_readColour_5 : decode cX10_readColour 5 = .ok (.getfield 248, 3) := by decide +kernel
theorem dX10_readColour_8 : decode cX10_readColour 8 = .ok (.iconst 2, 1) := by decide +kernel
theorem dX10_readColour_9 : decode cX10_readColour 9 = .ok (.invokevirtual 251, 3) := by decide +kernel
theorem dX10_readColour_12 : decode cX10_readColour 12 = .ok (.aload_n 0, 1) := by decide +kernel
theorem dX10_readColour_13 : decode cX10_readColour 13 = .ok (.invokevirtual 255, 3) := by decide +kernel
theorem dX10_readColour_16 : decode cX10_readColour 16 = .ok (.lstore_n 1, 1) := by decide +kernel
theorem dX10_readColour_17 : decode cX10_readColour 17 = .ok (.aload_n 0, 1) := by decide +kernel
theorem dX10_readColour_18 : decode cX10_readColour 18 = .ok (.ldc 155, 2) := by decide +kernel
theorem dX10_readColour_20 : decode cX10_readColour 20 = .ok (.iconst 0, 1) := by decide +kernel
theorem dX10_readColour_21 : decode cX10_readColour 21 = .ok (.bipush 9, 2) := by decide +kernel
theorem dX10_readColour_23 : decode cX10_readColour 23 = .ok (.invokevirtual 231, 3) := by decide +kernel
theorem dX10_readColour_26 : decode cX10_readColour 26 = .ok (.istore_n 3, 1) := by decide +kernel
theorem dX10_readColour_27 : decode cX10_readColour 27 = .ok (.aload_n 0, 1) := by decide +kernel
theorem dX10_readColour_28 : decode cX10_readColour 28 = .ok (.ldc 156, 2) := by decide +kernel
theorem dX10_readColour_30 : decode cX10_readColour 30 = .ok (.iconst 0, 1) := by decide +kernel
theorem dX10_readColour_31 : decode cX10_readColour 31 = .ok (.bipush 9, 2) := by decide +kernel
theorem dX10_readColour_33 : decode cX10_readColour 33 = .ok (.invokevirtual 231, 3) := by decide +kernel
theorem dX10_readColour_36 : decode cX10_readColour 36 = .ok (.istore 4, 2) := by decide +kernel
theorem dX10_readColour_38 : decode cX10_readColour 38 = .ok (.aload_n 0, 1) := by decide +kernel
theorem dX10_readColour_39 : decode cX10_readColour 39 = .ok (.getfield 84, 3) := by decide +kernel
theorem dX10_readColour_42 : decode cX10_readColour 42 = .ok (.iconst 5, 1) := by decide +kernel
theorem dX10_readColour_43 : decode cX10_readColour 43 = .ok (.if_icmp .ne 4, 3) := by decide +kernel
theorem dX10_readColour_46 : decode cX10_readColour 46 = .ok (.return_, 1) := by decide +kernel
theorem dX10_readColour_47 : decode cX10_readColour 47 = .ok (.aload_n 0, 1) := by decide +kernel
theorem dX10_readColour_48 : decode cX10_readColour 48 = .ok (.lload_n 1, 1) := by decide +kernel
theorem dX10_readColour_49 : decode cX10_readColour 49 = .ok (.iconst 0, 1) := by decide +kernel
theorem dX10_readColour_50 : decode cX10_readColour 50 = .ok (.aload_n 0, 1) := by decide +kernel
theorem dX10_readColour_51 : decode cX10_readColour 51 = .ok (.getfield 171, 3) := by decide +kernel
theorem dX10_readColour_54 : decode cX10_readColour 54 = .ok (.getfield 248, 3) := by decide +kernel
theorem dX10_readColour_57 : decode cX10_readColour 57 = .ok (.invokevirtual 259, 3) := by decide +kernel
theorem dX10_readColour_60 : decode cX10_readColour 60 = .ok (.aload_n 0, 1) := by decide +kernel
theorem dX10_readColour_61 : decode cX10_readColour 61 = .ok (.getfield 171, 3) := by decide +kernel
theorem dX10_readColour_64 : decode cX10_readColour 64 = .ok (.getfield 262, 3) := by decide +kernel
theorem dX10_readColour_67 : decode cX10_readColour 67 = .ok (.aload_n 0, 1) := by decide +kernel
theorem dX10_readColour_68 : decode cX10_readColour 68 = .ok (.getfield 171, 3) := by decide +kernel
theorem dX10_readColour_71 : decode cX10_readColour 71 = .ok (.getfield 248, 3) := by decide +kernel
theorem dX10_readColour_74 : decode cX10_readColour 74 = .ok (.iload_n 3, 1) := by decide +kernel
theorem dX10_readColour_75 : decode cX10_readColour 75 = .ok (.iastore, 1) := by decide +kernel
theorem dX10_readColour_76 : decode cX10_readColour 76 = .ok (.aload_n 0, 1) := by decide +kernel
theorem dX10_readColour_77 : decode cX10_readColour 77 = .ok (.getfield 171, 3) := by decide +kernel
theorem dX10_readColour_80 : decode cX10_readColour 80 = .ok (.getfield 262, 3) := by decide +kernel
theorem dX10_readColour_83 : decode cX10_readColour 83 = .ok (.iconst 2, 1) := by decide +kernel
theorem dX10_readColour_84 : decode cX10_readColour 84 = .ok (.aload_n 0, 1) := by decide +kernel
theorem dX10_readColour_85 : decode cX10_readColour 85 = .ok (.getfield 171, 3) := by decide +kernel
theorem dX10_readColour_88 : decode cX10_readColour 88 = .ok (.getfield 248, 3) := by decide +kernel
theorem dX10_readColour_91 : decode cX10_readColour 91 = .ok (.iadd, 1) := by decide +kernel
theorem dX10_readColour_92 : decode cX10_readColour 92 = .ok (.iload 4, 2) := by decide +kernel
theorem dX10_readColour_94 : decode cX10_readColour 94 = .ok (.iastore, 1) := by decide +kernel
theorem dX10_readColour_95 : decode cX10_readColour 95 = .ok (.aload_n 0, 1) := by decide +kernel
theorem dX10_readColour_96 : decode cX10_readColour 96 = .ok (.getfield 171, 3) := by decide +kernel
theorem dX10_readColour_99 : decode cX10_readColour 99 = .ok (.dup, 1) := by decide +kernel
theorem dX10_readColour_100 : decode cX10_readColour 100 = .ok (.getfield 248, 3) := by decide +kernel
theorem dX10_readColour_103 : decode cX10_readColour 103 = .ok (.iconst 1, 1) := by decide +kernel
theorem dX10_readColour_104 : decode cX10_readColour 104 = .ok (.iadd, 1) := by decide +kernel
theorem dX10_readColour_105 : decode cX10_readColour 105 = .ok (.putfield 248, 3) := by decide +kernel
theorem dX10_readColour_108 : decode cX10_readColour 108 = .ok (.return_, 1) := by decide +kernel
theorem dX10_readRow_0 : decode cX10_readRow 0 = .ok (.aload_n 0, 1) := by decide +kernel
theorem dX10_readRow_1 : decode cX10_readRow 1 = .ok (.aload_n 0, 1) := by decide +kernel
theorem dX10_readRow_2 : decode cX10_readRow 2 = .ok (.getfield 171, 3) := by decide +kernel
theorem dX10_readRow_5 : decode cX10_readRow 5 = .ok (.getfield 203, 3) := by decide +kernel
theorem dX10_readRow_8 : decode cX10_readRow 8 = .ok (.bipush 8, 2) := by decide +kernel
theorem dX10_readRow_10 : decode cX10_readRow 10 = .ok (.invokevirtual 251, 3) := by decide +kernel
theorem dX10_readRow_13 : decode cX10_readRow 13 = .ok (.aload_n 0, 1) := by decide +kernel
theorem dX10_readRow_14 : decode cX10_readRow 14 = .ok (.invokevirtual 255, 3) := by decide +kernel
theorem dX10_readRow_17 : decode cX10_readRow 17 = .ok (.lstore_n 1, 1) := by decide +kernel
theorem dX10_readRow_18 : decode cX10_readRow 18 = .ok (.aload_n 0, 1) := by decide +kernel
theorem dX10_readRow_19 : decode cX10_readRow 19 = .ok (.ldc_w 265, 3) := by decide +kernel
theorem dX10_readRow_22 : decode cX10_readRow 22 = .ok (.invokevirtual 138, 3) := by decide +kernel
theorem dX10_readRow_25 : decode cX10_readRow 25 = .ok (.aload_n 0, 1) := by decide +kernel
theorem dX10_readRow_26 : decode cX10_readRow 26 = .ok (.iconst 0, 1) := by decide +kernel
theorem dX10_readRow_27 : decode cX10_readRow 27 = .ok (.invokevirtual 267, 3) := by decide +kernel
theorem dX10_readRow_30 : decode cX10_readRow 30 = .ok (.istore_n 3, 1) := by decide +kernel
theorem dX10_readRow_31 : decode cX10_readRow 31 = .ok (.aload_n 0, 1) := by decide +kernel
theorem dX10_readRow_32 : decode cX10_readRow 32 = .ok (.invokevirtual 127, 3) := by decide +kernel
theorem dX10_readRow_35 : decode cX10_readRow 35 = .ok (.aload_n 0, 1) := by decide +kernel
theorem dX10_readRow_36 : decode cX10_readRow 36 = .ok (.iconst 0, 1) := by decide +kernel
theorem dX10_readRow_37 : decode cX10_readRow 37 = .ok (.iconst 3, 1) := by decide +kernel
theorem dX10_readRow_38 : decode cX10_readRow 38 = .ok (.invokevirtual 142, 3) := by decide +kernel
theorem dX10_readRow_41 : decode cX10_readRow 41 = .ok (.istore 4, 2) := by decide +kernel
theorem dX10_readRow_43 : decode cX10_readRow 43 = .ok (.aload_n 0, 1) := by decide +kernel
theorem dX10_readRow_44 : decode cX10_readRow 44 = .ok (.ldc 162, 2) := by decide +kernel
theorem dX10_readRow_46 : decode cX10_readRow 46 = .ok (.invokevirtual 270, 3) := by decide +kernel
theorem dX10_readRow_49 : decode cX10_readRow 49 = .ok (.istore 5, 2) := by decide +kernel
theorem dX10_readRow_51 : decode cX10_readRow 51 = .ok (.aload_n 0, 1) := by decide +kernel
theorem dX10_readRow_52 : decode cX10_readRow 52 = .ok (.getfield 84, 3) := by decide +kernel
theorem dX10_readRow_55 : decode cX10_readRow 55 = .ok (.iconst 5, 1) := by decide +kernel
theorem dX10_readRow_56 : decode cX10_readRow 56 = .ok (.if_icmp .ne 4, 3) := by decide +kernel
theorem dX10_readRow_59 : decode cX10_readRow 59 = .ok (.return_, 1) := by decide +kernel
theorem dX10_readRow_60 : decode cX10_readRow 60 = .ok (.aload_n 0, 1) := by decide +kernel
theorem dX10_readRow_61 : decode cX10_readRow 61 = .ok (.lload_n 1, 1) := by decide +kernel
theorem dX10_readRow_62 : decode cX10_readRow 62 = .ok (.iconst 1, 1) := by decide +kernel
theorem dX10_readRow_63 : decode cX10_readRow 63 = .ok (.aload_n 0, 1) := by decide +kernel
theorem dX10_readRow_64 : decode cX10_readRow 64 = .ok (.getfield 171, 3) := by decide +kernel
theorem dX10_readRow_67 : decode cX10_readRow 67 = .ok (.getfield 203, 3) := by decide +kernel
theorem dX10_readRow_70 : decode cX10_readRow 70 = .ok (.invokevirtual 259, 3) := by decide +kernel
theorem dX10_readRow_73 : decode cX10_readRow 73 = .ok (.aload_n 0, 1) := by decide +kernel
theorem dX10_readRow_74 : decode cX10_readRow 74 = .ok (.getfield 171, 3) := by decide +kernel
theorem dX10_readRow_77 : decode cX10_readRow 77 = .ok (.getfield 273, 3) := by decide +kernel
theorem dX10_readRow_80 : decode cX10_readRow 80 = .ok (.aload_n 0, 1) := by decide +kernel
theorem dX10_readRow_81 : decode cX10_readRow 81 = .ok (.getfield 171, 3) := by decide +kernel
theorem dX10_readRow_84 : decode cX10_readRow 84 = .ok (.getfield 203, 3) := by decide +kernel
theorem dX10_readRow_87 : decode cX10_readRow 87 = .ok (.iload_n 3, 1) := by decide +kernel
theorem dX10_readRow_88 : decode cX10_readRow 88 = .ok (.iastore, 1) := by decide +kernel
theorem dX10_readRow_89 : decode cX10_readRow 89 = .ok (.aload_n 0, 1) := by decide +kernel
theorem dX10_readRow_90 : decode cX10_readRow 90 = .ok (.getfield 171, 3) := by decide +kernel
theorem dX10_readRow_93 : decode cX10_readRow 93 = .ok (.getfield 275, 3) := by decide +kernel
theorem dX10_readRow_96 : decode cX10_readRow 96 = .ok (.aload_n 0, 1) := by decide +kernel
theorem dX10_readRow_97 : decode cX10_readRow 97 = .ok (.getfield 171, 3) := by decide +kernel
theorem dX10_readRow_100 : decode cX10_readRow 100 = .ok (.getfield 203, 3) := by decide +kernel
theorem dX10_readRow_103 : decode cX10_readRow 103 = .ok (.iload 4, 2) := by decide +kernel
theorem dX10_readRow_105 : decode cX10_readRow 105 = .ok (.iastore, 1) := by decide +kernel
theorem dX10_readRow_106 : decode cX10_readRow 106 = .ok (.aload_n 0, 1) := by decide +kernel
theorem dX10_readRow_107 : decode cX10_readRow 107 = .ok (.getfield 171, 3) := by decide +kernel
theorem dX10_readRow_110 : decode cX10_readRow 110 = .ok (.getfield 278, 3) := by decide +kernel
theorem dX10_readRow_113 : decode cX10_readRow 113 = .ok (.aload_n 0, 1) := by decide +kernel
theorem dX10_readRow_114 : decode cX10_readRow 114 = .ok (.getfield 171, 3) := by decide +kernel
theorem dX10_readRow_117 : decode cX10_readRow 117 = .ok (.getfield 203, 3) := by decide +kernel
theorem dX10_readRow_120 : decode cX10_readRow 120 = .ok (.iload 5, 2) := by decide +kernel
theorem dX10_readRow_122 : decode cX10_readRow 122 = .ok (.bastore, 1) := by decide +kernel
theorem dX10_readRow_123 : decode cX10_readRow 123 = .ok (.aload_n 0, 1) := by decide +kernel
theorem dX10_readRow_124 : decode cX10_readRow 124 = .ok (.getfield 171, 3) := by decide +kernel
theorem dX10_readRow_127 : decode cX10_readRow 127 = .ok (.getfield 281, 3) := by decide +kernel
theorem dX10_readRow_130 : decode cX10_readRow 130 = .ok (.aload_n 0, 1) := by decide +kernel
theorem dX10_readRow_131 : decode cX10_readRow 131 = .ok (.getfield 171, 3) := by decide +kernel
theorem dX10_readRow_134 : decode cX10_readRow 134 = .ok (.getfield 203, 3) := by decide +kernel
theorem dX10_readRow_137 : decode cX10_readRow 137 = .ok (.aload_n 0, 1) := by decide +kernel
theorem dX10_readRow_138 : decode cX10_readRow 138 = .ok (.getfield 171, 3) := by decide +kernel
theorem dX10_readRow_141 : decode cX10_readRow 141 = .ok (.getfield 203, 3) := by decide +kernel
theorem dX10_readRow_144 : decode cX10_readRow 144 = .ok (.iastore, 1) := by decide +kernel
theorem dX10_readRow_145 : decode cX10_readRow 145 = .ok (.aload_n 0, 1) := by decide +kernel
theorem dX10_readRow_146 : decode cX10_readRow 146 = .ok (.getfield 171, 3) := by decide +kernel
theorem dX10_readRow_149 : decode cX10_readRow 149 = .ok (.dup, 1) := by decide +kernel
theorem dX10_readRow_150 : decode cX10_readRow 150 = .ok (.getfield 203, 3) := by decide +kernel
theorem dX10_readRow_153 : decode cX10_readRow 153 = .ok (.iconst 1, 1) := by decide +kernel
theorem dX10_readRow_154 : decode cX10_readRow 154 = .ok (.iadd, 1) := by decide +kernel
theorem dX10_readRow_155 : decode cX10_readRow 155 = .ok (.putfield 203, 3) := by decide +kernel
theorem dX10_readRow_158 : decode cX10_readRow 158 = .ok (.return_, 1) := by decide +kernel
theorem dX10_readNext_0 : decode cX10_readNext 0 = .ok (.aload_n 0, 1) := by decide +kernel
theorem dX10_readNext_1 : decode cX10_readNext 1 = .ok (.invokevirtual 127, 3) := by decide +kernel
theorem dX10_readNext_4 : decode cX10_readNext 4 = .ok (.aload_n 0, 1) := by decide +kernel
theorem dX10_readNext_5 : decode cX10_readNext 5 = .ok (.iconst 1, 1) := by decide +kernel
theorem dX10_readNext_6 : decode cX10_readNext 6 = .ok (.invokevirtual 267, 3) := by decide +kernel
theorem dX10_readNext_9 : decode cX10_readNext 9 = .ok (.istore_n 1, 1) := by decide +kernel
theorem dX10_readNext_10 : decode cX10_readNext 10 = .ok (.aload_n 0, 1) := by decide +kernel
theorem dX10_readNext_11 : decode cX10_readNext 11 = .ok (.getfield 84, 3) := by decide +kernel
theorem dX10_readNext_14 : decode cX10_readNext 14 = .ok (.iconst 5, 1) := by decide +kernel
theorem dX10_readNext_15 : decode cX10_readNext 15 = .ok (.if_icmp .eq 20, 3) := by decide +kernel
theorem dX10_readNext_18 : decode cX10_readNext 18 = .ok (.aload_n 0, 1) := by decide +kernel
theorem dX10_readNext_19 : decode cX10_readNext 19 = .ok (.getfield 171, 3) := by decide +kernel
theorem dX10_readNext_22 : decode cX10_readNext 22 = .ok (.getfield 284, 3) := by decide +kernel
theorem dX10_readNext_25 : decode cX10_readNext 25 = .ok (.iload_n 1, 1) := by decide +kernel
theorem dX10_readNext_26 : decode cX10_readNext 26 = .ok (.baload, 1) := by decide +kernel
theorem dX10_readNext_27 : decode cX10_readNext 27 = .ok (.ifCond .eq 8, 3) := by decide +kernel
theorem dX10_readNext_30 : decode cX10_readNext 30 = .ok (.aload_n 0, 1) := by decide +kernel
theorem dX10_readNext_31 : decode cX10_readNext 31 = .ok (.iconst 3, 1) := by decide +kernel
theorem dX10_readNext_32 : decode cX10_readNext 32 = .ok (.invokevirtual 130, 3) := by decide +kernel
theorem dX10_readNext_35 : decode cX10_readNext 35 = .ok (.aload_n 0, 1) := by decide +kernel
theorem dX10_readNext_36 : decode cX10_readNext 36 = .ok (.invokevirtual 127, 3) := by decide +kernel
theorem dX10_readNext_39 : decode cX10_readNext 39 = .ok (.aload_n 0, 1) := by decide +kernel
theorem dX10_readNext_40 : decode cX10_readNext 40 = .ok (.ldc 164, 2) := by decide +kernel
theorem dX10_readNext_42 : decode cX10_readNext 42 = .ok (.invokevirtual 138, 3) := by decide +kernel
theorem dX10_readNext_45 : decode cX10_readNext 45 = .ok (.iconst 0, 1) := by decide +kernel
theorem dX10_readNext_46 : decode cX10_readNext 46 = .ok (.istore_n 2, 1) := by decide +kernel
theorem dX10_readNext_47 : decode cX10_readNext 47 = .ok (.iconst 1, 1) := by decide +kernel
theorem dX10_readNext_48 : decode cX10_readNext 48 = .ok (.istore_n 3, 1) := by decide +kernel
theorem dX10_readNext_49 : decode cX10_readNext 49 = .ok (.iload_n 3, 1) := by decide +kernel
theorem dX10_readNext_50 : decode cX10_readNext 50 = .ok (.ifCond .eq 53, 3) := by decide +kernel
theorem dX10_readNext_53 : decode cX10_readNext 53 = .ok (.aload_n 0, 1) := by decide +kernel
theorem dX10_readNext_54 : decode cX10_readNext 54 = .ok (.getfield 84, 3) := by decide +kernel
theorem dX10_readNext_57 : decode cX10_readNext 57 = .ok (.iconst 5, 1) := by decide +kernel
theorem dX10_readNext_58 : decode cX10_readNext 58 = .ok (.if_icmp .eq 45, 3) := by decide +kernel
theorem dX10_readNext_61 : decode cX10_readNext 61 = .ok (.aload_n 0, 1) := by decide +kernel
theorem dX10_readNext_62 : decode cX10_readNext 62 = .ok (.iconst 1, 1) := by decide +kernel
theorem dX10_readNext_63 : decode cX10_readNext 63 = .ok (.invokevirtual 267, 3) := by decide +kernel
theorem dX10_readNext_66 : decode cX10_readNext 66 = .ok (.istore 4, 2) := by decide +kernel
theorem dX10_readNext_68 : decode cX10_readNext 68 = .ok (.iload_n 2, 1) := by decide +kernel
theorem dX10_readNext_69 : decode cX10_readNext 69 = .ok (.iload 4, 2) := by decide +kernel
theorem dX10_readNext_71 : decode cX10_readNext 71 = .ok (.invokestatic 287, 3) := by decide +kernel
theorem dX10_readNext_74 : decode cX10_readNext 74 = .ok (.ifCond .eq 8, 3) := by decide +kernel
theorem dX10_readNext_77 : decode cX10_readNext 77 = .ok (.aload_n 0, 1) := by decide +kernel
theorem dX10_readNext_78 : decode cX10_readNext 78 = .ok (.iconst 3, 1) := by decide +kernel
theorem dX10_readNext_79 : decode cX10_readNext 79 = .ok (.invokevirtual 130, 3) := by decide +kernel
theorem dX10_readNext_82 : decode cX10_readNext 82 = .ok (.aload_n 0, 1) := by decide +kernel
theorem dX10_readNext_83 : decode cX10_readNext 83 = .ok (.invokevirtual 127, 3) := by decide +kernel
theorem dX10_readNext_86 : decode cX10_readNext 86 = .ok (.iload_n 2, 1) := by decide +kernel
theorem dX10_readNext_87 : decode cX10_readNext 87 = .ok (.iconst 1, 1) := by decide +kernel
theorem dX10_readNext_88 : decode cX10_readNext 88 = .ok (.iload 4, 2) := by decide +kernel
theorem dX10_readNext_90 : decode cX10_readNext 90 = .ok (.ishl, 1) := by decide +kernel
theorem dX10_readNext_91 : decode cX10_readNext 91 = .ok (.ior, 1) := by decide +kernel
theorem dX10_readNext_92 : decode cX10_readNext 92 = .ok (.istore_n 2, 1) := by decide +kernel
theorem dX10_readNext_93 : decode cX10_readNext 93 = .ok (.aload_n 0, 1) := by decide +kernel
theorem dX10_readNext_94 : decode cX10_readNext 94 = .ok (.bipush 44, 2) := by decide +kernel
theorem dX10_readNext_96 : decode cX10_readNext 96 = .ok (.invokevirtual 196, 3) := by decide +kernel
theorem dX10_readNext_99 : decode cX10_readNext 99 = .ok (.istore_n 3, 1) := by decide +kernel
theorem dX10_readNext_100 : decode cX10_readNext 100 = .ok (.goto (-51), 3) := by decide +kernel
theorem dX10_readNext_103 : decode cX10_readNext 103 = .ok (.aload_n 0, 1) := by decide +kernel
theorem dX10_readNext_104 : decode cX10_readNext 104 = .ok (.getfield 84, 3) := by decide +kernel
theorem dX10_readNext_107 : decode cX10_readNext 107 = .ok (.iconst 5, 1) := by decide +kernel
theorem dX10_readNext_108 : decode cX10_readNext 108 = .ok (.if_icmp .ne 4, 3) := by decide +kernel
theorem dX10_readNext_111 : decode cX10_readNext 111 = .ok (.return_, 1) := by decide +kernel
theorem dX10_readNext_112 : decode cX10_readNext 112 = .ok (.aload_n 0, 1) := by decide +kernel
theorem dX10_readNext_113 : decode cX10_readNext 113 = .ok (.getfield 171, 3) := by decide +kernel
theorem dX10_readNext_116 : decode cX10_readNext 116 = .ok (.getfield 284, 3) := by decide +kernel
theorem dX10_readNext_119 : decode cX10_readNext 119 = .ok (.iload_n 1, 1) := by decide +kernel
theorem dX10_readNext_120 : decode cX10_readNext 120 = .ok (.iconst 1, 1) := by decide +kernel
theorem dX10_readNext_121 : decode cX10_readNext 121 = .ok (.bastore, 1) := by decide +kernel
theorem dX10_readNext_122 : decode cX10_readNext 122 = .ok (.aload_n 0, 1) := by decide +kernel
theorem dX10_readNext_123 : decode cX10_readNext 123 = .ok (.getfield 171, 3) := by decide +kernel
theorem dX10_readNext_126 : decode cX10_readNext 126 = .ok (.getfield 291, 3) := by decide +kernel
theorem dX10_readNext_129 : decode cX10_readNext 129 = .ok (.iload_n 1, 1) := by decide +kernel
theorem dX10_readNext_130 : decode cX10_readNext 130 = .ok (.iload_n 2, 1) := by decide +kernel
theorem dX10_readNext_131 : decode cX10_readNext 131 = .ok (.iastore, 1) := by decide +kernel
theorem dX10_readNext_132 : decode cX10_readNext 132 = .ok (.return_, 1) := by decide +kernel
theorem dX10_readAnswers_0 : decode cX10_readAnswers 0 = .ok (.aload_n 0, 1) := by decide +kernel
theorem dX10_readAnswers_1 : decode cX10_readAnswers 1 = .ok (.invokevirtual 127, 3) := by decide +kernel
theorem dX10_readAnswers_4 : decode cX10_readAnswers 4 = .ok (.aload_n 0, 1) := by decide +kernel
theorem dX10_readAnswers_5 : decode cX10_readAnswers 5 = .ok (.iconst 1, 1) := by decide +kernel
theorem dX10_readAnswers_6 : decode cX10_readAnswers 6 = .ok (.invokevirtual 267, 3) := by decide +kernel
theorem dX10_readAnswers_9 : decode cX10_readAnswers 9 = .ok (.istore_n 1, 1) := by decide +kernel
theorem dX10_readAnswers_10 : decode cX10_readAnswers 10 = .ok (.aload_n 0, 1) := by decide +kernel
theorem dX10_readAnswers_11 : decode cX10_readAnswers 11 = .ok (.getfield 84, 3) := by decide +kernel
theorem dX10_readAnswers_14 : decode cX10_readAnswers 14 = .ok (.iconst 5, 1) := by decide +kernel
theorem dX10_readAnswers_15 : decode cX10_readAnswers 15 = .ok (.if_icmp .eq 20, 3) := by decide +kernel
theorem dX10_readAnswers_18 : decode cX10_readAnswers 18 = .ok (.aload_n 0, 1) := by decide +kernel
theorem dX10_readAnswers_19 : decode cX10_readAnswers 19 = .ok (.getfield 171, 3) := by decide +kernel
theorem dX10_readAnswers_22 : decode cX10_readAnswers 22 = .ok (.getfield 293, 3) := by decide +kernel
theorem dX10_readAnswers_25 : decode cX10_readAnswers 25 = .ok (.iload_n 1, 1) := by decide +kernel
theorem dX10_readAnswers_26 : decode cX10_readAnswers 26 = .ok (.baload, 1) := by decide +kernel
theorem dX10_readAnswers_27 : decode cX10_readAnswers 27 = .ok (.ifCond .eq 8, 3) := by decide +kernel
theorem dX10_readAnswers_30 : decode cX10_readAnswers 30 = .ok (.aload_n 0, 1) := by decide +kernel
theorem dX10_readAnswers_31 : decode cX10_readAnswers 31 = .ok (.iconst 3, 1) := by decide +kernel
theorem dX10_readAnswers_32 : decode cX10_readAnswers 32 = .ok (.invokevirtual 130, 3) := by decide +kernel
theorem dX10_readAnswers_35 : decode cX10_readAnswers 35 = .ok (.aload_n 0, 1) := by decide +kernel
theorem dX10_readAnswers_36 : decode cX10_readAnswers 36 = .ok (.invokevirtual 127, 3) := by decide +kernel
theorem dX10_readAnswers_39 : decode cX10_readAnswers 39 = .ok (.aload_n 0, 1) := by decide +kernel
theorem dX10_readAnswers_40 : decode cX10_readAnswers 40 = .ok (.iconst 1, 1) := by decide +kernel
theorem dX10_readAnswers_41 : decode cX10_readAnswers 41 = .ok (.invokevirtual 267, 3) := by decide +kernel
theorem dX10_readAnswers_44 : decode cX10_readAnswers 44 = .ok (.istore_n 2, 1) := by decide +kernel
theorem dX10_readAnswers_45 : decode cX10_readAnswers 45 = .ok (.aload_n 0, 1) := by decide +kernel
theorem dX10_readAnswers_46 : decode cX10_readAnswers 46 = .ok (.getfield 84, 3) := by decide +kernel
theorem dX10_readAnswers_49 : decode cX10_readAnswers 49 = .ok (.iconst 5, 1) := by decide +kernel
theorem dX10_readAnswers_50 : decode cX10_readAnswers 50 = .ok (.if_icmp .eq 20, 3) := by decide +kernel
theorem dX10_readAnswers_53 : decode cX10_readAnswers 53 = .ok (.aload_n 0, 1) := by decide +kernel
theorem dX10_readAnswers_54 : decode cX10_readAnswers 54 = .ok (.getfield 171, 3) := by decide +kernel
theorem dX10_readAnswers_57 : decode cX10_readAnswers 57 = .ok (.getfield 293, 3) := by decide +kernel
theorem dX10_readAnswers_60 : decode cX10_readAnswers 60 = .ok (.iload_n 2, 1) := by decide +kernel
theorem dX10_readAnswers_61 : decode cX10_readAnswers 61 = .ok (.baload, 1) := by decide +kernel
theorem dX10_readAnswers_62 : decode cX10_readAnswers 62 = .ok (.ifCond .eq 8, 3) := by decide +kernel
theorem dX10_readAnswers_65 : decode cX10_readAnswers 65 = .ok (.aload_n 0, 1) := by decide +kernel
theorem dX10_readAnswers_66 : decode cX10_readAnswers 66 = .ok (.iconst 3, 1) := by decide +kernel
theorem dX10_readAnswers_67 : decode cX10_readAnswers 67 = .ok (.invokevirtual 130, 3) := by decide +kernel
theorem dX10_readAnswers_70 : decode cX10_readAnswers 70 = .ok (.aload_n 0, 1) := by decide +kernel
theorem dX10_readAnswers_71 : decode cX10_readAnswers 71 = .ok (.invokevirtual 127, 3) := by decide +kernel
theorem dX10_readAnswers_74 : decode cX10_readAnswers 74 = .ok (.aload_n 0, 1) := by decide +kernel
theorem dX10_readAnswers_75 : decode cX10_readAnswers 75 = .ok (.getfield 84, 3) := by decide +kernel
theorem dX10_readAnswers_78 : decode cX10_readAnswers 78 = .ok (.iconst 5, 1) := by decide +kernel
theorem dX10_readAnswers_79 : decode cX10_readAnswers 79 = .ok (.if_icmp .ne 4, 3) := by decide +kernel
theorem dX10_readAnswers_82 : decode cX10_readAnswers 82 = .ok (.return_, 1) := by decide +kernel
theorem dX10_readAnswers_83 : decode cX10_readAnswers 83 = .ok (.aload_n 0, 1) := by decide +kernel
theorem dX10_readAnswers_84 : decode cX10_readAnswers 84 = .ok (.getfield 171, 3) := by decide +kernel
theorem dX10_readAnswers_87 : decode cX10_readAnswers 87 = .ok (.getfield 293, 3) := by decide +kernel
theorem dX10_readAnswers_90 : decode cX10_readAnswers 90 = .ok (.iload_n 1, 1) := by decide +kernel
theorem dX10_readAnswers_91 : decode cX10_readAnswers 91 = .ok (.iconst 1, 1) := by decide +kernel
theorem dX10_readAnswers_92 : decode cX10_readAnswers 92 = .ok (.bastore, 1) := by decide +kernel
theorem dX10_readAnswers_93 : decode cX10_readAnswers 93 = .ok (.aload_n 0, 1) := by decide +kernel
theorem dX10_readAnswers_94 : decode cX10_readAnswers 94 = .ok (.getfield 171, 3) := by decide +kernel
theorem dX10_readAnswers_97 : decode cX10_readAnswers 97 = .ok (.getfield 293, 3) := by decide +kernel
theorem dX10_readAnswers_100 : decode cX10_readAnswers 100 = .ok (.iload_n 2, 1) := by decide +kernel
theorem dX10_readAnswers_101 : decode cX10_readAnswers 101 = .ok (.iconst 1, 1) := by decide +kernel
theorem dX10_readAnswers_102 : decode cX10_readAnswers 102 = .ok (.bastore, 1) := by decide +kernel
theorem dX10_readAnswers_103 : decode cX10_readAnswers 103 = .ok (.aload_n 0, 1) := by decide +kernel
theorem dX10_readAnswers_104 : decode cX10_readAnswers 104 = .ok (.getfield 171, 3) := by decide +kernel
theorem dX10_readAnswers_107 : decode cX10_readAnswers 107 = .ok (.getfield 281, 3) := by decide +kernel
theorem dX10_readAnswers_110 : decode cX10_readAnswers 110 = .ok (.iload_n 1, 1) := by decide +kernel
theorem dX10_readAnswers_111 : decode cX10_readAnswers 111 = .ok (.iload_n 2, 1) := by decide +kernel
theorem dX10_readAnswers_112 : decode cX10_readAnswers 112 = .ok (.iastore, 1) := by decide +kernel
theorem dX10_readAnswers_113 : decode cX10_readAnswers 113 = .ok (.aload_n 0, 1) := by decide +kernel
theorem dX10_readAnswers_114 : decode cX10_readAnswers 114 = .ok (.getfield 171, 3) := by decide +kernel
theorem dX10_readAnswers_117 : decode cX10_readAnswers 117 = .ok (.getfield 281, 3) := by decide +kernel
theorem dX10_readAnswers_120 : decode cX10_readAnswers 120 = .ok (.iload_n 2, 1) := by decide +kernel
theorem dX10_readAnswers_121 : decode cX10_readAnswers 121 = .ok (.iload_n 1, 1) := by decide +kernel
theorem dX10_readAnswers_122 : decode cX10_readAnswers 122 = .ok (.iastore, 1) := by decide +kernel
theorem dX10_readAnswers_123 : decode cX10_readAnswers 123 = .ok (.return_, 1) := by decide +kernel
theorem dX10_readWoven_0 : decode cX10_readWoven 0 = .ok (.aload_n 0, 1) := by decide +kernel
theorem dX10_readWoven_1 : decode cX10_readWoven 1 = .ok (.getfield 171, 3) := by decide +kernel
theorem dX10_readWoven_4 : decode cX10_readWoven 4 = .ok (.getfield 296, 3) := by decide +kernel
theorem dX10_readWoven_7 : decode cX10_readWoven 7 = .ok (.iload_n 1, 1) := by decide +kernel
theorem dX10_readWoven_8 : decode cX10_readWoven 8 = .ok (.baload, 1) := by decide +kernel
theorem dX10_readWoven_9 : decode cX10_readWoven 9 = .ok (.ifCond .eq 8, 3) := by decide +kernel
theorem dX10_readWoven_12 : decode cX10_readWoven 12 = .ok (.aload_n 0, 1) := by decide +kernel
theorem dX10_readWoven_13 : decode cX10_readWoven 13 = .ok (.iconst 3, 1) := by decide +kernel
theorem dX10_readWoven_14 : decode cX10_readWoven 14 = .ok (.invokevirtual 130, 3) := by decide +kernel
theorem dX10_readWoven_17 : decode cX10_readWoven 17 = .ok (.aload_n 0, 1) := by decide +kernel
theorem dX10_readWoven_18 : decode cX10_readWoven 18 = .ok (.invokevirtual 127, 3) := by decide +kernel
theorem dX10_readWoven_21 : decode cX10_readWoven 21 = .ok (.bipush 8, 2) := by decide +kernel
theorem dX10_readWoven_23 : decode cX10_readWoven 23 = .ok (.istore_n 2, 1) := by decide +kernel
theorem dX10_readWoven_24 : decode cX10_readWoven 24 = .ok (.iconst 0, 1) := by decide +kernel
theorem dX10_readWoven_25 : decode cX10_readWoven 25 = .ok (.istore_n 3, 1) := by decide +kernel
theorem dX10_readWoven_26 : decode cX10_readWoven 26 = .ok (.iconst 1, 1) := by decide +kernel
theorem dX10_readWoven_27 : decode cX10_readWoven 27 = .ok (.istore 4, 2) := by decide +kernel
theorem dX10_readWoven_29 : decode cX10_readWoven 29 = .ok (.iload 4, 2) := by decide +kernel
theorem dX10_readWoven_31 : decode cX10_readWoven 31 = .ok (.ifCond .eq 165, 3) := by decide +kernel
theorem dX10_readWoven_34 : decode cX10_readWoven 34 = .ok (.aload_n 0, 1) := by decide +kernel
theorem dX10_readWoven_35 : decode cX10_readWoven 35 = .ok (.getfield 84, 3) := by decide +kernel
theorem dX10_readWoven_38 : decode cX10_readWoven 38 = .ok (.iconst 5, 1) := by decide +kernel
theorem dX10_readWoven_39 : decode cX10_readWoven 39 = .ok (.if_icmp .eq 157, 3) := by decide +kernel
theorem dX10_readWoven_42 : decode cX10_readWoven 42 = .ok (.aload_n 0, 1) := by decide +kernel
theorem dX10_readWoven_43 : decode cX10_readWoven 43 = .ok (.iconst 1, 1) := by decide +kernel
theorem dX10_readWoven_44 : decode cX10_readWoven 44 = .ok (.invokevirtual 267, 3) := by decide +kernel
theorem dX10_readWoven_47 : decode cX10_readWoven 47 = .ok (.istore 5, 2) := by decide +kernel
theorem dX10_readWoven_49 : decode cX10_readWoven 49 = .ok (.iload_n 3, 1) := by decide +kernel
theorem dX10_readWoven_50 : decode cX10_readWoven 50 = .ok (.bipush 12, 2) := by decide +kernel
theorem dX10_readWoven_52 : decode cX10_readWoven 52 = .ok (.if_icmp .ne 8, 3) := by decide +kernel
theorem dX10_readWoven_55 : decode cX10_readWoven 55 = .ok (.aload_n 0, 1) := by decide +kernel
theorem dX10_readWoven_56 : decode cX10_readWoven 56 = .ok (.iconst 5, 1) := by decide +kernel
theorem dX10_readWoven_57 : decode cX10_readWoven 57 = .ok (.invokevirtual 130, 3) := by decide +kernel
theorem dX10_readWoven_60 : decode cX10_readWoven 60 = .ok (.iconst 2, 1) := by decide +kernel
theorem dX10_readWoven_61 : decode cX10_readWoven 61 = .ok (.iload_n 1, 1) := by decide +kernel
theorem dX10_readWoven_62 : decode cX10_readWoven 62 = .ok (.imul, 1) := by decide +kernel
theorem dX10_readWoven_63 : decode cX10_readWoven 63 = .ok (.aload_n 0, 1) := by decide +kernel
theorem dX10_readWoven_64 : decode cX10_readWoven 64 = .ok (.getfield 171, 3) := by decide +kernel
theorem dX10_readWoven_67 : decode cX10_readWoven 67 = .ok (.getfield 273, 3) := by decide +kernel
theorem dX10_readWoven_70 : decode cX10_readWoven 70 = .ok (.iload 5, 2) := by decide +kernel
theorem dX10_readWoven_72 : decode cX10_readWoven 72 = .ok (.iaload, 1) := by decide +kernel
theorem dX10_readWoven_73 : decode cX10_readWoven 73 = .ok (.iadd, 1) := by decide +kernel
theorem dX10_readWoven_74 : decode cX10_readWoven 74 = .ok (.istore 6, 2) := by decide +kernel
theorem dX10_readWoven_76 : decode cX10_readWoven 76 = .ok (.aload_n 0, 1) := by decide +kernel
theorem dX10_readWoven_77 : decode cX10_readWoven 77 = .ok (.getfield 84, 3) := by decide +kernel
theorem dX10_readWoven_80 : decode cX10_readWoven 80 = .ok (.iconst 5, 1) := by decide +kernel
theorem dX10_readWoven_81 : decode cX10_readWoven 81 = .ok (.if_icmp .eq 46, 3) := by decide +kernel
theorem dX10_readWoven_84 : decode cX10_readWoven 84 = .ok (.aload_n 0, 1) := by decide +kernel
theorem dX10_readWoven_85 : decode cX10_readWoven 85 = .ok (.getfield 171, 3) := by decide +kernel
theorem dX10_readWoven_88 : decode cX10_readWoven 88 = .ok (.iload_n 1, 1) := by decide +kernel
theorem dX10_readWoven_89 : decode cX10_readWoven 89 = .ok (.iload_n 2, 1) := by decide +kernel
theorem dX10_readWoven_90 : decode cX10_readWoven 90 = .ok (.iload 5, 2) := by decide +kernel
theorem dX10_readWoven_92 : decode cX10_readWoven 92 = .ok (.invokevirtual 299, 3) := by decide +kernel
theorem dX10_readWoven_95 : decode cX10_readWoven 95 = .ok (.ifCond .eq 26, 3) := by decide +kernel
theorem dX10_readWoven_98 : decode cX10_readWoven 98 = .ok (.aload_n 0, 1) := by decide +kernel
theorem dX10_readWoven_99 : decode cX10_readWoven 99 = .ok (.getfield 171, 3) := by decide +kernel
theorem dX10_readWoven_102 : decode cX10_readWoven 102 = .ok (.getfield 275, 3) := by decide +kernel
theorem dX10_readWoven_105 : decode cX10_readWoven 105 = .ok (.iload 5, 2) := by decide +kernel
theorem dX10_readWoven_107 : decode cX10_readWoven 107 = .ok (.iaload, 1) := by decide +kernel
theorem dX10_readWoven_108 : decode cX10_readWoven 108 = .ok (.aload_n 0, 1) := by decide +kernel
theorem dX10_readWoven_109 : decode cX10_readWoven 109 = .ok (.getfield 171, 3) := by decide +kernel
theorem dX10_readWoven_112 : decode cX10_readWoven 112 = .ok (.getfield 262, 3) := by decide +kernel
theorem dX10_readWoven_115 : decode cX10_readWoven 115 = .ok (.iload 6, 2) := by decide +kernel
theorem dX10_readWoven_117 : decode cX10_readWoven 117 = .ok (.iaload, 1) := by decide +kernel
theorem dX10_readWoven_118 : decode cX10_readWoven 118 = .ok (.if_icmp .le 9, 3) := by decide +kernel
theorem dX10_readWoven_121 : decode cX10_readWoven 121 = .ok (.aload_n 0, 1) := by decide +kernel
theorem dX10_readWoven_122 : decode cX10_readWoven 122 = .ok (.bipush 7, 2) := by decide +kernel
theorem dX10_readWoven_124 : decode cX10_readWoven 124 = .ok (.invokevirtual 130, 3) := by decide +kernel
theorem dX10_readWoven_127 : decode cX10_readWoven 127 = .ok (.aload_n 0, 1) := by decide +kernel
theorem dX10_readWoven_128 : decode cX10_readWoven 128 = .ok (.invokevirtual 127, 3) := by decide +kernel
theorem dX10_readWoven_131 : decode cX10_readWoven 131 = .ok (.aload_n 0, 1) := by decide +kernel
theorem dX10_readWoven_132 : decode cX10_readWoven 132 = .ok (.getfield 84, 3) := by decide +kernel
theorem dX10_readWoven_135 : decode cX10_readWoven 135 = .ok (.iconst 5, 1) := by decide +kernel
theorem dX10_readWoven_136 : decode cX10_readWoven 136 = .ok (.if_icmp .ne 4, 3) := by decide +kernel
theorem dX10_readWoven_139 : decode cX10_readWoven 139 = .ok (.return_, 1) := by decide +kernel
theorem dX10_readWoven_140 : decode cX10_readWoven 140 = .ok (.aload_n 0, 1) := by decide +kernel
theorem dX10_readWoven_141 : decode cX10_readWoven 141 = .ok (.getfield 171, 3) := by decide +kernel
theorem dX10_readWoven_144 : decode cX10_readWoven 144 = .ok (.getfield 262, 3) := by decide +kernel
theorem dX10_readWoven_147 : decode cX10_readWoven 147 = .ok (.iload 6, 2) := by decide +kernel
theorem dX10_readWoven_149 : decode cX10_readWoven 149 = .ok (.dup2, 1) := by decide +kernel
theorem dX10_readWoven_150 : decode cX10_readWoven 150 = .ok (.iaload, 1) := by decide +kernel
theorem dX10_readWoven_151 : decode cX10_readWoven 151 = .ok (.aload_n 0, 1) := by decide +kernel
theorem dX10_readWoven_152 : decode cX10_readWoven 152 = .ok (.getfield 171, 3) := by decide +kernel
theorem dX10_readWoven_155 : decode cX10_readWoven 155 = .ok (.getfield 275, 3) := by decide +kernel
theorem dX10_readWoven_158 : decode cX10_readWoven 158 = .ok (.iload 5, 2) := by decide +kernel
theorem dX10_readWoven_160 : decode cX10_readWoven 160 = .ok (.iaload, 1) := by decide +kernel
theorem dX10_readWoven_161 : decode cX10_readWoven 161 = .ok (.isub, 1) := by decide +kernel
theorem dX10_readWoven_162 : decode cX10_readWoven 162 = .ok (.iastore, 1) := by decide +kernel
theorem dX10_readWoven_163 : decode cX10_readWoven 163 = .ok (.aload_n 0, 1) := by decide +kernel
theorem dX10_readWoven_164 : decode cX10_readWoven 164 = .ok (.getfield 171, 3) := by decide +kernel
theorem dX10_readWoven_167 : decode cX10_readWoven 167 = .ok (.getfield 302, 3) := by decide +kernel
theorem dX10_readWoven_170 : decode cX10_readWoven 170 = .ok (.bipush 12, 2) := by decide +kernel
theorem dX10_readWoven_172 : decode cX10_readWoven 172 = .ok (.iload_n 1, 1) := by decide +kernel
theorem dX10_readWoven_173 : decode cX10_readWoven 173 = .ok (.imul, 1) := by decide +kernel
theorem dX10_readWoven_174 : decode cX10_readWoven 174 = .ok (.iload_n 3, 1) := by decide +kernel
theorem dX10_readWoven_175 : decode cX10_readWoven 175 = .ok (.iadd, 1) := by decide +kernel
theorem dX10_readWoven_176 : decode cX10_readWoven 176 = .ok (.iload 5, 2) := by decide +kernel
theorem dX10_readWoven_178 : decode cX10_readWoven 178 = .ok (.iastore, 1) := by decide +kernel
theorem dX10_readWoven_179 : decode cX10_readWoven 179 = .ok (.iinc 3 1, 3) := by decide +kernel
theorem dX10_readWoven_182 : decode cX10_readWoven 182 = .ok (.iload 5, 2) := by decide +kernel
theorem dX10_readWoven_184 : decode cX10_readWoven 184 = .ok (.istore_n 2, 1) := by decide +kernel
theorem dX10_readWoven_185 : decode cX10_readWoven 185 = .ok (.aload_n 0, 1) := by decide +kernel
theorem dX10_readWoven_186 : decode cX10_readWoven 186 = .ok (.bipush 44, 2) := by decide +kernel
theorem dX10_readWoven_188 : decode cX10_readWoven 188 = .ok (.invokevirtual 196, 3) := by decide +kernel
theorem dX10_readWoven_191 : decode cX10_readWoven 191 = .ok (.istore 4, 2) := by decide +kernel
theorem dX10_readWoven_193 : decode cX10_readWoven 193 = .ok (.goto (-164), 3) := by decide +kernel
theorem dX10_readWoven_196 : decode cX10_readWoven 196 = .ok (.aload_n 0, 1) := by decide +kernel
theorem dX10_readWoven_197 : decode cX10_readWoven 197 = .ok (.getfield 84, 3) := by decide +kernel
theorem dX10_readWoven_200 : decode cX10_readWoven 200 = .ok (.iconst 5, 1) := by decide +kernel
theorem dX10_readWoven_201 : decode cX10_readWoven 201 = .ok (.if_icmp .ne 4, 3) := by decide +kernel
theorem dX10_readWoven_204 : decode cX10_readWoven 204 = .ok (.return_, 1) := by decide +kernel
theorem dX10_readWoven_205 : decode cX10_readWoven 205 = .ok (.aload_n 0, 1) := by decide +kernel
theorem dX10_readWoven_206 : decode cX10_readWoven 206 = .ok (.getfield 171, 3) := by decide +kernel
theorem dX10_readWoven_209 : decode cX10_readWoven 209 = .ok (.getfield 296, 3) := by decide +kernel
theorem dX10_readWoven_212 : decode cX10_readWoven 212 = .ok (.iload_n 1, 1) := by decide +kernel
theorem dX10_readWoven_213 : decode cX10_readWoven 213 = .ok (.iconst 1, 1) := by decide +kernel
theorem dX10_readWoven_214 : decode cX10_readWoven 214 = .ok (.bastore, 1) := by decide +kernel
theorem dX10_readWoven_215 : decode cX10_readWoven 215 = .ok (.aload_n 0, 1) := by decide +kernel
theorem dX10_readWoven_216 : decode cX10_readWoven 216 = .ok (.getfield 171, 3) := by decide +kernel
theorem dX10_readWoven_219 : decode cX10_readWoven 219 = .ok (.getfield 305, 3) := by decide +kernel
theorem dX10_readWoven_222 : decode cX10_readWoven 222 = .ok (.iload_n 1, 1) := by decide +kernel
theorem dX10_readWoven_223 : decode cX10_readWoven 223 = .ok (.iload_n 3, 1) := by decide +kernel
theorem dX10_readWoven_224 : decode cX10_readWoven 224 = .ok (.iastore, 1) := by decide +kernel
theorem dX10_readWoven_225 : decode cX10_readWoven 225 = .ok (.return_, 1) := by decide +kernel
theorem dX10_readMotif_0 : decode cX10_readMotif 0 = .ok (.aload_n 0, 1) := by decide +kernel
theorem dX10_readMotif_1 : decode cX10_readMotif 1 = .ok (.aload_n 0, 1) := by decide +kernel
theorem dX10_readMotif_2 : decode cX10_readMotif 2 = .ok (.getfield 171, 3) := by decide +kernel
theorem dX10_readMotif_5 : decode cX10_readMotif 5 = .ok (.getfield 308, 3) := by decide +kernel
theorem dX10_readMotif_8 : decode cX10_readMotif 8 = .ok (.iconst 4, 1) := by decide +kernel
theorem dX10_readMotif_9 : decode cX10_readMotif 9 = .ok (.invokevirtual 251, 3) := by decide +kernel
theorem dX10_readMotif_12 : decode cX10_readMotif 12 = .ok (.aload_n 0, 1) := by decide +kernel
theorem dX10_readMotif_13 : decode cX10_readMotif 13 = .ok (.invokevirtual 255, 3) := by decide +kernel
theorem dX10_readMotif_16 : decode cX10_readMotif 16 = .ok (.lstore_n 1, 1) := by decide +kernel
theorem dX10_readMotif_17 : decode cX10_readMotif 17 = .ok (.aload_n 0, 1) := by decide +kernel
theorem dX10_readMotif_18 : decode cX10_readMotif 18 = .ok (.ldc_w 311, 3) := by decide +kernel
theorem dX10_readMotif_21 : decode cX10_readMotif 21 = .ok (.invokevirtual 270, 3) := by decide +kernel
theorem dX10_readMotif_24 : decode cX10_readMotif 24 = .ok (.ifCond .eq 7, 3) := by decide +kernel
theorem dX10_readMotif_27 : decode cX10_readMotif 27 = .ok (.iconst 0, 1) := by decide +kernel
theorem dX10_readMotif_28 : decode cX10_readMotif 28 = .ok (.goto 46, 3) := by decide +kernel
theorem dX10_readMotif_31 : decode cX10_readMotif 31 = .ok (.aload_n 0, 1) := by decide +kernel
theorem dX10_readMotif_32 : decode cX10_readMotif 32 = .ok (.ldc_w 313, 3) := by decide +kernel
theorem dX10_readMotif_35 : decode cX10_readMotif 35 = .ok (.invokevirtual 270, 3) := by decide +kernel
theorem dX10_readMotif_38 : decode cX10_readMotif 38 = .ok (.ifCond .eq 7, 3) := by decide +kernel
theorem dX10_readMotif_41 : decode cX10_readMotif 41 = .ok (.iconst 1, 1) := by decide +kernel
theorem dX10_readMotif_42 : decode cX10_readMotif 42 = .ok (.goto 32, 3) := by decide +kernel
theorem dX10_readMotif_45 : decode cX10_readMotif 45 = .ok (.aload_n 0, 1) := by decide +kernel
theorem dX10_readMotif_46 : decode cX10_readMotif 46 = .ok (.ldc_w 315, 3) := by decide +kernel
theorem dX10_readMotif_49 : decode cX10_readMotif 49 = .ok (.invokevirtual 270, 3) := by decide +kernel
theorem dX10_readMotif_52 : decode cX10_readMotif 52 = .ok (.ifCond .eq 7, 3) := by decide +kernel
theorem dX10_readMotif_55 : decode cX10_readMotif 55 = .ok (.iconst 2, 1) := by decide +kernel
theorem dX10_readMotif_56 : decode cX10_readMotif 56 = .ok (.goto 18, 3) := by decide +kernel
theorem dX10_readMotif_59 : decode cX10_readMotif 59 = .ok (.aload_n 0, 1) := by decide +kernel
theorem dX10_readMotif_60 : decode cX10_readMotif 60 = .ok (.ldc_w 317, 3) := by decide +kernel
theorem dX10_readMotif_63 : decode cX10_readMotif 63 = .ok (.invokevirtual 270, 3) := by decide +kernel
theorem dX10_readMotif_66 : decode cX10_readMotif 66 = .ok (.ifCond .eq 7, 3) := by decide +kernel
theorem dX10_readMotif_69 : decode cX10_readMotif 69 = .ok (.iconst 3, 1) := by decide +kernel
theorem dX10_readMotif_70 : decode cX10_readMotif 70 = .ok (.goto 4, 3) := by decide +kernel
theorem dX10_readMotif_73 : decode cX10_readMotif 73 = .ok (.iconst (-1), 1) := by decide +kernel
theorem dX10_readMotif_74 : decode cX10_readMotif 74 = .ok (.istore_n 3, 1) := by decide +kernel
theorem dX10_readMotif_75 : decode cX10_readMotif 75 = .ok (.iload_n 3, 1) := by decide +kernel
theorem dX10_readMotif_76 : decode cX10_readMotif 76 = .ok (.iconst (-1), 1) := by decide +kernel
theorem dX10_readMotif_77 : decode cX10_readMotif 77 = .ok (.if_icmp .ne 8, 3) := by decide +kernel
theorem dX10_readMotif_80 : decode cX10_readMotif 80 = .ok (.aload_n 0, 1) := by decide +kernel
theorem dX10_readMotif_81 : decode cX10_readMotif 81 = .ok (.iconst 1, 1) := by decide +kernel
theorem dX10_readMotif_82 : decode cX10_readMotif 82 = .ok (.invokevirtual 130, 3) := by decide +kernel
theorem dX10_readMotif_85 : decode cX10_readMotif 85 = .ok (.iconst 0, 1) := by decide +kernel
theorem dX10_readMotif_86 : decode cX10_readMotif 86 = .ok (.istore 4, 2) := by decide +kernel
theorem dX10_readMotif_88 : decode cX10_readMotif 88 = .ok (.iconst 1, 1) := by decide +kernel
theorem dX10_readMotif_89 : decode cX10_readMotif 89 = .ok (.istore 5, 2) := by decide +kernel
theorem dX10_readMotif_91 : decode cX10_readMotif 91 = .ok (.iload 5, 2) := by decide +kernel
theorem dX10_readMotif_93 : decode cX10_readMotif 93 = .ok (.ifCond .eq 78, 3) := by decide +kernel
theorem dX10_readMotif_96 : decode cX10_readMotif 96 = .ok (.aload_n 0, 1) := by decide +kernel
theorem dX10_readMotif_97 : decode cX10_readMotif 97 = .ok (.getfield 84, 3) := by decide +kernel
theorem dX10_readMotif_100 : decode cX10_readMotif 100 = .ok (.iconst 5, 1) := by decide +kernel
theorem dX10_readMotif_101 : decode cX10_readMotif 101 = .ok (.if_icmp .eq 70, 3) := by decide +kernel
theorem dX10_readMotif_104 : decode cX10_readMotif 104 = .ok (.aload_n 0, 1) := by decide +kernel
theorem dX10_readMotif_105 : decode cX10_readMotif 105 = .ok (.iconst 1, 1) := by decide +kernel
theorem dX10_readMotif_106 : decode cX10_readMotif 106 = .ok (.invokevirtual 267, 3) := by decide +kernel
theorem dX10_readMotif_109 : decode cX10_readMotif 109 = .ok (.istore 6, 2) := by decide +kernel
theorem dX10_readMotif_111 : decode cX10_readMotif 111 = .ok (.iload 4, 2) := by decide +kernel
theorem dX10_readMotif_113 : decode cX10_readMotif 113 = .ok (.iconst 4, 1) := by decide +kernel
theorem dX10_readMotif_114 : decode cX10_readMotif 114 = .ok (.if_icmp .ne 8, 3) := by decide +kernel
theorem dX10_readMotif_117 : decode cX10_readMotif 117 = .ok (.aload_n 0, 1) := by decide +kernel
theorem dX10_readMotif_118 : decode cX10_readMotif 118 = .ok (.iconst 5, 1) := by decide +kernel
theorem dX10_readMotif_119 : decode cX10_readMotif 119 = .ok (.invokevirtual 130, 3) := by decide +kernel
theorem dX10_readMotif_122 : decode cX10_readMotif 122 = .ok (.aload_n 0, 1) := by decide +kernel
theorem dX10_readMotif_123 : decode cX10_readMotif 123 = .ok (.invokevirtual 127, 3) := by decide +kernel
theorem dX10_readMotif_126 : decode cX10_readMotif 126 = .ok (.aload_n 0, 1) := by decide +kernel
theorem dX10_readMotif_127 : decode cX10_readMotif 127 = .ok (.getfield 84, 3) := by decide +kernel
theorem dX10_readMotif_130 : decode cX10_readMotif 130 = .ok (.iconst 5, 1) := by decide +kernel
theorem dX10_readMotif_131 : decode cX10_readMotif 131 = .ok (.if_icmp .ne 4, 3) := by decide +kernel
theorem dX10_readMotif_134 : decode cX10_readMotif 134 = .ok (.return_, 1) := by decide +kernel
theorem dX10_readMotif_135 : decode cX10_readMotif 135 = .ok (.aload_n 0, 1) := by decide +kernel
theorem dX10_readMotif_136 : decode cX10_readMotif 136 = .ok (.getfield 171, 3) := by decide +kernel
theorem dX10_readMotif_139 : decode cX10_readMotif 139 = .ok (.getfield 319, 3) := by decide +kernel
theorem dX10_readMotif_142 : decode cX10_readMotif 142 = .ok (.iconst 4, 1) := by decide +kernel
theorem dX10_readMotif_143 : decode cX10_readMotif 143 = .ok (.aload_n 0, 1) := by decide +kernel
theorem dX10_readMotif_144 : decode cX10_readMotif 144 = .ok (.getfield 171, 3) := by decide +kernel
theorem dX10_readMotif_147 : decode cX10_readMotif 147 = .ok (.getfield 308, 3) := by decide +kernel
theorem dX10_readMotif_150 : decode cX10_readMotif 150 = .ok (.imul, 1) := by decide +kernel
theorem dX10_readMotif_151 : decode cX10_readMotif 151 = .ok (.iload 4, 2) := by decide +kernel
theorem dX10_readMotif_153 : decode cX10_readMotif 153 = .ok (.iadd, 1) := by decide +kernel
theorem dX10_readMotif_154 : decode cX10_readMotif 154 = .ok (.iload 6, 2) := by decide +kernel
theorem dX10_readMotif_156 : decode cX10_readMotif 156 = .ok (.iastore, 1) := by decide +kernel
theorem dX10_readMotif_157 : decode cX10_readMotif 157 = .ok (.iinc 4 1, 3) := by decide +kernel
theorem dX10_readMotif_160 : decode cX10_readMotif 160 = .ok (.aload_n 0, 1) := by decide +kernel
theorem dX10_readMotif_161 : decode cX10_readMotif 161 = .ok (.bipush 44, 2) := by decide +kernel
theorem dX10_readMotif_163 : decode cX10_readMotif 163 = .ok (.invokevirtual 196, 3) := by decide +kernel
theorem dX10_readMotif_166 : decode cX10_readMotif 166 = .ok (.istore 5, 2) := by decide +kernel
theorem dX10_readMotif_168 : decode cX10_readMotif 168 = .ok (.goto (-77), 3) := by decide +kernel
theorem dX10_readMotif_171 : decode cX10_readMotif 171 = .ok (.aload_n 0, 1) := by decide +kernel
theorem dX10_readMotif_172 : decode cX10_readMotif 172 = .ok (.getfield 84, 3) := by decide +kernel
theorem dX10_readMotif_175 : decode cX10_readMotif 175 = .ok (.iconst 5, 1) := by decide +kernel
theorem dX10_readMotif_176 : decode cX10_readMotif 176 = .ok (.if_icmp .ne 4, 3) := by decide +kernel
theorem dX10_readMotif_179 : decode cX10_readMotif 179 = .ok (.return_, 1) := by decide +kernel
theorem dX10_readMotif_180 : decode cX10_readMotif 180 = .ok (.aload_n 0, 1) := by decide +kernel
theorem dX10_readMotif_181 : decode cX10_readMotif 181 = .ok (.lload_n 1, 1) := by decide +kernel
theorem dX10_readMotif_182 : decode cX10_readMotif 182 = .ok (.iconst 2, 1) := by decide +kernel
theorem dX10_readMotif_183 : decode cX10_readMotif 183 = .ok (.aload_n 0, 1) := by decide +kernel
theorem dX10_readMotif_184 : decode cX10_readMotif 184 = .ok (.getfield 171, 3) := by decide +kernel
theorem dX10_readMotif_187 : decode cX10_readMotif 187 = .ok (.getfield 308, 3) := by decide +kernel
theorem dX10_readMotif_190 : decode cX10_readMotif 190 = .ok (.invokevirtual 259, 3) := by decide +kernel
theorem dX10_readMotif_193 : decode cX10_readMotif 193 = .ok (.aload_n 0, 1) := by decide +kernel
theorem dX10_readMotif_194 : decode cX10_readMotif 194 = .ok (.getfield 171, 3) := by decide +kernel
theorem dX10_readMotif_197 : decode cX10_readMotif 197 = .ok (.getfield 321, 3) := by decide +kernel
theorem dX10_readMotif_200 : decode cX10_readMotif 200 = .ok (.aload_n 0, 1) := by decide +kernel
theorem dX10_readMotif_201 : decode cX10_readMotif 201 = .ok (.getfield 171, 3) := by decide +kernel
theorem dX10_readMotif_204 : decode cX10_readMotif 204 = .ok (.getfield 308, 3) := by decide +kernel
theorem dX10_readMotif_207 : decode cX10_readMotif 207 = .ok (.iload_n 3, 1) := by decide +kernel
theorem dX10_readMotif_208 : decode cX10_readMotif 208 = .ok (.iastore, 1) := by decide +kernel
theorem dX10_readMotif_209 : decode cX10_readMotif 209 = .ok (.aload_n 0, 1) := by decide +kernel
theorem dX10_readMotif_210 : decode cX10_readMotif 210 = .ok (.getfield 171, 3) := by decide +kernel
theorem dX10_readMotif_213 : decode cX10_readMotif 213 = .ok (.getfield 324, 3) := by decide +kernel
theorem dX10_readMotif_216 : decode cX10_readMotif 216 = .ok (.aload_n 0, 1) := by decide +kernel
theorem dX10_readMotif_217 : decode cX10_readMotif 217 = .ok (.getfield 171, 3) := by decide +kernel
theorem dX10_readMotif_220 : decode cX10_readMotif 220 = .ok (.getfield 308, 3) := by decide +kernel
theorem dX10_readMotif_223 : decode cX10_readMotif 223 = .ok (.iload 4, 2) := by decide +kernel
theorem dX10_readMotif_225 : decode cX10_readMotif 225 = .ok (.iastore, 1) := by decide +kernel
theorem dX10_readMotif_226 : decode cX10_readMotif 226 = .ok (.aload_n 0, 1) := by decide +kernel
theorem dX10_readMotif_227 : decode cX10_readMotif 227 = .ok (.getfield 171, 3) := by decide +kernel
theorem dX10_readMotif_230 : decode cX10_readMotif 230 = .ok (.dup, 1) := by decide +kernel
theorem dX10_readMotif_231 : decode cX10_readMotif 231 = .ok (.getfield 308, 3) := by decide +kernel
theorem dX10_readMotif_234 : decode cX10_readMotif 234 = .ok (.iconst 1, 1) := by decide +kernel
theorem dX10_readMotif_235 : decode cX10_readMotif 235 = .ok (.iadd, 1) := by decide +kernel
theorem dX10_readMotif_236 : decode cX10_readMotif 236 = .ok (.putfield 308, 3) := by decide +kernel
theorem dX10_readMotif_239 : decode cX10_readMotif 239 = .ok (.return_, 1) := by decide +kernel
theorem dX10_readNote_0 : decode cX10_readNote 0 = .ok (.aload_n 0, 1) := by decide +kernel
theorem dX10_readNote_1 : decode cX10_readNote 1 = .ok (.aload_n 0, 1) := by decide +kernel
theorem dX10_readNote_2 : decode cX10_readNote 2 = .ok (.getfield 171, 3) := by decide +kernel
theorem dX10_readNote_5 : decode cX10_readNote 5 = .ok (.getfield 327, 3) := by decide +kernel
theorem dX10_readNote_8 : decode cX10_readNote 8 = .ok (.bipush 6, 2) := by decide +kernel
theorem dX10_readNote_10 : decode cX10_readNote 10 = .ok (.invokevirtual 251, 3) := by decide +kernel
theorem dX10_readNote_13 : decode cX10_readNote 13 = .ok (.aload_n 0, 1) := by decide +kernel
theorem dX10_readNote_14 : decode cX10_readNote 14 = .ok (.ldc 156, 2) := by decide +kernel
theorem dX10_readNote_16 : decode cX10_readNote 16 = .ok (.invokevirtual 123, 3) := by decide +kernel
theorem dX10_readNote_19 : decode cX10_readNote 19 = .ok (.istore_n 1, 1) := by decide +kernel
theorem dX10_readNote_20 : decode cX10_readNote 20 = .ok (.iload_n 1, 1) := by decide +kernel
theorem dX10_readNote_21 : decode cX10_readNote 21 = .ok (.ifCond .ne 17, 3) := by decide +kernel
theorem dX10_readNote_24 : decode cX10_readNote 24 = .ok (.aload_n 0, 1) := by decide +kernel
theorem dX10_readNote_25 : decode cX10_readNote 25 = .ok (.ldc 155, 2) := by decide +kernel
theorem dX10_readNote_27 : decode cX10_readNote 27 = .ok (.invokevirtual 123, 3) := by decide +kernel
theorem dX10_readNote_30 : decode cX10_readNote 30 = .ok (.ifCond .ne 8, 3) := by decide +kernel
theorem dX10_readNote_33 : decode cX10_readNote 33 = .ok (.aload_n 0, 1) := by decide +kernel
theorem dX10_readNote_34 : decode cX10_readNote 34 = .ok (.iconst 1, 1) := by decide +kernel
theorem dX10_readNote_35 : decode cX10_readNote 35 = .ok (.invokevirtual 130, 3) := by decide +kernel
theorem dX10_readNote_38 : decode cX10_readNote 38 = .ok (.aload_n 0, 1) := by decide +kernel
theorem dX10_readNote_39 : decode cX10_readNote 39 = .ok (.invokevirtual 127, 3) := by decide +kernel
theorem dX10_readNote_42 : decode cX10_readNote 42 = .ok (.aload_n 0, 1) := by decide +kernel
theorem dX10_readNote_43 : decode cX10_readNote 43 = .ok (.iconst 0, 1) := by decide +kernel
theorem dX10_readNote_44 : decode cX10_readNote 44 = .ok (.bipush 23, 2) := by decide +kernel
theorem dX10_readNote_46 : decode cX10_readNote 46 = .ok (.invokevirtual 142, 3) := by decide +kernel
theorem dX10_readNote_49 : decode cX10_readNote 49 = .ok (.istore_n 2, 1) := by decide +kernel
theorem dX10_readNote_50 : decode cX10_readNote 50 = .ok (.aload_n 0, 1) := by decide +kernel
theorem dX10_readNote_51 : decode cX10_readNote 51 = .ok (.ldc 165, 2) := by decide +kernel
theorem dX10_readNote_53 : decode cX10_readNote 53 = .ok (.invokevirtual 138, 3) := by decide +kernel
theorem dX10_readNote_56 : decode cX10_readNote 56 = .ok (.aload_n 0, 1) := by decide +kernel
theorem dX10_readNote_57 : decode cX10_readNote 57 = .ok (.iload_n 1, 1) := by decide +kernel
theorem dX10_readNote_58 : decode cX10_readNote 58 = .ok (.ifCond .eq 8, 3) := by decide +kernel
theorem dX10_readNote_61 : decode cX10_readNote 61 = .ok (.ldc 155, 2) := by decide +kernel
theorem dX10_readNote_63 : decode cX10_readNote 63 = .ok (.goto 5, 3) := by decide +kernel
theorem dX10_readNote_66 : decode cX10_readNote 66 = .ok (.ldc 156, 2) := by decide +kernel
theorem dX10_readNote_68 : decode cX10_readNote 68 = .ok (.invokevirtual 138, 3) := by decide +kernel
theorem dX10_readNote_71 : decode cX10_readNote 71 = .ok (.aload_n 0, 1) := by decide +kernel
theorem dX10_readNote_72 : decode cX10_readNote 72 = .ok (.iconst 0, 1) := by decide +kernel
theorem dX10_readNote_73 : decode cX10_readNote 73 = .ok (.bipush 23, 2) := by decide +kernel
theorem dX10_readNote_75 : decode cX10_readNote 75 = .ok (.invokevirtual 142, 3) := by decide +kernel
theorem dX10_readNote_78 : decode cX10_readNote 78 = .ok (.istore_n 3, 1) := by decide +kernel
theorem dX10_readNote_79 : decode cX10_readNote 79 = .ok (.aload_n 0, 1) := by decide +kernel
theorem dX10_readNote_80 : decode cX10_readNote 80 = .ok (.getfield 84, 3) := by decide +kernel
theorem dX10_readNote_83 : decode cX10_readNote 83 = .ok (.iconst 5, 1) := by decide +kernel
theorem dX10_readNote_84 : decode cX10_readNote 84 = .ok (.if_icmp .ne 4, 3) := by decide +kernel
theorem dX10_readNote_87 : decode cX10_readNote 87 = .ok (.return_, 1) := by decide +kernel
theorem dX10_readNote_88 : decode cX10_readNote 88 = .ok (.aload_n 0, 1) := by decide +kernel
theorem dX10_readNote_89 : decode cX10_readNote 89 = .ok (.getfield 171, 3) := by decide +kernel
theorem dX10_readNote_92 : decode cX10_readNote 92 = .ok (.getfield 330, 3) := by decide +kernel
theorem dX10_readNote_95 : decode cX10_readNote 95 = .ok (.aload_n 0, 1) := by decide +kernel
theorem dX10_readNote_96 : decode cX10_readNote 96 = .ok (.getfield 171, 3) := by decide +kernel
theorem dX10_readNote_99 : decode cX10_readNote 99 = .ok (.getfield 327, 3) := by decide +kernel
theorem dX10_readNote_102 : decode cX10_readNote 102 = .ok (.iload_n 1, 1) := by decide +kernel
theorem dX10_readNote_103 : decode cX10_readNote 103 = .ok (.ifCond .eq 7, 3) := by decide +kernel
theorem dX10_readNote_106 : decode cX10_readNote 106 = .ok (.iconst 1, 1) := by decide +kernel
theorem dX10_readNote_107 : decode cX10_readNote 107 = .ok (.goto 4, 3) := by decide +kernel
theorem dX10_readNote_110 : decode cX10_readNote 110 = .ok (.iconst 0, 1) := by decide +kernel
theorem dX10_readNote_111 : decode cX10_readNote 111 = .ok (.iastore, 1) := by decide +kernel
theorem dX10_readNote_112 : decode cX10_readNote 112 = .ok (.aload_n 0, 1) := by decide +kernel
theorem dX10_readNote_113 : decode cX10_readNote 113 = .ok (.getfield 171, 3) := by decide +kernel
theorem dX10_readNote_116 : decode cX10_readNote 116 = .ok (.getfield 333, 3) := by decide +kernel
theorem dX10_readNote_119 : decode cX10_readNote 119 = .ok (.aload_n 0, 1) := by decide +kernel
theorem dX10_readNote_120 : decode cX10_readNote 120 = .ok (.getfield 171, 3) := by decide +kernel
theorem dX10_readNote_123 : decode cX10_readNote 123 = .ok (.getfield 327, 3) := by decide +kernel
theorem dX10_readNote_126 : decode cX10_readNote 126 = .ok (.iload_n 2, 1) := by decide +kernel
theorem dX10_readNote_127 : decode cX10_readNote 127 = .ok (.iastore, 1) := by decide +kernel
theorem dX10_readNote_128 : decode cX10_readNote 128 = .ok (.aload_n 0, 1) := by decide +kernel
theorem dX10_readNote_129 : decode cX10_readNote 129 = .ok (.getfield 171, 3) := by decide +kernel
theorem dX10_readNote_132 : decode cX10_readNote 132 = .ok (.getfield 336, 3) := by decide +kernel
theorem dX10_readNote_135 : decode cX10_readNote 135 = .ok (.aload_n 0, 1) := by decide +kernel
theorem dX10_readNote_136 : decode cX10_readNote 136 = .ok (.getfield 171, 3) := by decide +kernel
theorem dX10_readNote_139 : decode cX10_readNote 139 = .ok (.getfield 327, 3) := by decide +kernel
theorem dX10_readNote_142 : decode cX10_readNote 142 = .ok (.iload_n 3, 1) := by decide +kernel
theorem dX10_readNote_143 : decode cX10_readNote 143 = .ok (.iastore, 1) := by decide +kernel
theorem dX10_readNote_144 : decode cX10_readNote 144 = .ok (.aload_n 0, 1) := by decide +kernel
theorem dX10_readNote_145 : decode cX10_readNote 145 = .ok (.getfield 171, 3) := by decide +kernel
theorem dX10_readNote_148 : decode cX10_readNote 148 = .ok (.dup, 1) := by decide +kernel
theorem dX10_readNote_149 : decode cX10_readNote 149 = .ok (.getfield 327, 3) := by decide +kernel
theorem dX10_readNote_152 : decode cX10_readNote 152 = .ok (.iconst 1, 1) := by decide +kernel
theorem dX10_readNote_153 : decode cX10_readNote 153 = .ok (.iadd, 1) := by decide +kernel
theorem dX10_readNote_154 : decode cX10_readNote 154 = .ok (.putfield 327, 3) := by decide +kernel
theorem dX10_readNote_157 : decode cX10_readNote 157 = .ok (.return_, 1) := by decide +kernel
theorem dX10_feed_0 : decode cX10_feed 0 = .ok (.aload_n 0, 1) := by decide +kernel
theorem dX10_feed_1 : decode cX10_feed 1 = .ok (.iconst 0, 1) := by decide +kernel
theorem dX10_feed_2 : decode cX10_feed 2 = .ok (.putfield 54, 3) := by decide +kernel
theorem dX10_feed_5 : decode cX10_feed 5 = .ok (.aload_n 0, 1) := by decide +kernel
theorem dX10_feed_6 : decode cX10_feed 6 = .ok (.getfield 339, 3) := by decide +kernel
theorem dX10_feed_9 : decode cX10_feed 9 = .ok (.bipush 20, 2) := by decide +kernel
theorem dX10_feed_11 : decode cX10_feed 11 = .ok (.iadd, 1) := by decide +kernel
theorem dX10_feed_12 : decode cX10_feed 12 = .ok (.sipush 900, 3) := by decide +kernel
theorem dX10_feed_15 : decode cX10_feed 15 = .ok (.if_icmp .le 5, 3) := by decide +kernel
theorem dX10_feed_18 : decode cX10_feed 18 = .ok (.iconst (-1), 1) := by decide +kernel
theorem dX10_feed_19 : decode cX10_feed 19 = .ok (.ireturn, 1) := by decide +kernel
theorem dX10_feed_20 : decode cX10_feed 20 = .ok (.iconst 0, 1) := by decide +kernel
theorem dX10_feed_21 : decode cX10_feed 21 = .ok (.istore 6, 2) := by decide +kernel
theorem dX10_feed_23 : decode cX10_feed 23 = .ok (.iload 6, 2) := by decide +kernel
theorem dX10_feed_25 : decode cX10_feed 25 = .ok (.bipush 20, 2) := by decide +kernel
theorem dX10_feed_27 : decode cX10_feed 27 = .ok (.if_icmp .ge 90, 3) := by decide +kernel
theorem dX10_feed_30 : decode cX10_feed 30 = .ok (.iload 6, 2) := by decide +kernel
theorem dX10_feed_32 : decode cX10_feed 32 = .ok (.iconst 4, 1) := by decide +kernel
theorem dX10_feed_33 : decode cX10_feed 33 = .ok (.if_icmp .ge 7, 3) := by decide +kernel
theorem dX10_feed_36 : decode cX10_feed 36 = .ok (.iload_n 1, 1) := by decide +kernel
theorem dX10_feed_37 : decode cX10_feed 37 = .ok (.goto 39, 3) := by decide +kernel
theorem dX10_feed_40 : decode cX10_feed 40 = .ok (.iload 6, 2) := by decide +kernel
theorem dX10_feed_42 : decode cX10_feed 42 = .ok (.bipush 8, 2) := by decide +kernel
theorem dX10_feed_44 : decode cX10_feed 44 = .ok (.if_icmp .ge 7, 3) := by decide +kernel
theorem dX10_feed_47 : decode cX10_feed 47 = .ok (.iload_n 2, 1) := by decide +kernel
theorem dX10_feed_48 : decode cX10_feed 48 = .ok (.goto 28, 3) := by decide +kernel
theorem dX10_feed_51 : decode cX10_feed 51 = .ok (.iload 6, 2) := by decide +kernel
theorem dX10_feed_53 : decode cX10_feed 53 = .ok (.bipush 12, 2) := by decide +kernel
theorem dX10_feed_55 : decode cX10_feed 55 = .ok (.if_icmp .ge 7, 3) := by decide +kernel
theorem dX10_feed_58 : decode cX10_feed 58 = .ok (.iload_n 3, 1) := by decide +kernel
theorem dX10_feed_59 : decode cX10_feed 59 = .ok (.goto 17, 3) := by decide +kernel
theorem dX10_feed_62 : decode cX10_feed 62 = .ok (.iload 6, 2) := by decide +kernel
theorem dX10_feed_64 : decode cX10_feed 64 = .ok (.bipush 16, 2) := by decide +kernel
theorem dX10_feed_66 : decode cX10_feed 66 = .ok (.if_icmp .ge 8, 3) := by decide +kernel
theorem dX10_feed_69 : decode cX10_feed 69 = .ok (.iload 4, 2) := by decide +kernel
theorem dX10_feed_71 : decode cX10_feed 71 = .ok (.goto 5, 3) := by decide +kernel
theorem dX10_feed_74 : decode cX10_feed 74 = .ok (.iload 5, 2) := by decide +kernel
theorem dX10_feed_76 : decode cX10_feed 76 = .ok (.istore 7, 2) := by decide +kernel
theorem dX10_feed_78 : decode cX10_feed 78 = .ok (.aload_n 0, 1) := by decide +kernel
theorem dX10_feed_79 : decode cX10_feed 79 = .ok (.getfield 13, 3) := by decide +kernel
theorem dX10_feed_82 : decode cX10_feed 82 = .ok (.aload_n 0, 1) := by decide +kernel
theorem dX10_feed_83 : decode cX10_feed 83 = .ok (.getfield 339, 3) := by decide +kernel
theorem dX10_feed_86 : decode cX10_feed 86 = .ok (.iload 7, 2) := by decide +kernel
theorem dX10_feed_88 : decode cX10_feed 88 = .ok (.bipush 24, 2) := by decide +kernel
theorem dX10_feed_90 : decode cX10_feed 90 = .ok (.bipush 8, 2) := by decide +kernel
theorem dX10_feed_92 : decode cX10_feed 92 = .ok (.iload 6, 2) := by decide +kernel
theorem dX10_feed_94 : decode cX10_feed 94 = .ok (.iconst 4, 1) := by decide +kernel
theorem dX10_feed_95 : decode cX10_feed 95 = .ok (.irem, 1) := by decide +kernel
theorem dX10_feed_96 : decode cX10_feed 96 = .ok (.imul, 1) := by decide +kernel
theorem dX10_feed_97 : decode cX10_feed 97 = .ok (.isub, 1) := by decide +kernel
theorem dX10_feed_98 : decode cX10_feed 98 = .ok (.ishr, 1) := by decide +kernel
theorem dX10_feed_99 : decode cX10_feed 99 = .ok (.i2b, 1) := by decide +kernel
theorem dX10_feed_100 : decode cX10_feed 100 = .ok (.bastore, 1) := by decide +kernel
theorem dX10_feed_101 : decode cX10_feed 101 = .ok (.aload_n 0, 1) := by decide +kernel
theorem dX10_feed_102 : decode cX10_feed 102 = .ok (.dup, 1) := by decide +kernel
theorem dX10_feed_103 : decode cX10_feed 103 = .ok (.getfield 339, 3) := by decide +kernel
theorem dX10_feed_106 : decode cX10_feed 106 = .ok (.iconst 1, 1) := by decide +kernel
theorem dX10_feed_107 : decode cX10_feed 107 = .ok (.iadd, 1) := by decide +kernel
theorem dX10_feed_108 : decode cX10_feed 108 = .ok (.putfield 339, 3) := by decide +kernel
theorem dX10_feed_111 : decode cX10_feed 111 = .ok (.iinc 6 1, 3) := by decide +kernel
theorem dX10_feed_114 : decode cX10_feed 114 = .ok (.goto (-91), 3) := by decide +kernel
theorem dX10_feed_117 : decode cX10_feed 117 = .ok (.aload_n 0, 1) := by decide +kernel
theorem dX10_feed_118 : decode cX10_feed 118 = .ok (.getfield 339, 3) := by decide +kernel
theorem dX10_feed_121 : decode cX10_feed 121 = .ok (.ireturn, 1) := by decide +kernel
theorem dX10_cloth_0 : decode cX10_cloth 0 = .ok (.aload_n 0, 1) := by decide +kernel
theorem dX10_cloth_1 : decode cX10_cloth 1 = .ok (.iconst 0, 1) := by decide +kernel
theorem dX10_cloth_2 : decode cX10_cloth 2 = .ok (.putfield 54, 3) := by decide +kernel
theorem dX10_cloth_5 : decode cX10_cloth 5 = .ok (.iload_n 1, 1) := by decide +kernel
theorem dX10_cloth_6 : decode cX10_cloth 6 = .ok (.ifCond .lt 11, 3) := by decide +kernel
theorem dX10_cloth_9 : decode cX10_cloth 9 = .ok (.iload_n 1, 1) := by decide +kernel
theorem dX10_cloth_10 : decode cX10_cloth 10 = .ok (.aload_n 0, 1) := by decide +kernel
theorem dX10_cloth_11 : decode cX10_cloth 11 = .ok (.getfield 339, 3) := by decide +kernel
theorem dX10_cloth_14 : decode cX10_cloth 14 = .ok (.if_icmp .le 9, 3) := by decide +kernel
theorem dX10_cloth_17 : decode cX10_cloth 17 = .ok (.aload_n 0, 1) := by decide +kernel
theorem dX10_cloth_18 : decode cX10_cloth 18 = .ok (.iconst 2, 1) := by decide +kernel
theorem dX10_cloth_19 : decode cX10_cloth 19 = .ok (.invokevirtual 60, 3) := by decide +kernel
theorem dX10_cloth_22 : decode cX10_cloth 22 = .ok (.ireturn, 1) := by decide +kernel
theorem dX10_cloth_23 : decode cX10_cloth 23 = .ok (.aload_n 0, 1) := by decide +kernel
theorem dX10_cloth_24 : decode cX10_cloth 24 = .ok (.iload_n 1, 1) := by decide +kernel
theorem dX10_cloth_25 : decode cX10_cloth 25 = .ok (.putfield 69, 3) := by decide +kernel
theorem dX10_cloth_28 : decode cX10_cloth 28 = .ok (.aload_n 0, 1) := by decide +kernel
theorem dX10_cloth_29 : decode cX10_cloth 29 = .ok (.iconst 0, 1) := by decide +kernel
theorem dX10_cloth_30 : decode cX10_cloth 30 = .ok (.putfield 339, 3) := by decide +kernel
theorem dX10_cloth_33 : decode cX10_cloth 33 = .ok (.aload_n 0, 1) := by decide +kernel
theorem dX10_cloth_34 : decode cX10_cloth 34 = .ok (.iconst 0, 1) := by decide +kernel
theorem dX10_cloth_35 : decode cX10_cloth 35 = .ok (.putfield 87, 3) := by decide +kernel
theorem dX10_cloth_38 : decode cX10_cloth 38 = .ok (.aload_n 0, 1) := by decide +kernel
theorem dX10_cloth_39 : decode cX10_cloth 39 = .ok (.iconst 0, 1) := by decide +kernel
theorem dX10_cloth_40 : decode cX10_cloth 40 = .ok (.putfield 113, 3) := by decide +kernel
theorem dX10_cloth_43 : decode cX10_cloth 43 = .ok (.aload_n 0, 1) := by decide +kernel
theorem dX10_cloth_44 : decode cX10_cloth 44 = .ok (.new 176, 3) := by decide +kernel
theorem dX10_cloth_47 : decode cX10_cloth 47 = .ok (.dup, 1) := by decide +kernel
theorem dX10_cloth_48 : decode cX10_cloth 48 = .ok (.invokespecial 342, 3) := by decide +kernel
theorem dX10_cloth_51 : decode cX10_cloth 51 = .ok (.putfield 171, 3) := by decide +kernel
theorem dX10_cloth_54 : decode cX10_cloth 54 = .ok (.aload_n 0, 1) := by decide +kernel
theorem dX10_cloth_55 : decode cX10_cloth 55 = .ok (.iconst 0, 1) := by decide +kernel
theorem dX10_cloth_56 : decode cX10_cloth 56 = .ok (.putfield 84, 3) := by decide +kernel
theorem dX10_cloth_59 : decode cX10_cloth 59 = .ok (.aload_n 0, 1) := by decide +kernel
theorem dX10_cloth_60 : decode cX10_cloth 60 = .ok (.invokevirtual 127, 3) := by decide +kernel
theorem dX10_cloth_63 : decode cX10_cloth 63 = .ok (.aload_n 0, 1) := by decide +kernel
theorem dX10_cloth_64 : decode cX10_cloth 64 = .ok (.invokevirtual 343, 3) := by decide +kernel
theorem dX10_cloth_67 : decode cX10_cloth 67 = .ok (.aload_n 0, 1) := by decide +kernel
theorem dX10_cloth_68 : decode cX10_cloth 68 = .ok (.getfield 113, 3) := by decide +kernel
theorem dX10_cloth_71 : decode cX10_cloth 71 = .ok (.ifCond .le 18, 3) := by decide +kernel
theorem dX10_cloth_74 : decode cX10_cloth 74 = .ok (.aload_n 0, 1) := by decide +kernel
theorem dX10_cloth_75 : decode cX10_cloth 75 = .ok (.iconst 4, 1) := by decide +kernel
theorem dX10_cloth_76 : decode cX10_cloth 76 = .ok (.putfield 57, 3) := by decide +kernel
theorem dX10_cloth_79 : decode cX10_cloth 79 = .ok (.aload_n 0, 1) := by decide +kernel
theorem dX10_cloth_80 : decode cX10_cloth 80 = .ok (.aload_n 0, 1) := by decide +kernel
theorem dX10_cloth_81 : decode cX10_cloth 81 = .ok (.getfield 116, 3) := by decide +kernel
theorem dX10_cloth_84 : decode cX10_cloth 84 = .ok (.putfield 9, 3) := by decide +kernel
theorem dX10_cloth_87 : decode cX10_cloth 87 = .ok (.iconst (-1), 1) := by decide +kernel
theorem dX10_cloth_88 : decode cX10_cloth 88 = .ok (.ireturn, 1) := by decide +kernel
theorem dX10_cloth_89 : decode cX10_cloth 89 = .ok (.aload_n 0, 1) := by decide +kernel
theorem dX10_cloth_90 : decode cX10_cloth 90 = .ok (.aload_n 0, 1) := by decide +kernel
theorem dX10_cloth_91 : decode cX10_cloth 91 = .ok (.getfield 171, 3) := by decide +kernel
theorem dX10_cloth_94 : decode cX10_cloth 94 = .ok (.putfield 346, 3) := by decide +kernel
theorem dX10_cloth_97 : decode cX10_cloth 97 = .ok (.iconst 0, 1) := by decide +kernel
theorem dX10_cloth_98 : decode cX10_cloth 98 = .ok (.istore_n 2, 1) := by decide +kernel
theorem dX10_cloth_99 : decode cX10_cloth 99 = .ok (.iload_n 2, 1) := by decide +kernel
theorem dX10_cloth_100 : decode cX10_cloth 100 = .ok (.bipush 59, 2) := by decide +kernel
theorem dX10_cloth_102 : decode cX10_cloth 102 = .ok (.if_icmp .ge 16, 3) := by decide +kernel
theorem dX10_cloth_105 : decode cX10_cloth 105 = .ok (.aload_n 0, 1) := by decide +kernel
theorem dX10_cloth_106 : decode cX10_cloth 106 = .ok (.getfield 17, 3) := by decide +kernel
theorem dX10_cloth_109 : decode cX10_cloth 109 = .ok (.iload_n 2, 1) := by decide +kernel
theorem dX10_cloth_110 : decode cX10_cloth 110 = .ok (.iconst 0, 1) := by decide +kernel
theorem dX10_cloth_111 : decode cX10_cloth 111 = .ok (.iastore, 1) := by decide +kernel
theorem dX10_cloth_112 : decode cX10_cloth 112 = .ok (.iinc 2 1, 3) := by decide +kernel
theorem dX10_cloth_115 : decode cX10_cloth 115 = .ok (.goto (-16), 3) := by decide +kernel
theorem dX10_cloth_118 : decode cX10_cloth 118 = .ok (.iconst 0, 1) := by decide +kernel
theorem dX10_cloth_119 : decode cX10_cloth 119 = .ok (.istore_n 2, 1) := by decide +kernel
theorem dX10_cloth_120 : decode cX10_cloth 120 = .ok (.iload_n 2, 1) := by decide +kernel
theorem dX10_cloth_121 : decode cX10_cloth 121 = .ok (.iconst 2, 1) := by decide +kernel
theorem dX10_cloth_122 : decode cX10_cloth 122 = .ok (.if_icmp .ge 112, 3) := by decide +kernel
theorem dX10_cloth_125 : decode cX10_cloth 125 = .ok (.aload_n 0, 1) := by decide +kernel
theorem dX10_cloth_126 : decode cX10_cloth 126 = .ok (.getfield 17, 3) := by decide +kernel
theorem dX10_cloth_129 : decode cX10_cloth 129 = .ok (.bipush 48, 2) := by decide +kernel
theorem dX10_cloth_131 : decode cX10_cloth 131 = .ok (.iload_n 2, 1) := by decide +kernel
theorem dX10_cloth_132 : decode cX10_cloth 132 = .ok (.iadd, 1) := by decide +kernel
theorem dX10_cloth_133 : decode cX10_cloth 133 = .ok (.aload_n 0, 1) := by decide +kernel
theorem dX10_cloth_134 : decode cX10_cloth 134 = .ok (.getfield 346, 3) := by decide +kernel
theorem dX10_cloth_137 : decode cX10_cloth 137 = .ok (.getfield 305, 3) := by decide +kernel
theorem dX10_cloth_140 : decode cX10_cloth 140 = .ok (.iload_n 2, 1) := by decide +kernel
theorem dX10_cloth_141 : decode cX10_cloth 141 = .ok (.iaload, 1) := by decide +kernel
theorem dX10_cloth_142 : decode cX10_cloth 142 = .ok (.iastore, 1) := by decide +kernel
theorem dX10_cloth_143 : decode cX10_cloth 143 = .ok (.iconst 0, 1) := by decide +kernel
theorem dX10_cloth_144 : decode cX10_cloth 144 = .ok (.istore_n 3, 1) := by decide +kernel
theorem dX10_cloth_145 : decode cX10_cloth 145 = .ok (.iload_n 3, 1) := by decide +kernel
theorem dX10_cloth_146 : decode cX10_cloth 146 = .ok (.aload_n 0, 1) := by decide +kernel
theorem dX10_cloth_147 : decode cX10_cloth 147 = .ok (.getfield 346, 3) := by decide +kernel
theorem dX10_cloth_150 : decode cX10_cloth 150 = .ok (.getfield 305, 3) := by decide +kernel
theorem dX10_cloth_153 : decode cX10_cloth 153 = .ok (.iload_n 2, 1) := by decide +kernel
theorem dX10_cloth_154 : decode cX10_cloth 154 = .ok (.iaload, 1) := by decide +kernel
theorem dX10_cloth_155 : decode cX10_cloth 155 = .ok (.if_icmp .ge 34, 3) := by decide +kernel
theorem dX10_cloth_158 : decode cX10_cloth 158 = .ok (.aload_n 0, 1) := by decide +kernel
theorem dX10_cloth_159 : decode cX10_cloth 159 = .ok (.getfield 17, 3) := by decide +kernel
theorem dX10_cloth_162 : decode cX10_cloth 162 = .ok (.bipush 24, 2) := by decide +kernel
theorem dX10_cloth_164 : decode cX10_cloth 164 = .ok (.iload_n 2, 1) := by decide +kernel
theorem dX10_cloth_165 : decode cX10_cloth 165 = .ok (.imul, 1) := by decide +kernel
theorem dX10_cloth_166 : decode cX10_cloth 166 = .ok (.iload_n 3, 1) := by decide +kernel
theorem dX10_cloth_167 : decode cX10_cloth 167 = .ok (.iadd, 1) := by decide +kernel
theorem dX10_cloth_168 : decode cX10_cloth 168 = .ok (.aload_n 0, 1) := by decide +kernel
theorem dX10_cloth_169 : decode cX10_cloth 169 = .ok (.getfield 346, 3) := by decide +kernel
theorem dX10_cloth_172 : decode cX10_cloth 172 = .ok (.getfield 302, 3) := by decide +kernel
theorem dX10_cloth_175 : decode cX10_cloth 175 = .ok (.bipush 12, 2) := by decide +kernel
theorem dX10_cloth_177 : decode cX10_cloth 177 = .ok (.iload_n 2, 1) := by decide +kernel
theorem dX10_cloth_178 : decode cX10_cloth 178 = .ok (.imul, 1) := by decide +kernel
theorem dX10_cloth_179 : decode cX10_cloth 179 = .ok (.iload_n 3, 1) := by decide +kernel
theorem dX10_cloth_180 : decode cX10_cloth 180 = .ok (.iadd, 1) := by decide +kernel
theorem dX10_cloth_181 : decode cX10_cloth 181 = .ok (.iaload, 1) := by decide +kernel
theorem dX10_cloth_182 : decode cX10_cloth 182 = .ok (.iastore, 1) := by decide +kernel
theorem dX10_cloth_183 : decode cX10_cloth 183 = .ok (.iinc 3 1, 3) := by decide +kernel
theorem dX10_cloth_186 : decode cX10_cloth 186 = .ok (.goto (-41), 3) := by decide +kernel
theorem dX10_cloth_189 : decode cX10_cloth 189 = .ok (.iconst 0, 1) := by decide +kernel
theorem dX10_cloth_190 : decode cX10_cloth 190 = .ok (.istore_n 3, 1) := by decide +kernel
theorem dX10_cloth_191 : decode cX10_cloth 191 = .ok (.iload_n 3, 1) := by decide +kernel
theorem dX10_cloth_192 : decode cX10_cloth 192 = .ok (.iconst 2, 1) := by decide +kernel
theorem dX10_cloth_193 : decode cX10_cloth 193 = .ok (.if_icmp .ge 35, 3) := by decide +kernel
theorem dX10_cloth_196 : decode cX10_cloth 196 = .ok (.aload_n 0, 1) := by decide +kernel
theorem dX10_cloth_197 : decode cX10_cloth 197 = .ok (.getfield 17, 3) := by decide +kernel
theorem dX10_cloth_200 : decode cX10_cloth 200 = .ok (.bipush 50, 2) := by decide +kernel
theorem dX10_cloth_202 : decode cX10_cloth 202 = .ok (.iconst 2, 1) := by decide +kernel
theorem dX10_cloth_203 : decode cX10_cloth 203 = .ok (.iload_n 2, 1) := by decide +kernel
theorem dX10_cloth_204 : decode cX10_cloth 204 = .ok (.imul, 1) := by decide +kernel
theorem dX10_cloth_205 : decode cX10_cloth 205 = .ok (.iadd, 1) := by decide +kernel
theorem dX10_cloth_206 : decode cX10_cloth 206 = .ok (.iload_n 3, 1) := by decide +kernel
theorem dX10_cloth_207 : decode cX10_cloth 207 = .ok (.iadd, 1) := by decide +kernel
theorem dX10_cloth_208 : decode cX10_cloth 208 = .ok (.aload_n 0, 1) := by decide +kernel
theorem dX10_cloth_209 : decode cX10_cloth 209 = .ok (.getfield 346, 3) := by decide +kernel
theorem dX10_cloth_212 : decode cX10_cloth 212 = .ok (.getfield 262, 3) := by decide +kernel
theorem dX10_cloth_215 : decode cX10_cloth 215 = .ok (.iconst 2, 1) := by decide +kernel
theorem dX10_cloth_216 : decode cX10_cloth 216 = .ok (.iload_n 2, 1) := by decide +kernel
theorem dX10_cloth_217 : decode cX10_cloth 217 = .ok (.imul, 1) := by decide +kernel
theorem dX10_cloth_218 : decode cX10_cloth 218 = .ok (.iload_n 3, 1) := by decide +kernel
theorem dX10_cloth_219 : decode cX10_cloth 219 = .ok (.iadd, 1) := by decide +kernel
theorem dX10_cloth_220 : decode cX10_cloth 220 = .ok (.iaload, 1) := by decide +kernel
theorem dX10_cloth_221 : decode cX10_cloth 221 = .ok (.iastore, 1) := by decide +kernel
theorem dX10_cloth_222 : decode cX10_cloth 222 = .ok (.iinc 3 1, 3) := by decide +kernel
theorem dX10_cloth_225 : decode cX10_cloth 225 = .ok (.goto (-34), 3) := by decide +kernel
theorem dX10_cloth_228 : decode cX10_cloth 228 = .ok (.iinc 2 1, 3) := by decide +kernel
theorem dX10_cloth_231 : decode cX10_cloth 231 = .ok (.goto (-111), 3) := by decide +kernel
theorem dX10_cloth_234 : decode cX10_cloth 234 = .ok (.aload_n 0, 1) := by decide +kernel
theorem dX10_cloth_235 : decode cX10_cloth 235 = .ok (.iconst 0, 1) := by decide +kernel
theorem dX10_cloth_236 : decode cX10_cloth 236 = .ok (.putfield 348, 3) := by decide +kernel
theorem dX10_cloth_239 : decode cX10_cloth 239 = .ok (.aload_n 0, 1) := by decide +kernel
theorem dX10_cloth_240 : decode cX10_cloth 240 = .ok (.iconst 0, 1) := by decide +kernel
theorem dX10_cloth_241 : decode cX10_cloth 241 = .ok (.putfield 351, 3) := by decide +kernel
theorem dX10_cloth_244 : decode cX10_cloth 244 = .ok (.aload_n 0, 1) := by decide +kernel
theorem dX10_cloth_245 : decode cX10_cloth 245 = .ok (.aload_n 0, 1) := by decide +kernel
theorem dX10_cloth_246 : decode cX10_cloth 246 = .ok (.getfield 346, 3) := by decide +kernel
theorem dX10_cloth_249 : decode cX10_cloth 249 = .ok (.getfield 203, 3) := by decide +kernel
theorem dX10_cloth_252 : decode cX10_cloth 252 = .ok (.invokevirtual 64, 3) := by decide +kernel
theorem dX10_cloth_255 : decode cX10_cloth 255 = .ok (.ireturn, 1) := by decide +kernel
theorem dX10_fault_0 : decode cX10_fault 0 = .ok (.aload_n 0, 1) := by decide +kernel
theorem dX10_fault_1 : decode cX10_fault 1 = .ok (.iconst 0, 1) := by decide +kernel
theorem dX10_fault_2 : decode cX10_fault 2 = .ok (.putfield 54, 3) := by decide +kernel
theorem dX10_fault_5 : decode cX10_fault 5 = .ok (.aload_n 0, 1) := by decide +kernel
theorem dX10_fault_6 : decode cX10_fault 6 = .ok (.getfield 113, 3) := by decide +kernel
theorem dX10_fault_9 : decode cX10_fault 9 = .ok (.ireturn, 1) := by decide +kernel
theorem dX10_where_0 : decode cX10_where 0 = .ok (.aload_n 0, 1) := by decide +kernel
theorem dX10_where_1 : decode cX10_where 1 = .ok (.iconst 0, 1) := by decide +kernel
theorem dX10_where_2 : decode cX10_where 2 = .ok (.putfield 54, 3) := by decide +kernel
theorem dX10_where_5 : decode cX10_where 5 = .ok (.aload_n 0, 1) := by decide +kernel
theorem dX10_where_6 : decode cX10_where 6 = .ok (.getfield 9, 3) := by decide +kernel
theorem dX10_where_9 : decode cX10_where 9 = .ok (.ireturn, 1) := by decide +kernel
theorem dX10_many_0 : decode cX10_many 0 = .ok (.aload_n 0, 1) := by decide +kernel
theorem dX10_many_1 : decode cX10_many 1 = .ok (.getfield 17, 3) := by decide +kernel
theorem dX10_many_4 : decode cX10_many 4 = .ok (.bipush 48, 2) := by decide +kernel
theorem dX10_many_6 : decode cX10_many 6 = .ok (.iload_n 1, 1) := by decide +kernel
theorem dX10_many_7 : decode cX10_many 7 = .ok (.iadd, 1) := by decide +kernel
theorem dX10_many_8 : decode cX10_many 8 = .ok (.iaload, 1) := by decide +kernel
theorem dX10_many_9 : decode cX10_many 9 = .ok (.ireturn, 1) := by decide +kernel
theorem dX10_rowAt_0 : decode cX10_rowAt 0 = .ok (.aload_n 0, 1) := by decide +kernel
theorem dX10_rowAt_1 : decode cX10_rowAt 1 = .ok (.getfield 17, 3) := by decide +kernel
theorem dX10_rowAt_4 : decode cX10_rowAt 4 = .ok (.bipush 24, 2) := by decide +kernel
theorem dX10_rowAt_6 : decode cX10_rowAt 6 = .ok (.iload_n 1, 1) := by decide +kernel
theorem dX10_rowAt_7 : decode cX10_rowAt 7 = .ok (.imul, 1) := by decide +kernel
theorem dX10_rowAt_8 : decode cX10_rowAt 8 = .ok (.iload_n 2, 1) := by decide +kernel
theorem dX10_rowAt_9 : decode cX10_rowAt 9 = .ok (.iadd, 1) := by decide +kernel
theorem dX10_rowAt_10 : decode cX10_rowAt 10 = .ok (.iaload, 1) := by decide +kernel
theorem dX10_rowAt_11 : decode cX10_rowAt 11 = .ok (.ireturn, 1) := by decide +kernel
theorem dX10_last_0 : decode cX10_last 0 = .ok (.aload_n 0, 1) := by decide +kernel
theorem dX10_last_1 : decode cX10_last 1 = .ok (.iload_n 1, 1) := by decide +kernel
theorem dX10_last_2 : decode cX10_last 2 = .ok (.invokevirtual 354, 3) := by decide +kernel
theorem dX10_last_5 : decode cX10_last 5 = .ok (.iload_n 2, 1) := by decide +kernel
theorem dX10_last_6 : decode cX10_last 6 = .ok (.if_icmp .ne 8, 3) := by decide +kernel
theorem dX10_last_9 : decode cX10_last 9 = .ok (.bipush 8, 2) := by decide +kernel
theorem dX10_last_11 : decode cX10_last 11 = .ok (.goto 17, 3) := by decide +kernel
theorem dX10_last_14 : decode cX10_last 14 = .ok (.aload_n 0, 1) := by decide +kernel
theorem dX10_last_15 : decode cX10_last 15 = .ok (.iload_n 1, 1) := by decide +kernel
theorem dX10_last_16 : decode cX10_last 16 = .ok (.aload_n 0, 1) := by decide +kernel
theorem dX10_last_17 : decode cX10_last 17 = .ok (.iload_n 1, 1) := by decide +kernel
theorem dX10_last_18 : decode cX10_last 18 = .ok (.invokevirtual 354, 3) := by decide +kernel
theorem dX10_last_21 : decode cX10_last 21 = .ok (.iload_n 2, 1) := by decide +kernel
theorem dX10_last_22 : decode cX10_last 22 = .ok (.isub, 1) := by decide +kernel
theorem dX10_last_23 : decode cX10_last 23 = .ok (.iconst 1, 1) := by decide +kernel
theorem dX10_last_24 : decode cX10_last 24 = .ok (.isub, 1) := by decide +kernel
theorem dX10_last_25 : decode cX10_last 25 = .ok (.invokevirtual 357, 3) := by decide +kernel
theorem dX10_last_28 : decode cX10_last 28 = .ok (.ireturn, 1) := by decide +kernel
theorem dX10_isSide_0 : decode cX10_isSide 0 = .ok (.aload_n 0, 1) := by decide +kernel
theorem dX10_isSide_1 : decode cX10_isSide 1 = .ok (.getfield 346, 3) := by decide +kernel
theorem dX10_isSide_4 : decode cX10_isSide 4 = .ok (.ifnull 16, 3) := by decide +kernel
theorem dX10_isSide_7 : decode cX10_isSide 7 = .ok (.iload_n 1, 1) := by decide +kernel
theorem dX10_isSide_8 : decode cX10_isSide 8 = .ok (.iconst 0, 1) := by decide +kernel
theorem dX10_isSide_9 : decode cX10_isSide 9 = .ok (.iconst 1, 1) := by decide +kernel
theorem dX10_isSide_10 : decode cX10_isSide 10 = .ok (.invokestatic 134, 3) := by decide +kernel
theorem dX10_isSide_13 : decode cX10_isSide 13 = .ok (.ifCond .eq 7, 3) := by decide +kernel
theorem dX10_isSide_16 : decode cX10_isSide 16 = .ok (.iconst 1, 1) := by decide +kernel
theorem dX10_isSide_17 : decode cX10_isSide 17 = .ok (.goto 4, 3) := by decide +kernel
theorem dX10_isSide_20 : decode cX10_isSide 20 = .ok (.iconst 0, 1) := by decide +kernel
theorem dX10_isSide_21 : decode cX10_isSide 21 = .ok (.ireturn, 1) := by decide +kernel
theorem dX10_isRow_0 : decode cX10_isRow 0 = .ok (.aload_n 0, 1) := by decide +kernel
theorem dX10_isRow_1 : decode cX10_isRow 1 = .ok (.getfield 346, 3) := by decide +kernel
theorem dX10_isRow_4 : decode cX10_isRow 4 = .ok (.ifnull 22, 3) := by decide +kernel
theorem dX10_isRow_7 : decode cX10_isRow 7 = .ok (.iload_n 1, 1) := by decide +kernel
theorem dX10_isRow_8 : decode cX10_isRow 8 = .ok (.ifCond .lt 18, 3) := by decide +kernel
theorem dX10_isRow_11 : decode cX10_isRow 11 = .ok (.iload_n 1, 1) := by decide +kernel
theorem dX10_isRow_12 : decode cX10_isRow 12 = .ok (.aload_n 0, 1) := by decide +kernel
theorem dX10_isRow_13 : decode cX10_isRow 13 = .ok (.getfield 346, 3) := by decide +kernel
theorem dX10_isRow_16 : decode cX10_isRow 16 = .ok (.getfield 203, 3) := by decide +kernel
theorem dX10_isRow_19 : decode cX10_isRow 19 = .ok (.if_icmp .ge 7, 3) := by decide +kernel
theorem dX10_isRow_22 : decode cX10_isRow 22 = .ok (.iconst 1, 1) := by decide +kernel
theorem dX10_isRow_23 : decode cX10_isRow 23 = .ok (.goto 4, 3) := by decide +kernel
theorem dX10_isRow_26 : decode cX10_isRow 26 = .ok (.iconst 0, 1) := by decide +kernel
theorem dX10_isRow_27 : decode cX10_isRow 27 = .ok (.ireturn, 1) := by decide +kernel
theorem dX10_isNext_0 : decode cX10_isNext 0 = .ok (.aload_n 0, 1) := by decide +kernel
theorem dX10_isNext_1 : decode cX10_isNext 1 = .ok (.getfield 346, 3) := by decide +kernel
theorem dX10_isNext_4 : decode cX10_isNext 4 = .ok (.getfield 291, 3) := by decide +kernel
theorem dX10_isNext_7 : decode cX10_isNext 7 = .ok (.iload_n 1, 1) := by decide +kernel
theorem dX10_isNext_8 : decode cX10_isNext 8 = .ok (.iaload, 1) := by decide +kernel
theorem dX10_isNext_9 : decode cX10_isNext 9 = .ok (.iload_n 2, 1) := by decide +kernel
theorem dX10_isNext_10 : decode cX10_isNext 10 = .ok (.invokestatic 287, 3) := by decide +kernel
theorem dX10_isNext_13 : decode cX10_isNext 13 = .ok (.ireturn, 1) := by decide +kernel
theorem dX10_dye_0 : decode cX10_dye 0 = .ok (.iconst 2, 1) := by decide +kernel
theorem dX10_dye_1 : decode cX10_dye 1 = .ok (.iload_n 1, 1) := by decide +kernel
theorem dX10_dye_2 : decode cX10_dye 2 = .ok (.imul, 1) := by decide +kernel
theorem dX10_dye_3 : decode cX10_dye 3 = .ok (.aload_n 0, 1) := by decide +kernel
theorem dX10_dye_4 : decode cX10_dye 4 = .ok (.getfield 346, 3) := by decide +kernel
theorem dX10_dye_7 : decode cX10_dye 7 = .ok (.getfield 273, 3) := by decide +kernel
theorem dX10_dye_10 : decode cX10_dye 10 = .ok (.iload_n 2, 1) := by decide +kernel
theorem dX10_dye_11 : decode cX10_dye 11 = .ok (.iaload, 1) := by decide +kernel
theorem dX10_dye_12 : decode cX10_dye 12 = .ok (.iadd, 1) := by decide +kernel
theorem dX10_dye_13 : decode cX10_dye 13 = .ok (.ireturn, 1) := by decide +kernel
theorem dX10_canWeave_0 : decode cX10_canWeave 0 = .ok (.aload_n 0, 1) := by decide +kernel
theorem dX10_canWeave_1 : decode cX10_canWeave 1 = .ok (.iload_n 1, 1) := by decide +kernel
theorem dX10_canWeave_2 : decode cX10_canWeave 2 = .ok (.invokevirtual 354, 3) := by decide +kernel
theorem dX10_canWeave_5 : decode cX10_canWeave 5 = .ok (.bipush 24, 2) := by decide +kernel
theorem dX10_canWeave_7 : decode cX10_canWeave 7 = .ok (.if_icmp .ge 51, 3) := by decide +kernel
theorem dX10_canWeave_10 : decode cX10_canWeave 10 = .ok (.aload_n 0, 1) := by decide +kernel
theorem dX10_canWeave_11 : decode cX10_canWeave 11 = .ok (.getfield 346, 3) := by decide +kernel
theorem dX10_canWeave_14 : decode cX10_canWeave 14 = .ok (.iload_n 1, 1) := by decide +kernel
theorem dX10_canWeave_15 : decode cX10_canWeave 15 = .ok (.aload_n 0, 1) := by decide +kernel
theorem dX10_canWeave_16 : decode cX10_canWeave 16 = .ok (.iload_n 1, 1) := by decide +kernel
theorem dX10_canWeave_17 : decode cX10_canWeave 17 = .ok (.iconst 0, 1) := by decide +kernel
theorem dX10_canWeave_18 : decode cX10_canWeave 18 = .ok (.invokevirtual 360, 3) := by decide +kernel
theorem dX10_canWeave_21 : decode cX10_canWeave 21 = .ok (.iload_n 2, 1) := by decide +kernel
theorem dX10_canWeave_22 : decode cX10_canWeave 22 = .ok (.invokevirtual 299, 3) := by decide +kernel
theorem dX10_canWeave_25 : decode cX10_canWeave 25 = .ok (.ifCond .eq 33, 3) := by decide +kernel
theorem dX10_canWeave_28 : decode cX10_canWeave 28 = .ok (.aload_n 0, 1) := by decide +kernel
theorem dX10_canWeave_29 : decode cX10_canWeave 29 = .ok (.getfield 346, 3) := by decide +kernel
theorem dX10_canWeave_32 : decode cX10_canWeave 32 = .ok (.getfield 275, 3) := by decide +kernel
theorem dX10_canWeave_35 : decode cX10_canWeave 35 = .ok (.iload_n 2, 1) := by decide +kernel
theorem dX10_canWeave_36 : decode cX10_canWeave 36 = .ok (.iaload, 1) := by decide +kernel
theorem dX10_canWeave_37 : decode cX10_canWeave 37 = .ok (.aload_n 0, 1) := by decide +kernel
theorem dX10_canWeave_38 : decode cX10_canWeave 38 = .ok (.getfield 17, 3) := by decide +kernel
theorem dX10_canWeave_41 : decode cX10_canWeave 41 = .ok (.bipush 50, 2) := by decide +kernel
theorem dX10_canWeave_43 : decode cX10_canWeave 43 = .ok (.aload_n 0, 1) := by decide +kernel
theorem dX10_canWeave_44 : decode cX10_canWeave 44 = .ok (.iload_n 1, 1) := by decide +kernel
theorem dX10_canWeave_45 : decode cX10_canWeave 45 = .ok (.iload_n 2, 1) := by decide +kernel
theorem dX10_canWeave_46 : decode cX10_canWeave 46 = .ok (.invokevirtual 363, 3) := by decide +kernel
theorem dX10_canWeave_49 : decode cX10_canWeave 49 = .ok (.iadd, 1) := by decide +kernel
theorem dX10_canWeave_50 : decode cX10_canWeave 50 = .ok (.iaload, 1) := by decide +kernel
theorem dX10_canWeave_51 : decode cX10_canWeave 51 = .ok (.if_icmp .gt 7, 3) := by decide +kernel
theorem dX10_canWeave_54 : decode cX10_canWeave 54 = .ok (.iconst 1, 1) := by decide +kernel
theorem dX10_canWeave_55 : decode cX10_canWeave 55 = .ok (.goto 4, 3) := by decide +kernel
theorem dX10_canWeave_58 : decode cX10_canWeave 58 = .ok (.iconst 0, 1) := by decide +kernel
theorem dX10_canWeave_59 : decode cX10_canWeave 59 = .ok (.ireturn, 1) := by decide +kernel
theorem dX10_weaves_0 : decode cX10_weaves 0 = .ok (.aload_n 0, 1) := by decide +kernel
theorem dX10_weaves_1 : decode cX10_weaves 1 = .ok (.getfield 17, 3) := by decide +kernel
theorem dX10_weaves_4 : decode cX10_weaves 4 = .ok (.bipush 24, 2) := by decide +kernel
theorem dX10_weaves_6 : decode cX10_weaves 6 = .ok (.iload_n 1, 1) := by decide +kernel
theorem dX10_weaves_7 : decode cX10_weaves 7 = .ok (.imul, 1) := by decide +kernel
theorem dX10_weaves_8 : decode cX10_weaves 8 = .ok (.aload_n 0, 1) := by decide +kernel
theorem dX10_weaves_9 : decode cX10_weaves 9 = .ok (.iload_n 1, 1) := by decide +kernel
theorem dX10_weaves_10 : decode cX10_weaves 10 = .ok (.invokevirtual 354, 3) := by decide +kernel
theorem dX10_weaves_13 : decode cX10_weaves 13 = .ok (.iadd, 1) := by decide +kernel
theorem dX10_weaves_14 : decode cX10_weaves 14 = .ok (.iload_n 2, 1) := by decide +kernel
theorem dX10_weaves_15 : decode cX10_weaves 15 = .ok (.iastore, 1) := by decide +kernel
theorem dX10_weaves_16 : decode cX10_weaves 16 = .ok (.aload_n 0, 1) := by decide +kernel
theorem dX10_weaves_17 : decode cX10_weaves 17 = .ok (.getfield 17, 3) := by decide +kernel
theorem dX10_weaves_20 : decode cX10_weaves 20 = .ok (.bipush 48, 2) := by decide +kernel
theorem dX10_weaves_22 : decode cX10_weaves 22 = .ok (.iload_n 1, 1) := by decide +kernel
theorem dX10_weaves_23 : decode cX10_weaves 23 = .ok (.iadd, 1) := by decide +kernel
theorem dX10_weaves_24 : decode cX10_weaves 24 = .ok (.dup2, 1) := by decide +kernel
theorem dX10_weaves_25 : decode cX10_weaves 25 = .ok (.iaload, 1) := by decide +kernel
theorem dX10_weaves_26 : decode cX10_weaves 26 = .ok (.iconst 1, 1) := by decide +kernel
theorem dX10_weaves_27 : decode cX10_weaves 27 = .ok (.iadd, 1) := by decide +kernel
theorem dX10_weaves_28 : decode cX10_weaves 28 = .ok (.iastore, 1) := by decide +kernel
theorem dX10_weaves_29 : decode cX10_weaves 29 = .ok (.aload_n 0, 1) := by decide +kernel
theorem dX10_weaves_30 : decode cX10_weaves 30 = .ok (.getfield 17, 3) := by decide +kernel
theorem dX10_weaves_33 : decode cX10_weaves 33 = .ok (.bipush 50, 2) := by decide +kernel
theorem dX10_weaves_35 : decode cX10_weaves 35 = .ok (.aload_n 0, 1) := by decide +kernel
theorem dX10_weaves_36 : decode cX10_weaves 36 = .ok (.iload_n 1, 1) := by decide +kernel
theorem dX10_weaves_37 : decode cX10_weaves 37 = .ok (.iload_n 2, 1) := by decide +kernel
theorem dX10_weaves_38 : decode cX10_weaves 38 = .ok (.invokevirtual 363, 3) := by decide +kernel
theorem dX10_weaves_41 : decode cX10_weaves 41 = .ok (.iadd, 1) := by decide +kernel
theorem dX10_weaves_42 : decode cX10_weaves 42 = .ok (.dup2, 1) := by decide +kernel
theorem dX10_weaves_43 : decode cX10_weaves 43 = .ok (.iaload, 1) := by decide +kernel
theorem dX10_weaves_44 : decode cX10_weaves 44 = .ok (.aload_n 0, 1) := by decide +kernel
theorem dX10_weaves_45 : decode cX10_weaves 45 = .ok (.getfield 346, 3) := by decide +kernel
theorem dX10_weaves_48 : decode cX10_weaves 48 = .ok (.getfield 275, 3) := by decide +kernel
theorem dX10_weaves_51 : decode cX10_weaves 51 = .ok (.iload_n 2, 1) := by decide +kernel
theorem dX10_weaves_52 : decode cX10_weaves 52 = .ok (.iaload, 1) := by decide +kernel
theorem dX10_weaves_53 : decode cX10_weaves 53 = .ok (.isub, 1) := by decide +kernel
theorem dX10_weaves_54 : decode cX10_weaves 54 = .ok (.iastore, 1) := by decide +kernel
theorem dX10_weaves_55 : decode cX10_weaves 55 = .ok (.return_, 1) := by decide +kernel
theorem dX10_unweaves_0 : decode cX10_unweaves 0 = .ok (.aload_n 0, 1) := by decide +kernel
theorem dX10_unweaves_1 : decode cX10_unweaves 1 = .ok (.iload_n 1, 1) := by decide +kernel
theorem dX10_unweaves_2 : decode cX10_unweaves 2 = .ok (.iconst 0, 1) := by decide +kernel
theorem dX10_unweaves_3 : decode cX10_unweaves 3 = .ok (.invokevirtual 360, 3) := by decide +kernel
theorem dX10_unweaves_6 : decode cX10_unweaves 6 = .ok (.istore_n 2, 1) := by decide +kernel
theorem dX10_unweaves_7 : decode cX10_unweaves 7 = .ok (.aload_n 0, 1) := by decide +kernel
theorem dX10_unweaves_8 : decode cX10_unweaves 8 = .ok (.getfield 17, 3) := by decide +kernel
theorem dX10_unweaves_11 : decode cX10_unweaves 11 = .ok (.bipush 48, 2) := by decide +kernel
theorem dX10_unweaves_13 : decode cX10_unweaves 13 = .ok (.iload_n 1, 1) := by decide +kernel
theorem dX10_unweaves_14 : decode cX10_unweaves 14 = .ok (.iadd, 1) := by decide +kernel
theorem dX10_unweaves_15 : decode cX10_unweaves 15 = .ok (.dup2, 1) := by decide +kernel
theorem dX10_unweaves_16 : decode cX10_unweaves 16 = .ok (.iaload, 1) := by decide +kernel
theorem dX10_unweaves_17 : decode cX10_unweaves 17 = .ok (.iconst 1, 1) := by decide +kernel
theorem dX10_unweaves_18 : decode cX10_unweaves 18 = .ok (.isub, 1) := by decide +kernel
theorem dX10_unweaves_19 : decode cX10_unweaves 19 = .ok (.iastore, 1) := by decide +kernel
theorem dX10_unweaves_20 : decode cX10_unweaves 20 = .ok (.aload_n 0, 1) := by decide +kernel
theorem dX10_unweaves_21 : decode cX10_unweaves 21 = .ok (.getfield 17, 3) := by decide +kernel
theorem dX10_unweaves_24 : decode cX10_unweaves 24 = .ok (.bipush 50, 2) := by decide +kernel
theorem dX10_unweaves_26 : decode cX10_unweaves 26 = .ok (.aload_n 0, 1) := by decide +kernel
theorem dX10_unweaves_27 : decode cX10_unweaves 27 = .ok (.iload_n 1, 1) := by decide +kernel
theorem dX10_unweaves_28 : decode cX10_unweaves 28 = .ok (.iload_n 2, 1) := by decide +kernel
theorem dX10_unweaves_29 : decode cX10_unweaves 29 = .ok (.invokevirtual 363, 3) := by decide +kernel
theorem dX10_unweaves_32 : decode cX10_unweaves 32 = .ok (.iadd, 1) := by decide +kernel
theorem dX10_unweaves_33 : decode cX10_unweaves 33 = .ok (.dup2, 1) := by decide +kernel
theorem dX10_unweaves_34 : decode cX10_unweaves 34 = .ok (.iaload, 1) := by decide +kernel
theorem dX10_unweaves_35 : decode cX10_unweaves 35 = .ok (.aload_n 0, 1) := by decide +kernel
theorem dX10_unweaves_36 : decode cX10_unweaves 36 = .ok (.getfield 346, 3) := by decide +kernel
theorem dX10_unweaves_39 : decode cX10_unweaves 39 = .ok (.getfield 275, 3) := by decide +kernel
theorem dX10_unweaves_42 : decode cX10_unweaves 42 = .ok (.iload_n 2, 1) := by decide +kernel
theorem dX10_unweaves_43 : decode cX10_unweaves 43 = .ok (.iaload, 1) := by decide +kernel
theorem dX10_unweaves_44 : decode cX10_unweaves 44 = .ok (.iadd, 1) := by decide +kernel
theorem dX10_unweaves_45 : decode cX10_unweaves 45 = .ok (.iastore, 1) := by decide +kernel
theorem dX10_unweaves_46 : decode cX10_unweaves 46 = .ok (.return_, 1) := by decide +kernel
theorem dX10_mayBits_0 : decode cX10_mayBits 0 = .ok (.iconst 0, 1) := by decide +kernel
theorem dX10_mayBits_1 : decode cX10_mayBits 1 = .ok (.istore_n 2, 1) := by decide +kernel
theorem dX10_mayBits_2 : decode cX10_mayBits 2 = .ok (.iconst 0, 1) := by decide +kernel
theorem dX10_mayBits_3 : decode cX10_mayBits 3 = .ok (.istore_n 3, 1) := by decide +kernel
theorem dX10_mayBits_4 : decode cX10_mayBits 4 = .ok (.iload_n 3, 1) := by decide +kernel
theorem dX10_mayBits_5 : decode cX10_mayBits 5 = .ok (.aload_n 0, 1) := by decide +kernel
theorem dX10_mayBits_6 : decode cX10_mayBits 6 = .ok (.getfield 346, 3) := by decide +kernel
theorem dX10_mayBits_9 : decode cX10_mayBits 9 = .ok (.getfield 203, 3) := by decide +kernel
theorem dX10_mayBits_12 : decode cX10_mayBits 12 = .ok (.if_icmp .ge 28, 3) := by decide +kernel
theorem dX10_mayBits_15 : decode cX10_mayBits 15 = .ok (.iload_n 2, 1) := by decide +kernel
theorem dX10_mayBits_16 : decode cX10_mayBits 16 = .ok (.aload_n 0, 1) := by decide +kernel
theorem dX10_mayBits_17 : decode cX10_mayBits 17 = .ok (.iload_n 1, 1) := by decide +kernel
theorem dX10_mayBits_18 : decode cX10_mayBits 18 = .ok (.iload_n 3, 1) := by decide +kernel
theorem dX10_mayBits_19 : decode cX10_mayBits 19 = .ok (.invokevirtual 366, 3) := by decide +kernel
theorem dX10_mayBits_22 : decode cX10_mayBits 22 = .ok (.ifCond .eq 9, 3) := by decide +kernel
theorem dX10_mayBits_25 : decode cX10_mayBits 25 = .ok (.iconst 1, 1) := by decide +kernel
theorem dX10_mayBits_26 : decode cX10_mayBits 26 = .ok (.iload_n 3, 1) := by decide +kernel
theorem dX10_mayBits_27 : decode cX10_mayBits 27 = .ok (.ishl, 1) := by decide +kernel
theorem dX10_mayBits_28 : decode cX10_mayBits 28 = .ok (.goto 4, 3) := by decide +kernel
theorem dX10_mayBits_31 : decode cX10_mayBits 31 = .ok (.iconst 0, 1) := by decide +kernel
theorem dX10_mayBits_32 : decode cX10_mayBits 32 = .ok (.ior, 1) := by decide +kernel
theorem dX10_mayBits_33 : decode cX10_mayBits 33 = .ok (.istore_n 2, 1) := by decide +kernel
theorem dX10_mayBits_34 : decode cX10_mayBits 34 = .ok (.iinc 3 1, 3) := by decide +kernel
theorem dX10_mayBits_37 : decode cX10_mayBits 37 = .ok (.goto (-33), 3) := by decide +kernel
theorem dX10_mayBits_40 : decode cX10_mayBits 40 = .ok (.iload_n 2, 1) := by decide +kernel
theorem dX10_mayBits_41 : decode cX10_mayBits 41 = .ok (.ireturn, 1) := by decide +kernel
theorem dX10_row_0 : decode cX10_row 0 = .ok (.aload_n 0, 1) := by decide +kernel
theorem dX10_row_1 : decode cX10_row 1 = .ok (.iconst 0, 1) := by decide +kernel
theorem dX10_row_2 : decode cX10_row 2 = .ok (.putfield 54, 3) := by decide +kernel
theorem dX10_row_5 : decode cX10_row 5 = .ok (.aload_n 0, 1) := by decide +kernel
theorem dX10_row_6 : decode cX10_row 6 = .ok (.iload_n 1, 1) := by decide +kernel
theorem dX10_row_7 : decode cX10_row 7 = .ok (.invokevirtual 369, 3) := by decide +kernel
theorem dX10_row_10 : decode cX10_row 10 = .ok (.ifCond .eq 12, 3) := by decide +kernel
theorem dX10_row_13 : decode cX10_row 13 = .ok (.iload_n 2, 1) := by decide +kernel
theorem dX10_row_14 : decode cX10_row 14 = .ok (.iconst 0, 1) := by decide +kernel
theorem dX10_row_15 : decode cX10_row 15 = .ok (.iconst 3, 1) := by decide +kernel
theorem dX10_row_16 : decode cX10_row 16 = .ok (.invokestatic 134, 3) := by decide +kernel
theorem dX10_row_19 : decode cX10_row 19 = .ok (.ifCond .ne 9, 3) := by decide +kernel
theorem dX10_row_22 : decode cX10_row 22 = .ok (.aload_n 0, 1) := by decide +kernel
theorem dX10_row_23 : decode cX10_row 23 = .ok (.iconst 1, 1) := by decide +kernel
theorem dX10_row_24 : decode cX10_row 24 = .ok (.invokevirtual 60, 3) := by decide +kernel
theorem dX10_row_27 : decode cX10_row 27 = .ok (.ireturn, 1) := by decide +kernel
theorem dX10_row_28 : decode cX10_row 28 = .ok (.aload_n 0, 1) := by decide +kernel
theorem dX10_row_29 : decode cX10_row 29 = .ok (.iload_n 2, 1) := by decide +kernel
theorem dX10_row_30 : decode cX10_row 30 = .ok (.ifCond .ne 15, 3) := by decide +kernel
theorem dX10_row_33 : decode cX10_row 33 = .ok (.aload_n 0, 1) := by decide +kernel
theorem dX10_row_34 : decode cX10_row 34 = .ok (.getfield 346, 3) := by decide +kernel
theorem dX10_row_37 : decode cX10_row 37 = .ok (.getfield 273, 3) := by decide +kernel
theorem dX10_row_40 : decode cX10_row 40 = .ok (.iload_n 1, 1) := by decide +kernel
theorem dX10_row_41 : decode cX10_row 41 = .ok (.iaload, 1) := by decide +kernel
theorem dX10_row_42 : decode cX10_row 42 = .ok (.goto 54, 3) := by decide +kernel
theorem dX10_row_45 : decode cX10_row 45 = .ok (.iload_n 2, 1) := by decide +kernel
theorem dX10_row_46 : decode cX10_row 46 = .ok (.iconst 1, 1) := by decide +kernel
theorem dX10_row_47 : decode cX10_row 47 = .ok (.if_icmp .ne 15, 3) := by decide +kernel
theorem dX10_row_50 : decode cX10_row 50 = .ok (.aload_n 0, 1) := by decide +kernel
theorem dX10_row_51 : decode cX10_row 51 = .ok (.getfield 346, 3) := by decide +kernel
theorem dX10_row_54 : decode cX10_row 54 = .ok (.getfield 275, 3) := by decide +kernel
theorem dX10_row_57 : decode cX10_row 57 = .ok (.iload_n 1, 1) := by decide +kernel
theorem dX10_row_58 : decode cX10_row 58 = .ok (.iaload, 1) := by decide +kernel
theorem dX10_row_59 : decode cX10_row 59 = .ok (.goto 37, 3) := by decide +kernel
theorem dX10_row_62 : decode cX10_row 62 = .ok (.iload_n 2, 1) := by decide +kernel
theorem dX10_row_63 : decode cX10_row 63 = .ok (.iconst 2, 1) := by decide +kernel
theorem dX10_row_64 : decode cX10_row 64 = .ok (.if_icmp .ne 23, 3) := by decide +kernel
theorem dX10_row_67 : decode cX10_row 67 = .ok (.aload_n 0, 1) := by decide +kernel
theorem dX10_row_68 : decode cX10_row 68 = .ok (.getfield 346, 3) := by decide +kernel
theorem dX10_row_71 : decode cX10_row 71 = .ok (.getfield 278, 3) := by decide +kernel
theorem dX10_row_74 : decode cX10_row 74 = .ok (.iload_n 1, 1) := by decide +kernel
theorem dX10_row_75 : decode cX10_row 75 = .ok (.baload, 1) := by decide +kernel
theorem dX10_row_76 : decode cX10_row 76 = .ok (.ifCond .eq 7, 3) := by decide +kernel
theorem dX10_row_79 : decode cX10_row 79 = .ok (.iconst 1, 1) := by decide +kernel
theorem dX10_row_80 : decode cX10_row 80 = .ok (.goto 16, 3) := by decide +kernel
theorem dX10_row_83 : decode cX10_row 83 = .ok (.iconst 0, 1) := by decide +kernel
theorem dX10_row_84 : decode cX10_row 84 = .ok (.goto 12, 3) := by decide +kernel
theorem dX10_row_87 : decode cX10_row 87 = .ok (.aload_n 0, 1) := by decide +kernel
theorem dX10_row_88 : decode cX10_row 88 = .ok (.getfield 346, 3) := by decide +kernel
theorem dX10_row_91 : decode cX10_row 91 = .ok (.getfield 281, 3) := by decide +kernel
theorem dX10_row_94 : decode cX10_row 94 = .ok (.iload_n 1, 1) := by decide +kernel
theorem dX10_row_95 : decode cX10_row 95 = .ok (.iaload, 1) := by decide +kernel
theorem dX10_row_96 : decode cX10_row 96 = .ok (.invokevirtual 64, 3) := by decide +kernel
theorem dX10_row_99 : decode cX10_row 99 = .ok (.ireturn, 1) := by decide +kernel
theorem dX10_next_0 : decode cX10_next 0 = .ok (.aload_n 0, 1) := by decide +kernel
theorem dX10_next_1 : decode cX10_next 1 = .ok (.iconst 0, 1) := by decide +kernel
theorem dX10_next_2 : decode cX10_next 2 = .ok (.putfield 54, 3) := by decide +kernel
theorem dX10_next_5 : decode cX10_next 5 = .ok (.aload_n 0, 1) := by decide +kernel
theorem dX10_next_6 : decode cX10_next 6 = .ok (.iload_n 1, 1) := by decide +kernel
theorem dX10_next_7 : decode cX10_next 7 = .ok (.invokevirtual 369, 3) := by decide +kernel
theorem dX10_next_10 : decode cX10_next 10 = .ok (.ifCond .eq 32, 3) := by decide +kernel
theorem dX10_next_13 : decode cX10_next 13 = .ok (.aload_n 0, 1) := by decide +kernel
theorem dX10_next_14 : decode cX10_next 14 = .ok (.iload_n 2, 1) := by decide +kernel
theorem dX10_next_15 : decode cX10_next 15 = .ok (.invokevirtual 369, 3) := by decide +kernel
theorem dX10_next_18 : decode cX10_next 18 = .ok (.ifCond .eq 24, 3) := by decide +kernel
theorem dX10_next_21 : decode cX10_next 21 = .ok (.aload_n 0, 1) := by decide +kernel
theorem dX10_next_22 : decode cX10_next 22 = .ok (.aload_n 0, 1) := by decide +kernel
theorem dX10_next_23 : decode cX10_next 23 = .ok (.iload_n 1, 1) := by decide +kernel
theorem dX10_next_24 : decode cX10_next 24 = .ok (.iload_n 2, 1) := by decide +kernel
theorem dX10_next_25 : decode cX10_next 25 = .ok (.invokevirtual 372, 3) := by decide +kernel
theorem dX10_next_28 : decode cX10_next 28 = .ok (.ifCond .eq 7, 3) := by decide +kernel
theorem dX10_next_31 : decode cX10_next 31 = .ok (.iconst 1, 1) := by decide +kernel
theorem dX10_next_32 : decode cX10_next 32 = .ok (.goto 4, 3) := by decide +kernel
theorem dX10_next_35 : decode cX10_next 35 = .ok (.iconst 0, 1) := by decide +kernel
theorem dX10_next_36 : decode cX10_next 36 = .ok (.invokevirtual 64, 3) := by decide +kernel
theorem dX10_next_39 : decode cX10_next 39 = .ok (.goto 8, 3) := by decide +kernel
theorem dX10_next_42 : decode cX10_next 42 = .ok (.aload_n 0, 1) := by decide +kernel
theorem dX10_next_43 : decode cX10_next 43 = .ok (.iconst 1, 1) := by decide +kernel
theorem dX10_next_44 : decode cX10_next 44 = .ok (.invokevirtual 60, 3) := by decide +kernel
theorem dX10_next_47 : decode cX10_next 47 = .ok (.ireturn, 1) := by decide +kernel
theorem dX10_isInstead_0 : decode cX10_isInstead 0 = .ok (.aload_n 0, 1) := by decide +kernel
theorem dX10_isInstead_1 : decode cX10_isInstead 1 = .ok (.getfield 346, 3) := by decide +kernel
theorem dX10_isInstead_4 : decode cX10_isInstead 4 = .ok (.getfield 278, 3) := by decide +kernel
theorem dX10_isInstead_7 : decode cX10_isInstead 7 = .ok (.iload_n 1, 1) := by decide +kernel
theorem dX10_isInstead_8 : decode cX10_isInstead 8 = .ok (.baload, 1) := by decide +kernel
theorem dX10_isInstead_9 : decode cX10_isInstead 9 = .ok (.aload_n 0, 1) := by decide +kernel
theorem dX10_isInstead_10 : decode cX10_isInstead 10 = .ok (.getfield 346, 3) := by decide +kernel
theorem dX10_isInstead_13 : decode cX10_isInstead 13 = .ok (.getfield 278, 3) := by decide +kernel
theorem dX10_isInstead_16 : decode cX10_isInstead 16 = .ok (.iload_n 2, 1) := by decide +kernel
theorem dX10_isInstead_17 : decode cX10_isInstead 17 = .ok (.baload, 1) := by decide +kernel
theorem dX10_isInstead_18 : decode cX10_isInstead 18 = .ok (.if_icmp .ne 27, 3) := by decide +kernel
theorem dX10_isInstead_21 : decode cX10_isInstead 21 = .ok (.aload_n 0, 1) := by decide +kernel
theorem dX10_isInstead_22 : decode cX10_isInstead 22 = .ok (.getfield 346, 3) := by decide +kernel
theorem dX10_isInstead_25 : decode cX10_isInstead 25 = .ok (.getfield 291, 3) := by decide +kernel
theorem dX10_isInstead_28 : decode cX10_isInstead 28 = .ok (.iload_n 1, 1) := by decide +kernel
theorem dX10_isInstead_29 : decode cX10_isInstead 29 = .ok (.iaload, 1) := by decide +kernel
theorem dX10_isInstead_30 : decode cX10_isInstead 30 = .ok (.aload_n 0, 1) := by decide +kernel
theorem dX10_isInstead_31 : decode cX10_isInstead 31 = .ok (.getfield 346, 3) := by decide +kernel
theorem dX10_isInstead_34 : decode cX10_isInstead 34 = .ok (.getfield 291, 3) := by decide +kernel
theorem dX10_isInstead_37 : decode cX10_isInstead 37 = .ok (.iload_n 2, 1) := by decide +kernel
theorem dX10_isInstead_38 : decode cX10_isInstead 38 = .ok (.iaload, 1) := by decide +kernel
theorem dX10_isInstead_39 : decode cX10_isInstead 39 = .ok (.iconst (-1), 1) := by decide +kernel
theorem dX10_isInstead_40 : decode cX10_isInstead 40 = .ok (.ixor, 1) := by decide +kernel
theorem dX10_isInstead_41 : decode cX10_isInstead 41 = .ok (.iand, 1) := by decide +kernel
theorem dX10_isInstead_42 : decode cX10_isInstead 42 = .ok (.ifCond .eq 5, 3) := by decide +kernel
theorem dX10_isInstead_45 : decode cX10_isInstead 45 = .ok (.iconst 0, 1) := by decide +kernel
theorem dX10_isInstead_46 : decode cX10_isInstead 46 = .ok (.ireturn, 1) := by decide +kernel
theorem dX10_isInstead_47 : decode cX10_isInstead 47 = .ok (.iconst 0, 1) := by decide +kernel
theorem dX10_isInstead_48 : decode cX10_isInstead 48 = .ok (.istore_n 3, 1) := by decide +kernel
theorem dX10_isInstead_49 : decode cX10_isInstead 49 = .ok (.iload_n 3, 1) := by decide +kernel
theorem dX10_isInstead_50 : decode cX10_isInstead 50 = .ok (.aload_n 0, 1) := by decide +kernel
theorem dX10_isInstead_51 : decode cX10_isInstead 51 = .ok (.getfield 346, 3) := by decide +kernel
theorem dX10_isInstead_54 : decode cX10_isInstead 54 = .ok (.getfield 203, 3) := by decide +kernel
theorem dX10_isInstead_57 : decode cX10_isInstead 57 = .ok (.if_icmp .ge 29, 3) := by decide +kernel
theorem dX10_isInstead_60 : decode cX10_isInstead 60 = .ok (.aload_n 0, 1) := by decide +kernel
theorem dX10_isInstead_61 : decode cX10_isInstead 61 = .ok (.iload_n 3, 1) := by decide +kernel
theorem dX10_isInstead_62 : decode cX10_isInstead 62 = .ok (.iload_n 1, 1) := by decide +kernel
theorem dX10_isInstead_63 : decode cX10_isInstead 63 = .ok (.invokevirtual 372, 3) := by decide +kernel
theorem dX10_isInstead_66 : decode cX10_isInstead 66 = .ok (.ifCond .eq 14, 3) := by decide +kernel
theorem dX10_isInstead_69 : decode cX10_isInstead 69 = .ok (.aload_n 0, 1) := by decide +kernel
theorem dX10_isInstead_70 : decode cX10_isInstead 70 = .ok (.iload_n 3, 1) := by decide +kernel
theorem dX10_isInstead_71 : decode cX10_isInstead 71 = .ok (.iload_n 2, 1) := by decide +kernel
theorem dX10_isInstead_72 : decode cX10_isInstead 72 = .ok (.invokevirtual 372, 3) := by decide +kernel
theorem dX10_isInstead_75 : decode cX10_isInstead 75 = .ok (.ifCond .ne 5, 3) := by decide +kernel
theorem dX10_isInstead_78 : decode cX10_isInstead 78 = .ok (.iconst 0, 1) := by decide +kernel
theorem dX10_isInstead_79 : decode cX10_isInstead 79 = .ok (.ireturn, 1) := by decide +kernel
theorem dX10_isInstead_80 : decode cX10_isInstead 80 = .ok (.iinc 3 1, 3) := by decide +kernel
theorem dX10_isInstead_83 : decode cX10_isInstead 83 = .ok (.goto (-34), 3) := by decide +kernel
theorem dX10_isInstead_86 : decode cX10_isInstead 86 = .ok (.iconst 1, 1) := by decide +kernel
theorem dX10_isInstead_87 : decode cX10_isInstead 87 = .ok (.ireturn, 1) := by decide +kernel
theorem dX10_instead_0 : decode cX10_instead 0 = .ok (.aload_n 0, 1) := by decide +kernel
theorem dX10_instead_1 : decode cX10_instead 1 = .ok (.iconst 0, 1) := by decide +kernel
theorem dX10_instead_2 : decode cX10_instead 2 = .ok (.putfield 54, 3) := by decide +kernel
theorem dX10_instead_5 : decode cX10_instead 5 = .ok (.aload_n 0, 1) := by decide +kernel
theorem dX10_instead_6 : decode cX10_instead 6 = .ok (.iload_n 1, 1) := by decide +kernel
theorem dX10_instead_7 : decode cX10_instead 7 = .ok (.invokevirtual 369, 3) := by decide +kernel
theorem dX10_instead_10 : decode cX10_instead 10 = .ok (.ifCond .eq 37, 3) := by decide +kernel
theorem dX10_instead_13 : decode cX10_instead 13 = .ok (.aload_n 0, 1) := by decide +kernel
theorem dX10_instead_14 : decode cX10_instead 14 = .ok (.iload_n 2, 1) := by decide +kernel
theorem dX10_instead_15 : decode cX10_instead 15 = .ok (.invokevirtual 369, 3) := by decide +kernel
theorem dX10_instead_18 : decode cX10_instead 18 = .ok (.ifCond .eq 29, 3) := by decide +kernel
theorem dX10_instead_21 : decode cX10_instead 21 = .ok (.iload_n 1, 1) := by decide +kernel
theorem dX10_instead_22 : decode cX10_instead 22 = .ok (.iload_n 2, 1) := by decide +kernel
theorem dX10_instead_23 : decode cX10_instead 23 = .ok (.if_icmp .eq 24, 3) := by decide +kernel
theorem dX10_instead_26 : decode cX10_instead 26 = .ok (.aload_n 0, 1) := by decide +kernel
theorem dX10_instead_27 : decode cX10_instead 27 = .ok (.aload_n 0, 1) := by decide +kernel
theorem dX10_instead_28 : decode cX10_instead 28 = .ok (.iload_n 2, 1) := by decide +kernel
theorem dX10_instead_29 : decode cX10_instead 29 = .ok (.iload_n 1, 1) := by decide +kernel
theorem dX10_instead_30 : decode cX10_instead 30 = .ok (.invokevirtual 374, 3) := by decide +kernel
theorem dX10_instead_33 : decode cX10_instead 33 = .ok (.ifCond .eq 7, 3) := by decide +kernel
theorem dX10_instead_36 : decode cX10_instead 36 = .ok (.iconst 1, 1) := by decide +kernel
theorem dX10_instead_37 : decode cX10_instead 37 = .ok (.goto 4, 3) := by decide +kernel
theorem dX10_instead_40 : decode cX10_instead 40 = .ok (.iconst 0, 1) := by decide +kernel
theorem dX10_instead_41 : decode cX10_instead 41 = .ok (.invokevirtual 64, 3) := by decide +kernel
theorem dX10_instead_44 : decode cX10_instead 44 = .ok (.goto 8, 3) := by decide +kernel
theorem dX10_instead_47 : decode cX10_instead 47 = .ok (.aload_n 0, 1) := by decide +kernel
theorem dX10_instead_48 : decode cX10_instead 48 = .ok (.iconst 1, 1) := by decide +kernel
theorem dX10_instead_49 : decode cX10_instead 49 = .ok (.invokevirtual 60, 3) := by decide +kernel
theorem dX10_instead_52 : decode cX10_instead 52 = .ok (.ireturn, 1) := by decide +kernel
theorem dX10_spare_0 : decode cX10_spare 0 = .ok (.aload_n 0, 1) := by decide +kernel
theorem dX10_spare_1 : decode cX10_spare 1 = .ok (.iconst 0, 1) := by decide +kernel
theorem dX10_spare_2 : decode cX10_spare 2 = .ok (.putfield 54, 3) := by decide +kernel
theorem dX10_spare_5 : decode cX10_spare 5 = .ok (.aload_n 0, 1) := by decide +kernel
theorem dX10_spare_6 : decode cX10_spare 6 = .ok (.iload_n 1, 1) := by decide +kernel
theorem dX10_spare_7 : decode cX10_spare 7 = .ok (.invokevirtual 369, 3) := by decide +kernel
theorem dX10_spare_10 : decode cX10_spare 10 = .ok (.ifCond .ne 9, 3) := by decide +kernel
theorem dX10_spare_13 : decode cX10_spare 13 = .ok (.aload_n 0, 1) := by decide +kernel
theorem dX10_spare_14 : decode cX10_spare 14 = .ok (.iconst 1, 1) := by decide +kernel
theorem dX10_spare_15 : decode cX10_spare 15 = .ok (.invokevirtual 60, 3) := by decide +kernel
theorem dX10_spare_18 : decode cX10_spare 18 = .ok (.ireturn, 1) := by decide +kernel
theorem dX10_spare_19 : decode cX10_spare 19 = .ok (.iconst 0, 1) := by decide +kernel
theorem dX10_spare_20 : decode cX10_spare 20 = .ok (.istore_n 2, 1) := by decide +kernel
theorem dX10_spare_21 : decode cX10_spare 21 = .ok (.iload_n 2, 1) := by decide +kernel
theorem dX10_spare_22 : decode cX10_spare 22 = .ok (.aload_n 0, 1) := by decide +kernel
theorem dX10_spare_23 : decode cX10_spare 23 = .ok (.getfield 346, 3) := by decide +kernel
theorem dX10_spare_26 : decode cX10_spare 26 = .ok (.getfield 203, 3) := by decide +kernel
theorem dX10_spare_29 : decode cX10_spare 29 = .ok (.if_icmp .ge 50, 3) := by decide +kernel
theorem dX10_spare_32 : decode cX10_spare 32 = .ok (.iload_n 2, 1) := by decide +kernel
theorem dX10_spare_33 : decode cX10_spare 33 = .ok (.iload_n 1, 1) := by decide +kernel
theorem dX10_spare_34 : decode cX10_spare 34 = .ok (.if_icmp .eq 39, 3) := by decide +kernel
theorem dX10_spare_37 : decode cX10_spare 37 = .ok (.aload_n 0, 1) := by decide +kernel
theorem dX10_spare_38 : decode cX10_spare 38 = .ok (.getfield 346, 3) := by decide +kernel
theorem dX10_spare_41 : decode cX10_spare 41 = .ok (.getfield 273, 3) := by decide +kernel
theorem dX10_spare_44 : decode cX10_spare 44 = .ok (.iload_n 2, 1) := by decide +kernel
theorem dX10_spare_45 : decode cX10_spare 45 = .ok (.iaload, 1) := by decide +kernel
theorem dX10_spare_46 : decode cX10_spare 46 = .ok (.aload_n 0, 1) := by decide +kernel
theorem dX10_spare_47 : decode cX10_spare 47 = .ok (.getfield 346, 3) := by decide +kernel
theorem dX10_spare_50 : decode cX10_spare 50 = .ok (.getfield 273, 3) := by decide +kernel
theorem dX10_spare_53 : decode cX10_spare 53 = .ok (.iload_n 1, 1) := by decide +kernel
theorem dX10_spare_54 : decode cX10_spare 54 = .ok (.iaload, 1) := by decide +kernel
theorem dX10_spare_55 : decode cX10_spare 55 = .ok (.if_icmp .eq 18, 3) := by decide +kernel
theorem dX10_spare_58 : decode cX10_spare 58 = .ok (.aload_n 0, 1) := by decide +kernel
theorem dX10_spare_59 : decode cX10_spare 59 = .ok (.iload_n 1, 1) := by decide +kernel
theorem dX10_spare_60 : decode cX10_spare 60 = .ok (.iload_n 2, 1) := by decide +kernel
theorem dX10_spare_61 : decode cX10_spare 61 = .ok (.invokevirtual 374, 3) := by decide +kernel
theorem dX10_spare_64 : decode cX10_spare 64 = .ok (.ifCond .eq 9, 3) := by decide +kernel
theorem dX10_spare_67 : decode cX10_spare 67 = .ok (.aload_n 0, 1) := by decide +kernel
theorem dX10_spare_68 : decode cX10_spare 68 = .ok (.iload_n 2, 1) := by decide +kernel
theorem dX10_spare_69 : decode cX10_spare 69 = .ok (.invokevirtual 64, 3) := by decide +kernel
theorem dX10_spare_72 : decode cX10_spare 72 = .ok (.ireturn, 1) := by decide +kernel
theorem dX10_spare_73 : decode cX10_spare 73 = .ok (.iinc 2 1, 3) := by decide +kernel
theorem dX10_spare_76 : decode cX10_spare 76 = .ok (.goto (-55), 3) := by decide +kernel
theorem dX10_spare_79 : decode cX10_spare 79 = .ok (.aload_n 0, 1) := by decide +kernel
theorem dX10_spare_80 : decode cX10_spare 80 = .ok (.bipush (-2), 2) := by decide +kernel
theorem dX10_spare_82 : decode cX10_spare 82 = .ok (.invokevirtual 64, 3) := by decide +kernel
theorem dX10_spare_85 : decode cX10_spare 85 = .ok (.ireturn, 1) := by decide +kernel
theorem dX10_rows_0 : decode cX10_rows 0 = .ok (.aload_n 0, 1) := by decide +kernel
theorem dX10_rows_1 : decode cX10_rows 1 = .ok (.iconst 0, 1) := by decide +kernel
theorem dX10_rows_2 : decode cX10_rows 2 = .ok (.putfield 54, 3) := by decide +kernel
theorem dX10_rows_5 : decode cX10_rows 5 = .ok (.aload_n 0, 1) := by decide +kernel
theorem dX10_rows_6 : decode cX10_rows 6 = .ok (.iload_n 1, 1) := by decide +kernel
theorem dX10_rows_7 : decode cX10_rows 7 = .ok (.invokevirtual 377, 3) := by decide +kernel
theorem dX10_rows_10 : decode cX10_rows 10 = .ok (.ifCond .eq 15, 3) := by decide +kernel
theorem dX10_rows_13 : decode cX10_rows 13 = .ok (.aload_n 0, 1) := by decide +kernel
theorem dX10_rows_14 : decode cX10_rows 14 = .ok (.aload_n 0, 1) := by decide +kernel
theorem dX10_rows_15 : decode cX10_rows 15 = .ok (.iload_n 1, 1) := by decide +kernel
theorem dX10_rows_16 : decode cX10_rows 16 = .ok (.invokevirtual 354, 3) := by decide +kernel
theorem dX10_rows_19 : decode cX10_rows 19 = .ok (.invokevirtual 64, 3) := by decide +kernel
theorem dX10_rows_22 : decode cX10_rows 22 = .ok (.goto 8, 3) := by decide +kernel
theorem dX10_rows_25 : decode cX10_rows 25 = .ok (.aload_n 0, 1) := by decide +kernel
theorem dX10_rows_26 : decode cX10_rows 26 = .ok (.iconst 1, 1) := by decide +kernel
theorem dX10_rows_27 : decode cX10_rows 27 = .ok (.invokevirtual 60, 3) := by decide +kernel
theorem dX10_rows_30 : decode cX10_rows 30 = .ok (.ireturn, 1) := by decide +kernel
theorem dX10_at_0 : decode cX10_at 0 = .ok (.aload_n 0, 1) := by decide +kernel
theorem dX10_at_1 : decode cX10_at 1 = .ok (.iconst 0, 1) := by decide +kernel
theorem dX10_at_2 : decode cX10_at 2 = .ok (.putfield 54, 3) := by decide +kernel
theorem dX10_at_5 : decode cX10_at 5 = .ok (.aload_n 0, 1) := by decide +kernel
theorem dX10_at_6 : decode cX10_at 6 = .ok (.iload_n 1, 1) := by decide +kernel
theorem dX10_at_7 : decode cX10_at 7 = .ok (.invokevirtual 377, 3) := by decide +kernel
theorem dX10_at_10 : decode cX10_at 10 = .ok (.ifCond .eq 29, 3) := by decide +kernel
theorem dX10_at_13 : decode cX10_at 13 = .ok (.iload_n 2, 1) := by decide +kernel
theorem dX10_at_14 : decode cX10_at 14 = .ok (.ifCond .lt 25, 3) := by decide +kernel
theorem dX10_at_17 : decode cX10_at 17 = .ok (.iload_n 2, 1) := by decide +kernel
theorem dX10_at_18 : decode cX10_at 18 = .ok (.aload_n 0, 1) := by decide +kernel
theorem dX10_at_19 : decode cX10_at 19 = .ok (.iload_n 1, 1) := by decide +kernel
theorem dX10_at_20 : decode cX10_at 20 = .ok (.invokevirtual 354, 3) := by decide +kernel
theorem dX10_at_23 : decode cX10_at 23 = .ok (.if_icmp .ge 16, 3) := by decide +kernel
theorem dX10_at_26 : decode cX10_at 26 = .ok (.aload_n 0, 1) := by decide +kernel
theorem dX10_at_27 : decode cX10_at 27 = .ok (.aload_n 0, 1) := by decide +kernel
theorem dX10_at_28 : decode cX10_at 28 = .ok (.iload_n 1, 1) := by decide +kernel
theorem dX10_at_29 : decode cX10_at 29 = .ok (.iload_n 2, 1) := by decide +kernel
theorem dX10_at_30 : decode cX10_at 30 = .ok (.invokevirtual 357, 3) := by decide +kernel
theorem dX10_at_33 : decode cX10_at 33 = .ok (.invokevirtual 64, 3) := by decide +kernel
theorem dX10_at_36 : decode cX10_at 36 = .ok (.goto 8, 3) := by decide +kernel
theorem dX10_at_39 : decode cX10_at 39 = .ok (.aload_n 0, 1) := by decide +kernel
theorem dX10_at_40 : decode cX10_at 40 = .ok (.iconst 1, 1) := by decide +kernel
theorem dX10_at_41 : decode cX10_at 41 = .ok (.invokevirtual 60, 3) := by decide +kernel
theorem dX10_at_44 : decode cX10_at 44 = .ok (.ireturn, 1) := by decide +kernel
theorem dX10_colour_0 : decode cX10_colour 0 = .ok (.aload_n 0, 1) := by decide +kernel
theorem dX10_colour_1 : decode cX10_colour 1 = .ok (.iconst 0, 1) := by decide +kernel
theorem dX10_colour_2 : decode cX10_colour 2 = .ok (.putfield 54, 3) := by decide +kernel
theorem dX10_colour_5 : decode cX10_colour 5 = .ok (.aload_n 0, 1) := by decide +kernel
theorem dX10_colour_6 : decode cX10_colour 6 = .ok (.iload_n 1, 1) := by decide +kernel
theorem dX10_colour_7 : decode cX10_colour 7 = .ok (.invokevirtual 377, 3) := by decide +kernel
theorem dX10_colour_10 : decode cX10_colour 10 = .ok (.ifCond .eq 29, 3) := by decide +kernel
theorem dX10_colour_13 : decode cX10_colour 13 = .ok (.iload_n 2, 1) := by decide +kernel
theorem dX10_colour_14 : decode cX10_colour 14 = .ok (.iconst 0, 1) := by decide +kernel
theorem dX10_colour_15 : decode cX10_colour 15 = .ok (.aload_n 0, 1) := by decide +kernel
theorem dX10_colour_16 : decode cX10_colour 16 = .ok (.getfield 346, 3) := by decide +kernel
theorem dX10_colour_19 : decode cX10_colour 19 = .ok (.getfield 248, 3) := by decide +kernel
theorem dX10_colour_22 : decode cX10_colour 22 = .ok (.iconst 1, 1) := by decide +kernel
theorem dX10_colour_23 : decode cX10_colour 23 = .ok (.isub, 1) := by decide +kernel
theorem dX10_colour_24 : decode cX10_colour 24 = .ok (.invokestatic 134, 3) := by decide +kernel
theorem dX10_colour_27 : decode cX10_colour 27 = .ok (.ifCond .eq 12, 3) := by decide +kernel
theorem dX10_colour_30 : decode cX10_colour 30 = .ok (.iload_n 3, 1) := by decide +kernel
theorem dX10_colour_31 : decode cX10_colour 31 = .ok (.iconst 0, 1) := by decide +kernel
theorem dX10_colour_32 : decode cX10_colour 32 = .ok (.iconst 2, 1) := by decide +kernel
theorem dX10_colour_33 : decode cX10_colour 33 = .ok (.invokestatic 134, 3) := by decide +kernel
theorem dX10_colour_36 : decode cX10_colour 36 = .ok (.ifCond .ne 9, 3) := by decide +kernel
theorem dX10_colour_39 : decode cX10_colour 39 = .ok (.aload_n 0, 1) := by decide +kernel
theorem dX10_colour_40 : decode cX10_colour 40 = .ok (.iconst 1, 1) := by decide +kernel
theorem dX10_colour_41 : decode cX10_colour 41 = .ok (.invokevirtual 60, 3) := by decide +kernel
theorem dX10_colour_44 : decode cX10_colour 44 = .ok (.ireturn, 1) := by decide +kernel
theorem dX10_colour_45 : decode cX10_colour 45 = .ok (.iload_n 3, 1) := by decide +kernel
theorem dX10_colour_46 : decode cX10_colour 46 = .ok (.iconst 1, 1) := by decide +kernel
theorem dX10_colour_47 : decode cX10_colour 47 = .ok (.if_icmp .eq 30, 3) := by decide +kernel
theorem dX10_colour_50 : decode cX10_colour 50 = .ok (.aload_n 0, 1) := by decide +kernel
theorem dX10_colour_51 : decode cX10_colour 51 = .ok (.aload_n 0, 1) := by decide +kernel
theorem dX10_colour_52 : decode cX10_colour 52 = .ok (.getfield 17, 3) := by decide +kernel
theorem dX10_colour_55 : decode cX10_colour 55 = .ok (.iload_n 3, 1) := by decide +kernel
theorem dX10_colour_56 : decode cX10_colour 56 = .ok (.ifCond .ne 8, 3) := by decide +kernel
theorem dX10_colour_59 : decode cX10_colour 59 = .ok (.bipush 50, 2) := by decide +kernel
theorem dX10_colour_61 : decode cX10_colour 61 = .ok (.goto 5, 3) := by decide +kernel
theorem dX10_colour_64 : decode cX10_colour 64 = .ok (.bipush 54, 2) := by decide +kernel
theorem dX10_colour_66 : decode cX10_colour 66 = .ok (.iconst 2, 1) := by decide +kernel
theorem dX10_colour_67 : decode cX10_colour 67 = .ok (.iload_n 1, 1) := by decide +kernel
theorem dX10_colour_68 : decode cX10_colour 68 = .ok (.imul, 1) := by decide +kernel
theorem dX10_colour_69 : decode cX10_colour 69 = .ok (.iadd, 1) := by decide +kernel
theorem dX10_colour_70 : decode cX10_colour 70 = .ok (.iload_n 2, 1) := by decide +kernel
theorem dX10_colour_71 : decode cX10_colour 71 = .ok (.iadd, 1) := by decide +kernel
theorem dX10_colour_72 : decode cX10_colour 72 = .ok (.iaload, 1) := by decide +kernel
theorem dX10_colour_73 : decode cX10_colour 73 = .ok (.invokevirtual 64, 3) := by decide +kernel
theorem dX10_colour_76 : decode cX10_colour 76 = .ok (.ireturn, 1) := by decide +kernel
theorem dX10_colour_77 : decode cX10_colour 77 = .ok (.iconst 0, 1) := by decide +kernel
theorem dX10_colour_78 : decode cX10_colour 78 = .ok (.istore 4, 2) := by decide +kernel
theorem dX10_colour_80 : decode cX10_colour 80 = .ok (.iconst 0, 1) := by decide +kernel
theorem dX10_colour_81 : decode cX10_colour 81 = .ok (.istore 5, 2) := by decide +kernel
theorem dX10_colour_83 : decode cX10_colour 83 = .ok (.iload 5, 2) := by decide +kernel
theorem dX10_colour_85 : decode cX10_colour 85 = .ok (.aload_n 0, 1) := by decide +kernel
theorem dX10_colour_86 : decode cX10_colour 86 = .ok (.iload_n 1, 1) := by decide +kernel
theorem dX10_colour_87 : decode cX10_colour 87 = .ok (.invokevirtual 354, 3) := by decide +kernel
theorem dX10_colour_90 : decode cX10_colour 90 = .ok (.if_icmp .ge 52, 3) := by decide +kernel
theorem dX10_colour_93 : decode cX10_colour 93 = .ok (.iload 4, 2) := by decide +kernel
theorem dX10_colour_95 : decode cX10_colour 95 = .ok (.aload_n 0, 1) := by decide +kernel
theorem dX10_colour_96 : decode cX10_colour 96 = .ok (.getfield 346, 3) := by decide +kernel
theorem dX10_colour_99 : decode cX10_colour 99 = .ok (.getfield 273, 3) := by decide +kernel
theorem dX10_colour_102 : decode cX10_colour 102 = .ok (.aload_n 0, 1) := by decide +kernel
theorem dX10_colour_103 : decode cX10_colour 103 = .ok (.iload_n 1, 1) := by decide +kernel
theorem dX10_colour_104 : decode cX10_colour 104 = .ok (.iload 5, 2) := by decide +kernel
theorem dX10_colour_106 : decode cX10_colour 106 = .ok (.invokevirtual 357, 3) := by decide +kernel
theorem dX10_colour_109 : decode cX10_colour 109 = .ok (.iaload, 1) := by decide +kernel
theorem dX10_colour_110 : decode cX10_colour 110 = .ok (.iload_n 2, 1) := by decide +kernel
theorem dX10_colour_111 : decode cX10_colour 111 = .ok (.if_icmp .ne 21, 3) := by decide +kernel
theorem dX10_colour_114 : decode cX10_colour 114 = .ok (.aload_n 0, 1) := by decide +kernel
theorem dX10_colour_115 : decode cX10_colour 115 = .ok (.getfield 346, 3) := by decide +kernel
theorem dX10_colour_118 : decode cX10_colour 118 = .ok (.getfield 275, 3) := by decide +kernel
theorem dX10_colour_121 : decode cX10_colour 121 = .ok (.aload_n 0, 1) := by decide +kernel
theorem dX10_colour_122 : decode cX10_colour 122 = .ok (.iload_n 1, 1) := by decide +kernel
theorem dX10_colour_123 : decode cX10_colour 123 = .ok (.iload 5, 2) := by decide +kernel
theorem dX10_colour_125 : decode cX10_colour 125 = .ok (.invokevirtual 357, 3) := by decide +kernel
theorem dX10_colour_128 : decode cX10_colour 128 = .ok (.iaload, 1) := by decide +kernel
theorem dX10_colour_129 : decode cX10_colour 129 = .ok (.goto 4, 3) := by decide +kernel
theorem dX10_colour_132 : decode cX10_colour 132 = .ok (.iconst 0, 1) := by decide +kernel
theorem dX10_colour_133 : decode cX10_colour 133 = .ok (.iadd, 1) := by decide +kernel
theorem dX10_colour_134 : decode cX10_colour 134 = .ok (.istore 4, 2) := by decide +kernel
theorem dX10_colour_136 : decode cX10_colour 136 = .ok (.iinc 5 1, 3) := by decide +kernel
theorem dX10_colour_139 : decode cX10_colour 139 = .ok (.goto (-56), 3) := by decide +kernel
theorem dX10_colour_142 : decode cX10_colour 142 = .ok (.aload_n 0, 1) := by decide +kernel
theorem dX10_colour_143 : decode cX10_colour 143 = .ok (.iload 4, 2) := by decide +kernel
theorem dX10_colour_145 : decode cX10_colour 145 = .ok (.invokevirtual 64, 3) := by decide +kernel
theorem dX10_colour_148 : decode cX10_colour 148 = .ok (.ireturn, 1) := by decide +kernel
theorem dX10_unitsOf_0 : decode cX10_unitsOf 0 = .ok (.iload_n 1, 1) := by decide +kernel
theorem dX10_unitsOf_1 : decode cX10_unitsOf 1 = .ok (.aload_n 0, 1) := by decide +kernel
theorem dX10_unitsOf_2 : decode cX10_unitsOf 2 = .ok (.getfield 346, 3) := by decide +kernel
theorem dX10_unitsOf_5 : decode cX10_unitsOf 5 = .ok (.getfield 241, 3) := by decide +kernel
theorem dX10_unitsOf_8 : decode cX10_unitsOf 8 = .ok (.iconst 0, 1) := by decide +kernel
theorem dX10_unitsOf_9 : decode cX10_unitsOf 9 = .ok (.iaload, 1) := by decide +kernel
theorem dX10_unitsOf_10 : decode cX10_unitsOf 10 = .ok (.imul, 1) := by decide +kernel
theorem dX10_unitsOf_11 : decode cX10_unitsOf 11 = .ok (.iload_n 2, 1) := by decide +kernel
theorem dX10_unitsOf_12 : decode cX10_unitsOf 12 = .ok (.aload_n 0, 1) := by decide +kernel
theorem dX10_unitsOf_13 : decode cX10_unitsOf 13 = .ok (.getfield 346, 3) := by decide +kernel
theorem dX10_unitsOf_16 : decode cX10_unitsOf 16 = .ok (.getfield 241, 3) := by decide +kernel
theorem dX10_unitsOf_19 : decode cX10_unitsOf 19 = .ok (.iconst 1, 1) := by decide +kernel
theorem dX10_unitsOf_20 : decode cX10_unitsOf 20 = .ok (.iaload, 1) := by decide +kernel
theorem dX10_unitsOf_21 : decode cX10_unitsOf 21 = .ok (.imul, 1) := by decide +kernel
theorem dX10_unitsOf_22 : decode cX10_unitsOf 22 = .ok (.iadd, 1) := by decide +kernel
theorem dX10_unitsOf_23 : decode cX10_unitsOf 23 = .ok (.ireturn, 1) := by decide +kernel
theorem dX10_isLong_0 : decode cX10_isLong 0 = .ok (.iload_n 1, 1) := by decide +kernel
theorem dX10_isLong_1 : decode cX10_isLong 1 = .ok (.aload_n 0, 1) := by decide +kernel
theorem dX10_isLong_2 : decode cX10_isLong 2 = .ok (.getfield 346, 3) := by decide +kernel
theorem dX10_isLong_5 : decode cX10_isLong 5 = .ok (.getfield 235, 3) := by decide +kernel
theorem dX10_isLong_8 : decode cX10_isLong 8 = .ok (.aload_n 0, 1) := by decide +kernel
theorem dX10_isLong_9 : decode cX10_isLong 9 = .ok (.getfield 346, 3) := by decide +kernel
theorem dX10_isLong_12 : decode cX10_isLong 12 = .ok (.getfield 235, 3) := by decide +kernel
theorem dX10_isLong_15 : decode cX10_isLong 15 = .ok (.aload_n 0, 1) := by decide +kernel
theorem dX10_isLong_16 : decode cX10_isLong 16 = .ok (.getfield 346, 3) := by decide +kernel
theorem dX10_isLong_19 : decode cX10_isLong 19 = .ok (.getfield 239, 3) := by decide +kernel
theorem dX10_isLong_22 : decode cX10_isLong 22 = .ok (.iadd, 1) := by decide +kernel
theorem dX10_isLong_23 : decode cX10_isLong 23 = .ok (.invokestatic 134, 3) := by decide +kernel
theorem dX10_isLong_26 : decode cX10_isLong 26 = .ok (.ireturn, 1) := by decide +kernel
theorem dX10_units_0 : decode cX10_units 0 = .ok (.aload_n 0, 1) := by decide +kernel
theorem dX10_units_1 : decode cX10_units 1 = .ok (.iconst 0, 1) := by decide +kernel
theorem dX10_units_2 : decode cX10_units 2 = .ok (.putfield 54, 3) := by decide +kernel
theorem dX10_units_5 : decode cX10_units 5 = .ok (.aload_n 0, 1) := by decide +kernel
theorem dX10_units_6 : decode cX10_units 6 = .ok (.getfield 346, 3) := by decide +kernel
theorem dX10_units_9 : decode cX10_units 9 = .ok (.ifnonnull 11, 3) := by decide +kernel
theorem dX10_units_12 : decode cX10_units 12 = .ok (.aload_n 0, 1) := by decide +kernel
theorem dX10_units_13 : decode cX10_units 13 = .ok (.iconst 1, 1) := by decide +kernel
theorem dX10_units_14 : decode cX10_units 14 = .ok (.invokevirtual 60, 3) := by decide +kernel
theorem dX10_units_17 : decode cX10_units 17 = .ok (.goto 21, 3) := by decide +kernel
theorem dX10_units_20 : decode cX10_units 20 = .ok (.aload_n 0, 1) := by decide +kernel
theorem dX10_units_21 : decode cX10_units 21 = .ok (.aload_n 0, 1) := by decide +kernel
theorem dX10_units_22 : decode cX10_units 22 = .ok (.aload_n 0, 1) := by decide +kernel
theorem dX10_units_23 : decode cX10_units 23 = .ok (.iconst 0, 1) := by decide +kernel
theorem dX10_units_24 : decode cX10_units 24 = .ok (.invokevirtual 354, 3) := by decide +kernel
theorem dX10_units_27 : decode cX10_units 27 = .ok (.aload_n 0, 1) := by decide +kernel
theorem dX10_units_28 : decode cX10_units 28 = .ok (.iconst 1, 1) := by decide +kernel
theorem dX10_units_29 : decode cX10_units 29 = .ok (.invokevirtual 354, 3) := by decide +kernel
theorem dX10_units_32 : decode cX10_units 32 = .ok (.invokevirtual 380, 3) := by decide +kernel
theorem dX10_units_35 : decode cX10_units 35 = .ok (.invokevirtual 64, 3) := by decide +kernel
theorem dX10_units_38 : decode cX10_units 38 = .ok (.ireturn, 1) := by decide +kernel
theorem dX10_may_0 : decode cX10_may 0 = .ok (.aload_n 0, 1) := by decide +kernel
theorem dX10_may_1 : decode cX10_may 1 = .ok (.iconst 0, 1) := by decide +kernel
theorem dX10_may_2 : decode cX10_may 2 = .ok (.putfield 54, 3) := by decide +kernel
theorem dX10_may_5 : decode cX10_may 5 = .ok (.aload_n 0, 1) := by decide +kernel
theorem dX10_may_6 : decode cX10_may 6 = .ok (.iload_n 1, 1) := by decide +kernel
theorem dX10_may_7 : decode cX10_may 7 = .ok (.invokevirtual 377, 3) := by decide +kernel
theorem dX10_may_10 : decode cX10_may 10 = .ok (.ifCond .eq 15, 3) := by decide +kernel
theorem dX10_may_13 : decode cX10_may 13 = .ok (.aload_n 0, 1) := by decide +kernel
theorem dX10_may_14 : decode cX10_may 14 = .ok (.aload_n 0, 1) := by decide +kernel
theorem dX10_may_15 : decode cX10_may 15 = .ok (.iload_n 1, 1) := by decide +kernel
theorem dX10_may_16 : decode cX10_may 16 = .ok (.invokevirtual 383, 3) := by decide +kernel
theorem dX10_may_19 : decode cX10_may 19 = .ok (.invokevirtual 64, 3) := by decide +kernel
theorem dX10_may_22 : decode cX10_may 22 = .ok (.goto 8, 3) := by decide +kernel
theorem dX10_may_25 : decode cX10_may 25 = .ok (.aload_n 0, 1) := by decide +kernel
theorem dX10_may_26 : decode cX10_may 26 = .ok (.iconst 1, 1) := by decide +kernel
theorem dX10_may_27 : decode cX10_may 27 = .ok (.invokevirtual 60, 3) := by decide +kernel
theorem dX10_may_30 : decode cX10_may 30 = .ok (.ireturn, 1) := by decide +kernel
theorem dX10_keeps_0 : decode cX10_keeps 0 = .ok (.aload_n 0, 1) := by decide +kernel
theorem dX10_keeps_1 : decode cX10_keeps 1 = .ok (.getfield 348, 3) := by decide +kernel
theorem dX10_keeps_4 : decode cX10_keeps 4 = .ok (.bipush 12, 2) := by decide +kernel
theorem dX10_keeps_6 : decode cX10_keeps 6 = .ok (.if_icmp .ne 43, 3) := by decide +kernel
theorem dX10_keeps_9 : decode cX10_keeps 9 = .ok (.iconst 0, 1) := by decide +kernel
theorem dX10_keeps_10 : decode cX10_keeps 10 = .ok (.istore_n 1, 1) := by decide +kernel
theorem dX10_keeps_11 : decode cX10_keeps 11 = .ok (.iload_n 1, 1) := by decide +kernel
theorem dX10_keeps_12 : decode cX10_keeps 12 = .ok (.sipush 649, 3) := by decide +kernel
theorem dX10_keeps_15 : decode cX10_keeps 15 = .ok (.if_icmp .ge 24, 3) := by decide +kernel
theorem dX10_keeps_18 : decode cX10_keeps 18 = .ok (.aload_n 0, 1) := by decide +kernel
theorem dX10_keeps_19 : decode cX10_keeps 19 = .ok (.getfield 21, 3) := by decide +kernel
theorem dX10_keeps_22 : decode cX10_keeps 22 = .ok (.iload_n 1, 1) := by decide +kernel
theorem dX10_keeps_23 : decode cX10_keeps 23 = .ok (.aload_n 0, 1) := by decide +kernel
theorem dX10_keeps_24 : decode cX10_keeps 24 = .ok (.getfield 21, 3) := by decide +kernel
theorem dX10_keeps_27 : decode cX10_keeps 27 = .ok (.iload_n 1, 1) := by decide +kernel
theorem dX10_keeps_28 : decode cX10_keeps 28 = .ok (.bipush 59, 2) := by decide +kernel
theorem dX10_keeps_30 : decode cX10_keeps 30 = .ok (.iadd, 1) := by decide +kernel
theorem dX10_keeps_31 : decode cX10_keeps 31 = .ok (.iaload, 1) := by decide +kernel
theorem dX10_keeps_32 : decode cX10_keeps 32 = .ok (.iastore, 1) := by decide +kernel
theorem dX10_keeps_33 : decode cX10_keeps 33 = .ok (.iinc 1 1, 3) := by decide +kernel
theorem dX10_keeps_36 : decode cX10_keeps 36 = .ok (.goto (-25), 3) := by decide +kernel
theorem dX10_keeps_39 : decode cX10_keeps 39 = .ok (.aload_n 0, 1) := by decide +kernel
theorem dX10_keeps_40 : decode cX10_keeps 40 = .ok (.dup, 1) := by decide +kernel
theorem dX10_keeps_41 : decode cX10_keeps 41 = .ok (.getfield 348, 3) := by decide +kernel
theorem dX10_keeps_44 : decode cX10_keeps 44 = .ok (.iconst 1, 1) := by decide +kernel
theorem dX10_keeps_45 : decode cX10_keeps 45 = .ok (.isub, 1) := by decide +kernel
theorem dX10_keeps_46 : decode cX10_keeps 46 = .ok (.putfield 348, 3) := by decide +kernel
theorem dX10_keeps_49 : decode cX10_keeps 49 = .ok (.iconst 0, 1) := by decide +kernel
theorem dX10_keeps_50 : decode cX10_keeps 50 = .ok (.istore_n 1, 1) := by decide +kernel
theorem dX10_keeps_51 : decode cX10_keeps 51 = .ok (.iload_n 1, 1) := by decide +kernel
theorem dX10_keeps_52 : decode cX10_keeps 52 = .ok (.bipush 59, 2) := by decide +kernel
theorem dX10_keeps_54 : decode cX10_keeps 54 = .ok (.if_icmp .ge 29, 3) := by decide +kernel
theorem dX10_keeps_57 : decode cX10_keeps 57 = .ok (.aload_n 0, 1) := by decide +kernel
theorem dX10_keeps_58 : decode cX10_keeps 58 = .ok (.getfield 21, 3) := by decide +kernel
theorem dX10_keeps_61 : decode cX10_keeps 61 = .ok (.bipush 59, 2) := by decide +kernel
theorem dX10_keeps_63 : decode cX10_keeps 63 = .ok (.aload_n 0, 1) := by decide +kernel
theorem dX10_keeps_64 : decode cX10_keeps 64 = .ok (.getfield 348, 3) := by decide +kernel
theorem dX10_keeps_67 : decode cX10_keeps 67 = .ok (.imul, 1) := by decide +kernel
theorem dX10_keeps_68 : decode cX10_keeps 68 = .ok (.iload_n 1, 1) := by decide +kernel
theorem dX10_keeps_69 : decode cX10_keeps 69 = .ok (.iadd, 1) := by decide +kernel
theorem dX10_keeps_70 : decode cX10_keeps 70 = .ok (.aload_n 0, 1) := by decide +kernel
theorem dX10_keeps_71 : decode cX10_keeps 71 = .ok (.getfield 17, 3) := by decide +kernel
theorem dX10_keeps_74 : decode cX10_keeps 74 = .ok (.iload_n 1, 1) := by decide +kernel
theorem dX10_keeps_75 : decode cX10_keeps 75 = .ok (.iaload, 1) := by decide +kernel
theorem dX10_keeps_76 : decode cX10_keeps 76 = .ok (.iastore, 1) := by decide +kernel
theorem dX10_keeps_77 : decode cX10_keeps 77 = .ok (.iinc 1 1, 3) := by decide +kernel
theorem dX10_keeps_80 : decode cX10_keeps 80 = .ok (.goto (-29), 3) := by decide +kernel
theorem dX10_keeps_83 : decode cX10_keeps 83 = .ok (.aload_n 0, 1) := by decide +kernel
theorem dX10_keeps_84 : decode cX10_keeps 84 = .ok (.dup, 1) := by decide +kernel
theorem dX10_keeps_85 : decode cX10_keeps 85 = .ok (.getfield 348, 3) := by decide +kernel
theorem dX10_keeps_88 : decode cX10_keeps 88 = .ok (.iconst 1, 1) := by decide +kernel
theorem dX10_keeps_89 : decode cX10_keeps 89 = .ok (.iadd, 1) := by decide +kernel
theorem dX10_keeps_90 : decode cX10_keeps 90 = .ok (.putfield 348, 3) := by decide +kernel
theorem dX10_keeps_93 : decode cX10_keeps 93 = .ok (.return_, 1) := by decide +kernel
theorem dX10_weave_0 : decode cX10_weave 0 = .ok (.aload_n 0, 1) := by decide +kernel
theorem dX10_weave_1 : decode cX10_weave 1 = .ok (.iconst 0, 1) := by decide +kernel
theorem dX10_weave_2 : decode cX10_weave 2 = .ok (.putfield 54, 3) := by decide +kernel
theorem dX10_weave_5 : decode cX10_weave 5 = .ok (.aload_n 0, 1) := by decide +kernel
theorem dX10_weave_6 : decode cX10_weave 6 = .ok (.iload_n 1, 1) := by decide +kernel
theorem dX10_weave_7 : decode cX10_weave 7 = .ok (.invokevirtual 377, 3) := by decide +kernel
theorem dX10_weave_10 : decode cX10_weave 10 = .ok (.ifCond .eq 11, 3) := by decide +kernel
theorem dX10_weave_13 : decode cX10_weave 13 = .ok (.aload_n 0, 1) := by decide +kernel
theorem dX10_weave_14 : decode cX10_weave 14 = .ok (.iload_n 2, 1) := by decide +kernel
theorem dX10_weave_15 : decode cX10_weave 15 = .ok (.invokevirtual 369, 3) := by decide +kernel
theorem dX10_weave_18 : decode cX10_weave 18 = .ok (.ifCond .ne 9, 3) := by decide +kernel
theorem dX10_weave_21 : decode cX10_weave 21 = .ok (.aload_n 0, 1) := by decide +kernel
theorem dX10_weave_22 : decode cX10_weave 22 = .ok (.iconst 1, 1) := by decide +kernel
theorem dX10_weave_23 : decode cX10_weave 23 = .ok (.invokevirtual 386, 3) := by decide +kernel
theorem dX10_weave_26 : decode cX10_weave 26 = .ok (.ireturn, 1) := by decide +kernel
theorem dX10_weave_27 : decode cX10_weave 27 = .ok (.aload_n 0, 1) := by decide +kernel
theorem dX10_weave_28 : decode cX10_weave 28 = .ok (.iload_n 1, 1) := by decide +kernel
theorem dX10_weave_29 : decode cX10_weave 29 = .ok (.invokevirtual 354, 3) := by decide +kernel
theorem dX10_weave_32 : decode cX10_weave 32 = .ok (.bipush 24, 2) := by decide +kernel
theorem dX10_weave_34 : decode cX10_weave 34 = .ok (.if_icmp .ne 9, 3) := by decide +kernel
theorem dX10_weave_37 : decode cX10_weave 37 = .ok (.aload_n 0, 1) := by decide +kernel
theorem dX10_weave_38 : decode cX10_weave 38 = .ok (.iconst 3, 1) := by decide +kernel
theorem dX10_weave_39 : decode cX10_weave 39 = .ok (.invokevirtual 386, 3) := by decide +kernel
theorem dX10_weave_42 : decode cX10_weave 42 = .ok (.ireturn, 1) := by decide +kernel
theorem dX10_weave_43 : decode cX10_weave 43 = .ok (.aload_n 0, 1) := by decide +kernel
theorem dX10_weave_44 : decode cX10_weave 44 = .ok (.getfield 346, 3) := by decide +kernel
theorem dX10_weave_47 : decode cX10_weave 47 = .ok (.iload_n 1, 1) := by decide +kernel
theorem dX10_weave_48 : decode cX10_weave 48 = .ok (.aload_n 0, 1) := by decide +kernel
theorem dX10_weave_49 : decode cX10_weave 49 = .ok (.iload_n 1, 1) := by decide +kernel
theorem dX10_weave_50 : decode cX10_weave 50 = .ok (.iconst 0, 1) := by decide +kernel
theorem dX10_weave_51 : decode cX10_weave 51 = .ok (.invokevirtual 360, 3) := by decide +kernel
theorem dX10_weave_54 : decode cX10_weave 54 = .ok (.iload_n 2, 1) := by decide +kernel
theorem dX10_weave_55 : decode cX10_weave 55 = .ok (.invokevirtual 299, 3) := by decide +kernel
theorem dX10_weave_58 : decode cX10_weave 58 = .ok (.ifCond .ne 9, 3) := by decide +kernel
theorem dX10_weave_61 : decode cX10_weave 61 = .ok (.aload_n 0, 1) := by decide +kernel
theorem dX10_weave_62 : decode cX10_weave 62 = .ok (.iconst 5, 1) := by decide +kernel
theorem dX10_weave_63 : decode cX10_weave 63 = .ok (.invokevirtual 386, 3) := by decide +kernel
theorem dX10_weave_66 : decode cX10_weave 66 = .ok (.ireturn, 1) := by decide +kernel
theorem dX10_weave_67 : decode cX10_weave 67 = .ok (.aload_n 0, 1) := by decide +kernel
theorem dX10_weave_68 : decode cX10_weave 68 = .ok (.iload_n 1, 1) := by decide +kernel
theorem dX10_weave_69 : decode cX10_weave 69 = .ok (.iload_n 2, 1) := by decide +kernel
theorem dX10_weave_70 : decode cX10_weave 70 = .ok (.invokevirtual 366, 3) := by decide +kernel
theorem dX10_weave_73 : decode cX10_weave 73 = .ok (.ifCond .ne 10, 3) := by decide +kernel
theorem dX10_weave_76 : decode cX10_weave 76 = .ok (.aload_n 0, 1) := by decide +kernel
theorem dX10_weave_77 : decode cX10_weave 77 = .ok (.bipush 6, 2) := by decide +kernel
theorem dX10_weave_79 : decode cX10_weave 79 = .ok (.invokevirtual 386, 3) := by decide +kernel
theorem dX10_weave_82 : decode cX10_weave 82 = .ok (.ireturn, 1) := by decide +kernel
theorem dX10_weave_83 : decode cX10_weave 83 = .ok (.aload_n 0, 1) := by decide +kernel
theorem dX10_weave_84 : decode cX10_weave 84 = .ok (.invokevirtual 389, 3) := by decide +kernel
theorem dX10_weave_87 : decode cX10_weave 87 = .ok (.aload_n 0, 1) := by decide +kernel
theorem dX10_weave_88 : decode cX10_weave 88 = .ok (.iload_n 1, 1) := by decide +kernel
theorem dX10_weave_89 : decode cX10_weave 89 = .ok (.iload_n 2, 1) := by decide +kernel
theorem dX10_weave_90 : decode cX10_weave 90 = .ok (.invokevirtual 392, 3) := by decide +kernel
theorem dX10_weave_93 : decode cX10_weave 93 = .ok (.aload_n 0, 1) := by decide +kernel
theorem dX10_weave_94 : decode cX10_weave 94 = .ok (.invokevirtual 395, 3) := by decide +kernel
theorem dX10_weave_97 : decode cX10_weave 97 = .ok (.ireturn, 1) := by decide +kernel
theorem dX10_rip_0 : decode cX10_rip 0 = .ok (.aload_n 0, 1) := by decide +kernel
theorem dX10_rip_1 : decode cX10_rip 1 = .ok (.iconst 0, 1) := by decide +kernel
theorem dX10_rip_2 : decode cX10_rip 2 = .ok (.putfield 54, 3) := by decide +kernel
theorem dX10_rip_5 : decode cX10_rip 5 = .ok (.aload_n 0, 1) := by decide +kernel
theorem dX10_rip_6 : decode cX10_rip 6 = .ok (.iload_n 1, 1) := by decide +kernel
theorem dX10_rip_7 : decode cX10_rip 7 = .ok (.invokevirtual 377, 3) := by decide +kernel
theorem dX10_rip_10 : decode cX10_rip 10 = .ok (.ifCond .ne 9, 3) := by decide +kernel
theorem dX10_rip_13 : decode cX10_rip 13 = .ok (.aload_n 0, 1) := by decide +kernel
theorem dX10_rip_14 : decode cX10_rip 14 = .ok (.iconst 1, 1) := by decide +kernel
theorem dX10_rip_15 : decode cX10_rip 15 = .ok (.invokevirtual 386, 3) := by decide +kernel
theorem dX10_rip_18 : decode cX10_rip 18 = .ok (.ireturn, 1) := by decide +kernel
theorem dX10_rip_19 : decode cX10_rip 19 = .ok (.aload_n 0, 1) := by decide +kernel
theorem dX10_rip_20 : decode cX10_rip 20 = .ok (.iload_n 1, 1) := by decide +kernel
theorem dX10_rip_21 : decode cX10_rip 21 = .ok (.invokevirtual 354, 3) := by decide +kernel
theorem dX10_rip_24 : decode cX10_rip 24 = .ok (.ifCond .ne 10, 3) := by decide +kernel
theorem dX10_rip_27 : decode cX10_rip 27 = .ok (.aload_n 0, 1) := by decide +kernel
theorem dX10_rip_28 : decode cX10_rip 28 = .ok (.bipush 6, 2) := by decide +kernel
theorem dX10_rip_30 : decode cX10_rip 30 = .ok (.invokevirtual 386, 3) := by decide +kernel
theorem dX10_rip_33 : decode cX10_rip 33 = .ok (.ireturn, 1) := by decide +kernel
theorem dX10_rip_34 : decode cX10_rip 34 = .ok (.aload_n 0, 1) := by decide +kernel
theorem dX10_rip_35 : decode cX10_rip 35 = .ok (.invokevirtual 389, 3) := by decide +kernel
theorem dX10_rip_38 : decode cX10_rip 38 = .ok (.aload_n 0, 1) := by decide +kernel
theorem dX10_rip_39 : decode cX10_rip 39 = .ok (.iload_n 1, 1) := by decide +kernel
theorem dX10_rip_40 : decode cX10_rip 40 = .ok (.iconst 0, 1) := by decide +kernel
theorem dX10_rip_41 : decode cX10_rip 41 = .ok (.invokevirtual 360, 3) := by decide +kernel
theorem dX10_rip_44 : decode cX10_rip 44 = .ok (.istore_n 2, 1) := by decide +kernel
theorem dX10_rip_45 : decode cX10_rip 45 = .ok (.aload_n 0, 1) := by decide +kernel
theorem dX10_rip_46 : decode cX10_rip 46 = .ok (.getfield 17, 3) := by decide +kernel
theorem dX10_rip_49 : decode cX10_rip 49 = .ok (.bipush 48, 2) := by decide +kernel
theorem dX10_rip_51 : decode cX10_rip 51 = .ok (.iload_n 1, 1) := by decide +kernel
theorem dX10_rip_52 : decode cX10_rip 52 = .ok (.iadd, 1) := by decide +kernel
theorem dX10_rip_53 : decode cX10_rip 53 = .ok (.dup2, 1) := by decide +kernel
theorem dX10_rip_54 : decode cX10_rip 54 = .ok (.iaload, 1) := by decide +kernel
theorem dX10_rip_55 : decode cX10_rip 55 = .ok (.iconst 1, 1) := by decide +kernel
theorem dX10_rip_56 : decode cX10_rip 56 = .ok (.isub, 1) := by decide +kernel
theorem dX10_rip_57 : decode cX10_rip 57 = .ok (.iastore, 1) := by decide +kernel
theorem dX10_rip_58 : decode cX10_rip 58 = .ok (.aload_n 0, 1) := by decide +kernel
theorem dX10_rip_59 : decode cX10_rip 59 = .ok (.getfield 17, 3) := by decide +kernel
theorem dX10_rip_62 : decode cX10_rip 62 = .ok (.bipush 54, 2) := by decide +kernel
theorem dX10_rip_64 : decode cX10_rip 64 = .ok (.aload_n 0, 1) := by decide +kernel
theorem dX10_rip_65 : decode cX10_rip 65 = .ok (.iload_n 1, 1) := by decide +kernel
theorem dX10_rip_66 : decode cX10_rip 66 = .ok (.iload_n 2, 1) := by decide +kernel
theorem dX10_rip_67 : decode cX10_rip 67 = .ok (.invokevirtual 363, 3) := by decide +kernel
theorem dX10_rip_70 : decode cX10_rip 70 = .ok (.iadd, 1) := by decide +kernel
theorem dX10_rip_71 : decode cX10_rip 71 = .ok (.dup2, 1) := by decide +kernel
theorem dX10_rip_72 : decode cX10_rip 72 = .ok (.iaload, 1) := by decide +kernel
theorem dX10_rip_73 : decode cX10_rip 73 = .ok (.aload_n 0, 1) := by decide +kernel
theorem dX10_rip_74 : decode cX10_rip 74 = .ok (.getfield 346, 3) := by decide +kernel
theorem dX10_rip_77 : decode cX10_rip 77 = .ok (.getfield 275, 3) := by decide +kernel
theorem dX10_rip_80 : decode cX10_rip 80 = .ok (.iload_n 2, 1) := by decide +kernel
theorem dX10_rip_81 : decode cX10_rip 81 = .ok (.iaload, 1) := by decide +kernel
theorem dX10_rip_82 : decode cX10_rip 82 = .ok (.iadd, 1) := by decide +kernel
theorem dX10_rip_83 : decode cX10_rip 83 = .ok (.iastore, 1) := by decide +kernel
theorem dX10_rip_84 : decode cX10_rip 84 = .ok (.aload_n 0, 1) := by decide +kernel
theorem dX10_rip_85 : decode cX10_rip 85 = .ok (.invokevirtual 395, 3) := by decide +kernel
theorem dX10_rip_88 : decode cX10_rip 88 = .ok (.ireturn, 1) := by decide +kernel
theorem dX10_undo_0 : decode cX10_undo 0 = .ok (.aload_n 0, 1) := by decide +kernel
theorem dX10_undo_1 : decode cX10_undo 1 = .ok (.iconst 0, 1) := by decide +kernel
theorem dX10_undo_2 : decode cX10_undo 2 = .ok (.putfield 54, 3) := by decide +kernel
theorem dX10_undo_5 : decode cX10_undo 5 = .ok (.aload_n 0, 1) := by decide +kernel
theorem dX10_undo_6 : decode cX10_undo 6 = .ok (.getfield 346, 3) := by decide +kernel
theorem dX10_undo_9 : decode cX10_undo 9 = .ok (.ifnull 10, 3) := by decide +kernel
theorem dX10_undo_12 : decode cX10_undo 12 = .ok (.aload_n 0, 1) := by decide +kernel
theorem dX10_undo_13 : decode cX10_undo 13 = .ok (.getfield 348, 3) := by decide +kernel
theorem dX10_undo_16 : decode cX10_undo 16 = .ok (.ifCond .ne 10, 3) := by decide +kernel
theorem dX10_undo_19 : decode cX10_undo 19 = .ok (.aload_n 0, 1) := by decide +kernel
theorem dX10_undo_20 : decode cX10_undo 20 = .ok (.bipush 6, 2) := by decide +kernel
theorem dX10_undo_22 : decode cX10_undo 22 = .ok (.invokevirtual 386, 3) := by decide +kernel
theorem dX10_undo_25 : decode cX10_undo 25 = .ok (.ireturn, 1) := by decide +kernel
theorem dX10_undo_26 : decode cX10_undo 26 = .ok (.aload_n 0, 1) := by decide +kernel
theorem dX10_undo_27 : decode cX10_undo 27 = .ok (.dup, 1) := by decide +kernel
theorem dX10_undo_28 : decode cX10_undo 28 = .ok (.getfield 348, 3) := by decide +kernel
theorem dX10_undo_31 : decode cX10_undo 31 = .ok (.iconst 1, 1) := by decide +kernel
theorem dX10_undo_32 : decode cX10_undo 32 = .ok (.isub, 1) := by decide +kernel
theorem dX10_undo_33 : decode cX10_undo 33 = .ok (.putfield 348, 3) := by decide +kernel
theorem dX10_undo_36 : decode cX10_undo 36 = .ok (.iconst 0, 1) := by decide +kernel
theorem dX10_undo_37 : decode cX10_undo 37 = .ok (.istore_n 1, 1) := by decide +kernel
theorem dX10_undo_38 : decode cX10_undo 38 = .ok (.iload_n 1, 1) := by decide +kernel
theorem dX10_undo_39 : decode cX10_undo 39 = .ok (.bipush 59, 2) := by decide +kernel
theorem dX10_undo_41 : decode cX10_undo 41 = .ok (.if_icmp .ge 29, 3) := by decide +kernel
theorem dX10_undo_44 : decode cX10_undo 44 = .ok (.aload_n 0, 1) := by decide +kernel
theorem dX10_undo_45 : decode cX10_undo 45 = .ok (.getfield 17, 3) := by decide +kernel
theorem dX10_undo_48 : decode cX10_undo 48 = .ok (.iload_n 1, 1) := by decide +kernel
theorem dX10_undo_49 : decode cX10_undo 49 = .ok (.aload_n 0, 1) := by decide +kernel
theorem dX10_undo_50 : decode cX10_undo 50 = .ok (.getfield 21, 3) := by decide +kernel
theorem dX10_undo_53 : decode cX10_undo 53 = .ok (.bipush 59, 2) := by decide +kernel
theorem dX10_undo_55 : decode cX10_undo 55 = .ok (.aload_n 0, 1) := by decide +kernel
theorem dX10_undo_56 : decode cX10_undo 56 = .ok (.getfield 348, 3) := by decide +kernel
theorem dX10_undo_59 : decode cX10_undo 59 = .ok (.imul, 1) := by decide +kernel
theorem dX10_undo_60 : decode cX10_undo 60 = .ok (.iload_n 1, 1) := by decide +kernel
theorem dX10_undo_61 : decode cX10_undo 61 = .ok (.iadd, 1) := by decide +kernel
theorem dX10_undo_62 : decode cX10_undo 62 = .ok (.iaload, 1) := by decide +kernel
theorem dX10_undo_63 : decode cX10_undo 63 = .ok (.iastore, 1) := by decide +kernel
theorem dX10_undo_64 : decode cX10_undo 64 = .ok (.iinc 1 1, 3) := by decide +kernel
theorem dX10_undo_67 : decode cX10_undo 67 = .ok (.goto (-29), 3) := by decide +kernel
theorem dX10_undo_70 : decode cX10_undo 70 = .ok (.aload_n 0, 1) := by decide +kernel
theorem dX10_undo_71 : decode cX10_undo 71 = .ok (.invokevirtual 395, 3) := by decide +kernel
theorem dX10_undo_74 : decode cX10_undo 74 = .ok (.ireturn, 1) := by decide +kernel
theorem dX10_spotOf_0 : decode cX10_spotOf 0 = .ok (.iload_n 0, 1) := by decide +kernel
theorem dX10_spotOf_1 : decode cX10_spotOf 1 = .ok (.sipush 900, 3) := by decide +kernel
theorem dX10_spotOf_4 : decode cX10_spotOf 4 = .ok (.imul, 1) := by decide +kernel
theorem dX10_spotOf_5 : decode cX10_spotOf 5 = .ok (.iload_n 1, 1) := by decide +kernel
theorem dX10_spotOf_6 : decode cX10_spotOf 6 = .ok (.bipush 100, 2) := by decide +kernel
theorem dX10_spotOf_8 : decode cX10_spotOf 8 = .ok (.imul, 1) := by decide +kernel
theorem dX10_spotOf_9 : decode cX10_spotOf 9 = .ok (.iadd, 1) := by decide +kernel
theorem dX10_spotOf_10 : decode cX10_spotOf 10 = .ok (.iload_n 2, 1) := by decide +kernel
theorem dX10_spotOf_11 : decode cX10_spotOf 11 = .ok (.bipush 10, 2) := by decide +kernel
theorem dX10_spotOf_13 : decode cX10_spotOf 13 = .ok (.imul, 1) := by decide +kernel
theorem dX10_spotOf_14 : decode cX10_spotOf 14 = .ok (.iadd, 1) := by decide +kernel
theorem dX10_spotOf_15 : decode cX10_spotOf 15 = .ok (.iload_n 3, 1) := by decide +kernel
theorem dX10_spotOf_16 : decode cX10_spotOf 16 = .ok (.iadd, 1) := by decide +kernel
theorem dX10_spotOf_17 : decode cX10_spotOf 17 = .ok (.ireturn, 1) := by decide +kernel
theorem dX10_endsOf_0 : decode cX10_endsOf 0 = .ok (.aload_n 0, 1) := by decide +kernel
theorem dX10_endsOf_1 : decode cX10_endsOf 1 = .ok (.getfield 28, 3) := by decide +kernel
theorem dX10_endsOf_4 : decode cX10_endsOf 4 = .ok (.sipush 22500, 3) := by decide +kernel
theorem dX10_endsOf_7 : decode cX10_endsOf 7 = .ok (.iload_n 1, 1) := by decide +kernel
theorem dX10_endsOf_8 : decode cX10_endsOf 8 = .ok (.imul, 1) := by decide +kernel
theorem dX10_endsOf_9 : decode cX10_endsOf 9 = .ok (.iload_n 2, 1) := by decide +kernel
theorem dX10_endsOf_10 : decode cX10_endsOf 10 = .ok (.iload_n 3, 1) := by decide +kernel
theorem dX10_endsOf_11 : decode cX10_endsOf 11 = .ok (.iload 4, 2) := by decide +kernel
theorem dX10_endsOf_13 : decode cX10_endsOf 13 = .ok (.iload 5, 2) := by decide +kernel
theorem dX10_endsOf_15 : decode cX10_endsOf 15 = .ok (.invokestatic 398, 3) := by decide +kernel
theorem dX10_endsOf_18 : decode cX10_endsOf 18 = .ok (.iadd, 1) := by decide +kernel
theorem dX10_endsOf_19 : decode cX10_endsOf 19 = .ok (.iaload, 1) := by decide +kernel
theorem dX10_endsOf_20 : decode cX10_endsOf 20 = .ok (.ireturn, 1) := by decide +kernel
theorem dX10_firstOf_0 : decode cX10_firstOf 0 = .ok (.aload_n 0, 1) := by decide +kernel
theorem dX10_firstOf_1 : decode cX10_firstOf 1 = .ok (.getfield 346, 3) := by decide +kernel
theorem dX10_firstOf_4 : decode cX10_firstOf 4 = .ok (.getfield 273, 3) := by decide +kernel
theorem dX10_firstOf_7 : decode cX10_firstOf 7 = .ok (.iload_n 1, 1) := by decide +kernel
theorem dX10_firstOf_8 : decode cX10_firstOf 8 = .ok (.iaload, 1) := by decide +kernel
theorem dX10_firstOf_9 : decode cX10_firstOf 9 = .ok (.ifCond .ne 15, 3) := by decide +kernel
theorem dX10_firstOf_12 : decode cX10_firstOf 12 = .ok (.aload_n 0, 1) := by decide +kernel
theorem dX10_firstOf_13 : decode cX10_firstOf 13 = .ok (.getfield 346, 3) := by decide +kernel
theorem dX10_firstOf_16 : decode cX10_firstOf 16 = .ok (.getfield 275, 3) := by decide +kernel
theorem dX10_firstOf_19 : decode cX10_firstOf 19 = .ok (.iload_n 1, 1) := by decide +kernel
theorem dX10_firstOf_20 : decode cX10_firstOf 20 = .ok (.iaload, 1) := by decide +kernel
theorem dX10_firstOf_21 : decode cX10_firstOf 21 = .ok (.goto 4, 3) := by decide +kernel
theorem dX10_firstOf_24 : decode cX10_firstOf 24 = .ok (.iconst 0, 1) := by decide +kernel
theorem dX10_firstOf_25 : decode cX10_firstOf 25 = .ok (.ireturn, 1) := by decide +kernel
theorem dX10_secondOf_0 : decode cX10_secondOf 0 = .ok (.aload_n 0, 1) := by decide +kernel
theorem dX10_secondOf_1 : decode cX10_secondOf 1 = .ok (.getfield 346, 3) := by decide +kernel
theorem dX10_secondOf_4 : decode cX10_secondOf 4 = .ok (.getfield 273, 3) := by decide +kernel
theorem dX10_secondOf_7 : decode cX10_secondOf 7 = .ok (.iload_n 1, 1) := by decide +kernel
theorem dX10_secondOf_8 : decode cX10_secondOf 8 = .ok (.iaload, 1) := by decide +kernel
theorem dX10_secondOf_9 : decode cX10_secondOf 9 = .ok (.iconst 1, 1) := by decide +kernel
theorem dX10_secondOf_10 : decode cX10_secondOf 10 = .ok (.if_icmp .ne 15, 3) := by decide +kernel
theorem dX10_secondOf_13 : decode cX10_secondOf 13 = .ok (.aload_n 0, 1) := by decide +kernel
theorem dX10_secondOf_14 : decode cX10_secondOf 14 = .ok (.getfield 346, 3) := by decide +kernel
theorem dX10_secondOf_17 : decode cX10_secondOf 17 = .ok (.getfield 275, 3) := by decide +kernel
theorem dX10_secondOf_20 : decode cX10_secondOf 20 = .ok (.iload_n 1, 1) := by decide +kernel
theorem dX10_secondOf_21 : decode cX10_secondOf 21 = .ok (.iaload, 1) := by decide +kernel
theorem dX10_secondOf_22 : decode cX10_secondOf 22 = .ok (.goto 4, 3) := by decide +kernel
theorem dX10_secondOf_25 : decode cX10_secondOf 25 = .ok (.iconst 0, 1) := by decide +kernel
theorem dX10_secondOf_26 : decode cX10_secondOf 26 = .ok (.ireturn, 1) := by decide +kernel
theorem dX10_store_0 : decode cX10_store 0 = .ok (.aload_n 0, 1) := by decide +kernel
theorem dX10_store_1 : decode cX10_store 1 = .ok (.getfield 17, 3) := by decide +kernel
theorem dX10_store_4 : decode cX10_store 4 = .ok (.bipush 50, 2) := by decide +kernel
theorem dX10_store_6 : decode cX10_store 6 = .ok (.iconst 2, 1) := by decide +kernel
theorem dX10_store_7 : decode cX10_store 7 = .ok (.iload_n 1, 1) := by decide +kernel
theorem dX10_store_8 : decode cX10_store 8 = .ok (.imul, 1) := by decide +kernel
theorem dX10_store_9 : decode cX10_store 9 = .ok (.iadd, 1) := by decide +kernel
theorem dX10_store_10 : decode cX10_store 10 = .ok (.iload_n 2, 1) := by decide +kernel
theorem dX10_store_11 : decode cX10_store 11 = .ok (.iadd, 1) := by decide +kernel
theorem dX10_store_12 : decode cX10_store 12 = .ok (.iaload, 1) := by decide +kernel
theorem dX10_store_13 : decode cX10_store 13 = .ok (.ireturn, 1) := by decide +kernel
theorem dX10_laysEnds_0 : decode cX10_laysEnds 0 = .ok (.iconst 0, 1) := by decide +kernel
theorem dX10_laysEnds_1 : decode cX10_laysEnds 1 = .ok (.istore_n 1, 1) := by decide +kernel
theorem dX10_laysEnds_2 : decode cX10_laysEnds 2 = .ok (.iload_n 1, 1) := by decide +kernel
theorem dX10_laysEnds_3 : decode cX10_laysEnds 3 = .ok (.iconst 2, 1) := by decide +kernel
theorem dX10_laysEnds_4 : decode cX10_laysEnds 4 = .ok (.if_icmp .ge 128, 3) := by decide +kernel
theorem dX10_laysEnds_7 : decode cX10_laysEnds 7 = .ok (.iconst 0, 1) := by decide +kernel
theorem dX10_laysEnds_8 : decode cX10_laysEnds 8 = .ok (.istore_n 2, 1) := by decide +kernel
theorem dX10_laysEnds_9 : decode cX10_laysEnds 9 = .ok (.iload_n 2, 1) := by decide +kernel
theorem dX10_laysEnds_10 : decode cX10_laysEnds 10 = .ok (.bipush 24, 2) := by decide +kernel
theorem dX10_laysEnds_12 : decode cX10_laysEnds 12 = .ok (.if_icmp .gt 114, 3) := by decide +kernel
theorem dX10_laysEnds_15 : decode cX10_laysEnds 15 = .ok (.iconst 0, 1) := by decide +kernel
theorem dX10_laysEnds_16 : decode cX10_laysEnds 16 = .ok (.istore_n 3, 1) := by decide +kernel
theorem dX10_laysEnds_17 : decode cX10_laysEnds 17 = .ok (.iload_n 3, 1) := by decide +kernel
theorem dX10_laysEnds_18 : decode cX10_laysEnds 18 = .ok (.bipush 9, 2) := by decide +kernel
theorem dX10_laysEnds_20 : decode cX10_laysEnds 20 = .ok (.if_icmp .ge 100, 3) := by decide +kernel
theorem dX10_laysEnds_23 : decode cX10_laysEnds 23 = .ok (.iconst 0, 1) := by decide +kernel
theorem dX10_laysEnds_24 : decode cX10_laysEnds 24 = .ok (.istore 4, 2) := by decide +kernel
theorem dX10_laysEnds_26 : decode cX10_laysEnds 26 = .ok (.iload 4, 2) := by decide +kernel
theorem dX10_laysEnds_28 : decode cX10_laysEnds 28 = .ok (.aload_n 0, 1) := by decide +kernel
theorem dX10_laysEnds_29 : decode cX10_laysEnds 29 = .ok (.iload_n 1, 1) := by decide +kernel
theorem dX10_laysEnds_30 : decode cX10_laysEnds 30 = .ok (.iconst 0, 1) := by decide +kernel
theorem dX10_laysEnds_31 : decode cX10_laysEnds 31 = .ok (.invokevirtual 402, 3) := by decide +kernel
theorem dX10_laysEnds_34 : decode cX10_laysEnds 34 = .ok (.if_icmp .gt 80, 3) := by decide +kernel
theorem dX10_laysEnds_37 : decode cX10_laysEnds 37 = .ok (.iconst 0, 1) := by decide +kernel
theorem dX10_laysEnds_38 : decode cX10_laysEnds 38 = .ok (.istore 5, 2) := by decide +kernel
theorem dX10_laysEnds_40 : decode cX10_laysEnds 40 = .ok (.iload 5, 2) := by decide +kernel
theorem dX10_laysEnds_42 : decode cX10_laysEnds 42 = .ok (.aload_n 0, 1) := by decide +kernel
theorem dX10_laysEnds_43 : decode cX10_laysEnds 43 = .ok (.iload_n 1, 1) := by decide +kernel
theorem dX10_laysEnds_44 : decode cX10_laysEnds 44 = .ok (.iconst 1, 1) := by decide +kernel
theorem dX10_laysEnds_45 : decode cX10_laysEnds 45 = .ok (.invokevirtual 402, 3) := by decide +kernel
theorem dX10_laysEnds_48 : decode cX10_laysEnds 48 = .ok (.if_icmp .gt 60, 3) := by decide +kernel
theorem dX10_laysEnds_51 : decode cX10_laysEnds 51 = .ok (.aload_n 0, 1) := by decide +kernel
theorem dX10_laysEnds_52 : decode cX10_laysEnds 52 = .ok (.getfield 28, 3) := by decide +kernel
theorem dX10_laysEnds_55 : decode cX10_laysEnds 55 = .ok (.sipush 22500, 3) := by decide +kernel
theorem dX10_laysEnds_58 : decode cX10_laysEnds 58 = .ok (.iload_n 1, 1) := by decide +kernel
theorem dX10_laysEnds_59 : decode cX10_laysEnds 59 = .ok (.imul, 1) := by decide +kernel
theorem dX10_laysEnds_60 : decode cX10_laysEnds 60 = .ok (.iload_n 2, 1) := by decide +kernel
theorem dX10_laysEnds_61 : decode cX10_laysEnds 61 = .ok (.iload_n 3, 1) := by decide +kernel
theorem dX10_laysEnds_62 : decode cX10_laysEnds 62 = .ok (.iload 4, 2) := by decide +kernel
theorem dX10_laysEnds_64 : decode cX10_laysEnds 64 = .ok (.iload 5, 2) := by decide +kernel
theorem dX10_laysEnds_66 : decode cX10_laysEnds 66 = .ok (.invokestatic 398, 3) := by decide +kernel
theorem dX10_laysEnds_69 : decode cX10_laysEnds 69 = .ok (.iadd, 1) := by decide +kernel
theorem dX10_laysEnds_70 : decode cX10_laysEnds 70 = .ok (.iload_n 2, 1) := by decide +kernel
theorem dX10_laysEnds_71 : decode cX10_laysEnds 71 = .ok (.ifCond .ne 19, 3) := by decide +kernel
theorem dX10_laysEnds_74 : decode cX10_laysEnds 74 = .ok (.iload_n 3, 1) := by decide +kernel
theorem dX10_laysEnds_75 : decode cX10_laysEnds 75 = .ok (.bipush 8, 2) := by decide +kernel
theorem dX10_laysEnds_77 : decode cX10_laysEnds 77 = .ok (.if_icmp .ne 7, 3) := by decide +kernel
theorem dX10_laysEnds_80 : decode cX10_laysEnds 80 = .ok (.iconst 0, 1) := by decide +kernel
theorem dX10_laysEnds_81 : decode cX10_laysEnds 81 = .ok (.goto 20, 3) := by decide +kernel
theorem dX10_laysEnds_84 : decode cX10_laysEnds 84 = .ok (.iconst 1, 1) := by decide +kernel
theorem dX10_laysEnds_85 : decode cX10_laysEnds 85 = .ok (.iload_n 3, 1) := by decide +kernel
theorem dX10_laysEnds_86 : decode cX10_laysEnds 86 = .ok (.ishl, 1) := by decide +kernel
theorem dX10_laysEnds_87 : decode cX10_laysEnds 87 = .ok (.goto 14, 3) := by decide +kernel
theorem dX10_laysEnds_90 : decode cX10_laysEnds 90 = .ok (.aload_n 0, 1) := by decide +kernel
theorem dX10_laysEnds_91 : decode cX10_laysEnds 91 = .ok (.iload_n 1, 1) := by decide +kernel
theorem dX10_laysEnds_92 : decode cX10_laysEnds 92 = .ok (.iload_n 2, 1) := by decide +kernel
theorem dX10_laysEnds_93 : decode cX10_laysEnds 93 = .ok (.iload_n 3, 1) := by decide +kernel
theorem dX10_laysEnds_94 : decode cX10_laysEnds 94 = .ok (.iload 4, 2) := by decide +kernel
theorem dX10_laysEnds_96 : decode cX10_laysEnds 96 = .ok (.iload 5, 2) := by decide +kernel
theorem dX10_laysEnds_98 : decode cX10_laysEnds 98 = .ok (.invokevirtual 404, 3) := by decide +kernel
theorem dX10_laysEnds_101 : decode cX10_laysEnds 101 = .ok (.iastore, 1) := by decide +kernel
theorem dX10_laysEnds_102 : decode cX10_laysEnds 102 = .ok (.iinc 5 1, 3) := by decide +kernel
theorem dX10_laysEnds_105 : decode cX10_laysEnds 105 = .ok (.goto (-65), 3) := by decide +kernel
theorem dX10_laysEnds_108 : decode cX10_laysEnds 108 = .ok (.iinc 4 1, 3) := by decide +kernel
theorem dX10_laysEnds_111 : decode cX10_laysEnds 111 = .ok (.goto (-85), 3) := by decide +kernel
theorem dX10_laysEnds_114 : decode cX10_laysEnds 114 = .ok (.iinc 3 1, 3) := by decide +kernel
theorem dX10_laysEnds_117 : decode cX10_laysEnds 117 = .ok (.goto (-100), 3) := by decide +kernel
theorem dX10_laysEnds_120 : decode cX10_laysEnds 120 = .ok (.iinc 2 1, 3) := by decide +kernel
theorem dX10_laysEnds_123 : decode cX10_laysEnds 123 = .ok (.goto (-114), 3) := by decide +kernel
theorem dX10_laysEnds_126 : decode cX10_laysEnds 126 = .ok (.iinc 1 1, 3) := by decide +kernel
theorem dX10_laysEnds_129 : decode cX10_laysEnds 129 = .ok (.goto (-127), 3) := by decide +kernel
theorem dX10_laysEnds_132 : decode cX10_laysEnds 132 = .ok (.return_, 1) := by decide +kernel
theorem dX10_endsBy_0 : decode cX10_endsBy 0 = .ok (.iconst 0, 1) := by decide +kernel
theorem dX10_endsBy_1 : decode cX10_endsBy 1 = .ok (.istore 6, 2) := by decide +kernel
theorem dX10_endsBy_3 : decode cX10_endsBy 3 = .ok (.iconst 0, 1) := by decide +kernel
theorem dX10_endsBy_4 : decode cX10_endsBy 4 = .ok (.istore 7, 2) := by decide +kernel
theorem dX10_endsBy_6 : decode cX10_endsBy 6 = .ok (.iload 7, 2) := by decide +kernel
theorem dX10_endsBy_8 : decode cX10_endsBy 8 = .ok (.aload_n 0, 1) := by decide +kernel
theorem dX10_endsBy_9 : decode cX10_endsBy 9 = .ok (.getfield 346, 3) := by decide +kernel
theorem dX10_endsBy_12 : decode cX10_endsBy 12 = .ok (.getfield 203, 3) := by decide +kernel
theorem dX10_endsBy_15 : decode cX10_endsBy 15 = .ok (.if_icmp .ge 106, 3) := by decide +kernel
theorem dX10_endsBy_18 : decode cX10_endsBy 18 = .ok (.iload_n 3, 1) := by decide +kernel
theorem dX10_endsBy_19 : decode cX10_endsBy 19 = .ok (.bipush 8, 2) := by decide +kernel
theorem dX10_endsBy_21 : decode cX10_endsBy 21 = .ok (.if_icmp .ge 14, 3) := by decide +kernel
theorem dX10_endsBy_24 : decode cX10_endsBy 24 = .ok (.iload_n 3, 1) := by decide +kernel
theorem dX10_endsBy_25 : decode cX10_endsBy 25 = .ok (.aload_n 0, 1) := by decide +kernel
theorem dX10_endsBy_26 : decode cX10_endsBy 26 = .ok (.getfield 346, 3) := by decide +kernel
theorem dX10_endsBy_29 : decode cX10_endsBy 29 = .ok (.getfield 203, 3) := by decide +kernel
theorem dX10_endsBy_32 : decode cX10_endsBy 32 = .ok (.if_icmp .ge 83, 3) := by decide +kernel
theorem dX10_endsBy_35 : decode cX10_endsBy 35 = .ok (.aload_n 0, 1) := by decide +kernel
theorem dX10_endsBy_36 : decode cX10_endsBy 36 = .ok (.getfield 346, 3) := by decide +kernel
theorem dX10_endsBy_39 : decode cX10_endsBy 39 = .ok (.iload_n 1, 1) := by decide +kernel
theorem dX10_endsBy_40 : decode cX10_endsBy 40 = .ok (.iload_n 3, 1) := by decide +kernel
theorem dX10_endsBy_41 : decode cX10_endsBy 41 = .ok (.iload 7, 2) := by decide +kernel
theorem dX10_endsBy_43 : decode cX10_endsBy 43 = .ok (.invokevirtual 299, 3) := by decide +kernel
theorem dX10_endsBy_46 : decode cX10_endsBy 46 = .ok (.ifCond .ne 6, 3) := by decide +kernel
theorem dX10_endsBy_49 : decode cX10_endsBy 49 = .ok (.goto 66, 3) := by decide +kernel
theorem dX10_endsBy_52 : decode cX10_endsBy 52 = .ok (.iload 4, 2) := by decide +kernel
theorem dX10_endsBy_54 : decode cX10_endsBy 54 = .ok (.aload_n 0, 1) := by decide +kernel
theorem dX10_endsBy_55 : decode cX10_endsBy 55 = .ok (.iload 7, 2) := by decide +kernel
theorem dX10_endsBy_57 : decode cX10_endsBy 57 = .ok (.invokevirtual 408, 3) := by decide +kernel
theorem dX10_endsBy_60 : decode cX10_endsBy 60 = .ok (.iadd, 1) := by decide +kernel
theorem dX10_endsBy_61 : decode cX10_endsBy 61 = .ok (.istore 8, 2) := by decide +kernel
theorem dX10_endsBy_63 : decode cX10_endsBy 63 = .ok (.iload 5, 2) := by decide +kernel
theorem dX10_endsBy_65 : decode cX10_endsBy 65 = .ok (.aload_n 0, 1) := by decide +kernel
theorem dX10_endsBy_66 : decode cX10_endsBy 66 = .ok (.iload 7, 2) := by decide +kernel
theorem dX10_endsBy_68 : decode cX10_endsBy 68 = .ok (.invokevirtual 411, 3) := by decide +kernel
theorem dX10_endsBy_71 : decode cX10_endsBy 71 = .ok (.iadd, 1) := by decide +kernel
theorem dX10_endsBy_72 : decode cX10_endsBy 72 = .ok (.istore 9, 2) := by decide +kernel
theorem dX10_endsBy_74 : decode cX10_endsBy 74 = .ok (.iload 8, 2) := by decide +kernel
theorem dX10_endsBy_76 : decode cX10_endsBy 76 = .ok (.aload_n 0, 1) := by decide +kernel
theorem dX10_endsBy_77 : decode cX10_endsBy 77 = .ok (.iload_n 1, 1) := by decide +kernel
theorem dX10_endsBy_78 : decode cX10_endsBy 78 = .ok (.iconst 0, 1) := by decide +kernel
theorem dX10_endsBy_79 : decode cX10_endsBy 79 = .ok (.invokevirtual 402, 3) := by decide +kernel
theorem dX10_endsBy_82 : decode cX10_endsBy 82 = .ok (.if_icmp .gt 33, 3) := by decide +kernel
theorem dX10_endsBy_85 : decode cX10_endsBy 85 = .ok (.iload 9, 2) := by decide +kernel
theorem dX10_endsBy_87 : decode cX10_endsBy 87 = .ok (.aload_n 0, 1) := by decide +kernel
theorem dX10_endsBy_88 : decode cX10_endsBy 88 = .ok (.iload_n 1, 1) := by decide +kernel
theorem dX10_endsBy_89 : decode cX10_endsBy 89 = .ok (.iconst 1, 1) := by decide +kernel
theorem dX10_endsBy_90 : decode cX10_endsBy 90 = .ok (.invokevirtual 402, 3) := by decide +kernel
theorem dX10_endsBy_93 : decode cX10_endsBy 93 = .ok (.if_icmp .gt 22, 3) := by decide +kernel
theorem dX10_endsBy_96 : decode cX10_endsBy 96 = .ok (.iload 6, 2) := by decide +kernel
theorem dX10_endsBy_98 : decode cX10_endsBy 98 = .ok (.aload_n 0, 1) := by decide +kernel
theorem dX10_endsBy_99 : decode cX10_endsBy 99 = .ok (.iload_n 1, 1) := by decide +kernel
theorem dX10_endsBy_100 : decode cX10_endsBy 100 = .ok (.iload_n 2, 1) := by decide +kernel
theorem dX10_endsBy_101 : decode cX10_endsBy 101 = .ok (.iconst 1, 1) := by decide +kernel
theorem dX10_endsBy_102 : decode cX10_endsBy 102 = .ok (.isub, 1) := by decide +kernel
theorem dX10_endsBy_103 : decode cX10_endsBy 103 = .ok (.iload 7, 2) := by decide +kernel
theorem dX10_endsBy_105 : decode cX10_endsBy 105 = .ok (.iload 8, 2) := by decide +kernel
theorem dX10_endsBy_107 : decode cX10_endsBy 107 = .ok (.iload 9, 2) := by decide +kernel
theorem dX10_endsBy_109 : decode cX10_endsBy 109 = .ok (.invokevirtual 414, 3) := by decide +kernel
theorem dX10_endsBy_112 : decode cX10_endsBy 112 = .ok (.ior, 1) := by decide +kernel
theorem dX10_endsBy_113 : decode cX10_endsBy 113 = .ok (.istore 6, 2) := by decide +kernel
theorem dX10_endsBy_115 : decode cX10_endsBy 115 = .ok (.iinc 7 1, 3) := by decide +kernel
theorem dX10_endsBy_118 : decode cX10_endsBy 118 = .ok (.goto (-112), 3) := by decide +kernel
theorem dX10_endsBy_121 : decode cX10_endsBy 121 = .ok (.iload 6, 2) := by decide +kernel
theorem dX10_endsBy_123 : decode cX10_endsBy 123 = .ok (.ireturn, 1) := by decide +kernel
theorem dX10_rightOf_0 : decode cX10_rightOf 0 = .ok (.iconst 0, 1) := by decide +kernel
theorem dX10_rightOf_1 : decode cX10_rightOf 1 = .ok (.istore_n 2, 1) := by decide +kernel
theorem dX10_rightOf_2 : decode cX10_rightOf 2 = .ok (.iconst 0, 1) := by decide +kernel
theorem dX10_rightOf_3 : decode cX10_rightOf 3 = .ok (.istore_n 3, 1) := by decide +kernel
theorem dX10_rightOf_4 : decode cX10_rightOf 4 = .ok (.iload_n 3, 1) := by decide +kernel
theorem dX10_rightOf_5 : decode cX10_rightOf 5 = .ok (.aload_n 0, 1) := by decide +kernel
theorem dX10_rightOf_6 : decode cX10_rightOf 6 = .ok (.getfield 346, 3) := by decide +kernel
theorem dX10_rightOf_9 : decode cX10_rightOf 9 = .ok (.getfield 203, 3) := by decide +kernel
theorem dX10_rightOf_12 : decode cX10_rightOf 12 = .ok (.if_icmp .ge 33, 3) := by decide +kernel
theorem dX10_rightOf_15 : decode cX10_rightOf 15 = .ok (.iload_n 2, 1) := by decide +kernel
theorem dX10_rightOf_16 : decode cX10_rightOf 16 = .ok (.iload_n 1, 1) := by decide +kernel
theorem dX10_rightOf_17 : decode cX10_rightOf 17 = .ok (.iload_n 3, 1) := by decide +kernel
theorem dX10_rightOf_18 : decode cX10_rightOf 18 = .ok (.invokestatic 287, 3) := by decide +kernel
theorem dX10_rightOf_21 : decode cX10_rightOf 21 = .ok (.ifCond .eq 15, 3) := by decide +kernel
theorem dX10_rightOf_24 : decode cX10_rightOf 24 = .ok (.aload_n 0, 1) := by decide +kernel
theorem dX10_rightOf_25 : decode cX10_rightOf 25 = .ok (.getfield 346, 3) := by decide +kernel
theorem dX10_rightOf_28 : decode cX10_rightOf 28 = .ok (.getfield 291, 3) := by decide +kernel
theorem dX10_rightOf_31 : decode cX10_rightOf 31 = .ok (.iload_n 3, 1) := by decide +kernel
theorem dX10_rightOf_32 : decode cX10_rightOf 32 = .ok (.iaload, 1) := by decide +kernel
theorem dX10_rightOf_33 : decode cX10_rightOf 33 = .ok (.goto 4, 3) := by decide +kernel
theorem dX10_rightOf_36 : decode cX10_rightOf 36 = .ok (.iconst 0, 1) := by decide +kernel
theorem dX10_rightOf_37 : decode cX10_rightOf 37 = .ok (.ior, 1) := by decide +kernel
theorem dX10_rightOf_38 : decode cX10_rightOf 38 = .ok (.istore_n 2, 1) := by decide +kernel
theorem dX10_rightOf_39 : decode cX10_rightOf 39 = .ok (.iinc 3 1, 3) := by decide +kernel
theorem dX10_rightOf_42 : decode cX10_rightOf 42 = .ok (.goto (-38), 3) := by decide +kernel
theorem dX10_rightOf_45 : decode cX10_rightOf 45 = .ok (.iload_n 2, 1) := by decide +kernel
theorem dX10_rightOf_46 : decode cX10_rightOf 46 = .ok (.ireturn, 1) := by decide +kernel
theorem dX10_meetsBy_0 : decode cX10_meetsBy 0 = .ok (.aload_n 0, 1) := by decide +kernel
theorem dX10_meetsBy_1 : decode cX10_meetsBy 1 = .ok (.iconst 0, 1) := by decide +kernel
theorem dX10_meetsBy_2 : decode cX10_meetsBy 2 = .ok (.invokevirtual 354, 3) := by decide +kernel
theorem dX10_meetsBy_5 : decode cX10_meetsBy 5 = .ok (.iload_n 1, 1) := by decide +kernel
theorem dX10_meetsBy_6 : decode cX10_meetsBy 6 = .ok (.isub, 1) := by decide +kernel
theorem dX10_meetsBy_7 : decode cX10_meetsBy 7 = .ok (.iload_n 3, 1) := by decide +kernel
theorem dX10_meetsBy_8 : decode cX10_meetsBy 8 = .ok (.iadd, 1) := by decide +kernel
theorem dX10_meetsBy_9 : decode cX10_meetsBy 9 = .ok (.istore 5, 2) := by decide +kernel
theorem dX10_meetsBy_11 : decode cX10_meetsBy 11 = .ok (.aload_n 0, 1) := by decide +kernel
theorem dX10_meetsBy_12 : decode cX10_meetsBy 12 = .ok (.iconst 1, 1) := by decide +kernel
theorem dX10_meetsBy_13 : decode cX10_meetsBy 13 = .ok (.invokevirtual 354, 3) := by decide +kernel
theorem dX10_meetsBy_16 : decode cX10_meetsBy 16 = .ok (.iload_n 2, 1) := by decide +kernel
theorem dX10_meetsBy_17 : decode cX10_meetsBy 17 = .ok (.isub, 1) := by decide +kernel
theorem dX10_meetsBy_18 : decode cX10_meetsBy 18 = .ok (.iload 4, 2) := by decide +kernel
theorem dX10_meetsBy_20 : decode cX10_meetsBy 20 = .ok (.iadd, 1) := by decide +kernel
theorem dX10_meetsBy_21 : decode cX10_meetsBy 21 = .ok (.istore 6, 2) := by decide +kernel
theorem dX10_meetsBy_23 : decode cX10_meetsBy 23 = .ok (.iload 5, 2) := by decide +kernel
theorem dX10_meetsBy_25 : decode cX10_meetsBy 25 = .ok (.bipush 24, 2) := by decide +kernel
theorem dX10_meetsBy_27 : decode cX10_meetsBy 27 = .ok (.if_icmp .gt 25, 3) := by decide +kernel
theorem dX10_meetsBy_30 : decode cX10_meetsBy 30 = .ok (.iload 6, 2) := by decide +kernel
theorem dX10_meetsBy_32 : decode cX10_meetsBy 32 = .ok (.bipush 24, 2) := by decide +kernel
theorem dX10_meetsBy_34 : decode cX10_meetsBy 34 = .ok (.if_icmp .gt 18, 3) := by decide +kernel
theorem dX10_meetsBy_37 : decode cX10_meetsBy 37 = .ok (.aload_n 0, 1) := by decide +kernel
theorem dX10_meetsBy_38 : decode cX10_meetsBy 38 = .ok (.aload_n 0, 1) := by decide +kernel
theorem dX10_meetsBy_39 : decode cX10_meetsBy 39 = .ok (.iload 5, 2) := by decide +kernel
theorem dX10_meetsBy_41 : decode cX10_meetsBy 41 = .ok (.iload 6, 2) := by decide +kernel
theorem dX10_meetsBy_43 : decode cX10_meetsBy 43 = .ok (.invokevirtual 380, 3) := by decide +kernel
theorem dX10_meetsBy_46 : decode cX10_meetsBy 46 = .ok (.invokevirtual 417, 3) := by decide +kernel
theorem dX10_meetsBy_49 : decode cX10_meetsBy 49 = .ok (.ifCond .ne 5, 3) := by decide +kernel
theorem dX10_meetsBy_52 : decode cX10_meetsBy 52 = .ok (.iconst 0, 1) := by decide +kernel
theorem dX10_meetsBy_53 : decode cX10_meetsBy 53 = .ok (.ireturn, 1) := by decide +kernel
theorem dX10_meetsBy_54 : decode cX10_meetsBy 54 = .ok (.aload_n 0, 1) := by decide +kernel
theorem dX10_meetsBy_55 : decode cX10_meetsBy 55 = .ok (.aload_n 0, 1) := by decide +kernel
theorem dX10_meetsBy_56 : decode cX10_meetsBy 56 = .ok (.iconst 0, 1) := by decide +kernel
theorem dX10_meetsBy_57 : decode cX10_meetsBy 57 = .ok (.iload_n 3, 1) := by decide +kernel
theorem dX10_meetsBy_58 : decode cX10_meetsBy 58 = .ok (.aload_n 0, 1) := by decide +kernel
theorem dX10_meetsBy_59 : decode cX10_meetsBy 59 = .ok (.iconst 0, 1) := by decide +kernel
theorem dX10_meetsBy_60 : decode cX10_meetsBy 60 = .ok (.iload_n 1, 1) := by decide +kernel
theorem dX10_meetsBy_61 : decode cX10_meetsBy 61 = .ok (.invokevirtual 360, 3) := by decide +kernel
theorem dX10_meetsBy_64 : decode cX10_meetsBy 64 = .ok (.iconst 0, 1) := by decide +kernel
theorem dX10_meetsBy_65 : decode cX10_meetsBy 65 = .ok (.iconst 0, 1) := by decide +kernel
theorem dX10_meetsBy_66 : decode cX10_meetsBy 66 = .ok (.invokevirtual 414, 3) := by decide +kernel
theorem dX10_meetsBy_69 : decode cX10_meetsBy 69 = .ok (.invokevirtual 420, 3) := by decide +kernel
theorem dX10_meetsBy_72 : decode cX10_meetsBy 72 = .ok (.aload_n 0, 1) := by decide +kernel
theorem dX10_meetsBy_73 : decode cX10_meetsBy 73 = .ok (.iconst 1, 1) := by decide +kernel
theorem dX10_meetsBy_74 : decode cX10_meetsBy 74 = .ok (.iload 4, 2) := by decide +kernel
theorem dX10_meetsBy_76 : decode cX10_meetsBy 76 = .ok (.aload_n 0, 1) := by decide +kernel
theorem dX10_meetsBy_77 : decode cX10_meetsBy 77 = .ok (.iconst 1, 1) := by decide +kernel
theorem dX10_meetsBy_78 : decode cX10_meetsBy 78 = .ok (.iload_n 2, 1) := by decide +kernel
theorem dX10_meetsBy_79 : decode cX10_meetsBy 79 = .ok (.invokevirtual 360, 3) := by decide +kernel
theorem dX10_meetsBy_82 : decode cX10_meetsBy 82 = .ok (.iconst 0, 1) := by decide +kernel
theorem dX10_meetsBy_83 : decode cX10_meetsBy 83 = .ok (.iconst 0, 1) := by decide +kernel
theorem dX10_meetsBy_84 : decode cX10_meetsBy 84 = .ok (.invokevirtual 414, 3) := by decide +kernel
theorem dX10_meetsBy_87 : decode cX10_meetsBy 87 = .ok (.iand, 1) := by decide +kernel
theorem dX10_meetsBy_88 : decode cX10_meetsBy 88 = .ok (.ifCond .eq 7, 3) := by decide +kernel
theorem dX10_meetsBy_91 : decode cX10_meetsBy 91 = .ok (.iconst 1, 1) := by decide +kernel
theorem dX10_meetsBy_92 : decode cX10_meetsBy 92 = .ok (.goto 4, 3) := by decide +kernel
theorem dX10_meetsBy_95 : decode cX10_meetsBy 95 = .ok (.iconst 0, 1) := by decide +kernel
theorem dX10_meetsBy_96 : decode cX10_meetsBy 96 = .ok (.ireturn, 1) := by decide +kernel
theorem dX10_finds_0 : decode cX10_finds 0 = .ok (.iconst 0, 1) := by decide +kernel
theorem dX10_finds_1 : decode cX10_finds 1 = .ok (.istore_n 3, 1) := by decide +kernel
theorem dX10_finds_2 : decode cX10_finds 2 = .ok (.iload_n 3, 1) := by decide +kernel
theorem dX10_finds_3 : decode cX10_finds 3 = .ok (.bipush 48, 2) := by decide +kernel
theorem dX10_finds_5 : decode cX10_finds 5 = .ok (.if_icmp .gt 84, 3) := by decide +kernel
theorem dX10_finds_8 : decode cX10_finds 8 = .ok (.iconst 0, 1) := by decide +kernel
theorem dX10_finds_9 : decode cX10_finds 9 = .ok (.istore 4, 2) := by decide +kernel
theorem dX10_finds_11 : decode cX10_finds 11 = .ok (.iload 4, 2) := by decide +kernel
theorem dX10_finds_13 : decode cX10_finds 13 = .ok (.iload_n 3, 1) := by decide +kernel
theorem dX10_finds_14 : decode cX10_finds 14 = .ok (.if_icmp .gt 69, 3) := by decide +kernel
theorem dX10_finds_17 : decode cX10_finds 17 = .ok (.iload 4, 2) := by decide +kernel
theorem dX10_finds_19 : decode cX10_finds 19 = .ok (.bipush 24, 2) := by decide +kernel
theorem dX10_finds_21 : decode cX10_finds 21 = .ok (.if_icmp .gt 62, 3) := by decide +kernel
theorem dX10_finds_24 : decode cX10_finds 24 = .ok (.iload_n 3, 1) := by decide +kernel
theorem dX10_finds_25 : decode cX10_finds 25 = .ok (.iload 4, 2) := by decide +kernel
theorem dX10_finds_27 : decode cX10_finds 27 = .ok (.isub, 1) := by decide +kernel
theorem dX10_finds_28 : decode cX10_finds 28 = .ok (.bipush 24, 2) := by decide +kernel
theorem dX10_finds_30 : decode cX10_finds 30 = .ok (.if_icmp .gt 47, 3) := by decide +kernel
theorem dX10_finds_33 : decode cX10_finds 33 = .ok (.aload_n 0, 1) := by decide +kernel
theorem dX10_finds_34 : decode cX10_finds 34 = .ok (.iload_n 1, 1) := by decide +kernel
theorem dX10_finds_35 : decode cX10_finds 35 = .ok (.iload_n 2, 1) := by decide +kernel
theorem dX10_finds_36 : decode cX10_finds 36 = .ok (.iload 4, 2) := by decide +kernel
theorem dX10_finds_38 : decode cX10_finds 38 = .ok (.iload_n 3, 1) := by decide +kernel
theorem dX10_finds_39 : decode cX10_finds 39 = .ok (.iload 4, 2) := by decide +kernel
theorem dX10_finds_41 : decode cX10_finds 41 = .ok (.isub, 1) := by decide +kernel
theorem dX10_finds_42 : decode cX10_finds 42 = .ok (.invokevirtual 423, 3) := by decide +kernel
theorem dX10_finds_45 : decode cX10_finds 45 = .ok (.ifCond .ne 6, 3) := by decide +kernel
theorem dX10_finds_48 : decode cX10_finds 48 = .ok (.goto 29, 3) := by decide +kernel
theorem dX10_finds_51 : decode cX10_finds 51 = .ok (.aload_n 0, 1) := by decide +kernel
theorem dX10_finds_52 : decode cX10_finds 52 = .ok (.iload_n 1, 1) := by decide +kernel
theorem dX10_finds_53 : decode cX10_finds 53 = .ok (.putfield 427, 3) := by decide +kernel
theorem dX10_finds_56 : decode cX10_finds 56 = .ok (.aload_n 0, 1) := by decide +kernel
theorem dX10_finds_57 : decode cX10_finds 57 = .ok (.iload_n 2, 1) := by decide +kernel
theorem dX10_finds_58 : decode cX10_finds 58 = .ok (.putfield 430, 3) := by decide +kernel
theorem dX10_finds_61 : decode cX10_finds 61 = .ok (.aload_n 0, 1) := by decide +kernel
theorem dX10_finds_62 : decode cX10_finds 62 = .ok (.iload 4, 2) := by decide +kernel
theorem dX10_finds_64 : decode cX10_finds 64 = .ok (.putfield 433, 3) := by decide +kernel
theorem dX10_finds_67 : decode cX10_finds 67 = .ok (.aload_n 0, 1) := by decide +kernel
theorem dX10_finds_68 : decode cX10_finds 68 = .ok (.iload_n 3, 1) := by decide +kernel
theorem dX10_finds_69 : decode cX10_finds 69 = .ok (.iload 4, 2) := by decide +kernel
theorem dX10_finds_71 : decode cX10_finds 71 = .ok (.isub, 1) := by decide +kernel
theorem dX10_finds_72 : decode cX10_finds 72 = .ok (.putfield 436, 3) := by decide +kernel
theorem dX10_finds_75 : decode cX10_finds 75 = .ok (.iconst 1, 1) := by decide +kernel
theorem dX10_finds_76 : decode cX10_finds 76 = .ok (.ireturn, 1) := by decide +kernel
theorem dX10_finds_77 : decode cX10_finds 77 = .ok (.iinc 4 1, 3) := by decide +kernel
theorem dX10_finds_80 : decode cX10_finds 80 = .ok (.goto (-69), 3) := by decide +kernel
theorem dX10_finds_83 : decode cX10_finds 83 = .ok (.iinc 3 1, 3) := by decide +kernel
theorem dX10_finds_86 : decode cX10_finds 86 = .ok (.goto (-84), 3) := by decide +kernel
theorem dX10_finds_89 : decode cX10_finds 89 = .ok (.iconst 0, 1) := by decide +kernel
theorem dX10_finds_90 : decode cX10_finds 90 = .ok (.ireturn, 1) := by decide +kernel
theorem dX10_findsBest_0 : decode cX10_findsBest 0 = .ok (.aload_n 0, 1) := by decide +kernel
theorem dX10_findsBest_1 : decode cX10_findsBest 1 = .ok (.invokevirtual 439, 3) := by decide +kernel
theorem dX10_findsBest_4 : decode cX10_findsBest 4 = .ok (.iconst 0, 1) := by decide +kernel
theorem dX10_findsBest_5 : decode cX10_findsBest 5 = .ok (.istore_n 2, 1) := by decide +kernel
theorem dX10_findsBest_6 : decode cX10_findsBest 6 = .ok (.iload_n 2, 1) := by decide +kernel
theorem dX10_findsBest_7 : decode cX10_findsBest 7 = .ok (.iload_n 1, 1) := by decide +kernel
theorem dX10_findsBest_8 : decode cX10_findsBest 8 = .ok (.if_icmp .gt 155, 3) := by decide +kernel
theorem dX10_findsBest_11 : decode cX10_findsBest 11 = .ok (.iconst 0, 1) := by decide +kernel
theorem dX10_findsBest_12 : decode cX10_findsBest 12 = .ok (.istore_n 3, 1) := by decide +kernel
theorem dX10_findsBest_13 : decode cX10_findsBest 13 = .ok (.iconst 0, 1) := by decide +kernel
theorem dX10_findsBest_14 : decode cX10_findsBest 14 = .ok (.istore 4, 2) := by decide +kernel
theorem dX10_findsBest_16 : decode cX10_findsBest 16 = .ok (.iconst 0, 1) := by decide +kernel
theorem dX10_findsBest_17 : decode cX10_findsBest 17 = .ok (.istore 5, 2) := by decide +kernel
theorem dX10_findsBest_19 : decode cX10_findsBest 19 = .ok (.iconst 0, 1) := by decide +kernel
theorem dX10_findsBest_20 : decode cX10_findsBest 20 = .ok (.istore 6, 2) := by decide +kernel
theorem dX10_findsBest_22 : decode cX10_findsBest 22 = .ok (.iconst 0, 1) := by decide +kernel
theorem dX10_findsBest_23 : decode cX10_findsBest 23 = .ok (.istore 7, 2) := by decide +kernel
theorem dX10_findsBest_25 : decode cX10_findsBest 25 = .ok (.iload 7, 2) := by decide +kernel
theorem dX10_findsBest_27 : decode cX10_findsBest 27 = .ok (.iload_n 2, 1) := by decide +kernel
theorem dX10_findsBest_28 : decode cX10_findsBest 28 = .ok (.if_icmp .gt 91, 3) := by decide +kernel
theorem dX10_findsBest_31 : decode cX10_findsBest 31 = .ok (.iload 7, 2) := by decide +kernel
theorem dX10_findsBest_33 : decode cX10_findsBest 33 = .ok (.aload_n 0, 1) := by decide +kernel
theorem dX10_findsBest_34 : decode cX10_findsBest 34 = .ok (.iconst 0, 1) := by decide +kernel
theorem dX10_findsBest_35 : decode cX10_findsBest 35 = .ok (.invokevirtual 354, 3) := by decide +kernel
theorem dX10_findsBest_38 : decode cX10_findsBest 38 = .ok (.if_icmp .gt 75, 3) := by decide +kernel
theorem dX10_findsBest_41 : decode cX10_findsBest 41 = .ok (.iload_n 2, 1) := by decide +kernel
theorem dX10_findsBest_42 : decode cX10_findsBest 42 = .ok (.iload 7, 2) := by decide +kernel
theorem dX10_findsBest_44 : decode cX10_findsBest 44 = .ok (.isub, 1) := by decide +kernel
theorem dX10_findsBest_45 : decode cX10_findsBest 45 = .ok (.aload_n 0, 1) := by decide +kernel
theorem dX10_findsBest_46 : decode cX10_findsBest 46 = .ok (.iconst 1, 1) := by decide +kernel
theorem dX10_findsBest_47 : decode cX10_findsBest 47 = .ok (.invokevirtual 354, 3) := by decide +kernel
theorem dX10_findsBest_50 : decode cX10_findsBest 50 = .ok (.if_icmp .gt 63, 3) := by decide +kernel
theorem dX10_findsBest_53 : decode cX10_findsBest 53 = .ok (.aload_n 0, 1) := by decide +kernel
theorem dX10_findsBest_54 : decode cX10_findsBest 54 = .ok (.iload 7, 2) := by decide +kernel
theorem dX10_findsBest_56 : decode cX10_findsBest 56 = .ok (.iload_n 2, 1) := by decide +kernel
theorem dX10_findsBest_57 : decode cX10_findsBest 57 = .ok (.iload 7, 2) := by decide +kernel
theorem dX10_findsBest_59 : decode cX10_findsBest 59 = .ok (.isub, 1) := by decide +kernel
theorem dX10_findsBest_60 : decode cX10_findsBest 60 = .ok (.invokevirtual 442, 3) := by decide +kernel
theorem dX10_findsBest_63 : decode cX10_findsBest 63 = .ok (.ifCond .ne 6, 3) := by decide +kernel
theorem dX10_findsBest_66 : decode cX10_findsBest 66 = .ok (.goto 47, 3) := by decide +kernel
theorem dX10_findsBest_69 : decode cX10_findsBest 69 = .ok (.iload_n 3, 1) := by decide +kernel
theorem dX10_findsBest_70 : decode cX10_findsBest 70 = .ok (.ifCond .eq 20, 3) := by decide +kernel
theorem dX10_findsBest_73 : decode cX10_findsBest 73 = .ok (.aload_n 0, 1) := by decide +kernel
theorem dX10_findsBest_74 : decode cX10_findsBest 74 = .ok (.getfield 433, 3) := by decide +kernel
theorem dX10_findsBest_77 : decode cX10_findsBest 77 = .ok (.aload_n 0, 1) := by decide +kernel
theorem dX10_findsBest_78 : decode cX10_findsBest 78 = .ok (.getfield 436, 3) := by decide +kernel
theorem dX10_findsBest_81 : decode cX10_findsBest 81 = .ok (.iadd, 1) := by decide +kernel
theorem dX10_findsBest_82 : decode cX10_findsBest 82 = .ok (.iload 6, 2) := by decide +kernel
theorem dX10_findsBest_84 : decode cX10_findsBest 84 = .ok (.if_icmp .lt 6, 3) := by decide +kernel
theorem dX10_findsBest_87 : decode cX10_findsBest 87 = .ok (.goto 26, 3) := by decide +kernel
theorem dX10_findsBest_90 : decode cX10_findsBest 90 = .ok (.iconst 1, 1) := by decide +kernel
theorem dX10_findsBest_91 : decode cX10_findsBest 91 = .ok (.istore_n 3, 1) := by decide +kernel
theorem dX10_findsBest_92 : decode cX10_findsBest 92 = .ok (.iload 7, 2) := by decide +kernel
theorem dX10_findsBest_94 : decode cX10_findsBest 94 = .ok (.istore 4, 2) := by decide +kernel
theorem dX10_findsBest_96 : decode cX10_findsBest 96 = .ok (.aload_n 0, 1) := by decide +kernel
theorem dX10_findsBest_97 : decode cX10_findsBest 97 = .ok (.getfield 433, 3) := by decide +kernel
theorem dX10_findsBest_100 : decode cX10_findsBest 100 = .ok (.istore 5, 2) := by decide +kernel
theorem dX10_findsBest_102 : decode cX10_findsBest 102 = .ok (.aload_n 0, 1) := by decide +kernel
theorem dX10_findsBest_103 : decode cX10_findsBest 103 = .ok (.getfield 433, 3) := by decide +kernel
theorem dX10_findsBest_106 : decode cX10_findsBest 106 = .ok (.aload_n 0, 1) := by decide +kernel
theorem dX10_findsBest_107 : decode cX10_findsBest 107 = .ok (.getfield 436, 3) := by decide +kernel
theorem dX10_findsBest_110 : decode cX10_findsBest 110 = .ok (.iadd, 1) := by decide +kernel
theorem dX10_findsBest_111 : decode cX10_findsBest 111 = .ok (.istore 6, 2) := by decide +kernel
theorem dX10_findsBest_113 : decode cX10_findsBest 113 = .ok (.iinc 7 1, 3) := by decide +kernel
theorem dX10_findsBest_116 : decode cX10_findsBest 116 = .ok (.goto (-91), 3) := by decide +kernel
theorem dX10_findsBest_119 : decode cX10_findsBest 119 = .ok (.iload_n 3, 1) := by decide +kernel
theorem dX10_findsBest_120 : decode cX10_findsBest 120 = .ok (.ifCond .ne 6, 3) := by decide +kernel
theorem dX10_findsBest_123 : decode cX10_findsBest 123 = .ok (.goto 34, 3) := by decide +kernel
theorem dX10_findsBest_126 : decode cX10_findsBest 126 = .ok (.aload_n 0, 1) := by decide +kernel
theorem dX10_findsBest_127 : decode cX10_findsBest 127 = .ok (.iload 4, 2) := by decide +kernel
theorem dX10_findsBest_129 : decode cX10_findsBest 129 = .ok (.putfield 427, 3) := by decide +kernel
theorem dX10_findsBest_132 : decode cX10_findsBest 132 = .ok (.aload_n 0, 1) := by decide +kernel
theorem dX10_findsBest_133 : decode cX10_findsBest 133 = .ok (.iload_n 2, 1) := by decide +kernel
theorem dX10_findsBest_134 : decode cX10_findsBest 134 = .ok (.iload 4, 2) := by decide +kernel
theorem dX10_findsBest_136 : decode cX10_findsBest 136 = .ok (.isub, 1) := by decide +kernel
theorem dX10_findsBest_137 : decode cX10_findsBest 137 = .ok (.putfield 430, 3) := by decide +kernel
theorem dX10_findsBest_140 : decode cX10_findsBest 140 = .ok (.aload_n 0, 1) := by decide +kernel
theorem dX10_findsBest_141 : decode cX10_findsBest 141 = .ok (.iload 5, 2) := by decide +kernel
theorem dX10_findsBest_143 : decode cX10_findsBest 143 = .ok (.putfield 433, 3) := by decide +kernel
theorem dX10_findsBest_146 : decode cX10_findsBest 146 = .ok (.aload_n 0, 1) := by decide +kernel
theorem dX10_findsBest_147 : decode cX10_findsBest 147 = .ok (.iload 6, 2) := by decide +kernel
theorem dX10_findsBest_149 : decode cX10_findsBest 149 = .ok (.iload 5, 2) := by decide +kernel
theorem dX10_findsBest_151 : decode cX10_findsBest 151 = .ok (.isub, 1) := by decide +kernel
theorem dX10_findsBest_152 : decode cX10_findsBest 152 = .ok (.putfield 436, 3) := by decide +kernel
theorem dX10_findsBest_155 : decode cX10_findsBest 155 = .ok (.iconst 1, 1) := by decide +kernel
theorem dX10_findsBest_156 : decode cX10_findsBest 156 = .ok (.ireturn, 1) := by decide +kernel
theorem dX10_findsBest_157 : decode cX10_findsBest 157 = .ok (.iinc 2 1, 3) := by decide +kernel
theorem dX10_findsBest_160 : decode cX10_findsBest 160 = .ok (.goto (-154), 3) := by decide +kernel
theorem dX10_findsBest_163 : decode cX10_findsBest 163 = .ok (.iconst 0, 1) := by decide +kernel
theorem dX10_findsBest_164 : decode cX10_findsBest 164 = .ok (.ireturn, 1) := by decide +kernel
theorem dX10_findsAny_0 : decode cX10_findsAny 0 = .ok (.aload_n 0, 1) := by decide +kernel
theorem dX10_findsAny_1 : decode cX10_findsAny 1 = .ok (.getfield 346, 3) := by decide +kernel
theorem dX10_findsAny_4 : decode cX10_findsAny 4 = .ok (.ifnull 25, 3) := by decide +kernel
theorem dX10_findsAny_7 : decode cX10_findsAny 7 = .ok (.aload_n 0, 1) := by decide +kernel
theorem dX10_findsAny_8 : decode cX10_findsAny 8 = .ok (.aload_n 0, 1) := by decide +kernel
theorem dX10_findsAny_9 : decode cX10_findsAny 9 = .ok (.iconst 0, 1) := by decide +kernel
theorem dX10_findsAny_10 : decode cX10_findsAny 10 = .ok (.invokevirtual 354, 3) := by decide +kernel
theorem dX10_findsAny_13 : decode cX10_findsAny 13 = .ok (.aload_n 0, 1) := by decide +kernel
theorem dX10_findsAny_14 : decode cX10_findsAny 14 = .ok (.iconst 1, 1) := by decide +kernel
theorem dX10_findsAny_15 : decode cX10_findsAny 15 = .ok (.invokevirtual 354, 3) := by decide +kernel
theorem dX10_findsAny_18 : decode cX10_findsAny 18 = .ok (.iadd, 1) := by decide +kernel
theorem dX10_findsAny_19 : decode cX10_findsAny 19 = .ok (.invokevirtual 445, 3) := by decide +kernel
theorem dX10_findsAny_22 : decode cX10_findsAny 22 = .ok (.ifCond .eq 7, 3) := by decide +kernel
theorem dX10_findsAny_25 : decode cX10_findsAny 25 = .ok (.iconst 1, 1) := by decide +kernel
theorem dX10_findsAny_26 : decode cX10_findsAny 26 = .ok (.goto 4, 3) := by decide +kernel
theorem dX10_findsAny_29 : decode cX10_findsAny 29 = .ok (.iconst 0, 1) := by decide +kernel
theorem dX10_findsAny_30 : decode cX10_findsAny 30 = .ok (.ireturn, 1) := by decide +kernel
theorem dX10_laysRows_0 : decode cX10_laysRows 0 = .ok (.aload_n 0, 1) := by decide +kernel
theorem dX10_laysRows_1 : decode cX10_laysRows 1 = .ok (.iconst 0, 1) := by decide +kernel
theorem dX10_laysRows_2 : decode cX10_laysRows 2 = .ok (.aload_n 0, 1) := by decide +kernel
theorem dX10_laysRows_3 : decode cX10_laysRows 3 = .ok (.getfield 427, 3) := by decide +kernel
theorem dX10_laysRows_6 : decode cX10_laysRows 6 = .ok (.invokevirtual 360, 3) := by decide +kernel
theorem dX10_laysRows_9 : decode cX10_laysRows 9 = .ok (.istore_n 1, 1) := by decide +kernel
theorem dX10_laysRows_10 : decode cX10_laysRows 10 = .ok (.aload_n 0, 1) := by decide +kernel
theorem dX10_laysRows_11 : decode cX10_laysRows 11 = .ok (.iconst 1, 1) := by decide +kernel
theorem dX10_laysRows_12 : decode cX10_laysRows 12 = .ok (.aload_n 0, 1) := by decide +kernel
theorem dX10_laysRows_13 : decode cX10_laysRows 13 = .ok (.getfield 436, 3) := by decide +kernel
theorem dX10_laysRows_16 : decode cX10_laysRows 16 = .ok (.aload_n 0, 1) := by decide +kernel
theorem dX10_laysRows_17 : decode cX10_laysRows 17 = .ok (.iconst 1, 1) := by decide +kernel
theorem dX10_laysRows_18 : decode cX10_laysRows 18 = .ok (.aload_n 0, 1) := by decide +kernel
theorem dX10_laysRows_19 : decode cX10_laysRows 19 = .ok (.getfield 430, 3) := by decide +kernel
theorem dX10_laysRows_22 : decode cX10_laysRows 22 = .ok (.invokevirtual 360, 3) := by decide +kernel
theorem dX10_laysRows_25 : decode cX10_laysRows 25 = .ok (.iconst 0, 1) := by decide +kernel
theorem dX10_laysRows_26 : decode cX10_laysRows 26 = .ok (.iconst 0, 1) := by decide +kernel
theorem dX10_laysRows_27 : decode cX10_laysRows 27 = .ok (.invokevirtual 414, 3) := by decide +kernel
theorem dX10_laysRows_30 : decode cX10_laysRows 30 = .ok (.istore_n 2, 1) := by decide +kernel
theorem dX10_laysRows_31 : decode cX10_laysRows 31 = .ok (.iconst 0, 1) := by decide +kernel
theorem dX10_laysRows_32 : decode cX10_laysRows 32 = .ok (.istore_n 3, 1) := by decide +kernel
theorem dX10_laysRows_33 : decode cX10_laysRows 33 = .ok (.iconst 0, 1) := by decide +kernel
theorem dX10_laysRows_34 : decode cX10_laysRows 34 = .ok (.istore 4, 2) := by decide +kernel
theorem dX10_laysRows_36 : decode cX10_laysRows 36 = .ok (.iconst 0, 1) := by decide +kernel
theorem dX10_laysRows_37 : decode cX10_laysRows 37 = .ok (.istore 5, 2) := by decide +kernel
theorem dX10_laysRows_39 : decode cX10_laysRows 39 = .ok (.iload 5, 2) := by decide +kernel
theorem dX10_laysRows_41 : decode cX10_laysRows 41 = .ok (.aload_n 0, 1) := by decide +kernel
theorem dX10_laysRows_42 : decode cX10_laysRows 42 = .ok (.getfield 433, 3) := by decide +kernel
theorem dX10_laysRows_45 : decode cX10_laysRows 45 = .ok (.if_icmp .ge 73, 3) := by decide +kernel
theorem dX10_laysRows_48 : decode cX10_laysRows 48 = .ok (.iconst 0, 1) := by decide +kernel
theorem dX10_laysRows_49 : decode cX10_laysRows 49 = .ok (.istore 6, 2) := by decide +kernel
theorem dX10_laysRows_51 : decode cX10_laysRows 51 = .ok (.aload_n 0, 1) := by decide +kernel
theorem dX10_laysRows_52 : decode cX10_laysRows 52 = .ok (.iload_n 1, 1) := by decide +kernel
theorem dX10_laysRows_53 : decode cX10_laysRows 53 = .ok (.iload 6, 2) := by decide +kernel
theorem dX10_laysRows_55 : decode cX10_laysRows 55 = .ok (.aload_n 0, 1) := by decide +kernel
theorem dX10_laysRows_56 : decode cX10_laysRows 56 = .ok (.getfield 433, 3) := by decide +kernel
theorem dX10_laysRows_59 : decode cX10_laysRows 59 = .ok (.iload 5, 2) := by decide +kernel
theorem dX10_laysRows_61 : decode cX10_laysRows 61 = .ok (.isub, 1) := by decide +kernel
theorem dX10_laysRows_62 : decode cX10_laysRows 62 = .ok (.iconst 1, 1) := by decide +kernel
theorem dX10_laysRows_63 : decode cX10_laysRows 63 = .ok (.isub, 1) := by decide +kernel
theorem dX10_laysRows_64 : decode cX10_laysRows 64 = .ok (.iload_n 3, 1) := by decide +kernel
theorem dX10_laysRows_65 : decode cX10_laysRows 65 = .ok (.iload 4, 2) := by decide +kernel
theorem dX10_laysRows_67 : decode cX10_laysRows 67 = .ok (.iload_n 2, 1) := by decide +kernel
theorem dX10_laysRows_68 : decode cX10_laysRows 68 = .ok (.invokevirtual 448, 3) := by decide +kernel
theorem dX10_laysRows_71 : decode cX10_laysRows 71 = .ok (.ifCond .ne 9, 3) := by decide +kernel
theorem dX10_laysRows_74 : decode cX10_laysRows 74 = .ok (.iinc 6 1, 3) := by decide +kernel
theorem dX10_laysRows_77 : decode cX10_laysRows 77 = .ok (.goto (-26), 3) := by decide +kernel
theorem dX10_laysRows_80 : decode cX10_laysRows 80 = .ok (.aload_n 0, 1) := by decide +kernel
theorem dX10_laysRows_81 : decode cX10_laysRows 81 = .ok (.getfield 31, 3) := by decide +kernel
theorem dX10_laysRows_84 : decode cX10_laysRows 84 = .ok (.iload 5, 2) := by decide +kernel
theorem dX10_laysRows_86 : decode cX10_laysRows 86 = .ok (.iload 6, 2) := by decide +kernel
theorem dX10_laysRows_88 : decode cX10_laysRows 88 = .ok (.iastore, 1) := by decide +kernel
theorem dX10_laysRows_89 : decode cX10_laysRows 89 = .ok (.iload_n 3, 1) := by decide +kernel
theorem dX10_laysRows_90 : decode cX10_laysRows 90 = .ok (.aload_n 0, 1) := by decide +kernel
theorem dX10_laysRows_91 : decode cX10_laysRows 91 = .ok (.iload 6, 2) := by decide +kernel
theorem dX10_laysRows_93 : decode cX10_laysRows 93 = .ok (.invokevirtual 408, 3) := by decide +kernel
theorem dX10_laysRows_96 : decode cX10_laysRows 96 = .ok (.iadd, 1) := by decide +kernel
theorem dX10_laysRows_97 : decode cX10_laysRows 97 = .ok (.istore_n 3, 1) := by decide +kernel
theorem dX10_laysRows_98 : decode cX10_laysRows 98 = .ok (.iload 4, 2) := by decide +kernel
theorem dX10_laysRows_100 : decode cX10_laysRows 100 = .ok (.aload_n 0, 1) := by decide +kernel
theorem dX10_laysRows_101 : decode cX10_laysRows 101 = .ok (.iload 6, 2) := by decide +kernel
theorem dX10_laysRows_103 : decode cX10_laysRows 103 = .ok (.invokevirtual 411, 3) := by decide +kernel
theorem dX10_laysRows_106 : decode cX10_laysRows 106 = .ok (.iadd, 1) := by decide +kernel
theorem dX10_laysRows_107 : decode cX10_laysRows 107 = .ok (.istore 4, 2) := by decide +kernel
theorem dX10_laysRows_109 : decode cX10_laysRows 109 = .ok (.iload 6, 2) := by decide +kernel
theorem dX10_laysRows_111 : decode cX10_laysRows 111 = .ok (.istore_n 1, 1) := by decide +kernel
theorem dX10_laysRows_112 : decode cX10_laysRows 112 = .ok (.iinc 5 1, 3) := by decide +kernel
theorem dX10_laysRows_115 : decode cX10_laysRows 115 = .ok (.goto (-76), 3) := by decide +kernel
theorem dX10_laysRows_118 : decode cX10_laysRows 118 = .ok (.aload_n 0, 1) := by decide +kernel
theorem dX10_laysRows_119 : decode cX10_laysRows 119 = .ok (.iload_n 1, 1) := by decide +kernel
theorem dX10_laysRows_120 : decode cX10_laysRows 120 = .ok (.invokevirtual 452, 3) := by decide +kernel
theorem dX10_laysRows_123 : decode cX10_laysRows 123 = .ok (.return_, 1) := by decide +kernel
theorem dX10_canGo_0 : decode cX10_canGo 0 = .ok (.iload 4, 2) := by decide +kernel
theorem dX10_canGo_2 : decode cX10_canGo 2 = .ok (.aload_n 0, 1) := by decide +kernel
theorem dX10_canGo_3 : decode cX10_canGo 3 = .ok (.iload_n 2, 1) := by decide +kernel
theorem dX10_canGo_4 : decode cX10_canGo 4 = .ok (.invokevirtual 408, 3) := by decide +kernel
theorem dX10_canGo_7 : decode cX10_canGo 7 = .ok (.iadd, 1) := by decide +kernel
theorem dX10_canGo_8 : decode cX10_canGo 8 = .ok (.istore 7, 2) := by decide +kernel
theorem dX10_canGo_10 : decode cX10_canGo 10 = .ok (.iload 5, 2) := by decide +kernel
theorem dX10_canGo_12 : decode cX10_canGo 12 = .ok (.aload_n 0, 1) := by decide +kernel
theorem dX10_canGo_13 : decode cX10_canGo 13 = .ok (.iload_n 2, 1) := by decide +kernel
theorem dX10_canGo_14 : decode cX10_canGo 14 = .ok (.invokevirtual 411, 3) := by decide +kernel
theorem dX10_canGo_17 : decode cX10_canGo 17 = .ok (.iadd, 1) := by decide +kernel
theorem dX10_canGo_18 : decode cX10_canGo 18 = .ok (.istore 8, 2) := by decide +kernel
theorem dX10_canGo_20 : decode cX10_canGo 20 = .ok (.aload_n 0, 1) := by decide +kernel
theorem dX10_canGo_21 : decode cX10_canGo 21 = .ok (.getfield 346, 3) := by decide +kernel
theorem dX10_canGo_24 : decode cX10_canGo 24 = .ok (.iconst 0, 1) := by decide +kernel
theorem dX10_canGo_25 : decode cX10_canGo 25 = .ok (.iload_n 1, 1) := by decide +kernel
theorem dX10_canGo_26 : decode cX10_canGo 26 = .ok (.iload_n 2, 1) := by decide +kernel
theorem dX10_canGo_27 : decode cX10_canGo 27 = .ok (.invokevirtual 299, 3) := by decide +kernel
theorem dX10_canGo_30 : decode cX10_canGo 30 = .ok (.ifCond .eq 50, 3) := by decide +kernel
theorem dX10_canGo_33 : decode cX10_canGo 33 = .ok (.iload 7, 2) := by decide +kernel
theorem dX10_canGo_35 : decode cX10_canGo 35 = .ok (.aload_n 0, 1) := by decide +kernel
theorem dX10_canGo_36 : decode cX10_canGo 36 = .ok (.iconst 0, 1) := by decide +kernel
theorem dX10_canGo_37 : decode cX10_canGo 37 = .ok (.iconst 0, 1) := by decide +kernel
theorem dX10_canGo_38 : decode cX10_canGo 38 = .ok (.invokevirtual 402, 3) := by decide +kernel
theorem dX10_canGo_41 : decode cX10_canGo 41 = .ok (.if_icmp .gt 39, 3) := by decide +kernel
theorem dX10_canGo_44 : decode cX10_canGo 44 = .ok (.iload 8, 2) := by decide +kernel
theorem dX10_canGo_46 : decode cX10_canGo 46 = .ok (.aload_n 0, 1) := by decide +kernel
theorem dX10_canGo_47 : decode cX10_canGo 47 = .ok (.iconst 0, 1) := by decide +kernel
theorem dX10_canGo_48 : decode cX10_canGo 48 = .ok (.iconst 1, 1) := by decide +kernel
theorem dX10_canGo_49 : decode cX10_canGo 49 = .ok (.invokevirtual 402, 3) := by decide +kernel
theorem dX10_canGo_52 : decode cX10_canGo 52 = .ok (.if_icmp .gt 28, 3) := by decide +kernel
theorem dX10_canGo_55 : decode cX10_canGo 55 = .ok (.aload_n 0, 1) := by decide +kernel
theorem dX10_canGo_56 : decode cX10_canGo 56 = .ok (.aload_n 0, 1) := by decide +kernel
theorem dX10_canGo_57 : decode cX10_canGo 57 = .ok (.iconst 0, 1) := by decide +kernel
theorem dX10_canGo_58 : decode cX10_canGo 58 = .ok (.iload_n 3, 1) := by decide +kernel
theorem dX10_canGo_59 : decode cX10_canGo 59 = .ok (.iload_n 2, 1) := by decide +kernel
theorem dX10_canGo_60 : decode cX10_canGo 60 = .ok (.iload 7, 2) := by decide +kernel
theorem dX10_canGo_62 : decode cX10_canGo 62 = .ok (.iload 8, 2) := by decide +kernel
theorem dX10_canGo_64 : decode cX10_canGo 64 = .ok (.invokevirtual 414, 3) := by decide +kernel
theorem dX10_canGo_67 : decode cX10_canGo 67 = .ok (.invokevirtual 420, 3) := by decide +kernel
theorem dX10_canGo_70 : decode cX10_canGo 70 = .ok (.iload 6, 2) := by decide +kernel
theorem dX10_canGo_72 : decode cX10_canGo 72 = .ok (.iand, 1) := by decide +kernel
theorem dX10_canGo_73 : decode cX10_canGo 73 = .ok (.ifCond .eq 7, 3) := by decide +kernel
theorem dX10_canGo_76 : decode cX10_canGo 76 = .ok (.iconst 1, 1) := by decide +kernel
theorem dX10_canGo_77 : decode cX10_canGo 77 = .ok (.goto 4, 3) := by decide +kernel
theorem dX10_canGo_80 : decode cX10_canGo 80 = .ok (.iconst 0, 1) := by decide +kernel
theorem dX10_canGo_81 : decode cX10_canGo 81 = .ok (.ireturn, 1) := by decide +kernel
theorem dX10_laysCome_0 : decode cX10_laysCome 0 = .ok (.iconst 0, 1) := by decide +kernel
theorem dX10_laysCome_1 : decode cX10_laysCome 1 = .ok (.istore_n 1, 1) := by decide +kernel
theorem dX10_laysCome_2 : decode cX10_laysCome 2 = .ok (.iload_n 1, 1) := by decide +kernel
theorem dX10_laysCome_3 : decode cX10_laysCome 3 = .ok (.aload_n 0, 1) := by decide +kernel
theorem dX10_laysCome_4 : decode cX10_laysCome 4 = .ok (.getfield 34, 3) := by decide +kernel
theorem dX10_laysCome_7 : decode cX10_laysCome 7 = .ok (.arraylength, 1) := by decide +kernel
theorem dX10_laysCome_8 : decode cX10_laysCome 8 = .ok (.if_icmp .ge 16, 3) := by decide +kernel
theorem dX10_laysCome_11 : decode cX10_laysCome 11 = .ok (.aload_n 0, 1) := by decide +kernel
theorem dX10_laysCome_12 : decode cX10_laysCome 12 = .ok (.getfield 34, 3) := by decide +kernel
theorem dX10_laysCome_15 : decode cX10_laysCome 15 = .ok (.iload_n 1, 1) := by decide +kernel
theorem dX10_laysCome_16 : decode cX10_laysCome 16 = .ok (.iconst 0, 1) := by decide +kernel
theorem dX10_laysCome_17 : decode cX10_laysCome 17 = .ok (.bastore, 1) := by decide +kernel
theorem dX10_laysCome_18 : decode cX10_laysCome 18 = .ok (.iinc 1 1, 3) := by decide +kernel
theorem dX10_laysCome_21 : decode cX10_laysCome 21 = .ok (.goto (-19), 3) := by decide +kernel
theorem dX10_laysCome_24 : decode cX10_laysCome 24 = .ok (.aload_n 0, 1) := by decide +kernel
theorem dX10_laysCome_25 : decode cX10_laysCome 25 = .ok (.getfield 34, 3) := by decide +kernel
theorem dX10_laysCome_28 : decode cX10_laysCome 28 = .ok (.iconst 0, 1) := by decide +kernel
theorem dX10_laysCome_29 : decode cX10_laysCome 29 = .ok (.aload_n 0, 1) := by decide +kernel
theorem dX10_laysCome_30 : decode cX10_laysCome 30 = .ok (.iconst 1, 1) := by decide +kernel
theorem dX10_laysCome_31 : decode cX10_laysCome 31 = .ok (.aload_n 0, 1) := by decide +kernel
theorem dX10_laysCome_32 : decode cX10_laysCome 32 = .ok (.getfield 430, 3) := by decide +kernel
theorem dX10_laysCome_35 : decode cX10_laysCome 35 = .ok (.invokevirtual 360, 3) := by decide +kernel
theorem dX10_laysCome_38 : decode cX10_laysCome 38 = .ok (.iconst 0, 1) := by decide +kernel
theorem dX10_laysCome_39 : decode cX10_laysCome 39 = .ok (.iconst 0, 1) := by decide +kernel
theorem dX10_laysCome_40 : decode cX10_laysCome 40 = .ok (.invokestatic 398, 3) := by decide +kernel
theorem dX10_laysCome_43 : decode cX10_laysCome 43 = .ok (.iconst 1, 1) := by decide +kernel
theorem dX10_laysCome_44 : decode cX10_laysCome 44 = .ok (.bastore, 1) := by decide +kernel
theorem dX10_laysCome_45 : decode cX10_laysCome 45 = .ok (.iconst 0, 1) := by decide +kernel
theorem dX10_laysCome_46 : decode cX10_laysCome 46 = .ok (.istore_n 1, 1) := by decide +kernel
theorem dX10_laysCome_47 : decode cX10_laysCome 47 = .ok (.iload_n 1, 1) := by decide +kernel
theorem dX10_laysCome_48 : decode cX10_laysCome 48 = .ok (.aload_n 0, 1) := by decide +kernel
theorem dX10_laysCome_49 : decode cX10_laysCome 49 = .ok (.getfield 436, 3) := by decide +kernel
theorem dX10_laysCome_52 : decode cX10_laysCome 52 = .ok (.if_icmp .ge 71, 3) := by decide +kernel
theorem dX10_laysCome_55 : decode cX10_laysCome 55 = .ok (.iconst 0, 1) := by decide +kernel
theorem dX10_laysCome_56 : decode cX10_laysCome 56 = .ok (.istore_n 2, 1) := by decide +kernel
theorem dX10_laysCome_57 : decode cX10_laysCome 57 = .ok (.iload_n 2, 1) := by decide +kernel
theorem dX10_laysCome_58 : decode cX10_laysCome 58 = .ok (.bipush 9, 2) := by decide +kernel
theorem dX10_laysCome_60 : decode cX10_laysCome 60 = .ok (.if_icmp .ge 57, 3) := by decide +kernel
theorem dX10_laysCome_63 : decode cX10_laysCome 63 = .ok (.iconst 0, 1) := by decide +kernel
theorem dX10_laysCome_64 : decode cX10_laysCome 64 = .ok (.istore_n 3, 1) := by decide +kernel
theorem dX10_laysCome_65 : decode cX10_laysCome 65 = .ok (.iload_n 3, 1) := by decide +kernel
theorem dX10_laysCome_66 : decode cX10_laysCome 66 = .ok (.bipush 100, 2) := by decide +kernel
theorem dX10_laysCome_68 : decode cX10_laysCome 68 = .ok (.if_icmp .ge 43, 3) := by decide +kernel
theorem dX10_laysCome_71 : decode cX10_laysCome 71 = .ok (.aload_n 0, 1) := by decide +kernel
theorem dX10_laysCome_72 : decode cX10_laysCome 72 = .ok (.getfield 34, 3) := by decide +kernel
theorem dX10_laysCome_75 : decode cX10_laysCome 75 = .ok (.iload_n 1, 1) := by decide +kernel
theorem dX10_laysCome_76 : decode cX10_laysCome 76 = .ok (.sipush 900, 3) := by decide +kernel
theorem dX10_laysCome_79 : decode cX10_laysCome 79 = .ok (.imul, 1) := by decide +kernel
theorem dX10_laysCome_80 : decode cX10_laysCome 80 = .ok (.iload_n 2, 1) := by decide +kernel
theorem dX10_laysCome_81 : decode cX10_laysCome 81 = .ok (.bipush 100, 2) := by decide +kernel
theorem dX10_laysCome_83 : decode cX10_laysCome 83 = .ok (.imul, 1) := by decide +kernel
theorem dX10_laysCome_84 : decode cX10_laysCome 84 = .ok (.iadd, 1) := by decide +kernel
theorem dX10_laysCome_85 : decode cX10_laysCome 85 = .ok (.iload_n 3, 1) := by decide +kernel
theorem dX10_laysCome_86 : decode cX10_laysCome 86 = .ok (.iadd, 1) := by decide +kernel
theorem dX10_laysCome_87 : decode cX10_laysCome 87 = .ok (.baload, 1) := by decide +kernel
theorem dX10_laysCome_88 : decode cX10_laysCome 88 = .ok (.ifCond .eq 17, 3) := by decide +kernel
theorem dX10_laysCome_91 : decode cX10_laysCome 91 = .ok (.aload_n 0, 1) := by decide +kernel
theorem dX10_laysCome_92 : decode cX10_laysCome 92 = .ok (.iload_n 1, 1) := by decide +kernel
theorem dX10_laysCome_93 : decode cX10_laysCome 93 = .ok (.iload_n 2, 1) := by decide +kernel
theorem dX10_laysCome_94 : decode cX10_laysCome 94 = .ok (.iload_n 3, 1) := by decide +kernel
theorem dX10_laysCome_95 : decode cX10_laysCome 95 = .ok (.bipush 10, 2) := by decide +kernel
theorem dX10_laysCome_97 : decode cX10_laysCome 97 = .ok (.idiv, 1) := by decide +kernel
theorem dX10_laysCome_98 : decode cX10_laysCome 98 = .ok (.iload_n 3, 1) := by decide +kernel
theorem dX10_laysCome_99 : decode cX10_laysCome 99 = .ok (.bipush 10, 2) := by decide +kernel
theorem dX10_laysCome_101 : decode cX10_laysCome 101 = .ok (.irem, 1) := by decide +kernel
theorem dX10_laysCome_102 : decode cX10_laysCome 102 = .ok (.invokevirtual 455, 3) := by decide +kernel
theorem dX10_laysCome_105 : decode cX10_laysCome 105 = .ok (.iinc 3 1, 3) := by decide +kernel
theorem dX10_laysCome_108 : decode cX10_laysCome 108 = .ok (.goto (-43), 3) := by decide +kernel
theorem dX10_laysCome_111 : decode cX10_laysCome 111 = .ok (.iinc 2 1, 3) := by decide +kernel
theorem dX10_laysCome_114 : decode cX10_laysCome 114 = .ok (.goto (-57), 3) := by decide +kernel
theorem dX10_laysCome_117 : decode cX10_laysCome 117 = .ok (.iinc 1 1, 3) := by decide +kernel
theorem dX10_laysCome_120 : decode cX10_laysCome 120 = .ok (.goto (-73), 3) := by decide +kernel
theorem dX10_laysCome_123 : decode cX10_laysCome 123 = .ok (.return_, 1) := by decide +kernel
theorem dX10_comes_0 : decode cX10_comes 0 = .ok (.iconst 0, 1) := by decide +kernel
theorem dX10_comes_1 : decode cX10_comes 1 = .ok (.istore 5, 2) := by decide +kernel
theorem dX10_comes_3 : decode cX10_comes 3 = .ok (.iload 5, 2) := by decide +kernel
theorem dX10_comes_5 : decode cX10_comes 5 = .ok (.aload_n 0, 1) := by decide +kernel
theorem dX10_comes_6 : decode cX10_comes 6 = .ok (.getfield 346, 3) := by decide +kernel
theorem dX10_comes_9 : decode cX10_comes 9 = .ok (.getfield 203, 3) := by decide +kernel
theorem dX10_comes_12 : decode cX10_comes 12 = .ok (.if_icmp .ge 84, 3) := by decide +kernel
theorem dX10_comes_15 : decode cX10_comes 15 = .ok (.iload_n 3, 1) := by decide +kernel
theorem dX10_comes_16 : decode cX10_comes 16 = .ok (.aload_n 0, 1) := by decide +kernel
theorem dX10_comes_17 : decode cX10_comes 17 = .ok (.iload 5, 2) := by decide +kernel
theorem dX10_comes_19 : decode cX10_comes 19 = .ok (.invokevirtual 408, 3) := by decide +kernel
theorem dX10_comes_22 : decode cX10_comes 22 = .ok (.iadd, 1) := by decide +kernel
theorem dX10_comes_23 : decode cX10_comes 23 = .ok (.istore 6, 2) := by decide +kernel
theorem dX10_comes_25 : decode cX10_comes 25 = .ok (.iload 4, 2) := by decide +kernel
theorem dX10_comes_27 : decode cX10_comes 27 = .ok (.aload_n 0, 1) := by decide +kernel
theorem dX10_comes_28 : decode cX10_comes 28 = .ok (.iload 5, 2) := by decide +kernel
theorem dX10_comes_30 : decode cX10_comes 30 = .ok (.invokevirtual 411, 3) := by decide +kernel
theorem dX10_comes_33 : decode cX10_comes 33 = .ok (.iadd, 1) := by decide +kernel
theorem dX10_comes_34 : decode cX10_comes 34 = .ok (.istore 7, 2) := by decide +kernel
theorem dX10_comes_36 : decode cX10_comes 36 = .ok (.aload_n 0, 1) := by decide +kernel
theorem dX10_comes_37 : decode cX10_comes 37 = .ok (.getfield 346, 3) := by decide +kernel
theorem dX10_comes_40 : decode cX10_comes 40 = .ok (.iconst 1, 1) := by decide +kernel
theorem dX10_comes_41 : decode cX10_comes 41 = .ok (.iload_n 2, 1) := by decide +kernel
theorem dX10_comes_42 : decode cX10_comes 42 = .ok (.iload 5, 2) := by decide +kernel
theorem dX10_comes_44 : decode cX10_comes 44 = .ok (.invokevirtual 299, 3) := by decide +kernel
theorem dX10_comes_47 : decode cX10_comes 47 = .ok (.ifCond .eq 43, 3) := by decide +kernel
theorem dX10_comes_50 : decode cX10_comes 50 = .ok (.iload 6, 2) := by decide +kernel
theorem dX10_comes_52 : decode cX10_comes 52 = .ok (.aload_n 0, 1) := by decide +kernel
theorem dX10_comes_53 : decode cX10_comes 53 = .ok (.iconst 1, 1) := by decide +kernel
theorem dX10_comes_54 : decode cX10_comes 54 = .ok (.iconst 0, 1) := by decide +kernel
theorem dX10_comes_55 : decode cX10_comes 55 = .ok (.invokevirtual 402, 3) := by decide +kernel
theorem dX10_comes_58 : decode cX10_comes 58 = .ok (.if_icmp .gt 32, 3) := by decide +kernel
theorem dX10_comes_61 : decode cX10_comes 61 = .ok (.iload 7, 2) := by decide +kernel
theorem dX10_comes_63 : decode cX10_comes 63 = .ok (.aload_n 0, 1) := by decide +kernel
theorem dX10_comes_64 : decode cX10_comes 64 = .ok (.iconst 1, 1) := by decide +kernel
theorem dX10_comes_65 : decode cX10_comes 65 = .ok (.iconst 1, 1) := by decide +kernel
theorem dX10_comes_66 : decode cX10_comes 66 = .ok (.invokevirtual 402, 3) := by decide +kernel
theorem dX10_comes_69 : decode cX10_comes 69 = .ok (.if_icmp .gt 21, 3) := by decide +kernel
theorem dX10_comes_72 : decode cX10_comes 72 = .ok (.aload_n 0, 1) := by decide +kernel
theorem dX10_comes_73 : decode cX10_comes 73 = .ok (.getfield 34, 3) := by decide +kernel
theorem dX10_comes_76 : decode cX10_comes 76 = .ok (.iload_n 1, 1) := by decide +kernel
theorem dX10_comes_77 : decode cX10_comes 77 = .ok (.iconst 1, 1) := by decide +kernel
theorem dX10_comes_78 : decode cX10_comes 78 = .ok (.iadd, 1) := by decide +kernel
theorem dX10_comes_79 : decode cX10_comes 79 = .ok (.iload 5, 2) := by decide +kernel
theorem dX10_comes_81 : decode cX10_comes 81 = .ok (.iload 6, 2) := by decide +kernel
theorem dX10_comes_83 : decode cX10_comes 83 = .ok (.iload 7, 2) := by decide +kernel
theorem dX10_comes_85 : decode cX10_comes 85 = .ok (.invokestatic 398, 3) := by decide +kernel
theorem dX10_comes_88 : decode cX10_comes 88 = .ok (.iconst 1, 1) := by decide +kernel
theorem dX10_comes_89 : decode cX10_comes 89 = .ok (.bastore, 1) := by decide +kernel
theorem dX10_comes_90 : decode cX10_comes 90 = .ok (.iinc 5 1, 3) := by decide +kernel
theorem dX10_comes_93 : decode cX10_comes 93 = .ok (.goto (-90), 3) := by decide +kernel
theorem dX10_comes_96 : decode cX10_comes 96 = .ok (.return_, 1) := by decide +kernel
theorem dX10_laysRight_0 : decode cX10_laysRight 0 = .ok (.aload_n 0, 1) := by decide +kernel
theorem dX10_laysRight_1 : decode cX10_laysRight 1 = .ok (.invokevirtual 459, 3) := by decide +kernel
theorem dX10_laysRight_4 : decode cX10_laysRight 4 = .ok (.iconst 0, 1) := by decide +kernel
theorem dX10_laysRight_5 : decode cX10_laysRight 5 = .ok (.istore_n 2, 1) := by decide +kernel
theorem dX10_laysRight_6 : decode cX10_laysRight 6 = .ok (.iload_n 2, 1) := by decide +kernel
theorem dX10_laysRight_7 : decode cX10_laysRight 7 = .ok (.bipush 100, 2) := by decide +kernel
theorem dX10_laysRight_9 : decode cX10_laysRight 9 = .ok (.if_icmp .ge 16, 3) := by decide +kernel
theorem dX10_laysRight_12 : decode cX10_laysRight 12 = .ok (.aload_n 0, 1) := by decide +kernel
theorem dX10_laysRight_13 : decode cX10_laysRight 13 = .ok (.getfield 38, 3) := by decide +kernel
theorem dX10_laysRight_16 : decode cX10_laysRight 16 = .ok (.iload_n 2, 1) := by decide +kernel
theorem dX10_laysRight_17 : decode cX10_laysRight 17 = .ok (.iconst 1, 1) := by decide +kernel
theorem dX10_laysRight_18 : decode cX10_laysRight 18 = .ok (.bastore, 1) := by decide +kernel
theorem dX10_laysRight_19 : decode cX10_laysRight 19 = .ok (.iinc 2 1, 3) := by decide +kernel
theorem dX10_laysRight_22 : decode cX10_laysRight 22 = .ok (.goto (-16), 3) := by decide +kernel
theorem dX10_laysRight_25 : decode cX10_laysRight 25 = .ok (.iconst (-1), 1) := by decide +kernel
theorem dX10_laysRight_26 : decode cX10_laysRight 26 = .ok (.istore_n 2, 1) := by decide +kernel
theorem dX10_laysRight_27 : decode cX10_laysRight 27 = .ok (.aload_n 0, 1) := by decide +kernel
theorem dX10_laysRight_28 : decode cX10_laysRight 28 = .ok (.getfield 436, 3) := by decide +kernel
theorem dX10_laysRight_31 : decode cX10_laysRight 31 = .ok (.istore_n 3, 1) := by decide +kernel
theorem dX10_laysRight_32 : decode cX10_laysRight 32 = .ok (.iload_n 3, 1) := by decide +kernel
theorem dX10_laysRight_33 : decode cX10_laysRight 33 = .ok (.ifCond .le 102, 3) := by decide +kernel
theorem dX10_laysRight_36 : decode cX10_laysRight 36 = .ok (.iconst 0, 1) := by decide +kernel
theorem dX10_laysRight_37 : decode cX10_laysRight 37 = .ok (.istore 4, 2) := by decide +kernel
theorem dX10_laysRight_39 : decode cX10_laysRight 39 = .ok (.iload_n 2, 1) := by decide +kernel
theorem dX10_laysRight_40 : decode cX10_laysRight 40 = .ok (.iconst (-1), 1) := by decide +kernel
theorem dX10_laysRight_41 : decode cX10_laysRight 41 = .ok (.if_icmp .ne 16, 3) := by decide +kernel
theorem dX10_laysRight_44 : decode cX10_laysRight 44 = .ok (.aload_n 0, 1) := by decide +kernel
theorem dX10_laysRight_45 : decode cX10_laysRight 45 = .ok (.iload_n 1, 1) := by decide +kernel
theorem dX10_laysRight_46 : decode cX10_laysRight 46 = .ok (.iload 4, 2) := by decide +kernel
theorem dX10_laysRight_48 : decode cX10_laysRight 48 = .ok (.invokevirtual 372, 3) := by decide +kernel
theorem dX10_laysRight_51 : decode cX10_laysRight 51 = .ok (.ifCond .eq 30, 3) := by decide +kernel
theorem dX10_laysRight_54 : decode cX10_laysRight 54 = .ok (.goto 17, 3) := by decide +kernel
theorem dX10_laysRight_57 : decode cX10_laysRight 57 = .ok (.aload_n 0, 1) := by decide +kernel
theorem dX10_laysRight_58 : decode cX10_laysRight 58 = .ok (.getfield 346, 3) := by decide +kernel
theorem dX10_laysRight_61 : decode cX10_laysRight 61 = .ok (.iconst 1, 1) := by decide +kernel
theorem dX10_laysRight_62 : decode cX10_laysRight 62 = .ok (.iload 4, 2) := by decide +kernel
theorem dX10_laysRight_64 : decode cX10_laysRight 64 = .ok (.iload_n 2, 1) := by decide +kernel
theorem dX10_laysRight_65 : decode cX10_laysRight 65 = .ok (.invokevirtual 299, 3) := by decide +kernel
theorem dX10_laysRight_68 : decode cX10_laysRight 68 = .ok (.ifCond .eq 13, 3) := by decide +kernel
theorem dX10_laysRight_71 : decode cX10_laysRight 71 = .ok (.aload_n 0, 1) := by decide +kernel
theorem dX10_laysRight_72 : decode cX10_laysRight 72 = .ok (.iload_n 3, 1) := by decide +kernel
theorem dX10_laysRight_73 : decode cX10_laysRight 73 = .ok (.iload 4, 2) := by decide +kernel
theorem dX10_laysRight_75 : decode cX10_laysRight 75 = .ok (.invokevirtual 462, 3) := by decide +kernel
