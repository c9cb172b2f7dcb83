theorem dX10_goMinute_13 : decode cX10_goMinute 13 = .ok (.getfield 61, 3) := by decide +kernel
theorem dX10_goMinute_16 : decode cX10_goMinute 16 = .ok (.bipush 6, 2) := by decide +kernel
theorem dX10_goMinute_18 : decode cX10_goMinute 18 = .ok (.iload_n 2, 1) := by decide +kernel
theorem dX10_goMinute_19 : decode cX10_goMinute 19 = .ok (.imul, 1) := by decide +kernel
theorem dX10_goMinute_20 : decode cX10_goMinute 20 = .ok (.bipush 6, 2) := by decide +kernel
theorem dX10_goMinute_22 : decode cX10_goMinute 22 = .ok (.isub, 1) := by decide +kernel
theorem dX10_goMinute_23 : decode cX10_goMinute 23 = .ok (.iload_n 3, 1) := by decide +kernel
theorem dX10_goMinute_24 : decode cX10_goMinute 24 = .ok (.iadd, 1) := by decide +kernel
theorem dX10_goMinute_25 : decode cX10_goMinute 25 = .ok (.iaload, 1) := by decide +kernel
theorem dX10_goMinute_26 : decode cX10_goMinute 26 = .ok (.istore 4, 2) := by decide +kernel
theorem dX10_goMinute_28 : decode cX10_goMinute 28 = .ok (.aload_n 0, 1) := by decide +kernel
theorem dX10_goMinute_29 : decode cX10_goMinute 29 = .ok (.getfield 67, 3) := by decide +kernel
theorem dX10_goMinute_32 : decode cX10_goMinute 32 = .ok (.iload_n 3, 1) := by decide +kernel
theorem dX10_goMinute_33 : decode cX10_goMinute 33 = .ok (.iaload, 1) := by decide +kernel
theorem dX10_goMinute_34 : decode cX10_goMinute 34 = .ok (.ifCond .ge 16, 3) := by decide +kernel
theorem dX10_goMinute_37 : decode cX10_goMinute 37 = .ok (.aload_n 0, 1) := by decide +kernel
theorem dX10_goMinute_38 : decode cX10_goMinute 38 = .ok (.getfield 64, 3) := by decide +kernel
theorem dX10_goMinute_41 : decode cX10_goMinute 41 = .ok (.iload_n 3, 1) := by decide +kernel
theorem dX10_goMinute_42 : decode cX10_goMinute 42 = .ok (.iaload, 1) := by decide +kernel
theorem dX10_goMinute_43 : decode cX10_goMinute 43 = .ok (.ifCond .ne 7, 3) := by decide +kernel
theorem dX10_goMinute_46 : decode cX10_goMinute 46 = .ok (.iconst 1, 1) := by decide +kernel
theorem dX10_goMinute_47 : decode cX10_goMinute 47 = .ok (.goto 4, 3) := by decide +kernel
theorem dX10_goMinute_50 : decode cX10_goMinute 50 = .ok (.iconst 0, 1) := by decide +kernel
theorem dX10_goMinute_51 : decode cX10_goMinute 51 = .ok (.istore 5, 2) := by decide +kernel
theorem dX10_goMinute_53 : decode cX10_goMinute 53 = .ok (.aload_n 0, 1) := by decide +kernel
theorem dX10_goMinute_54 : decode cX10_goMinute 54 = .ok (.getfield 19, 3) := by decide +kernel
theorem dX10_goMinute_57 : decode cX10_goMinute 57 = .ok (.iload_n 3, 1) := by decide +kernel
theorem dX10_goMinute_58 : decode cX10_goMinute 58 = .ok (.iaload, 1) := by decide +kernel
theorem dX10_goMinute_59 : decode cX10_goMinute 59 = .ok (.ifCond .ne 15, 3) := by decide +kernel
theorem dX10_goMinute_62 : decode cX10_goMinute 62 = .ok (.iload 4, 2) := by decide +kernel
theorem dX10_goMinute_64 : decode cX10_goMinute 64 = .ok (.aload_n 0, 1) := by decide +kernel
theorem dX10_goMinute_65 : decode cX10_goMinute 65 = .ok (.getfield 22, 3) := by decide +kernel
theorem dX10_goMinute_68 : decode cX10_goMinute 68 = .ok (.iload_n 3, 1) := by decide +kernel
theorem dX10_goMinute_69 : decode cX10_goMinute 69 = .ok (.iaload, 1) := by decide +kernel
theorem dX10_goMinute_70 : decode cX10_goMinute 70 = .ok (.iadd, 1) := by decide +kernel
theorem dX10_goMinute_71 : decode cX10_goMinute 71 = .ok (.goto 12, 3) := by decide +kernel
theorem dX10_goMinute_74 : decode cX10_goMinute 74 = .ok (.iload 4, 2) := by decide +kernel
theorem dX10_goMinute_76 : decode cX10_goMinute 76 = .ok (.aload_n 0, 1) := by decide +kernel
theorem dX10_goMinute_77 : decode cX10_goMinute 77 = .ok (.getfield 22, 3) := by decide +kernel
theorem dX10_goMinute_80 : decode cX10_goMinute 80 = .ok (.iload_n 3, 1) := by decide +kernel
theorem dX10_goMinute_81 : decode cX10_goMinute 81 = .ok (.iaload, 1) := by decide +kernel
theorem dX10_goMinute_82 : decode cX10_goMinute 82 = .ok (.isub, 1) := by decide +kernel
theorem dX10_goMinute_83 : decode cX10_goMinute 83 = .ok (.istore 6, 2) := by decide +kernel
theorem dX10_goMinute_85 : decode cX10_goMinute 85 = .ok (.aload_n 0, 1) := by decide +kernel
theorem dX10_goMinute_86 : decode cX10_goMinute 86 = .ok (.getfield 61, 3) := by decide +kernel
theorem dX10_goMinute_89 : decode cX10_goMinute 89 = .ok (.bipush 6, 2) := by decide +kernel
theorem dX10_goMinute_91 : decode cX10_goMinute 91 = .ok (.iload_n 2, 1) := by decide +kernel
theorem dX10_goMinute_92 : decode cX10_goMinute 92 = .ok (.imul, 1) := by decide +kernel
theorem dX10_goMinute_93 : decode cX10_goMinute 93 = .ok (.iload_n 3, 1) := by decide +kernel
theorem dX10_goMinute_94 : decode cX10_goMinute 94 = .ok (.iadd, 1) := by decide +kernel
theorem dX10_goMinute_95 : decode cX10_goMinute 95 = .ok (.iload 5, 2) := by decide +kernel
theorem dX10_goMinute_97 : decode cX10_goMinute 97 = .ok (.ifCond .ne 8, 3) := by decide +kernel
theorem dX10_goMinute_100 : decode cX10_goMinute 100 = .ok (.iload 4, 2) := by decide +kernel
theorem dX10_goMinute_102 : decode cX10_goMinute 102 = .ok (.goto 26, 3) := by decide +kernel
theorem dX10_goMinute_105 : decode cX10_goMinute 105 = .ok (.iload 6, 2) := by decide +kernel
theorem dX10_goMinute_107 : decode cX10_goMinute 107 = .ok (.bipush 60, 2) := by decide +kernel
theorem dX10_goMinute_109 : decode cX10_goMinute 109 = .ok (.if_icmp .le 8, 3) := by decide +kernel
theorem dX10_goMinute_112 : decode cX10_goMinute 112 = .ok (.bipush 60, 2) := by decide +kernel
theorem dX10_goMinute_114 : decode cX10_goMinute 114 = .ok (.goto 14, 3) := by decide +kernel
theorem dX10_goMinute_117 : decode cX10_goMinute 117 = .ok (.iload 6, 2) := by decide +kernel
theorem dX10_goMinute_119 : decode cX10_goMinute 119 = .ok (.ifCond .ge 7, 3) := by decide +kernel
theorem dX10_goMinute_122 : decode cX10_goMinute 122 = .ok (.iconst 0, 1) := by decide +kernel
theorem dX10_goMinute_123 : decode cX10_goMinute 123 = .ok (.goto 5, 3) := by decide +kernel
theorem dX10_goMinute_126 : decode cX10_goMinute 126 = .ok (.iload 6, 2) := by decide +kernel
theorem dX10_goMinute_128 : decode cX10_goMinute 128 = .ok (.iastore, 1) := by decide +kernel
theorem dX10_goMinute_129 : decode cX10_goMinute 129 = .ok (.aload_n 0, 1) := by decide +kernel
theorem dX10_goMinute_130 : decode cX10_goMinute 130 = .ok (.getfield 64, 3) := by decide +kernel
theorem dX10_goMinute_133 : decode cX10_goMinute 133 = .ok (.iload_n 3, 1) := by decide +kernel
theorem dX10_goMinute_134 : decode cX10_goMinute 134 = .ok (.dup2, 1) := by decide +kernel
theorem dX10_goMinute_135 : decode cX10_goMinute 135 = .ok (.iaload, 1) := by decide +kernel
theorem dX10_goMinute_136 : decode cX10_goMinute 136 = .ok (.aload_n 0, 1) := by decide +kernel
theorem dX10_goMinute_137 : decode cX10_goMinute 137 = .ok (.getfield 64, 3) := by decide +kernel
theorem dX10_goMinute_140 : decode cX10_goMinute 140 = .ok (.iload_n 3, 1) := by decide +kernel
theorem dX10_goMinute_141 : decode cX10_goMinute 141 = .ok (.iaload, 1) := by decide +kernel
theorem dX10_goMinute_142 : decode cX10_goMinute 142 = .ok (.ifCond .le 7, 3) := by decide +kernel
theorem dX10_goMinute_145 : decode cX10_goMinute 145 = .ok (.iconst 1, 1) := by decide +kernel
theorem dX10_goMinute_146 : decode cX10_goMinute 146 = .ok (.goto 4, 3) := by decide +kernel
theorem dX10_goMinute_149 : decode cX10_goMinute 149 = .ok (.iconst 0, 1) := by decide +kernel
theorem dX10_goMinute_150 : decode cX10_goMinute 150 = .ok (.isub, 1) := by decide +kernel
theorem dX10_goMinute_151 : decode cX10_goMinute 151 = .ok (.iastore, 1) := by decide +kernel
theorem dX10_goMinute_152 : decode cX10_goMinute 152 = .ok (.iinc 3 1, 3) := by decide +kernel
theorem dX10_goMinute_155 : decode cX10_goMinute 155 = .ok (.goto (-153), 3) := by decide +kernel
theorem dX10_goMinute_158 : decode cX10_goMinute 158 = .ok (.iconst 0, 1) := by decide +kernel
theorem dX10_goMinute_159 : decode cX10_goMinute 159 = .ok (.istore_n 3, 1) := by decide +kernel
theorem dX10_goMinute_160 : decode cX10_goMinute 160 = .ok (.iload_n 3, 1) := by decide +kernel
theorem dX10_goMinute_161 : decode cX10_goMinute 161 = .ok (.aload_n 0, 1) := by decide +kernel
theorem dX10_goMinute_162 : decode cX10_goMinute 162 = .ok (.getfield 13, 3) := by decide +kernel
theorem dX10_goMinute_165 : decode cX10_goMinute 165 = .ok (.iconst 0, 1) := by decide +kernel
theorem dX10_goMinute_166 : decode cX10_goMinute 166 = .ok (.iaload, 1) := by decide +kernel
theorem dX10_goMinute_167 : decode cX10_goMinute 167 = .ok (.if_icmp .ge 51, 3) := by decide +kernel
theorem dX10_goMinute_170 : decode cX10_goMinute 170 = .ok (.iload_n 3, 1) := by decide +kernel
theorem dX10_goMinute_171 : decode cX10_goMinute 171 = .ok (.iconst 1, 1) := by decide +kernel
theorem dX10_goMinute_172 : decode cX10_goMinute 172 = .ok (.iadd, 1) := by decide +kernel
theorem dX10_goMinute_173 : decode cX10_goMinute 173 = .ok (.istore 4, 2) := by decide +kernel
theorem dX10_goMinute_175 : decode cX10_goMinute 175 = .ok (.iload 4, 2) := by decide +kernel
theorem dX10_goMinute_177 : decode cX10_goMinute 177 = .ok (.aload_n 0, 1) := by decide +kernel
theorem dX10_goMinute_178 : decode cX10_goMinute 178 = .ok (.getfield 13, 3) := by decide +kernel
theorem dX10_goMinute_181 : decode cX10_goMinute 181 = .ok (.iconst 0, 1) := by decide +kernel
theorem dX10_goMinute_182 : decode cX10_goMinute 182 = .ok (.iaload, 1) := by decide +kernel
theorem dX10_goMinute_183 : decode cX10_goMinute 183 = .ok (.if_icmp .ge 29, 3) := by decide +kernel
theorem dX10_goMinute_186 : decode cX10_goMinute 186 = .ok (.aload_n 0, 1) := by decide +kernel
theorem dX10_goMinute_187 : decode cX10_goMinute 187 = .ok (.iload_n 3, 1) := by decide +kernel
theorem dX10_goMinute_188 : decode cX10_goMinute 188 = .ok (.iload 4, 2) := by decide +kernel
theorem dX10_goMinute_190 : decode cX10_goMinute 190 = .ok (.iload_n 2, 1) := by decide +kernel
theorem dX10_goMinute_191 : decode cX10_goMinute 191 = .ok (.invokevirtual 198, 3) := by decide +kernel
theorem dX10_goMinute_194 : decode cX10_goMinute 194 = .ok (.ifCond .eq 12, 3) := by decide +kernel
theorem dX10_goMinute_197 : decode cX10_goMinute 197 = .ok (.aload_n 0, 1) := by decide +kernel
theorem dX10_goMinute_198 : decode cX10_goMinute 198 = .ok (.iload_n 1, 1) := by decide +kernel
theorem dX10_goMinute_199 : decode cX10_goMinute 199 = .ok (.iload_n 3, 1) := by decide +kernel
theorem dX10_goMinute_200 : decode cX10_goMinute 200 = .ok (.iload 4, 2) := by decide +kernel
theorem dX10_goMinute_202 : decode cX10_goMinute 202 = .ok (.iload_n 2, 1) := by decide +kernel
theorem dX10_goMinute_203 : decode cX10_goMinute 203 = .ok (.invokevirtual 201, 3) := by decide +kernel
theorem dX10_goMinute_206 : decode cX10_goMinute 206 = .ok (.iinc 4 1, 3) := by decide +kernel
theorem dX10_goMinute_209 : decode cX10_goMinute 209 = .ok (.goto (-34), 3) := by decide +kernel
theorem dX10_goMinute_212 : decode cX10_goMinute 212 = .ok (.iinc 3 1, 3) := by decide +kernel
theorem dX10_goMinute_215 : decode cX10_goMinute 215 = .ok (.goto (-55), 3) := by decide +kernel
theorem dX10_goMinute_218 : decode cX10_goMinute 218 = .ok (.iconst 0, 1) := by decide +kernel
theorem dX10_goMinute_219 : decode cX10_goMinute 219 = .ok (.istore_n 3, 1) := by decide +kernel
theorem dX10_goMinute_220 : decode cX10_goMinute 220 = .ok (.iload_n 3, 1) := by decide +kernel
theorem dX10_goMinute_221 : decode cX10_goMinute 221 = .ok (.aload_n 0, 1) := by decide +kernel
theorem dX10_goMinute_222 : decode cX10_goMinute 222 = .ok (.getfield 13, 3) := by decide +kernel
theorem dX10_goMinute_225 : decode cX10_goMinute 225 = .ok (.iconst 0, 1) := by decide +kernel
theorem dX10_goMinute_226 : decode cX10_goMinute 226 = .ok (.iaload, 1) := by decide +kernel
theorem dX10_goMinute_227 : decode cX10_goMinute 227 = .ok (.if_icmp .ge 53, 3) := by decide +kernel
theorem dX10_goMinute_230 : decode cX10_goMinute 230 = .ok (.aload_n 0, 1) := by decide +kernel
theorem dX10_goMinute_231 : decode cX10_goMinute 231 = .ok (.getfield 67, 3) := by decide +kernel
theorem dX10_goMinute_234 : decode cX10_goMinute 234 = .ok (.iload_n 3, 1) := by decide +kernel
theorem dX10_goMinute_235 : decode cX10_goMinute 235 = .ok (.aload_n 0, 1) := by decide +kernel
theorem dX10_goMinute_236 : decode cX10_goMinute 236 = .ok (.getfield 67, 3) := by decide +kernel
theorem dX10_goMinute_239 : decode cX10_goMinute 239 = .ok (.iload_n 3, 1) := by decide +kernel
theorem dX10_goMinute_240 : decode cX10_goMinute 240 = .ok (.iaload, 1) := by decide +kernel
theorem dX10_goMinute_241 : decode cX10_goMinute 241 = .ok (.ifCond .ge 26, 3) := by decide +kernel
theorem dX10_goMinute_244 : decode cX10_goMinute 244 = .ok (.aload_n 0, 1) := by decide +kernel
theorem dX10_goMinute_245 : decode cX10_goMinute 245 = .ok (.getfield 61, 3) := by decide +kernel
theorem dX10_goMinute_248 : decode cX10_goMinute 248 = .ok (.bipush 6, 2) := by decide +kernel
theorem dX10_goMinute_250 : decode cX10_goMinute 250 = .ok (.iload_n 2, 1) := by decide +kernel
theorem dX10_goMinute_251 : decode cX10_goMinute 251 = .ok (.imul, 1) := by decide +kernel
theorem dX10_goMinute_252 : decode cX10_goMinute 252 = .ok (.iload_n 3, 1) := by decide +kernel
theorem dX10_goMinute_253 : decode cX10_goMinute 253 = .ok (.iadd, 1) := by decide +kernel
theorem dX10_goMinute_254 : decode cX10_goMinute 254 = .ok (.iaload, 1) := by decide +kernel
theorem dX10_goMinute_255 : decode cX10_goMinute 255 = .ok (.aload_n 0, 1) := by decide +kernel
theorem dX10_goMinute_256 : decode cX10_goMinute 256 = .ok (.iload_n 3, 1) := by decide +kernel
theorem dX10_goMinute_257 : decode cX10_goMinute 257 = .ok (.invokevirtual 182, 3) := by decide +kernel
theorem dX10_goMinute_260 : decode cX10_goMinute 260 = .ok (.if_icmp .ne 7, 3) := by decide +kernel
theorem dX10_goMinute_263 : decode cX10_goMinute 263 = .ok (.iload_n 2, 1) := by decide +kernel
theorem dX10_goMinute_264 : decode cX10_goMinute 264 = .ok (.goto 9, 3) := by decide +kernel
theorem dX10_goMinute_267 : decode cX10_goMinute 267 = .ok (.aload_n 0, 1) := by decide +kernel
theorem dX10_goMinute_268 : decode cX10_goMinute 268 = .ok (.getfield 67, 3) := by decide +kernel
theorem dX10_goMinute_271 : decode cX10_goMinute 271 = .ok (.iload_n 3, 1) := by decide +kernel
theorem dX10_goMinute_272 : decode cX10_goMinute 272 = .ok (.iaload, 1) := by decide +kernel
theorem dX10_goMinute_273 : decode cX10_goMinute 273 = .ok (.iastore, 1) := by decide +kernel
theorem dX10_goMinute_274 : decode cX10_goMinute 274 = .ok (.iinc 3 1, 3) := by decide +kernel
theorem dX10_goMinute_277 : decode cX10_goMinute 277 = .ok (.goto (-57), 3) := by decide +kernel
theorem dX10_goMinute_280 : decode cX10_goMinute 280 = .ok (.return_, 1) := by decide +kernel
theorem dX10_goDay_0 : decode cX10_goDay 0 = .ok (.aload_n 0, 1) := by decide +kernel
theorem dX10_goDay_1 : decode cX10_goDay 1 = .ok (.iconst 0, 1) := by decide +kernel
theorem dX10_goDay_2 : decode cX10_goDay 2 = .ok (.putfield 195, 3) := by decide +kernel
theorem dX10_goDay_5 : decode cX10_goDay 5 = .ok (.iconst 0, 1) := by decide +kernel
theorem dX10_goDay_6 : decode cX10_goDay 6 = .ok (.istore_n 2, 1) := by decide +kernel
theorem dX10_goDay_7 : decode cX10_goDay 7 = .ok (.iload_n 2, 1) := by decide +kernel
theorem dX10_goDay_8 : decode cX10_goDay 8 = .ok (.aload_n 0, 1) := by decide +kernel
theorem dX10_goDay_9 : decode cX10_goDay 9 = .ok (.getfield 13, 3) := by decide +kernel
theorem dX10_goDay_12 : decode cX10_goDay 12 = .ok (.iconst 0, 1) := by decide +kernel
theorem dX10_goDay_13 : decode cX10_goDay 13 = .ok (.iaload, 1) := by decide +kernel
theorem dX10_goDay_14 : decode cX10_goDay 14 = .ok (.if_icmp .ge 96, 3) := by decide +kernel
theorem dX10_goDay_17 : decode cX10_goDay 17 = .ok (.aload_n 0, 1) := by decide +kernel
theorem dX10_goDay_18 : decode cX10_goDay 18 = .ok (.getfield 61, 3) := by decide +kernel
theorem dX10_goDay_21 : decode cX10_goDay 21 = .ok (.iload_n 2, 1) := by decide +kernel
theorem dX10_goDay_22 : decode cX10_goDay 22 = .ok (.aload_n 0, 1) := by decide +kernel
theorem dX10_goDay_23 : decode cX10_goDay 23 = .ok (.getfield 16, 3) := by decide +kernel
theorem dX10_goDay_26 : decode cX10_goDay 26 = .ok (.iload_n 2, 1) := by decide +kernel
theorem dX10_goDay_27 : decode cX10_goDay 27 = .ok (.iaload, 1) := by decide +kernel
theorem dX10_goDay_28 : decode cX10_goDay 28 = .ok (.iastore, 1) := by decide +kernel
theorem dX10_goDay_29 : decode cX10_goDay 29 = .ok (.aload_n 0, 1) := by decide +kernel
theorem dX10_goDay_30 : decode cX10_goDay 30 = .ok (.getfield 64, 3) := by decide +kernel
theorem dX10_goDay_33 : decode cX10_goDay 33 = .ok (.iload_n 2, 1) := by decide +kernel
theorem dX10_goDay_34 : decode cX10_goDay 34 = .ok (.aload_n 0, 1) := by decide +kernel
theorem dX10_goDay_35 : decode cX10_goDay 35 = .ok (.getfield 43, 3) := by decide +kernel
theorem dX10_goDay_38 : decode cX10_goDay 38 = .ok (.bipush 6, 2) := by decide +kernel
theorem dX10_goDay_40 : decode cX10_goDay 40 = .ok (.iload_n 2, 1) := by decide +kernel
theorem dX10_goDay_41 : decode cX10_goDay 41 = .ok (.iadd, 1) := by decide +kernel
theorem dX10_goDay_42 : decode cX10_goDay 42 = .ok (.iaload, 1) := by decide +kernel
theorem dX10_goDay_43 : decode cX10_goDay 43 = .ok (.iastore, 1) := by decide +kernel
theorem dX10_goDay_44 : decode cX10_goDay 44 = .ok (.aload_n 0, 1) := by decide +kernel
theorem dX10_goDay_45 : decode cX10_goDay 45 = .ok (.getfield 67, 3) := by decide +kernel
theorem dX10_goDay_48 : decode cX10_goDay 48 = .ok (.iload_n 2, 1) := by decide +kernel
theorem dX10_goDay_49 : decode cX10_goDay 49 = .ok (.aload_n 0, 1) := by decide +kernel
theorem dX10_goDay_50 : decode cX10_goDay 50 = .ok (.getfield 16, 3) := by decide +kernel
theorem dX10_goDay_53 : decode cX10_goDay 53 = .ok (.iload_n 2, 1) := by decide +kernel
theorem dX10_goDay_54 : decode cX10_goDay 54 = .ok (.iaload, 1) := by decide +kernel
theorem dX10_goDay_55 : decode cX10_goDay 55 = .ok (.aload_n 0, 1) := by decide +kernel
theorem dX10_goDay_56 : decode cX10_goDay 56 = .ok (.iload_n 2, 1) := by decide +kernel
theorem dX10_goDay_57 : decode cX10_goDay 57 = .ok (.invokevirtual 182, 3) := by decide +kernel
theorem dX10_goDay_60 : decode cX10_goDay 60 = .ok (.if_icmp .ne 7, 3) := by decide +kernel
theorem dX10_goDay_63 : decode cX10_goDay 63 = .ok (.iconst 0, 1) := by decide +kernel
theorem dX10_goDay_64 : decode cX10_goDay 64 = .ok (.goto 5, 3) := by decide +kernel
theorem dX10_goDay_67 : decode cX10_goDay 67 = .ok (.bipush (-4), 2) := by decide +kernel
theorem dX10_goDay_69 : decode cX10_goDay 69 = .ok (.iastore, 1) := by decide +kernel
theorem dX10_goDay_70 : decode cX10_goDay 70 = .ok (.aload_n 0, 1) := by decide +kernel
theorem dX10_goDay_71 : decode cX10_goDay 71 = .ok (.getfield 70, 3) := by decide +kernel
theorem dX10_goDay_74 : decode cX10_goDay 74 = .ok (.iload_n 2, 1) := by decide +kernel
theorem dX10_goDay_75 : decode cX10_goDay 75 = .ok (.iconst 0, 1) := by decide +kernel
theorem dX10_goDay_76 : decode cX10_goDay 76 = .ok (.iastore, 1) := by decide +kernel
theorem dX10_goDay_77 : decode cX10_goDay 77 = .ok (.aload_n 0, 1) := by decide +kernel
theorem dX10_goDay_78 : decode cX10_goDay 78 = .ok (.getfield 73, 3) := by decide +kernel
theorem dX10_goDay_81 : decode cX10_goDay 81 = .ok (.iload_n 2, 1) := by decide +kernel
theorem dX10_goDay_82 : decode cX10_goDay 82 = .ok (.iconst 0, 1) := by decide +kernel
theorem dX10_goDay_83 : decode cX10_goDay 83 = .ok (.iastore, 1) := by decide +kernel
theorem dX10_goDay_84 : decode cX10_goDay 84 = .ok (.aload_n 0, 1) := by decide +kernel
theorem dX10_goDay_85 : decode cX10_goDay 85 = .ok (.getfield 76, 3) := by decide +kernel
theorem dX10_goDay_88 : decode cX10_goDay 88 = .ok (.iload_n 2, 1) := by decide +kernel
theorem dX10_goDay_89 : decode cX10_goDay 89 = .ok (.aload_n 0, 1) := by decide +kernel
theorem dX10_goDay_90 : decode cX10_goDay 90 = .ok (.getfield 67, 3) := by decide +kernel
theorem dX10_goDay_93 : decode cX10_goDay 93 = .ok (.iload_n 2, 1) := by decide +kernel
theorem dX10_goDay_94 : decode cX10_goDay 94 = .ok (.iaload, 1) := by decide +kernel
theorem dX10_goDay_95 : decode cX10_goDay 95 = .ok (.ifCond .ne 7, 3) := by decide +kernel
theorem dX10_goDay_98 : decode cX10_goDay 98 = .ok (.iconst 0, 1) := by decide +kernel
theorem dX10_goDay_99 : decode cX10_goDay 99 = .ok (.goto 4, 3) := by decide +kernel
theorem dX10_goDay_102 : decode cX10_goDay 102 = .ok (.iconst 1, 1) := by decide +kernel
theorem dX10_goDay_103 : decode cX10_goDay 103 = .ok (.iastore, 1) := by decide +kernel
theorem dX10_goDay_104 : decode cX10_goDay 104 = .ok (.iinc 2 1, 3) := by decide +kernel
theorem dX10_goDay_107 : decode cX10_goDay 107 = .ok (.goto (-100), 3) := by decide +kernel
theorem dX10_goDay_110 : decode cX10_goDay 110 = .ok (.iconst 1, 1) := by decide +kernel
theorem dX10_goDay_111 : decode cX10_goDay 111 = .ok (.istore_n 2, 1) := by decide +kernel
theorem dX10_goDay_112 : decode cX10_goDay 112 = .ok (.iload_n 2, 1) := by decide +kernel
theorem dX10_goDay_113 : decode cX10_goDay 113 = .ok (.bipush 121, 2) := by decide +kernel
theorem dX10_goDay_115 : decode cX10_goDay 115 = .ok (.if_icmp .ge 15, 3) := by decide +kernel
theorem dX10_goDay_118 : decode cX10_goDay 118 = .ok (.aload_n 0, 1) := by decide +kernel
theorem dX10_goDay_119 : decode cX10_goDay 119 = .ok (.iload_n 1, 1) := by decide +kernel
theorem dX10_goDay_120 : decode cX10_goDay 120 = .ok (.iload_n 2, 1) := by decide +kernel
theorem dX10_goDay_121 : decode cX10_goDay 121 = .ok (.invokevirtual 205, 3) := by decide +kernel
theorem dX10_goDay_124 : decode cX10_goDay 124 = .ok (.iinc 2 1, 3) := by decide +kernel
theorem dX10_goDay_127 : decode cX10_goDay 127 = .ok (.goto (-15), 3) := by decide +kernel
theorem dX10_goDay_130 : decode cX10_goDay 130 = .ok (.iconst 0, 1) := by decide +kernel
theorem dX10_goDay_131 : decode cX10_goDay 131 = .ok (.istore_n 2, 1) := by decide +kernel
theorem dX10_goDay_132 : decode cX10_goDay 132 = .ok (.iconst 0, 1) := by decide +kernel
theorem dX10_goDay_133 : decode cX10_goDay 133 = .ok (.istore_n 3, 1) := by decide +kernel
theorem dX10_goDay_134 : decode cX10_goDay 134 = .ok (.iload_n 3, 1) := by decide +kernel
theorem dX10_goDay_135 : decode cX10_goDay 135 = .ok (.aload_n 0, 1) := by decide +kernel
theorem dX10_goDay_136 : decode cX10_goDay 136 = .ok (.getfield 13, 3) := by decide +kernel
theorem dX10_goDay_139 : decode cX10_goDay 139 = .ok (.iconst 0, 1) := by decide +kernel
theorem dX10_goDay_140 : decode cX10_goDay 140 = .ok (.iaload, 1) := by decide +kernel
theorem dX10_goDay_141 : decode cX10_goDay 141 = .ok (.if_icmp .ge 18, 3) := by decide +kernel
theorem dX10_goDay_144 : decode cX10_goDay 144 = .ok (.iload_n 2, 1) := by decide +kernel
theorem dX10_goDay_145 : decode cX10_goDay 145 = .ok (.aload_n 0, 1) := by decide +kernel
theorem dX10_goDay_146 : decode cX10_goDay 146 = .ok (.getfield 70, 3) := by decide +kernel
theorem dX10_goDay_149 : decode cX10_goDay 149 = .ok (.iload_n 3, 1) := by decide +kernel
theorem dX10_goDay_150 : decode cX10_goDay 150 = .ok (.iaload, 1) := by decide +kernel
theorem dX10_goDay_151 : decode cX10_goDay 151 = .ok (.iadd, 1) := by decide +kernel
theorem dX10_goDay_152 : decode cX10_goDay 152 = .ok (.istore_n 2, 1) := by decide +kernel
theorem dX10_goDay_153 : decode cX10_goDay 153 = .ok (.iinc 3 1, 3) := by decide +kernel
theorem dX10_goDay_156 : decode cX10_goDay 156 = .ok (.goto (-22), 3) := by decide +kernel
theorem dX10_goDay_159 : decode cX10_goDay 159 = .ok (.iload_n 2, 1) := by decide +kernel
theorem dX10_goDay_160 : decode cX10_goDay 160 = .ok (.ireturn, 1) := by decide +kernel
theorem dX10_where_0 : decode cX10_where 0 = .ok (.iload_n 1, 1) := by decide +kernel
theorem dX10_where_1 : decode cX10_where 1 = .ok (.invokestatic 209, 3) := by decide +kernel
theorem dX10_where_4 : decode cX10_where 4 = .ok (.ifCond .eq 23, 3) := by decide +kernel
theorem dX10_where_7 : decode cX10_where 7 = .ok (.aload_n 0, 1) := by decide +kernel
theorem dX10_where_8 : decode cX10_where 8 = .ok (.iload_n 2, 1) := by decide +kernel
theorem dX10_where_9 : decode cX10_where 9 = .ok (.invokevirtual 163, 3) := by decide +kernel
theorem dX10_where_12 : decode cX10_where 12 = .ok (.ifCond .eq 15, 3) := by decide +kernel
theorem dX10_where_15 : decode cX10_where 15 = .ok (.iload_n 3, 1) := by decide +kernel
theorem dX10_where_16 : decode cX10_where 16 = .ok (.i2l, 1) := by decide +kernel
theorem dX10_where_17 : decode cX10_where 17 = .ok (.lconst 0, 1) := by decide +kernel
theorem dX10_where_18 : decode cX10_where 18 = .ok (.ldc2_w 212, 3) := by decide +kernel
theorem dX10_where_21 : decode cX10_where 21 = .ok (.invokestatic 109, 3) := by decide +kernel
theorem dX10_where_24 : decode cX10_where 24 = .ok (.ifCond .ne 5, 3) := by decide +kernel
theorem dX10_where_27 : decode cX10_where 27 = .ok (.iconst (-1), 1) := by decide +kernel
theorem dX10_where_28 : decode cX10_where 28 = .ok (.ireturn, 1) := by decide +kernel
theorem dX10_where_29 : decode cX10_where 29 = .ok (.aload_n 0, 1) := by decide +kernel
theorem dX10_where_30 : decode cX10_where 30 = .ok (.iload_n 1, 1) := by decide +kernel
theorem dX10_where_31 : decode cX10_where 31 = .ok (.invokevirtual 214, 3) := by decide +kernel
theorem dX10_where_34 : decode cX10_where 34 = .ok (.pop, 1) := by decide +kernel
theorem dX10_where_35 : decode cX10_where 35 = .ok (.aload_n 0, 1) := by decide +kernel
theorem dX10_where_36 : decode cX10_where 36 = .ok (.getfield 61, 3) := by decide +kernel
theorem dX10_where_39 : decode cX10_where 39 = .ok (.bipush 6, 2) := by decide +kernel
theorem dX10_where_41 : decode cX10_where 41 = .ok (.iload_n 3, 1) := by decide +kernel
theorem dX10_where_42 : decode cX10_where 42 = .ok (.imul, 1) := by decide +kernel
theorem dX10_where_43 : decode cX10_where 43 = .ok (.iload_n 2, 1) := by decide +kernel
theorem dX10_where_44 : decode cX10_where 44 = .ok (.iadd, 1) := by decide +kernel
theorem dX10_where_45 : decode cX10_where 45 = .ok (.iaload, 1) := by decide +kernel
theorem dX10_where_46 : decode cX10_where 46 = .ok (.ireturn, 1) := by decide +kernel
theorem dX10_there_0 : decode cX10_there 0 = .ok (.iload_n 1, 1) := by decide +kernel
theorem dX10_there_1 : decode cX10_there 1 = .ok (.invokestatic 209, 3) := by decide +kernel
theorem dX10_there_4 : decode cX10_there 4 = .ok (.ifCond .eq 11, 3) := by decide +kernel
theorem dX10_there_7 : decode cX10_there 7 = .ok (.aload_n 0, 1) := by decide +kernel
theorem dX10_there_8 : decode cX10_there 8 = .ok (.iload_n 2, 1) := by decide +kernel
theorem dX10_there_9 : decode cX10_there 9 = .ok (.invokevirtual 163, 3) := by decide +kernel
theorem dX10_there_12 : decode cX10_there 12 = .ok (.ifCond .ne 5, 3) := by decide +kernel
theorem dX10_there_15 : decode cX10_there 15 = .ok (.iconst (-1), 1) := by decide +kernel
theorem dX10_there_16 : decode cX10_there 16 = .ok (.ireturn, 1) := by decide +kernel
theorem dX10_there_17 : decode cX10_there 17 = .ok (.aload_n 0, 1) := by decide +kernel
theorem dX10_there_18 : decode cX10_there 18 = .ok (.iload_n 1, 1) := by decide +kernel
theorem dX10_there_19 : decode cX10_there 19 = .ok (.invokevirtual 214, 3) := by decide +kernel
theorem dX10_there_22 : decode cX10_there 22 = .ok (.pop, 1) := by decide +kernel
theorem dX10_there_23 : decode cX10_there 23 = .ok (.aload_n 0, 1) := by decide +kernel
theorem dX10_there_24 : decode cX10_there 24 = .ok (.getfield 67, 3) := by decide +kernel
theorem dX10_there_27 : decode cX10_there 27 = .ok (.iload_n 2, 1) := by decide +kernel
theorem dX10_there_28 : decode cX10_there 28 = .ok (.iaload, 1) := by decide +kernel
theorem dX10_there_29 : decode cX10_there 29 = .ok (.ireturn, 1) := by decide +kernel
theorem dX10_stands_0 : decode cX10_stands 0 = .ok (.iload_n 1, 1) := by decide +kernel
theorem dX10_stands_1 : decode cX10_stands 1 = .ok (.invokestatic 209, 3) := by decide +kernel
theorem dX10_stands_4 : decode cX10_stands 4 = .ok (.ifCond .eq 16, 3) := by decide +kernel
theorem dX10_stands_7 : decode cX10_stands 7 = .ok (.iload_n 2, 1) := by decide +kernel
theorem dX10_stands_8 : decode cX10_stands 8 = .ok (.iconst (-1), 1) := by decide +kernel
theorem dX10_stands_9 : decode cX10_stands 9 = .ok (.if_icmp .eq 13, 3) := by decide +kernel
theorem dX10_stands_12 : decode cX10_stands 12 = .ok (.aload_n 0, 1) := by decide +kernel
theorem dX10_stands_13 : decode cX10_stands 13 = .ok (.iload_n 2, 1) := by decide +kernel
theorem dX10_stands_14 : decode cX10_stands 14 = .ok (.invokevirtual 163, 3) := by decide +kernel
theorem dX10_stands_17 : decode cX10_stands 17 = .ok (.ifCond .ne 5, 3) := by decide +kernel
theorem dX10_stands_20 : decode cX10_stands 20 = .ok (.iconst (-1), 1) := by decide +kernel
theorem dX10_stands_21 : decode cX10_stands 21 = .ok (.ireturn, 1) := by decide +kernel
theorem dX10_stands_22 : decode cX10_stands 22 = .ok (.aload_n 0, 1) := by decide +kernel
theorem dX10_stands_23 : decode cX10_stands 23 = .ok (.iload_n 1, 1) := by decide +kernel
theorem dX10_stands_24 : decode cX10_stands 24 = .ok (.invokevirtual 214, 3) := by decide +kernel
theorem dX10_stands_27 : decode cX10_stands 27 = .ok (.istore_n 3, 1) := by decide +kernel
theorem dX10_stands_28 : decode cX10_stands 28 = .ok (.iload_n 2, 1) := by decide +kernel
theorem dX10_stands_29 : decode cX10_stands 29 = .ok (.ifCond .ge 7, 3) := by decide +kernel
theorem dX10_stands_32 : decode cX10_stands 32 = .ok (.iload_n 3, 1) := by decide +kernel
theorem dX10_stands_33 : decode cX10_stands 33 = .ok (.goto 9, 3) := by decide +kernel
theorem dX10_stands_36 : decode cX10_stands 36 = .ok (.aload_n 0, 1) := by decide +kernel
theorem dX10_stands_37 : decode cX10_stands 37 = .ok (.getfield 70, 3) := by decide +kernel
theorem dX10_stands_40 : decode cX10_stands 40 = .ok (.iload_n 2, 1) := by decide +kernel
theorem dX10_stands_41 : decode cX10_stands 41 = .ok (.iaload, 1) := by decide +kernel
theorem dX10_stands_42 : decode cX10_stands 42 = .ok (.ireturn, 1) := by decide +kernel
theorem dX10_yields_0 : decode cX10_yields 0 = .ok (.iload_n 1, 1) := by decide +kernel
theorem dX10_yields_1 : decode cX10_yields 1 = .ok (.invokestatic 209, 3) := by decide +kernel
theorem dX10_yields_4 : decode cX10_yields 4 = .ok (.ifCond .eq 11, 3) := by decide +kernel
theorem dX10_yields_7 : decode cX10_yields 7 = .ok (.aload_n 0, 1) := by decide +kernel
theorem dX10_yields_8 : decode cX10_yields 8 = .ok (.iload_n 2, 1) := by decide +kernel
theorem dX10_yields_9 : decode cX10_yields 9 = .ok (.invokevirtual 163, 3) := by decide +kernel
theorem dX10_yields_12 : decode cX10_yields 12 = .ok (.ifCond .ne 5, 3) := by decide +kernel
theorem dX10_yields_15 : decode cX10_yields 15 = .ok (.iconst (-1), 1) := by decide +kernel
theorem dX10_yields_16 : decode cX10_yields 16 = .ok (.ireturn, 1) := by decide +kernel
theorem dX10_yields_17 : decode cX10_yields 17 = .ok (.aload_n 0, 1) := by decide +kernel
theorem dX10_yields_18 : decode cX10_yields 18 = .ok (.iload_n 1, 1) := by decide +kernel
theorem dX10_yields_19 : decode cX10_yields 19 = .ok (.invokevirtual 214, 3) := by decide +kernel
theorem dX10_yields_22 : decode cX10_yields 22 = .ok (.pop, 1) := by decide +kernel
theorem dX10_yields_23 : decode cX10_yields 23 = .ok (.aload_n 0, 1) := by decide +kernel
theorem dX10_yields_24 : decode cX10_yields 24 = .ok (.getfield 73, 3) := by decide +kernel
theorem dX10_yields_27 : decode cX10_yields 27 = .ok (.iload_n 2, 1) := by decide +kernel
theorem dX10_yields_28 : decode cX10_yields 28 = .ok (.iaload, 1) := by decide +kernel
theorem dX10_yields_29 : decode cX10_yields 29 = .ok (.ireturn, 1) := by decide +kernel
theorem dX10_meetings_0 : decode cX10_meetings 0 = .ok (.iload_n 1, 1) := by decide +kernel
theorem dX10_meetings_1 : decode cX10_meetings 1 = .ok (.invokestatic 209, 3) := by decide +kernel
theorem dX10_meetings_4 : decode cX10_meetings 4 = .ok (.ifCond .ne 5, 3) := by decide +kernel
theorem dX10_meetings_7 : decode cX10_meetings 7 = .ok (.iconst (-1), 1) := by decide +kernel
theorem dX10_meetings_8 : decode cX10_meetings 8 = .ok (.ireturn, 1) := by decide +kernel
theorem dX10_meetings_9 : decode cX10_meetings 9 = .ok (.aload_n 0, 1) := by decide +kernel
theorem dX10_meetings_10 : decode cX10_meetings 10 = .ok (.iload_n 1, 1) := by decide +kernel
theorem dX10_meetings_11 : decode cX10_meetings 11 = .ok (.invokevirtual 214, 3) := by decide +kernel
theorem dX10_meetings_14 : decode cX10_meetings 14 = .ok (.pop, 1) := by decide +kernel
theorem dX10_meetings_15 : decode cX10_meetings 15 = .ok (.aload_n 0, 1) := by decide +kernel
theorem dX10_meetings_16 : decode cX10_meetings 16 = .ok (.getfield 195, 3) := by decide +kernel
theorem dX10_meetings_19 : decode cX10_meetings 19 = .ok (.ireturn, 1) := by decide +kernel
theorem dX10_meeting_0 : decode cX10_meeting 0 = .ok (.iload_n 1, 1) := by decide +kernel
theorem dX10_meeting_1 : decode cX10_meeting 1 = .ok (.invokestatic 209, 3) := by decide +kernel
theorem dX10_meeting_4 : decode cX10_meeting 4 = .ok (.ifCond .eq 15, 3) := by decide +kernel
theorem dX10_meeting_7 : decode cX10_meeting 7 = .ok (.iload_n 3, 1) := by decide +kernel
theorem dX10_meeting_8 : decode cX10_meeting 8 = .ok (.i2l, 1) := by decide +kernel
theorem dX10_meeting_9 : decode cX10_meeting 9 = .ok (.lconst 0, 1) := by decide +kernel
theorem dX10_meeting_10 : decode cX10_meeting 10 = .ok (.ldc2_w 134, 3) := by decide +kernel
theorem dX10_meeting_13 : decode cX10_meeting 13 = .ok (.invokestatic 109, 3) := by decide +kernel
theorem dX10_meeting_16 : decode cX10_meeting 16 = .ok (.ifCond .ne 5, 3) := by decide +kernel
theorem dX10_meeting_19 : decode cX10_meeting 19 = .ok (.iconst (-1), 1) := by decide +kernel
theorem dX10_meeting_20 : decode cX10_meeting 20 = .ok (.ireturn, 1) := by decide +kernel
theorem dX10_meeting_21 : decode cX10_meeting 21 = .ok (.aload_n 0, 1) := by decide +kernel
theorem dX10_meeting_22 : decode cX10_meeting 22 = .ok (.iload_n 1, 1) := by decide +kernel
theorem dX10_meeting_23 : decode cX10_meeting 23 = .ok (.invokevirtual 214, 3) := by decide +kernel
theorem dX10_meeting_26 : decode cX10_meeting 26 = .ok (.pop, 1) := by decide +kernel
theorem dX10_meeting_27 : decode cX10_meeting 27 = .ok (.iload_n 2, 1) := by decide +kernel
theorem dX10_meeting_28 : decode cX10_meeting 28 = .ok (.i2l, 1) := by decide +kernel
theorem dX10_meeting_29 : decode cX10_meeting 29 = .ok (.lconst 0, 1) := by decide +kernel
theorem dX10_meeting_30 : decode cX10_meeting 30 = .ok (.aload_n 0, 1) := by decide +kernel
theorem dX10_meeting_31 : decode cX10_meeting 31 = .ok (.getfield 195, 3) := by decide +kernel
theorem dX10_meeting_34 : decode cX10_meeting 34 = .ok (.iconst 1, 1) := by decide +kernel
theorem dX10_meeting_35 : decode cX10_meeting 35 = .ok (.isub, 1) := by decide +kernel
theorem dX10_meeting_36 : decode cX10_meeting 36 = .ok (.i2l, 1) := by decide +kernel
theorem dX10_meeting_37 : decode cX10_meeting 37 = .ok (.invokestatic 109, 3) := by decide +kernel
theorem dX10_meeting_40 : decode cX10_meeting 40 = .ok (.ifCond .ne 5, 3) := by decide +kernel
theorem dX10_meeting_43 : decode cX10_meeting 43 = .ok (.iconst (-1), 1) := by decide +kernel
theorem dX10_meeting_44 : decode cX10_meeting 44 = .ok (.ireturn, 1) := by decide +kernel
theorem dX10_meeting_45 : decode cX10_meeting 45 = .ok (.iload_n 3, 1) := by decide +kernel
theorem dX10_meeting_46 : decode cX10_meeting 46 = .ok (.ifCond .ne 12, 3) := by decide +kernel
theorem dX10_meeting_49 : decode cX10_meeting 49 = .ok (.aload_n 0, 1) := by decide +kernel
theorem dX10_meeting_50 : decode cX10_meeting 50 = .ok (.getfield 79, 3) := by decide +kernel
theorem dX10_meeting_53 : decode cX10_meeting 53 = .ok (.iload_n 2, 1) := by decide +kernel
theorem dX10_meeting_54 : decode cX10_meeting 54 = .ok (.iaload, 1) := by decide +kernel
theorem dX10_meeting_55 : decode cX10_meeting 55 = .ok (.goto 37, 3) := by decide +kernel
theorem dX10_meeting_58 : decode cX10_meeting 58 = .ok (.iload_n 3, 1) := by decide +kernel
theorem dX10_meeting_59 : decode cX10_meeting 59 = .ok (.iconst 1, 1) := by decide +kernel
theorem dX10_meeting_60 : decode cX10_meeting 60 = .ok (.if_icmp .ne 12, 3) := by decide +kernel
theorem dX10_meeting_63 : decode cX10_meeting 63 = .ok (.aload_n 0, 1) := by decide +kernel
theorem dX10_meeting_64 : decode cX10_meeting 64 = .ok (.getfield 82, 3) := by decide +kernel
theorem dX10_meeting_67 : decode cX10_meeting 67 = .ok (.iload_n 2, 1) := by decide +kernel
theorem dX10_meeting_68 : decode cX10_meeting 68 = .ok (.iaload, 1) := by decide +kernel
theorem dX10_meeting_69 : decode cX10_meeting 69 = .ok (.goto 23, 3) := by decide +kernel
theorem dX10_meeting_72 : decode cX10_meeting 72 = .ok (.iload_n 3, 1) := by decide +kernel
theorem dX10_meeting_73 : decode cX10_meeting 73 = .ok (.iconst 2, 1) := by decide +kernel
theorem dX10_meeting_74 : decode cX10_meeting 74 = .ok (.if_icmp .ne 12, 3) := by decide +kernel
theorem dX10_meeting_77 : decode cX10_meeting 77 = .ok (.aload_n 0, 1) := by decide +kernel
theorem dX10_meeting_78 : decode cX10_meeting 78 = .ok (.getfield 85, 3) := by decide +kernel
theorem dX10_meeting_81 : decode cX10_meeting 81 = .ok (.iload_n 2, 1) := by decide +kernel
theorem dX10_meeting_82 : decode cX10_meeting 82 = .ok (.iaload, 1) := by decide +kernel
theorem dX10_meeting_83 : decode cX10_meeting 83 = .ok (.goto 9, 3) := by decide +kernel
theorem dX10_meeting_86 : decode cX10_meeting 86 = .ok (.aload_n 0, 1) := by decide +kernel
theorem dX10_meeting_87 : decode cX10_meeting 87 = .ok (.getfield 88, 3) := by decide +kernel
theorem dX10_meeting_90 : decode cX10_meeting 90 = .ok (.iload_n 2, 1) := by decide +kernel
theorem dX10_meeting_91 : decode cX10_meeting 91 = .ok (.iaload, 1) := by decide +kernel
theorem dX10_meeting_92 : decode cX10_meeting 92 = .ok (.ireturn, 1) := by decide +kernel
theorem dX10_note_0 : decode cX10_note 0 = .ok (.aload_n 0, 1) := by decide +kernel
theorem dX10_note_1 : decode cX10_note 1 = .ok (.getfield 154, 3) := by decide +kernel
theorem dX10_note_4 : decode cX10_note 4 = .ok (.bipush 8, 2) := by decide +kernel
theorem dX10_note_6 : decode cX10_note 6 = .ok (.if_icmp .ne 42, 3) := by decide +kernel
theorem dX10_note_9 : decode cX10_note 9 = .ok (.iconst 0, 1) := by decide +kernel
theorem dX10_note_10 : decode cX10_note 10 = .ok (.istore_n 1, 1) := by decide +kernel
theorem dX10_note_11 : decode cX10_note 11 = .ok (.iload_n 1, 1) := by decide +kernel
theorem dX10_note_12 : decode cX10_note 12 = .ok (.bipush 84, 2) := by decide +kernel
theorem dX10_note_14 : decode cX10_note 14 = .ok (.if_icmp .ge 24, 3) := by decide +kernel
theorem dX10_note_17 : decode cX10_note 17 = .ok (.aload_n 0, 1) := by decide +kernel
theorem dX10_note_18 : decode cX10_note 18 = .ok (.getfield 46, 3) := by decide +kernel
theorem dX10_note_21 : decode cX10_note 21 = .ok (.iload_n 1, 1) := by decide +kernel
theorem dX10_note_22 : decode cX10_note 22 = .ok (.aload_n 0, 1) := by decide +kernel
theorem dX10_note_23 : decode cX10_note 23 = .ok (.getfield 46, 3) := by decide +kernel
theorem dX10_note_26 : decode cX10_note 26 = .ok (.bipush 12, 2) := by decide +kernel
theorem dX10_note_28 : decode cX10_note 28 = .ok (.iload_n 1, 1) := by decide +kernel
theorem dX10_note_29 : decode cX10_note 29 = .ok (.iadd, 1) := by decide +kernel
theorem dX10_note_30 : decode cX10_note 30 = .ok (.iaload, 1) := by decide +kernel
theorem dX10_note_31 : decode cX10_note 31 = .ok (.iastore, 1) := by decide +kernel
theorem dX10_note_32 : decode cX10_note 32 = .ok (.iinc 1 1, 3) := by decide +kernel
theorem dX10_note_35 : decode cX10_note 35 = .ok (.goto (-24), 3) := by decide +kernel
theorem dX10_note_38 : decode cX10_note 38 = .ok (.aload_n 0, 1) := by decide +kernel
theorem dX10_note_39 : decode cX10_note 39 = .ok (.dup, 1) := by decide +kernel
theorem dX10_note_40 : decode cX10_note 40 = .ok (.getfield 154, 3) := by decide +kernel
theorem dX10_note_43 : decode cX10_note 43 = .ok (.iconst 1, 1) := by decide +kernel
theorem dX10_note_44 : decode cX10_note 44 = .ok (.isub, 1) := by decide +kernel
theorem dX10_note_45 : decode cX10_note 45 = .ok (.putfield 154, 3) := by decide +kernel
theorem dX10_note_48 : decode cX10_note 48 = .ok (.iconst 0, 1) := by decide +kernel
theorem dX10_note_49 : decode cX10_note 49 = .ok (.istore_n 1, 1) := by decide +kernel
theorem dX10_note_50 : decode cX10_note 50 = .ok (.iload_n 1, 1) := by decide +kernel
theorem dX10_note_51 : decode cX10_note 51 = .ok (.bipush 12, 2) := by decide +kernel
theorem dX10_note_53 : decode cX10_note 53 = .ok (.if_icmp .ge 29, 3) := by decide +kernel
theorem dX10_note_56 : decode cX10_note 56 = .ok (.aload_n 0, 1) := by decide +kernel
theorem dX10_note_57 : decode cX10_note 57 = .ok (.getfield 46, 3) := by decide +kernel
theorem dX10_note_60 : decode cX10_note 60 = .ok (.bipush 12, 2) := by decide +kernel
theorem dX10_note_62 : decode cX10_note 62 = .ok (.aload_n 0, 1) := by decide +kernel
theorem dX10_note_63 : decode cX10_note 63 = .ok (.getfield 154, 3) := by decide +kernel
theorem dX10_note_66 : decode cX10_note 66 = .ok (.imul, 1) := by decide +kernel
theorem dX10_note_67 : decode cX10_note 67 = .ok (.iload_n 1, 1) := by decide +kernel
theorem dX10_note_68 : decode cX10_note 68 = .ok (.iadd, 1) := by decide +kernel
theorem dX10_note_69 : decode cX10_note 69 = .ok (.aload_n 0, 1) := by decide +kernel
theorem dX10_note_70 : decode cX10_note 70 = .ok (.getfield 43, 3) := by decide +kernel
theorem dX10_note_73 : decode cX10_note 73 = .ok (.iload_n 1, 1) := by decide +kernel
theorem dX10_note_74 : decode cX10_note 74 = .ok (.iaload, 1) := by decide +kernel
theorem dX10_note_75 : decode cX10_note 75 = .ok (.iastore, 1) := by decide +kernel
theorem dX10_note_76 : decode cX10_note 76 = .ok (.iinc 1 1, 3) := by decide +kernel
theorem dX10_note_79 : decode cX10_note 79 = .ok (.goto (-29), 3) := by decide +kernel
theorem dX10_note_82 : decode cX10_note 82 = .ok (.aload_n 0, 1) := by decide +kernel
theorem dX10_note_83 : decode cX10_note 83 = .ok (.dup, 1) := by decide +kernel
theorem dX10_note_84 : decode cX10_note 84 = .ok (.getfield 154, 3) := by decide +kernel
theorem dX10_note_87 : decode cX10_note 87 = .ok (.iconst 1, 1) := by decide +kernel
theorem dX10_note_88 : decode cX10_note 88 = .ok (.iadd, 1) := by decide +kernel
theorem dX10_note_89 : decode cX10_note 89 = .ok (.putfield 154, 3) := by decide +kernel
theorem dX10_note_92 : decode cX10_note 92 = .ok (.return_, 1) := by decide +kernel
theorem dX10_load_0 : decode cX10_load 0 = .ok (.aload_n 0, 1) := by decide +kernel
theorem dX10_load_1 : decode cX10_load 1 = .ok (.iload_n 1, 1) := by decide +kernel
theorem dX10_load_2 : decode cX10_load 2 = .ok (.invokevirtual 163, 3) := by decide +kernel
theorem dX10_load_5 : decode cX10_load 5 = .ok (.ifCond .eq 15, 3) := by decide +kernel
theorem dX10_load_8 : decode cX10_load 8 = .ok (.iload_n 2, 1) := by decide +kernel
theorem dX10_load_9 : decode cX10_load 9 = .ok (.i2l, 1) := by decide +kernel
theorem dX10_load_10 : decode cX10_load 10 = .ok (.lconst 0, 1) := by decide +kernel
theorem dX10_load_11 : decode cX10_load 11 = .ok (.ldc2_w 217, 3) := by decide +kernel
theorem dX10_load_14 : decode cX10_load 14 = .ok (.invokestatic 109, 3) := by decide +kernel
theorem dX10_load_17 : decode cX10_load 17 = .ok (.ifCond .ne 5, 3) := by decide +kernel
theorem dX10_load_20 : decode cX10_load 20 = .ok (.iconst (-1), 1) := by decide +kernel
theorem dX10_load_21 : decode cX10_load 21 = .ok (.ireturn, 1) := by decide +kernel
theorem dX10_load_22 : decode cX10_load 22 = .ok (.aload_n 0, 1) := by decide +kernel
theorem dX10_load_23 : decode cX10_load 23 = .ok (.invokevirtual 219, 3) := by decide +kernel
theorem dX10_load_26 : decode cX10_load 26 = .ok (.aload_n 0, 1) := by decide +kernel
theorem dX10_load_27 : decode cX10_load 27 = .ok (.getfield 43, 3) := by decide +kernel
theorem dX10_load_30 : decode cX10_load 30 = .ok (.iload_n 1, 1) := by decide +kernel
theorem dX10_load_31 : decode cX10_load 31 = .ok (.iaload, 1) := by decide +kernel
theorem dX10_load_32 : decode cX10_load 32 = .ok (.istore_n 3, 1) := by decide +kernel
theorem dX10_load_33 : decode cX10_load 33 = .ok (.aload_n 0, 1) := by decide +kernel
theorem dX10_load_34 : decode cX10_load 34 = .ok (.getfield 43, 3) := by decide +kernel
theorem dX10_load_37 : decode cX10_load 37 = .ok (.iload_n 1, 1) := by decide +kernel
theorem dX10_load_38 : decode cX10_load 38 = .ok (.iload_n 2, 1) := by decide +kernel
theorem dX10_load_39 : decode cX10_load 39 = .ok (.iastore, 1) := by decide +kernel
theorem dX10_load_40 : decode cX10_load 40 = .ok (.iload_n 3, 1) := by decide +kernel
theorem dX10_load_41 : decode cX10_load 41 = .ok (.ireturn, 1) := by decide +kernel
theorem dX10_later_0 : decode cX10_later 0 = .ok (.aload_n 0, 1) := by decide +kernel
theorem dX10_later_1 : decode cX10_later 1 = .ok (.iload_n 1, 1) := by decide +kernel
theorem dX10_later_2 : decode cX10_later 2 = .ok (.invokevirtual 163, 3) := by decide +kernel
theorem dX10_later_5 : decode cX10_later 5 = .ok (.ifCond .eq 15, 3) := by decide +kernel
theorem dX10_later_8 : decode cX10_later 8 = .ok (.iload_n 2, 1) := by decide +kernel
theorem dX10_later_9 : decode cX10_later 9 = .ok (.i2l, 1) := by decide +kernel
theorem dX10_later_10 : decode cX10_later 10 = .ok (.lconst 0, 1) := by decide +kernel
theorem dX10_later_11 : decode cX10_later 11 = .ok (.ldc2_w 222, 3) := by decide +kernel
theorem dX10_later_14 : decode cX10_later 14 = .ok (.invokestatic 109, 3) := by decide +kernel
theorem dX10_later_17 : decode cX10_later 17 = .ok (.ifCond .ne 5, 3) := by decide +kernel
theorem dX10_later_20 : decode cX10_later 20 = .ok (.iconst (-1), 1) := by decide +kernel
theorem dX10_later_21 : decode cX10_later 21 = .ok (.ireturn, 1) := by decide +kernel
theorem dX10_later_22 : decode cX10_later 22 = .ok (.aload_n 0, 1) := by decide +kernel
theorem dX10_later_23 : decode cX10_later 23 = .ok (.invokevirtual 219, 3) := by decide +kernel
theorem dX10_later_26 : decode cX10_later 26 = .ok (.aload_n 0, 1) := by decide +kernel
theorem dX10_later_27 : decode cX10_later 27 = .ok (.getfield 43, 3) := by decide +kernel
theorem dX10_later_30 : decode cX10_later 30 = .ok (.bipush 6, 2) := by decide +kernel
theorem dX10_later_32 : decode cX10_later 32 = .ok (.iload_n 1, 1) := by decide +kernel
theorem dX10_later_33 : decode cX10_later 33 = .ok (.iadd, 1) := by decide +kernel
theorem dX10_later_34 : decode cX10_later 34 = .ok (.iaload, 1) := by decide +kernel
theorem dX10_later_35 : decode cX10_later 35 = .ok (.istore_n 3, 1) := by decide +kernel
theorem dX10_later_36 : decode cX10_later 36 = .ok (.aload_n 0, 1) := by decide +kernel
theorem dX10_later_37 : decode cX10_later 37 = .ok (.getfield 43, 3) := by decide +kernel
theorem dX10_later_40 : decode cX10_later 40 = .ok (.bipush 6, 2) := by decide +kernel
theorem dX10_later_42 : decode cX10_later 42 = .ok (.iload_n 1, 1) := by decide +kernel
theorem dX10_later_43 : decode cX10_later 43 = .ok (.iadd, 1) := by decide +kernel
theorem dX10_later_44 : decode cX10_later 44 = .ok (.iload_n 2, 1) := by decide +kernel
theorem dX10_later_45 : decode cX10_later 45 = .ok (.iastore, 1) := by decide +kernel
theorem dX10_later_46 : decode cX10_later 46 = .ok (.iload_n 3, 1) := by decide +kernel
theorem dX10_later_47 : decode cX10_later 47 = .ok (.ireturn, 1) := by decide +kernel
theorem dX10_undo_0 : decode cX10_undo 0 = .ok (.aload_n 0, 1) := by decide +kernel
theorem dX10_undo_1 : decode cX10_undo 1 = .ok (.getfield 154, 3) := by decide +kernel
theorem dX10_undo_4 : decode cX10_undo 4 = .ok (.ifCond .ne 6, 3) := by decide +kernel
theorem dX10_undo_7 : decode cX10_undo 7 = .ok (.bipush (-2), 2) := by decide +kernel
theorem dX10_undo_9 : decode cX10_undo 9 = .ok (.ireturn, 1) := by decide +kernel
theorem dX10_undo_10 : decode cX10_undo 10 = .ok (.aload_n 0, 1) := by decide +kernel
theorem dX10_undo_11 : decode cX10_undo 11 = .ok (.dup, 1) := by decide +kernel
theorem dX10_undo_12 : decode cX10_undo 12 = .ok (.getfield 154, 3) := by decide +kernel
theorem dX10_undo_15 : decode cX10_undo 15 = .ok (.iconst 1, 1) := by decide +kernel
theorem dX10_undo_16 : decode cX10_undo 16 = .ok (.isub, 1) := by decide +kernel
theorem dX10_undo_17 : decode cX10_undo 17 = .ok (.putfield 154, 3) := by decide +kernel
theorem dX10_undo_20 : decode cX10_undo 20 = .ok (.iconst 0, 1) := by decide +kernel
theorem dX10_undo_21 : decode cX10_undo 21 = .ok (.istore_n 1, 1) := by decide +kernel
theorem dX10_undo_22 : decode cX10_undo 22 = .ok (.iload_n 1, 1) := by decide +kernel
theorem dX10_undo_23 : decode cX10_undo 23 = .ok (.bipush 12, 2) := by decide +kernel
theorem dX10_undo_25 : decode cX10_undo 25 = .ok (.if_icmp .ge 29, 3) := by decide +kernel
theorem dX10_undo_28 : decode cX10_undo 28 = .ok (.aload_n 0, 1) := by decide +kernel
theorem dX10_undo_29 : decode cX10_undo 29 = .ok (.getfield 43, 3) := by decide +kernel
theorem dX10_undo_32 : decode cX10_undo 32 = .ok (.iload_n 1, 1) := by decide +kernel
theorem dX10_undo_33 : decode cX10_undo 33 = .ok (.aload_n 0, 1) := by decide +kernel
theorem dX10_undo_34 : decode cX10_undo 34 = .ok (.getfield 46, 3) := by decide +kernel
theorem dX10_undo_37 : decode cX10_undo 37 = .ok (.bipush 12, 2) := by decide +kernel
theorem dX10_undo_39 : decode cX10_undo 39 = .ok (.aload_n 0, 1) := by decide +kernel
theorem dX10_undo_40 : decode cX10_undo 40 = .ok (.getfield 154, 3) := by decide +kernel
theorem dX10_undo_43 : decode cX10_undo 43 = .ok (.imul, 1) := by decide +kernel
theorem dX10_undo_44 : decode cX10_undo 44 = .ok (.iload_n 1, 1) := by decide +kernel
theorem dX10_undo_45 : decode cX10_undo 45 = .ok (.iadd, 1) := by decide +kernel
theorem dX10_undo_46 : decode cX10_undo 46 = .ok (.iaload, 1) := by decide +kernel
theorem dX10_undo_47 : decode cX10_undo 47 = .ok (.iastore, 1) := by decide +kernel
theorem dX10_undo_48 : decode cX10_undo 48 = .ok (.iinc 1 1, 3) := by decide +kernel
theorem dX10_undo_51 : decode cX10_undo 51 = .ok (.goto (-29), 3) := by decide +kernel
theorem dX10_undo_54 : decode cX10_undo 54 = .ok (.aload_n 0, 1) := by decide +kernel
theorem dX10_undo_55 : decode cX10_undo 55 = .ok (.getfield 154, 3) := by decide +kernel
theorem dX10_undo_58 : decode cX10_undo 58 = .ok (.ireturn, 1) := by decide +kernel
theorem dX10_who_0 : decode cX10_who 0 = .ok (.iload_n 1, 1) := by decide +kernel
theorem dX10_who_1 : decode cX10_who 1 = .ok (.invokestatic 209, 3) := by decide +kernel
theorem dX10_who_4 : decode cX10_who 4 = .ok (.ifCond .eq 12, 3) := by decide +kernel
theorem dX10_who_7 : decode cX10_who 7 = .ok (.aload_n 0, 1) := by decide +kernel
theorem dX10_who_8 : decode cX10_who 8 = .ok (.iload_n 2, 1) := by decide +kernel
theorem dX10_who_9 : decode cX10_who 9 = .ok (.iload_n 3, 1) := by decide +kernel
theorem dX10_who_10 : decode cX10_who 10 = .ok (.invokevirtual 224, 3) := by decide +kernel
theorem dX10_who_13 : decode cX10_who 13 = .ok (.ifCond .ne 5, 3) := by decide +kernel
theorem dX10_who_16 : decode cX10_who 16 = .ok (.iconst (-1), 1) := by decide +kernel
theorem dX10_who_17 : decode cX10_who 17 = .ok (.ireturn, 1) := by decide +kernel
theorem dX10_who_18 : decode cX10_who 18 = .ok (.aload_n 0, 1) := by decide +kernel
theorem dX10_who_19 : decode cX10_who 19 = .ok (.getfield 19, 3) := by decide +kernel
theorem dX10_who_22 : decode cX10_who 22 = .ok (.iload_n 2, 1) := by decide +kernel
theorem dX10_who_23 : decode cX10_who 23 = .ok (.iaload, 1) := by decide +kernel
theorem dX10_who_24 : decode cX10_who 24 = .ok (.aload_n 0, 1) := by decide +kernel
theorem dX10_who_25 : decode cX10_who 25 = .ok (.getfield 19, 3) := by decide +kernel
theorem dX10_who_28 : decode cX10_who 28 = .ok (.iload_n 3, 1) := by decide +kernel
theorem dX10_who_29 : decode cX10_who 29 = .ok (.iaload, 1) := by decide +kernel
theorem dX10_who_30 : decode cX10_who 30 = .ok (.if_icmp .ne 8, 3) := by decide +kernel
theorem dX10_who_33 : decode cX10_who 33 = .ok (.bipush (-2), 2) := by decide +kernel
theorem dX10_who_35 : decode cX10_who 35 = .ok (.goto 10, 3) := by decide +kernel
theorem dX10_who_38 : decode cX10_who 38 = .ok (.aload_n 0, 1) := by decide +kernel
theorem dX10_who_39 : decode cX10_who 39 = .ok (.iload_n 1, 1) := by decide +kernel
theorem dX10_who_40 : decode cX10_who 40 = .ok (.iload_n 2, 1) := by decide +kernel
theorem dX10_who_41 : decode cX10_who 41 = .ok (.iload_n 3, 1) := by decide +kernel
theorem dX10_who_42 : decode cX10_who 42 = .ok (.invokevirtual 185, 3) := by decide +kernel
theorem dX10_who_45 : decode cX10_who 45 = .ok (.ireturn, 1) := by decide +kernel
theorem dX10_best_0 : decode cX10_best 0 = .ok (.iload_n 1, 1) := by decide +kernel
theorem dX10_best_1 : decode cX10_best 1 = .ok (.i2l, 1) := by decide +kernel
theorem dX10_best_2 : decode cX10_best 2 = .ok (.lconst 0, 1) := by decide +kernel
theorem dX10_best_3 : decode cX10_best 3 = .ok (.lconst 1, 1) := by decide +kernel
theorem dX10_best_4 : decode cX10_best 4 = .ok (.invokestatic 109, 3) := by decide +kernel
theorem dX10_best_7 : decode cX10_best 7 = .ok (.ifCond .ne 5, 3) := by decide +kernel
theorem dX10_best_10 : decode cX10_best 10 = .ok (.iconst (-1), 1) := by decide +kernel
theorem dX10_best_11 : decode cX10_best 11 = .ok (.ireturn, 1) := by decide +kernel
theorem dX10_best_12 : decode cX10_best 12 = .ok (.iconst 0, 1) := by decide +kernel
theorem dX10_best_13 : decode cX10_best 13 = .ok (.istore_n 2, 1) := by decide +kernel
theorem dX10_best_14 : decode cX10_best 14 = .ok (.aload_n 0, 1) := by decide +kernel
theorem dX10_best_15 : decode cX10_best 15 = .ok (.iconst 0, 1) := by decide +kernel
theorem dX10_best_16 : decode cX10_best 16 = .ok (.invokevirtual 214, 3) := by decide +kernel
theorem dX10_best_19 : decode cX10_best 19 = .ok (.istore_n 3, 1) := by decide +kernel
theorem dX10_best_20 : decode cX10_best 20 = .ok (.iconst 1, 1) := by decide +kernel
theorem dX10_best_21 : decode cX10_best 21 = .ok (.istore 4, 2) := by decide +kernel
theorem dX10_best_23 : decode cX10_best 23 = .ok (.iload 4, 2) := by decide +kernel
theorem dX10_best_25 : decode cX10_best 25 = .ok (.iconst 4, 1) := by decide +kernel
theorem dX10_best_26 : decode cX10_best 26 = .ok (.if_icmp .ge 43, 3) := by decide +kernel
theorem dX10_best_29 : decode cX10_best 29 = .ok (.aload_n 0, 1) := by decide +kernel
theorem dX10_best_30 : decode cX10_best 30 = .ok (.iload 4, 2) := by decide +kernel
theorem dX10_best_32 : decode cX10_best 32 = .ok (.invokevirtual 214, 3) := by decide +kernel
theorem dX10_best_35 : decode cX10_best 35 = .ok (.istore 5, 2) := by decide +kernel
theorem dX10_best_37 : decode cX10_best 37 = .ok (.iload 5, 2) := by decide +kernel
theorem dX10_best_39 : decode cX10_best 39 = .ok (.iload_n 3, 1) := by decide +kernel
theorem dX10_best_40 : decode cX10_best 40 = .ok (.if_icmp .ge 8, 3) := by decide +kernel
theorem dX10_best_43 : decode cX10_best 43 = .ok (.iload 4, 2) := by decide +kernel
theorem dX10_best_45 : decode cX10_best 45 = .ok (.goto 4, 3) := by decide +kernel
theorem dX10_best_48 : decode cX10_best 48 = .ok (.iload_n 2, 1) := by decide +kernel
theorem dX10_best_49 : decode cX10_best 49 = .ok (.istore_n 2, 1) := by decide +kernel
theorem dX10_best_50 : decode cX10_best 50 = .ok (.iload 5, 2) := by decide +kernel
theorem dX10_best_52 : decode cX10_best 52 = .ok (.iload_n 3, 1) := by decide +kernel
theorem dX10_best_53 : decode cX10_best 53 = .ok (.if_icmp .ge 8, 3) := by decide +kernel
theorem dX10_best_56 : decode cX10_best 56 = .ok (.iload 5, 2) := by decide +kernel
theorem dX10_best_58 : decode cX10_best 58 = .ok (.goto 4, 3) := by decide +kernel
theorem dX10_best_61 : decode cX10_best 61 = .ok (.iload_n 3, 1) := by decide +kernel
theorem dX10_best_62 : decode cX10_best 62 = .ok (.istore_n 3, 1) := by decide +kernel
theorem dX10_best_63 : decode cX10_best 63 = .ok (.iinc 4 1, 3) := by decide +kernel
theorem dX10_best_66 : decode cX10_best 66 = .ok (.goto (-43), 3) := by decide +kernel
theorem dX10_best_69 : decode cX10_best 69 = .ok (.iload_n 1, 1) := by decide +kernel
theorem dX10_best_70 : decode cX10_best 70 = .ok (.ifCond .ne 7, 3) := by decide +kernel
theorem dX10_best_73 : decode cX10_best 73 = .ok (.iload_n 2, 1) := by decide +kernel
theorem dX10_best_74 : decode cX10_best 74 = .ok (.goto 4, 3) := by decide +kernel
theorem dX10_best_77 : decode cX10_best 77 = .ok (.iload_n 3, 1) := by decide +kernel
theorem dX10_best_78 : decode cX10_best 78 = .ok (.ireturn, 1) := by decide +kernel
theorem dX10_custom_0 : decode cX10_custom 0 = .ok (.aload_n 0, 1) := by decide +kernel
theorem dX10_custom_1 : decode cX10_custom 1 = .ok (.iconst 0, 1) := by decide +kernel
theorem dX10_custom_2 : decode cX10_custom 2 = .ok (.invokevirtual 214, 3) := by decide +kernel
theorem dX10_custom_5 : decode cX10_custom 5 = .ok (.aload_n 0, 1) := by decide +kernel
theorem dX10_custom_6 : decode cX10_custom 6 = .ok (.iconst 1, 1) := by decide +kernel
theorem dX10_custom_7 : decode cX10_custom 7 = .ok (.invokevirtual 228, 3) := by decide +kernel
theorem dX10_custom_10 : decode cX10_custom 10 = .ok (.isub, 1) := by decide +kernel
theorem dX10_custom_11 : decode cX10_custom 11 = .ok (.ireturn, 1) := by decide +kernel
theorem dX10_send_0 : decode cX10_send 0 = .ok (.iload_n 1, 1) := by decide +kernel
theorem dX10_send_1 : decode cX10_send 1 = .ok (.invokestatic 209, 3) := by decide +kernel
theorem dX10_send_4 : decode cX10_send 4 = .ok (.ifCond .eq 21, 3) := by decide +kernel
theorem dX10_send_7 : decode cX10_send 7 = .ok (.aload_n 0, 1) := by decide +kernel
theorem dX10_send_8 : decode cX10_send 8 = .ok (.iload_n 2, 1) := by decide +kernel
theorem dX10_send_9 : decode cX10_send 9 = .ok (.invokevirtual 163, 3) := by decide +kernel
theorem dX10_send_12 : decode cX10_send 12 = .ok (.ifCond .eq 13, 3) := by decide +kernel
theorem dX10_send_15 : decode cX10_send 15 = .ok (.iload_n 3, 1) := by decide +kernel
theorem dX10_send_16 : decode cX10_send 16 = .ok (.i2l, 1) := by decide +kernel
theorem dX10_send_17 : decode cX10_send 17 = .ok (.lconst 0, 1) := by decide +kernel
theorem dX10_send_18 : decode cX10_send 18 = .ok (.lconst 1, 1) := by decide +kernel
theorem dX10_send_19 : decode cX10_send 19 = .ok (.invokestatic 109, 3) := by decide +kernel
theorem dX10_send_22 : decode cX10_send 22 = .ok (.ifCond .ne 5, 3) := by decide +kernel
theorem dX10_send_25 : decode cX10_send 25 = .ok (.iconst (-1), 1) := by decide +kernel
theorem dX10_send_26 : decode cX10_send 26 = .ok (.ireturn, 1) := by decide +kernel
theorem dX10_send_27 : decode cX10_send 27 = .ok (.aload_n 0, 1) := by decide +kernel
theorem dX10_send_28 : decode cX10_send 28 = .ok (.getfield 43, 3) := by decide +kernel
theorem dX10_send_31 : decode cX10_send 31 = .ok (.bipush 6, 2) := by decide +kernel
theorem dX10_send_33 : decode cX10_send 33 = .ok (.iload_n 2, 1) := by decide +kernel
theorem dX10_send_34 : decode cX10_send 34 = .ok (.iadd, 1) := by decide +kernel
theorem dX10_send_35 : decode cX10_send 35 = .ok (.iaload, 1) := by decide +kernel
theorem dX10_send_36 : decode cX10_send 36 = .ok (.istore 4, 2) := by decide +kernel
theorem dX10_send_38 : decode cX10_send 38 = .ok (.bipush (-4), 2) := by decide +kernel
theorem dX10_send_40 : decode cX10_send 40 = .ok (.istore 5, 2) := by decide +kernel
theorem dX10_send_42 : decode cX10_send 42 = .ok (.iconst 0, 1) := by decide +kernel
theorem dX10_send_43 : decode cX10_send 43 = .ok (.istore 6, 2) := by decide +kernel
theorem dX10_send_45 : decode cX10_send 45 = .ok (.iconst 0, 1) := by decide +kernel
theorem dX10_send_46 : decode cX10_send 46 = .ok (.istore 7, 2) := by decide +kernel
theorem dX10_send_48 : decode cX10_send 48 = .ok (.iload 7, 2) := by decide +kernel
theorem dX10_send_50 : decode cX10_send 50 = .ok (.bipush 30, 2) := by decide +kernel
theorem dX10_send_52 : decode cX10_send 52 = .ok (.if_icmp .gt 47, 3) := by decide +kernel
theorem dX10_send_55 : decode cX10_send 55 = .ok (.aload_n 0, 1) := by decide +kernel
theorem dX10_send_56 : decode cX10_send 56 = .ok (.getfield 43, 3) := by decide +kernel
theorem dX10_send_59 : decode cX10_send 59 = .ok (.bipush 6, 2) := by decide +kernel
theorem dX10_send_61 : decode cX10_send 61 = .ok (.iload_n 2, 1) := by decide +kernel
theorem dX10_send_62 : decode cX10_send 62 = .ok (.iadd, 1) := by decide +kernel
theorem dX10_send_63 : decode cX10_send 63 = .ok (.iload 7, 2) := by decide +kernel
theorem dX10_send_65 : decode cX10_send 65 = .ok (.iastore, 1) := by decide +kernel
theorem dX10_send_66 : decode cX10_send 66 = .ok (.aload_n 0, 1) := by decide +kernel
theorem dX10_send_67 : decode cX10_send 67 = .ok (.iload_n 1, 1) := by decide +kernel
theorem dX10_send_68 : decode cX10_send 68 = .ok (.invokevirtual 214, 3) := by decide +kernel
theorem dX10_send_71 : decode cX10_send 71 = .ok (.istore 8, 2) := by decide +kernel
theorem dX10_send_73 : decode cX10_send 73 = .ok (.iload 5, 2) := by decide +kernel
theorem dX10_send_75 : decode cX10_send 75 = .ok (.ifCond .lt 10, 3) := by decide +kernel
theorem dX10_send_78 : decode cX10_send 78 = .ok (.iload 8, 2) := by decide +kernel
theorem dX10_send_80 : decode cX10_send 80 = .ok (.iload 6, 2) := by decide +kernel
theorem dX10_send_82 : decode cX10_send 82 = .ok (.if_icmp .ge 11, 3) := by decide +kernel
theorem dX10_send_85 : decode cX10_send 85 = .ok (.iload 7, 2) := by decide +kernel
theorem dX10_send_87 : decode cX10_send 87 = .ok (.istore 5, 2) := by decide +kernel
theorem dX10_send_89 : decode cX10_send 89 = .ok (.iload 8, 2) := by decide +kernel
theorem dX10_send_91 : decode cX10_send 91 = .ok (.istore 6, 2) := by decide +kernel
theorem dX10_send_93 : decode cX10_send 93 = .ok (.iinc 7 1, 3) := by decide +kernel
theorem dX10_send_96 : decode cX10_send 96 = .ok (.goto (-48), 3) := by decide +kernel
theorem dX10_send_99 : decode cX10_send 99 = .ok (.aload_n 0, 1) := by decide +kernel
theorem dX10_send_100 : decode cX10_send 100 = .ok (.getfield 43, 3) := by decide +kernel
theorem dX10_send_103 : decode cX10_send 103 = .ok (.bipush 6, 2) := by decide +kernel
theorem dX10_send_105 : decode cX10_send 105 = .ok (.iload_n 2, 1) := by decide +kernel
theorem dX10_send_106 : decode cX10_send 106 = .ok (.iadd, 1) := by decide +kernel
theorem dX10_send_107 : decode cX10_send 107 = .ok (.iload 4, 2) := by decide +kernel
theorem dX10_send_109 : decode cX10_send 109 = .ok (.iastore, 1) := by decide +kernel
theorem dX10_send_110 : decode cX10_send 110 = .ok (.iload_n 3, 1) := by decide +kernel
theorem dX10_send_111 : decode cX10_send 111 = .ok (.ifCond .ne 8, 3) := by decide +kernel
theorem dX10_send_114 : decode cX10_send 114 = .ok (.iload 5, 2) := by decide +kernel
theorem dX10_send_116 : decode cX10_send 116 = .ok (.goto 5, 3) := by decide +kernel
theorem dX10_send_119 : decode cX10_send 119 = .ok (.iload 6, 2) := by decide +kernel
theorem dX10_send_121 : decode cX10_send 121 = .ok (.ireturn, 1) := by decide +kernel
theorem dX10_change_0 : decode cX10_change 0 = .ok (.aload_n 0, 1) := by decide +kernel
theorem dX10_change_1 : decode cX10_change 1 = .ok (.getfield 43, 3) := by decide +kernel
theorem dX10_change_4 : decode cX10_change 4 = .ok (.iload_n 1, 1) := by decide +kernel
theorem dX10_change_5 : decode cX10_change 5 = .ok (.iaload, 1) := by decide +kernel
theorem dX10_change_6 : decode cX10_change 6 = .ok (.istore_n 3, 1) := by decide +kernel
theorem dX10_change_7 : decode cX10_change 7 = .ok (.aload_n 0, 1) := by decide +kernel
theorem dX10_change_8 : decode cX10_change 8 = .ok (.getfield 43, 3) := by decide +kernel
theorem dX10_change_11 : decode cX10_change 11 = .ok (.iload_n 1, 1) := by decide +kernel
theorem dX10_change_12 : decode cX10_change 12 = .ok (.aload_n 0, 1) := by decide +kernel
theorem dX10_change_13 : decode cX10_change 13 = .ok (.getfield 43, 3) := by decide +kernel
theorem dX10_change_16 : decode cX10_change 16 = .ok (.iload_n 2, 1) := by decide +kernel
theorem dX10_change_17 : decode cX10_change 17 = .ok (.iaload, 1) := by decide +kernel
theorem dX10_change_18 : decode cX10_change 18 = .ok (.iastore, 1) := by decide +kernel
theorem dX10_change_19 : decode cX10_change 19 = .ok (.aload_n 0, 1) := by decide +kernel
theorem dX10_change_20 : decode cX10_change 20 = .ok (.getfield 43, 3) := by decide +kernel
theorem dX10_change_23 : decode cX10_change 23 = .ok (.iload_n 2, 1) := by decide +kernel
theorem dX10_change_24 : decode cX10_change 24 = .ok (.iload_n 3, 1) := by decide +kernel
theorem dX10_change_25 : decode cX10_change 25 = .ok (.iastore, 1) := by decide +kernel
theorem dX10_change_26 : decode cX10_change 26 = .ok (.return_, 1) := by decide +kernel
theorem dX10_swap_0 : decode cX10_swap 0 = .ok (.iload_n 1, 1) := by decide +kernel
theorem dX10_swap_1 : decode cX10_swap 1 = .ok (.invokestatic 209, 3) := by decide +kernel
theorem dX10_swap_4 : decode cX10_swap 4 = .ok (.ifCond .eq 13, 3) := by decide +kernel
theorem dX10_swap_7 : decode cX10_swap 7 = .ok (.iload_n 2, 1) := by decide +kernel
theorem dX10_swap_8 : decode cX10_swap 8 = .ok (.i2l, 1) := by decide +kernel
theorem dX10_swap_9 : decode cX10_swap 9 = .ok (.lconst 0, 1) := by decide +kernel
theorem dX10_swap_10 : decode cX10_swap 10 = .ok (.lconst 1, 1) := by decide +kernel
theorem dX10_swap_11 : decode cX10_swap 11 = .ok (.invokestatic 109, 3) := by decide +kernel
theorem dX10_swap_14 : decode cX10_swap 14 = .ok (.ifCond .ne 5, 3) := by decide +kernel
theorem dX10_swap_17 : decode cX10_swap 17 = .ok (.iconst (-1), 1) := by decide +kernel
theorem dX10_swap_18 : decode cX10_swap 18 = .ok (.ireturn, 1) := by decide +kernel
theorem dX10_swap_19 : decode cX10_swap 19 = .ok (.bipush (-4), 2) := by decide +kernel
theorem dX10_swap_21 : decode cX10_swap 21 = .ok (.istore_n 3, 1) := by decide +kernel
theorem dX10_swap_22 : decode cX10_swap 22 = .ok (.aload_n 0, 1) := by decide +kernel
theorem dX10_swap_23 : decode cX10_swap 23 = .ok (.iload_n 1, 1) := by decide +kernel
theorem dX10_swap_24 : decode cX10_swap 24 = .ok (.invokevirtual 214, 3) := by decide +kernel
theorem dX10_swap_27 : decode cX10_swap 27 = .ok (.istore 4, 2) := by decide +kernel
theorem dX10_swap_29 : decode cX10_swap 29 = .ok (.iconst 0, 1) := by decide +kernel
theorem dX10_swap_30 : decode cX10_swap 30 = .ok (.istore 5, 2) := by decide +kernel
theorem dX10_swap_32 : decode cX10_swap 32 = .ok (.iload 5, 2) := by decide +kernel
theorem dX10_swap_34 : decode cX10_swap 34 = .ok (.aload_n 0, 1) := by decide +kernel
theorem dX10_swap_35 : decode cX10_swap 35 = .ok (.getfield 13, 3) := by decide +kernel
theorem dX10_swap_38 : decode cX10_swap 38 = .ok (.iconst 0, 1) := by decide +kernel
theorem dX10_swap_39 : decode cX10_swap 39 = .ok (.iaload, 1) := by decide +kernel
theorem dX10_swap_40 : decode cX10_swap 40 = .ok (.if_icmp .ge 91, 3) := by decide +kernel
theorem dX10_swap_43 : decode cX10_swap 43 = .ok (.iload 5, 2) := by decide +kernel
theorem dX10_swap_45 : decode cX10_swap 45 = .ok (.iconst 1, 1) := by decide +kernel
theorem dX10_swap_46 : decode cX10_swap 46 = .ok (.iadd, 1) := by decide +kernel
theorem dX10_swap_47 : decode cX10_swap 47 = .ok (.istore 6, 2) := by decide +kernel
theorem dX10_swap_49 : decode cX10_swap 49 = .ok (.iload 6, 2) := by decide +kernel
theorem dX10_swap_51 : decode cX10_swap 51 = .ok (.aload_n 0, 1) := by decide +kernel
theorem dX10_swap_52 : decode cX10_swap 52 = .ok (.getfield 13, 3) := by decide +kernel
theorem dX10_swap_55 : decode cX10_swap 55 = .ok (.iconst 0, 1) := by decide +kernel
theorem dX10_swap_56 : decode cX10_swap 56 = .ok (.iaload, 1) := by decide +kernel
theorem dX10_swap_57 : decode cX10_swap 57 = .ok (.if_icmp .ge 68, 3) := by decide +kernel
theorem dX10_swap_60 : decode cX10_swap 60 = .ok (.aload_n 0, 1) := by decide +kernel
theorem dX10_swap_61 : decode cX10_swap 61 = .ok (.iload 5, 2) := by decide +kernel
theorem dX10_swap_63 : decode cX10_swap 63 = .ok (.iload 6, 2) := by decide +kernel
theorem dX10_swap_65 : decode cX10_swap 65 = .ok (.invokevirtual 231, 3) := by decide +kernel
theorem dX10_swap_68 : decode cX10_swap 68 = .ok (.aload_n 0, 1) := by decide +kernel
theorem dX10_swap_69 : decode cX10_swap 69 = .ok (.iload_n 1, 1) := by decide +kernel
theorem dX10_swap_70 : decode cX10_swap 70 = .ok (.invokevirtual 214, 3) := by decide +kernel
theorem dX10_swap_73 : decode cX10_swap 73 = .ok (.istore 7, 2) := by decide +kernel
theorem dX10_swap_75 : decode cX10_swap 75 = .ok (.aload_n 0, 1) := by decide +kernel
theorem dX10_swap_76 : decode cX10_swap 76 = .ok (.iload 5, 2) := by decide +kernel
theorem dX10_swap_78 : decode cX10_swap 78 = .ok (.iload 6, 2) := by decide +kernel
theorem dX10_swap_80 : decode cX10_swap 80 = .ok (.invokevirtual 231, 3) := by decide +kernel
theorem dX10_swap_83 : decode cX10_swap 83 = .ok (.iload 7, 2) := by decide +kernel
theorem dX10_swap_85 : decode cX10_swap 85 = .ok (.iload 4, 2) := by decide +kernel
theorem dX10_swap_87 : decode cX10_swap 87 = .ok (.if_icmp .ge 14, 3) := by decide +kernel
theorem dX10_swap_90 : decode cX10_swap 90 = .ok (.bipush 8, 2) := by decide +kernel
theorem dX10_swap_92 : decode cX10_swap 92 = .ok (.iload 5, 2) := by decide +kernel
theorem dX10_swap_94 : decode cX10_swap 94 = .ok (.imul, 1) := by decide +kernel
theorem dX10_swap_95 : decode cX10_swap 95 = .ok (.iload 6, 2) := by decide +kernel
theorem dX10_swap_97 : decode cX10_swap 97 = .ok (.iadd, 1) := by decide +kernel
theorem dX10_swap_98 : decode cX10_swap 98 = .ok (.goto 4, 3) := by decide +kernel
theorem dX10_swap_101 : decode cX10_swap 101 = .ok (.iload_n 3, 1) := by decide +kernel
theorem dX10_swap_102 : decode cX10_swap 102 = .ok (.istore_n 3, 1) := by decide +kernel
theorem dX10_swap_103 : decode cX10_swap 103 = .ok (.iload 7, 2) := by decide +kernel
theorem dX10_swap_105 : decode cX10_swap 105 = .ok (.iload 4, 2) := by decide +kernel
theorem dX10_swap_107 : decode cX10_swap 107 = .ok (.if_icmp .ge 8, 3) := by decide +kernel
theorem dX10_swap_110 : decode cX10_swap 110 = .ok (.iload 7, 2) := by decide +kernel
theorem dX10_swap_112 : decode cX10_swap 112 = .ok (.goto 5, 3) := by decide +kernel
theorem dX10_swap_115 : decode cX10_swap 115 = .ok (.iload 4, 2) := by decide +kernel
theorem dX10_swap_117 : decode cX10_swap 117 = .ok (.istore 4, 2) := by decide +kernel
theorem dX10_swap_119 : decode cX10_swap 119 = .ok (.iinc 6 1, 3) := by decide +kernel
theorem dX10_swap_122 : decode cX10_swap 122 = .ok (.goto (-73), 3) := by decide +kernel
theorem dX10_swap_125 : decode cX10_swap 125 = .ok (.iinc 5 1, 3) := by decide +kernel
theorem dX10_swap_128 : decode cX10_swap 128 = .ok (.goto (-96), 3) := by decide +kernel
theorem dX10_swap_131 : decode cX10_swap 131 = .ok (.iload_n 3, 1) := by decide +kernel
theorem dX10_swap_132 : decode cX10_swap 132 = .ok (.ifCond .lt 7, 3) := by decide +kernel
theorem dX10_swap_135 : decode cX10_swap 135 = .ok (.iload_n 2, 1) := by decide +kernel
theorem dX10_swap_136 : decode cX10_swap 136 = .ok (.ifCond .ne 7, 3) := by decide +kernel
theorem dX10_swap_139 : decode cX10_swap 139 = .ok (.iload_n 3, 1) := by decide +kernel
theorem dX10_swap_140 : decode cX10_swap 140 = .ok (.goto 5, 3) := by decide +kernel
theorem dX10_swap_143 : decode cX10_swap 143 = .ok (.iload 4, 2) := by decide +kernel
theorem dX10_swap_145 : decode cX10_swap 145 = .ok (.ireturn, 1) := by decide +kernel
theorem dX10_sinksIn_0 : decode cX10_sinksIn 0 = .ok (.aload_n 0, 1) := by decide +kernel
theorem dX10_sinksIn_1 : decode cX10_sinksIn 1 = .ok (.getfield 43, 3) := by decide +kernel
theorem dX10_sinksIn_4 : decode cX10_sinksIn 4 = .ok (.iload_n 1, 1) := by decide +kernel
theorem dX10_sinksIn_5 : decode cX10_sinksIn 5 = .ok (.iaload, 1) := by decide +kernel
theorem dX10_sinksIn_6 : decode cX10_sinksIn 6 = .ok (.aload_n 0, 1) := by decide +kernel
theorem dX10_sinksIn_7 : decode cX10_sinksIn 7 = .ok (.getfield 40, 3) := by decide +kernel
theorem dX10_sinksIn_10 : decode cX10_sinksIn 10 = .ok (.iconst 2, 1) := by decide +kernel
theorem dX10_sinksIn_11 : decode cX10_sinksIn 11 = .ok (.iaload, 1) := by decide +kernel
theorem dX10_sinksIn_12 : decode cX10_sinksIn 12 = .ok (.iadd, 1) := by decide +kernel
theorem dX10_sinksIn_13 : decode cX10_sinksIn 13 = .ok (.aload_n 0, 1) := by decide +kernel
theorem dX10_sinksIn_14 : decode cX10_sinksIn 14 = .ok (.getfield 40, 3) := by decide +kernel
theorem dX10_sinksIn_17 : decode cX10_sinksIn 17 = .ok (.iconst 2, 1) := by decide +kernel
theorem dX10_sinksIn_18 : decode cX10_sinksIn 18 = .ok (.iaload, 1) := by decide +kernel
theorem dX10_sinksIn_19 : decode cX10_sinksIn 19 = .ok (.idiv, 1) := by decide +kernel
theorem dX10_sinksIn_20 : decode cX10_sinksIn 20 = .ok (.ireturn, 1) := by decide +kernel
theorem dX10_fall_0 : decode cX10_fall 0 = .ok (.aload_n 0, 1) := by decide +kernel
theorem dX10_fall_1 : decode cX10_fall 1 = .ok (.iload_n 1, 1) := by decide +kernel
theorem dX10_fall_2 : decode cX10_fall 2 = .ok (.iload_n 2, 1) := by decide +kernel
theorem dX10_fall_3 : decode cX10_fall 3 = .ok (.invokevirtual 224, 3) := by decide +kernel
theorem dX10_fall_6 : decode cX10_fall 6 = .ok (.ifCond .eq 13, 3) := by decide +kernel
theorem dX10_fall_9 : decode cX10_fall 9 = .ok (.iload_n 3, 1) := by decide +kernel
theorem dX10_fall_10 : decode cX10_fall 10 = .ok (.i2l, 1) := by decide +kernel
theorem dX10_fall_11 : decode cX10_fall 11 = .ok (.lconst 0, 1) := by decide +kernel
theorem dX10_fall_12 : decode cX10_fall 12 = .ok (.lconst 1, 1) := by decide +kernel
theorem dX10_fall_13 : decode cX10_fall 13 = .ok (.invokestatic 109, 3) := by decide +kernel
theorem dX10_fall_16 : decode cX10_fall 16 = .ok (.ifCond .ne 5, 3) := by decide +kernel
theorem dX10_fall_19 : decode cX10_fall 19 = .ok (.iconst (-1), 1) := by decide +kernel
theorem dX10_fall_20 : decode cX10_fall 20 = .ok (.ireturn, 1) := by decide +kernel
theorem dX10_fall_21 : decode cX10_fall 21 = .ok (.aload_n 0, 1) := by decide +kernel
theorem dX10_fall_22 : decode cX10_fall 22 = .ok (.iload_n 2, 1) := by decide +kernel
theorem dX10_fall_23 : decode cX10_fall 23 = .ok (.invokevirtual 234, 3) := by decide +kernel
theorem dX10_fall_26 : decode cX10_fall 26 = .ok (.aload_n 0, 1) := by decide +kernel
theorem dX10_fall_27 : decode cX10_fall 27 = .ok (.getfield 40, 3) := by decide +kernel
theorem dX10_fall_30 : decode cX10_fall 30 = .ok (.iconst 3, 1) := by decide +kernel
theorem dX10_fall_31 : decode cX10_fall 31 = .ok (.iaload, 1) := by decide +kernel
theorem dX10_fall_32 : decode cX10_fall 32 = .ok (.if_icmp .le 8, 3) := by decide +kernel
theorem dX10_fall_35 : decode cX10_fall 35 = .ok (.bipush (-4), 2) := by decide +kernel
theorem dX10_fall_37 : decode cX10_fall 37 = .ok (.goto 21, 3) := by decide +kernel
theorem dX10_fall_40 : decode cX10_fall 40 = .ok (.iload_n 3, 1) := by decide +kernel
theorem dX10_fall_41 : decode cX10_fall 41 = .ok (.ifCond .ne 11, 3) := by decide +kernel
theorem dX10_fall_44 : decode cX10_fall 44 = .ok (.aload_n 0, 1) := by decide +kernel
theorem dX10_fall_45 : decode cX10_fall 45 = .ok (.iload_n 2, 1) := by decide +kernel
theorem dX10_fall_46 : decode cX10_fall 46 = .ok (.invokevirtual 234, 3) := by decide +kernel
theorem dX10_fall_49 : decode cX10_fall 49 = .ok (.goto 9, 3) := by decide +kernel
theorem dX10_fall_52 : decode cX10_fall 52 = .ok (.aload_n 0, 1) := by decide +kernel
theorem dX10_fall_53 : decode cX10_fall 53 = .ok (.getfield 40, 3) := by decide +kernel
theorem dX10_fall_56 : decode cX10_fall 56 = .ok (.iconst 3, 1) := by decide +kernel
theorem dX10_fall_57 : decode cX10_fall 57 = .ok (.iaload, 1) := by decide +kernel
theorem dX10_fall_58 : decode cX10_fall 58 = .ok (.ireturn, 1) := by decide +kernel
theorem dX10_common_0 : decode cX10_common 0 = .ok (.iload_n 0, 1) := by decide +kernel
theorem dX10_common_1 : decode cX10_common 1 = .ok (.istore_n 2, 1) := by decide +kernel
theorem dX10_common_2 : decode cX10_common 2 = .ok (.iload_n 1, 1) := by decide +kernel
theorem dX10_common_3 : decode cX10_common 3 = .ok (.istore_n 3, 1) := by decide +kernel
theorem dX10_common_4 : decode cX10_common 4 = .ok (.iload_n 3, 1) := by decide +kernel
theorem dX10_common_5 : decode cX10_common 5 = .ok (.ifCond .eq 16, 3) := by decide +kernel
theorem dX10_common_8 : decode cX10_common 8 = .ok (.iload_n 2, 1) := by decide +kernel
theorem dX10_common_9 : decode cX10_common 9 = .ok (.iload_n 3, 1) := by decide +kernel
theorem dX10_common_10 : decode cX10_common 10 = .ok (.irem, 1) := by decide +kernel
theorem dX10_common_11 : decode cX10_common 11 = .ok (.istore 4, 2) := by decide +kernel
theorem dX10_common_13 : decode cX10_common 13 = .ok (.iload_n 3, 1) := by decide +kernel
theorem dX10_common_14 : decode cX10_common 14 = .ok (.istore_n 2, 1) := by decide +kernel
theorem dX10_common_15 : decode cX10_common 15 = .ok (.iload 4, 2) := by decide +kernel
theorem dX10_common_17 : decode cX10_common 17 = .ok (.istore_n 3, 1) := by decide +kernel
theorem dX10_common_18 : decode cX10_common 18 = .ok (.goto (-14), 3) := by decide +kernel
theorem dX10_common_21 : decode cX10_common 21 = .ok (.iload_n 2, 1) := by decide +kernel
theorem dX10_common_22 : decode cX10_common 22 = .ok (.ireturn, 1) := by decide +kernel
theorem dX10_caught_0 : decode cX10_caught 0 = .ok (.aload_n 0, 1) := by decide +kernel
theorem dX10_caught_1 : decode cX10_caught 1 = .ok (.iload_n 1, 1) := by decide +kernel
theorem dX10_caught_2 : decode cX10_caught 2 = .ok (.invokevirtual 163, 3) := by decide +kernel
theorem dX10_caught_5 : decode cX10_caught 5 = .ok (.ifCond .eq 38, 3) := by decide +kernel
theorem dX10_caught_8 : decode cX10_caught 8 = .ok (.iload_n 2, 1) := by decide +kernel
theorem dX10_caught_9 : decode cX10_caught 9 = .ok (.i2l, 1) := by decide +kernel
theorem dX10_caught_10 : decode cX10_caught 10 = .ok (.lconst 0, 1) := by decide +kernel
theorem dX10_caught_11 : decode cX10_caught 11 = .ok (.ldc2_w 237, 3) := by decide +kernel
theorem dX10_caught_14 : decode cX10_caught 14 = .ok (.invokestatic 109, 3) := by decide +kernel
theorem dX10_caught_17 : decode cX10_caught 17 = .ok (.ifCond .eq 26, 3) := by decide +kernel
theorem dX10_caught_20 : decode cX10_caught 20 = .ok (.iload_n 3, 1) := by decide +kernel
theorem dX10_caught_21 : decode cX10_caught 21 = .ok (.i2l, 1) := by decide +kernel
theorem dX10_caught_22 : decode cX10_caught 22 = .ok (.lconst 0, 1) := by decide +kernel
theorem dX10_caught_23 : decode cX10_caught 23 = .ok (.ldc2_w 239, 3) := by decide +kernel
theorem dX10_caught_26 : decode cX10_caught 26 = .ok (.invokestatic 109, 3) := by decide +kernel
theorem dX10_caught_29 : decode cX10_caught 29 = .ok (.ifCond .eq 14, 3) := by decide +kernel
theorem dX10_caught_32 : decode cX10_caught 32 = .ok (.iload 4, 2) := by decide +kernel
theorem dX10_caught_34 : decode cX10_caught 34 = .ok (.i2l, 1) := by decide +kernel
theorem dX10_caught_35 : decode cX10_caught 35 = .ok (.lconst 0, 1) := by decide +kernel
theorem dX10_caught_36 : decode cX10_caught 36 = .ok (.lconst 1, 1) := by decide +kernel
theorem dX10_caught_37 : decode cX10_caught 37 = .ok (.invokestatic 109, 3) := by decide +kernel
theorem dX10_caught_40 : decode cX10_caught 40 = .ok (.ifCond .ne 5, 3) := by decide +kernel
theorem dX10_caught_43 : decode cX10_caught 43 = .ok (.iconst (-1), 1) := by decide +kernel
theorem dX10_caught_44 : decode cX10_caught 44 = .ok (.ireturn, 1) := by decide +kernel
theorem dX10_caught_45 : decode cX10_caught 45 = .ok (.iconst 0, 1) := by decide +kernel
theorem dX10_caught_46 : decode cX10_caught 46 = .ok (.istore 5, 2) := by decide +kernel
theorem dX10_caught_48 : decode cX10_caught 48 = .ok (.iconst 1, 1) := by decide +kernel
theorem dX10_caught_49 : decode cX10_caught 49 = .ok (.istore 6, 2) := by decide +kernel
theorem dX10_caught_51 : decode cX10_caught 51 = .ok (.iconst 0, 1) := by decide +kernel
theorem dX10_caught_52 : decode cX10_caught 52 = .ok (.istore 7, 2) := by decide +kernel
theorem dX10_caught_54 : decode cX10_caught 54 = .ok (.iload 7, 2) := by decide +kernel
theorem dX10_caught_56 : decode cX10_caught 56 = .ok (.iconst 1, 1) := by decide +kernel
theorem dX10_caught_57 : decode cX10_caught 57 = .ok (.iload_n 2, 1) := by decide +kernel
theorem dX10_caught_58 : decode cX10_caught 58 = .ok (.ishl, 1) := by decide +kernel
theorem dX10_caught_59 : decode cX10_caught 59 = .ok (.if_icmp .ge 87, 3) := by decide +kernel
theorem dX10_caught_62 : decode cX10_caught 62 = .ok (.iconst 0, 1) := by decide +kernel
theorem dX10_caught_63 : decode cX10_caught 63 = .ok (.istore 8, 2) := by decide +kernel
theorem dX10_caught_65 : decode cX10_caught 65 = .ok (.iconst 1, 1) := by decide +kernel
theorem dX10_caught_66 : decode cX10_caught 66 = .ok (.istore 9, 2) := by decide +kernel
theorem dX10_caught_68 : decode cX10_caught 68 = .ok (.iconst 0, 1) := by decide +kernel
theorem dX10_caught_69 : decode cX10_caught 69 = .ok (.istore 10, 2) := by decide +kernel
theorem dX10_caught_71 : decode cX10_caught 71 = .ok (.iload 10, 2) := by decide +kernel
theorem dX10_caught_73 : decode cX10_caught 73 = .ok (.iload_n 2, 1) := by decide +kernel
theorem dX10_caught_74 : decode cX10_caught 74 = .ok (.if_icmp .ge 45, 3) := by decide +kernel
theorem dX10_caught_77 : decode cX10_caught 77 = .ok (.iload 8, 2) := by decide +kernel
theorem dX10_caught_79 : decode cX10_caught 79 = .ok (.iload 7, 2) := by decide +kernel
theorem dX10_caught_81 : decode cX10_caught 81 = .ok (.iload 10, 2) := by decide +kernel
theorem dX10_caught_83 : decode cX10_caught 83 = .ok (.ishr, 1) := by decide +kernel
theorem dX10_caught_84 : decode cX10_caught 84 = .ok (.iconst 1, 1) := by decide +kernel
theorem dX10_caught_85 : decode cX10_caught 85 = .ok (.iand, 1) := by decide +kernel
theorem dX10_caught_86 : decode cX10_caught 86 = .ok (.iadd, 1) := by decide +kernel
theorem dX10_caught_87 : decode cX10_caught 87 = .ok (.istore 8, 2) := by decide +kernel
theorem dX10_caught_89 : decode cX10_caught 89 = .ok (.iload 9, 2) := by decide +kernel
theorem dX10_caught_91 : decode cX10_caught 91 = .ok (.iload 7, 2) := by decide +kernel
theorem dX10_caught_93 : decode cX10_caught 93 = .ok (.iload 10, 2) := by decide +kernel
theorem dX10_caught_95 : decode cX10_caught 95 = .ok (.ishr, 1) := by decide +kernel
theorem dX10_caught_96 : decode cX10_caught 96 = .ok (.iconst 1, 1) := by decide +kernel
theorem dX10_caught_97 : decode cX10_caught 97 = .ok (.iand, 1) := by decide +kernel
theorem dX10_caught_98 : decode cX10_caught 98 = .ok (.iconst 1, 1) := by decide +kernel
theorem dX10_caught_99 : decode cX10_caught 99 = .ok (.if_icmp .ne 7, 3) := by decide +kernel
theorem dX10_caught_102 : decode cX10_caught 102 = .ok (.iload_n 3, 1) := by decide +kernel
theorem dX10_caught_103 : decode cX10_caught 103 = .ok (.goto 7, 3) := by decide +kernel
theorem dX10_caught_106 : decode cX10_caught 106 = .ok (.bipush 10, 2) := by decide +kernel
theorem dX10_caught_108 : decode cX10_caught 108 = .ok (.iload_n 3, 1) := by decide +kernel
theorem dX10_caught_109 : decode cX10_caught 109 = .ok (.isub, 1) := by decide +kernel
theorem dX10_caught_110 : decode cX10_caught 110 = .ok (.imul, 1) := by decide +kernel
theorem dX10_caught_111 : decode cX10_caught 111 = .ok (.istore 9, 2) := by decide +kernel
theorem dX10_caught_113 : decode cX10_caught 113 = .ok (.iinc 10 1, 3) := by decide +kernel
theorem dX10_caught_116 : decode cX10_caught 116 = .ok (.goto (-45), 3) := by decide +kernel
theorem dX10_caught_119 : decode cX10_caught 119 = .ok (.iload 5, 2) := by decide +kernel
theorem dX10_caught_121 : decode cX10_caught 121 = .ok (.iload 8, 2) := by decide +kernel
theorem dX10_caught_123 : decode cX10_caught 123 = .ok (.aload_n 0, 1) := by decide +kernel
theorem dX10_caught_124 : decode cX10_caught 124 = .ok (.iload_n 1, 1) := by decide +kernel
theorem dX10_caught_125 : decode cX10_caught 125 = .ok (.invokevirtual 234, 3) := by decide +kernel
theorem dX10_caught_128 : decode cX10_caught 128 = .ok (.if_icmp .ge 8, 3) := by decide +kernel
theorem dX10_caught_131 : decode cX10_caught 131 = .ok (.iload 9, 2) := by decide +kernel
theorem dX10_caught_133 : decode cX10_caught 133 = .ok (.goto 4, 3) := by decide +kernel
theorem dX10_caught_136 : decode cX10_caught 136 = .ok (.iconst 0, 1) := by decide +kernel
theorem dX10_caught_137 : decode cX10_caught 137 = .ok (.iadd, 1) := by decide +kernel
theorem dX10_caught_138 : decode cX10_caught 138 = .ok (.istore 5, 2) := by decide +kernel
theorem dX10_caught_140 : decode cX10_caught 140 = .ok (.iinc 7 1, 3) := by decide +kernel
theorem dX10_caught_143 : decode cX10_caught 143 = .ok (.goto (-89), 3) := by decide +kernel
theorem dX10_caught_146 : decode cX10_caught 146 = .ok (.iconst 0, 1) := by decide +kernel
theorem dX10_caught_147 : decode cX10_caught 147 = .ok (.istore 7, 2) := by decide +kernel
theorem dX10_caught_149 : decode cX10_caught 149 = .ok (.iload 7, 2) := by decide +kernel
theorem dX10_caught_151 : decode cX10_caught 151 = .ok (.iload_n 2, 1) := by decide +kernel
theorem dX10_caught_152 : decode cX10_caught 152 = .ok (.if_icmp .ge 16, 3) := by decide +kernel
theorem dX10_caught_155 : decode cX10_caught 155 = .ok (.iload 6, 2) := by decide +kernel
theorem dX10_caught_157 : decode cX10_caught 157 = .ok (.bipush 10, 2) := by decide +kernel
theorem dX10_caught_159 : decode cX10_caught 159 = .ok (.imul, 1) := by decide +kernel
theorem dX10_caught_160 : decode cX10_caught 160 = .ok (.istore 6, 2) := by decide +kernel
theorem dX10_caught_162 : decode cX10_caught 162 = .ok (.iinc 7 1, 3) := by decide +kernel
theorem dX10_caught_165 : decode cX10_caught 165 = .ok (.goto (-16), 3) := by decide +kernel
theorem dX10_caught_168 : decode cX10_caught 168 = .ok (.iload 5, 2) := by decide +kernel
theorem dX10_caught_170 : decode cX10_caught 170 = .ok (.iload 6, 2) := by decide +kernel
theorem dX10_caught_172 : decode cX10_caught 172 = .ok (.invokestatic 241, 3) := by decide +kernel
theorem dX10_caught_175 : decode cX10_caught 175 = .ok (.istore 7, 2) := by decide +kernel
theorem dX10_caught_177 : decode cX10_caught 177 = .ok (.iload 4, 2) := by decide +kernel
theorem dX10_caught_179 : decode cX10_caught 179 = .ok (.ifCond .ne 11, 3) := by decide +kernel
theorem dX10_caught_182 : decode cX10_caught 182 = .ok (.iload 5, 2) := by decide +kernel
theorem dX10_caught_184 : decode cX10_caught 184 = .ok (.iload 7, 2) := by decide +kernel
theorem dX10_caught_186 : decode cX10_caught 186 = .ok (.idiv, 1) := by decide +kernel
theorem dX10_caught_187 : decode cX10_caught 187 = .ok (.goto 8, 3) := by decide +kernel
theorem dX10_caught_190 : decode cX10_caught 190 = .ok (.iload 6, 2) := by decide +kernel
theorem dX10_caught_192 : decode cX10_caught 192 = .ok (.iload 7, 2) := by decide +kernel
theorem dX10_caught_194 : decode cX10_caught 194 = .ok (.idiv, 1) := by decide +kernel
theorem dX10_caught_195 : decode cX10_caught 195 = .ok (.ireturn, 1) := by decide +kernel
theorem dX10_standsBy_0 : decode cX10_standsBy 0 = .ok (.iload_n 2, 1) := by decide +kernel
theorem dX10_standsBy_1 : decode cX10_standsBy 1 = .ok (.ifCond .eq 19, 3) := by decide +kernel
theorem dX10_standsBy_4 : decode cX10_standsBy 4 = .ok (.aload_n 0, 1) := by decide +kernel
theorem dX10_standsBy_5 : decode cX10_standsBy 5 = .ok (.getfield 40, 3) := by decide +kernel
theorem dX10_standsBy_8 : decode cX10_standsBy 8 = .ok (.iconst 0, 1) := by decide +kernel
theorem dX10_standsBy_9 : decode cX10_standsBy 9 = .ok (.iaload, 1) := by decide +kernel
theorem dX10_standsBy_10 : decode cX10_standsBy 10 = .ok (.aload_n 0, 1) := by decide +kernel
theorem dX10_standsBy_11 : decode cX10_standsBy 11 = .ok (.getfield 43, 3) := by decide +kernel
theorem dX10_standsBy_14 : decode cX10_standsBy 14 = .ok (.iload_n 1, 1) := by decide +kernel
theorem dX10_standsBy_15 : decode cX10_standsBy 15 = .ok (.iaload, 1) := by decide +kernel
theorem dX10_standsBy_16 : decode cX10_standsBy 16 = .ok (.iadd, 1) := by decide +kernel
theorem dX10_standsBy_17 : decode cX10_standsBy 17 = .ok (.goto 17, 3) := by decide +kernel
theorem dX10_standsBy_20 : decode cX10_standsBy 20 = .ok (.iload_n 3, 1) := by decide +kernel
theorem dX10_standsBy_21 : decode cX10_standsBy 21 = .ok (.ifCond .eq 7, 3) := by decide +kernel
theorem dX10_standsBy_24 : decode cX10_standsBy 24 = .ok (.iconst 0, 1) := by decide +kernel
theorem dX10_standsBy_25 : decode cX10_standsBy 25 = .ok (.goto 9, 3) := by decide +kernel
theorem dX10_standsBy_28 : decode cX10_standsBy 28 = .ok (.aload_n 0, 1) := by decide +kernel
theorem dX10_standsBy_29 : decode cX10_standsBy 29 = .ok (.getfield 40, 3) := by decide +kernel
theorem dX10_standsBy_32 : decode cX10_standsBy 32 = .ok (.iconst 1, 1) := by decide +kernel
theorem dX10_standsBy_33 : decode cX10_standsBy 33 = .ok (.iaload, 1) := by decide +kernel
theorem dX10_standsBy_34 : decode cX10_standsBy 34 = .ok (.ireturn, 1) := by decide +kernel
theorem dX10_rests_0 : decode cX10_rests 0 = .ok (.aload_n 0, 1) := by decide +kernel
theorem dX10_rests_1 : decode cX10_rests 1 = .ok (.iload_n 1, 1) := by decide +kernel
theorem dX10_rests_2 : decode cX10_rests 2 = .ok (.iload_n 2, 1) := by decide +kernel
theorem dX10_rests_3 : decode cX10_rests 3 = .ok (.invokevirtual 224, 3) := by decide +kernel
theorem dX10_rests_6 : decode cX10_rests 6 = .ok (.ifCond .eq 13, 3) := by decide +kernel
theorem dX10_rests_9 : decode cX10_rests 9 = .ok (.iload_n 3, 1) := by decide +kernel
theorem dX10_rests_10 : decode cX10_rests 10 = .ok (.i2l, 1) := by decide +kernel
theorem dX10_rests_11 : decode cX10_rests 11 = .ok (.lconst 0, 1) := by decide +kernel
theorem dX10_rests_12 : decode cX10_rests 12 = .ok (.lconst 1, 1) := by decide +kernel
theorem dX10_rests_13 : decode cX10_rests 13 = .ok (.invokestatic 109, 3) := by decide +kernel
theorem dX10_rests_16 : decode cX10_rests 16 = .ok (.ifCond .ne 5, 3) := by decide +kernel
theorem dX10_rests_19 : decode cX10_rests 19 = .ok (.iconst (-1), 1) := by decide +kernel
theorem dX10_rests_20 : decode cX10_rests 20 = .ok (.ireturn, 1) := by decide +kernel
theorem dX10_rests_21 : decode cX10_rests 21 = .ok (.iconst 0, 1) := by decide +kernel
theorem dX10_rests_22 : decode cX10_rests 22 = .ok (.istore 4, 2) := by decide +kernel
theorem dX10_rests_24 : decode cX10_rests 24 = .ok (.bipush (-4), 2) := by decide +kernel
theorem dX10_rests_26 : decode cX10_rests 26 = .ok (.istore 5, 2) := by decide +kernel
theorem dX10_rests_28 : decode cX10_rests 28 = .ok (.iconst 0, 1) := by decide +kernel
theorem dX10_rests_29 : decode cX10_rests 29 = .ok (.istore 6, 2) := by decide +kernel
theorem dX10_rests_31 : decode cX10_rests 31 = .ok (.iload 6, 2) := by decide +kernel
theorem dX10_rests_33 : decode cX10_rests 33 = .ok (.iconst 4, 1) := by decide +kernel
theorem dX10_rests_34 : decode cX10_rests 34 = .ok (.if_icmp .ge 135, 3) := by decide +kernel
theorem dX10_rests_37 : decode cX10_rests 37 = .ok (.iload 6, 2) := by decide +kernel
theorem dX10_rests_39 : decode cX10_rests 39 = .ok (.iconst 2, 1) := by decide +kernel
theorem dX10_rests_40 : decode cX10_rests 40 = .ok (.if_icmp .ge 7, 3) := by decide +kernel
theorem dX10_rests_43 : decode cX10_rests 43 = .ok (.iconst 1, 1) := by decide +kernel
theorem dX10_rests_44 : decode cX10_rests 44 = .ok (.goto 4, 3) := by decide +kernel
theorem dX10_rests_47 : decode cX10_rests 47 = .ok (.iconst 0, 1) := by decide +kernel
theorem dX10_rests_48 : decode cX10_rests 48 = .ok (.istore 7, 2) := by decide +kernel
theorem dX10_rests_50 : decode cX10_rests 50 = .ok (.iload 6, 2) := by decide +kernel
theorem dX10_rests_52 : decode cX10_rests 52 = .ok (.iconst 2, 1) := by decide +kernel
theorem dX10_rests_53 : decode cX10_rests 53 = .ok (.irem, 1) := by decide +kernel
theorem dX10_rests_54 : decode cX10_rests 54 = .ok (.ifCond .ne 7, 3) := by decide +kernel
theorem dX10_rests_57 : decode cX10_rests 57 = .ok (.iconst 1, 1) := by decide +kernel
theorem dX10_rests_58 : decode cX10_rests 58 = .ok (.goto 4, 3) := by decide +kernel
theorem dX10_rests_61 : decode cX10_rests 61 = .ok (.iconst 0, 1) := by decide +kernel
theorem dX10_rests_62 : decode cX10_rests 62 = .ok (.istore 8, 2) := by decide +kernel
theorem dX10_rests_64 : decode cX10_rests 64 = .ok (.aload_n 0, 1) := by decide +kernel
theorem dX10_rests_65 : decode cX10_rests 65 = .ok (.iload_n 1, 1) := by decide +kernel
theorem dX10_rests_66 : decode cX10_rests 66 = .ok (.iload 7, 2) := by decide +kernel
theorem dX10_rests_68 : decode cX10_rests 68 = .ok (.ifCond .ne 7, 3) := by decide +kernel
theorem dX10_rests_71 : decode cX10_rests 71 = .ok (.iconst 1, 1) := by decide +kernel
theorem dX10_rests_72 : decode cX10_rests 72 = .ok (.goto 4, 3) := by decide +kernel
theorem dX10_rests_75 : decode cX10_rests 75 = .ok (.iconst 0, 1) := by decide +kernel
theorem dX10_rests_76 : decode cX10_rests 76 = .ok (.iload 8, 2) := by decide +kernel
theorem dX10_rests_78 : decode cX10_rests 78 = .ok (.invokevirtual 244, 3) := by decide +kernel
theorem dX10_rests_81 : decode cX10_rests 81 = .ok (.aload_n 0, 1) := by decide +kernel
theorem dX10_rests_82 : decode cX10_rests 82 = .ok (.iload_n 1, 1) := by decide +kernel
theorem dX10_rests_83 : decode cX10_rests 83 = .ok (.iload 7, 2) := by decide +kernel
theorem dX10_rests_85 : decode cX10_rests 85 = .ok (.iload 8, 2) := by decide +kernel
theorem dX10_rests_87 : decode cX10_rests 87 = .ok (.invokevirtual 244, 3) := by decide +kernel
theorem dX10_rests_90 : decode cX10_rests 90 = .ok (.if_icmp .lt 36, 3) := by decide +kernel
theorem dX10_rests_93 : decode cX10_rests 93 = .ok (.aload_n 0, 1) := by decide +kernel
theorem dX10_rests_94 : decode cX10_rests 94 = .ok (.iload_n 2, 1) := by decide +kernel
theorem dX10_rests_95 : decode cX10_rests 95 = .ok (.iload 8, 2) := by decide +kernel
theorem dX10_rests_97 : decode cX10_rests 97 = .ok (.ifCond .ne 7, 3) := by decide +kernel
theorem dX10_rests_100 : decode cX10_rests 100 = .ok (.iconst 1, 1) := by decide +kernel
theorem dX10_rests_101 : decode cX10_rests 101 = .ok (.goto 4, 3) := by decide +kernel
theorem dX10_rests_104 : decode cX10_rests 104 = .ok (.iconst 0, 1) := by decide +kernel
theorem dX10_rests_105 : decode cX10_rests 105 = .ok (.iload 7, 2) := by decide +kernel
theorem dX10_rests_107 : decode cX10_rests 107 = .ok (.invokevirtual 244, 3) := by decide +kernel
theorem dX10_rests_110 : decode cX10_rests 110 = .ok (.aload_n 0, 1) := by decide +kernel
theorem dX10_rests_111 : decode cX10_rests 111 = .ok (.iload_n 2, 1) := by decide +kernel
theorem dX10_rests_112 : decode cX10_rests 112 = .ok (.iload 8, 2) := by decide +kernel
theorem dX10_rests_114 : decode cX10_rests 114 = .ok (.iload 7, 2) := by decide +kernel
theorem dX10_rests_116 : decode cX10_rests 116 = .ok (.invokevirtual 244, 3) := by decide +kernel
theorem dX10_rests_119 : decode cX10_rests 119 = .ok (.if_icmp .lt 7, 3) := by decide +kernel
theorem dX10_rests_122 : decode cX10_rests 122 = .ok (.iconst 1, 1) := by decide +kernel
theorem dX10_rests_123 : decode cX10_rests 123 = .ok (.goto 4, 3) := by decide +kernel
theorem dX10_rests_126 : decode cX10_rests 126 = .ok (.iconst 0, 1) := by decide +kernel
theorem dX10_rests_127 : decode cX10_rests 127 = .ok (.istore 9, 2) := by decide +kernel
theorem dX10_rests_129 : decode cX10_rests 129 = .ok (.iload 9, 2) := by decide +kernel
theorem dX10_rests_131 : decode cX10_rests 131 = .ok (.ifCond .eq 13, 3) := by decide +kernel
theorem dX10_rests_134 : decode cX10_rests 134 = .ok (.iload 4, 2) := by decide +kernel
theorem dX10_rests_136 : decode cX10_rests 136 = .ok (.ifCond .ne 8, 3) := by decide +kernel
theorem dX10_rests_139 : decode cX10_rests 139 = .ok (.iload 6, 2) := by decide +kernel
theorem dX10_rests_141 : decode cX10_rests 141 = .ok (.goto 5, 3) := by decide +kernel
theorem dX10_rests_144 : decode cX10_rests 144 = .ok (.iload 5, 2) := by decide +kernel
theorem dX10_rests_146 : decode cX10_rests 146 = .ok (.istore 5, 2) := by decide +kernel
theorem dX10_rests_148 : decode cX10_rests 148 = .ok (.iload 4, 2) := by decide +kernel
theorem dX10_rests_150 : decode cX10_rests 150 = .ok (.iload 9, 2) := by decide +kernel
theorem dX10_rests_152 : decode cX10_rests 152 = .ok (.ifCond .eq 7, 3) := by decide +kernel
theorem dX10_rests_155 : decode cX10_rests 155 = .ok (.iconst 1, 1) := by decide +kernel
theorem dX10_rests_156 : decode cX10_rests 156 = .ok (.goto 4, 3) := by decide +kernel
theorem dX10_rests_159 : decode cX10_rests 159 = .ok (.iconst 0, 1) := by decide +kernel
theorem dX10_rests_160 : decode cX10_rests 160 = .ok (.iadd, 1) := by decide +kernel
theorem dX10_rests_161 : decode cX10_rests 161 = .ok (.istore 4, 2) := by decide +kernel
theorem dX10_rests_163 : decode cX10_rests 163 = .ok (.iinc 6 1, 3) := by decide +kernel
theorem dX10_rests_166 : decode cX10_rests 166 = .ok (.goto (-135), 3) := by decide +kernel
theorem dX10_rests_169 : decode cX10_rests 169 = .ok (.iload_n 3, 1) := by decide +kernel
theorem dX10_rests_170 : decode cX10_rests 170 = .ok (.ifCond .ne 8, 3) := by decide +kernel
theorem dX10_rests_173 : decode cX10_rests 173 = .ok (.iload 4, 2) := by decide +kernel
theorem dX10_rests_175 : decode cX10_rests 175 = .ok (.goto 5, 3) := by decide +kernel
theorem dX10_rests_178 : decode cX10_rests 178 = .ok (.iload 5, 2) := by decide +kernel
theorem dX10_rests_180 : decode cX10_rests 180 = .ok (.ireturn, 1) := by decide +kernel
theorem dX10_seen_0 : decode cX10_seen 0 = .ok (.aload_n 0, 1) := by decide +kernel
theorem dX10_seen_1 : decode cX10_seen 1 = .ok (.iload_n 1, 1) := by decide +kernel
theorem dX10_seen_2 : decode cX10_seen 2 = .ok (.iload_n 2, 1) := by decide +kernel
theorem dX10_seen_3 : decode cX10_seen 3 = .ok (.invokevirtual 224, 3) := by decide +kernel
theorem dX10_seen_6 : decode cX10_seen 6 = .ok (.ifCond .ne 5, 3) := by decide +kernel
theorem dX10_seen_9 : decode cX10_seen 9 = .ok (.iconst (-1), 1) := by decide +kernel
theorem dX10_seen_10 : decode cX10_seen 10 = .ok (.ireturn, 1) := by decide +kernel
theorem dX10_seen_11 : decode cX10_seen 11 = .ok (.aload_n 0, 1) := by decide +kernel
theorem dX10_seen_12 : decode cX10_seen 12 = .ok (.getfield 19, 3) := by decide +kernel
theorem dX10_seen_15 : decode cX10_seen 15 = .ok (.iload_n 1, 1) := by decide +kernel
theorem dX10_seen_16 : decode cX10_seen 16 = .ok (.iaload, 1) := by decide +kernel
theorem dX10_seen_17 : decode cX10_seen 17 = .ok (.aload_n 0, 1) := by decide +kernel
theorem dX10_seen_18 : decode cX10_seen 18 = .ok (.getfield 19, 3) := by decide +kernel
theorem dX10_seen_21 : decode cX10_seen 21 = .ok (.iload_n 2, 1) := by decide +kernel
theorem dX10_seen_22 : decode cX10_seen 22 = .ok (.iaload, 1) := by decide +kernel
theorem dX10_seen_23 : decode cX10_seen 23 = .ok (.if_icmp .ne 6, 3) := by decide +kernel
theorem dX10_seen_26 : decode cX10_seen 26 = .ok (.bipush (-2), 2) := by decide +kernel
theorem dX10_seen_28 : decode cX10_seen 28 = .ok (.ireturn, 1) := by decide +kernel
theorem dX10_seen_29 : decode cX10_seen 29 = .ok (.aload_n 0, 1) := by decide +kernel
theorem dX10_seen_30 : decode cX10_seen 30 = .ok (.getfield 160, 3) := by decide +kernel
theorem dX10_seen_33 : decode cX10_seen 33 = .ok (.bipush 8, 2) := by decide +kernel
theorem dX10_seen_35 : decode cX10_seen 35 = .ok (.if_icmp .ne 6, 3) := by decide +kernel
theorem dX10_seen_38 : decode cX10_seen 38 = .ok (.bipush (-3), 2) := by decide +kernel
theorem dX10_seen_40 : decode cX10_seen 40 = .ok (.ireturn, 1) := by decide +kernel
theorem dX10_seen_41 : decode cX10_seen 41 = .ok (.aload_n 0, 1) := by decide +kernel
theorem dX10_seen_42 : decode cX10_seen 42 = .ok (.getfield 52, 3) := by decide +kernel
theorem dX10_seen_45 : decode cX10_seen 45 = .ok (.aload_n 0, 1) := by decide +kernel
theorem dX10_seen_46 : decode cX10_seen 46 = .ok (.getfield 160, 3) := by decide +kernel
theorem dX10_seen_49 : decode cX10_seen 49 = .ok (.iload_n 1, 1) := by decide +kernel
theorem dX10_seen_50 : decode cX10_seen 50 = .ok (.iastore, 1) := by decide +kernel
theorem dX10_seen_51 : decode cX10_seen 51 = .ok (.aload_n 0, 1) := by decide +kernel
theorem dX10_seen_52 : decode cX10_seen 52 = .ok (.getfield 55, 3) := by decide +kernel
theorem dX10_seen_55 : decode cX10_seen 55 = .ok (.aload_n 0, 1) := by decide +kernel
theorem dX10_seen_56 : decode cX10_seen 56 = .ok (.getfield 160, 3) := by decide +kernel
theorem dX10_seen_59 : decode cX10_seen 59 = .ok (.iload_n 2, 1) := by decide +kernel
theorem dX10_seen_60 : decode cX10_seen 60 = .ok (.iastore, 1) := by decide +kernel
theorem dX10_seen_61 : decode cX10_seen 61 = .ok (.aload_n 0, 1) := by decide +kernel
theorem dX10_seen_62 : decode cX10_seen 62 = .ok (.dup, 1) := by decide +kernel
theorem dX10_seen_63 : decode cX10_seen 63 = .ok (.getfield 160, 3) := by decide +kernel
theorem dX10_seen_66 : decode cX10_seen 66 = .ok (.iconst 1, 1) := by decide +kernel
theorem dX10_seen_67 : decode cX10_seen 67 = .ok (.iadd, 1) := by decide +kernel
theorem dX10_seen_68 : decode cX10_seen 68 = .ok (.putfield 160, 3) := by decide +kernel
theorem dX10_seen_71 : decode cX10_seen 71 = .ok (.aload_n 0, 1) := by decide +kernel
theorem dX10_seen_72 : decode cX10_seen 72 = .ok (.getfield 160, 3) := by decide +kernel
theorem dX10_seen_75 : decode cX10_seen 75 = .ok (.ireturn, 1) := by decide +kernel
theorem dX10_forget_0 : decode cX10_forget 0 = .ok (.aload_n 0, 1) := by decide +kernel
theorem dX10_forget_1 : decode cX10_forget 1 = .ok (.getfield 160, 3) := by decide +kernel
theorem dX10_forget_4 : decode cX10_forget 4 = .ok (.istore_n 1, 1) := by decide +kernel
theorem dX10_forget_5 : decode cX10_forget 5 = .ok (.aload_n 0, 1) := by decide +kernel
theorem dX10_forget_6 : decode cX10_forget 6 = .ok (.iconst 0, 1) := by decide +kernel
theorem dX10_forget_7 : decode cX10_forget 7 = .ok (.putfield 160, 3) := by decide +kernel
theorem dX10_forget_10 : decode cX10_forget 10 = .ok (.iload_n 1, 1) := by decide +kernel
theorem dX10_forget_11 : decode cX10_forget 11 = .ok (.ireturn, 1) := by decide +kernel
theorem dX10_fits_0 : decode cX10_fits 0 = .ok (.iconst 0, 1) := by decide +kernel
theorem dX10_fits_1 : decode cX10_fits 1 = .ok (.istore_n 1, 1) := by decide +kernel
theorem dX10_fits_2 : decode cX10_fits 2 = .ok (.iconst 0, 1) := by decide +kernel
theorem dX10_fits_3 : decode cX10_fits 3 = .ok (.istore_n 2, 1) := by decide +kernel
theorem dX10_fits_4 : decode cX10_fits 4 = .ok (.iload_n 2, 1) := by decide +kernel
theorem dX10_fits_5 : decode cX10_fits 5 = .ok (.iconst 4, 1) := by decide +kernel
theorem dX10_fits_6 : decode cX10_fits 6 = .ok (.if_icmp .ge 82, 3) := by decide +kernel
theorem dX10_fits_9 : decode cX10_fits 9 = .ok (.iconst 1, 1) := by decide +kernel
theorem dX10_fits_10 : decode cX10_fits 10 = .ok (.istore_n 3, 1) := by decide +kernel
theorem dX10_fits_11 : decode cX10_fits 11 = .ok (.iconst 0, 1) := by decide +kernel
theorem dX10_fits_12 : decode cX10_fits 12 = .ok (.istore 4, 2) := by decide +kernel
theorem dX10_fits_14 : decode cX10_fits 14 = .ok (.iload 4, 2) := by decide +kernel
theorem dX10_fits_16 : decode cX10_fits 16 = .ok (.aload_n 0, 1) := by decide +kernel
theorem dX10_fits_17 : decode cX10_fits 17 = .ok (.getfield 160, 3) := by decide +kernel
theorem dX10_fits_20 : decode cX10_fits 20 = .ok (.if_icmp .ge 48, 3) := by decide +kernel
theorem dX10_fits_23 : decode cX10_fits 23 = .ok (.iload_n 3, 1) := by decide +kernel
theorem dX10_fits_24 : decode cX10_fits 24 = .ok (.ifCond .eq 36, 3) := by decide +kernel
theorem dX10_fits_27 : decode cX10_fits 27 = .ok (.aload_n 0, 1) := by decide +kernel
theorem dX10_fits_28 : decode cX10_fits 28 = .ok (.iload_n 2, 1) := by decide +kernel
theorem dX10_fits_29 : decode cX10_fits 29 = .ok (.aload_n 0, 1) := by decide +kernel
theorem dX10_fits_30 : decode cX10_fits 30 = .ok (.getfield 52, 3) := by decide +kernel
theorem dX10_fits_33 : decode cX10_fits 33 = .ok (.iload 4, 2) := by decide +kernel
theorem dX10_fits_35 : decode cX10_fits 35 = .ok (.iaload, 1) := by decide +kernel
theorem dX10_fits_36 : decode cX10_fits 36 = .ok (.aload_n 0, 1) := by decide +kernel
theorem dX10_fits_37 : decode cX10_fits 37 = .ok (.getfield 55, 3) := by decide +kernel
theorem dX10_fits_40 : decode cX10_fits 40 = .ok (.iload 4, 2) := by decide +kernel
theorem dX10_fits_42 : decode cX10_fits 42 = .ok (.iaload, 1) := by decide +kernel
theorem dX10_fits_43 : decode cX10_fits 43 = .ok (.invokevirtual 185, 3) := by decide +kernel
theorem dX10_fits_46 : decode cX10_fits 46 = .ok (.aload_n 0, 1) := by decide +kernel
theorem dX10_fits_47 : decode cX10_fits 47 = .ok (.getfield 52, 3) := by decide +kernel
theorem dX10_fits_50 : decode cX10_fits 50 = .ok (.iload 4, 2) := by decide +kernel
theorem dX10_fits_52 : decode cX10_fits 52 = .ok (.iaload, 1) := by decide +kernel
theorem dX10_fits_53 : decode cX10_fits 53 = .ok (.if_icmp .ne 7, 3) := by decide +kernel
theorem dX10_fits_56 : decode cX10_fits 56 = .ok (.iconst 1, 1) := by decide +kernel
theorem dX10_fits_57 : decode cX10_fits 57 = .ok (.goto 4, 3) := by decide +kernel
theorem dX10_fits_60 : decode cX10_fits 60 = .ok (.iconst 0, 1) := by decide +kernel
theorem dX10_fits_61 : decode cX10_fits 61 = .ok (.istore_n 3, 1) := by decide +kernel
theorem dX10_fits_62 : decode cX10_fits 62 = .ok (.iinc 4 1, 3) := by decide +kernel
theorem dX10_fits_65 : decode cX10_fits 65 = .ok (.goto (-51), 3) := by decide +kernel
theorem dX10_fits_68 : decode cX10_fits 68 = .ok (.iload_n 1, 1) := by decide +kernel
theorem dX10_fits_69 : decode cX10_fits 69 = .ok (.iload_n 3, 1) := by decide +kernel
theorem dX10_fits_70 : decode cX10_fits 70 = .ok (.ifCond .eq 9, 3) := by decide +kernel
theorem dX10_fits_73 : decode cX10_fits 73 = .ok (.iconst 1, 1) := by decide +kernel
theorem dX10_fits_74 : decode cX10_fits 74 = .ok (.iload_n 2, 1) := by decide +kernel
theorem dX10_fits_75 : decode cX10_fits 75 = .ok (.ishl, 1) := by decide +kernel
theorem dX10_fits_76 : decode cX10_fits 76 = .ok (.goto 4, 3) := by decide +kernel
theorem dX10_fits_79 : decode cX10_fits 79 = .ok (.iconst 0, 1) := by decide +kernel
theorem dX10_fits_80 : decode cX10_fits 80 = .ok (.ior, 1) := by decide +kernel
theorem dX10_fits_81 : decode cX10_fits 81 = .ok (.istore_n 1, 1) := by decide +kernel
theorem dX10_fits_82 : decode cX10_fits 82 = .ok (.iinc 2 1, 3) := by decide +kernel
theorem dX10_fits_85 : decode cX10_fits 85 = .ok (.goto (-81), 3) := by decide +kernel
theorem dX10_fits_88 : decode cX10_fits 88 = .ok (.iload_n 1, 1) := by decide +kernel
theorem dX10_fits_89 : decode cX10_fits 89 = .ok (.ireturn, 1) := by decide +kernel
theorem dX10_starts_0 : decode cX10_starts 0 = .ok (.iload_n 1, 1) := by decide +kernel
theorem dX10_starts_1 : decode cX10_starts 1 = .ok (.invokestatic 209, 3) := by decide +kernel
theorem dX10_starts_4 : decode cX10_starts 4 = .ok (.ifCond .eq 11, 3) := by decide +kernel
theorem dX10_starts_7 : decode cX10_starts 7 = .ok (.aload_n 0, 1) := by decide +kernel
theorem dX10_starts_8 : decode cX10_starts 8 = .ok (.iload_n 2, 1) := by decide +kernel
theorem dX10_starts_9 : decode cX10_starts 9 = .ok (.invokevirtual 163, 3) := by decide +kernel
theorem dX10_starts_12 : decode cX10_starts 12 = .ok (.ifCond .ne 5, 3) := by decide +kernel
theorem dX10_starts_15 : decode cX10_starts 15 = .ok (.iconst (-1), 1) := by decide +kernel
theorem dX10_starts_16 : decode cX10_starts 16 = .ok (.ireturn, 1) := by decide +kernel
theorem dX10_starts_17 : decode cX10_starts 17 = .ok (.aload_n 0, 1) := by decide +kernel
theorem dX10_starts_18 : decode cX10_starts 18 = .ok (.iload_n 1, 1) := by decide +kernel
theorem dX10_starts_19 : decode cX10_starts 19 = .ok (.invokevirtual 214, 3) := by decide +kernel
theorem dX10_starts_22 : decode cX10_starts 22 = .ok (.pop, 1) := by decide +kernel
theorem dX10_starts_23 : decode cX10_starts 23 = .ok (.aload_n 0, 1) := by decide +kernel
theorem dX10_starts_24 : decode cX10_starts 24 = .ok (.getfield 76, 3) := by decide +kernel
theorem dX10_starts_27 : decode cX10_starts 27 = .ok (.iload_n 2, 1) := by decide +kernel
theorem dX10_starts_28 : decode cX10_starts 28 = .ok (.iaload, 1) := by decide +kernel
theorem dX10_starts_29 : decode cX10_starts 29 = .ok (.ireturn, 1) := by decide +kernel
theorem dX10_bears_0 : decode cX10_bears 0 = .ok (.iload_n 1, 1) := by decide +kernel
theorem dX10_bears_1 : decode cX10_bears 1 = .ok (.invokestatic 209, 3) := by decide +kernel
theorem dX10_bears_4 : decode cX10_bears 4 = .ok (.ifCond .eq 15, 3) := by decide +kernel
theorem dX10_bears_7 : decode cX10_bears 7 = .ok (.iload_n 2, 1) := by decide +kernel
theorem dX10_bears_8 : decode cX10_bears 8 = .ok (.i2l, 1) := by decide +kernel
theorem dX10_bears_9 : decode cX10_bears 9 = .ok (.lconst 0, 1) := by decide +kernel
theorem dX10_bears_10 : decode cX10_bears 10 = .ok (.ldc2_w 217, 3) := by decide +kernel
theorem dX10_bears_13 : decode cX10_bears 13 = .ok (.invokestatic 109, 3) := by decide +kernel
theorem dX10_bears_16 : decode cX10_bears 16 = .ok (.ifCond .ne 5, 3) := by decide +kernel
theorem dX10_bears_19 : decode cX10_bears 19 = .ok (.iconst (-1), 1) := by decide +kernel
theorem dX10_bears_20 : decode cX10_bears 20 = .ok (.ireturn, 1) := by decide +kernel
theorem dX10_bears_21 : decode cX10_bears 21 = .ok (.aload_n 0, 1) := by decide +kernel
theorem dX10_bears_22 : decode cX10_bears 22 = .ok (.iload_n 1, 1) := by decide +kernel
theorem dX10_bears_23 : decode cX10_bears 23 = .ok (.invokevirtual 214, 3) := by decide +kernel
theorem dX10_bears_26 : decode cX10_bears 26 = .ok (.pop, 1) := by decide +kernel
theorem dX10_bears_27 : decode cX10_bears 27 = .ok (.iconst 0, 1) := by decide +kernel
theorem dX10_bears_28 : decode cX10_bears 28 = .ok (.istore_n 3, 1) := by decide +kernel
theorem dX10_bears_29 : decode cX10_bears 29 = .ok (.iconst 0, 1) := by decide +kernel
theorem dX10_bears_30 : decode cX10_bears 30 = .ok (.istore 4, 2) := by decide +kernel
theorem dX10_bears_32 : decode cX10_bears 32 = .ok (.iload 4, 2) := by decide +kernel
theorem dX10_bears_34 : decode cX10_bears 34 = .ok (.aload_n 0, 1) := by decide +kernel
theorem dX10_bears_35 : decode cX10_bears 35 = .ok (.getfield 13, 3) := by decide +kernel
theorem dX10_bears_38 : decode cX10_bears 38 = .ok (.iconst 0, 1) := by decide +kernel
theorem dX10_bears_39 : decode cX10_bears 39 = .ok (.iaload, 1) := by decide +kernel
theorem dX10_bears_40 : decode cX10_bears 40 = .ok (.if_icmp .ge 31, 3) := by decide +kernel
theorem dX10_bears_43 : decode cX10_bears 43 = .ok (.iload_n 3, 1) := by decide +kernel
theorem dX10_bears_44 : decode cX10_bears 44 = .ok (.aload_n 0, 1) := by decide +kernel
theorem dX10_bears_45 : decode cX10_bears 45 = .ok (.getfield 76, 3) := by decide +kernel
theorem dX10_bears_48 : decode cX10_bears 48 = .ok (.iload 4, 2) := by decide +kernel
theorem dX10_bears_50 : decode cX10_bears 50 = .ok (.iaload, 1) := by decide +kernel
theorem dX10_bears_51 : decode cX10_bears 51 = .ok (.iload_n 2, 1) := by decide +kernel
theorem dX10_bears_52 : decode cX10_bears 52 = .ok (.if_icmp .gt 10, 3) := by decide +kernel
theorem dX10_bears_55 : decode cX10_bears 55 = .ok (.iconst 1, 1) := by decide +kernel
theorem dX10_bears_56 : decode cX10_bears 56 = .ok (.iload 4, 2) := by decide +kernel
theorem dX10_bears_58 : decode cX10_bears 58 = .ok (.ishl, 1) := by decide +kernel
theorem dX10_bears_59 : decode cX10_bears 59 = .ok (.goto 4, 3) := by decide +kernel
theorem dX10_bears_62 : decode cX10_bears 62 = .ok (.iconst 0, 1) := by decide +kernel
theorem dX10_bears_63 : decode cX10_bears 63 = .ok (.ior, 1) := by decide +kernel
theorem dX10_bears_64 : decode cX10_bears 64 = .ok (.istore_n 3, 1) := by decide +kernel
theorem dX10_bears_65 : decode cX10_bears 65 = .ok (.iinc 4 1, 3) := by decide +kernel
theorem dX10_bears_68 : decode cX10_bears 68 = .ok (.goto (-36), 3) := by decide +kernel
theorem dX10_bears_71 : decode cX10_bears 71 = .ok (.iload_n 3, 1) := by decide +kernel
theorem dX10_bears_72 : decode cX10_bears 72 = .ok (.ireturn, 1) := by decide +kernel
theorem dX10_day_0 : decode cX10_day 0 = .ok (.iload_n 1, 1) := by decide +kernel
theorem dX10_day_1 : decode cX10_day 1 = .ok (.invokestatic 209, 3) := by decide +kernel
theorem dX10_day_4 : decode cX10_day 4 = .ok (.ifCond .eq 25, 3) := by decide +kernel
theorem dX10_day_7 : decode cX10_day 7 = .ok (.iload_n 2, 1) := by decide +kernel
theorem dX10_day_8 : decode cX10_day 8 = .ok (.i2l, 1) := by decide +kernel
theorem dX10_day_9 : decode cX10_day 9 = .ok (.lconst 0, 1) := by decide +kernel
theorem dX10_day_10 : decode cX10_day 10 = .ok (.ldc2_w 248, 3) := by decide +kernel
theorem dX10_day_13 : decode cX10_day 13 = .ok (.invokestatic 109, 3) := by decide +kernel
theorem dX10_day_16 : decode cX10_day 16 = .ok (.ifCond .eq 13, 3) := by decide +kernel
theorem dX10_day_19 : decode cX10_day 19 = .ok (.iload_n 3, 1) := by decide +kernel
theorem dX10_day_20 : decode cX10_day 20 = .ok (.i2l, 1) := by decide +kernel
theorem dX10_day_21 : decode cX10_day 21 = .ok (.lconst 0, 1) := by decide +kernel
theorem dX10_day_22 : decode cX10_day 22 = .ok (.lconst 1, 1) := by decide +kernel
theorem dX10_day_23 : decode cX10_day 23 = .ok (.invokestatic 109, 3) := by decide +kernel
theorem dX10_day_26 : decode cX10_day 26 = .ok (.ifCond .ne 5, 3) := by decide +kernel
theorem dX10_day_29 : decode cX10_day 29 = .ok (.iconst (-1), 1) := by decide +kernel
theorem dX10_day_30 : decode cX10_day 30 = .ok (.ireturn, 1) := by decide +kernel
theorem dX10_day_31 : decode cX10_day 31 = .ok (.iconst 0, 1) := by decide +kernel
theorem dX10_day_32 : decode cX10_day 32 = .ok (.istore 4, 2) := by decide +kernel
theorem dX10_day_34 : decode cX10_day 34 = .ok (.iload 4, 2) := by decide +kernel
theorem dX10_day_36 : decode cX10_day 36 = .ok (.bipush 12, 2) := by decide +kernel
theorem dX10_day_38 : decode cX10_day 38 = .ok (.if_icmp .ge 23, 3) := by decide +kernel
theorem dX10_day_41 : decode cX10_day 41 = .ok (.aload_n 0, 1) := by decide +kernel
theorem dX10_day_42 : decode cX10_day 42 = .ok (.getfield 91, 3) := by decide +kernel
theorem dX10_day_45 : decode cX10_day 45 = .ok (.iload 4, 2) := by decide +kernel
theorem dX10_day_47 : decode cX10_day 47 = .ok (.aload_n 0, 1) := by decide +kernel
theorem dX10_day_48 : decode cX10_day 48 = .ok (.getfield 43, 3) := by decide +kernel
theorem dX10_day_51 : decode cX10_day 51 = .ok (.iload 4, 2) := by decide +kernel
theorem dX10_day_53 : decode cX10_day 53 = .ok (.iaload, 1) := by decide +kernel
theorem dX10_day_54 : decode cX10_day 54 = .ok (.iastore, 1) := by decide +kernel
theorem dX10_day_55 : decode cX10_day 55 = .ok (.iinc 4 1, 3) := by decide +kernel
theorem dX10_day_58 : decode cX10_day 58 = .ok (.goto (-24), 3) := by decide +kernel
theorem dX10_day_61 : decode cX10_day 61 = .ok (.iconst 0, 1) := by decide +kernel
theorem dX10_day_62 : decode cX10_day 62 = .ok (.istore 4, 2) := by decide +kernel
theorem dX10_day_64 : decode cX10_day 64 = .ok (.iload 4, 2) := by decide +kernel
theorem dX10_day_66 : decode cX10_day 66 = .ok (.bipush 6, 2) := by decide +kernel
theorem dX10_day_68 : decode cX10_day 68 = .ok (.if_icmp .ge 69, 3) := by decide +kernel
theorem dX10_day_71 : decode cX10_day 71 = .ok (.ldc2_w 250, 3) := by decide +kernel
theorem dX10_day_74 : decode cX10_day 74 = .ok (.iload_n 2, 1) := by decide +kernel
theorem dX10_day_75 : decode cX10_day 75 = .ok (.i2l, 1) := by decide +kernel
theorem dX10_day_76 : decode cX10_day 76 = .ok (.lmul, 1) := by decide +kernel
theorem dX10_day_77 : decode cX10_day 77 = .ok (.ldc2_w 252, 3) := by decide +kernel
theorem dX10_day_80 : decode cX10_day 80 = .ok (.iload 4, 2) := by decide +kernel
theorem dX10_day_82 : decode cX10_day 82 = .ok (.i2l, 1) := by decide +kernel
theorem dX10_day_83 : decode cX10_day 83 = .ok (.lmul, 1) := by decide +kernel
theorem dX10_day_84 : decode cX10_day 84 = .ok (.ladd, 1) := by decide +kernel
theorem dX10_day_85 : decode cX10_day 85 = .ok (.lconst 1, 1) := by decide +kernel
theorem dX10_day_86 : decode cX10_day 86 = .ok (.ladd, 1) := by decide +kernel
theorem dX10_day_87 : decode cX10_day 87 = .ok (.lstore 5, 2) := by decide +kernel
theorem dX10_day_89 : decode cX10_day 89 = .ok (.lload 5, 2) := by decide +kernel
theorem dX10_day_91 : decode cX10_day 91 = .ok (.lload 5, 2) := by decide +kernel
theorem dX10_day_93 : decode cX10_day 93 = .ok (.lmul, 1) := by decide +kernel
theorem dX10_day_94 : decode cX10_day 94 = .ok (.ldc2_w 254, 3) := by decide +kernel
theorem dX10_day_97 : decode cX10_day 97 = .ok (.lrem, 1) := by decide +kernel
theorem dX10_day_98 : decode cX10_day 98 = .ok (.l2i, 1) := by decide +kernel
theorem dX10_day_99 : decode cX10_day 99 = .ok (.istore 7, 2) := by decide +kernel
theorem dX10_day_101 : decode cX10_day 101 = .ok (.aload_n 0, 1) := by decide +kernel
theorem dX10_day_102 : decode cX10_day 102 = .ok (.getfield 43, 3) := by decide +kernel
theorem dX10_day_105 : decode cX10_day 105 = .ok (.iload 4, 2) := by decide +kernel
theorem dX10_day_107 : decode cX10_day 107 = .ok (.iload 7, 2) := by decide +kernel
theorem dX10_day_109 : decode cX10_day 109 = .ok (.bipush 64, 2) := by decide +kernel
theorem dX10_day_111 : decode cX10_day 111 = .ok (.idiv, 1) := by decide +kernel
theorem dX10_day_112 : decode cX10_day 112 = .ok (.bipush 10, 2) := by decide +kernel
theorem dX10_day_114 : decode cX10_day 114 = .ok (.irem, 1) := by decide +kernel
theorem dX10_day_115 : decode cX10_day 115 = .ok (.iastore, 1) := by decide +kernel
theorem dX10_day_116 : decode cX10_day 116 = .ok (.aload_n 0, 1) := by decide +kernel
theorem dX10_day_117 : decode cX10_day 117 = .ok (.getfield 43, 3) := by decide +kernel
theorem dX10_day_120 : decode cX10_day 120 = .ok (.bipush 6, 2) := by decide +kernel
theorem dX10_day_122 : decode cX10_day 122 = .ok (.iload 4, 2) := by decide +kernel
theorem dX10_day_124 : decode cX10_day 124 = .ok (.iadd, 1) := by decide +kernel
theorem dX10_day_125 : decode cX10_day 125 = .ok (.iload 7, 2) := by decide +kernel
theorem dX10_day_127 : decode cX10_day 127 = .ok (.bipush 31, 2) := by decide +kernel
theorem dX10_day_129 : decode cX10_day 129 = .ok (.irem, 1) := by decide +kernel
theorem dX10_day_130 : decode cX10_day 130 = .ok (.iastore, 1) := by decide +kernel
theorem dX10_day_131 : decode cX10_day 131 = .ok (.iinc 4 1, 3) := by decide +kernel
theorem dX10_day_134 : decode cX10_day 134 = .ok (.goto (-70), 3) := by decide +kernel
theorem dX10_day_137 : decode cX10_day 137 = .ok (.aload_n 0, 1) := by decide +kernel
theorem dX10_day_138 : decode cX10_day 138 = .ok (.iload_n 1, 1) := by decide +kernel
theorem dX10_day_139 : decode cX10_day 139 = .ok (.invokevirtual 214, 3) := by decide +kernel
theorem dX10_day_142 : decode cX10_day 142 = .ok (.istore 4, 2) := by decide +kernel
theorem dX10_day_144 : decode cX10_day 144 = .ok (.iconst 0, 1) := by decide +kernel
theorem dX10_day_145 : decode cX10_day 145 = .ok (.istore 5, 2) := by decide +kernel
theorem dX10_day_147 : decode cX10_day 147 = .ok (.iload 5, 2) := by decide +kernel
theorem dX10_day_149 : decode cX10_day 149 = .ok (.bipush 12, 2) := by decide +kernel
theorem dX10_day_151 : decode cX10_day 151 = .ok (.if_icmp .ge 23, 3) := by decide +kernel
theorem dX10_day_154 : decode cX10_day 154 = .ok (.aload_n 0, 1) := by decide +kernel
theorem dX10_day_155 : decode cX10_day 155 = .ok (.getfield 43, 3) := by decide +kernel
theorem dX10_day_158 : decode cX10_day 158 = .ok (.iload 5, 2) := by decide +kernel
theorem dX10_day_160 : decode cX10_day 160 = .ok (.aload_n 0, 1) := by decide +kernel
theorem dX10_day_161 : decode cX10_day 161 = .ok (.getfield 91, 3) := by decide +kernel
theorem dX10_day_164 : decode cX10_day 164 = .ok (.iload 5, 2) := by decide +kernel
theorem dX10_day_166 : decode cX10_day 166 = .ok (.iaload, 1) := by decide +kernel
theorem dX10_day_167 : decode cX10_day 167 = .ok (.iastore, 1) := by decide +kernel
theorem dX10_day_168 : decode cX10_day 168 = .ok (.iinc 5 1, 3) := by decide +kernel
theorem dX10_day_171 : decode cX10_day 171 = .ok (.goto (-24), 3) := by decide +kernel
theorem dX10_day_174 : decode cX10_day 174 = .ok (.iload_n 3, 1) := by decide +kernel
theorem dX10_day_175 : decode cX10_day 175 = .ok (.ifCond .ne 8, 3) := by decide +kernel
theorem dX10_day_178 : decode cX10_day 178 = .ok (.iload 4, 2) := by decide +kernel
theorem dX10_day_180 : decode cX10_day 180 = .ok (.goto 7, 3) := by decide +kernel
theorem dX10_day_183 : decode cX10_day 183 = .ok (.aload_n 0, 1) := by decide +kernel
theorem dX10_day_184 : decode cX10_day 184 = .ok (.getfield 195, 3) := by decide +kernel
theorem dX10_day_187 : decode cX10_day 187 = .ok (.ireturn, 1) := by decide +kernel
theorem dX10_keep_0 : decode cX10_keep 0 = .ok (.aload_n 0, 1) := by decide +kernel
theorem dX10_keep_1 : decode cX10_keep 1 = .ok (.getfield 157, 3) := by decide +kernel
theorem dX10_keep_4 : decode cX10_keep 4 = .ok (.iconst 2, 1) := by decide +kernel
theorem dX10_keep_5 : decode cX10_keep 5 = .ok (.if_icmp .ne 6, 3) := by decide +kernel
theorem dX10_keep_8 : decode cX10_keep 8 = .ok (.bipush (-3), 2) := by decide +kernel
theorem dX10_keep_10 : decode cX10_keep 10 = .ok (.ireturn, 1) := by decide +kernel
theorem dX10_keep_11 : decode cX10_keep 11 = .ok (.iconst 0, 1) := by decide +kernel
theorem dX10_keep_12 : decode cX10_keep 12 = .ok (.istore_n 1, 1) := by decide +kernel
theorem dX10_keep_13 : decode cX10_keep 13 = .ok (.iload_n 1, 1) := by decide +kernel
theorem dX10_keep_14 : decode cX10_keep 14 = .ok (.bipush 12, 2) := by decide +kernel
theorem dX10_keep_16 : decode cX10_keep 16 = .ok (.if_icmp .ge 29, 3) := by decide +kernel
theorem dX10_keep_19 : decode cX10_keep 19 = .ok (.aload_n 0, 1) := by decide +kernel
theorem dX10_keep_20 : decode cX10_keep 20 = .ok (.getfield 49, 3) := by decide +kernel
theorem dX10_keep_23 : decode cX10_keep 23 = .ok (.bipush 12, 2) := by decide +kernel
theorem dX10_keep_25 : decode cX10_keep 25 = .ok (.aload_n 0, 1) := by decide +kernel
theorem dX10_keep_26 : decode cX10_keep 26 = .ok (.getfield 157, 3) := by decide +kernel
theorem dX10_keep_29 : decode cX10_keep 29 = .ok (.imul, 1) := by decide +kernel
theorem dX10_keep_30 : decode cX10_keep 30 = .ok (.iload_n 1, 1) := by decide +kernel
theorem dX10_keep_31 : decode cX10_keep 31 = .ok (.iadd, 1) := by decide +kernel
theorem dX10_keep_32 : decode cX10_keep 32 = .ok (.aload_n 0, 1) := by decide +kernel
theorem dX10_keep_33 : decode cX10_keep 33 = .ok (.getfield 43, 3) := by decide +kernel
theorem dX10_keep_36 : decode cX10_keep 36 = .ok (.iload_n 1, 1) := by decide +kernel
theorem dX10_keep_37 : decode cX10_keep 37 = .ok (.iaload, 1) := by decide +kernel
theorem dX10_keep_38 : decode cX10_keep 38 = .ok (.iastore, 1) := by decide +kernel
theorem dX10_keep_39 : decode cX10_keep 39 = .ok (.iinc 1 1, 3) := by decide +kernel
theorem dX10_keep_42 : decode cX10_keep 42 = .ok (.goto (-29), 3) := by decide +kernel
theorem dX10_keep_45 : decode cX10_keep 45 = .ok (.aload_n 0, 1) := by decide +kernel
theorem dX10_keep_46 : decode cX10_keep 46 = .ok (.dup, 1) := by decide +kernel
theorem dX10_keep_47 : decode cX10_keep 47 = .ok (.getfield 157, 3) := by decide +kernel
theorem dX10_keep_50 : decode cX10_keep 50 = .ok (.iconst 1, 1) := by decide +kernel
theorem dX10_keep_51 : decode cX10_keep 51 = .ok (.iadd, 1) := by decide +kernel
theorem dX10_keep_52 : decode cX10_keep 52 = .ok (.putfield 157, 3) := by decide +kernel
theorem dX10_keep_55 : decode cX10_keep 55 = .ok (.aload_n 0, 1) := by decide +kernel
theorem dX10_keep_56 : decode cX10_keep 56 = .ok (.getfield 157, 3) := by decide +kernel
theorem dX10_keep_59 : decode cX10_keep 59 = .ok (.ireturn, 1) := by decide +kernel
theorem dX10_back_0 : decode cX10_back 0 = .ok (.aload_n 0, 1) := by decide +kernel
theorem dX10_back_1 : decode cX10_back 1 = .ok (.getfield 157, 3) := by decide +kernel
theorem dX10_back_4 : decode cX10_back 4 = .ok (.ifCond .ne 6, 3) := by decide +kernel
theorem dX10_back_7 : decode cX10_back 7 = .ok (.bipush (-2), 2) := by decide +kernel
theorem dX10_back_9 : decode cX10_back 9 = .ok (.ireturn, 1) := by decide +kernel
theorem dX10_back_10 : decode cX10_back 10 = .ok (.aload_n 0, 1) := by decide +kernel
theorem dX10_back_11 : decode cX10_back 11 = .ok (.dup, 1) := by decide +kernel
theorem dX10_back_12 : decode cX10_back 12 = .ok (.getfield 157, 3) := by decide +kernel
theorem dX10_back_15 : decode cX10_back 15 = .ok (.iconst 1, 1) := by decide +kernel
theorem dX10_back_16 : decode cX10_back 16 = .ok (.isub, 1) := by decide +kernel
theorem dX10_back_17 : decode cX10_back 17 = .ok (.putfield 157, 3) := by decide +kernel
theorem dX10_back_20 : decode cX10_back 20 = .ok (.iconst 0, 1) := by decide +kernel
theorem dX10_back_21 : decode cX10_back 21 = .ok (.istore_n 1, 1) := by decide +kernel
theorem dX10_back_22 : decode cX10_back 22 = .ok (.iload_n 1, 1) := by decide +kernel
theorem dX10_back_23 : decode cX10_back 23 = .ok (.bipush 12, 2) := by decide +kernel
theorem dX10_back_25 : decode cX10_back 25 = .ok (.if_icmp .ge 29, 3) := by decide +kernel
theorem dX10_back_28 : decode cX10_back 28 = .ok (.aload_n 0, 1) := by decide +kernel
theorem dX10_back_29 : decode cX10_back 29 = .ok (.getfield 43, 3) := by decide +kernel
theorem dX10_back_32 : decode cX10_back 32 = .ok (.iload_n 1, 1) := by decide +kernel
theorem dX10_back_33 : decode cX10_back 33 = .ok (.aload_n 0, 1) := by decide +kernel
theorem dX10_back_34 : decode cX10_back 34 = .ok (.getfield 49, 3) := by decide +kernel
theorem dX10_back_37 : decode cX10_back 37 = .ok (.bipush 12, 2) := by decide +kernel
theorem dX10_back_39 : decode cX10_back 39 = .ok (.aload_n 0, 1) := by decide +kernel
theorem dX10_back_40 : decode cX10_back 40 = .ok (.getfield 157, 3) := by decide +kernel
theorem dX10_back_43 : decode cX10_back 43 = .ok (.imul, 1) := by decide +kernel
theorem dX10_back_44 : decode cX10_back 44 = .ok (.iload_n 1, 1) := by decide +kernel
theorem dX10_back_45 : decode cX10_back 45 = .ok (.iadd, 1) := by decide +kernel
theorem dX10_back_46 : decode cX10_back 46 = .ok (.iaload, 1) := by decide +kernel
theorem dX10_back_47 : decode cX10_back 47 = .ok (.iastore, 1) := by decide +kernel
theorem dX10_back_48 : decode cX10_back 48 = .ok (.iinc 1 1, 3) := by decide +kernel
theorem dX10_back_51 : decode cX10_back 51 = .ok (.goto (-29), 3) := by decide +kernel
theorem dX10_back_54 : decode cX10_back 54 = .ok (.aload_n 0, 1) := by decide +kernel
theorem dX10_back_55 : decode cX10_back 55 = .ok (.iconst 0, 1) := by decide +kernel
theorem dX10_back_56 : decode cX10_back 56 = .ok (.putfield 154, 3) := by decide +kernel
theorem dX10_back_59 : decode cX10_back 59 = .ok (.aload_n 0, 1) := by decide +kernel
theorem dX10_back_60 : decode cX10_back 60 = .ok (.getfield 157, 3) := by decide +kernel
theorem dX10_back_63 : decode cX10_back 63 = .ok (.ireturn, 1) := by decide +kernel
theorem dX10_count_0 : decode cX10_count 0 = .ok (.iload_n 1, 1) := by decide +kernel
theorem dX10_count_1 : decode cX10_count 1 = .ok (.tableswitch 73 0 5 #[39, 46, 53, 58, 63, 68], 39) := by decide +kernel
theorem dX10_count_40 : decode cX10_count 40 = .ok (.aload_n 0, 1) := by decide +kernel
theorem dX10_count_41 : decode cX10_count 41 = .ok (.getfield 13, 3) := by decide +kernel
theorem dX10_count_44 : decode cX10_count 44 = .ok (.iconst 0, 1) := by decide +kernel
theorem dX10_count_45 : decode cX10_count 45 = .ok (.iaload, 1) := by decide +kernel
theorem dX10_count_46 : decode cX10_count 46 = .ok (.ireturn, 1) := by decide +kernel
theorem dX10_count_47 : decode cX10_count 47 = .ok (.aload_n 0, 1) := by decide +kernel
theorem dX10_count_48 : decode cX10_count 48 = .ok (.getfield 31, 3) := by decide +kernel
theorem dX10_count_51 : decode cX10_count 51 = .ok (.iconst 0, 1) := by decide +kernel
theorem dX10_count_52 : decode cX10_count 52 = .ok (.iaload, 1) := by decide +kernel
theorem dX10_count_53 : decode cX10_count 53 = .ok (.ireturn, 1) := by decide +kernel
theorem dX10_count_54 : decode cX10_count 54 = .ok (.aload_n 0, 1) := by decide +kernel
theorem dX10_count_55 : decode cX10_count 55 = .ok (.getfield 160, 3) := by decide +kernel
theorem dX10_count_58 : decode cX10_count 58 = .ok (.ireturn, 1) := by decide +kernel
theorem dX10_count_59 : decode cX10_count 59 = .ok (.aload_n 0, 1) := by decide +kernel
theorem dX10_count_60 : decode cX10_count 60 = .ok (.getfield 154, 3) := by decide +kernel
theorem dX10_count_63 : decode cX10_count 63 = .ok (.ireturn, 1) := by decide +kernel
theorem dX10_count_64 : decode cX10_count 64 = .ok (.aload_n 0, 1) := by decide +kernel
theorem dX10_count_65 : decode cX10_count 65 = .ok (.getfield 157, 3) := by decide +kernel
theorem dX10_count_68 : decode cX10_count 68 = .ok (.ireturn, 1) := by decide +kernel
theorem dX10_count_69 : decode cX10_count 69 = .ok (.aload_n 0, 1) := by decide +kernel
theorem dX10_count_70 : decode cX10_count 70 = .ok (.getfield 113, 3) := by decide +kernel
theorem dX10_count_73 : decode cX10_count 73 = .ok (.ireturn, 1) := by decide +kernel
theorem dX10_count_74 : decode cX10_count 74 = .ok (.iconst (-1), 1) := by decide +kernel
theorem dX10_count_75 : decode cX10_count 75 = .ok (.ireturn, 1) := by decide +kernel
