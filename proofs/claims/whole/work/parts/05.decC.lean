theorem dX10_init_0 : decode cX10_init 0 = .ok (.aload_n 0, 1) := by decide +kernel
theorem dX10_init_1 : decode cX10_init 1 = .ok (.invokespecial 1, 3) := by decide +kernel
theorem dX10_init_4 : decode cX10_init 4 = .ok (.aload_n 0, 1) := by decide +kernel
theorem dX10_init_5 : decode cX10_init 5 = .ok (.sipush 200, 3) := by decide +kernel
theorem dX10_init_8 : decode cX10_init 8 = .ok (.newarray .int, 2) := by decide +kernel
theorem dX10_init_10 : decode cX10_init 10 = .ok (.putfield 7, 3) := by decide +kernel
theorem dX10_init_13 : decode cX10_init 13 = .ok (.aload_n 0, 1) := by decide +kernel
theorem dX10_init_14 : decode cX10_init 14 = .ok (.iconst 2, 1) := by decide +kernel
theorem dX10_init_15 : decode cX10_init 15 = .ok (.newarray .int, 2) := by decide +kernel
theorem dX10_init_17 : decode cX10_init 17 = .ok (.putfield 13, 3) := by decide +kernel
theorem dX10_init_20 : decode cX10_init 20 = .ok (.aload_n 0, 1) := by decide +kernel
theorem dX10_init_21 : decode cX10_init 21 = .ok (.bipush 12, 2) := by decide +kernel
theorem dX10_init_23 : decode cX10_init 23 = .ok (.newarray .int, 2) := by decide +kernel
theorem dX10_init_25 : decode cX10_init 25 = .ok (.putfield 16, 3) := by decide +kernel
theorem dX10_init_28 : decode cX10_init 28 = .ok (.aload_n 0, 1) := by decide +kernel
theorem dX10_init_29 : decode cX10_init 29 = .ok (.bipush 12, 2) := by decide +kernel
theorem dX10_init_31 : decode cX10_init 31 = .ok (.newarray .int, 2) := by decide +kernel
theorem dX10_init_33 : decode cX10_init 33 = .ok (.putfield 19, 3) := by decide +kernel
theorem dX10_init_36 : decode cX10_init 36 = .ok (.aload_n 0, 1) := by decide +kernel
theorem dX10_init_37 : decode cX10_init 37 = .ok (.bipush 12, 2) := by decide +kernel
theorem dX10_init_39 : decode cX10_init 39 = .ok (.newarray .int, 2) := by decide +kernel
theorem dX10_init_41 : decode cX10_init 41 = .ok (.putfield 22, 3) := by decide +kernel
theorem dX10_init_44 : decode cX10_init 44 = .ok (.aload_n 0, 1) := by decide +kernel
theorem dX10_init_45 : decode cX10_init 45 = .ok (.bipush 12, 2) := by decide +kernel
theorem dX10_init_47 : decode cX10_init 47 = .ok (.newarray .int, 2) := by decide +kernel
theorem dX10_init_49 : decode cX10_init 49 = .ok (.putfield 25, 3) := by decide +kernel
theorem dX10_init_52 : decode cX10_init 52 = .ok (.aload_n 0, 1) := by decide +kernel
theorem dX10_init_53 : decode cX10_init 53 = .ok (.bipush 12, 2) := by decide +kernel
theorem dX10_init_55 : decode cX10_init 55 = .ok (.newarray .int, 2) := by decide +kernel
theorem dX10_init_57 : decode cX10_init 57 = .ok (.putfield 28, 3) := by decide +kernel
theorem dX10_init_60 : decode cX10_init 60 = .ok (.aload_n 0, 1) := by decide +kernel
theorem dX10_init_61 : decode cX10_init 61 = .ok (.iconst 2, 1) := by decide +kernel
theorem dX10_init_62 : decode cX10_init 62 = .ok (.newarray .int, 2) := by decide +kernel
theorem dX10_init_64 : decode cX10_init 64 = .ok (.putfield 31, 3) := by decide +kernel
theorem dX10_init_67 : decode cX10_init 67 = .ok (.aload_n 0, 1) := by decide +kernel
theorem dX10_init_68 : decode cX10_init 68 = .ok (.bipush 6, 2) := by decide +kernel
theorem dX10_init_70 : decode cX10_init 70 = .ok (.newarray .int, 2) := by decide +kernel
theorem dX10_init_72 : decode cX10_init 72 = .ok (.putfield 34, 3) := by decide +kernel
theorem dX10_init_75 : decode cX10_init 75 = .ok (.aload_n 0, 1) := by decide +kernel
theorem dX10_init_76 : decode cX10_init 76 = .ok (.bipush 6, 2) := by decide +kernel
theorem dX10_init_78 : decode cX10_init 78 = .ok (.newarray .int, 2) := by decide +kernel
theorem dX10_init_80 : decode cX10_init 80 = .ok (.putfield 37, 3) := by decide +kernel
theorem dX10_init_83 : decode cX10_init 83 = .ok (.aload_n 0, 1) := by decide +kernel
theorem dX10_init_84 : decode cX10_init 84 = .ok (.bipush 8, 2) := by decide +kernel
theorem dX10_init_86 : decode cX10_init 86 = .ok (.newarray .int, 2) := by decide +kernel
theorem dX10_init_88 : decode cX10_init 88 = .ok (.putfield 40, 3) := by decide +kernel
theorem dX10_init_91 : decode cX10_init 91 = .ok (.aload_n 0, 1) := by decide +kernel
theorem dX10_init_92 : decode cX10_init 92 = .ok (.bipush 12, 2) := by decide +kernel
theorem dX10_init_94 : decode cX10_init 94 = .ok (.newarray .int, 2) := by decide +kernel
theorem dX10_init_96 : decode cX10_init 96 = .ok (.putfield 43, 3) := by decide +kernel
theorem dX10_init_99 : decode cX10_init 99 = .ok (.aload_n 0, 1) := by decide +kernel
theorem dX10_init_100 : decode cX10_init 100 = .ok (.bipush 96, 2) := by decide +kernel
theorem dX10_init_102 : decode cX10_init 102 = .ok (.newarray .int, 2) := by decide +kernel
theorem dX10_init_104 : decode cX10_init 104 = .ok (.putfield 46, 3) := by decide +kernel
theorem dX10_init_107 : decode cX10_init 107 = .ok (.aload_n 0, 1) := by decide +kernel
theorem dX10_init_108 : decode cX10_init 108 = .ok (.bipush 24, 2) := by decide +kernel
theorem dX10_init_110 : decode cX10_init 110 = .ok (.newarray .int, 2) := by decide +kernel
theorem dX10_init_112 : decode cX10_init 112 = .ok (.putfield 49, 3) := by decide +kernel
theorem dX10_init_115 : decode cX10_init 115 = .ok (.aload_n 0, 1) := by decide +kernel
theorem dX10_init_116 : decode cX10_init 116 = .ok (.bipush 8, 2) := by decide +kernel
theorem dX10_init_118 : decode cX10_init 118 = .ok (.newarray .int, 2) := by decide +kernel
theorem dX10_init_120 : decode cX10_init 120 = .ok (.putfield 52, 3) := by decide +kernel
theorem dX10_init_123 : decode cX10_init 123 = .ok (.aload_n 0, 1) := by decide +kernel
theorem dX10_init_124 : decode cX10_init 124 = .ok (.bipush 8, 2) := by decide +kernel
theorem dX10_init_126 : decode cX10_init 126 = .ok (.newarray .int, 2) := by decide +kernel
theorem dX10_init_128 : decode cX10_init 128 = .ok (.putfield 55, 3) := by decide +kernel
theorem dX10_init_131 : decode cX10_init 131 = .ok (.aload_n 0, 1) := by decide +kernel
theorem dX10_init_132 : decode cX10_init 132 = .ok (.iconst 5, 1) := by decide +kernel
theorem dX10_init_133 : decode cX10_init 133 = .ok (.newarray .int, 2) := by decide +kernel
theorem dX10_init_135 : decode cX10_init 135 = .ok (.putfield 58, 3) := by decide +kernel
theorem dX10_init_138 : decode cX10_init 138 = .ok (.aload_n 0, 1) := by decide +kernel
theorem dX10_init_139 : decode cX10_init 139 = .ok (.sipush 726, 3) := by decide +kernel
theorem dX10_init_142 : decode cX10_init 142 = .ok (.newarray .int, 2) := by decide +kernel
theorem dX10_init_144 : decode cX10_init 144 = .ok (.putfield 61, 3) := by decide +kernel
theorem dX10_init_147 : decode cX10_init 147 = .ok (.aload_n 0, 1) := by decide +kernel
theorem dX10_init_148 : decode cX10_init 148 = .ok (.bipush 6, 2) := by decide +kernel
theorem dX10_init_150 : decode cX10_init 150 = .ok (.newarray .int, 2) := by decide +kernel
theorem dX10_init_152 : decode cX10_init 152 = .ok (.putfield 64, 3) := by decide +kernel
theorem dX10_init_155 : decode cX10_init 155 = .ok (.aload_n 0, 1) := by decide +kernel
theorem dX10_init_156 : decode cX10_init 156 = .ok (.bipush 6, 2) := by decide +kernel
theorem dX10_init_158 : decode cX10_init 158 = .ok (.newarray .int, 2) := by decide +kernel
theorem dX10_init_160 : decode cX10_init 160 = .ok (.putfield 67, 3) := by decide +kernel
theorem dX10_init_163 : decode cX10_init 163 = .ok (.aload_n 0, 1) := by decide +kernel
theorem dX10_init_164 : decode cX10_init 164 = .ok (.bipush 6, 2) := by decide +kernel
theorem dX10_init_166 : decode cX10_init 166 = .ok (.newarray .int, 2) := by decide +kernel
theorem dX10_init_168 : decode cX10_init 168 = .ok (.putfield 70, 3) := by decide +kernel
theorem dX10_init_171 : decode cX10_init 171 = .ok (.aload_n 0, 1) := by decide +kernel
theorem dX10_init_172 : decode cX10_init 172 = .ok (.bipush 6, 2) := by decide +kernel
theorem dX10_init_174 : decode cX10_init 174 = .ok (.newarray .int, 2) := by decide +kernel
theorem dX10_init_176 : decode cX10_init 176 = .ok (.putfield 73, 3) := by decide +kernel
theorem dX10_init_179 : decode cX10_init 179 = .ok (.aload_n 0, 1) := by decide +kernel
theorem dX10_init_180 : decode cX10_init 180 = .ok (.bipush 6, 2) := by decide +kernel
theorem dX10_init_182 : decode cX10_init 182 = .ok (.newarray .int, 2) := by decide +kernel
theorem dX10_init_184 : decode cX10_init 184 = .ok (.putfield 76, 3) := by decide +kernel
theorem dX10_init_187 : decode cX10_init 187 = .ok (.aload_n 0, 1) := by decide +kernel
theorem dX10_init_188 : decode cX10_init 188 = .ok (.bipush 15, 2) := by decide +kernel
theorem dX10_init_190 : decode cX10_init 190 = .ok (.newarray .int, 2) := by decide +kernel
theorem dX10_init_192 : decode cX10_init 192 = .ok (.putfield 79, 3) := by decide +kernel
theorem dX10_init_195 : decode cX10_init 195 = .ok (.aload_n 0, 1) := by decide +kernel
theorem dX10_init_196 : decode cX10_init 196 = .ok (.bipush 15, 2) := by decide +kernel
theorem dX10_init_198 : decode cX10_init 198 = .ok (.newarray .int, 2) := by decide +kernel
theorem dX10_init_200 : decode cX10_init 200 = .ok (.putfield 82, 3) := by decide +kernel
theorem dX10_init_203 : decode cX10_init 203 = .ok (.aload_n 0, 1) := by decide +kernel
theorem dX10_init_204 : decode cX10_init 204 = .ok (.bipush 15, 2) := by decide +kernel
theorem dX10_init_206 : decode cX10_init 206 = .ok (.newarray .int, 2) := by decide +kernel
theorem dX10_init_208 : decode cX10_init 208 = .ok (.putfield 85, 3) := by decide +kernel
theorem dX10_init_211 : decode cX10_init 211 = .ok (.aload_n 0, 1) := by decide +kernel
theorem dX10_init_212 : decode cX10_init 212 = .ok (.bipush 15, 2) := by decide +kernel
theorem dX10_init_214 : decode cX10_init 214 = .ok (.newarray .int, 2) := by decide +kernel
theorem dX10_init_216 : decode cX10_init 216 = .ok (.putfield 88, 3) := by decide +kernel
theorem dX10_init_219 : decode cX10_init 219 = .ok (.aload_n 0, 1) := by decide +kernel
theorem dX10_init_220 : decode cX10_init 220 = .ok (.bipush 12, 2) := by decide +kernel
theorem dX10_init_222 : decode cX10_init 222 = .ok (.newarray .int, 2) := by decide +kernel
theorem dX10_init_224 : decode cX10_init 224 = .ok (.putfield 91, 3) := by decide +kernel
theorem dX10_init_227 : decode cX10_init 227 = .ok (.aload_n 0, 1) := by decide +kernel
theorem dX10_init_228 : decode cX10_init 228 = .ok (.iconst 0, 1) := by decide +kernel
theorem dX10_init_229 : decode cX10_init 229 = .ok (.invokevirtual 94, 3) := by decide +kernel
theorem dX10_init_232 : decode cX10_init 232 = .ok (.aload_n 0, 1) := by decide +kernel
theorem dX10_init_233 : decode cX10_init 233 = .ok (.iconst 0, 1) := by decide +kernel
theorem dX10_init_234 : decode cX10_init 234 = .ok (.iconst 0, 1) := by decide +kernel
theorem dX10_init_235 : decode cX10_init 235 = .ok (.iconst 0, 1) := by decide +kernel
theorem dX10_init_236 : decode cX10_init 236 = .ok (.iconst 2, 1) := by decide +kernel
theorem dX10_init_237 : decode cX10_init 237 = .ok (.iconst 3, 1) := by decide +kernel
theorem dX10_init_238 : decode cX10_init 238 = .ok (.iconst 0, 1) := by decide +kernel
theorem dX10_init_239 : decode cX10_init 239 = .ok (.invokevirtual 98, 3) := by decide +kernel
theorem dX10_init_242 : decode cX10_init 242 = .ok (.aload_n 0, 1) := by decide +kernel
theorem dX10_init_243 : decode cX10_init 243 = .ok (.iconst 0, 1) := by decide +kernel
theorem dX10_init_244 : decode cX10_init 244 = .ok (.bipush 60, 2) := by decide +kernel
theorem dX10_init_246 : decode cX10_init 246 = .ok (.iconst 1, 1) := by decide +kernel
theorem dX10_init_247 : decode cX10_init 247 = .ok (.iconst 2, 1) := by decide +kernel
theorem dX10_init_248 : decode cX10_init 248 = .ok (.iconst 0, 1) := by decide +kernel
theorem dX10_init_249 : decode cX10_init 249 = .ok (.iconst 0, 1) := by decide +kernel
theorem dX10_init_250 : decode cX10_init 250 = .ok (.invokevirtual 98, 3) := by decide +kernel
theorem dX10_init_253 : decode cX10_init 253 = .ok (.aload_n 0, 1) := by decide +kernel
theorem dX10_init_254 : decode cX10_init 254 = .ok (.iconst 0, 1) := by decide +kernel
theorem dX10_init_255 : decode cX10_init 255 = .ok (.bipush 50, 2) := by decide +kernel
theorem dX10_init_257 : decode cX10_init 257 = .ok (.iconst 1, 1) := by decide +kernel
theorem dX10_init_258 : decode cX10_init 258 = .ok (.iconst 1, 1) := by decide +kernel
theorem dX10_init_259 : decode cX10_init 259 = .ok (.iconst 5, 1) := by decide +kernel
theorem dX10_init_260 : decode cX10_init 260 = .ok (.iconst 1, 1) := by decide +kernel
theorem dX10_init_261 : decode cX10_init 261 = .ok (.invokevirtual 98, 3) := by decide +kernel
theorem dX10_init_264 : decode cX10_init 264 = .ok (.aload_n 0, 1) := by decide +kernel
theorem dX10_init_265 : decode cX10_init 265 = .ok (.iconst 0, 1) := by decide +kernel
theorem dX10_init_266 : decode cX10_init 266 = .ok (.bipush 10, 2) := by decide +kernel
theorem dX10_init_268 : decode cX10_init 268 = .ok (.iconst 0, 1) := by decide +kernel
theorem dX10_init_269 : decode cX10_init 269 = .ok (.iconst 1, 1) := by decide +kernel
theorem dX10_init_270 : decode cX10_init 270 = .ok (.bipush 9, 2) := by decide +kernel
theorem dX10_init_272 : decode cX10_init 272 = .ok (.iconst 2, 1) := by decide +kernel
theorem dX10_init_273 : decode cX10_init 273 = .ok (.invokevirtual 98, 3) := by decide +kernel
theorem dX10_init_276 : decode cX10_init 276 = .ok (.aload_n 0, 1) := by decide +kernel
theorem dX10_init_277 : decode cX10_init 277 = .ok (.getfield 31, 3) := by decide +kernel
theorem dX10_init_280 : decode cX10_init 280 = .ok (.iconst 0, 1) := by decide +kernel
theorem dX10_init_281 : decode cX10_init 281 = .ok (.iconst 1, 1) := by decide +kernel
theorem dX10_init_282 : decode cX10_init 282 = .ok (.iastore, 1) := by decide +kernel
theorem dX10_init_283 : decode cX10_init 283 = .ok (.aload_n 0, 1) := by decide +kernel
theorem dX10_init_284 : decode cX10_init 284 = .ok (.getfield 34, 3) := by decide +kernel
theorem dX10_init_287 : decode cX10_init 287 = .ok (.iconst 0, 1) := by decide +kernel
theorem dX10_init_288 : decode cX10_init 288 = .ok (.bipush 28, 2) := by decide +kernel
theorem dX10_init_290 : decode cX10_init 290 = .ok (.iastore, 1) := by decide +kernel
theorem dX10_init_291 : decode cX10_init 291 = .ok (.aload_n 0, 1) := by decide +kernel
theorem dX10_init_292 : decode cX10_init 292 = .ok (.getfield 37, 3) := by decide +kernel
theorem dX10_init_295 : decode cX10_init 295 = .ok (.iconst 0, 1) := by decide +kernel
theorem dX10_init_296 : decode cX10_init 296 = .ok (.bipush 32, 2) := by decide +kernel
theorem dX10_init_298 : decode cX10_init 298 = .ok (.iastore, 1) := by decide +kernel
theorem dX10_init_299 : decode cX10_init 299 = .ok (.aload_n 0, 1) := by decide +kernel
theorem dX10_init_300 : decode cX10_init 300 = .ok (.invokevirtual 102, 3) := by decide +kernel
theorem dX10_init_303 : decode cX10_init 303 = .ok (.return_, 1) := by decide +kernel
theorem dX10_in_0 : decode cX10_in 0 = .ok (.lload_n 0, 1) := by decide +kernel
theorem dX10_in_1 : decode cX10_in 1 = .ok (.lload_n 2, 1) := by decide +kernel
theorem dX10_in_2 : decode cX10_in 2 = .ok (.lcmp, 1) := by decide +kernel
theorem dX10_in_3 : decode cX10_in 3 = .ok (.ifCond .lt 14, 3) := by decide +kernel
theorem dX10_in_6 : decode cX10_in 6 = .ok (.lload_n 0, 1) := by decide +kernel
theorem dX10_in_7 : decode cX10_in 7 = .ok (.lload 4, 2) := by decide +kernel
theorem dX10_in_9 : decode cX10_in 9 = .ok (.lcmp, 1) := by decide +kernel
theorem dX10_in_10 : decode cX10_in 10 = .ok (.ifCond .gt 7, 3) := by decide +kernel
theorem dX10_in_13 : decode cX10_in 13 = .ok (.iconst 1, 1) := by decide +kernel
theorem dX10_in_14 : decode cX10_in 14 = .ok (.goto 4, 3) := by decide +kernel
theorem dX10_in_17 : decode cX10_in 17 = .ok (.iconst 0, 1) := by decide +kernel
theorem dX10_in_18 : decode cX10_in 18 = .ok (.ireturn, 1) := by decide +kernel
theorem dX10_noCut_0 : decode cX10_noCut 0 = .ok (.aload_n 0, 1) := by decide +kernel
theorem dX10_noCut_1 : decode cX10_noCut 1 = .ok (.getfield 13, 3) := by decide +kernel
theorem dX10_noCut_4 : decode cX10_noCut 4 = .ok (.iload_n 1, 1) := by decide +kernel
theorem dX10_noCut_5 : decode cX10_noCut 5 = .ok (.iconst 0, 1) := by decide +kernel
theorem dX10_noCut_6 : decode cX10_noCut 6 = .ok (.iastore, 1) := by decide +kernel
theorem dX10_noCut_7 : decode cX10_noCut 7 = .ok (.aload_n 0, 1) := by decide +kernel
theorem dX10_noCut_8 : decode cX10_noCut 8 = .ok (.getfield 31, 3) := by decide +kernel
theorem dX10_noCut_11 : decode cX10_noCut 11 = .ok (.iload_n 1, 1) := by decide +kernel
theorem dX10_noCut_12 : decode cX10_noCut 12 = .ok (.iconst 0, 1) := by decide +kernel
theorem dX10_noCut_13 : decode cX10_noCut 13 = .ok (.iastore, 1) := by decide +kernel
theorem dX10_noCut_14 : decode cX10_noCut 14 = .ok (.aload_n 0, 1) := by decide +kernel
theorem dX10_noCut_15 : decode cX10_noCut 15 = .ok (.getfield 40, 3) := by decide +kernel
theorem dX10_noCut_18 : decode cX10_noCut 18 = .ok (.iconst 4, 1) := by decide +kernel
theorem dX10_noCut_19 : decode cX10_noCut 19 = .ok (.iload_n 1, 1) := by decide +kernel
theorem dX10_noCut_20 : decode cX10_noCut 20 = .ok (.imul, 1) := by decide +kernel
theorem dX10_noCut_21 : decode cX10_noCut 21 = .ok (.iconst 4, 1) := by decide +kernel
theorem dX10_noCut_22 : decode cX10_noCut 22 = .ok (.iastore, 1) := by decide +kernel
theorem dX10_noCut_23 : decode cX10_noCut 23 = .ok (.aload_n 0, 1) := by decide +kernel
theorem dX10_noCut_24 : decode cX10_noCut 24 = .ok (.getfield 40, 3) := by decide +kernel
theorem dX10_noCut_27 : decode cX10_noCut 27 = .ok (.iconst 4, 1) := by decide +kernel
theorem dX10_noCut_28 : decode cX10_noCut 28 = .ok (.iload_n 1, 1) := by decide +kernel
theorem dX10_noCut_29 : decode cX10_noCut 29 = .ok (.imul, 1) := by decide +kernel
theorem dX10_noCut_30 : decode cX10_noCut 30 = .ok (.iconst 1, 1) := by decide +kernel
theorem dX10_noCut_31 : decode cX10_noCut 31 = .ok (.iadd, 1) := by decide +kernel
theorem dX10_noCut_32 : decode cX10_noCut 32 = .ok (.bipush 10, 2) := by decide +kernel
theorem dX10_noCut_34 : decode cX10_noCut 34 = .ok (.iastore, 1) := by decide +kernel
theorem dX10_noCut_35 : decode cX10_noCut 35 = .ok (.aload_n 0, 1) := by decide +kernel
theorem dX10_noCut_36 : decode cX10_noCut 36 = .ok (.getfield 40, 3) := by decide +kernel
theorem dX10_noCut_39 : decode cX10_noCut 39 = .ok (.iconst 4, 1) := by decide +kernel
theorem dX10_noCut_40 : decode cX10_noCut 40 = .ok (.iload_n 1, 1) := by decide +kernel
theorem dX10_noCut_41 : decode cX10_noCut 41 = .ok (.imul, 1) := by decide +kernel
theorem dX10_noCut_42 : decode cX10_noCut 42 = .ok (.iconst 2, 1) := by decide +kernel
theorem dX10_noCut_43 : decode cX10_noCut 43 = .ok (.iadd, 1) := by decide +kernel
theorem dX10_noCut_44 : decode cX10_noCut 44 = .ok (.iconst 2, 1) := by decide +kernel
theorem dX10_noCut_45 : decode cX10_noCut 45 = .ok (.iastore, 1) := by decide +kernel
theorem dX10_noCut_46 : decode cX10_noCut 46 = .ok (.aload_n 0, 1) := by decide +kernel
theorem dX10_noCut_47 : decode cX10_noCut 47 = .ok (.getfield 40, 3) := by decide +kernel
theorem dX10_noCut_50 : decode cX10_noCut 50 = .ok (.iconst 4, 1) := by decide +kernel
theorem dX10_noCut_51 : decode cX10_noCut 51 = .ok (.iload_n 1, 1) := by decide +kernel
theorem dX10_noCut_52 : decode cX10_noCut 52 = .ok (.imul, 1) := by decide +kernel
theorem dX10_noCut_53 : decode cX10_noCut 53 = .ok (.iconst 3, 1) := by decide +kernel
theorem dX10_noCut_54 : decode cX10_noCut 54 = .ok (.iadd, 1) := by decide +kernel
theorem dX10_noCut_55 : decode cX10_noCut 55 = .ok (.iconst 4, 1) := by decide +kernel
theorem dX10_noCut_56 : decode cX10_noCut 56 = .ok (.iastore, 1) := by decide +kernel
theorem dX10_noCut_57 : decode cX10_noCut 57 = .ok (.return_, 1) := by decide +kernel
theorem dX10_addBoat_0 : decode cX10_addBoat 0 = .ok (.bipush 6, 2) := by decide +kernel
theorem dX10_addBoat_2 : decode cX10_addBoat 2 = .ok (.iload_n 1, 1) := by decide +kernel
theorem dX10_addBoat_3 : decode cX10_addBoat 3 = .ok (.imul, 1) := by decide +kernel
theorem dX10_addBoat_4 : decode cX10_addBoat 4 = .ok (.aload_n 0, 1) := by decide +kernel
theorem dX10_addBoat_5 : decode cX10_addBoat 5 = .ok (.getfield 13, 3) := by decide +kernel
theorem dX10_addBoat_8 : decode cX10_addBoat 8 = .ok (.iload_n 1, 1) := by decide +kernel
theorem dX10_addBoat_9 : decode cX10_addBoat 9 = .ok (.iaload, 1) := by decide +kernel
theorem dX10_addBoat_10 : decode cX10_addBoat 10 = .ok (.iadd, 1) := by decide +kernel
theorem dX10_addBoat_11 : decode cX10_addBoat 11 = .ok (.istore 7, 2) := by decide +kernel
theorem dX10_addBoat_13 : decode cX10_addBoat 13 = .ok (.aload_n 0, 1) := by decide +kernel
theorem dX10_addBoat_14 : decode cX10_addBoat 14 = .ok (.getfield 16, 3) := by decide +kernel
theorem dX10_addBoat_17 : decode cX10_addBoat 17 = .ok (.iload 7, 2) := by decide +kernel
theorem dX10_addBoat_19 : decode cX10_addBoat 19 = .ok (.iload_n 2, 1) := by decide +kernel
theorem dX10_addBoat_20 : decode cX10_addBoat 20 = .ok (.iastore, 1) := by decide +kernel
theorem dX10_addBoat_21 : decode cX10_addBoat 21 = .ok (.aload_n 0, 1) := by decide +kernel
theorem dX10_addBoat_22 : decode cX10_addBoat 22 = .ok (.getfield 19, 3) := by decide +kernel
theorem dX10_addBoat_25 : decode cX10_addBoat 25 = .ok (.iload 7, 2) := by decide +kernel
theorem dX10_addBoat_27 : decode cX10_addBoat 27 = .ok (.iload_n 3, 1) := by decide +kernel
theorem dX10_addBoat_28 : decode cX10_addBoat 28 = .ok (.iastore, 1) := by decide +kernel
theorem dX10_addBoat_29 : decode cX10_addBoat 29 = .ok (.aload_n 0, 1) := by decide +kernel
theorem dX10_addBoat_30 : decode cX10_addBoat 30 = .ok (.getfield 22, 3) := by decide +kernel
theorem dX10_addBoat_33 : decode cX10_addBoat 33 = .ok (.iload 7, 2) := by decide +kernel
theorem dX10_addBoat_35 : decode cX10_addBoat 35 = .ok (.iload 4, 2) := by decide +kernel
theorem dX10_addBoat_37 : decode cX10_addBoat 37 = .ok (.iastore, 1) := by decide +kernel
theorem dX10_addBoat_38 : decode cX10_addBoat 38 = .ok (.aload_n 0, 1) := by decide +kernel
theorem dX10_addBoat_39 : decode cX10_addBoat 39 = .ok (.getfield 25, 3) := by decide +kernel
theorem dX10_addBoat_42 : decode cX10_addBoat 42 = .ok (.iload 7, 2) := by decide +kernel
theorem dX10_addBoat_44 : decode cX10_addBoat 44 = .ok (.iload 5, 2) := by decide +kernel
theorem dX10_addBoat_46 : decode cX10_addBoat 46 = .ok (.iastore, 1) := by decide +kernel
theorem dX10_addBoat_47 : decode cX10_addBoat 47 = .ok (.aload_n 0, 1) := by decide +kernel
theorem dX10_addBoat_48 : decode cX10_addBoat 48 = .ok (.getfield 28, 3) := by decide +kernel
theorem dX10_addBoat_51 : decode cX10_addBoat 51 = .ok (.iload 7, 2) := by decide +kernel
theorem dX10_addBoat_53 : decode cX10_addBoat 53 = .ok (.iload 6, 2) := by decide +kernel
theorem dX10_addBoat_55 : decode cX10_addBoat 55 = .ok (.iastore, 1) := by decide +kernel
theorem dX10_addBoat_56 : decode cX10_addBoat 56 = .ok (.aload_n 0, 1) := by decide +kernel
theorem dX10_addBoat_57 : decode cX10_addBoat 57 = .ok (.getfield 13, 3) := by decide +kernel
theorem dX10_addBoat_60 : decode cX10_addBoat 60 = .ok (.iload_n 1, 1) := by decide +kernel
theorem dX10_addBoat_61 : decode cX10_addBoat 61 = .ok (.dup2, 1) := by decide +kernel
theorem dX10_addBoat_62 : decode cX10_addBoat 62 = .ok (.iaload, 1) := by decide +kernel
theorem dX10_addBoat_63 : decode cX10_addBoat 63 = .ok (.iconst 1, 1) := by decide +kernel
theorem dX10_addBoat_64 : decode cX10_addBoat 64 = .ok (.iadd, 1) := by decide +kernel
theorem dX10_addBoat_65 : decode cX10_addBoat 65 = .ok (.iastore, 1) := by decide +kernel
theorem dX10_addBoat_66 : decode cX10_addBoat 66 = .ok (.return_, 1) := by decide +kernel
theorem dX10_write_0 : decode cX10_write 0 = .ok (.iload_n 1, 1) := by decide +kernel
theorem dX10_write_1 : decode cX10_write 1 = .ok (.i2l, 1) := by decide +kernel
theorem dX10_write_2 : decode cX10_write 2 = .ok (.ldc2_w 105, 3) := by decide +kernel
theorem dX10_write_5 : decode cX10_write 5 = .ok (.ldc2_w 107, 3) := by decide +kernel
theorem dX10_write_8 : decode cX10_write 8 = .ok (.invokestatic 109, 3) := by decide +kernel
theorem dX10_write_11 : decode cX10_write 11 = .ok (.ifCond .ne 5, 3) := by decide +kernel
theorem dX10_write_14 : decode cX10_write 14 = .ok (.iconst (-1), 1) := by decide +kernel
theorem dX10_write_15 : decode cX10_write 15 = .ok (.ireturn, 1) := by decide +kernel
theorem dX10_write_16 : decode cX10_write 16 = .ok (.aload_n 0, 1) := by decide +kernel
theorem dX10_write_17 : decode cX10_write 17 = .ok (.getfield 113, 3) := by decide +kernel
theorem dX10_write_20 : decode cX10_write 20 = .ok (.sipush 200, 3) := by decide +kernel
theorem dX10_write_23 : decode cX10_write 23 = .ok (.if_icmp .ne 6, 3) := by decide +kernel
theorem dX10_write_26 : decode cX10_write 26 = .ok (.bipush (-3), 2) := by decide +kernel
theorem dX10_write_28 : decode cX10_write 28 = .ok (.ireturn, 1) := by decide +kernel
theorem dX10_write_29 : decode cX10_write 29 = .ok (.aload_n 0, 1) := by decide +kernel
theorem dX10_write_30 : decode cX10_write 30 = .ok (.getfield 7, 3) := by decide +kernel
theorem dX10_write_33 : decode cX10_write 33 = .ok (.aload_n 0, 1) := by decide +kernel
theorem dX10_write_34 : decode cX10_write 34 = .ok (.getfield 113, 3) := by decide +kernel
theorem dX10_write_37 : decode cX10_write 37 = .ok (.iload_n 1, 1) := by decide +kernel
theorem dX10_write_38 : decode cX10_write 38 = .ok (.iastore, 1) := by decide +kernel
theorem dX10_write_39 : decode cX10_write 39 = .ok (.aload_n 0, 1) := by decide +kernel
theorem dX10_write_40 : decode cX10_write 40 = .ok (.dup, 1) := by decide +kernel
theorem dX10_write_41 : decode cX10_write 41 = .ok (.getfield 113, 3) := by decide +kernel
theorem dX10_write_44 : decode cX10_write 44 = .ok (.iconst 1, 1) := by decide +kernel
theorem dX10_write_45 : decode cX10_write 45 = .ok (.iadd, 1) := by decide +kernel
theorem dX10_write_46 : decode cX10_write 46 = .ok (.putfield 113, 3) := by decide +kernel
theorem dX10_write_49 : decode cX10_write 49 = .ok (.aload_n 0, 1) := by decide +kernel
theorem dX10_write_50 : decode cX10_write 50 = .ok (.getfield 113, 3) := by decide +kernel
theorem dX10_write_53 : decode cX10_write 53 = .ok (.ireturn, 1) := by decide +kernel
theorem dX10_wipe_0 : decode cX10_wipe 0 = .ok (.aload_n 0, 1) := by decide +kernel
theorem dX10_wipe_1 : decode cX10_wipe 1 = .ok (.getfield 113, 3) := by decide +kernel
theorem dX10_wipe_4 : decode cX10_wipe 4 = .ok (.istore_n 1, 1) := by decide +kernel
theorem dX10_wipe_5 : decode cX10_wipe 5 = .ok (.aload_n 0, 1) := by decide +kernel
theorem dX10_wipe_6 : decode cX10_wipe 6 = .ok (.iconst 0, 1) := by decide +kernel
theorem dX10_wipe_7 : decode cX10_wipe 7 = .ok (.putfield 113, 3) := by decide +kernel
theorem dX10_wipe_10 : decode cX10_wipe 10 = .ok (.iload_n 1, 1) := by decide +kernel
theorem dX10_wipe_11 : decode cX10_wipe 11 = .ok (.ireturn, 1) := by decide +kernel
theorem dX10_letterAt_0 : decode cX10_letterAt 0 = .ok (.iload_n 1, 1) := by decide +kernel
theorem dX10_letterAt_1 : decode cX10_letterAt 1 = .ok (.aload_n 0, 1) := by decide +kernel
theorem dX10_letterAt_2 : decode cX10_letterAt 2 = .ok (.getfield 113, 3) := by decide +kernel
theorem dX10_letterAt_5 : decode cX10_letterAt 5 = .ok (.if_icmp .ge 12, 3) := by decide +kernel
theorem dX10_letterAt_8 : decode cX10_letterAt 8 = .ok (.aload_n 0, 1) := by decide +kernel
theorem dX10_letterAt_9 : decode cX10_letterAt 9 = .ok (.getfield 7, 3) := by decide +kernel
theorem dX10_letterAt_12 : decode cX10_letterAt 12 = .ok (.iload_n 1, 1) := by decide +kernel
theorem dX10_letterAt_13 : decode cX10_letterAt 13 = .ok (.iaload, 1) := by decide +kernel
theorem dX10_letterAt_14 : decode cX10_letterAt 14 = .ok (.goto 4, 3) := by decide +kernel
theorem dX10_letterAt_17 : decode cX10_letterAt 17 = .ok (.iconst 0, 1) := by decide +kernel
theorem dX10_letterAt_18 : decode cX10_letterAt 18 = .ok (.ireturn, 1) := by decide +kernel
theorem dX10_figures_0 : decode cX10_figures 0 = .ok (.iconst 0, 1) := by decide +kernel
theorem dX10_figures_1 : decode cX10_figures 1 = .ok (.istore_n 2, 1) := by decide +kernel
theorem dX10_figures_2 : decode cX10_figures 2 = .ok (.iload_n 2, 1) := by decide +kernel
theorem dX10_figures_3 : decode cX10_figures 3 = .ok (.iload_n 1, 1) := by decide +kernel
theorem dX10_figures_4 : decode cX10_figures 4 = .ok (.if_icmp .ge 132, 3) := by decide +kernel
theorem dX10_figures_7 : decode cX10_figures 7 = .ok (.iconst 0, 1) := by decide +kernel
theorem dX10_figures_8 : decode cX10_figures 8 = .ok (.istore_n 3, 1) := by decide +kernel
theorem dX10_figures_9 : decode cX10_figures 9 = .ok (.iconst 0, 1) := by decide +kernel
theorem dX10_figures_10 : decode cX10_figures 10 = .ok (.istore 4, 2) := by decide +kernel
theorem dX10_figures_12 : decode cX10_figures 12 = .ok (.aload_n 0, 1) := by decide +kernel
theorem dX10_figures_13 : decode cX10_figures 13 = .ok (.aload_n 0, 1) := by decide +kernel
theorem dX10_figures_14 : decode cX10_figures 14 = .ok (.getfield 117, 3) := by decide +kernel
theorem dX10_figures_17 : decode cX10_figures 17 = .ok (.invokevirtual 120, 3) := by decide +kernel
theorem dX10_figures_20 : decode cX10_figures 20 = .ok (.i2l, 1) := by decide +kernel
theorem dX10_figures_21 : decode cX10_figures 21 = .ok (.ldc2_w 124, 3) := by decide +kernel
theorem dX10_figures_24 : decode cX10_figures 24 = .ok (.ldc2_w 126, 3) := by decide +kernel
theorem dX10_figures_27 : decode cX10_figures 27 = .ok (.invokestatic 109, 3) := by decide +kernel
theorem dX10_figures_30 : decode cX10_figures 30 = .ok (.ifCond .eq 43, 3) := by decide +kernel
theorem dX10_figures_33 : decode cX10_figures 33 = .ok (.iload_n 3, 1) := by decide +kernel
theorem dX10_figures_34 : decode cX10_figures 34 = .ok (.iconst 3, 1) := by decide +kernel
theorem dX10_figures_35 : decode cX10_figures 35 = .ok (.if_icmp .ge 38, 3) := by decide +kernel
theorem dX10_figures_38 : decode cX10_figures 38 = .ok (.bipush 10, 2) := by decide +kernel
theorem dX10_figures_40 : decode cX10_figures 40 = .ok (.iload 4, 2) := by decide +kernel
theorem dX10_figures_42 : decode cX10_figures 42 = .ok (.imul, 1) := by decide +kernel
theorem dX10_figures_43 : decode cX10_figures 43 = .ok (.aload_n 0, 1) := by decide +kernel
theorem dX10_figures_44 : decode cX10_figures 44 = .ok (.aload_n 0, 1) := by decide +kernel
theorem dX10_figures_45 : decode cX10_figures 45 = .ok (.getfield 117, 3) := by decide +kernel
theorem dX10_figures_48 : decode cX10_figures 48 = .ok (.invokevirtual 120, 3) := by decide +kernel
theorem dX10_figures_51 : decode cX10_figures 51 = .ok (.iadd, 1) := by decide +kernel
theorem dX10_figures_52 : decode cX10_figures 52 = .ok (.bipush 48, 2) := by decide +kernel
theorem dX10_figures_54 : decode cX10_figures 54 = .ok (.isub, 1) := by decide +kernel
theorem dX10_figures_55 : decode cX10_figures 55 = .ok (.istore 4, 2) := by decide +kernel
theorem dX10_figures_57 : decode cX10_figures 57 = .ok (.iinc 3 1, 3) := by decide +kernel
theorem dX10_figures_60 : decode cX10_figures 60 = .ok (.aload_n 0, 1) := by decide +kernel
theorem dX10_figures_61 : decode cX10_figures 61 = .ok (.dup, 1) := by decide +kernel
theorem dX10_figures_62 : decode cX10_figures 62 = .ok (.getfield 117, 3) := by decide +kernel
theorem dX10_figures_65 : decode cX10_figures 65 = .ok (.iconst 1, 1) := by decide +kernel
theorem dX10_figures_66 : decode cX10_figures 66 = .ok (.iadd, 1) := by decide +kernel
theorem dX10_figures_67 : decode cX10_figures 67 = .ok (.putfield 117, 3) := by decide +kernel
theorem dX10_figures_70 : decode cX10_figures 70 = .ok (.goto (-58), 3) := by decide +kernel
theorem dX10_figures_73 : decode cX10_figures 73 = .ok (.iload_n 3, 1) := by decide +kernel
theorem dX10_figures_74 : decode cX10_figures 74 = .ok (.i2l, 1) := by decide +kernel
theorem dX10_figures_75 : decode cX10_figures 75 = .ok (.lconst 1, 1) := by decide +kernel
theorem dX10_figures_76 : decode cX10_figures 76 = .ok (.ldc2_w 128, 3) := by decide +kernel
theorem dX10_figures_79 : decode cX10_figures 79 = .ok (.invokestatic 109, 3) := by decide +kernel
theorem dX10_figures_82 : decode cX10_figures 82 = .ok (.ifCond .eq 28, 3) := by decide +kernel
theorem dX10_figures_85 : decode cX10_figures 85 = .ok (.aload_n 0, 1) := by decide +kernel
theorem dX10_figures_86 : decode cX10_figures 86 = .ok (.aload_n 0, 1) := by decide +kernel
theorem dX10_figures_87 : decode cX10_figures 87 = .ok (.getfield 117, 3) := by decide +kernel
theorem dX10_figures_90 : decode cX10_figures 90 = .ok (.invokevirtual 120, 3) := by decide +kernel
theorem dX10_figures_93 : decode cX10_figures 93 = .ok (.iload_n 2, 1) := by decide +kernel
theorem dX10_figures_94 : decode cX10_figures 94 = .ok (.iload_n 1, 1) := by decide +kernel
theorem dX10_figures_95 : decode cX10_figures 95 = .ok (.iconst 1, 1) := by decide +kernel
theorem dX10_figures_96 : decode cX10_figures 96 = .ok (.isub, 1) := by decide +kernel
theorem dX10_figures_97 : decode cX10_figures 97 = .ok (.if_icmp .ge 8, 3) := by decide +kernel
theorem dX10_figures_100 : decode cX10_figures 100 = .ok (.bipush 44, 2) := by decide +kernel
theorem dX10_figures_102 : decode cX10_figures 102 = .ok (.goto 5, 3) := by decide +kernel
theorem dX10_figures_105 : decode cX10_figures 105 = .ok (.bipush 59, 2) := by decide +kernel
theorem dX10_figures_107 : decode cX10_figures 107 = .ok (.if_icmp .eq 5, 3) := by decide +kernel
theorem dX10_figures_110 : decode cX10_figures 110 = .ok (.iconst 0, 1) := by decide +kernel
theorem dX10_figures_111 : decode cX10_figures 111 = .ok (.ireturn, 1) := by decide +kernel
theorem dX10_figures_112 : decode cX10_figures 112 = .ok (.aload_n 0, 1) := by decide +kernel
theorem dX10_figures_113 : decode cX10_figures 113 = .ok (.getfield 58, 3) := by decide +kernel
theorem dX10_figures_116 : decode cX10_figures 116 = .ok (.iload_n 2, 1) := by decide +kernel
theorem dX10_figures_117 : decode cX10_figures 117 = .ok (.iload 4, 2) := by decide +kernel
theorem dX10_figures_119 : decode cX10_figures 119 = .ok (.iastore, 1) := by decide +kernel
theorem dX10_figures_120 : decode cX10_figures 120 = .ok (.aload_n 0, 1) := by decide +kernel
theorem dX10_figures_121 : decode cX10_figures 121 = .ok (.dup, 1) := by decide +kernel
theorem dX10_figures_122 : decode cX10_figures 122 = .ok (.getfield 117, 3) := by decide +kernel
theorem dX10_figures_125 : decode cX10_figures 125 = .ok (.iconst 1, 1) := by decide +kernel
theorem dX10_figures_126 : decode cX10_figures 126 = .ok (.iadd, 1) := by decide +kernel
theorem dX10_figures_127 : decode cX10_figures 127 = .ok (.putfield 117, 3) := by decide +kernel
theorem dX10_figures_130 : decode cX10_figures 130 = .ok (.iinc 2 1, 3) := by decide +kernel
theorem dX10_figures_133 : decode cX10_figures 133 = .ok (.goto (-131), 3) := by decide +kernel
theorem dX10_figures_136 : decode cX10_figures 136 = .ok (.iconst 1, 1) := by decide +kernel
theorem dX10_figures_137 : decode cX10_figures 137 = .ok (.ireturn, 1) := by decide +kernel
theorem dX10_boatItem_0 : decode cX10_boatItem 0 = .ok (.aload_n 0, 1) := by decide +kernel
theorem dX10_boatItem_1 : decode cX10_boatItem 1 = .ok (.iconst 5, 1) := by decide +kernel
theorem dX10_boatItem_2 : decode cX10_boatItem 2 = .ok (.invokevirtual 130, 3) := by decide +kernel
theorem dX10_boatItem_5 : decode cX10_boatItem 5 = .ok (.ifCond .eq 77, 3) := by decide +kernel
theorem dX10_boatItem_8 : decode cX10_boatItem 8 = .ok (.aload_n 0, 1) := by decide +kernel
theorem dX10_boatItem_9 : decode cX10_boatItem 9 = .ok (.getfield 13, 3) := by decide +kernel
theorem dX10_boatItem_12 : decode cX10_boatItem 12 = .ok (.iconst 1, 1) := by decide +kernel
theorem dX10_boatItem_13 : decode cX10_boatItem 13 = .ok (.iaload, 1) := by decide +kernel
theorem dX10_boatItem_14 : decode cX10_boatItem 14 = .ok (.bipush 6, 2) := by decide +kernel
theorem dX10_boatItem_16 : decode cX10_boatItem 16 = .ok (.if_icmp .ge 66, 3) := by decide +kernel
theorem dX10_boatItem_19 : decode cX10_boatItem 19 = .ok (.aload_n 0, 1) := by decide +kernel
theorem dX10_boatItem_20 : decode cX10_boatItem 20 = .ok (.getfield 58, 3) := by decide +kernel
theorem dX10_boatItem_23 : decode cX10_boatItem 23 = .ok (.iconst 0, 1) := by decide +kernel
theorem dX10_boatItem_24 : decode cX10_boatItem 24 = .ok (.iaload, 1) := by decide +kernel
theorem dX10_boatItem_25 : decode cX10_boatItem 25 = .ok (.bipush 60, 2) := by decide +kernel
theorem dX10_boatItem_27 : decode cX10_boatItem 27 = .ok (.if_icmp .gt 55, 3) := by decide +kernel
theorem dX10_boatItem_30 : decode cX10_boatItem 30 = .ok (.aload_n 0, 1) := by decide +kernel
theorem dX10_boatItem_31 : decode cX10_boatItem 31 = .ok (.getfield 58, 3) := by decide +kernel
theorem dX10_boatItem_34 : decode cX10_boatItem 34 = .ok (.iconst 1, 1) := by decide +kernel
theorem dX10_boatItem_35 : decode cX10_boatItem 35 = .ok (.iaload, 1) := by decide +kernel
theorem dX10_boatItem_36 : decode cX10_boatItem 36 = .ok (.iconst 1, 1) := by decide +kernel
theorem dX10_boatItem_37 : decode cX10_boatItem 37 = .ok (.if_icmp .gt 45, 3) := by decide +kernel
theorem dX10_boatItem_40 : decode cX10_boatItem 40 = .ok (.aload_n 0, 1) := by decide +kernel
theorem dX10_boatItem_41 : decode cX10_boatItem 41 = .ok (.getfield 58, 3) := by decide +kernel
theorem dX10_boatItem_44 : decode cX10_boatItem 44 = .ok (.iconst 2, 1) := by decide +kernel
theorem dX10_boatItem_45 : decode cX10_boatItem 45 = .ok (.iaload, 1) := by decide +kernel
theorem dX10_boatItem_46 : decode cX10_boatItem 46 = .ok (.i2l, 1) := by decide +kernel
theorem dX10_boatItem_47 : decode cX10_boatItem 47 = .ok (.lconst 1, 1) := by decide +kernel
theorem dX10_boatItem_48 : decode cX10_boatItem 48 = .ok (.ldc2_w 134, 3) := by decide +kernel
theorem dX10_boatItem_51 : decode cX10_boatItem 51 = .ok (.invokestatic 109, 3) := by decide +kernel
theorem dX10_boatItem_54 : decode cX10_boatItem 54 = .ok (.ifCond .eq 28, 3) := by decide +kernel
theorem dX10_boatItem_57 : decode cX10_boatItem 57 = .ok (.aload_n 0, 1) := by decide +kernel
theorem dX10_boatItem_58 : decode cX10_boatItem 58 = .ok (.getfield 58, 3) := by decide +kernel
theorem dX10_boatItem_61 : decode cX10_boatItem 61 = .ok (.iconst 3, 1) := by decide +kernel
theorem dX10_boatItem_62 : decode cX10_boatItem 62 = .ok (.iaload, 1) := by decide +kernel
theorem dX10_boatItem_63 : decode cX10_boatItem 63 = .ok (.bipush 9, 2) := by decide +kernel
theorem dX10_boatItem_65 : decode cX10_boatItem 65 = .ok (.if_icmp .gt 17, 3) := by decide +kernel
theorem dX10_boatItem_68 : decode cX10_boatItem 68 = .ok (.aload_n 0, 1) := by decide +kernel
theorem dX10_boatItem_69 : decode cX10_boatItem 69 = .ok (.getfield 58, 3) := by decide +kernel
theorem dX10_boatItem_72 : decode cX10_boatItem 72 = .ok (.iconst 4, 1) := by decide +kernel
theorem dX10_boatItem_73 : decode cX10_boatItem 73 = .ok (.iaload, 1) := by decide +kernel
theorem dX10_boatItem_74 : decode cX10_boatItem 74 = .ok (.iconst 3, 1) := by decide +kernel
theorem dX10_boatItem_75 : decode cX10_boatItem 75 = .ok (.if_icmp .gt 7, 3) := by decide +kernel
theorem dX10_boatItem_78 : decode cX10_boatItem 78 = .ok (.iconst 1, 1) := by decide +kernel
theorem dX10_boatItem_79 : decode cX10_boatItem 79 = .ok (.goto 4, 3) := by decide +kernel
theorem dX10_boatItem_82 : decode cX10_boatItem 82 = .ok (.iconst 0, 1) := by decide +kernel
theorem dX10_boatItem_83 : decode cX10_boatItem 83 = .ok (.istore_n 1, 1) := by decide +kernel
theorem dX10_boatItem_84 : decode cX10_boatItem 84 = .ok (.iload_n 1, 1) := by decide +kernel
theorem dX10_boatItem_85 : decode cX10_boatItem 85 = .ok (.ifCond .eq 38, 3) := by decide +kernel
theorem dX10_boatItem_88 : decode cX10_boatItem 88 = .ok (.aload_n 0, 1) := by decide +kernel
theorem dX10_boatItem_89 : decode cX10_boatItem 89 = .ok (.iconst 1, 1) := by decide +kernel
theorem dX10_boatItem_90 : decode cX10_boatItem 90 = .ok (.aload_n 0, 1) := by decide +kernel
theorem dX10_boatItem_91 : decode cX10_boatItem 91 = .ok (.getfield 58, 3) := by decide +kernel
theorem dX10_boatItem_94 : decode cX10_boatItem 94 = .ok (.iconst 0, 1) := by decide +kernel
theorem dX10_boatItem_95 : decode cX10_boatItem 95 = .ok (.iaload, 1) := by decide +kernel
theorem dX10_boatItem_96 : decode cX10_boatItem 96 = .ok (.aload_n 0, 1) := by decide +kernel
theorem dX10_boatItem_97 : decode cX10_boatItem 97 = .ok (.getfield 58, 3) := by decide +kernel
theorem dX10_boatItem_100 : decode cX10_boatItem 100 = .ok (.iconst 1, 1) := by decide +kernel
theorem dX10_boatItem_101 : decode cX10_boatItem 101 = .ok (.iaload, 1) := by decide +kernel
theorem dX10_boatItem_102 : decode cX10_boatItem 102 = .ok (.aload_n 0, 1) := by decide +kernel
theorem dX10_boatItem_103 : decode cX10_boatItem 103 = .ok (.getfield 58, 3) := by decide +kernel
theorem dX10_boatItem_106 : decode cX10_boatItem 106 = .ok (.iconst 2, 1) := by decide +kernel
theorem dX10_boatItem_107 : decode cX10_boatItem 107 = .ok (.iaload, 1) := by decide +kernel
theorem dX10_boatItem_108 : decode cX10_boatItem 108 = .ok (.aload_n 0, 1) := by decide +kernel
theorem dX10_boatItem_109 : decode cX10_boatItem 109 = .ok (.getfield 58, 3) := by decide +kernel
theorem dX10_boatItem_112 : decode cX10_boatItem 112 = .ok (.iconst 3, 1) := by decide +kernel
theorem dX10_boatItem_113 : decode cX10_boatItem 113 = .ok (.iaload, 1) := by decide +kernel
theorem dX10_boatItem_114 : decode cX10_boatItem 114 = .ok (.aload_n 0, 1) := by decide +kernel
theorem dX10_boatItem_115 : decode cX10_boatItem 115 = .ok (.getfield 58, 3) := by decide +kernel
theorem dX10_boatItem_118 : decode cX10_boatItem 118 = .ok (.iconst 4, 1) := by decide +kernel
theorem dX10_boatItem_119 : decode cX10_boatItem 119 = .ok (.iaload, 1) := by decide +kernel
theorem dX10_boatItem_120 : decode cX10_boatItem 120 = .ok (.invokevirtual 98, 3) := by decide +kernel
theorem dX10_boatItem_123 : decode cX10_boatItem 123 = .ok (.iload_n 1, 1) := by decide +kernel
theorem dX10_boatItem_124 : decode cX10_boatItem 124 = .ok (.ireturn, 1) := by decide +kernel
theorem dX10_narrowItem_0 : decode cX10_narrowItem 0 = .ok (.aload_n 0, 1) := by decide +kernel
theorem dX10_narrowItem_1 : decode cX10_narrowItem 1 = .ok (.iconst 2, 1) := by decide +kernel
theorem dX10_narrowItem_2 : decode cX10_narrowItem 2 = .ok (.invokevirtual 130, 3) := by decide +kernel
theorem dX10_narrowItem_5 : decode cX10_narrowItem 5 = .ok (.ifCond .eq 39, 3) := by decide +kernel
theorem dX10_narrowItem_8 : decode cX10_narrowItem 8 = .ok (.aload_n 0, 1) := by decide +kernel
theorem dX10_narrowItem_9 : decode cX10_narrowItem 9 = .ok (.getfield 31, 3) := by decide +kernel
theorem dX10_narrowItem_12 : decode cX10_narrowItem 12 = .ok (.iconst 1, 1) := by decide +kernel
theorem dX10_narrowItem_13 : decode cX10_narrowItem 13 = .ok (.iaload, 1) := by decide +kernel
theorem dX10_narrowItem_14 : decode cX10_narrowItem 14 = .ok (.iconst 3, 1) := by decide +kernel
theorem dX10_narrowItem_15 : decode cX10_narrowItem 15 = .ok (.if_icmp .eq 29, 3) := by decide +kernel
theorem dX10_narrowItem_18 : decode cX10_narrowItem 18 = .ok (.aload_n 0, 1) := by decide +kernel
theorem dX10_narrowItem_19 : decode cX10_narrowItem 19 = .ok (.getfield 58, 3) := by decide +kernel
theorem dX10_narrowItem_22 : decode cX10_narrowItem 22 = .ok (.iconst 1, 1) := by decide +kernel
theorem dX10_narrowItem_23 : decode cX10_narrowItem 23 = .ok (.iaload, 1) := by decide +kernel
theorem dX10_narrowItem_24 : decode cX10_narrowItem 24 = .ok (.bipush 60, 2) := by decide +kernel
theorem dX10_narrowItem_26 : decode cX10_narrowItem 26 = .ok (.if_icmp .gt 18, 3) := by decide +kernel
theorem dX10_narrowItem_29 : decode cX10_narrowItem 29 = .ok (.aload_n 0, 1) := by decide +kernel
theorem dX10_narrowItem_30 : decode cX10_narrowItem 30 = .ok (.getfield 58, 3) := by decide +kernel
theorem dX10_narrowItem_33 : decode cX10_narrowItem 33 = .ok (.iconst 0, 1) := by decide +kernel
theorem dX10_narrowItem_34 : decode cX10_narrowItem 34 = .ok (.iaload, 1) := by decide +kernel
theorem dX10_narrowItem_35 : decode cX10_narrowItem 35 = .ok (.aload_n 0, 1) := by decide +kernel
theorem dX10_narrowItem_36 : decode cX10_narrowItem 36 = .ok (.getfield 58, 3) := by decide +kernel
theorem dX10_narrowItem_39 : decode cX10_narrowItem 39 = .ok (.iconst 1, 1) := by decide +kernel
theorem dX10_narrowItem_40 : decode cX10_narrowItem 40 = .ok (.iaload, 1) := by decide +kernel
theorem dX10_narrowItem_41 : decode cX10_narrowItem 41 = .ok (.if_icmp .le 5, 3) := by decide +kernel
theorem dX10_narrowItem_44 : decode cX10_narrowItem 44 = .ok (.iconst 0, 1) := by decide +kernel
theorem dX10_narrowItem_45 : decode cX10_narrowItem 45 = .ok (.ireturn, 1) := by decide +kernel
theorem dX10_narrowItem_46 : decode cX10_narrowItem 46 = .ok (.aload_n 0, 1) := by decide +kernel
theorem dX10_narrowItem_47 : decode cX10_narrowItem 47 = .ok (.getfield 34, 3) := by decide +kernel
theorem dX10_narrowItem_50 : decode cX10_narrowItem 50 = .ok (.iconst 3, 1) := by decide +kernel
theorem dX10_narrowItem_51 : decode cX10_narrowItem 51 = .ok (.aload_n 0, 1) := by decide +kernel
theorem dX10_narrowItem_52 : decode cX10_narrowItem 52 = .ok (.getfield 31, 3) := by decide +kernel
theorem dX10_narrowItem_55 : decode cX10_narrowItem 55 = .ok (.iconst 1, 1) := by decide +kernel
theorem dX10_narrowItem_56 : decode cX10_narrowItem 56 = .ok (.iaload, 1) := by decide +kernel
theorem dX10_narrowItem_57 : decode cX10_narrowItem 57 = .ok (.iadd, 1) := by decide +kernel
theorem dX10_narrowItem_58 : decode cX10_narrowItem 58 = .ok (.aload_n 0, 1) := by decide +kernel
theorem dX10_narrowItem_59 : decode cX10_narrowItem 59 = .ok (.getfield 58, 3) := by decide +kernel
theorem dX10_narrowItem_62 : decode cX10_narrowItem 62 = .ok (.iconst 0, 1) := by decide +kernel
theorem dX10_narrowItem_63 : decode cX10_narrowItem 63 = .ok (.iaload, 1) := by decide +kernel
theorem dX10_narrowItem_64 : decode cX10_narrowItem 64 = .ok (.iastore, 1) := by decide +kernel
theorem dX10_narrowItem_65 : decode cX10_narrowItem 65 = .ok (.aload_n 0, 1) := by decide +kernel
theorem dX10_narrowItem_66 : decode cX10_narrowItem 66 = .ok (.getfield 37, 3) := by decide +kernel
theorem dX10_narrowItem_69 : decode cX10_narrowItem 69 = .ok (.iconst 3, 1) := by decide +kernel
theorem dX10_narrowItem_70 : decode cX10_narrowItem 70 = .ok (.aload_n 0, 1) := by decide +kernel
theorem dX10_narrowItem_71 : decode cX10_narrowItem 71 = .ok (.getfield 31, 3) := by decide +kernel
theorem dX10_narrowItem_74 : decode cX10_narrowItem 74 = .ok (.iconst 1, 1) := by decide +kernel
theorem dX10_narrowItem_75 : decode cX10_narrowItem 75 = .ok (.iaload, 1) := by decide +kernel
theorem dX10_narrowItem_76 : decode cX10_narrowItem 76 = .ok (.iadd, 1) := by decide +kernel
theorem dX10_narrowItem_77 : decode cX10_narrowItem 77 = .ok (.aload_n 0, 1) := by decide +kernel
theorem dX10_narrowItem_78 : decode cX10_narrowItem 78 = .ok (.getfield 58, 3) := by decide +kernel
theorem dX10_narrowItem_81 : decode cX10_narrowItem 81 = .ok (.iconst 1, 1) := by decide +kernel
theorem dX10_narrowItem_82 : decode cX10_narrowItem 82 = .ok (.iaload, 1) := by decide +kernel
theorem dX10_narrowItem_83 : decode cX10_narrowItem 83 = .ok (.iastore, 1) := by decide +kernel
theorem dX10_narrowItem_84 : decode cX10_narrowItem 84 = .ok (.aload_n 0, 1) := by decide +kernel
theorem dX10_narrowItem_85 : decode cX10_narrowItem 85 = .ok (.getfield 31, 3) := by decide +kernel
theorem dX10_narrowItem_88 : decode cX10_narrowItem 88 = .ok (.iconst 1, 1) := by decide +kernel
theorem dX10_narrowItem_89 : decode cX10_narrowItem 89 = .ok (.dup2, 1) := by decide +kernel
theorem dX10_narrowItem_90 : decode cX10_narrowItem 90 = .ok (.iaload, 1) := by decide +kernel
theorem dX10_narrowItem_91 : decode cX10_narrowItem 91 = .ok (.iconst 1, 1) := by decide +kernel
theorem dX10_narrowItem_92 : decode cX10_narrowItem 92 = .ok (.iadd, 1) := by decide +kernel
theorem dX10_narrowItem_93 : decode cX10_narrowItem 93 = .ok (.iastore, 1) := by decide +kernel
theorem dX10_narrowItem_94 : decode cX10_narrowItem 94 = .ok (.iconst 1, 1) := by decide +kernel
theorem dX10_narrowItem_95 : decode cX10_narrowItem 95 = .ok (.ireturn, 1) := by decide +kernel
theorem dX10_setLaw_0 : decode cX10_setLaw 0 = .ok (.aload_n 0, 1) := by decide +kernel
theorem dX10_setLaw_1 : decode cX10_setLaw 1 = .ok (.getfield 40, 3) := by decide +kernel
theorem dX10_setLaw_4 : decode cX10_setLaw 4 = .ok (.iconst 4, 1) := by decide +kernel
theorem dX10_setLaw_5 : decode cX10_setLaw 5 = .ok (.iload_n 1, 1) := by decide +kernel
theorem dX10_setLaw_6 : decode cX10_setLaw 6 = .ok (.iadd, 1) := by decide +kernel
theorem dX10_setLaw_7 : decode cX10_setLaw 7 = .ok (.iload_n 2, 1) := by decide +kernel
theorem dX10_setLaw_8 : decode cX10_setLaw 8 = .ok (.iastore, 1) := by decide +kernel
theorem dX10_setLaw_9 : decode cX10_setLaw 9 = .ok (.iload_n 2, 1) := by decide +kernel
theorem dX10_setLaw_10 : decode cX10_setLaw 10 = .ok (.i2l, 1) := by decide +kernel
theorem dX10_setLaw_11 : decode cX10_setLaw 11 = .ok (.lconst 1, 1) := by decide +kernel
theorem dX10_setLaw_12 : decode cX10_setLaw 12 = .ok (.iload_n 3, 1) := by decide +kernel
theorem dX10_setLaw_13 : decode cX10_setLaw 13 = .ok (.i2l, 1) := by decide +kernel
theorem dX10_setLaw_14 : decode cX10_setLaw 14 = .ok (.invokestatic 109, 3) := by decide +kernel
theorem dX10_setLaw_17 : decode cX10_setLaw 17 = .ok (.ireturn, 1) := by decide +kernel
theorem dX10_item_0 : decode cX10_item 0 = .ok (.aload_n 0, 1) := by decide +kernel
theorem dX10_item_1 : decode cX10_item 1 = .ok (.aload_n 0, 1) := by decide +kernel
theorem dX10_item_2 : decode cX10_item 2 = .ok (.getfield 117, 3) := by decide +kernel
theorem dX10_item_5 : decode cX10_item 5 = .ok (.invokevirtual 120, 3) := by decide +kernel
theorem dX10_item_8 : decode cX10_item 8 = .ok (.istore_n 1, 1) := by decide +kernel
theorem dX10_item_9 : decode cX10_item 9 = .ok (.aload_n 0, 1) := by decide +kernel
theorem dX10_item_10 : decode cX10_item 10 = .ok (.dup, 1) := by decide +kernel
theorem dX10_item_11 : decode cX10_item 11 = .ok (.getfield 117, 3) := by decide +kernel
theorem dX10_item_14 : decode cX10_item 14 = .ok (.iconst 1, 1) := by decide +kernel
theorem dX10_item_15 : decode cX10_item 15 = .ok (.iadd, 1) := by decide +kernel
theorem dX10_item_16 : decode cX10_item 16 = .ok (.putfield 117, 3) := by decide +kernel
theorem dX10_item_19 : decode cX10_item 19 = .ok (.iload_n 1, 1) := by decide +kernel
theorem dX10_item_20 : decode cX10_item 20 = .ok (.lookupswitch 167 #[(98, 52), (104, 92), (108, 122), (110, 57), (121, 62)], 52) := by decide +kernel
theorem dX10_item_72 : decode cX10_item 72 = .ok (.aload_n 0, 1) := by decide +kernel
theorem dX10_item_73 : decode cX10_item 73 = .ok (.invokevirtual 136, 3) := by decide +kernel
theorem dX10_item_76 : decode cX10_item 76 = .ok (.ireturn, 1) := by decide +kernel
theorem dX10_item_77 : decode cX10_item 77 = .ok (.aload_n 0, 1) := by decide +kernel
theorem dX10_item_78 : decode cX10_item 78 = .ok (.invokevirtual 140, 3) := by decide +kernel
theorem dX10_item_81 : decode cX10_item 81 = .ok (.ireturn, 1) := by decide +kernel
theorem dX10_item_82 : decode cX10_item 82 = .ok (.aload_n 0, 1) := by decide +kernel
theorem dX10_item_83 : decode cX10_item 83 = .ok (.iconst 1, 1) := by decide +kernel
theorem dX10_item_84 : decode cX10_item 84 = .ok (.invokevirtual 130, 3) := by decide +kernel
theorem dX10_item_87 : decode cX10_item 87 = .ok (.ifCond .eq 23, 3) := by decide +kernel
theorem dX10_item_90 : decode cX10_item 90 = .ok (.aload_n 0, 1) := by decide +kernel
theorem dX10_item_91 : decode cX10_item 91 = .ok (.iconst 0, 1) := by decide +kernel
theorem dX10_item_92 : decode cX10_item 92 = .ok (.aload_n 0, 1) := by decide +kernel
theorem dX10_item_93 : decode cX10_item 93 = .ok (.getfield 58, 3) := by decide +kernel
theorem dX10_item_96 : decode cX10_item 96 = .ok (.iconst 0, 1) := by decide +kernel
theorem dX10_item_97 : decode cX10_item 97 = .ok (.iaload, 1) := by decide +kernel
theorem dX10_item_98 : decode cX10_item 98 = .ok (.bipush 9, 2) := by decide +kernel
theorem dX10_item_100 : decode cX10_item 100 = .ok (.invokevirtual 143, 3) := by decide +kernel
theorem dX10_item_103 : decode cX10_item 103 = .ok (.ifCond .eq 7, 3) := by decide +kernel
theorem dX10_item_106 : decode cX10_item 106 = .ok (.iconst 1, 1) := by decide +kernel
theorem dX10_item_107 : decode cX10_item 107 = .ok (.goto 4, 3) := by decide +kernel
theorem dX10_item_110 : decode cX10_item 110 = .ok (.iconst 0, 1) := by decide +kernel
theorem dX10_item_111 : decode cX10_item 111 = .ok (.ireturn, 1) := by decide +kernel
theorem dX10_item_112 : decode cX10_item 112 = .ok (.aload_n 0, 1) := by decide +kernel
theorem dX10_item_113 : decode cX10_item 113 = .ok (.iconst 1, 1) := by decide +kernel
theorem dX10_item_114 : decode cX10_item 114 = .ok (.invokevirtual 130, 3) := by decide +kernel
theorem dX10_item_117 : decode cX10_item 117 = .ok (.ifCond .eq 23, 3) := by decide +kernel
theorem dX10_item_120 : decode cX10_item 120 = .ok (.aload_n 0, 1) := by decide +kernel
theorem dX10_item_121 : decode cX10_item 121 = .ok (.iconst 1, 1) := by decide +kernel
theorem dX10_item_122 : decode cX10_item 122 = .ok (.aload_n 0, 1) := by decide +kernel
theorem dX10_item_123 : decode cX10_item 123 = .ok (.getfield 58, 3) := by decide +kernel
theorem dX10_item_126 : decode cX10_item 126 = .ok (.iconst 0, 1) := by decide +kernel
theorem dX10_item_127 : decode cX10_item 127 = .ok (.iaload, 1) := by decide +kernel
theorem dX10_item_128 : decode cX10_item 128 = .ok (.bipush 30, 2) := by decide +kernel
theorem dX10_item_130 : decode cX10_item 130 = .ok (.invokevirtual 143, 3) := by decide +kernel
theorem dX10_item_133 : decode cX10_item 133 = .ok (.ifCond .eq 7, 3) := by decide +kernel
theorem dX10_item_136 : decode cX10_item 136 = .ok (.iconst 1, 1) := by decide +kernel
theorem dX10_item_137 : decode cX10_item 137 = .ok (.goto 4, 3) := by decide +kernel
theorem dX10_item_140 : decode cX10_item 140 = .ok (.iconst 0, 1) := by decide +kernel
theorem dX10_item_141 : decode cX10_item 141 = .ok (.ireturn, 1) := by decide +kernel
theorem dX10_item_142 : decode cX10_item 142 = .ok (.aload_n 0, 1) := by decide +kernel
theorem dX10_item_143 : decode cX10_item 143 = .ok (.iconst 2, 1) := by decide +kernel
theorem dX10_item_144 : decode cX10_item 144 = .ok (.invokevirtual 130, 3) := by decide +kernel
theorem dX10_item_147 : decode cX10_item 147 = .ok (.ifCond .eq 38, 3) := by decide +kernel
theorem dX10_item_150 : decode cX10_item 150 = .ok (.aload_n 0, 1) := by decide +kernel
theorem dX10_item_151 : decode cX10_item 151 = .ok (.iconst 2, 1) := by decide +kernel
theorem dX10_item_152 : decode cX10_item 152 = .ok (.aload_n 0, 1) := by decide +kernel
theorem dX10_item_153 : decode cX10_item 153 = .ok (.getfield 58, 3) := by decide +kernel
theorem dX10_item_156 : decode cX10_item 156 = .ok (.iconst 0, 1) := by decide +kernel
theorem dX10_item_157 : decode cX10_item 157 = .ok (.iaload, 1) := by decide +kernel
theorem dX10_item_158 : decode cX10_item 158 = .ok (.iconst 5, 1) := by decide +kernel
theorem dX10_item_159 : decode cX10_item 159 = .ok (.invokevirtual 143, 3) := by decide +kernel
theorem dX10_item_162 : decode cX10_item 162 = .ok (.ifCond .eq 23, 3) := by decide +kernel
theorem dX10_item_165 : decode cX10_item 165 = .ok (.aload_n 0, 1) := by decide +kernel
theorem dX10_item_166 : decode cX10_item 166 = .ok (.iconst 3, 1) := by decide +kernel
theorem dX10_item_167 : decode cX10_item 167 = .ok (.aload_n 0, 1) := by decide +kernel
theorem dX10_item_168 : decode cX10_item 168 = .ok (.getfield 58, 3) := by decide +kernel
theorem dX10_item_171 : decode cX10_item 171 = .ok (.iconst 1, 1) := by decide +kernel
theorem dX10_item_172 : decode cX10_item 172 = .ok (.iaload, 1) := by decide +kernel
theorem dX10_item_173 : decode cX10_item 173 = .ok (.bipush 9, 2) := by decide +kernel
theorem dX10_item_175 : decode cX10_item 175 = .ok (.invokevirtual 143, 3) := by decide +kernel
theorem dX10_item_178 : decode cX10_item 178 = .ok (.ifCond .eq 7, 3) := by decide +kernel
theorem dX10_item_181 : decode cX10_item 181 = .ok (.iconst 1, 1) := by decide +kernel
theorem dX10_item_182 : decode cX10_item 182 = .ok (.goto 4, 3) := by decide +kernel
theorem dX10_item_185 : decode cX10_item 185 = .ok (.iconst 0, 1) := by decide +kernel
theorem dX10_item_186 : decode cX10_item 186 = .ok (.ireturn, 1) := by decide +kernel
theorem dX10_item_187 : decode cX10_item 187 = .ok (.iconst 0, 1) := by decide +kernel
theorem dX10_item_188 : decode cX10_item 188 = .ok (.ireturn, 1) := by decide +kernel
theorem dX10_readAll_0 : decode cX10_readAll 0 = .ok (.aload_n 0, 1) := by decide +kernel
theorem dX10_readAll_1 : decode cX10_readAll 1 = .ok (.iconst 1, 1) := by decide +kernel
theorem dX10_readAll_2 : decode cX10_readAll 2 = .ok (.invokevirtual 94, 3) := by decide +kernel
theorem dX10_readAll_5 : decode cX10_readAll 5 = .ok (.aload_n 0, 1) := by decide +kernel
theorem dX10_readAll_6 : decode cX10_readAll 6 = .ok (.iconst 0, 1) := by decide +kernel
theorem dX10_readAll_7 : decode cX10_readAll 7 = .ok (.putfield 117, 3) := by decide +kernel
theorem dX10_readAll_10 : decode cX10_readAll 10 = .ok (.aload_n 0, 1) := by decide +kernel
theorem dX10_readAll_11 : decode cX10_readAll 11 = .ok (.getfield 117, 3) := by decide +kernel
theorem dX10_readAll_14 : decode cX10_readAll 14 = .ok (.aload_n 0, 1) := by decide +kernel
theorem dX10_readAll_15 : decode cX10_readAll 15 = .ok (.getfield 113, 3) := by decide +kernel
theorem dX10_readAll_18 : decode cX10_readAll 18 = .ok (.if_icmp .ge 20, 3) := by decide +kernel
theorem dX10_readAll_21 : decode cX10_readAll 21 = .ok (.aload_n 0, 1) := by decide +kernel
theorem dX10_readAll_22 : decode cX10_readAll 22 = .ok (.getfield 117, 3) := by decide +kernel
theorem dX10_readAll_25 : decode cX10_readAll 25 = .ok (.istore_n 1, 1) := by decide +kernel
theorem dX10_readAll_26 : decode cX10_readAll 26 = .ok (.aload_n 0, 1) := by decide +kernel
theorem dX10_readAll_27 : decode cX10_readAll 27 = .ok (.invokevirtual 147, 3) := by decide +kernel
theorem dX10_readAll_30 : decode cX10_readAll 30 = .ok (.ifCond .ne 5, 3) := by decide +kernel
theorem dX10_readAll_33 : decode cX10_readAll 33 = .ok (.iload_n 1, 1) := by decide +kernel
theorem dX10_readAll_34 : decode cX10_readAll 34 = .ok (.ireturn, 1) := by decide +kernel
theorem dX10_readAll_35 : decode cX10_readAll 35 = .ok (.goto (-25), 3) := by decide +kernel
theorem dX10_readAll_38 : decode cX10_readAll 38 = .ok (.bipush (-4), 2) := by decide +kernel
theorem dX10_readAll_40 : decode cX10_readAll 40 = .ok (.ireturn, 1) := by decide +kernel
theorem dX10_fault_0 : decode cX10_fault 0 = .ok (.aload_n 0, 1) := by decide +kernel
theorem dX10_fault_1 : decode cX10_fault 1 = .ok (.invokevirtual 150, 3) := by decide +kernel
theorem dX10_fault_4 : decode cX10_fault 4 = .ok (.ireturn, 1) := by decide +kernel
theorem dX10_lay_0 : decode cX10_lay 0 = .ok (.aload_n 0, 1) := by decide +kernel
theorem dX10_lay_1 : decode cX10_lay 1 = .ok (.invokevirtual 150, 3) := by decide +kernel
theorem dX10_lay_4 : decode cX10_lay 4 = .ok (.bipush (-4), 2) := by decide +kernel
theorem dX10_lay_6 : decode cX10_lay 6 = .ok (.if_icmp .ne 12, 3) := by decide +kernel
theorem dX10_lay_9 : decode cX10_lay 9 = .ok (.aload_n 0, 1) := by decide +kernel
theorem dX10_lay_10 : decode cX10_lay 10 = .ok (.getfield 13, 3) := by decide +kernel
theorem dX10_lay_13 : decode cX10_lay 13 = .ok (.iconst 1, 1) := by decide +kernel
theorem dX10_lay_14 : decode cX10_lay 14 = .ok (.iaload, 1) := by decide +kernel
theorem dX10_lay_15 : decode cX10_lay 15 = .ok (.ifCond .ne 6, 3) := by decide +kernel
theorem dX10_lay_18 : decode cX10_lay 18 = .ok (.bipush (-2), 2) := by decide +kernel
theorem dX10_lay_20 : decode cX10_lay 20 = .ok (.ireturn, 1) := by decide +kernel
theorem dX10_lay_21 : decode cX10_lay 21 = .ok (.aload_n 0, 1) := by decide +kernel
theorem dX10_lay_22 : decode cX10_lay 22 = .ok (.getfield 13, 3) := by decide +kernel
theorem dX10_lay_25 : decode cX10_lay 25 = .ok (.iconst 0, 1) := by decide +kernel
theorem dX10_lay_26 : decode cX10_lay 26 = .ok (.aload_n 0, 1) := by decide +kernel
theorem dX10_lay_27 : decode cX10_lay 27 = .ok (.getfield 13, 3) := by decide +kernel
theorem dX10_lay_30 : decode cX10_lay 30 = .ok (.iconst 1, 1) := by decide +kernel
theorem dX10_lay_31 : decode cX10_lay 31 = .ok (.iaload, 1) := by decide +kernel
theorem dX10_lay_32 : decode cX10_lay 32 = .ok (.iastore, 1) := by decide +kernel
theorem dX10_lay_33 : decode cX10_lay 33 = .ok (.aload_n 0, 1) := by decide +kernel
theorem dX10_lay_34 : decode cX10_lay 34 = .ok (.getfield 31, 3) := by decide +kernel
theorem dX10_lay_37 : decode cX10_lay 37 = .ok (.iconst 0, 1) := by decide +kernel
theorem dX10_lay_38 : decode cX10_lay 38 = .ok (.aload_n 0, 1) := by decide +kernel
theorem dX10_lay_39 : decode cX10_lay 39 = .ok (.getfield 31, 3) := by decide +kernel
theorem dX10_lay_42 : decode cX10_lay 42 = .ok (.iconst 1, 1) := by decide +kernel
theorem dX10_lay_43 : decode cX10_lay 43 = .ok (.iaload, 1) := by decide +kernel
theorem dX10_lay_44 : decode cX10_lay 44 = .ok (.iastore, 1) := by decide +kernel
theorem dX10_lay_45 : decode cX10_lay 45 = .ok (.iconst 0, 1) := by decide +kernel
theorem dX10_lay_46 : decode cX10_lay 46 = .ok (.istore_n 1, 1) := by decide +kernel
theorem dX10_lay_47 : decode cX10_lay 47 = .ok (.iload_n 1, 1) := by decide +kernel
theorem dX10_lay_48 : decode cX10_lay 48 = .ok (.bipush 6, 2) := by decide +kernel
theorem dX10_lay_50 : decode cX10_lay 50 = .ok (.if_icmp .ge 84, 3) := by decide +kernel
theorem dX10_lay_53 : decode cX10_lay 53 = .ok (.aload_n 0, 1) := by decide +kernel
theorem dX10_lay_54 : decode cX10_lay 54 = .ok (.getfield 16, 3) := by decide +kernel
theorem dX10_lay_57 : decode cX10_lay 57 = .ok (.iload_n 1, 1) := by decide +kernel
theorem dX10_lay_58 : decode cX10_lay 58 = .ok (.aload_n 0, 1) := by decide +kernel
theorem dX10_lay_59 : decode cX10_lay 59 = .ok (.getfield 16, 3) := by decide +kernel
theorem dX10_lay_62 : decode cX10_lay 62 = .ok (.bipush 6, 2) := by decide +kernel
theorem dX10_lay_64 : decode cX10_lay 64 = .ok (.iload_n 1, 1) := by decide +kernel
theorem dX10_lay_65 : decode cX10_lay 65 = .ok (.iadd, 1) := by decide +kernel
theorem dX10_lay_66 : decode cX10_lay 66 = .ok (.iaload, 1) := by decide +kernel
theorem dX10_lay_67 : decode cX10_lay 67 = .ok (.iastore, 1) := by decide +kernel
theorem dX10_lay_68 : decode cX10_lay 68 = .ok (.aload_n 0, 1) := by decide +kernel
theorem dX10_lay_69 : decode cX10_lay 69 = .ok (.getfield 19, 3) := by decide +kernel
theorem dX10_lay_72 : decode cX10_lay 72 = .ok (.iload_n 1, 1) := by decide +kernel
theorem dX10_lay_73 : decode cX10_lay 73 = .ok (.aload_n 0, 1) := by decide +kernel
theorem dX10_lay_74 : decode cX10_lay 74 = .ok (.getfield 19, 3) := by decide +kernel
theorem dX10_lay_77 : decode cX10_lay 77 = .ok (.bipush 6, 2) := by decide +kernel
theorem dX10_lay_79 : decode cX10_lay 79 = .ok (.iload_n 1, 1) := by decide +kernel
theorem dX10_lay_80 : decode cX10_lay 80 = .ok (.iadd, 1) := by decide +kernel
theorem dX10_lay_81 : decode cX10_lay 81 = .ok (.iaload, 1) := by decide +kernel
theorem dX10_lay_82 : decode cX10_lay 82 = .ok (.iastore, 1) := by decide +kernel
theorem dX10_lay_83 : decode cX10_lay 83 = .ok (.aload_n 0, 1) := by decide +kernel
theorem dX10_lay_84 : decode cX10_lay 84 = .ok (.getfield 22, 3) := by decide +kernel
theorem dX10_lay_87 : decode cX10_lay 87 = .ok (.iload_n 1, 1) := by decide +kernel
theorem dX10_lay_88 : decode cX10_lay 88 = .ok (.aload_n 0, 1) := by decide +kernel
theorem dX10_lay_89 : decode cX10_lay 89 = .ok (.getfield 22, 3) := by decide +kernel
theorem dX10_lay_92 : decode cX10_lay 92 = .ok (.bipush 6, 2) := by decide +kernel
theorem dX10_lay_94 : decode cX10_lay 94 = .ok (.iload_n 1, 1) := by decide +kernel
theorem dX10_lay_95 : decode cX10_lay 95 = .ok (.iadd, 1) := by decide +kernel
theorem dX10_lay_96 : decode cX10_lay 96 = .ok (.iaload, 1) := by decide +kernel
theorem dX10_lay_97 : decode cX10_lay 97 = .ok (.iastore, 1) := by decide +kernel
theorem dX10_lay_98 : decode cX10_lay 98 = .ok (.aload_n 0, 1) := by decide +kernel
theorem dX10_lay_99 : decode cX10_lay 99 = .ok (.getfield 25, 3) := by decide +kernel
theorem dX10_lay_102 : decode cX10_lay 102 = .ok (.iload_n 1, 1) := by decide +kernel
theorem dX10_lay_103 : decode cX10_lay 103 = .ok (.aload_n 0, 1) := by decide +kernel
theorem dX10_lay_104 : decode cX10_lay 104 = .ok (.getfield 25, 3) := by decide +kernel
theorem dX10_lay_107 : decode cX10_lay 107 = .ok (.bipush 6, 2) := by decide +kernel
theorem dX10_lay_109 : decode cX10_lay 109 = .ok (.iload_n 1, 1) := by decide +kernel
theorem dX10_lay_110 : decode cX10_lay 110 = .ok (.iadd, 1) := by decide +kernel
theorem dX10_lay_111 : decode cX10_lay 111 = .ok (.iaload, 1) := by decide +kernel
theorem dX10_lay_112 : decode cX10_lay 112 = .ok (.iastore, 1) := by decide +kernel
theorem dX10_lay_113 : decode cX10_lay 113 = .ok (.aload_n 0, 1) := by decide +kernel
theorem dX10_lay_114 : decode cX10_lay 114 = .ok (.getfield 28, 3) := by decide +kernel
theorem dX10_lay_117 : decode cX10_lay 117 = .ok (.iload_n 1, 1) := by decide +kernel
theorem dX10_lay_118 : decode cX10_lay 118 = .ok (.aload_n 0, 1) := by decide +kernel
theorem dX10_lay_119 : decode cX10_lay 119 = .ok (.getfield 28, 3) := by decide +kernel
theorem dX10_lay_122 : decode cX10_lay 122 = .ok (.bipush 6, 2) := by decide +kernel
theorem dX10_lay_124 : decode cX10_lay 124 = .ok (.iload_n 1, 1) := by decide +kernel
theorem dX10_lay_125 : decode cX10_lay 125 = .ok (.iadd, 1) := by decide +kernel
theorem dX10_lay_126 : decode cX10_lay 126 = .ok (.iaload, 1) := by decide +kernel
theorem dX10_lay_127 : decode cX10_lay 127 = .ok (.iastore, 1) := by decide +kernel
theorem dX10_lay_128 : decode cX10_lay 128 = .ok (.iinc 1 1, 3) := by decide +kernel
theorem dX10_lay_131 : decode cX10_lay 131 = .ok (.goto (-84), 3) := by decide +kernel
theorem dX10_lay_134 : decode cX10_lay 134 = .ok (.iconst 0, 1) := by decide +kernel
theorem dX10_lay_135 : decode cX10_lay 135 = .ok (.istore_n 1, 1) := by decide +kernel
theorem dX10_lay_136 : decode cX10_lay 136 = .ok (.iload_n 1, 1) := by decide +kernel
theorem dX10_lay_137 : decode cX10_lay 137 = .ok (.iconst 3, 1) := by decide +kernel
theorem dX10_lay_138 : decode cX10_lay 138 = .ok (.if_icmp .ge 37, 3) := by decide +kernel
theorem dX10_lay_141 : decode cX10_lay 141 = .ok (.aload_n 0, 1) := by decide +kernel
theorem dX10_lay_142 : decode cX10_lay 142 = .ok (.getfield 34, 3) := by decide +kernel
theorem dX10_lay_145 : decode cX10_lay 145 = .ok (.iload_n 1, 1) := by decide +kernel
theorem dX10_lay_146 : decode cX10_lay 146 = .ok (.aload_n 0, 1) := by decide +kernel
theorem dX10_lay_147 : decode cX10_lay 147 = .ok (.getfield 34, 3) := by decide +kernel
theorem dX10_lay_150 : decode cX10_lay 150 = .ok (.iconst 3, 1) := by decide +kernel
theorem dX10_lay_151 : decode cX10_lay 151 = .ok (.iload_n 1, 1) := by decide +kernel
theorem dX10_lay_152 : decode cX10_lay 152 = .ok (.iadd, 1) := by decide +kernel
theorem dX10_lay_153 : decode cX10_lay 153 = .ok (.iaload, 1) := by decide +kernel
theorem dX10_lay_154 : decode cX10_lay 154 = .ok (.iastore, 1) := by decide +kernel
theorem dX10_lay_155 : decode cX10_lay 155 = .ok (.aload_n 0, 1) := by decide +kernel
theorem dX10_lay_156 : decode cX10_lay 156 = .ok (.getfield 37, 3) := by decide +kernel
theorem dX10_lay_159 : decode cX10_lay 159 = .ok (.iload_n 1, 1) := by decide +kernel
theorem dX10_lay_160 : decode cX10_lay 160 = .ok (.aload_n 0, 1) := by decide +kernel
theorem dX10_lay_161 : decode cX10_lay 161 = .ok (.getfield 37, 3) := by decide +kernel
theorem dX10_lay_164 : decode cX10_lay 164 = .ok (.iconst 3, 1) := by decide +kernel
theorem dX10_lay_165 : decode cX10_lay 165 = .ok (.iload_n 1, 1) := by decide +kernel
theorem dX10_lay_166 : decode cX10_lay 166 = .ok (.iadd, 1) := by decide +kernel
theorem dX10_lay_167 : decode cX10_lay 167 = .ok (.iaload, 1) := by decide +kernel
theorem dX10_lay_168 : decode cX10_lay 168 = .ok (.iastore, 1) := by decide +kernel
theorem dX10_lay_169 : decode cX10_lay 169 = .ok (.iinc 1 1, 3) := by decide +kernel
theorem dX10_lay_172 : decode cX10_lay 172 = .ok (.goto (-36), 3) := by decide +kernel
theorem dX10_lay_175 : decode cX10_lay 175 = .ok (.iconst 0, 1) := by decide +kernel
theorem dX10_lay_176 : decode cX10_lay 176 = .ok (.istore_n 1, 1) := by decide +kernel
theorem dX10_lay_177 : decode cX10_lay 177 = .ok (.iload_n 1, 1) := by decide +kernel
theorem dX10_lay_178 : decode cX10_lay 178 = .ok (.iconst 4, 1) := by decide +kernel
theorem dX10_lay_179 : decode cX10_lay 179 = .ok (.if_icmp .ge 23, 3) := by decide +kernel
theorem dX10_lay_182 : decode cX10_lay 182 = .ok (.aload_n 0, 1) := by decide +kernel
theorem dX10_lay_183 : decode cX10_lay 183 = .ok (.getfield 40, 3) := by decide +kernel
theorem dX10_lay_186 : decode cX10_lay 186 = .ok (.iload_n 1, 1) := by decide +kernel
theorem dX10_lay_187 : decode cX10_lay 187 = .ok (.aload_n 0, 1) := by decide +kernel
theorem dX10_lay_188 : decode cX10_lay 188 = .ok (.getfield 40, 3) := by decide +kernel
theorem dX10_lay_191 : decode cX10_lay 191 = .ok (.iconst 4, 1) := by decide +kernel
theorem dX10_lay_192 : decode cX10_lay 192 = .ok (.iload_n 1, 1) := by decide +kernel
theorem dX10_lay_193 : decode cX10_lay 193 = .ok (.iadd, 1) := by decide +kernel
theorem dX10_lay_194 : decode cX10_lay 194 = .ok (.iaload, 1) := by decide +kernel
theorem dX10_lay_195 : decode cX10_lay 195 = .ok (.iastore, 1) := by decide +kernel
theorem dX10_lay_196 : decode cX10_lay 196 = .ok (.iinc 1 1, 3) := by decide +kernel
theorem dX10_lay_199 : decode cX10_lay 199 = .ok (.goto (-22), 3) := by decide +kernel
theorem dX10_lay_202 : decode cX10_lay 202 = .ok (.aload_n 0, 1) := by decide +kernel
theorem dX10_lay_203 : decode cX10_lay 203 = .ok (.invokevirtual 102, 3) := by decide +kernel
theorem dX10_lay_206 : decode cX10_lay 206 = .ok (.aload_n 0, 1) := by decide +kernel
theorem dX10_lay_207 : decode cX10_lay 207 = .ok (.getfield 13, 3) := by decide +kernel
theorem dX10_lay_210 : decode cX10_lay 210 = .ok (.iconst 0, 1) := by decide +kernel
theorem dX10_lay_211 : decode cX10_lay 211 = .ok (.iaload, 1) := by decide +kernel
theorem dX10_lay_212 : decode cX10_lay 212 = .ok (.ireturn, 1) := by decide +kernel
theorem dX10_begin_0 : decode cX10_begin 0 = .ok (.iconst 0, 1) := by decide +kernel
theorem dX10_begin_1 : decode cX10_begin 1 = .ok (.istore_n 1, 1) := by decide +kernel
theorem dX10_begin_2 : decode cX10_begin 2 = .ok (.iload_n 1, 1) := by decide +kernel
theorem dX10_begin_3 : decode cX10_begin 3 = .ok (.bipush 6, 2) := by decide +kernel
theorem dX10_begin_5 : decode cX10_begin 5 = .ok (.if_icmp .ge 31, 3) := by decide +kernel
theorem dX10_begin_8 : decode cX10_begin 8 = .ok (.aload_n 0, 1) := by decide +kernel
theorem dX10_begin_9 : decode cX10_begin 9 = .ok (.getfield 43, 3) := by decide +kernel
theorem dX10_begin_12 : decode cX10_begin 12 = .ok (.iload_n 1, 1) := by decide +kernel
theorem dX10_begin_13 : decode cX10_begin 13 = .ok (.aload_n 0, 1) := by decide +kernel
theorem dX10_begin_14 : decode cX10_begin 14 = .ok (.getfield 25, 3) := by decide +kernel
theorem dX10_begin_17 : decode cX10_begin 17 = .ok (.iload_n 1, 1) := by decide +kernel
theorem dX10_begin_18 : decode cX10_begin 18 = .ok (.iaload, 1) := by decide +kernel
theorem dX10_begin_19 : decode cX10_begin 19 = .ok (.iastore, 1) := by decide +kernel
theorem dX10_begin_20 : decode cX10_begin 20 = .ok (.aload_n 0, 1) := by decide +kernel
theorem dX10_begin_21 : decode cX10_begin 21 = .ok (.getfield 43, 3) := by decide +kernel
theorem dX10_begin_24 : decode cX10_begin 24 = .ok (.bipush 6, 2) := by decide +kernel
theorem dX10_begin_26 : decode cX10_begin 26 = .ok (.iload_n 1, 1) := by decide +kernel
theorem dX10_begin_27 : decode cX10_begin 27 = .ok (.iadd, 1) := by decide +kernel
theorem dX10_begin_28 : decode cX10_begin 28 = .ok (.iconst 0, 1) := by decide +kernel
theorem dX10_begin_29 : decode cX10_begin 29 = .ok (.iastore, 1) := by decide +kernel
theorem dX10_begin_30 : decode cX10_begin 30 = .ok (.iinc 1 1, 3) := by decide +kernel
theorem dX10_begin_33 : decode cX10_begin 33 = .ok (.goto (-31), 3) := by decide +kernel
theorem dX10_begin_36 : decode cX10_begin 36 = .ok (.aload_n 0, 1) := by decide +kernel
theorem dX10_begin_37 : decode cX10_begin 37 = .ok (.iconst 0, 1) := by decide +kernel
theorem dX10_begin_38 : decode cX10_begin 38 = .ok (.putfield 154, 3) := by decide +kernel
theorem dX10_begin_41 : decode cX10_begin 41 = .ok (.aload_n 0, 1) := by decide +kernel
theorem dX10_begin_42 : decode cX10_begin 42 = .ok (.iconst 0, 1) := by decide +kernel
theorem dX10_begin_43 : decode cX10_begin 43 = .ok (.putfield 157, 3) := by decide +kernel
theorem dX10_begin_46 : decode cX10_begin 46 = .ok (.aload_n 0, 1) := by decide +kernel
theorem dX10_begin_47 : decode cX10_begin 47 = .ok (.iconst 0, 1) := by decide +kernel
theorem dX10_begin_48 : decode cX10_begin 48 = .ok (.putfield 160, 3) := by decide +kernel
theorem dX10_begin_51 : decode cX10_begin 51 = .ok (.return_, 1) := by decide +kernel
theorem dX10_isBoat_0 : decode cX10_isBoat 0 = .ok (.iload_n 1, 1) := by decide +kernel
theorem dX10_isBoat_1 : decode cX10_isBoat 1 = .ok (.i2l, 1) := by decide +kernel
theorem dX10_isBoat_2 : decode cX10_isBoat 2 = .ok (.lconst 0, 1) := by decide +kernel
theorem dX10_isBoat_3 : decode cX10_isBoat 3 = .ok (.aload_n 0, 1) := by decide +kernel
theorem dX10_isBoat_4 : decode cX10_isBoat 4 = .ok (.getfield 13, 3) := by decide +kernel
theorem dX10_isBoat_7 : decode cX10_isBoat 7 = .ok (.iconst 0, 1) := by decide +kernel
theorem dX10_isBoat_8 : decode cX10_isBoat 8 = .ok (.iaload, 1) := by decide +kernel
theorem dX10_isBoat_9 : decode cX10_isBoat 9 = .ok (.iconst 1, 1) := by decide +kernel
theorem dX10_isBoat_10 : decode cX10_isBoat 10 = .ok (.isub, 1) := by decide +kernel
theorem dX10_isBoat_11 : decode cX10_isBoat 11 = .ok (.i2l, 1) := by decide +kernel
theorem dX10_isBoat_12 : decode cX10_isBoat 12 = .ok (.invokestatic 109, 3) := by decide +kernel
theorem dX10_isBoat_15 : decode cX10_isBoat 15 = .ok (.ireturn, 1) := by decide +kernel
theorem dX10_areTwo_0 : decode cX10_areTwo 0 = .ok (.aload_n 0, 1) := by decide +kernel
theorem dX10_areTwo_1 : decode cX10_areTwo 1 = .ok (.iload_n 1, 1) := by decide +kernel
theorem dX10_areTwo_2 : decode cX10_areTwo 2 = .ok (.invokevirtual 163, 3) := by decide +kernel
theorem dX10_areTwo_5 : decode cX10_areTwo 5 = .ok (.ifCond .eq 20, 3) := by decide +kernel
theorem dX10_areTwo_8 : decode cX10_areTwo 8 = .ok (.aload_n 0, 1) := by decide +kernel
theorem dX10_areTwo_9 : decode cX10_areTwo 9 = .ok (.iload_n 2, 1) := by decide +kernel
theorem dX10_areTwo_10 : decode cX10_areTwo 10 = .ok (.invokevirtual 163, 3) := by decide +kernel
theorem dX10_areTwo_13 : decode cX10_areTwo 13 = .ok (.ifCond .eq 12, 3) := by decide +kernel
theorem dX10_areTwo_16 : decode cX10_areTwo 16 = .ok (.iload_n 1, 1) := by decide +kernel
theorem dX10_areTwo_17 : decode cX10_areTwo 17 = .ok (.iload_n 2, 1) := by decide +kernel
theorem dX10_areTwo_18 : decode cX10_areTwo 18 = .ok (.if_icmp .eq 7, 3) := by decide +kernel
theorem dX10_areTwo_21 : decode cX10_areTwo 21 = .ok (.iconst 1, 1) := by decide +kernel
theorem dX10_areTwo_22 : decode cX10_areTwo 22 = .ok (.goto 4, 3) := by decide +kernel
theorem dX10_areTwo_25 : decode cX10_areTwo 25 = .ok (.iconst 0, 1) := by decide +kernel
theorem dX10_areTwo_26 : decode cX10_areTwo 26 = .ok (.ireturn, 1) := by decide +kernel
theorem dX10_isRule_0 : decode cX10_isRule 0 = .ok (.iload_n 0, 1) := by decide +kernel
theorem dX10_isRule_1 : decode cX10_isRule 1 = .ok (.i2l, 1) := by decide +kernel
theorem dX10_isRule_2 : decode cX10_isRule 2 = .ok (.lconst 0, 1) := by decide +kernel
theorem dX10_isRule_3 : decode cX10_isRule 3 = .ok (.ldc2_w 134, 3) := by decide +kernel
theorem dX10_isRule_6 : decode cX10_isRule 6 = .ok (.invokestatic 109, 3) := by decide +kernel
theorem dX10_isRule_9 : decode cX10_isRule 9 = .ok (.ireturn, 1) := by decide +kernel
theorem dX10_boat_0 : decode cX10_boat 0 = .ok (.aload_n 0, 1) := by decide +kernel
theorem dX10_boat_1 : decode cX10_boat 1 = .ok (.iload_n 1, 1) := by decide +kernel
theorem dX10_boat_2 : decode cX10_boat 2 = .ok (.invokevirtual 163, 3) := by decide +kernel
theorem dX10_boat_5 : decode cX10_boat 5 = .ok (.ifCond .eq 15, 3) := by decide +kernel
theorem dX10_boat_8 : decode cX10_boat 8 = .ok (.iload_n 2, 1) := by decide +kernel
theorem dX10_boat_9 : decode cX10_boat 9 = .ok (.i2l, 1) := by decide +kernel
theorem dX10_boat_10 : decode cX10_boat 10 = .ok (.lconst 0, 1) := by decide +kernel
theorem dX10_boat_11 : decode cX10_boat 11 = .ok (.ldc2_w 166, 3) := by decide +kernel
theorem dX10_boat_14 : decode cX10_boat 14 = .ok (.invokestatic 109, 3) := by decide +kernel
theorem dX10_boat_17 : decode cX10_boat 17 = .ok (.ifCond .ne 5, 3) := by decide +kernel
theorem dX10_boat_20 : decode cX10_boat 20 = .ok (.iconst (-1), 1) := by decide +kernel
theorem dX10_boat_21 : decode cX10_boat 21 = .ok (.ireturn, 1) := by decide +kernel
theorem dX10_boat_22 : decode cX10_boat 22 = .ok (.iload_n 2, 1) := by decide +kernel
theorem dX10_boat_23 : decode cX10_boat 23 = .ok (.tableswitch 68 0 4 #[33, 40, 47, 54, 61], 33) := by decide +kernel
theorem dX10_boat_56 : decode cX10_boat 56 = .ok (.aload_n 0, 1) := by decide +kernel
theorem dX10_boat_57 : decode cX10_boat 57 = .ok (.getfield 16, 3) := by decide +kernel
theorem dX10_boat_60 : decode cX10_boat 60 = .ok (.iload_n 1, 1) := by decide +kernel
theorem dX10_boat_61 : decode cX10_boat 61 = .ok (.iaload, 1) := by decide +kernel
theorem dX10_boat_62 : decode cX10_boat 62 = .ok (.ireturn, 1) := by decide +kernel
theorem dX10_boat_63 : decode cX10_boat 63 = .ok (.aload_n 0, 1) := by decide +kernel
theorem dX10_boat_64 : decode cX10_boat 64 = .ok (.getfield 19, 3) := by decide +kernel
theorem dX10_boat_67 : decode cX10_boat 67 = .ok (.iload_n 1, 1) := by decide +kernel
theorem dX10_boat_68 : decode cX10_boat 68 = .ok (.iaload, 1) := by decide +kernel
theorem dX10_boat_69 : decode cX10_boat 69 = .ok (.ireturn, 1) := by decide +kernel
theorem dX10_boat_70 : decode cX10_boat 70 = .ok (.aload_n 0, 1) := by decide +kernel
theorem dX10_boat_71 : decode cX10_boat 71 = .ok (.getfield 22, 3) := by decide +kernel
theorem dX10_boat_74 : decode cX10_boat 74 = .ok (.iload_n 1, 1) := by decide +kernel
theorem dX10_boat_75 : decode cX10_boat 75 = .ok (.iaload, 1) := by decide +kernel
theorem dX10_boat_76 : decode cX10_boat 76 = .ok (.ireturn, 1) := by decide +kernel
theorem dX10_boat_77 : decode cX10_boat 77 = .ok (.aload_n 0, 1) := by decide +kernel
theorem dX10_boat_78 : decode cX10_boat 78 = .ok (.getfield 43, 3) := by decide +kernel
theorem dX10_boat_81 : decode cX10_boat 81 = .ok (.iload_n 1, 1) := by decide +kernel
theorem dX10_boat_82 : decode cX10_boat 82 = .ok (.iaload, 1) := by decide +kernel
theorem dX10_boat_83 : decode cX10_boat 83 = .ok (.ireturn, 1) := by decide +kernel
theorem dX10_boat_84 : decode cX10_boat 84 = .ok (.aload_n 0, 1) := by decide +kernel
theorem dX10_boat_85 : decode cX10_boat 85 = .ok (.getfield 28, 3) := by decide +kernel
theorem dX10_boat_88 : decode cX10_boat 88 = .ok (.iload_n 1, 1) := by decide +kernel
theorem dX10_boat_89 : decode cX10_boat 89 = .ok (.iaload, 1) := by decide +kernel
theorem dX10_boat_90 : decode cX10_boat 90 = .ok (.ireturn, 1) := by decide +kernel
theorem dX10_boat_91 : decode cX10_boat 91 = .ok (.aload_n 0, 1) := by decide +kernel
theorem dX10_boat_92 : decode cX10_boat 92 = .ok (.getfield 43, 3) := by decide +kernel
theorem dX10_boat_95 : decode cX10_boat 95 = .ok (.bipush 6, 2) := by decide +kernel
theorem dX10_boat_97 : decode cX10_boat 97 = .ok (.iload_n 1, 1) := by decide +kernel
theorem dX10_boat_98 : decode cX10_boat 98 = .ok (.iadd, 1) := by decide +kernel
theorem dX10_boat_99 : decode cX10_boat 99 = .ok (.iaload, 1) := by decide +kernel
theorem dX10_boat_100 : decode cX10_boat 100 = .ok (.ireturn, 1) := by decide +kernel
theorem dX10_byCustom_0 : decode cX10_byCustom 0 = .ok (.aload_n 0, 1) := by decide +kernel
theorem dX10_byCustom_1 : decode cX10_byCustom 1 = .ok (.getfield 28, 3) := by decide +kernel
theorem dX10_byCustom_4 : decode cX10_byCustom 4 = .ok (.iload_n 1, 1) := by decide +kernel
theorem dX10_byCustom_5 : decode cX10_byCustom 5 = .ok (.iaload, 1) := by decide +kernel
theorem dX10_byCustom_6 : decode cX10_byCustom 6 = .ok (.iconst 1, 1) := by decide +kernel
theorem dX10_byCustom_7 : decode cX10_byCustom 7 = .ok (.if_icmp .ne 7, 3) := by decide +kernel
theorem dX10_byCustom_10 : decode cX10_byCustom 10 = .ok (.iconst 1, 1) := by decide +kernel
theorem dX10_byCustom_11 : decode cX10_byCustom 11 = .ok (.goto 4, 3) := by decide +kernel
theorem dX10_byCustom_14 : decode cX10_byCustom 14 = .ok (.iconst 0, 1) := by decide +kernel
theorem dX10_byCustom_15 : decode cX10_byCustom 15 = .ok (.aload_n 0, 1) := by decide +kernel
theorem dX10_byCustom_16 : decode cX10_byCustom 16 = .ok (.getfield 28, 3) := by decide +kernel
theorem dX10_byCustom_19 : decode cX10_byCustom 19 = .ok (.iload_n 2, 1) := by decide +kernel
theorem dX10_byCustom_20 : decode cX10_byCustom 20 = .ok (.iaload, 1) := by decide +kernel
theorem dX10_byCustom_21 : decode cX10_byCustom 21 = .ok (.iconst 1, 1) := by decide +kernel
theorem dX10_byCustom_22 : decode cX10_byCustom 22 = .ok (.if_icmp .ne 7, 3) := by decide +kernel
theorem dX10_byCustom_25 : decode cX10_byCustom 25 = .ok (.iconst 1, 1) := by decide +kernel
theorem dX10_byCustom_26 : decode cX10_byCustom 26 = .ok (.goto 4, 3) := by decide +kernel
theorem dX10_byCustom_29 : decode cX10_byCustom 29 = .ok (.iconst 0, 1) := by decide +kernel
theorem dX10_byCustom_30 : decode cX10_byCustom 30 = .ok (.if_icmp .eq 19, 3) := by decide +kernel
theorem dX10_byCustom_33 : decode cX10_byCustom 33 = .ok (.aload_n 0, 1) := by decide +kernel
theorem dX10_byCustom_34 : decode cX10_byCustom 34 = .ok (.getfield 28, 3) := by decide +kernel
theorem dX10_byCustom_37 : decode cX10_byCustom 37 = .ok (.iload_n 1, 1) := by decide +kernel
theorem dX10_byCustom_38 : decode cX10_byCustom 38 = .ok (.iaload, 1) := by decide +kernel
theorem dX10_byCustom_39 : decode cX10_byCustom 39 = .ok (.iconst 1, 1) := by decide +kernel
theorem dX10_byCustom_40 : decode cX10_byCustom 40 = .ok (.if_icmp .ne 7, 3) := by decide +kernel
theorem dX10_byCustom_43 : decode cX10_byCustom 43 = .ok (.iload_n 2, 1) := by decide +kernel
theorem dX10_byCustom_44 : decode cX10_byCustom 44 = .ok (.goto 4, 3) := by decide +kernel
theorem dX10_byCustom_47 : decode cX10_byCustom 47 = .ok (.iload_n 1, 1) := by decide +kernel
theorem dX10_byCustom_48 : decode cX10_byCustom 48 = .ok (.ireturn, 1) := by decide +kernel
theorem dX10_byCustom_49 : decode cX10_byCustom 49 = .ok (.aload_n 0, 1) := by decide +kernel
theorem dX10_byCustom_50 : decode cX10_byCustom 50 = .ok (.getfield 43, 3) := by decide +kernel
theorem dX10_byCustom_53 : decode cX10_byCustom 53 = .ok (.iload_n 1, 1) := by decide +kernel
theorem dX10_byCustom_54 : decode cX10_byCustom 54 = .ok (.iaload, 1) := by decide +kernel
theorem dX10_byCustom_55 : decode cX10_byCustom 55 = .ok (.ifCond .ne 7, 3) := by decide +kernel
theorem dX10_byCustom_58 : decode cX10_byCustom 58 = .ok (.iconst 1, 1) := by decide +kernel
theorem dX10_byCustom_59 : decode cX10_byCustom 59 = .ok (.goto 4, 3) := by decide +kernel
theorem dX10_byCustom_62 : decode cX10_byCustom 62 = .ok (.iconst 0, 1) := by decide +kernel
theorem dX10_byCustom_63 : decode cX10_byCustom 63 = .ok (.aload_n 0, 1) := by decide +kernel
theorem dX10_byCustom_64 : decode cX10_byCustom 64 = .ok (.getfield 43, 3) := by decide +kernel
theorem dX10_byCustom_67 : decode cX10_byCustom 67 = .ok (.iload_n 2, 1) := by decide +kernel
theorem dX10_byCustom_68 : decode cX10_byCustom 68 = .ok (.iaload, 1) := by decide +kernel
theorem dX10_byCustom_69 : decode cX10_byCustom 69 = .ok (.ifCond .ne 7, 3) := by decide +kernel
theorem dX10_byCustom_72 : decode cX10_byCustom 72 = .ok (.iconst 1, 1) := by decide +kernel
theorem dX10_byCustom_73 : decode cX10_byCustom 73 = .ok (.goto 4, 3) := by decide +kernel
theorem dX10_byCustom_76 : decode cX10_byCustom 76 = .ok (.iconst 0, 1) := by decide +kernel
theorem dX10_byCustom_77 : decode cX10_byCustom 77 = .ok (.if_icmp .eq 18, 3) := by decide +kernel
theorem dX10_byCustom_80 : decode cX10_byCustom 80 = .ok (.aload_n 0, 1) := by decide +kernel
theorem dX10_byCustom_81 : decode cX10_byCustom 81 = .ok (.getfield 43, 3) := by decide +kernel
theorem dX10_byCustom_84 : decode cX10_byCustom 84 = .ok (.iload_n 1, 1) := by decide +kernel
theorem dX10_byCustom_85 : decode cX10_byCustom 85 = .ok (.iaload, 1) := by decide +kernel
theorem dX10_byCustom_86 : decode cX10_byCustom 86 = .ok (.ifCond .ne 7, 3) := by decide +kernel
theorem dX10_byCustom_89 : decode cX10_byCustom 89 = .ok (.iload_n 1, 1) := by decide +kernel
theorem dX10_byCustom_90 : decode cX10_byCustom 90 = .ok (.goto 4, 3) := by decide +kernel
theorem dX10_byCustom_93 : decode cX10_byCustom 93 = .ok (.iload_n 2, 1) := by decide +kernel
theorem dX10_byCustom_94 : decode cX10_byCustom 94 = .ok (.ireturn, 1) := by decide +kernel
theorem dX10_byCustom_95 : decode cX10_byCustom 95 = .ok (.aload_n 0, 1) := by decide +kernel
theorem dX10_byCustom_96 : decode cX10_byCustom 96 = .ok (.getfield 19, 3) := by decide +kernel
theorem dX10_byCustom_99 : decode cX10_byCustom 99 = .ok (.iload_n 1, 1) := by decide +kernel
theorem dX10_byCustom_100 : decode cX10_byCustom 100 = .ok (.iaload, 1) := by decide +kernel
theorem dX10_byCustom_101 : decode cX10_byCustom 101 = .ok (.iconst 1, 1) := by decide +kernel
theorem dX10_byCustom_102 : decode cX10_byCustom 102 = .ok (.if_icmp .ne 7, 3) := by decide +kernel
theorem dX10_byCustom_105 : decode cX10_byCustom 105 = .ok (.iload_n 1, 1) := by decide +kernel
theorem dX10_byCustom_106 : decode cX10_byCustom 106 = .ok (.goto 4, 3) := by decide +kernel
theorem dX10_byCustom_109 : decode cX10_byCustom 109 = .ok (.iload_n 2, 1) := by decide +kernel
theorem dX10_byCustom_110 : decode cX10_byCustom 110 = .ok (.ireturn, 1) := by decide +kernel
theorem dX10_byLoad_0 : decode cX10_byLoad 0 = .ok (.aload_n 0, 1) := by decide +kernel
theorem dX10_byLoad_1 : decode cX10_byLoad 1 = .ok (.getfield 43, 3) := by decide +kernel
theorem dX10_byLoad_4 : decode cX10_byLoad 4 = .ok (.iload_n 1, 1) := by decide +kernel
theorem dX10_byLoad_5 : decode cX10_byLoad 5 = .ok (.iaload, 1) := by decide +kernel
theorem dX10_byLoad_6 : decode cX10_byLoad 6 = .ok (.aload_n 0, 1) := by decide +kernel
theorem dX10_byLoad_7 : decode cX10_byLoad 7 = .ok (.getfield 43, 3) := by decide +kernel
theorem dX10_byLoad_10 : decode cX10_byLoad 10 = .ok (.iload_n 2, 1) := by decide +kernel
theorem dX10_byLoad_11 : decode cX10_byLoad 11 = .ok (.iaload, 1) := by decide +kernel
theorem dX10_byLoad_12 : decode cX10_byLoad 12 = .ok (.if_icmp .ne 12, 3) := by decide +kernel
theorem dX10_byLoad_15 : decode cX10_byLoad 15 = .ok (.aload_n 0, 1) := by decide +kernel
theorem dX10_byLoad_16 : decode cX10_byLoad 16 = .ok (.iload_n 1, 1) := by decide +kernel
theorem dX10_byLoad_17 : decode cX10_byLoad 17 = .ok (.iload_n 2, 1) := by decide +kernel
theorem dX10_byLoad_18 : decode cX10_byLoad 18 = .ok (.invokevirtual 168, 3) := by decide +kernel
theorem dX10_byLoad_21 : decode cX10_byLoad 21 = .ok (.goto 23, 3) := by decide +kernel
theorem dX10_byLoad_24 : decode cX10_byLoad 24 = .ok (.aload_n 0, 1) := by decide +kernel
theorem dX10_byLoad_25 : decode cX10_byLoad 25 = .ok (.getfield 43, 3) := by decide +kernel
theorem dX10_byLoad_28 : decode cX10_byLoad 28 = .ok (.iload_n 1, 1) := by decide +kernel
theorem dX10_byLoad_29 : decode cX10_byLoad 29 = .ok (.iaload, 1) := by decide +kernel
theorem dX10_byLoad_30 : decode cX10_byLoad 30 = .ok (.aload_n 0, 1) := by decide +kernel
theorem dX10_byLoad_31 : decode cX10_byLoad 31 = .ok (.getfield 43, 3) := by decide +kernel
theorem dX10_byLoad_34 : decode cX10_byLoad 34 = .ok (.iload_n 2, 1) := by decide +kernel
theorem dX10_byLoad_35 : decode cX10_byLoad 35 = .ok (.iaload, 1) := by decide +kernel
theorem dX10_byLoad_36 : decode cX10_byLoad 36 = .ok (.if_icmp .ge 7, 3) := by decide +kernel
theorem dX10_byLoad_39 : decode cX10_byLoad 39 = .ok (.iload_n 1, 1) := by decide +kernel
theorem dX10_byLoad_40 : decode cX10_byLoad 40 = .ok (.goto 4, 3) := by decide +kernel
theorem dX10_byLoad_43 : decode cX10_byLoad 43 = .ok (.iload_n 2, 1) := by decide +kernel
theorem dX10_byLoad_44 : decode cX10_byLoad 44 = .ok (.ireturn, 1) := by decide +kernel
theorem dX10_loss_0 : decode cX10_loss 0 = .ok (.aload_n 0, 1) := by decide +kernel
theorem dX10_loss_1 : decode cX10_loss 1 = .ok (.getfield 40, 3) := by decide +kernel
theorem dX10_loss_4 : decode cX10_loss 4 = .ok (.iconst 0, 1) := by decide +kernel
theorem dX10_loss_5 : decode cX10_loss 5 = .ok (.iaload, 1) := by decide +kernel
theorem dX10_loss_6 : decode cX10_loss 6 = .ok (.aload_n 0, 1) := by decide +kernel
theorem dX10_loss_7 : decode cX10_loss 7 = .ok (.getfield 43, 3) := by decide +kernel
theorem dX10_loss_10 : decode cX10_loss 10 = .ok (.iload_n 1, 1) := by decide +kernel
theorem dX10_loss_11 : decode cX10_loss 11 = .ok (.iaload, 1) := by decide +kernel
theorem dX10_loss_12 : decode cX10_loss 12 = .ok (.iadd, 1) := by decide +kernel
theorem dX10_loss_13 : decode cX10_loss 13 = .ok (.aload_n 0, 1) := by decide +kernel
theorem dX10_loss_14 : decode cX10_loss 14 = .ok (.getfield 43, 3) := by decide +kernel
theorem dX10_loss_17 : decode cX10_loss 17 = .ok (.iload_n 1, 1) := by decide +kernel
theorem dX10_loss_18 : decode cX10_loss 18 = .ok (.iaload, 1) := by decide +kernel
theorem dX10_loss_19 : decode cX10_loss 19 = .ok (.iconst 1, 1) := by decide +kernel
theorem dX10_loss_20 : decode cX10_loss 20 = .ok (.iadd, 1) := by decide +kernel
theorem dX10_loss_21 : decode cX10_loss 21 = .ok (.imul, 1) := by decide +kernel
theorem dX10_loss_22 : decode cX10_loss 22 = .ok (.ireturn, 1) := by decide +kernel
theorem dX10_byRule_0 : decode cX10_byRule 0 = .ok (.iload_n 1, 1) := by decide +kernel
theorem dX10_byRule_1 : decode cX10_byRule 1 = .ok (.tableswitch 86 0 2 #[27, 34, 41], 27) := by decide +kernel
theorem dX10_byRule_28 : decode cX10_byRule 28 = .ok (.aload_n 0, 1) := by decide +kernel
theorem dX10_byRule_29 : decode cX10_byRule 29 = .ok (.iload_n 2, 1) := by decide +kernel
theorem dX10_byRule_30 : decode cX10_byRule 30 = .ok (.iload_n 3, 1) := by decide +kernel
theorem dX10_byRule_31 : decode cX10_byRule 31 = .ok (.invokevirtual 168, 3) := by decide +kernel
theorem dX10_byRule_34 : decode cX10_byRule 34 = .ok (.ireturn, 1) := by decide +kernel
theorem dX10_byRule_35 : decode cX10_byRule 35 = .ok (.aload_n 0, 1) := by decide +kernel
theorem dX10_byRule_36 : decode cX10_byRule 36 = .ok (.iload_n 2, 1) := by decide +kernel
theorem dX10_byRule_37 : decode cX10_byRule 37 = .ok (.iload_n 3, 1) := by decide +kernel
theorem dX10_byRule_38 : decode cX10_byRule 38 = .ok (.invokevirtual 172, 3) := by decide +kernel
theorem dX10_byRule_41 : decode cX10_byRule 41 = .ok (.ireturn, 1) := by decide +kernel
theorem dX10_byRule_42 : decode cX10_byRule 42 = .ok (.aload_n 0, 1) := by decide +kernel
theorem dX10_byRule_43 : decode cX10_byRule 43 = .ok (.getfield 22, 3) := by decide +kernel
theorem dX10_byRule_46 : decode cX10_byRule 46 = .ok (.iload_n 2, 1) := by decide +kernel
theorem dX10_byRule_47 : decode cX10_byRule 47 = .ok (.iaload, 1) := by decide +kernel
theorem dX10_byRule_48 : decode cX10_byRule 48 = .ok (.aload_n 0, 1) := by decide +kernel
theorem dX10_byRule_49 : decode cX10_byRule 49 = .ok (.getfield 22, 3) := by decide +kernel
theorem dX10_byRule_52 : decode cX10_byRule 52 = .ok (.iload_n 3, 1) := by decide +kernel
theorem dX10_byRule_53 : decode cX10_byRule 53 = .ok (.iaload, 1) := by decide +kernel
theorem dX10_byRule_54 : decode cX10_byRule 54 = .ok (.if_icmp .ne 12, 3) := by decide +kernel
theorem dX10_byRule_57 : decode cX10_byRule 57 = .ok (.aload_n 0, 1) := by decide +kernel
theorem dX10_byRule_58 : decode cX10_byRule 58 = .ok (.iload_n 2, 1) := by decide +kernel
theorem dX10_byRule_59 : decode cX10_byRule 59 = .ok (.iload_n 3, 1) := by decide +kernel
theorem dX10_byRule_60 : decode cX10_byRule 60 = .ok (.invokevirtual 168, 3) := by decide +kernel
theorem dX10_byRule_63 : decode cX10_byRule 63 = .ok (.goto 23, 3) := by decide +kernel
theorem dX10_byRule_66 : decode cX10_byRule 66 = .ok (.aload_n 0, 1) := by decide +kernel
theorem dX10_byRule_67 : decode cX10_byRule 67 = .ok (.getfield 22, 3) := by decide +kernel
theorem dX10_byRule_70 : decode cX10_byRule 70 = .ok (.iload_n 2, 1) := by decide +kernel
theorem dX10_byRule_71 : decode cX10_byRule 71 = .ok (.iaload, 1) := by decide +kernel
theorem dX10_byRule_72 : decode cX10_byRule 72 = .ok (.aload_n 0, 1) := by decide +kernel
theorem dX10_byRule_73 : decode cX10_byRule 73 = .ok (.getfield 22, 3) := by decide +kernel
theorem dX10_byRule_76 : decode cX10_byRule 76 = .ok (.iload_n 3, 1) := by decide +kernel
theorem dX10_byRule_77 : decode cX10_byRule 77 = .ok (.iaload, 1) := by decide +kernel
theorem dX10_byRule_78 : decode cX10_byRule 78 = .ok (.if_icmp .ge 7, 3) := by decide +kernel
theorem dX10_byRule_81 : decode cX10_byRule 81 = .ok (.iload_n 2, 1) := by decide +kernel
theorem dX10_byRule_82 : decode cX10_byRule 82 = .ok (.goto 4, 3) := by decide +kernel
theorem dX10_byRule_85 : decode cX10_byRule 85 = .ok (.iload_n 3, 1) := by decide +kernel
theorem dX10_byRule_86 : decode cX10_byRule 86 = .ok (.ireturn, 1) := by decide +kernel
theorem dX10_byRule_87 : decode cX10_byRule 87 = .ok (.aload_n 0, 1) := by decide +kernel
theorem dX10_byRule_88 : decode cX10_byRule 88 = .ok (.iload_n 2, 1) := by decide +kernel
theorem dX10_byRule_89 : decode cX10_byRule 89 = .ok (.invokevirtual 175, 3) := by decide +kernel
theorem dX10_byRule_92 : decode cX10_byRule 92 = .ok (.aload_n 0, 1) := by decide +kernel
theorem dX10_byRule_93 : decode cX10_byRule 93 = .ok (.iload_n 3, 1) := by decide +kernel
theorem dX10_byRule_94 : decode cX10_byRule 94 = .ok (.invokevirtual 175, 3) := by decide +kernel
theorem dX10_byRule_97 : decode cX10_byRule 97 = .ok (.if_icmp .ne 12, 3) := by decide +kernel
theorem dX10_byRule_100 : decode cX10_byRule 100 = .ok (.aload_n 0, 1) := by decide +kernel
theorem dX10_byRule_101 : decode cX10_byRule 101 = .ok (.iload_n 2, 1) := by decide +kernel
theorem dX10_byRule_102 : decode cX10_byRule 102 = .ok (.iload_n 3, 1) := by decide +kernel
theorem dX10_byRule_103 : decode cX10_byRule 103 = .ok (.invokevirtual 172, 3) := by decide +kernel
theorem dX10_byRule_106 : decode cX10_byRule 106 = .ok (.goto 21, 3) := by decide +kernel
theorem dX10_byRule_109 : decode cX10_byRule 109 = .ok (.aload_n 0, 1) := by decide +kernel
theorem dX10_byRule_110 : decode cX10_byRule 110 = .ok (.iload_n 2, 1) := by decide +kernel
theorem dX10_byRule_111 : decode cX10_byRule 111 = .ok (.invokevirtual 175, 3) := by decide +kernel
theorem dX10_byRule_114 : decode cX10_byRule 114 = .ok (.aload_n 0, 1) := by decide +kernel
theorem dX10_byRule_115 : decode cX10_byRule 115 = .ok (.iload_n 3, 1) := by decide +kernel
theorem dX10_byRule_116 : decode cX10_byRule 116 = .ok (.invokevirtual 175, 3) := by decide +kernel
theorem dX10_byRule_119 : decode cX10_byRule 119 = .ok (.if_icmp .ge 7, 3) := by decide +kernel
theorem dX10_byRule_122 : decode cX10_byRule 122 = .ok (.iload_n 2, 1) := by decide +kernel
theorem dX10_byRule_123 : decode cX10_byRule 123 = .ok (.goto 4, 3) := by decide +kernel
theorem dX10_byRule_126 : decode cX10_byRule 126 = .ok (.iload_n 3, 1) := by decide +kernel
theorem dX10_byRule_127 : decode cX10_byRule 127 = .ok (.ireturn, 1) := by decide +kernel
theorem dX10_yielder_0 : decode cX10_yielder 0 = .ok (.aload_n 0, 1) := by decide +kernel
theorem dX10_yielder_1 : decode cX10_yielder 1 = .ok (.getfield 28, 3) := by decide +kernel
theorem dX10_yielder_4 : decode cX10_yielder 4 = .ok (.iload_n 2, 1) := by decide +kernel
theorem dX10_yielder_5 : decode cX10_yielder 5 = .ok (.iaload, 1) := by decide +kernel
theorem dX10_yielder_6 : decode cX10_yielder 6 = .ok (.iconst 2, 1) := by decide +kernel
theorem dX10_yielder_7 : decode cX10_yielder 7 = .ok (.if_icmp .eq 13, 3) := by decide +kernel
theorem dX10_yielder_10 : decode cX10_yielder 10 = .ok (.aload_n 0, 1) := by decide +kernel
theorem dX10_yielder_11 : decode cX10_yielder 11 = .ok (.getfield 28, 3) := by decide +kernel
theorem dX10_yielder_14 : decode cX10_yielder 14 = .ok (.iload_n 3, 1) := by decide +kernel
theorem dX10_yielder_15 : decode cX10_yielder 15 = .ok (.iaload, 1) := by decide +kernel
theorem dX10_yielder_16 : decode cX10_yielder 16 = .ok (.iconst 2, 1) := by decide +kernel
theorem dX10_yielder_17 : decode cX10_yielder 17 = .ok (.if_icmp .ne 39, 3) := by decide +kernel
theorem dX10_yielder_20 : decode cX10_yielder 20 = .ok (.aload_n 0, 1) := by decide +kernel
theorem dX10_yielder_21 : decode cX10_yielder 21 = .ok (.getfield 28, 3) := by decide +kernel
theorem dX10_yielder_24 : decode cX10_yielder 24 = .ok (.iload_n 2, 1) := by decide +kernel
theorem dX10_yielder_25 : decode cX10_yielder 25 = .ok (.iaload, 1) := by decide +kernel
theorem dX10_yielder_26 : decode cX10_yielder 26 = .ok (.aload_n 0, 1) := by decide +kernel
theorem dX10_yielder_27 : decode cX10_yielder 27 = .ok (.getfield 28, 3) := by decide +kernel
theorem dX10_yielder_30 : decode cX10_yielder 30 = .ok (.iload_n 3, 1) := by decide +kernel
theorem dX10_yielder_31 : decode cX10_yielder 31 = .ok (.iaload, 1) := by decide +kernel
theorem dX10_yielder_32 : decode cX10_yielder 32 = .ok (.if_icmp .ne 8, 3) := by decide +kernel
theorem dX10_yielder_35 : decode cX10_yielder 35 = .ok (.bipush (-4), 2) := by decide +kernel
theorem dX10_yielder_37 : decode cX10_yielder 37 = .ok (.goto 18, 3) := by decide +kernel
theorem dX10_yielder_40 : decode cX10_yielder 40 = .ok (.aload_n 0, 1) := by decide +kernel
theorem dX10_yielder_41 : decode cX10_yielder 41 = .ok (.getfield 28, 3) := by decide +kernel
theorem dX10_yielder_44 : decode cX10_yielder 44 = .ok (.iload_n 2, 1) := by decide +kernel
theorem dX10_yielder_45 : decode cX10_yielder 45 = .ok (.iaload, 1) := by decide +kernel
theorem dX10_yielder_46 : decode cX10_yielder 46 = .ok (.iconst 2, 1) := by decide +kernel
theorem dX10_yielder_47 : decode cX10_yielder 47 = .ok (.if_icmp .ne 7, 3) := by decide +kernel
theorem dX10_yielder_50 : decode cX10_yielder 50 = .ok (.iload_n 3, 1) := by decide +kernel
theorem dX10_yielder_51 : decode cX10_yielder 51 = .ok (.goto 4, 3) := by decide +kernel
theorem dX10_yielder_54 : decode cX10_yielder 54 = .ok (.iload_n 2, 1) := by decide +kernel
theorem dX10_yielder_55 : decode cX10_yielder 55 = .ok (.ireturn, 1) := by decide +kernel
theorem dX10_yielder_56 : decode cX10_yielder 56 = .ok (.aload_n 0, 1) := by decide +kernel
theorem dX10_yielder_57 : decode cX10_yielder 57 = .ok (.getfield 28, 3) := by decide +kernel
theorem dX10_yielder_60 : decode cX10_yielder 60 = .ok (.iload_n 2, 1) := by decide +kernel
theorem dX10_yielder_61 : decode cX10_yielder 61 = .ok (.iaload, 1) := by decide +kernel
theorem dX10_yielder_62 : decode cX10_yielder 62 = .ok (.iconst 3, 1) := by decide +kernel
theorem dX10_yielder_63 : decode cX10_yielder 63 = .ok (.if_icmp .ne 7, 3) := by decide +kernel
theorem dX10_yielder_66 : decode cX10_yielder 66 = .ok (.iconst 1, 1) := by decide +kernel
theorem dX10_yielder_67 : decode cX10_yielder 67 = .ok (.goto 4, 3) := by decide +kernel
theorem dX10_yielder_70 : decode cX10_yielder 70 = .ok (.iconst 0, 1) := by decide +kernel
theorem dX10_yielder_71 : decode cX10_yielder 71 = .ok (.aload_n 0, 1) := by decide +kernel
theorem dX10_yielder_72 : decode cX10_yielder 72 = .ok (.getfield 28, 3) := by decide +kernel
theorem dX10_yielder_75 : decode cX10_yielder 75 = .ok (.iload_n 3, 1) := by decide +kernel
theorem dX10_yielder_76 : decode cX10_yielder 76 = .ok (.iaload, 1) := by decide +kernel
theorem dX10_yielder_77 : decode cX10_yielder 77 = .ok (.iconst 3, 1) := by decide +kernel
theorem dX10_yielder_78 : decode cX10_yielder 78 = .ok (.if_icmp .ne 7, 3) := by decide +kernel
theorem dX10_yielder_81 : decode cX10_yielder 81 = .ok (.iconst 1, 1) := by decide +kernel
theorem dX10_yielder_82 : decode cX10_yielder 82 = .ok (.goto 4, 3) := by decide +kernel
theorem dX10_yielder_85 : decode cX10_yielder 85 = .ok (.iconst 0, 1) := by decide +kernel
theorem dX10_yielder_86 : decode cX10_yielder 86 = .ok (.if_icmp .eq 19, 3) := by decide +kernel
theorem dX10_yielder_89 : decode cX10_yielder 89 = .ok (.aload_n 0, 1) := by decide +kernel
theorem dX10_yielder_90 : decode cX10_yielder 90 = .ok (.getfield 28, 3) := by decide +kernel
theorem dX10_yielder_93 : decode cX10_yielder 93 = .ok (.iload_n 2, 1) := by decide +kernel
theorem dX10_yielder_94 : decode cX10_yielder 94 = .ok (.iaload, 1) := by decide +kernel
theorem dX10_yielder_95 : decode cX10_yielder 95 = .ok (.iconst 3, 1) := by decide +kernel
theorem dX10_yielder_96 : decode cX10_yielder 96 = .ok (.if_icmp .ne 7, 3) := by decide +kernel
theorem dX10_yielder_99 : decode cX10_yielder 99 = .ok (.iload_n 2, 1) := by decide +kernel
theorem dX10_yielder_100 : decode cX10_yielder 100 = .ok (.goto 4, 3) := by decide +kernel
theorem dX10_yielder_103 : decode cX10_yielder 103 = .ok (.iload_n 3, 1) := by decide +kernel
theorem dX10_yielder_104 : decode cX10_yielder 104 = .ok (.ireturn, 1) := by decide +kernel
theorem dX10_yielder_105 : decode cX10_yielder 105 = .ok (.aload_n 0, 1) := by decide +kernel
theorem dX10_yielder_106 : decode cX10_yielder 106 = .ok (.iload_n 1, 1) := by decide +kernel
theorem dX10_yielder_107 : decode cX10_yielder 107 = .ok (.iload_n 2, 1) := by decide +kernel
theorem dX10_yielder_108 : decode cX10_yielder 108 = .ok (.iload_n 3, 1) := by decide +kernel
theorem dX10_yielder_109 : decode cX10_yielder 109 = .ok (.invokevirtual 178, 3) := by decide +kernel
theorem dX10_yielder_112 : decode cX10_yielder 112 = .ok (.ireturn, 1) := by decide +kernel
theorem dX10_endOf_0 : decode cX10_endOf 0 = .ok (.aload_n 0, 1) := by decide +kernel
theorem dX10_endOf_1 : decode cX10_endOf 1 = .ok (.getfield 19, 3) := by decide +kernel
theorem dX10_endOf_4 : decode cX10_endOf 4 = .ok (.iload_n 1, 1) := by decide +kernel
theorem dX10_endOf_5 : decode cX10_endOf 5 = .ok (.iaload, 1) := by decide +kernel
theorem dX10_endOf_6 : decode cX10_endOf 6 = .ok (.ifCond .ne 8, 3) := by decide +kernel
theorem dX10_endOf_9 : decode cX10_endOf 9 = .ok (.bipush 60, 2) := by decide +kernel
theorem dX10_endOf_11 : decode cX10_endOf 11 = .ok (.goto 4, 3) := by decide +kernel
theorem dX10_endOf_14 : decode cX10_endOf 14 = .ok (.iconst 0, 1) := by decide +kernel
theorem dX10_endOf_15 : decode cX10_endOf 15 = .ok (.ireturn, 1) := by decide +kernel
theorem dX10_isNarrow_0 : decode cX10_isNarrow 0 = .ok (.iconst 0, 1) := by decide +kernel
theorem dX10_isNarrow_1 : decode cX10_isNarrow 1 = .ok (.istore_n 2, 1) := by decide +kernel
theorem dX10_isNarrow_2 : decode cX10_isNarrow 2 = .ok (.iconst 0, 1) := by decide +kernel
theorem dX10_isNarrow_3 : decode cX10_isNarrow 3 = .ok (.istore_n 3, 1) := by decide +kernel
theorem dX10_isNarrow_4 : decode cX10_isNarrow 4 = .ok (.iload_n 3, 1) := by decide +kernel
theorem dX10_isNarrow_5 : decode cX10_isNarrow 5 = .ok (.aload_n 0, 1) := by decide +kernel
theorem dX10_isNarrow_6 : decode cX10_isNarrow 6 = .ok (.getfield 31, 3) := by decide +kernel
theorem dX10_isNarrow_9 : decode cX10_isNarrow 9 = .ok (.iconst 0, 1) := by decide +kernel
theorem dX10_isNarrow_10 : decode cX10_isNarrow 10 = .ok (.iaload, 1) := by decide +kernel
theorem dX10_isNarrow_11 : decode cX10_isNarrow 11 = .ok (.if_icmp .ge 41, 3) := by decide +kernel
theorem dX10_isNarrow_14 : decode cX10_isNarrow 14 = .ok (.iload_n 2, 1) := by decide +kernel
theorem dX10_isNarrow_15 : decode cX10_isNarrow 15 = .ok (.ifCond .ne 25, 3) := by decide +kernel
theorem dX10_isNarrow_18 : decode cX10_isNarrow 18 = .ok (.iload_n 1, 1) := by decide +kernel
theorem dX10_isNarrow_19 : decode cX10_isNarrow 19 = .ok (.i2l, 1) := by decide +kernel
theorem dX10_isNarrow_20 : decode cX10_isNarrow 20 = .ok (.aload_n 0, 1) := by decide +kernel
theorem dX10_isNarrow_21 : decode cX10_isNarrow 21 = .ok (.getfield 34, 3) := by decide +kernel
theorem dX10_isNarrow_24 : decode cX10_isNarrow 24 = .ok (.iload_n 3, 1) := by decide +kernel
theorem dX10_isNarrow_25 : decode cX10_isNarrow 25 = .ok (.iaload, 1) := by decide +kernel
theorem dX10_isNarrow_26 : decode cX10_isNarrow 26 = .ok (.i2l, 1) := by decide +kernel
theorem dX10_isNarrow_27 : decode cX10_isNarrow 27 = .ok (.aload_n 0, 1) := by decide +kernel
theorem dX10_isNarrow_28 : decode cX10_isNarrow 28 = .ok (.getfield 37, 3) := by decide +kernel
theorem dX10_isNarrow_31 : decode cX10_isNarrow 31 = .ok (.iload_n 3, 1) := by decide +kernel
theorem dX10_isNarrow_32 : decode cX10_isNarrow 32 = .ok (.iaload, 1) := by decide +kernel
theorem dX10_isNarrow_33 : decode cX10_isNarrow 33 = .ok (.i2l, 1) := by decide +kernel
theorem dX10_isNarrow_34 : decode cX10_isNarrow 34 = .ok (.invokestatic 109, 3) := by decide +kernel
theorem dX10_isNarrow_37 : decode cX10_isNarrow 37 = .ok (.ifCond .eq 7, 3) := by decide +kernel
theorem dX10_isNarrow_40 : decode cX10_isNarrow 40 = .ok (.iconst 1, 1) := by decide +kernel
theorem dX10_isNarrow_41 : decode cX10_isNarrow 41 = .ok (.goto 4, 3) := by decide +kernel
theorem dX10_isNarrow_44 : decode cX10_isNarrow 44 = .ok (.iconst 0, 1) := by decide +kernel
theorem dX10_isNarrow_45 : decode cX10_isNarrow 45 = .ok (.istore_n 2, 1) := by decide +kernel
theorem dX10_isNarrow_46 : decode cX10_isNarrow 46 = .ok (.iinc 3 1, 3) := by decide +kernel
theorem dX10_isNarrow_49 : decode cX10_isNarrow 49 = .ok (.goto (-45), 3) := by decide +kernel
theorem dX10_isNarrow_52 : decode cX10_isNarrow 52 = .ok (.iload_n 2, 1) := by decide +kernel
theorem dX10_isNarrow_53 : decode cX10_isNarrow 53 = .ok (.ireturn, 1) := by decide +kernel
theorem dX10_standMore_0 : decode cX10_standMore 0 = .ok (.aload_n 0, 1) := by decide +kernel
theorem dX10_standMore_1 : decode cX10_standMore 1 = .ok (.getfield 76, 3) := by decide +kernel
theorem dX10_standMore_4 : decode cX10_standMore 4 = .ok (.iload_n 1, 1) := by decide +kernel
theorem dX10_standMore_5 : decode cX10_standMore 5 = .ok (.dup2, 1) := by decide +kernel
theorem dX10_standMore_6 : decode cX10_standMore 6 = .ok (.iaload, 1) := by decide +kernel
theorem dX10_standMore_7 : decode cX10_standMore 7 = .ok (.iload_n 2, 1) := by decide +kernel
theorem dX10_standMore_8 : decode cX10_standMore 8 = .ok (.ifCond .le 35, 3) := by decide +kernel
theorem dX10_standMore_11 : decode cX10_standMore 11 = .ok (.aload_n 0, 1) := by decide +kernel
theorem dX10_standMore_12 : decode cX10_standMore 12 = .ok (.getfield 64, 3) := by decide +kernel
theorem dX10_standMore_15 : decode cX10_standMore 15 = .ok (.iload_n 1, 1) := by decide +kernel
theorem dX10_standMore_16 : decode cX10_standMore 16 = .ok (.iaload, 1) := by decide +kernel
theorem dX10_standMore_17 : decode cX10_standMore 17 = .ok (.ifCond .ne 26, 3) := by decide +kernel
theorem dX10_standMore_20 : decode cX10_standMore 20 = .ok (.aload_n 0, 1) := by decide +kernel
theorem dX10_standMore_21 : decode cX10_standMore 21 = .ok (.getfield 61, 3) := by decide +kernel
theorem dX10_standMore_24 : decode cX10_standMore 24 = .ok (.bipush 6, 2) := by decide +kernel
theorem dX10_standMore_26 : decode cX10_standMore 26 = .ok (.iload_n 3, 1) := by decide +kernel
theorem dX10_standMore_27 : decode cX10_standMore 27 = .ok (.imul, 1) := by decide +kernel
theorem dX10_standMore_28 : decode cX10_standMore 28 = .ok (.iload_n 1, 1) := by decide +kernel
theorem dX10_standMore_29 : decode cX10_standMore 29 = .ok (.iadd, 1) := by decide +kernel
theorem dX10_standMore_30 : decode cX10_standMore 30 = .ok (.iaload, 1) := by decide +kernel
theorem dX10_standMore_31 : decode cX10_standMore 31 = .ok (.aload_n 0, 1) := by decide +kernel
theorem dX10_standMore_32 : decode cX10_standMore 32 = .ok (.iload_n 1, 1) := by decide +kernel
theorem dX10_standMore_33 : decode cX10_standMore 33 = .ok (.invokevirtual 182, 3) := by decide +kernel
theorem dX10_standMore_36 : decode cX10_standMore 36 = .ok (.if_icmp .eq 7, 3) := by decide +kernel
theorem dX10_standMore_39 : decode cX10_standMore 39 = .ok (.iconst 1, 1) := by decide +kernel
theorem dX10_standMore_40 : decode cX10_standMore 40 = .ok (.goto 4, 3) := by decide +kernel
theorem dX10_standMore_43 : decode cX10_standMore 43 = .ok (.iconst 0, 1) := by decide +kernel
theorem dX10_standMore_44 : decode cX10_standMore 44 = .ok (.iadd, 1) := by decide +kernel
theorem dX10_standMore_45 : decode cX10_standMore 45 = .ok (.iastore, 1) := by decide +kernel
theorem dX10_standMore_46 : decode cX10_standMore 46 = .ok (.aload_n 0, 1) := by decide +kernel
theorem dX10_standMore_47 : decode cX10_standMore 47 = .ok (.getfield 64, 3) := by decide +kernel
theorem dX10_standMore_50 : decode cX10_standMore 50 = .ok (.iload_n 1, 1) := by decide +kernel
theorem dX10_standMore_51 : decode cX10_standMore 51 = .ok (.dup2, 1) := by decide +kernel
theorem dX10_standMore_52 : decode cX10_standMore 52 = .ok (.iaload, 1) := by decide +kernel
theorem dX10_standMore_53 : decode cX10_standMore 53 = .ok (.iload_n 2, 1) := by decide +kernel
theorem dX10_standMore_54 : decode cX10_standMore 54 = .ok (.iadd, 1) := by decide +kernel
theorem dX10_standMore_55 : decode cX10_standMore 55 = .ok (.iastore, 1) := by decide +kernel
theorem dX10_standMore_56 : decode cX10_standMore 56 = .ok (.aload_n 0, 1) := by decide +kernel
theorem dX10_standMore_57 : decode cX10_standMore 57 = .ok (.getfield 70, 3) := by decide +kernel
theorem dX10_standMore_60 : decode cX10_standMore 60 = .ok (.iload_n 1, 1) := by decide +kernel
theorem dX10_standMore_61 : decode cX10_standMore 61 = .ok (.dup2, 1) := by decide +kernel
theorem dX10_standMore_62 : decode cX10_standMore 62 = .ok (.iaload, 1) := by decide +kernel
theorem dX10_standMore_63 : decode cX10_standMore 63 = .ok (.iload_n 2, 1) := by decide +kernel
theorem dX10_standMore_64 : decode cX10_standMore 64 = .ok (.iadd, 1) := by decide +kernel
theorem dX10_standMore_65 : decode cX10_standMore 65 = .ok (.iastore, 1) := by decide +kernel
theorem dX10_standMore_66 : decode cX10_standMore 66 = .ok (.return_, 1) := by decide +kernel
theorem dX10_meet_0 : decode cX10_meet 0 = .ok (.aload_n 0, 1) := by decide +kernel
theorem dX10_meet_1 : decode cX10_meet 1 = .ok (.iload_n 1, 1) := by decide +kernel
theorem dX10_meet_2 : decode cX10_meet 2 = .ok (.iload_n 2, 1) := by decide +kernel
theorem dX10_meet_3 : decode cX10_meet 3 = .ok (.iload_n 3, 1) := by decide +kernel
theorem dX10_meet_4 : decode cX10_meet 4 = .ok (.invokevirtual 185, 3) := by decide +kernel
theorem dX10_meet_7 : decode cX10_meet 7 = .ok (.istore 5, 2) := by decide +kernel
theorem dX10_meet_9 : decode cX10_meet 9 = .ok (.iload 5, 2) := by decide +kernel
theorem dX10_meet_11 : decode cX10_meet 11 = .ok (.ifCond .ge 49, 3) := by decide +kernel
theorem dX10_meet_14 : decode cX10_meet 14 = .ok (.aload_n 0, 1) := by decide +kernel
theorem dX10_meet_15 : decode cX10_meet 15 = .ok (.aload_n 0, 1) := by decide +kernel
theorem dX10_meet_16 : decode cX10_meet 16 = .ok (.getfield 61, 3) := by decide +kernel
theorem dX10_meet_19 : decode cX10_meet 19 = .ok (.bipush 6, 2) := by decide +kernel
theorem dX10_meet_21 : decode cX10_meet 21 = .ok (.iload 4, 2) := by decide +kernel
theorem dX10_meet_23 : decode cX10_meet 23 = .ok (.imul, 1) := by decide +kernel
theorem dX10_meet_24 : decode cX10_meet 24 = .ok (.iload_n 2, 1) := by decide +kernel
theorem dX10_meet_25 : decode cX10_meet 25 = .ok (.iadd, 1) := by decide +kernel
theorem dX10_meet_26 : decode cX10_meet 26 = .ok (.iaload, 1) := by decide +kernel
theorem dX10_meet_27 : decode cX10_meet 27 = .ok (.invokevirtual 188, 3) := by decide +kernel
theorem dX10_meet_30 : decode cX10_meet 30 = .ok (.ifCond .ne 22, 3) := by decide +kernel
theorem dX10_meet_33 : decode cX10_meet 33 = .ok (.aload_n 0, 1) := by decide +kernel
theorem dX10_meet_34 : decode cX10_meet 34 = .ok (.aload_n 0, 1) := by decide +kernel
theorem dX10_meet_35 : decode cX10_meet 35 = .ok (.getfield 61, 3) := by decide +kernel
theorem dX10_meet_38 : decode cX10_meet 38 = .ok (.bipush 6, 2) := by decide +kernel
theorem dX10_meet_40 : decode cX10_meet 40 = .ok (.iload 4, 2) := by decide +kernel
theorem dX10_meet_42 : decode cX10_meet 42 = .ok (.imul, 1) := by decide +kernel
theorem dX10_meet_43 : decode cX10_meet 43 = .ok (.iload_n 3, 1) := by decide +kernel
theorem dX10_meet_44 : decode cX10_meet 44 = .ok (.iadd, 1) := by decide +kernel
theorem dX10_meet_45 : decode cX10_meet 45 = .ok (.iaload, 1) := by decide +kernel
theorem dX10_meet_46 : decode cX10_meet 46 = .ok (.invokevirtual 188, 3) := by decide +kernel
theorem dX10_meet_49 : decode cX10_meet 49 = .ok (.ifCond .eq 7, 3) := by decide +kernel
theorem dX10_meet_52 : decode cX10_meet 52 = .ok (.iconst 1, 1) := by decide +kernel
theorem dX10_meet_53 : decode cX10_meet 53 = .ok (.goto 24, 3) := by decide +kernel
theorem dX10_meet_56 : decode cX10_meet 56 = .ok (.iconst 0, 1) := by decide +kernel
theorem dX10_meet_57 : decode cX10_meet 57 = .ok (.goto 20, 3) := by decide +kernel
theorem dX10_meet_60 : decode cX10_meet 60 = .ok (.aload_n 0, 1) := by decide +kernel
theorem dX10_meet_61 : decode cX10_meet 61 = .ok (.aload_n 0, 1) := by decide +kernel
theorem dX10_meet_62 : decode cX10_meet 62 = .ok (.getfield 61, 3) := by decide +kernel
theorem dX10_meet_65 : decode cX10_meet 65 = .ok (.bipush 6, 2) := by decide +kernel
theorem dX10_meet_67 : decode cX10_meet 67 = .ok (.iload 4, 2) := by decide +kernel
theorem dX10_meet_69 : decode cX10_meet 69 = .ok (.imul, 1) := by decide +kernel
theorem dX10_meet_70 : decode cX10_meet 70 = .ok (.iload 5, 2) := by decide +kernel
theorem dX10_meet_72 : decode cX10_meet 72 = .ok (.iadd, 1) := by decide +kernel
theorem dX10_meet_73 : decode cX10_meet 73 = .ok (.iaload, 1) := by decide +kernel
theorem dX10_meet_74 : decode cX10_meet 74 = .ok (.invokevirtual 188, 3) := by decide +kernel
theorem dX10_meet_77 : decode cX10_meet 77 = .ok (.istore 6, 2) := by decide +kernel
theorem dX10_meet_79 : decode cX10_meet 79 = .ok (.iload 6, 2) := by decide +kernel
theorem dX10_meet_81 : decode cX10_meet 81 = .ok (.ifCond .eq 7, 3) := by decide +kernel
theorem dX10_meet_84 : decode cX10_meet 84 = .ok (.iconst 3, 1) := by decide +kernel
theorem dX10_meet_85 : decode cX10_meet 85 = .ok (.goto 4, 3) := by decide +kernel
theorem dX10_meet_88 : decode cX10_meet 88 = .ok (.iconst 0, 1) := by decide +kernel
theorem dX10_meet_89 : decode cX10_meet 89 = .ok (.istore 7, 2) := by decide +kernel
theorem dX10_meet_91 : decode cX10_meet 91 = .ok (.iload 5, 2) := by decide +kernel
theorem dX10_meet_93 : decode cX10_meet 93 = .ok (.ifCond .ge 12, 3) := by decide +kernel
theorem dX10_meet_96 : decode cX10_meet 96 = .ok (.aload_n 0, 1) := by decide +kernel
theorem dX10_meet_97 : decode cX10_meet 97 = .ok (.getfield 40, 3) := by decide +kernel
theorem dX10_meet_100 : decode cX10_meet 100 = .ok (.iconst 1, 1) := by decide +kernel
theorem dX10_meet_101 : decode cX10_meet 101 = .ok (.iaload, 1) := by decide +kernel
theorem dX10_meet_102 : decode cX10_meet 102 = .ok (.goto 26, 3) := by decide +kernel
theorem dX10_meet_105 : decode cX10_meet 105 = .ok (.iload 5, 2) := by decide +kernel
theorem dX10_meet_107 : decode cX10_meet 107 = .ok (.iload_n 2, 1) := by decide +kernel
theorem dX10_meet_108 : decode cX10_meet 108 = .ok (.if_icmp .ne 19, 3) := by decide +kernel
theorem dX10_meet_111 : decode cX10_meet 111 = .ok (.aload_n 0, 1) := by decide +kernel
theorem dX10_meet_112 : decode cX10_meet 112 = .ok (.getfield 40, 3) := by decide +kernel
theorem dX10_meet_115 : decode cX10_meet 115 = .ok (.iconst 0, 1) := by decide +kernel
theorem dX10_meet_116 : decode cX10_meet 116 = .ok (.iaload, 1) := by decide +kernel
theorem dX10_meet_117 : decode cX10_meet 117 = .ok (.aload_n 0, 1) := by decide +kernel
theorem dX10_meet_118 : decode cX10_meet 118 = .ok (.getfield 43, 3) := by decide +kernel
theorem dX10_meet_121 : decode cX10_meet 121 = .ok (.iload_n 2, 1) := by decide +kernel
theorem dX10_meet_122 : decode cX10_meet 122 = .ok (.iaload, 1) := by decide +kernel
theorem dX10_meet_123 : decode cX10_meet 123 = .ok (.iadd, 1) := by decide +kernel
theorem dX10_meet_124 : decode cX10_meet 124 = .ok (.goto 4, 3) := by decide +kernel
theorem dX10_meet_127 : decode cX10_meet 127 = .ok (.iconst 0, 1) := by decide +kernel
theorem dX10_meet_128 : decode cX10_meet 128 = .ok (.istore 8, 2) := by decide +kernel
theorem dX10_meet_130 : decode cX10_meet 130 = .ok (.iload 5, 2) := by decide +kernel
theorem dX10_meet_132 : decode cX10_meet 132 = .ok (.ifCond .ge 12, 3) := by decide +kernel
theorem dX10_meet_135 : decode cX10_meet 135 = .ok (.aload_n 0, 1) := by decide +kernel
theorem dX10_meet_136 : decode cX10_meet 136 = .ok (.getfield 40, 3) := by decide +kernel
theorem dX10_meet_139 : decode cX10_meet 139 = .ok (.iconst 1, 1) := by decide +kernel
theorem dX10_meet_140 : decode cX10_meet 140 = .ok (.iaload, 1) := by decide +kernel
theorem dX10_meet_141 : decode cX10_meet 141 = .ok (.goto 26, 3) := by decide +kernel
theorem dX10_meet_144 : decode cX10_meet 144 = .ok (.iload 5, 2) := by decide +kernel
theorem dX10_meet_146 : decode cX10_meet 146 = .ok (.iload_n 3, 1) := by decide +kernel
theorem dX10_meet_147 : decode cX10_meet 147 = .ok (.if_icmp .ne 19, 3) := by decide +kernel
theorem dX10_meet_150 : decode cX10_meet 150 = .ok (.aload_n 0, 1) := by decide +kernel
theorem dX10_meet_151 : decode cX10_meet 151 = .ok (.getfield 40, 3) := by decide +kernel
theorem dX10_meet_154 : decode cX10_meet 154 = .ok (.iconst 0, 1) := by decide +kernel
theorem dX10_meet_155 : decode cX10_meet 155 = .ok (.iaload, 1) := by decide +kernel
theorem dX10_meet_156 : decode cX10_meet 156 = .ok (.aload_n 0, 1) := by decide +kernel
theorem dX10_meet_157 : decode cX10_meet 157 = .ok (.getfield 43, 3) := by decide +kernel
theorem dX10_meet_160 : decode cX10_meet 160 = .ok (.iload_n 3, 1) := by decide +kernel
theorem dX10_meet_161 : decode cX10_meet 161 = .ok (.iaload, 1) := by decide +kernel
theorem dX10_meet_162 : decode cX10_meet 162 = .ok (.iadd, 1) := by decide +kernel
theorem dX10_meet_163 : decode cX10_meet 163 = .ok (.goto 4, 3) := by decide +kernel
theorem dX10_meet_166 : decode cX10_meet 166 = .ok (.iconst 0, 1) := by decide +kernel
theorem dX10_meet_167 : decode cX10_meet 167 = .ok (.istore 9, 2) := by decide +kernel
theorem dX10_meet_169 : decode cX10_meet 169 = .ok (.aload_n 0, 1) := by decide +kernel
theorem dX10_meet_170 : decode cX10_meet 170 = .ok (.iload_n 2, 1) := by decide +kernel
theorem dX10_meet_171 : decode cX10_meet 171 = .ok (.iload 8, 2) := by decide +kernel
theorem dX10_meet_173 : decode cX10_meet 173 = .ok (.iload 7, 2) := by decide +kernel
theorem dX10_meet_175 : decode cX10_meet 175 = .ok (.iadd, 1) := by decide +kernel
theorem dX10_meet_176 : decode cX10_meet 176 = .ok (.iload 4, 2) := by decide +kernel
theorem dX10_meet_178 : decode cX10_meet 178 = .ok (.invokevirtual 191, 3) := by decide +kernel
theorem dX10_meet_181 : decode cX10_meet 181 = .ok (.aload_n 0, 1) := by decide +kernel
theorem dX10_meet_182 : decode cX10_meet 182 = .ok (.iload_n 3, 1) := by decide +kernel
theorem dX10_meet_183 : decode cX10_meet 183 = .ok (.iload 9, 2) := by decide +kernel
theorem dX10_meet_185 : decode cX10_meet 185 = .ok (.iload 7, 2) := by decide +kernel
theorem dX10_meet_187 : decode cX10_meet 187 = .ok (.iadd, 1) := by decide +kernel
theorem dX10_meet_188 : decode cX10_meet 188 = .ok (.iload 4, 2) := by decide +kernel
theorem dX10_meet_190 : decode cX10_meet 190 = .ok (.invokevirtual 191, 3) := by decide +kernel
theorem dX10_meet_193 : decode cX10_meet 193 = .ok (.aload_n 0, 1) := by decide +kernel
theorem dX10_meet_194 : decode cX10_meet 194 = .ok (.getfield 73, 3) := by decide +kernel
theorem dX10_meet_197 : decode cX10_meet 197 = .ok (.iload_n 2, 1) := by decide +kernel
theorem dX10_meet_198 : decode cX10_meet 198 = .ok (.dup2, 1) := by decide +kernel
theorem dX10_meet_199 : decode cX10_meet 199 = .ok (.iaload, 1) := by decide +kernel
theorem dX10_meet_200 : decode cX10_meet 200 = .ok (.iload 5, 2) := by decide +kernel
theorem dX10_meet_202 : decode cX10_meet 202 = .ok (.iload_n 2, 1) := by decide +kernel
theorem dX10_meet_203 : decode cX10_meet 203 = .ok (.if_icmp .ne 7, 3) := by decide +kernel
theorem dX10_meet_206 : decode cX10_meet 206 = .ok (.iconst 1, 1) := by decide +kernel
theorem dX10_meet_207 : decode cX10_meet 207 = .ok (.goto 4, 3) := by decide +kernel
theorem dX10_meet_210 : decode cX10_meet 210 = .ok (.iconst 0, 1) := by decide +kernel
theorem dX10_meet_211 : decode cX10_meet 211 = .ok (.iadd, 1) := by decide +kernel
theorem dX10_meet_212 : decode cX10_meet 212 = .ok (.iastore, 1) := by decide +kernel
theorem dX10_meet_213 : decode cX10_meet 213 = .ok (.aload_n 0, 1) := by decide +kernel
theorem dX10_meet_214 : decode cX10_meet 214 = .ok (.getfield 73, 3) := by decide +kernel
theorem dX10_meet_217 : decode cX10_meet 217 = .ok (.iload_n 3, 1) := by decide +kernel
theorem dX10_meet_218 : decode cX10_meet 218 = .ok (.dup2, 1) := by decide +kernel
theorem dX10_meet_219 : decode cX10_meet 219 = .ok (.iaload, 1) := by decide +kernel
theorem dX10_meet_220 : decode cX10_meet 220 = .ok (.iload 5, 2) := by decide +kernel
theorem dX10_meet_222 : decode cX10_meet 222 = .ok (.iload_n 3, 1) := by decide +kernel
theorem dX10_meet_223 : decode cX10_meet 223 = .ok (.if_icmp .ne 7, 3) := by decide +kernel
theorem dX10_meet_226 : decode cX10_meet 226 = .ok (.iconst 1, 1) := by decide +kernel
theorem dX10_meet_227 : decode cX10_meet 227 = .ok (.goto 4, 3) := by decide +kernel
theorem dX10_meet_230 : decode cX10_meet 230 = .ok (.iconst 0, 1) := by decide +kernel
theorem dX10_meet_231 : decode cX10_meet 231 = .ok (.iadd, 1) := by decide +kernel
theorem dX10_meet_232 : decode cX10_meet 232 = .ok (.iastore, 1) := by decide +kernel
theorem dX10_meet_233 : decode cX10_meet 233 = .ok (.aload_n 0, 1) := by decide +kernel
theorem dX10_meet_234 : decode cX10_meet 234 = .ok (.getfield 79, 3) := by decide +kernel
theorem dX10_meet_237 : decode cX10_meet 237 = .ok (.aload_n 0, 1) := by decide +kernel
theorem dX10_meet_238 : decode cX10_meet 238 = .ok (.getfield 195, 3) := by decide +kernel
theorem dX10_meet_241 : decode cX10_meet 241 = .ok (.iload 4, 2) := by decide +kernel
theorem dX10_meet_243 : decode cX10_meet 243 = .ok (.iastore, 1) := by decide +kernel
theorem dX10_meet_244 : decode cX10_meet 244 = .ok (.aload_n 0, 1) := by decide +kernel
theorem dX10_meet_245 : decode cX10_meet 245 = .ok (.getfield 82, 3) := by decide +kernel
theorem dX10_meet_248 : decode cX10_meet 248 = .ok (.aload_n 0, 1) := by decide +kernel
theorem dX10_meet_249 : decode cX10_meet 249 = .ok (.getfield 195, 3) := by decide +kernel
theorem dX10_meet_252 : decode cX10_meet 252 = .ok (.bipush 8, 2) := by decide +kernel
theorem dX10_meet_254 : decode cX10_meet 254 = .ok (.iload_n 2, 1) := by decide +kernel
theorem dX10_meet_255 : decode cX10_meet 255 = .ok (.imul, 1) := by decide +kernel
theorem dX10_meet_256 : decode cX10_meet 256 = .ok (.iload_n 3, 1) := by decide +kernel
theorem dX10_meet_257 : decode cX10_meet 257 = .ok (.iadd, 1) := by decide +kernel
theorem dX10_meet_258 : decode cX10_meet 258 = .ok (.iastore, 1) := by decide +kernel
theorem dX10_meet_259 : decode cX10_meet 259 = .ok (.aload_n 0, 1) := by decide +kernel
theorem dX10_meet_260 : decode cX10_meet 260 = .ok (.getfield 85, 3) := by decide +kernel
theorem dX10_meet_263 : decode cX10_meet 263 = .ok (.aload_n 0, 1) := by decide +kernel
theorem dX10_meet_264 : decode cX10_meet 264 = .ok (.getfield 195, 3) := by decide +kernel
theorem dX10_meet_267 : decode cX10_meet 267 = .ok (.iload 5, 2) := by decide +kernel
theorem dX10_meet_269 : decode cX10_meet 269 = .ok (.iastore, 1) := by decide +kernel
theorem dX10_meet_270 : decode cX10_meet 270 = .ok (.aload_n 0, 1) := by decide +kernel
theorem dX10_meet_271 : decode cX10_meet 271 = .ok (.getfield 88, 3) := by decide +kernel
theorem dX10_meet_274 : decode cX10_meet 274 = .ok (.aload_n 0, 1) := by decide +kernel
theorem dX10_meet_275 : decode cX10_meet 275 = .ok (.getfield 195, 3) := by decide +kernel
theorem dX10_meet_278 : decode cX10_meet 278 = .ok (.aload_n 0, 1) := by decide +kernel
theorem dX10_meet_279 : decode cX10_meet 279 = .ok (.getfield 61, 3) := by decide +kernel
theorem dX10_meet_282 : decode cX10_meet 282 = .ok (.bipush 6, 2) := by decide +kernel
theorem dX10_meet_284 : decode cX10_meet 284 = .ok (.iload 4, 2) := by decide +kernel
theorem dX10_meet_286 : decode cX10_meet 286 = .ok (.imul, 1) := by decide +kernel
theorem dX10_meet_287 : decode cX10_meet 287 = .ok (.aload_n 0, 1) := by decide +kernel
theorem dX10_meet_288 : decode cX10_meet 288 = .ok (.getfield 19, 3) := by decide +kernel
theorem dX10_meet_291 : decode cX10_meet 291 = .ok (.iload_n 2, 1) := by decide +kernel
theorem dX10_meet_292 : decode cX10_meet 292 = .ok (.iaload, 1) := by decide +kernel
theorem dX10_meet_293 : decode cX10_meet 293 = .ok (.ifCond .ne 7, 3) := by decide +kernel
theorem dX10_meet_296 : decode cX10_meet 296 = .ok (.iload_n 2, 1) := by decide +kernel
theorem dX10_meet_297 : decode cX10_meet 297 = .ok (.goto 4, 3) := by decide +kernel
theorem dX10_meet_300 : decode cX10_meet 300 = .ok (.iload_n 3, 1) := by decide +kernel
theorem dX10_meet_301 : decode cX10_meet 301 = .ok (.iadd, 1) := by decide +kernel
theorem dX10_meet_302 : decode cX10_meet 302 = .ok (.iaload, 1) := by decide +kernel
theorem dX10_meet_303 : decode cX10_meet 303 = .ok (.iastore, 1) := by decide +kernel
theorem dX10_meet_304 : decode cX10_meet 304 = .ok (.aload_n 0, 1) := by decide +kernel
theorem dX10_meet_305 : decode cX10_meet 305 = .ok (.dup, 1) := by decide +kernel
theorem dX10_meet_306 : decode cX10_meet 306 = .ok (.getfield 195, 3) := by decide +kernel
theorem dX10_meet_309 : decode cX10_meet 309 = .ok (.iconst 1, 1) := by decide +kernel
theorem dX10_meet_310 : decode cX10_meet 310 = .ok (.iadd, 1) := by decide +kernel
theorem dX10_meet_311 : decode cX10_meet 311 = .ok (.putfield 195, 3) := by decide +kernel
theorem dX10_meet_314 : decode cX10_meet 314 = .ok (.return_, 1) := by decide +kernel
theorem dX10_doMeet_0 : decode cX10_doMeet 0 = .ok (.aload_n 0, 1) := by decide +kernel
theorem dX10_doMeet_1 : decode cX10_doMeet 1 = .ok (.getfield 19, 3) := by decide +kernel
theorem dX10_doMeet_4 : decode cX10_doMeet 4 = .ok (.iload_n 1, 1) := by decide +kernel
theorem dX10_doMeet_5 : decode cX10_doMeet 5 = .ok (.iaload, 1) := by decide +kernel
theorem dX10_doMeet_6 : decode cX10_doMeet 6 = .ok (.ifCond .ne 7, 3) := by decide +kernel
theorem dX10_doMeet_9 : decode cX10_doMeet 9 = .ok (.iload_n 1, 1) := by decide +kernel
theorem dX10_doMeet_10 : decode cX10_doMeet 10 = .ok (.goto 4, 3) := by decide +kernel
theorem dX10_doMeet_13 : decode cX10_doMeet 13 = .ok (.iload_n 2, 1) := by decide +kernel
theorem dX10_doMeet_14 : decode cX10_doMeet 14 = .ok (.istore 4, 2) := by decide +kernel
theorem dX10_doMeet_16 : decode cX10_doMeet 16 = .ok (.aload_n 0, 1) := by decide +kernel
theorem dX10_doMeet_17 : decode cX10_doMeet 17 = .ok (.getfield 19, 3) := by decide +kernel
theorem dX10_doMeet_20 : decode cX10_doMeet 20 = .ok (.iload_n 1, 1) := by decide +kernel
theorem dX10_doMeet_21 : decode cX10_doMeet 21 = .ok (.iaload, 1) := by decide +kernel
theorem dX10_doMeet_22 : decode cX10_doMeet 22 = .ok (.ifCond .ne 7, 3) := by decide +kernel
theorem dX10_doMeet_25 : decode cX10_doMeet 25 = .ok (.iload_n 2, 1) := by decide +kernel
theorem dX10_doMeet_26 : decode cX10_doMeet 26 = .ok (.goto 4, 3) := by decide +kernel
theorem dX10_doMeet_29 : decode cX10_doMeet 29 = .ok (.iload_n 1, 1) := by decide +kernel
theorem dX10_doMeet_30 : decode cX10_doMeet 30 = .ok (.istore 5, 2) := by decide +kernel
theorem dX10_doMeet_32 : decode cX10_doMeet 32 = .ok (.aload_n 0, 1) := by decide +kernel
theorem dX10_doMeet_33 : decode cX10_doMeet 33 = .ok (.getfield 19, 3) := by decide +kernel
theorem dX10_doMeet_36 : decode cX10_doMeet 36 = .ok (.iload_n 1, 1) := by decide +kernel
theorem dX10_doMeet_37 : decode cX10_doMeet 37 = .ok (.iaload, 1) := by decide +kernel
theorem dX10_doMeet_38 : decode cX10_doMeet 38 = .ok (.aload_n 0, 1) := by decide +kernel
theorem dX10_doMeet_39 : decode cX10_doMeet 39 = .ok (.getfield 19, 3) := by decide +kernel
theorem dX10_doMeet_42 : decode cX10_doMeet 42 = .ok (.iload_n 2, 1) := by decide +kernel
theorem dX10_doMeet_43 : decode cX10_doMeet 43 = .ok (.iaload, 1) := by decide +kernel
theorem dX10_doMeet_44 : decode cX10_doMeet 44 = .ok (.if_icmp .eq 25, 3) := by decide +kernel
theorem dX10_doMeet_47 : decode cX10_doMeet 47 = .ok (.aload_n 0, 1) := by decide +kernel
theorem dX10_doMeet_48 : decode cX10_doMeet 48 = .ok (.getfield 67, 3) := by decide +kernel
theorem dX10_doMeet_51 : decode cX10_doMeet 51 = .ok (.iload_n 1, 1) := by decide +kernel
theorem dX10_doMeet_52 : decode cX10_doMeet 52 = .ok (.iaload, 1) := by decide +kernel
theorem dX10_doMeet_53 : decode cX10_doMeet 53 = .ok (.ifCond .ge 16, 3) := by decide +kernel
theorem dX10_doMeet_56 : decode cX10_doMeet 56 = .ok (.aload_n 0, 1) := by decide +kernel
theorem dX10_doMeet_57 : decode cX10_doMeet 57 = .ok (.getfield 67, 3) := by decide +kernel
theorem dX10_doMeet_60 : decode cX10_doMeet 60 = .ok (.iload_n 2, 1) := by decide +kernel
theorem dX10_doMeet_61 : decode cX10_doMeet 61 = .ok (.iaload, 1) := by decide +kernel
theorem dX10_doMeet_62 : decode cX10_doMeet 62 = .ok (.ifCond .ge 7, 3) := by decide +kernel
theorem dX10_doMeet_65 : decode cX10_doMeet 65 = .ok (.iconst 1, 1) := by decide +kernel
theorem dX10_doMeet_66 : decode cX10_doMeet 66 = .ok (.goto 4, 3) := by decide +kernel
theorem dX10_doMeet_69 : decode cX10_doMeet 69 = .ok (.iconst 0, 1) := by decide +kernel
theorem dX10_doMeet_70 : decode cX10_doMeet 70 = .ok (.istore 6, 2) := by decide +kernel
theorem dX10_doMeet_72 : decode cX10_doMeet 72 = .ok (.iload 6, 2) := by decide +kernel
theorem dX10_doMeet_74 : decode cX10_doMeet 74 = .ok (.ifCond .eq 67, 3) := by decide +kernel
theorem dX10_doMeet_77 : decode cX10_doMeet 77 = .ok (.aload_n 0, 1) := by decide +kernel
theorem dX10_doMeet_78 : decode cX10_doMeet 78 = .ok (.getfield 61, 3) := by decide +kernel
theorem dX10_doMeet_81 : decode cX10_doMeet 81 = .ok (.bipush 6, 2) := by decide +kernel
theorem dX10_doMeet_83 : decode cX10_doMeet 83 = .ok (.iload_n 3, 1) := by decide +kernel
theorem dX10_doMeet_84 : decode cX10_doMeet 84 = .ok (.imul, 1) := by decide +kernel
theorem dX10_doMeet_85 : decode cX10_doMeet 85 = .ok (.bipush 6, 2) := by decide +kernel
theorem dX10_doMeet_87 : decode cX10_doMeet 87 = .ok (.isub, 1) := by decide +kernel
theorem dX10_doMeet_88 : decode cX10_doMeet 88 = .ok (.iload 4, 2) := by decide +kernel
theorem dX10_doMeet_90 : decode cX10_doMeet 90 = .ok (.iadd, 1) := by decide +kernel
theorem dX10_doMeet_91 : decode cX10_doMeet 91 = .ok (.iaload, 1) := by decide +kernel
theorem dX10_doMeet_92 : decode cX10_doMeet 92 = .ok (.aload_n 0, 1) := by decide +kernel
theorem dX10_doMeet_93 : decode cX10_doMeet 93 = .ok (.getfield 61, 3) := by decide +kernel
theorem dX10_doMeet_96 : decode cX10_doMeet 96 = .ok (.bipush 6, 2) := by decide +kernel
theorem dX10_doMeet_98 : decode cX10_doMeet 98 = .ok (.iload_n 3, 1) := by decide +kernel
theorem dX10_doMeet_99 : decode cX10_doMeet 99 = .ok (.imul, 1) := by decide +kernel
theorem dX10_doMeet_100 : decode cX10_doMeet 100 = .ok (.bipush 6, 2) := by decide +kernel
theorem dX10_doMeet_102 : decode cX10_doMeet 102 = .ok (.isub, 1) := by decide +kernel
theorem dX10_doMeet_103 : decode cX10_doMeet 103 = .ok (.iload 5, 2) := by decide +kernel
theorem dX10_doMeet_105 : decode cX10_doMeet 105 = .ok (.iadd, 1) := by decide +kernel
theorem dX10_doMeet_106 : decode cX10_doMeet 106 = .ok (.iaload, 1) := by decide +kernel
theorem dX10_doMeet_107 : decode cX10_doMeet 107 = .ok (.if_icmp .ge 34, 3) := by decide +kernel
theorem dX10_doMeet_110 : decode cX10_doMeet 110 = .ok (.aload_n 0, 1) := by decide +kernel
theorem dX10_doMeet_111 : decode cX10_doMeet 111 = .ok (.getfield 61, 3) := by decide +kernel
theorem dX10_doMeet_114 : decode cX10_doMeet 114 = .ok (.bipush 6, 2) := by decide +kernel
theorem dX10_doMeet_116 : decode cX10_doMeet 116 = .ok (.iload_n 3, 1) := by decide +kernel
theorem dX10_doMeet_117 : decode cX10_doMeet 117 = .ok (.imul, 1) := by decide +kernel
theorem dX10_doMeet_118 : decode cX10_doMeet 118 = .ok (.iload 4, 2) := by decide +kernel
theorem dX10_doMeet_120 : decode cX10_doMeet 120 = .ok (.iadd, 1) := by decide +kernel
theorem dX10_doMeet_121 : decode cX10_doMeet 121 = .ok (.iaload, 1) := by decide +kernel
theorem dX10_doMeet_122 : decode cX10_doMeet 122 = .ok (.aload_n 0, 1) := by decide +kernel
theorem dX10_doMeet_123 : decode cX10_doMeet 123 = .ok (.getfield 61, 3) := by decide +kernel
theorem dX10_doMeet_126 : decode cX10_doMeet 126 = .ok (.bipush 6, 2) := by decide +kernel
theorem dX10_doMeet_128 : decode cX10_doMeet 128 = .ok (.iload_n 3, 1) := by decide +kernel
theorem dX10_doMeet_129 : decode cX10_doMeet 129 = .ok (.imul, 1) := by decide +kernel
theorem dX10_doMeet_130 : decode cX10_doMeet 130 = .ok (.iload 5, 2) := by decide +kernel
theorem dX10_doMeet_132 : decode cX10_doMeet 132 = .ok (.iadd, 1) := by decide +kernel
theorem dX10_doMeet_133 : decode cX10_doMeet 133 = .ok (.iaload, 1) := by decide +kernel
theorem dX10_doMeet_134 : decode cX10_doMeet 134 = .ok (.if_icmp .lt 7, 3) := by decide +kernel
theorem dX10_doMeet_137 : decode cX10_doMeet 137 = .ok (.iconst 1, 1) := by decide +kernel
theorem dX10_doMeet_138 : decode cX10_doMeet 138 = .ok (.goto 4, 3) := by decide +kernel
theorem dX10_doMeet_141 : decode cX10_doMeet 141 = .ok (.iconst 0, 1) := by decide +kernel
theorem dX10_doMeet_142 : decode cX10_doMeet 142 = .ok (.ireturn, 1) := by decide +kernel
theorem dX10_goMinute_0 : decode cX10_goMinute 0 = .ok (.iconst 0, 1) := by decide +kernel
theorem dX10_goMinute_1 : decode cX10_goMinute 1 = .ok (.istore_n 3, 1) := by decide +kernel
theorem dX10_goMinute_2 : decode cX10_goMinute 2 = .ok (.iload_n 3, 1) := by decide +kernel
theorem dX10_goMinute_3 : decode cX10_goMinute 3 = .ok (.aload_n 0, 1) := by decide +kernel
theorem dX10_goMinute_4 : decode cX10_goMinute 4 = .ok (.getfield 13, 3) := by decide +kernel
theorem dX10_goMinute_7 : decode cX10_goMinute 7 = .ok (.iconst 0, 1) := by decide +kernel
theorem dX10_goMinute_8 : decode cX10_goMinute 8 = .ok (.iaload, 1) := by decide +kernel
theorem dX10_goMinute_9 : decode cX10_goMinute 9 = .ok (.if_icmp .ge 149, 3) := by decide +kernel
theorem dX10_goMinute_12 : decode cX10_goMinute 12 = .ok (.aload_n 0, 1) := by decide +kernel
