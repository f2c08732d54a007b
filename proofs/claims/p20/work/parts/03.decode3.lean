theorem dX5_highest_62 : decode cX5_highest 62 = .ok (.iconst 4, 1) := by decide +kernel
theorem dX5_highest_63 : decode cX5_highest 63 = .ok (.iaload, 1) := by decide +kernel
theorem dX5_highest_64 : decode cX5_highest 64 = .ok (.if_icmp .lt 7, 3) := by decide +kernel
theorem dX5_highest_67 : decode cX5_highest 67 = .ok (.iload 5, 2) := by decide +kernel
theorem dX5_highest_69 : decode cX5_highest 69 = .ok (.istore 4, 2) := by decide +kernel
theorem dX5_highest_71 : decode cX5_highest 71 = .ok (.iinc 5 (-1), 3) := by decide +kernel
theorem dX5_highest_74 : decode cX5_highest 74 = .ok (.goto (-62), 3) := by decide +kernel
theorem dX5_highest_77 : decode cX5_highest 77 = .ok (.iload 4, 2) := by decide +kernel
theorem dX5_highest_79 : decode cX5_highest 79 = .ok (.ireturn, 1) := by decide +kernel
theorem dX5_hour_0 : decode cX5_hour 0 = .ok (.bipush 25, 2) := by decide +kernel
theorem dX5_hour_2 : decode cX5_hour 2 = .ok (.bipush 24, 2) := by decide +kernel
theorem dX5_hour_4 : decode cX5_hour 4 = .ok (.multianewarray 18 2, 4) := by decide +kernel
theorem dX5_hour_8 : decode cX5_hour 8 = .ok (.astore_n 2, 1) := by decide +kernel
theorem dX5_hour_9 : decode cX5_hour 9 = .ok (.aload_n 2, 1) := by decide +kernel
theorem dX5_hour_10 : decode cX5_hour 10 = .ok (.bipush 24, 2) := by decide +kernel
theorem dX5_hour_12 : decode cX5_hour 12 = .ok (.aload_n 0, 1) := by decide +kernel
theorem dX5_hour_13 : decode cX5_hour 13 = .ok (.getfield 9, 3) := by decide +kernel
theorem dX5_hour_16 : decode cX5_hour 16 = .ok (.arraylength, 1) := by decide +kernel
theorem dX5_hour_17 : decode cX5_hour 17 = .ok (.iconst 1, 1) := by decide +kernel
theorem dX5_hour_18 : decode cX5_hour 18 = .ok (.iadd, 1) := by decide +kernel
theorem dX5_hour_19 : decode cX5_hour 19 = .ok (.newarray .int, 2) := by decide +kernel
theorem dX5_hour_21 : decode cX5_hour 21 = .ok (.aastore, 1) := by decide +kernel
theorem dX5_hour_22 : decode cX5_hour 22 = .ok (.aload_n 2, 1) := by decide +kernel
theorem dX5_hour_23 : decode cX5_hour 23 = .ok (.bipush 24, 2) := by decide +kernel
theorem dX5_hour_25 : decode cX5_hour 25 = .ok (.aaload, 1) := by decide +kernel
theorem dX5_hour_26 : decode cX5_hour 26 = .ok (.astore_n 3, 1) := by decide +kernel
theorem dX5_hour_27 : decode cX5_hour 27 = .ok (.iconst 0, 1) := by decide +kernel
theorem dX5_hour_28 : decode cX5_hour 28 = .ok (.istore 4, 2) := by decide +kernel
theorem dX5_hour_30 : decode cX5_hour 30 = .ok (.iload 4, 2) := by decide +kernel
theorem dX5_hour_32 : decode cX5_hour 32 = .ok (.bipush 24, 2) := by decide +kernel
theorem dX5_hour_34 : decode cX5_hour 34 = .ok (.if_icmp .ge 64, 3) := by decide +kernel
theorem dX5_hour_37 : decode cX5_hour 37 = .ok (.iconst 0, 1) := by decide +kernel
theorem dX5_hour_38 : decode cX5_hour 38 = .ok (.istore 5, 2) := by decide +kernel
theorem dX5_hour_40 : decode cX5_hour 40 = .ok (.iload 5, 2) := by decide +kernel
theorem dX5_hour_42 : decode cX5_hour 42 = .ok (.bipush 24, 2) := by decide +kernel
theorem dX5_hour_44 : decode cX5_hour 44 = .ok (.if_icmp .ge 48, 3) := by decide +kernel
theorem dX5_hour_47 : decode cX5_hour 47 = .ok (.aload_n 0, 1) := by decide +kernel
theorem dX5_hour_48 : decode cX5_hour 48 = .ok (.iload 4, 2) := by decide +kernel
theorem dX5_hour_50 : decode cX5_hour 50 = .ok (.iload 5, 2) := by decide +kernel
theorem dX5_hour_52 : decode cX5_hour 52 = .ok (.bipush 10, 2) := by decide +kernel
theorem dX5_hour_54 : decode cX5_hour 54 = .ok (.invokevirtual 30, 3) := by decide +kernel
theorem dX5_hour_57 : decode cX5_hour 57 = .ok (.istore 6, 2) := by decide +kernel
theorem dX5_hour_59 : decode cX5_hour 59 = .ok (.iload 6, 2) := by decide +kernel
theorem dX5_hour_61 : decode cX5_hour 61 = .ok (.ifCond .ge 17, 3) := by decide +kernel
theorem dX5_hour_64 : decode cX5_hour 64 = .ok (.aload_n 2, 1) := by decide +kernel
theorem dX5_hour_65 : decode cX5_hour 65 = .ok (.iload 4, 2) := by decide +kernel
theorem dX5_hour_67 : decode cX5_hour 67 = .ok (.aaload, 1) := by decide +kernel
theorem dX5_hour_68 : decode cX5_hour 68 = .ok (.iload 5, 2) := by decide +kernel
theorem dX5_hour_70 : decode cX5_hour 70 = .ok (.dup2, 1) := by decide +kernel
theorem dX5_hour_71 : decode cX5_hour 71 = .ok (.iaload, 1) := by decide +kernel
theorem dX5_hour_72 : decode cX5_hour 72 = .ok (.iload_n 1, 1) := by decide +kernel
theorem dX5_hour_73 : decode cX5_hour 73 = .ok (.iadd, 1) := by decide +kernel
theorem dX5_hour_74 : decode cX5_hour 74 = .ok (.iastore, 1) := by decide +kernel
theorem dX5_hour_75 : decode cX5_hour 75 = .ok (.goto 11, 3) := by decide +kernel
theorem dX5_hour_78 : decode cX5_hour 78 = .ok (.aload_n 3, 1) := by decide +kernel
theorem dX5_hour_79 : decode cX5_hour 79 = .ok (.iload 6, 2) := by decide +kernel
theorem dX5_hour_81 : decode cX5_hour 81 = .ok (.dup2, 1) := by decide +kernel
theorem dX5_hour_82 : decode cX5_hour 82 = .ok (.iaload, 1) := by decide +kernel
theorem dX5_hour_83 : decode cX5_hour 83 = .ok (.iload_n 1, 1) := by decide +kernel
theorem dX5_hour_84 : decode cX5_hour 84 = .ok (.iadd, 1) := by decide +kernel
theorem dX5_hour_85 : decode cX5_hour 85 = .ok (.iastore, 1) := by decide +kernel
theorem dX5_hour_86 : decode cX5_hour 86 = .ok (.iinc 5 1, 3) := by decide +kernel
theorem dX5_hour_89 : decode cX5_hour 89 = .ok (.goto (-49), 3) := by decide +kernel
theorem dX5_hour_92 : decode cX5_hour 92 = .ok (.iinc 4 1, 3) := by decide +kernel
theorem dX5_hour_95 : decode cX5_hour 95 = .ok (.goto (-65), 3) := by decide +kernel
theorem dX5_hour_98 : decode cX5_hour 98 = .ok (.bipush 9, 2) := by decide +kernel
theorem dX5_hour_100 : decode cX5_hour 100 = .ok (.istore 4, 2) := by decide +kernel
theorem dX5_hour_102 : decode cX5_hour 102 = .ok (.iload 4, 2) := by decide +kernel
theorem dX5_hour_104 : decode cX5_hour 104 = .ok (.ifCond .le 303, 3) := by decide +kernel
theorem dX5_hour_107 : decode cX5_hour 107 = .ok (.iconst 0, 1) := by decide +kernel
theorem dX5_hour_108 : decode cX5_hour 108 = .ok (.istore 5, 2) := by decide +kernel
theorem dX5_hour_110 : decode cX5_hour 110 = .ok (.iload 5, 2) := by decide +kernel
theorem dX5_hour_112 : decode cX5_hour 112 = .ok (.aload_n 0, 1) := by decide +kernel
theorem dX5_hour_113 : decode cX5_hour 113 = .ok (.getfield 9, 3) := by decide +kernel
theorem dX5_hour_116 : decode cX5_hour 116 = .ok (.arraylength, 1) := by decide +kernel
theorem dX5_hour_117 : decode cX5_hour 117 = .ok (.if_icmp .ge 284, 3) := by decide +kernel
theorem dX5_hour_120 : decode cX5_hour 120 = .ok (.aload_n 0, 1) := by decide +kernel
theorem dX5_hour_121 : decode cX5_hour 121 = .ok (.getfield 9, 3) := by decide +kernel
theorem dX5_hour_124 : decode cX5_hour 124 = .ok (.iload 5, 2) := by decide +kernel
theorem dX5_hour_126 : decode cX5_hour 126 = .ok (.aaload, 1) := by decide +kernel
theorem dX5_hour_127 : decode cX5_hour 127 = .ok (.astore 6, 2) := by decide +kernel
theorem dX5_hour_129 : decode cX5_hour 129 = .ok (.aload 6, 2) := by decide +kernel
theorem dX5_hour_131 : decode cX5_hour 131 = .ok (.iconst 4, 1) := by decide +kernel
theorem dX5_hour_132 : decode cX5_hour 132 = .ok (.iaload, 1) := by decide +kernel
theorem dX5_hour_133 : decode cX5_hour 133 = .ok (.iload 4, 2) := by decide +kernel
theorem dX5_hour_135 : decode cX5_hour 135 = .ok (.if_icmp .ne 260, 3) := by decide +kernel
theorem dX5_hour_138 : decode cX5_hour 138 = .ok (.aload 6, 2) := by decide +kernel
theorem dX5_hour_140 : decode cX5_hour 140 = .ok (.bipush 6, 2) := by decide +kernel
theorem dX5_hour_142 : decode cX5_hour 142 = .ok (.iaload, 1) := by decide +kernel
theorem dX5_hour_143 : decode cX5_hour 143 = .ok (.ifCond .ne 6, 3) := by decide +kernel
theorem dX5_hour_146 : decode cX5_hour 146 = .ok (.goto 249, 3) := by decide +kernel
theorem dX5_hour_149 : decode cX5_hour 149 = .ok (.aload 6, 2) := by decide +kernel
theorem dX5_hour_151 : decode cX5_hour 151 = .ok (.iconst 5, 1) := by decide +kernel
theorem dX5_hour_152 : decode cX5_hour 152 = .ok (.iaload, 1) := by decide +kernel
theorem dX5_hour_153 : decode cX5_hour 153 = .ok (.ifCond .eq 11, 3) := by decide +kernel
theorem dX5_hour_156 : decode cX5_hour 156 = .ok (.aload 6, 2) := by decide +kernel
theorem dX5_hour_158 : decode cX5_hour 158 = .ok (.iconst 5, 1) := by decide +kernel
theorem dX5_hour_159 : decode cX5_hour 159 = .ok (.iaload, 1) := by decide +kernel
theorem dX5_hour_160 : decode cX5_hour 160 = .ok (.iconst 2, 1) := by decide +kernel
theorem dX5_hour_161 : decode cX5_hour 161 = .ok (.if_icmp .ne 10, 3) := by decide +kernel
theorem dX5_hour_164 : decode cX5_hour 164 = .ok (.aload 6, 2) := by decide +kernel
theorem dX5_hour_166 : decode cX5_hour 166 = .ok (.iconst 3, 1) := by decide +kernel
theorem dX5_hour_167 : decode cX5_hour 167 = .ok (.iaload, 1) := by decide +kernel
theorem dX5_hour_168 : decode cX5_hour 168 = .ok (.goto 7, 3) := by decide +kernel
theorem dX5_hour_171 : decode cX5_hour 171 = .ok (.aload 6, 2) := by decide +kernel
theorem dX5_hour_173 : decode cX5_hour 173 = .ok (.iconst 2, 1) := by decide +kernel
theorem dX5_hour_174 : decode cX5_hour 174 = .ok (.iaload, 1) := by decide +kernel
theorem dX5_hour_175 : decode cX5_hour 175 = .ok (.istore 7, 2) := by decide +kernel
theorem dX5_hour_177 : decode cX5_hour 177 = .ok (.aload_n 3, 1) := by decide +kernel
theorem dX5_hour_178 : decode cX5_hour 178 = .ok (.iload 5, 2) := by decide +kernel
theorem dX5_hour_180 : decode cX5_hour 180 = .ok (.iaload, 1) := by decide +kernel
theorem dX5_hour_181 : decode cX5_hour 181 = .ok (.istore 8, 2) := by decide +kernel
theorem dX5_hour_183 : decode cX5_hour 183 = .ok (.iconst 0, 1) := by decide +kernel
theorem dX5_hour_184 : decode cX5_hour 184 = .ok (.istore 9, 2) := by decide +kernel
theorem dX5_hour_186 : decode cX5_hour 186 = .ok (.iload 9, 2) := by decide +kernel
theorem dX5_hour_188 : decode cX5_hour 188 = .ok (.iload 7, 2) := by decide +kernel
theorem dX5_hour_190 : decode cX5_hour 190 = .ok (.if_icmp .ge 205, 3) := by decide +kernel
theorem dX5_hour_193 : decode cX5_hour 193 = .ok (.iload 8, 2) := by decide +kernel
theorem dX5_hour_195 : decode cX5_hour 195 = .ok (.iload 7, 2) := by decide +kernel
theorem dX5_hour_197 : decode cX5_hour 197 = .ok (.iadd, 1) := by decide +kernel
theorem dX5_hour_198 : decode cX5_hour 198 = .ok (.iload 9, 2) := by decide +kernel
theorem dX5_hour_200 : decode cX5_hour 200 = .ok (.isub, 1) := by decide +kernel
theorem dX5_hour_201 : decode cX5_hour 201 = .ok (.iconst 1, 1) := by decide +kernel
theorem dX5_hour_202 : decode cX5_hour 202 = .ok (.isub, 1) := by decide +kernel
theorem dX5_hour_203 : decode cX5_hour 203 = .ok (.iload 7, 2) := by decide +kernel
theorem dX5_hour_205 : decode cX5_hour 205 = .ok (.iload 9, 2) := by decide +kernel
theorem dX5_hour_207 : decode cX5_hour 207 = .ok (.isub, 1) := by decide +kernel
theorem dX5_hour_208 : decode cX5_hour 208 = .ok (.idiv, 1) := by decide +kernel
theorem dX5_hour_209 : decode cX5_hour 209 = .ok (.istore 10, 2) := by decide +kernel
theorem dX5_hour_211 : decode cX5_hour 211 = .ok (.iload 8, 2) := by decide +kernel
theorem dX5_hour_213 : decode cX5_hour 213 = .ok (.iload 10, 2) := by decide +kernel
theorem dX5_hour_215 : decode cX5_hour 215 = .ok (.isub, 1) := by decide +kernel
theorem dX5_hour_216 : decode cX5_hour 216 = .ok (.istore 8, 2) := by decide +kernel
theorem dX5_hour_218 : decode cX5_hour 218 = .ok (.aload 6, 2) := by decide +kernel
theorem dX5_hour_220 : decode cX5_hour 220 = .ok (.iconst 5, 1) := by decide +kernel
theorem dX5_hour_221 : decode cX5_hour 221 = .ok (.iaload, 1) := by decide +kernel
theorem dX5_hour_222 : decode cX5_hour 222 = .ok (.ifCond .ne 12, 3) := by decide +kernel
theorem dX5_hour_225 : decode cX5_hour 225 = .ok (.aload 6, 2) := by decide +kernel
theorem dX5_hour_227 : decode cX5_hour 227 = .ok (.iconst 0, 1) := by decide +kernel
theorem dX5_hour_228 : decode cX5_hour 228 = .ok (.iaload, 1) := by decide +kernel
theorem dX5_hour_229 : decode cX5_hour 229 = .ok (.iconst 1, 1) := by decide +kernel
theorem dX5_hour_230 : decode cX5_hour 230 = .ok (.isub, 1) := by decide +kernel
theorem dX5_hour_231 : decode cX5_hour 231 = .ok (.goto 30, 3) := by decide +kernel
theorem dX5_hour_234 : decode cX5_hour 234 = .ok (.aload 6, 2) := by decide +kernel
theorem dX5_hour_236 : decode cX5_hour 236 = .ok (.iconst 5, 1) := by decide +kernel
theorem dX5_hour_237 : decode cX5_hour 237 = .ok (.iaload, 1) := by decide +kernel
theorem dX5_hour_238 : decode cX5_hour 238 = .ok (.iconst 2, 1) := by decide +kernel
theorem dX5_hour_239 : decode cX5_hour 239 = .ok (.if_icmp .ne 15, 3) := by decide +kernel
theorem dX5_hour_242 : decode cX5_hour 242 = .ok (.aload 6, 2) := by decide +kernel
theorem dX5_hour_244 : decode cX5_hour 244 = .ok (.iconst 0, 1) := by decide +kernel
theorem dX5_hour_245 : decode cX5_hour 245 = .ok (.iaload, 1) := by decide +kernel
theorem dX5_hour_246 : decode cX5_hour 246 = .ok (.aload 6, 2) := by decide +kernel
theorem dX5_hour_248 : decode cX5_hour 248 = .ok (.iconst 2, 1) := by decide +kernel
theorem dX5_hour_249 : decode cX5_hour 249 = .ok (.iaload, 1) := by decide +kernel
theorem dX5_hour_250 : decode cX5_hour 250 = .ok (.iadd, 1) := by decide +kernel
theorem dX5_hour_251 : decode cX5_hour 251 = .ok (.goto 10, 3) := by decide +kernel
theorem dX5_hour_254 : decode cX5_hour 254 = .ok (.aload 6, 2) := by decide +kernel
theorem dX5_hour_256 : decode cX5_hour 256 = .ok (.iconst 0, 1) := by decide +kernel
theorem dX5_hour_257 : decode cX5_hour 257 = .ok (.iaload, 1) := by decide +kernel
theorem dX5_hour_258 : decode cX5_hour 258 = .ok (.iload 9, 2) := by decide +kernel
theorem dX5_hour_260 : decode cX5_hour 260 = .ok (.iadd, 1) := by decide +kernel
theorem dX5_hour_261 : decode cX5_hour 261 = .ok (.istore 11, 2) := by decide +kernel
theorem dX5_hour_263 : decode cX5_hour 263 = .ok (.aload 6, 2) := by decide +kernel
theorem dX5_hour_265 : decode cX5_hour 265 = .ok (.iconst 5, 1) := by decide +kernel
theorem dX5_hour_266 : decode cX5_hour 266 = .ok (.iaload, 1) := by decide +kernel
theorem dX5_hour_267 : decode cX5_hour 267 = .ok (.iconst 1, 1) := by decide +kernel
theorem dX5_hour_268 : decode cX5_hour 268 = .ok (.if_icmp .ne 12, 3) := by decide +kernel
theorem dX5_hour_271 : decode cX5_hour 271 = .ok (.aload 6, 2) := by decide +kernel
theorem dX5_hour_273 : decode cX5_hour 273 = .ok (.iconst 1, 1) := by decide +kernel
theorem dX5_hour_274 : decode cX5_hour 274 = .ok (.iaload, 1) := by decide +kernel
theorem dX5_hour_275 : decode cX5_hour 275 = .ok (.iconst 1, 1) := by decide +kernel
theorem dX5_hour_276 : decode cX5_hour 276 = .ok (.isub, 1) := by decide +kernel
theorem dX5_hour_277 : decode cX5_hour 277 = .ok (.goto 30, 3) := by decide +kernel
theorem dX5_hour_280 : decode cX5_hour 280 = .ok (.aload 6, 2) := by decide +kernel
theorem dX5_hour_282 : decode cX5_hour 282 = .ok (.iconst 5, 1) := by decide +kernel
theorem dX5_hour_283 : decode cX5_hour 283 = .ok (.iaload, 1) := by decide +kernel
theorem dX5_hour_284 : decode cX5_hour 284 = .ok (.iconst 3, 1) := by decide +kernel
theorem dX5_hour_285 : decode cX5_hour 285 = .ok (.if_icmp .ne 15, 3) := by decide +kernel
theorem dX5_hour_288 : decode cX5_hour 288 = .ok (.aload 6, 2) := by decide +kernel
theorem dX5_hour_290 : decode cX5_hour 290 = .ok (.iconst 1, 1) := by decide +kernel
theorem dX5_hour_291 : decode cX5_hour 291 = .ok (.iaload, 1) := by decide +kernel
theorem dX5_hour_292 : decode cX5_hour 292 = .ok (.aload 6, 2) := by decide +kernel
theorem dX5_hour_294 : decode cX5_hour 294 = .ok (.iconst 3, 1) := by decide +kernel
theorem dX5_hour_295 : decode cX5_hour 295 = .ok (.iaload, 1) := by decide +kernel
theorem dX5_hour_296 : decode cX5_hour 296 = .ok (.iadd, 1) := by decide +kernel
theorem dX5_hour_297 : decode cX5_hour 297 = .ok (.goto 10, 3) := by decide +kernel
theorem dX5_hour_300 : decode cX5_hour 300 = .ok (.aload 6, 2) := by decide +kernel
theorem dX5_hour_302 : decode cX5_hour 302 = .ok (.iconst 1, 1) := by decide +kernel
theorem dX5_hour_303 : decode cX5_hour 303 = .ok (.iaload, 1) := by decide +kernel
theorem dX5_hour_304 : decode cX5_hour 304 = .ok (.iload 9, 2) := by decide +kernel
theorem dX5_hour_306 : decode cX5_hour 306 = .ok (.iadd, 1) := by decide +kernel
theorem dX5_hour_307 : decode cX5_hour 307 = .ok (.istore 12, 2) := by decide +kernel
theorem dX5_hour_309 : decode cX5_hour 309 = .ok (.iload 11, 2) := by decide +kernel
theorem dX5_hour_311 : decode cX5_hour 311 = .ok (.ifCond .lt 22, 3) := by decide +kernel
theorem dX5_hour_314 : decode cX5_hour 314 = .ok (.iload 12, 2) := by decide +kernel
theorem dX5_hour_316 : decode cX5_hour 316 = .ok (.ifCond .lt 17, 3) := by decide +kernel
theorem dX5_hour_319 : decode cX5_hour 319 = .ok (.iload 11, 2) := by decide +kernel
theorem dX5_hour_321 : decode cX5_hour 321 = .ok (.bipush 23, 2) := by decide +kernel
theorem dX5_hour_323 : decode cX5_hour 323 = .ok (.if_icmp .gt 10, 3) := by decide +kernel
theorem dX5_hour_326 : decode cX5_hour 326 = .ok (.iload 12, 2) := by decide +kernel
theorem dX5_hour_328 : decode cX5_hour 328 = .ok (.bipush 23, 2) := by decide +kernel
theorem dX5_hour_330 : decode cX5_hour 330 = .ok (.if_icmp .le 18, 3) := by decide +kernel
theorem dX5_hour_333 : decode cX5_hour 333 = .ok (.aload_n 3, 1) := by decide +kernel
theorem dX5_hour_334 : decode cX5_hour 334 = .ok (.aload_n 0, 1) := by decide +kernel
theorem dX5_hour_335 : decode cX5_hour 335 = .ok (.getfield 9, 3) := by decide +kernel
theorem dX5_hour_338 : decode cX5_hour 338 = .ok (.arraylength, 1) := by decide +kernel
theorem dX5_hour_339 : decode cX5_hour 339 = .ok (.dup2, 1) := by decide +kernel
theorem dX5_hour_340 : decode cX5_hour 340 = .ok (.iaload, 1) := by decide +kernel
theorem dX5_hour_341 : decode cX5_hour 341 = .ok (.iload 10, 2) := by decide +kernel
theorem dX5_hour_343 : decode cX5_hour 343 = .ok (.iadd, 1) := by decide +kernel
theorem dX5_hour_344 : decode cX5_hour 344 = .ok (.iastore, 1) := by decide +kernel
theorem dX5_hour_345 : decode cX5_hour 345 = .ok (.goto 44, 3) := by decide +kernel
theorem dX5_hour_348 : decode cX5_hour 348 = .ok (.aload_n 0, 1) := by decide +kernel
theorem dX5_hour_349 : decode cX5_hour 349 = .ok (.iload 11, 2) := by decide +kernel
theorem dX5_hour_351 : decode cX5_hour 351 = .ok (.iload 12, 2) := by decide +kernel
theorem dX5_hour_353 : decode cX5_hour 353 = .ok (.iload 4, 2) := by decide +kernel
theorem dX5_hour_355 : decode cX5_hour 355 = .ok (.invokevirtual 30, 3) := by decide +kernel
theorem dX5_hour_358 : decode cX5_hour 358 = .ok (.istore 13, 2) := by decide +kernel
theorem dX5_hour_360 : decode cX5_hour 360 = .ok (.iload 13, 2) := by decide +kernel
theorem dX5_hour_362 : decode cX5_hour 362 = .ok (.ifCond .ge 18, 3) := by decide +kernel
theorem dX5_hour_365 : decode cX5_hour 365 = .ok (.aload_n 2, 1) := by decide +kernel
theorem dX5_hour_366 : decode cX5_hour 366 = .ok (.iload 11, 2) := by decide +kernel
theorem dX5_hour_368 : decode cX5_hour 368 = .ok (.aaload, 1) := by decide +kernel
theorem dX5_hour_369 : decode cX5_hour 369 = .ok (.iload 12, 2) := by decide +kernel
theorem dX5_hour_371 : decode cX5_hour 371 = .ok (.dup2, 1) := by decide +kernel
theorem dX5_hour_372 : decode cX5_hour 372 = .ok (.iaload, 1) := by decide +kernel
theorem dX5_hour_373 : decode cX5_hour 373 = .ok (.iload 10, 2) := by decide +kernel
theorem dX5_hour_375 : decode cX5_hour 375 = .ok (.iadd, 1) := by decide +kernel
theorem dX5_hour_376 : decode cX5_hour 376 = .ok (.iastore, 1) := by decide +kernel
theorem dX5_hour_377 : decode cX5_hour 377 = .ok (.goto 12, 3) := by decide +kernel
theorem dX5_hour_380 : decode cX5_hour 380 = .ok (.aload_n 3, 1) := by decide +kernel
theorem dX5_hour_381 : decode cX5_hour 381 = .ok (.iload 13, 2) := by decide +kernel
theorem dX5_hour_383 : decode cX5_hour 383 = .ok (.dup2, 1) := by decide +kernel
theorem dX5_hour_384 : decode cX5_hour 384 = .ok (.iaload, 1) := by decide +kernel
theorem dX5_hour_385 : decode cX5_hour 385 = .ok (.iload 10, 2) := by decide +kernel
theorem dX5_hour_387 : decode cX5_hour 387 = .ok (.iadd, 1) := by decide +kernel
theorem dX5_hour_388 : decode cX5_hour 388 = .ok (.iastore, 1) := by decide +kernel
theorem dX5_hour_389 : decode cX5_hour 389 = .ok (.iinc 9 1, 3) := by decide +kernel
theorem dX5_hour_392 : decode cX5_hour 392 = .ok (.goto (-206), 3) := by decide +kernel
theorem dX5_hour_395 : decode cX5_hour 395 = .ok (.iinc 5 1, 3) := by decide +kernel
theorem dX5_hour_398 : decode cX5_hour 398 = .ok (.goto (-288), 3) := by decide +kernel
theorem dX5_hour_401 : decode cX5_hour 401 = .ok (.iinc 4 (-1), 3) := by decide +kernel
theorem dX5_hour_404 : decode cX5_hour 404 = .ok (.goto (-302), 3) := by decide +kernel
theorem dX5_hour_407 : decode cX5_hour 407 = .ok (.aload_n 2, 1) := by decide +kernel
theorem dX5_hour_408 : decode cX5_hour 408 = .ok (.areturn, 1) := by decide +kernel
theorem dX5_rain_0 : decode cX5_rain 0 = .ok (.aload_n 0, 1) := by decide +kernel
theorem dX5_rain_1 : decode cX5_rain 1 = .ok (.iload_n 1, 1) := by decide +kernel
theorem dX5_rain_2 : decode cX5_rain 2 = .ok (.invokevirtual 34, 3) := by decide +kernel
theorem dX5_rain_5 : decode cX5_rain 5 = .ok (.astore_n 2, 1) := by decide +kernel
theorem dX5_rain_6 : decode cX5_rain 6 = .ok (.iconst 0, 1) := by decide +kernel
theorem dX5_rain_7 : decode cX5_rain 7 = .ok (.istore_n 3, 1) := by decide +kernel
theorem dX5_rain_8 : decode cX5_rain 8 = .ok (.iconst 0, 1) := by decide +kernel
theorem dX5_rain_9 : decode cX5_rain 9 = .ok (.istore 4, 2) := by decide +kernel
theorem dX5_rain_11 : decode cX5_rain 11 = .ok (.iload 4, 2) := by decide +kernel
theorem dX5_rain_13 : decode cX5_rain 13 = .ok (.bipush 24, 2) := by decide +kernel
theorem dX5_rain_15 : decode cX5_rain 15 = .ok (.if_icmp .ge 55, 3) := by decide +kernel
theorem dX5_rain_18 : decode cX5_rain 18 = .ok (.iconst 0, 1) := by decide +kernel
theorem dX5_rain_19 : decode cX5_rain 19 = .ok (.istore 5, 2) := by decide +kernel
theorem dX5_rain_21 : decode cX5_rain 21 = .ok (.iload 5, 2) := by decide +kernel
theorem dX5_rain_23 : decode cX5_rain 23 = .ok (.bipush 24, 2) := by decide +kernel
theorem dX5_rain_25 : decode cX5_rain 25 = .ok (.if_icmp .ge 39, 3) := by decide +kernel
theorem dX5_rain_28 : decode cX5_rain 28 = .ok (.aload_n 0, 1) := by decide +kernel
theorem dX5_rain_29 : decode cX5_rain 29 = .ok (.getfield 19, 3) := by decide +kernel
theorem dX5_rain_32 : decode cX5_rain 32 = .ok (.iload 4, 2) := by decide +kernel
theorem dX5_rain_34 : decode cX5_rain 34 = .ok (.aaload, 1) := by decide +kernel
theorem dX5_rain_35 : decode cX5_rain 35 = .ok (.iload 5, 2) := by decide +kernel
theorem dX5_rain_37 : decode cX5_rain 37 = .ok (.dup2, 1) := by decide +kernel
theorem dX5_rain_38 : decode cX5_rain 38 = .ok (.iaload, 1) := by decide +kernel
theorem dX5_rain_39 : decode cX5_rain 39 = .ok (.aload_n 2, 1) := by decide +kernel
theorem dX5_rain_40 : decode cX5_rain 40 = .ok (.iload 4, 2) := by decide +kernel
theorem dX5_rain_42 : decode cX5_rain 42 = .ok (.aaload, 1) := by decide +kernel
theorem dX5_rain_43 : decode cX5_rain 43 = .ok (.iload 5, 2) := by decide +kernel
theorem dX5_rain_45 : decode cX5_rain 45 = .ok (.iaload, 1) := by decide +kernel
theorem dX5_rain_46 : decode cX5_rain 46 = .ok (.iadd, 1) := by decide +kernel
theorem dX5_rain_47 : decode cX5_rain 47 = .ok (.iastore, 1) := by decide +kernel
theorem dX5_rain_48 : decode cX5_rain 48 = .ok (.iload_n 3, 1) := by decide +kernel
theorem dX5_rain_49 : decode cX5_rain 49 = .ok (.aload_n 2, 1) := by decide +kernel
theorem dX5_rain_50 : decode cX5_rain 50 = .ok (.iload 4, 2) := by decide +kernel
theorem dX5_rain_52 : decode cX5_rain 52 = .ok (.aaload, 1) := by decide +kernel
theorem dX5_rain_53 : decode cX5_rain 53 = .ok (.iload 5, 2) := by decide +kernel
theorem dX5_rain_55 : decode cX5_rain 55 = .ok (.iaload, 1) := by decide +kernel
theorem dX5_rain_56 : decode cX5_rain 56 = .ok (.iadd, 1) := by decide +kernel
theorem dX5_rain_57 : decode cX5_rain 57 = .ok (.istore_n 3, 1) := by decide +kernel
theorem dX5_rain_58 : decode cX5_rain 58 = .ok (.iinc 5 1, 3) := by decide +kernel
theorem dX5_rain_61 : decode cX5_rain 61 = .ok (.goto (-40), 3) := by decide +kernel
theorem dX5_rain_64 : decode cX5_rain 64 = .ok (.iinc 4 1, 3) := by decide +kernel
theorem dX5_rain_67 : decode cX5_rain 67 = .ok (.goto (-56), 3) := by decide +kernel
theorem dX5_rain_70 : decode cX5_rain 70 = .ok (.iconst 0, 1) := by decide +kernel
theorem dX5_rain_71 : decode cX5_rain 71 = .ok (.istore 4, 2) := by decide +kernel
theorem dX5_rain_73 : decode cX5_rain 73 = .ok (.iload 4, 2) := by decide +kernel
theorem dX5_rain_75 : decode cX5_rain 75 = .ok (.aload_n 0, 1) := by decide +kernel
theorem dX5_rain_76 : decode cX5_rain 76 = .ok (.getfield 9, 3) := by decide +kernel
theorem dX5_rain_79 : decode cX5_rain 79 = .ok (.arraylength, 1) := by decide +kernel
theorem dX5_rain_80 : decode cX5_rain 80 = .ok (.if_icmp .ge 29, 3) := by decide +kernel
theorem dX5_rain_83 : decode cX5_rain 83 = .ok (.aload_n 0, 1) := by decide +kernel
theorem dX5_rain_84 : decode cX5_rain 84 = .ok (.getfield 9, 3) := by decide +kernel
theorem dX5_rain_87 : decode cX5_rain 87 = .ok (.iload 4, 2) := by decide +kernel
theorem dX5_rain_89 : decode cX5_rain 89 = .ok (.aaload, 1) := by decide +kernel
theorem dX5_rain_90 : decode cX5_rain 90 = .ok (.bipush 7, 2) := by decide +kernel
theorem dX5_rain_92 : decode cX5_rain 92 = .ok (.dup2, 1) := by decide +kernel
theorem dX5_rain_93 : decode cX5_rain 93 = .ok (.iaload, 1) := by decide +kernel
theorem dX5_rain_94 : decode cX5_rain 94 = .ok (.aload_n 2, 1) := by decide +kernel
theorem dX5_rain_95 : decode cX5_rain 95 = .ok (.bipush 24, 2) := by decide +kernel
theorem dX5_rain_97 : decode cX5_rain 97 = .ok (.aaload, 1) := by decide +kernel
theorem dX5_rain_98 : decode cX5_rain 98 = .ok (.iload 4, 2) := by decide +kernel
theorem dX5_rain_100 : decode cX5_rain 100 = .ok (.iaload, 1) := by decide +kernel
theorem dX5_rain_101 : decode cX5_rain 101 = .ok (.iadd, 1) := by decide +kernel
theorem dX5_rain_102 : decode cX5_rain 102 = .ok (.iastore, 1) := by decide +kernel
theorem dX5_rain_103 : decode cX5_rain 103 = .ok (.iinc 4 1, 3) := by decide +kernel
theorem dX5_rain_106 : decode cX5_rain 106 = .ok (.goto (-33), 3) := by decide +kernel
theorem dX5_rain_109 : decode cX5_rain 109 = .ok (.aload_n 0, 1) := by decide +kernel
theorem dX5_rain_110 : decode cX5_rain 110 = .ok (.getfield 15, 3) := by decide +kernel
theorem dX5_rain_113 : decode cX5_rain 113 = .ok (.astore 4, 2) := by decide +kernel
theorem dX5_rain_115 : decode cX5_rain 115 = .ok (.aload 4, 2) := by decide +kernel
theorem dX5_rain_117 : decode cX5_rain 117 = .ok (.arraylength, 1) := by decide +kernel
theorem dX5_rain_118 : decode cX5_rain 118 = .ok (.istore 5, 2) := by decide +kernel
theorem dX5_rain_120 : decode cX5_rain 120 = .ok (.iconst 0, 1) := by decide +kernel
theorem dX5_rain_121 : decode cX5_rain 121 = .ok (.istore 6, 2) := by decide +kernel
theorem dX5_rain_123 : decode cX5_rain 123 = .ok (.iload 6, 2) := by decide +kernel
theorem dX5_rain_125 : decode cX5_rain 125 = .ok (.iload 5, 2) := by decide +kernel
theorem dX5_rain_127 : decode cX5_rain 127 = .ok (.if_icmp .ge 34, 3) := by decide +kernel
theorem dX5_rain_130 : decode cX5_rain 130 = .ok (.aload 4, 2) := by decide +kernel
theorem dX5_rain_132 : decode cX5_rain 132 = .ok (.iload 6, 2) := by decide +kernel
theorem dX5_rain_134 : decode cX5_rain 134 = .ok (.aaload, 1) := by decide +kernel
theorem dX5_rain_135 : decode cX5_rain 135 = .ok (.astore 7, 2) := by decide +kernel
theorem dX5_rain_137 : decode cX5_rain 137 = .ok (.aload 7, 2) := by decide +kernel
theorem dX5_rain_139 : decode cX5_rain 139 = .ok (.iconst 2, 1) := by decide +kernel
theorem dX5_rain_140 : decode cX5_rain 140 = .ok (.dup2, 1) := by decide +kernel
theorem dX5_rain_141 : decode cX5_rain 141 = .ok (.iaload, 1) := by decide +kernel
theorem dX5_rain_142 : decode cX5_rain 142 = .ok (.aload_n 2, 1) := by decide +kernel
theorem dX5_rain_143 : decode cX5_rain 143 = .ok (.aload 7, 2) := by decide +kernel
theorem dX5_rain_145 : decode cX5_rain 145 = .ok (.iconst 0, 1) := by decide +kernel
theorem dX5_rain_146 : decode cX5_rain 146 = .ok (.iaload, 1) := by decide +kernel
theorem dX5_rain_147 : decode cX5_rain 147 = .ok (.aaload, 1) := by decide +kernel
theorem dX5_rain_148 : decode cX5_rain 148 = .ok (.aload 7, 2) := by decide +kernel
theorem dX5_rain_150 : decode cX5_rain 150 = .ok (.iconst 1, 1) := by decide +kernel
theorem dX5_rain_151 : decode cX5_rain 151 = .ok (.iaload, 1) := by decide +kernel
theorem dX5_rain_152 : decode cX5_rain 152 = .ok (.iaload, 1) := by decide +kernel
theorem dX5_rain_153 : decode cX5_rain 153 = .ok (.iadd, 1) := by decide +kernel
theorem dX5_rain_154 : decode cX5_rain 154 = .ok (.iastore, 1) := by decide +kernel
theorem dX5_rain_155 : decode cX5_rain 155 = .ok (.iinc 6 1, 3) := by decide +kernel
theorem dX5_rain_158 : decode cX5_rain 158 = .ok (.goto (-35), 3) := by decide +kernel
theorem dX5_rain_161 : decode cX5_rain 161 = .ok (.aload_n 0, 1) := by decide +kernel
theorem dX5_rain_162 : decode cX5_rain 162 = .ok (.dup, 1) := by decide +kernel
theorem dX5_rain_163 : decode cX5_rain 163 = .ok (.getfield 38, 3) := by decide +kernel
theorem dX5_rain_166 : decode cX5_rain 166 = .ok (.aload_n 2, 1) := by decide +kernel
theorem dX5_rain_167 : decode cX5_rain 167 = .ok (.bipush 24, 2) := by decide +kernel
theorem dX5_rain_169 : decode cX5_rain 169 = .ok (.aaload, 1) := by decide +kernel
theorem dX5_rain_170 : decode cX5_rain 170 = .ok (.aload_n 0, 1) := by decide +kernel
theorem dX5_rain_171 : decode cX5_rain 171 = .ok (.getfield 9, 3) := by decide +kernel
theorem dX5_rain_174 : decode cX5_rain 174 = .ok (.arraylength, 1) := by decide +kernel
theorem dX5_rain_175 : decode cX5_rain 175 = .ok (.iaload, 1) := by decide +kernel
theorem dX5_rain_176 : decode cX5_rain 176 = .ok (.iadd, 1) := by decide +kernel
theorem dX5_rain_177 : decode cX5_rain 177 = .ok (.putfield 38, 3) := by decide +kernel
theorem dX5_rain_180 : decode cX5_rain 180 = .ok (.aload_n 0, 1) := by decide +kernel
theorem dX5_rain_181 : decode cX5_rain 181 = .ok (.dup, 1) := by decide +kernel
theorem dX5_rain_182 : decode cX5_rain 182 = .ok (.getfield 42, 3) := by decide +kernel
theorem dX5_rain_185 : decode cX5_rain 185 = .ok (.iconst 1, 1) := by decide +kernel
theorem dX5_rain_186 : decode cX5_rain 186 = .ok (.iadd, 1) := by decide +kernel
theorem dX5_rain_187 : decode cX5_rain 187 = .ok (.putfield 42, 3) := by decide +kernel
theorem dX5_rain_190 : decode cX5_rain 190 = .ok (.iload_n 3, 1) := by decide +kernel
theorem dX5_rain_191 : decode cX5_rain 191 = .ok (.ireturn, 1) := by decide +kernel
theorem dX5_own_0 : decode cX5_own 0 = .ok (.iconst 0, 1) := by decide +kernel
theorem dX5_own_1 : decode cX5_own 1 = .ok (.istore_n 2, 1) := by decide +kernel
theorem dX5_own_2 : decode cX5_own 2 = .ok (.iconst 0, 1) := by decide +kernel
theorem dX5_own_3 : decode cX5_own 3 = .ok (.istore_n 3, 1) := by decide +kernel
theorem dX5_own_4 : decode cX5_own 4 = .ok (.iload_n 3, 1) := by decide +kernel
theorem dX5_own_5 : decode cX5_own 5 = .ok (.bipush 24, 2) := by decide +kernel
theorem dX5_own_7 : decode cX5_own 7 = .ok (.if_icmp .ge 55, 3) := by decide +kernel
theorem dX5_own_10 : decode cX5_own 10 = .ok (.iconst 0, 1) := by decide +kernel
theorem dX5_own_11 : decode cX5_own 11 = .ok (.istore 4, 2) := by decide +kernel
theorem dX5_own_13 : decode cX5_own 13 = .ok (.iload 4, 2) := by decide +kernel
theorem dX5_own_15 : decode cX5_own 15 = .ok (.bipush 24, 2) := by decide +kernel
theorem dX5_own_17 : decode cX5_own 17 = .ok (.if_icmp .ge 39, 3) := by decide +kernel
theorem dX5_own_20 : decode cX5_own 20 = .ok (.iload_n 2, 1) := by decide +kernel
theorem dX5_own_21 : decode cX5_own 21 = .ok (.aload_n 0, 1) := by decide +kernel
theorem dX5_own_22 : decode cX5_own 22 = .ok (.iload_n 1, 1) := by decide +kernel
theorem dX5_own_23 : decode cX5_own 23 = .ok (.iload_n 3, 1) := by decide +kernel
theorem dX5_own_24 : decode cX5_own 24 = .ok (.iload 4, 2) := by decide +kernel
theorem dX5_own_26 : decode cX5_own 26 = .ok (.invokevirtual 22, 3) := by decide +kernel
theorem dX5_own_29 : decode cX5_own 29 = .ok (.ifCond .eq 18, 3) := by decide +kernel
theorem dX5_own_32 : decode cX5_own 32 = .ok (.aload_n 0, 1) := by decide +kernel
theorem dX5_own_33 : decode cX5_own 33 = .ok (.iload_n 3, 1) := by decide +kernel
theorem dX5_own_34 : decode cX5_own 34 = .ok (.iload 4, 2) := by decide +kernel
theorem dX5_own_36 : decode cX5_own 36 = .ok (.invokevirtual 26, 3) := by decide +kernel
theorem dX5_own_39 : decode cX5_own 39 = .ok (.iconst 1, 1) := by decide +kernel
theorem dX5_own_40 : decode cX5_own 40 = .ok (.if_icmp .ne 7, 3) := by decide +kernel
theorem dX5_own_43 : decode cX5_own 43 = .ok (.iconst 1, 1) := by decide +kernel
theorem dX5_own_44 : decode cX5_own 44 = .ok (.goto 4, 3) := by decide +kernel
theorem dX5_own_47 : decode cX5_own 47 = .ok (.iconst 0, 1) := by decide +kernel
theorem dX5_own_48 : decode cX5_own 48 = .ok (.iadd, 1) := by decide +kernel
theorem dX5_own_49 : decode cX5_own 49 = .ok (.istore_n 2, 1) := by decide +kernel
theorem dX5_own_50 : decode cX5_own 50 = .ok (.iinc 4 1, 3) := by decide +kernel
theorem dX5_own_53 : decode cX5_own 53 = .ok (.goto (-40), 3) := by decide +kernel
theorem dX5_own_56 : decode cX5_own 56 = .ok (.iinc 3 1, 3) := by decide +kernel
theorem dX5_own_59 : decode cX5_own 59 = .ok (.goto (-55), 3) := by decide +kernel
theorem dX5_own_62 : decode cX5_own 62 = .ok (.iload_n 2, 1) := by decide +kernel
theorem dX5_own_63 : decode cX5_own 63 = .ok (.ireturn, 1) := by decide +kernel
theorem dX5_covered_0 : decode cX5_covered 0 = .ok (.iconst 0, 1) := by decide +kernel
theorem dX5_covered_1 : decode cX5_covered 1 = .ok (.istore_n 1, 1) := by decide +kernel
theorem dX5_covered_2 : decode cX5_covered 2 = .ok (.iconst 0, 1) := by decide +kernel
theorem dX5_covered_3 : decode cX5_covered 3 = .ok (.istore_n 2, 1) := by decide +kernel
theorem dX5_covered_4 : decode cX5_covered 4 = .ok (.iload_n 2, 1) := by decide +kernel
theorem dX5_covered_5 : decode cX5_covered 5 = .ok (.bipush 24, 2) := by decide +kernel
theorem dX5_covered_7 : decode cX5_covered 7 = .ok (.if_icmp .ge 40, 3) := by decide +kernel
theorem dX5_covered_10 : decode cX5_covered 10 = .ok (.iconst 0, 1) := by decide +kernel
theorem dX5_covered_11 : decode cX5_covered 11 = .ok (.istore_n 3, 1) := by decide +kernel
theorem dX5_covered_12 : decode cX5_covered 12 = .ok (.iload_n 3, 1) := by decide +kernel
theorem dX5_covered_13 : decode cX5_covered 13 = .ok (.bipush 24, 2) := by decide +kernel
theorem dX5_covered_15 : decode cX5_covered 15 = .ok (.if_icmp .ge 26, 3) := by decide +kernel
theorem dX5_covered_18 : decode cX5_covered 18 = .ok (.iload_n 1, 1) := by decide +kernel
theorem dX5_covered_19 : decode cX5_covered 19 = .ok (.aload_n 0, 1) := by decide +kernel
theorem dX5_covered_20 : decode cX5_covered 20 = .ok (.iload_n 2, 1) := by decide +kernel
theorem dX5_covered_21 : decode cX5_covered 21 = .ok (.iload_n 3, 1) := by decide +kernel
theorem dX5_covered_22 : decode cX5_covered 22 = .ok (.invokevirtual 45, 3) := by decide +kernel
theorem dX5_covered_25 : decode cX5_covered 25 = .ok (.ifCond .eq 7, 3) := by decide +kernel
theorem dX5_covered_28 : decode cX5_covered 28 = .ok (.iconst 1, 1) := by decide +kernel
theorem dX5_covered_29 : decode cX5_covered 29 = .ok (.goto 4, 3) := by decide +kernel
theorem dX5_covered_32 : decode cX5_covered 32 = .ok (.iconst 0, 1) := by decide +kernel
theorem dX5_covered_33 : decode cX5_covered 33 = .ok (.iadd, 1) := by decide +kernel
theorem dX5_covered_34 : decode cX5_covered 34 = .ok (.istore_n 1, 1) := by decide +kernel
theorem dX5_covered_35 : decode cX5_covered 35 = .ok (.iinc 3 1, 3) := by decide +kernel
theorem dX5_covered_38 : decode cX5_covered 38 = .ok (.goto (-26), 3) := by decide +kernel
theorem dX5_covered_41 : decode cX5_covered 41 = .ok (.iinc 2 1, 3) := by decide +kernel
theorem dX5_covered_44 : decode cX5_covered 44 = .ok (.goto (-40), 3) := by decide +kernel
theorem dX5_covered_47 : decode cX5_covered 47 = .ok (.iload_n 1, 1) := by decide +kernel
theorem dX5_covered_48 : decode cX5_covered 48 = .ok (.ireturn, 1) := by decide +kernel
theorem dX5_outline_0 : decode cX5_outline 0 = .ok (.iconst 0, 1) := by decide +kernel
theorem dX5_outline_1 : decode cX5_outline 1 = .ok (.istore_n 1, 1) := by decide +kernel
theorem dX5_outline_2 : decode cX5_outline 2 = .ok (.iconst 0, 1) := by decide +kernel
theorem dX5_outline_3 : decode cX5_outline 3 = .ok (.istore_n 2, 1) := by decide +kernel
theorem dX5_outline_4 : decode cX5_outline 4 = .ok (.iload_n 2, 1) := by decide +kernel
theorem dX5_outline_5 : decode cX5_outline 5 = .ok (.bipush 24, 2) := by decide +kernel
theorem dX5_outline_7 : decode cX5_outline 7 = .ok (.if_icmp .ge 105, 3) := by decide +kernel
theorem dX5_outline_10 : decode cX5_outline 10 = .ok (.iconst 0, 1) := by decide +kernel
theorem dX5_outline_11 : decode cX5_outline 11 = .ok (.istore_n 3, 1) := by decide +kernel
theorem dX5_outline_12 : decode cX5_outline 12 = .ok (.iload_n 3, 1) := by decide +kernel
theorem dX5_outline_13 : decode cX5_outline 13 = .ok (.bipush 24, 2) := by decide +kernel
theorem dX5_outline_15 : decode cX5_outline 15 = .ok (.if_icmp .ge 91, 3) := by decide +kernel
theorem dX5_outline_18 : decode cX5_outline 18 = .ok (.aload_n 0, 1) := by decide +kernel
theorem dX5_outline_19 : decode cX5_outline 19 = .ok (.iload_n 2, 1) := by decide +kernel
theorem dX5_outline_20 : decode cX5_outline 20 = .ok (.iload_n 3, 1) := by decide +kernel
theorem dX5_outline_21 : decode cX5_outline 21 = .ok (.invokevirtual 45, 3) := by decide +kernel
theorem dX5_outline_24 : decode cX5_outline 24 = .ok (.ifCond .ne 6, 3) := by decide +kernel
theorem dX5_outline_27 : decode cX5_outline 27 = .ok (.goto 73, 3) := by decide +kernel
theorem dX5_outline_30 : decode cX5_outline 30 = .ok (.iload_n 1, 1) := by decide +kernel
theorem dX5_outline_31 : decode cX5_outline 31 = .ok (.aload_n 0, 1) := by decide +kernel
theorem dX5_outline_32 : decode cX5_outline 32 = .ok (.iload_n 2, 1) := by decide +kernel
theorem dX5_outline_33 : decode cX5_outline 33 = .ok (.iconst 1, 1) := by decide +kernel
theorem dX5_outline_34 : decode cX5_outline 34 = .ok (.isub, 1) := by decide +kernel
theorem dX5_outline_35 : decode cX5_outline 35 = .ok (.iload_n 3, 1) := by decide +kernel
theorem dX5_outline_36 : decode cX5_outline 36 = .ok (.invokevirtual 45, 3) := by decide +kernel
theorem dX5_outline_39 : decode cX5_outline 39 = .ok (.ifCond .eq 7, 3) := by decide +kernel
theorem dX5_outline_42 : decode cX5_outline 42 = .ok (.iconst 0, 1) := by decide +kernel
theorem dX5_outline_43 : decode cX5_outline 43 = .ok (.goto 4, 3) := by decide +kernel
theorem dX5_outline_46 : decode cX5_outline 46 = .ok (.iconst 1, 1) := by decide +kernel
theorem dX5_outline_47 : decode cX5_outline 47 = .ok (.aload_n 0, 1) := by decide +kernel
theorem dX5_outline_48 : decode cX5_outline 48 = .ok (.iload_n 2, 1) := by decide +kernel
theorem dX5_outline_49 : decode cX5_outline 49 = .ok (.iconst 1, 1) := by decide +kernel
theorem dX5_outline_50 : decode cX5_outline 50 = .ok (.iadd, 1) := by decide +kernel
theorem dX5_outline_51 : decode cX5_outline 51 = .ok (.iload_n 3, 1) := by decide +kernel
theorem dX5_outline_52 : decode cX5_outline 52 = .ok (.invokevirtual 45, 3) := by decide +kernel
theorem dX5_outline_55 : decode cX5_outline 55 = .ok (.ifCond .eq 7, 3) := by decide +kernel
theorem dX5_outline_58 : decode cX5_outline 58 = .ok (.iconst 0, 1) := by decide +kernel
theorem dX5_outline_59 : decode cX5_outline 59 = .ok (.goto 4, 3) := by decide +kernel
theorem dX5_outline_62 : decode cX5_outline 62 = .ok (.iconst 1, 1) := by decide +kernel
theorem dX5_outline_63 : decode cX5_outline 63 = .ok (.iadd, 1) := by decide +kernel
theorem dX5_outline_64 : decode cX5_outline 64 = .ok (.aload_n 0, 1) := by decide +kernel
theorem dX5_outline_65 : decode cX5_outline 65 = .ok (.iload_n 2, 1) := by decide +kernel
theorem dX5_outline_66 : decode cX5_outline 66 = .ok (.iload_n 3, 1) := by decide +kernel
theorem dX5_outline_67 : decode cX5_outline 67 = .ok (.iconst 1, 1) := by decide +kernel
theorem dX5_outline_68 : decode cX5_outline 68 = .ok (.isub, 1) := by decide +kernel
theorem dX5_outline_69 : decode cX5_outline 69 = .ok (.invokevirtual 45, 3) := by decide +kernel
theorem dX5_outline_72 : decode cX5_outline 72 = .ok (.ifCond .eq 7, 3) := by decide +kernel
theorem dX5_outline_75 : decode cX5_outline 75 = .ok (.iconst 0, 1) := by decide +kernel
theorem dX5_outline_76 : decode cX5_outline 76 = .ok (.goto 4, 3) := by decide +kernel
theorem dX5_outline_79 : decode cX5_outline 79 = .ok (.iconst 1, 1) := by decide +kernel
theorem dX5_outline_80 : decode cX5_outline 80 = .ok (.iadd, 1) := by decide +kernel
theorem dX5_outline_81 : decode cX5_outline 81 = .ok (.aload_n 0, 1) := by decide +kernel
theorem dX5_outline_82 : decode cX5_outline 82 = .ok (.iload_n 2, 1) := by decide +kernel
theorem dX5_outline_83 : decode cX5_outline 83 = .ok (.iload_n 3, 1) := by decide +kernel
theorem dX5_outline_84 : decode cX5_outline 84 = .ok (.iconst 1, 1) := by decide +kernel
theorem dX5_outline_85 : decode cX5_outline 85 = .ok (.iadd, 1) := by decide +kernel
theorem dX5_outline_86 : decode cX5_outline 86 = .ok (.invokevirtual 45, 3) := by decide +kernel
theorem dX5_outline_89 : decode cX5_outline 89 = .ok (.ifCond .eq 7, 3) := by decide +kernel
theorem dX5_outline_92 : decode cX5_outline 92 = .ok (.iconst 0, 1) := by decide +kernel
theorem dX5_outline_93 : decode cX5_outline 93 = .ok (.goto 4, 3) := by decide +kernel
theorem dX5_outline_96 : decode cX5_outline 96 = .ok (.iconst 1, 1) := by decide +kernel
theorem dX5_outline_97 : decode cX5_outline 97 = .ok (.iadd, 1) := by decide +kernel
theorem dX5_outline_98 : decode cX5_outline 98 = .ok (.iadd, 1) := by decide +kernel
theorem dX5_outline_99 : decode cX5_outline 99 = .ok (.istore_n 1, 1) := by decide +kernel
theorem dX5_outline_100 : decode cX5_outline 100 = .ok (.iinc 3 1, 3) := by decide +kernel
theorem dX5_outline_103 : decode cX5_outline 103 = .ok (.goto (-91), 3) := by decide +kernel
theorem dX5_outline_106 : decode cX5_outline 106 = .ok (.iinc 2 1, 3) := by decide +kernel
theorem dX5_outline_109 : decode cX5_outline 109 = .ok (.goto (-105), 3) := by decide +kernel
theorem dX5_outline_112 : decode cX5_outline 112 = .ok (.iload_n 1, 1) := by decide +kernel
theorem dX5_outline_113 : decode cX5_outline 113 = .ok (.ireturn, 1) := by decide +kernel
theorem dX5_parts_0 : decode cX5_parts 0 = .ok (.bipush 26, 2) := by decide +kernel
theorem dX5_parts_2 : decode cX5_parts 2 = .ok (.bipush 26, 2) := by decide +kernel
theorem dX5_parts_4 : decode cX5_parts 4 = .ok (.multianewarray 18 2, 4) := by decide +kernel
theorem dX5_parts_8 : decode cX5_parts 8 = .ok (.astore_n 1, 1) := by decide +kernel
theorem dX5_parts_9 : decode cX5_parts 9 = .ok (.iconst 0, 1) := by decide +kernel
theorem dX5_parts_10 : decode cX5_parts 10 = .ok (.istore_n 2, 1) := by decide +kernel
theorem dX5_parts_11 : decode cX5_parts 11 = .ok (.iload_n 2, 1) := by decide +kernel
theorem dX5_parts_12 : decode cX5_parts 12 = .ok (.bipush 24, 2) := by decide +kernel
theorem dX5_parts_14 : decode cX5_parts 14 = .ok (.if_icmp .ge 53, 3) := by decide +kernel
theorem dX5_parts_17 : decode cX5_parts 17 = .ok (.iconst 0, 1) := by decide +kernel
theorem dX5_parts_18 : decode cX5_parts 18 = .ok (.istore_n 3, 1) := by decide +kernel
theorem dX5_parts_19 : decode cX5_parts 19 = .ok (.iload_n 3, 1) := by decide +kernel
theorem dX5_parts_20 : decode cX5_parts 20 = .ok (.bipush 24, 2) := by decide +kernel
theorem dX5_parts_22 : decode cX5_parts 22 = .ok (.if_icmp .ge 39, 3) := by decide +kernel
theorem dX5_parts_25 : decode cX5_parts 25 = .ok (.aload_n 1, 1) := by decide +kernel
theorem dX5_parts_26 : decode cX5_parts 26 = .ok (.iload_n 2, 1) := by decide +kernel
theorem dX5_parts_27 : decode cX5_parts 27 = .ok (.iconst 1, 1) := by decide +kernel
theorem dX5_parts_28 : decode cX5_parts 28 = .ok (.iadd, 1) := by decide +kernel
theorem dX5_parts_29 : decode cX5_parts 29 = .ok (.aaload, 1) := by decide +kernel
theorem dX5_parts_30 : decode cX5_parts 30 = .ok (.iload_n 3, 1) := by decide +kernel
theorem dX5_parts_31 : decode cX5_parts 31 = .ok (.iconst 1, 1) := by decide +kernel
theorem dX5_parts_32 : decode cX5_parts 32 = .ok (.iadd, 1) := by decide +kernel
theorem dX5_parts_33 : decode cX5_parts 33 = .ok (.aload_n 0, 1) := by decide +kernel
theorem dX5_parts_34 : decode cX5_parts 34 = .ok (.iload_n 2, 1) := by decide +kernel
theorem dX5_parts_35 : decode cX5_parts 35 = .ok (.iload_n 3, 1) := by decide +kernel
theorem dX5_parts_36 : decode cX5_parts 36 = .ok (.invokevirtual 45, 3) := by decide +kernel
theorem dX5_parts_39 : decode cX5_parts 39 = .ok (.ifCond .eq 14, 3) := by decide +kernel
theorem dX5_parts_42 : decode cX5_parts 42 = .ok (.iconst 1, 1) := by decide +kernel
theorem dX5_parts_43 : decode cX5_parts 43 = .ok (.bipush 24, 2) := by decide +kernel
theorem dX5_parts_45 : decode cX5_parts 45 = .ok (.iload_n 2, 1) := by decide +kernel
theorem dX5_parts_46 : decode cX5_parts 46 = .ok (.imul, 1) := by decide +kernel
theorem dX5_parts_47 : decode cX5_parts 47 = .ok (.iadd, 1) := by decide +kernel
theorem dX5_parts_48 : decode cX5_parts 48 = .ok (.iload_n 3, 1) := by decide +kernel
theorem dX5_parts_49 : decode cX5_parts 49 = .ok (.iadd, 1) := by decide +kernel
theorem dX5_parts_50 : decode cX5_parts 50 = .ok (.goto 4, 3) := by decide +kernel
theorem dX5_parts_53 : decode cX5_parts 53 = .ok (.iconst 0, 1) := by decide +kernel
theorem dX5_parts_54 : decode cX5_parts 54 = .ok (.iastore, 1) := by decide +kernel
theorem dX5_parts_55 : decode cX5_parts 55 = .ok (.iinc 3 1, 3) := by decide +kernel
theorem dX5_parts_58 : decode cX5_parts 58 = .ok (.goto (-39), 3) := by decide +kernel
theorem dX5_parts_61 : decode cX5_parts 61 = .ok (.iinc 2 1, 3) := by decide +kernel
theorem dX5_parts_64 : decode cX5_parts 64 = .ok (.goto (-53), 3) := by decide +kernel
theorem dX5_parts_67 : decode cX5_parts 67 = .ok (.iconst 1, 1) := by decide +kernel
theorem dX5_parts_68 : decode cX5_parts 68 = .ok (.istore_n 2, 1) := by decide +kernel
theorem dX5_parts_69 : decode cX5_parts 69 = .ok (.iload_n 2, 1) := by decide +kernel
theorem dX5_parts_70 : decode cX5_parts 70 = .ok (.ifCond .eq 145, 3) := by decide +kernel
theorem dX5_parts_73 : decode cX5_parts 73 = .ok (.iconst 0, 1) := by decide +kernel
theorem dX5_parts_74 : decode cX5_parts 74 = .ok (.istore_n 2, 1) := by decide +kernel
theorem dX5_parts_75 : decode cX5_parts 75 = .ok (.iconst 0, 1) := by decide +kernel
theorem dX5_parts_76 : decode cX5_parts 76 = .ok (.istore_n 3, 1) := by decide +kernel
theorem dX5_parts_77 : decode cX5_parts 77 = .ok (.iload_n 3, 1) := by decide +kernel
theorem dX5_parts_78 : decode cX5_parts 78 = .ok (.sipush 1152, 3) := by decide +kernel
theorem dX5_parts_81 : decode cX5_parts 81 = .ok (.if_icmp .ge 131, 3) := by decide +kernel
theorem dX5_parts_84 : decode cX5_parts 84 = .ok (.iload_n 3, 1) := by decide +kernel
theorem dX5_parts_85 : decode cX5_parts 85 = .ok (.sipush 576, 3) := by decide +kernel
theorem dX5_parts_88 : decode cX5_parts 88 = .ok (.if_icmp .ge 7, 3) := by decide +kernel
theorem dX5_parts_91 : decode cX5_parts 91 = .ok (.iload_n 3, 1) := by decide +kernel
theorem dX5_parts_92 : decode cX5_parts 92 = .ok (.goto 8, 3) := by decide +kernel
theorem dX5_parts_95 : decode cX5_parts 95 = .ok (.sipush 1151, 3) := by decide +kernel
theorem dX5_parts_98 : decode cX5_parts 98 = .ok (.iload_n 3, 1) := by decide +kernel
theorem dX5_parts_99 : decode cX5_parts 99 = .ok (.isub, 1) := by decide +kernel
theorem dX5_parts_100 : decode cX5_parts 100 = .ok (.istore 4, 2) := by decide +kernel
theorem dX5_parts_102 : decode cX5_parts 102 = .ok (.iconst 1, 1) := by decide +kernel
theorem dX5_parts_103 : decode cX5_parts 103 = .ok (.iload 4, 2) := by decide +kernel
theorem dX5_parts_105 : decode cX5_parts 105 = .ok (.bipush 24, 2) := by decide +kernel
theorem dX5_parts_107 : decode cX5_parts 107 = .ok (.idiv, 1) := by decide +kernel
theorem dX5_parts_108 : decode cX5_parts 108 = .ok (.iadd, 1) := by decide +kernel
theorem dX5_parts_109 : decode cX5_parts 109 = .ok (.istore 5, 2) := by decide +kernel
theorem dX5_parts_111 : decode cX5_parts 111 = .ok (.iconst 1, 1) := by decide +kernel
theorem dX5_parts_112 : decode cX5_parts 112 = .ok (.iload 4, 2) := by decide +kernel
theorem dX5_parts_114 : decode cX5_parts 114 = .ok (.bipush 24, 2) := by decide +kernel
theorem dX5_parts_116 : decode cX5_parts 116 = .ok (.irem, 1) := by decide +kernel
theorem dX5_parts_117 : decode cX5_parts 117 = .ok (.iadd, 1) := by decide +kernel
theorem dX5_parts_118 : decode cX5_parts 118 = .ok (.istore 6, 2) := by decide +kernel
theorem dX5_parts_120 : decode cX5_parts 120 = .ok (.aload_n 1, 1) := by decide +kernel
theorem dX5_parts_121 : decode cX5_parts 121 = .ok (.iload 5, 2) := by decide +kernel
theorem dX5_parts_123 : decode cX5_parts 123 = .ok (.aaload, 1) := by decide +kernel
theorem dX5_parts_124 : decode cX5_parts 124 = .ok (.iload 6, 2) := by decide +kernel
theorem dX5_parts_126 : decode cX5_parts 126 = .ok (.iaload, 1) := by decide +kernel
theorem dX5_parts_127 : decode cX5_parts 127 = .ok (.ifCond .ne 6, 3) := by decide +kernel
theorem dX5_parts_130 : decode cX5_parts 130 = .ok (.goto 76, 3) := by decide +kernel
theorem dX5_parts_133 : decode cX5_parts 133 = .ok (.aload_n 1, 1) := by decide +kernel
theorem dX5_parts_134 : decode cX5_parts 134 = .ok (.iload 5, 2) := by decide +kernel
theorem dX5_parts_136 : decode cX5_parts 136 = .ok (.iconst 1, 1) := by decide +kernel
theorem dX5_parts_137 : decode cX5_parts 137 = .ok (.isub, 1) := by decide +kernel
theorem dX5_parts_138 : decode cX5_parts 138 = .ok (.aaload, 1) := by decide +kernel
theorem dX5_parts_139 : decode cX5_parts 139 = .ok (.iload 6, 2) := by decide +kernel
theorem dX5_parts_141 : decode cX5_parts 141 = .ok (.iaload, 1) := by decide +kernel
theorem dX5_parts_142 : decode cX5_parts 142 = .ok (.aload_n 1, 1) := by decide +kernel
theorem dX5_parts_143 : decode cX5_parts 143 = .ok (.iload 5, 2) := by decide +kernel
theorem dX5_parts_145 : decode cX5_parts 145 = .ok (.iconst 1, 1) := by decide +kernel
theorem dX5_parts_146 : decode cX5_parts 146 = .ok (.iadd, 1) := by decide +kernel
theorem dX5_parts_147 : decode cX5_parts 147 = .ok (.aaload, 1) := by decide +kernel
theorem dX5_parts_148 : decode cX5_parts 148 = .ok (.iload 6, 2) := by decide +kernel
theorem dX5_parts_150 : decode cX5_parts 150 = .ok (.iaload, 1) := by decide +kernel
theorem dX5_parts_151 : decode cX5_parts 151 = .ok (.invokestatic 49, 3) := by decide +kernel
theorem dX5_parts_154 : decode cX5_parts 154 = .ok (.aload_n 1, 1) := by decide +kernel
theorem dX5_parts_155 : decode cX5_parts 155 = .ok (.iload 5, 2) := by decide +kernel
theorem dX5_parts_157 : decode cX5_parts 157 = .ok (.aaload, 1) := by decide +kernel
theorem dX5_parts_158 : decode cX5_parts 158 = .ok (.iload 6, 2) := by decide +kernel
theorem dX5_parts_160 : decode cX5_parts 160 = .ok (.iconst 1, 1) := by decide +kernel
theorem dX5_parts_161 : decode cX5_parts 161 = .ok (.isub, 1) := by decide +kernel
theorem dX5_parts_162 : decode cX5_parts 162 = .ok (.iaload, 1) := by decide +kernel
theorem dX5_parts_163 : decode cX5_parts 163 = .ok (.aload_n 1, 1) := by decide +kernel
theorem dX5_parts_164 : decode cX5_parts 164 = .ok (.iload 5, 2) := by decide +kernel
theorem dX5_parts_166 : decode cX5_parts 166 = .ok (.aaload, 1) := by decide +kernel
theorem dX5_parts_167 : decode cX5_parts 167 = .ok (.iload 6, 2) := by decide +kernel
theorem dX5_parts_169 : decode cX5_parts 169 = .ok (.iconst 1, 1) := by decide +kernel
theorem dX5_parts_170 : decode cX5_parts 170 = .ok (.iadd, 1) := by decide +kernel
theorem dX5_parts_171 : decode cX5_parts 171 = .ok (.iaload, 1) := by decide +kernel
theorem dX5_parts_172 : decode cX5_parts 172 = .ok (.invokestatic 49, 3) := by decide +kernel
theorem dX5_parts_175 : decode cX5_parts 175 = .ok (.invokestatic 49, 3) := by decide +kernel
theorem dX5_parts_178 : decode cX5_parts 178 = .ok (.istore 7, 2) := by decide +kernel
theorem dX5_parts_180 : decode cX5_parts 180 = .ok (.iload 7, 2) := by decide +kernel
theorem dX5_parts_182 : decode cX5_parts 182 = .ok (.aload_n 1, 1) := by decide +kernel
theorem dX5_parts_183 : decode cX5_parts 183 = .ok (.iload 5, 2) := by decide +kernel
theorem dX5_parts_185 : decode cX5_parts 185 = .ok (.aaload, 1) := by decide +kernel
theorem dX5_parts_186 : decode cX5_parts 186 = .ok (.iload 6, 2) := by decide +kernel
theorem dX5_parts_188 : decode cX5_parts 188 = .ok (.iaload, 1) := by decide +kernel
theorem dX5_parts_189 : decode cX5_parts 189 = .ok (.if_icmp .gt 6, 3) := by decide +kernel
theorem dX5_parts_192 : decode cX5_parts 192 = .ok (.goto 14, 3) := by decide +kernel
theorem dX5_parts_195 : decode cX5_parts 195 = .ok (.aload_n 1, 1) := by decide +kernel
theorem dX5_parts_196 : decode cX5_parts 196 = .ok (.iload 5, 2) := by decide +kernel
theorem dX5_parts_198 : decode cX5_parts 198 = .ok (.aaload, 1) := by decide +kernel
theorem dX5_parts_199 : decode cX5_parts 199 = .ok (.iload 6, 2) := by decide +kernel
theorem dX5_parts_201 : decode cX5_parts 201 = .ok (.iload 7, 2) := by decide +kernel
theorem dX5_parts_203 : decode cX5_parts 203 = .ok (.iastore, 1) := by decide +kernel
theorem dX5_parts_204 : decode cX5_parts 204 = .ok (.iconst 1, 1) := by decide +kernel
theorem dX5_parts_205 : decode cX5_parts 205 = .ok (.istore_n 2, 1) := by decide +kernel
theorem dX5_parts_206 : decode cX5_parts 206 = .ok (.iinc 3 1, 3) := by decide +kernel
theorem dX5_parts_209 : decode cX5_parts 209 = .ok (.goto (-132), 3) := by decide +kernel
theorem dX5_parts_212 : decode cX5_parts 212 = .ok (.goto (-143), 3) := by decide +kernel
theorem dX5_parts_215 : decode cX5_parts 215 = .ok (.iconst 0, 1) := by decide +kernel
theorem dX5_parts_216 : decode cX5_parts 216 = .ok (.istore_n 3, 1) := by decide +kernel
theorem dX5_parts_217 : decode cX5_parts 217 = .ok (.iconst 0, 1) := by decide +kernel
theorem dX5_parts_218 : decode cX5_parts 218 = .ok (.istore 4, 2) := by decide +kernel
theorem dX5_parts_220 : decode cX5_parts 220 = .ok (.iload 4, 2) := by decide +kernel
theorem dX5_parts_222 : decode cX5_parts 222 = .ok (.bipush 24, 2) := by decide +kernel
theorem dX5_parts_224 : decode cX5_parts 224 = .ok (.if_icmp .ge 57, 3) := by decide +kernel
theorem dX5_parts_227 : decode cX5_parts 227 = .ok (.iconst 0, 1) := by decide +kernel
theorem dX5_parts_228 : decode cX5_parts 228 = .ok (.istore 5, 2) := by decide +kernel
theorem dX5_parts_230 : decode cX5_parts 230 = .ok (.iload 5, 2) := by decide +kernel
theorem dX5_parts_232 : decode cX5_parts 232 = .ok (.bipush 24, 2) := by decide +kernel
theorem dX5_parts_234 : decode cX5_parts 234 = .ok (.if_icmp .ge 41, 3) := by decide +kernel
theorem dX5_parts_237 : decode cX5_parts 237 = .ok (.iload_n 3, 1) := by decide +kernel
theorem dX5_parts_238 : decode cX5_parts 238 = .ok (.aload_n 1, 1) := by decide +kernel
theorem dX5_parts_239 : decode cX5_parts 239 = .ok (.iload 4, 2) := by decide +kernel
theorem dX5_parts_241 : decode cX5_parts 241 = .ok (.iconst 1, 1) := by decide +kernel
theorem dX5_parts_242 : decode cX5_parts 242 = .ok (.iadd, 1) := by decide +kernel
theorem dX5_parts_243 : decode cX5_parts 243 = .ok (.aaload, 1) := by decide +kernel
theorem dX5_parts_244 : decode cX5_parts 244 = .ok (.iload 5, 2) := by decide +kernel
theorem dX5_parts_246 : decode cX5_parts 246 = .ok (.iconst 1, 1) := by decide +kernel
theorem dX5_parts_247 : decode cX5_parts 247 = .ok (.iadd, 1) := by decide +kernel
theorem dX5_parts_248 : decode cX5_parts 248 = .ok (.iaload, 1) := by decide +kernel
theorem dX5_parts_249 : decode cX5_parts 249 = .ok (.iconst 1, 1) := by decide +kernel
theorem dX5_parts_250 : decode cX5_parts 250 = .ok (.bipush 24, 2) := by decide +kernel
theorem dX5_parts_252 : decode cX5_parts 252 = .ok (.iload 4, 2) := by decide +kernel
theorem dX5_parts_254 : decode cX5_parts 254 = .ok (.imul, 1) := by decide +kernel
theorem dX5_parts_255 : decode cX5_parts 255 = .ok (.iadd, 1) := by decide +kernel
theorem dX5_parts_256 : decode cX5_parts 256 = .ok (.iload 5, 2) := by decide +kernel
theorem dX5_parts_258 : decode cX5_parts 258 = .ok (.iadd, 1) := by decide +kernel
theorem dX5_parts_259 : decode cX5_parts 259 = .ok (.if_icmp .ne 7, 3) := by decide +kernel
theorem dX5_parts_262 : decode cX5_parts 262 = .ok (.iconst 1, 1) := by decide +kernel
theorem dX5_parts_263 : decode cX5_parts 263 = .ok (.goto 4, 3) := by decide +kernel
theorem dX5_parts_266 : decode cX5_parts 266 = .ok (.iconst 0, 1) := by decide +kernel
theorem dX5_parts_267 : decode cX5_parts 267 = .ok (.iadd, 1) := by decide +kernel
theorem dX5_parts_268 : decode cX5_parts 268 = .ok (.istore_n 3, 1) := by decide +kernel
theorem dX5_parts_269 : decode cX5_parts 269 = .ok (.iinc 5 1, 3) := by decide +kernel
theorem dX5_parts_272 : decode cX5_parts 272 = .ok (.goto (-42), 3) := by decide +kernel
theorem dX5_parts_275 : decode cX5_parts 275 = .ok (.iinc 4 1, 3) := by decide +kernel
theorem dX5_parts_278 : decode cX5_parts 278 = .ok (.goto (-58), 3) := by decide +kernel
theorem dX5_parts_281 : decode cX5_parts 281 = .ok (.iload_n 3, 1) := by decide +kernel
theorem dX5_parts_282 : decode cX5_parts 282 = .ok (.ireturn, 1) := by decide +kernel
theorem dX5_shared_0 : decode cX5_shared 0 = .ok (.iconst 0, 1) := by decide +kernel
theorem dX5_shared_1 : decode cX5_shared 1 = .ok (.istore_n 3, 1) := by decide +kernel
theorem dX5_shared_2 : decode cX5_shared 2 = .ok (.iconst 0, 1) := by decide +kernel
theorem dX5_shared_3 : decode cX5_shared 3 = .ok (.istore 4, 2) := by decide +kernel
theorem dX5_shared_5 : decode cX5_shared 5 = .ok (.iload 4, 2) := by decide +kernel
theorem dX5_shared_7 : decode cX5_shared 7 = .ok (.bipush 24, 2) := by decide +kernel
theorem dX5_shared_9 : decode cX5_shared 9 = .ok (.if_icmp .ge 57, 3) := by decide +kernel
theorem dX5_shared_12 : decode cX5_shared 12 = .ok (.iconst 0, 1) := by decide +kernel
theorem dX5_shared_13 : decode cX5_shared 13 = .ok (.istore 5, 2) := by decide +kernel
theorem dX5_shared_15 : decode cX5_shared 15 = .ok (.iload 5, 2) := by decide +kernel
theorem dX5_shared_17 : decode cX5_shared 17 = .ok (.bipush 24, 2) := by decide +kernel
theorem dX5_shared_19 : decode cX5_shared 19 = .ok (.if_icmp .ge 41, 3) := by decide +kernel
theorem dX5_shared_22 : decode cX5_shared 22 = .ok (.iload_n 3, 1) := by decide +kernel
theorem dX5_shared_23 : decode cX5_shared 23 = .ok (.aload_n 0, 1) := by decide +kernel
theorem dX5_shared_24 : decode cX5_shared 24 = .ok (.iload_n 1, 1) := by decide +kernel
theorem dX5_shared_25 : decode cX5_shared 25 = .ok (.iload 4, 2) := by decide +kernel
theorem dX5_shared_27 : decode cX5_shared 27 = .ok (.iload 5, 2) := by decide +kernel
theorem dX5_shared_29 : decode cX5_shared 29 = .ok (.invokevirtual 22, 3) := by decide +kernel
theorem dX5_shared_32 : decode cX5_shared 32 = .ok (.ifCond .eq 19, 3) := by decide +kernel
theorem dX5_shared_35 : decode cX5_shared 35 = .ok (.aload_n 0, 1) := by decide +kernel
theorem dX5_shared_36 : decode cX5_shared 36 = .ok (.iload_n 2, 1) := by decide +kernel
theorem dX5_shared_37 : decode cX5_shared 37 = .ok (.iload 4, 2) := by decide +kernel
theorem dX5_shared_39 : decode cX5_shared 39 = .ok (.iload 5, 2) := by decide +kernel
theorem dX5_shared_41 : decode cX5_shared 41 = .ok (.invokevirtual 22, 3) := by decide +kernel
theorem dX5_shared_44 : decode cX5_shared 44 = .ok (.ifCond .eq 7, 3) := by decide +kernel
theorem dX5_shared_47 : decode cX5_shared 47 = .ok (.iconst 1, 1) := by decide +kernel
theorem dX5_shared_48 : decode cX5_shared 48 = .ok (.goto 4, 3) := by decide +kernel
theorem dX5_shared_51 : decode cX5_shared 51 = .ok (.iconst 0, 1) := by decide +kernel
theorem dX5_shared_52 : decode cX5_shared 52 = .ok (.iadd, 1) := by decide +kernel
theorem dX5_shared_53 : decode cX5_shared 53 = .ok (.istore_n 3, 1) := by decide +kernel
theorem dX5_shared_54 : decode cX5_shared 54 = .ok (.iinc 5 1, 3) := by decide +kernel
theorem dX5_shared_57 : decode cX5_shared 57 = .ok (.goto (-42), 3) := by decide +kernel
theorem dX5_shared_60 : decode cX5_shared 60 = .ok (.iinc 4 1, 3) := by decide +kernel
theorem dX5_shared_63 : decode cX5_shared 63 = .ok (.goto (-58), 3) := by decide +kernel
theorem dX5_shared_66 : decode cX5_shared 66 = .ok (.iload_n 3, 1) := by decide +kernel
theorem dX5_shared_67 : decode cX5_shared 67 = .ok (.ireturn, 1) := by decide +kernel
theorem dX5_isSame_0 : decode cX5_isSame 0 = .ok (.bipush 11, 2) := by decide +kernel
theorem dX5_isSame_2 : decode cX5_isSame 2 = .ok (.newarray .int, 2) := by decide +kernel
theorem dX5_isSame_4 : decode cX5_isSame 4 = .ok (.dup, 1) := by decide +kernel
theorem dX5_isSame_5 : decode cX5_isSame 5 = .ok (.iconst 0, 1) := by decide +kernel
theorem dX5_isSame_6 : decode cX5_isSame 6 = .ok (.aload_n 0, 1) := by decide +kernel
theorem dX5_isSame_7 : decode cX5_isSame 7 = .ok (.getfield 9, 3) := by decide +kernel
theorem dX5_isSame_10 : decode cX5_isSame 10 = .ok (.arraylength, 1) := by decide +kernel
theorem dX5_isSame_11 : decode cX5_isSame 11 = .ok (.iastore, 1) := by decide +kernel
theorem dX5_isSame_12 : decode cX5_isSame 12 = .ok (.dup, 1) := by decide +kernel
theorem dX5_isSame_13 : decode cX5_isSame 13 = .ok (.iconst 1, 1) := by decide +kernel
theorem dX5_isSame_14 : decode cX5_isSame 14 = .ok (.iconst 0, 1) := by decide +kernel
theorem dX5_isSame_15 : decode cX5_isSame 15 = .ok (.iastore, 1) := by decide +kernel
theorem dX5_isSame_16 : decode cX5_isSame 16 = .ok (.dup, 1) := by decide +kernel
theorem dX5_isSame_17 : decode cX5_isSame 17 = .ok (.iconst 2, 1) := by decide +kernel
theorem dX5_isSame_18 : decode cX5_isSame 18 = .ok (.aload_n 0, 1) := by decide +kernel
theorem dX5_isSame_19 : decode cX5_isSame 19 = .ok (.getfield 15, 3) := by decide +kernel
theorem dX5_isSame_22 : decode cX5_isSame 22 = .ok (.arraylength, 1) := by decide +kernel
theorem dX5_isSame_23 : decode cX5_isSame 23 = .ok (.iastore, 1) := by decide +kernel
theorem dX5_isSame_24 : decode cX5_isSame 24 = .ok (.dup, 1) := by decide +kernel
theorem dX5_isSame_25 : decode cX5_isSame 25 = .ok (.iconst 3, 1) := by decide +kernel
theorem dX5_isSame_26 : decode cX5_isSame 26 = .ok (.aload_n 0, 1) := by decide +kernel
theorem dX5_isSame_27 : decode cX5_isSame 27 = .ok (.invokevirtual 54, 3) := by decide +kernel
theorem dX5_isSame_30 : decode cX5_isSame 30 = .ok (.iastore, 1) := by decide +kernel
theorem dX5_isSame_31 : decode cX5_isSame 31 = .ok (.dup, 1) := by decide +kernel
theorem dX5_isSame_32 : decode cX5_isSame 32 = .ok (.iconst 4, 1) := by decide +kernel
theorem dX5_isSame_33 : decode cX5_isSame 33 = .ok (.aload_n 0, 1) := by decide +kernel
theorem dX5_isSame_34 : decode cX5_isSame 34 = .ok (.invokevirtual 58, 3) := by decide +kernel
theorem dX5_isSame_37 : decode cX5_isSame 37 = .ok (.iastore, 1) := by decide +kernel
theorem dX5_isSame_38 : decode cX5_isSame 38 = .ok (.dup, 1) := by decide +kernel
theorem dX5_isSame_39 : decode cX5_isSame 39 = .ok (.iconst 5, 1) := by decide +kernel
theorem dX5_isSame_40 : decode cX5_isSame 40 = .ok (.aload_n 0, 1) := by decide +kernel
theorem dX5_isSame_41 : decode cX5_isSame 41 = .ok (.invokevirtual 61, 3) := by decide +kernel
theorem dX5_isSame_44 : decode cX5_isSame 44 = .ok (.iastore, 1) := by decide +kernel
theorem dX5_isSame_45 : decode cX5_isSame 45 = .ok (.dup, 1) := by decide +kernel
theorem dX5_isSame_46 : decode cX5_isSame 46 = .ok (.bipush 6, 2) := by decide +kernel
theorem dX5_isSame_48 : decode cX5_isSame 48 = .ok (.iconst 0, 1) := by decide +kernel
theorem dX5_isSame_49 : decode cX5_isSame 49 = .ok (.iastore, 1) := by decide +kernel
theorem dX5_isSame_50 : decode cX5_isSame 50 = .ok (.dup, 1) := by decide +kernel
theorem dX5_isSame_51 : decode cX5_isSame 51 = .ok (.bipush 7, 2) := by decide +kernel
theorem dX5_isSame_53 : decode cX5_isSame 53 = .ok (.aload_n 0, 1) := by decide +kernel
theorem dX5_isSame_54 : decode cX5_isSame 54 = .ok (.getfield 42, 3) := by decide +kernel
theorem dX5_isSame_57 : decode cX5_isSame 57 = .ok (.iastore, 1) := by decide +kernel
theorem dX5_isSame_58 : decode cX5_isSame 58 = .ok (.dup, 1) := by decide +kernel
theorem dX5_isSame_59 : decode cX5_isSame 59 = .ok (.bipush 8, 2) := by decide +kernel
theorem dX5_isSame_61 : decode cX5_isSame 61 = .ok (.iconst 0, 1) := by decide +kernel
theorem dX5_isSame_62 : decode cX5_isSame 62 = .ok (.iastore, 1) := by decide +kernel
theorem dX5_isSame_63 : decode cX5_isSame 63 = .ok (.dup, 1) := by decide +kernel
theorem dX5_isSame_64 : decode cX5_isSame 64 = .ok (.bipush 9, 2) := by decide +kernel
theorem dX5_isSame_66 : decode cX5_isSame 66 = .ok (.aload_n 0, 1) := by decide +kernel
theorem dX5_isSame_67 : decode cX5_isSame 67 = .ok (.getfield 38, 3) := by decide +kernel
theorem dX5_isSame_70 : decode cX5_isSame 70 = .ok (.iastore, 1) := by decide +kernel
theorem dX5_isSame_71 : decode cX5_isSame 71 = .ok (.dup, 1) := by decide +kernel
theorem dX5_isSame_72 : decode cX5_isSame 72 = .ok (.bipush 10, 2) := by decide +kernel
theorem dX5_isSame_74 : decode cX5_isSame 74 = .ok (.iconst 0, 1) := by decide +kernel
theorem dX5_isSame_75 : decode cX5_isSame 75 = .ok (.iastore, 1) := by decide +kernel
theorem dX5_isSame_76 : decode cX5_isSame 76 = .ok (.astore_n 2, 1) := by decide +kernel
theorem dX5_isSame_77 : decode cX5_isSame 77 = .ok (.iconst 0, 1) := by decide +kernel
theorem dX5_isSame_78 : decode cX5_isSame 78 = .ok (.istore_n 3, 1) := by decide +kernel
theorem dX5_isSame_79 : decode cX5_isSame 79 = .ok (.iload_n 3, 1) := by decide +kernel
theorem dX5_isSame_80 : decode cX5_isSame 80 = .ok (.bipush 24, 2) := by decide +kernel
theorem dX5_isSame_82 : decode cX5_isSame 82 = .ok (.if_icmp .ge 248, 3) := by decide +kernel
theorem dX5_isSame_85 : decode cX5_isSame 85 = .ok (.iconst 0, 1) := by decide +kernel
theorem dX5_isSame_86 : decode cX5_isSame 86 = .ok (.istore 4, 2) := by decide +kernel
theorem dX5_isSame_88 : decode cX5_isSame 88 = .ok (.iconst 0, 1) := by decide +kernel
theorem dX5_isSame_89 : decode cX5_isSame 89 = .ok (.istore 5, 2) := by decide +kernel
theorem dX5_isSame_91 : decode cX5_isSame 91 = .ok (.iconst 0, 1) := by decide +kernel
theorem dX5_isSame_92 : decode cX5_isSame 92 = .ok (.istore 6, 2) := by decide +kernel
theorem dX5_isSame_94 : decode cX5_isSame 94 = .ok (.iconst 0, 1) := by decide +kernel
theorem dX5_isSame_95 : decode cX5_isSame 95 = .ok (.istore 7, 2) := by decide +kernel
theorem dX5_isSame_97 : decode cX5_isSame 97 = .ok (.iconst 0, 1) := by decide +kernel
theorem dX5_isSame_98 : decode cX5_isSame 98 = .ok (.istore 8, 2) := by decide +kernel
theorem dX5_isSame_100 : decode cX5_isSame 100 = .ok (.iconst 0, 1) := by decide +kernel
theorem dX5_isSame_101 : decode cX5_isSame 101 = .ok (.istore 9, 2) := by decide +kernel
theorem dX5_isSame_103 : decode cX5_isSame 103 = .ok (.iload 9, 2) := by decide +kernel
theorem dX5_isSame_105 : decode cX5_isSame 105 = .ok (.bipush 24, 2) := by decide +kernel
theorem dX5_isSame_107 : decode cX5_isSame 107 = .ok (.if_icmp .ge 171, 3) := by decide +kernel
theorem dX5_isSame_110 : decode cX5_isSame 110 = .ok (.aload_n 0, 1) := by decide +kernel
theorem dX5_isSame_111 : decode cX5_isSame 111 = .ok (.iload_n 3, 1) := by decide +kernel
theorem dX5_isSame_112 : decode cX5_isSame 112 = .ok (.iload 9, 2) := by decide +kernel
theorem dX5_isSame_114 : decode cX5_isSame 114 = .ok (.invokevirtual 26, 3) := by decide +kernel
theorem dX5_isSame_117 : decode cX5_isSame 117 = .ok (.istore 10, 2) := by decide +kernel
theorem dX5_isSame_119 : decode cX5_isSame 119 = .ok (.aload_n 2, 1) := by decide +kernel
theorem dX5_isSame_120 : decode cX5_isSame 120 = .ok (.bipush 6, 2) := by decide +kernel
theorem dX5_isSame_122 : decode cX5_isSame 122 = .ok (.dup2, 1) := by decide +kernel
theorem dX5_isSame_123 : decode cX5_isSame 123 = .ok (.iaload, 1) := by decide +kernel
theorem dX5_isSame_124 : decode cX5_isSame 124 = .ok (.iload 10, 2) := by decide +kernel
theorem dX5_isSame_126 : decode cX5_isSame 126 = .ok (.iconst 1, 1) := by decide +kernel
theorem dX5_isSame_127 : decode cX5_isSame 127 = .ok (.if_icmp .le 7, 3) := by decide +kernel
theorem dX5_isSame_130 : decode cX5_isSame 130 = .ok (.iconst 1, 1) := by decide +kernel
theorem dX5_isSame_131 : decode cX5_isSame 131 = .ok (.goto 4, 3) := by decide +kernel
theorem dX5_isSame_134 : decode cX5_isSame 134 = .ok (.iconst 0, 1) := by decide +kernel
theorem dX5_isSame_135 : decode cX5_isSame 135 = .ok (.iadd, 1) := by decide +kernel
theorem dX5_isSame_136 : decode cX5_isSame 136 = .ok (.iastore, 1) := by decide +kernel
theorem dX5_isSame_137 : decode cX5_isSame 137 = .ok (.aload_n 2, 1) := by decide +kernel
theorem dX5_isSame_138 : decode cX5_isSame 138 = .ok (.bipush 8, 2) := by decide +kernel
theorem dX5_isSame_140 : decode cX5_isSame 140 = .ok (.dup2, 1) := by decide +kernel
theorem dX5_isSame_141 : decode cX5_isSame 141 = .ok (.iaload, 1) := by decide +kernel
theorem dX5_isSame_142 : decode cX5_isSame 142 = .ok (.aload_n 0, 1) := by decide +kernel
theorem dX5_isSame_143 : decode cX5_isSame 143 = .ok (.getfield 19, 3) := by decide +kernel
theorem dX5_isSame_146 : decode cX5_isSame 146 = .ok (.iload_n 3, 1) := by decide +kernel
theorem dX5_isSame_147 : decode cX5_isSame 147 = .ok (.aaload, 1) := by decide +kernel
theorem dX5_isSame_148 : decode cX5_isSame 148 = .ok (.iload 9, 2) := by decide +kernel
theorem dX5_isSame_150 : decode cX5_isSame 150 = .ok (.iaload, 1) := by decide +kernel
theorem dX5_isSame_151 : decode cX5_isSame 151 = .ok (.iadd, 1) := by decide +kernel
theorem dX5_isSame_152 : decode cX5_isSame 152 = .ok (.iastore, 1) := by decide +kernel
theorem dX5_isSame_153 : decode cX5_isSame 153 = .ok (.aload_n 1, 1) := by decide +kernel
theorem dX5_isSame_154 : decode cX5_isSame 154 = .ok (.iload_n 3, 1) := by decide +kernel
theorem dX5_isSame_155 : decode cX5_isSame 155 = .ok (.iload 9, 2) := by decide +kernel
theorem dX5_isSame_157 : decode cX5_isSame 157 = .ok (.iconst 0, 1) := by decide +kernel
theorem dX5_isSame_158 : decode cX5_isSame 158 = .ok (.invokevirtual 64, 3) := by decide +kernel
theorem dX5_isSame_161 : decode cX5_isSame 161 = .ok (.iload 10, 2) := by decide +kernel
theorem dX5_isSame_163 : decode cX5_isSame 163 = .ok (.if_icmp .ne 43, 3) := by decide +kernel
theorem dX5_isSame_166 : decode cX5_isSame 166 = .ok (.aload_n 1, 1) := by decide +kernel
theorem dX5_isSame_167 : decode cX5_isSame 167 = .ok (.iload_n 3, 1) := by decide +kernel
theorem dX5_isSame_168 : decode cX5_isSame 168 = .ok (.iload 9, 2) := by decide +kernel
theorem dX5_isSame_170 : decode cX5_isSame 170 = .ok (.iconst 1, 1) := by decide +kernel
theorem dX5_isSame_171 : decode cX5_isSame 171 = .ok (.invokevirtual 64, 3) := by decide +kernel
theorem dX5_isSame_174 : decode cX5_isSame 174 = .ok (.aload_n 0, 1) := by decide +kernel
theorem dX5_isSame_175 : decode cX5_isSame 175 = .ok (.iload_n 3, 1) := by decide +kernel
theorem dX5_isSame_176 : decode cX5_isSame 176 = .ok (.iload 9, 2) := by decide +kernel
theorem dX5_isSame_178 : decode cX5_isSame 178 = .ok (.bipush 10, 2) := by decide +kernel
theorem dX5_isSame_180 : decode cX5_isSame 180 = .ok (.invokevirtual 30, 3) := by decide +kernel
theorem dX5_isSame_183 : decode cX5_isSame 183 = .ok (.if_icmp .ne 23, 3) := by decide +kernel
theorem dX5_isSame_186 : decode cX5_isSame 186 = .ok (.aload_n 1, 1) := by decide +kernel
theorem dX5_isSame_187 : decode cX5_isSame 187 = .ok (.iload_n 3, 1) := by decide +kernel
theorem dX5_isSame_188 : decode cX5_isSame 188 = .ok (.iload 9, 2) := by decide +kernel
theorem dX5_isSame_190 : decode cX5_isSame 190 = .ok (.iconst 2, 1) := by decide +kernel
theorem dX5_isSame_191 : decode cX5_isSame 191 = .ok (.invokevirtual 64, 3) := by decide +kernel
theorem dX5_isSame_194 : decode cX5_isSame 194 = .ok (.aload_n 0, 1) := by decide +kernel
theorem dX5_isSame_195 : decode cX5_isSame 195 = .ok (.getfield 19, 3) := by decide +kernel
theorem dX5_isSame_198 : decode cX5_isSame 198 = .ok (.iload_n 3, 1) := by decide +kernel
theorem dX5_isSame_199 : decode cX5_isSame 199 = .ok (.aaload, 1) := by decide +kernel
theorem dX5_isSame_200 : decode cX5_isSame 200 = .ok (.iload 9, 2) := by decide +kernel
theorem dX5_isSame_202 : decode cX5_isSame 202 = .ok (.iaload, 1) := by decide +kernel
theorem dX5_isSame_203 : decode cX5_isSame 203 = .ok (.if_icmp .eq 5, 3) := by decide +kernel
theorem dX5_isSame_206 : decode cX5_isSame 206 = .ok (.iconst 0, 1) := by decide +kernel
theorem dX5_isSame_207 : decode cX5_isSame 207 = .ok (.ireturn, 1) := by decide +kernel
theorem dX5_isSame_208 : decode cX5_isSame 208 = .ok (.iload 10, 2) := by decide +kernel
theorem dX5_isSame_210 : decode cX5_isSame 210 = .ok (.ifCond .le 10, 3) := by decide +kernel
theorem dX5_isSame_213 : decode cX5_isSame 213 = .ok (.iload 7, 2) := by decide +kernel
theorem dX5_isSame_215 : decode cX5_isSame 215 = .ok (.iconst 1, 1) := by decide +kernel
theorem dX5_isSame_216 : decode cX5_isSame 216 = .ok (.iadd, 1) := by decide +kernel
theorem dX5_isSame_217 : decode cX5_isSame 217 = .ok (.goto 4, 3) := by decide +kernel
theorem dX5_isSame_220 : decode cX5_isSame 220 = .ok (.iconst 0, 1) := by decide +kernel
theorem dX5_isSame_221 : decode cX5_isSame 221 = .ok (.istore 7, 2) := by decide +kernel
theorem dX5_isSame_223 : decode cX5_isSame 223 = .ok (.iload 4, 2) := by decide +kernel
theorem dX5_isSame_225 : decode cX5_isSame 225 = .ok (.iload 10, 2) := by decide +kernel
theorem dX5_isSame_227 : decode cX5_isSame 227 = .ok (.ifCond .le 7, 3) := by decide +kernel
theorem dX5_isSame_230 : decode cX5_isSame 230 = .ok (.iconst 1, 1) := by decide +kernel
theorem dX5_isSame_231 : decode cX5_isSame 231 = .ok (.goto 4, 3) := by decide +kernel
theorem dX5_isSame_234 : decode cX5_isSame 234 = .ok (.iconst 0, 1) := by decide +kernel
theorem dX5_isSame_235 : decode cX5_isSame 235 = .ok (.iadd, 1) := by decide +kernel
theorem dX5_isSame_236 : decode cX5_isSame 236 = .ok (.istore 4, 2) := by decide +kernel
theorem dX5_isSame_238 : decode cX5_isSame 238 = .ok (.iload 5, 2) := by decide +kernel
theorem dX5_isSame_240 : decode cX5_isSame 240 = .ok (.iload 7, 2) := by decide +kernel
theorem dX5_isSame_242 : decode cX5_isSame 242 = .ok (.iconst 1, 1) := by decide +kernel
theorem dX5_isSame_243 : decode cX5_isSame 243 = .ok (.if_icmp .ne 7, 3) := by decide +kernel
theorem dX5_isSame_246 : decode cX5_isSame 246 = .ok (.iconst 1, 1) := by decide +kernel
theorem dX5_isSame_247 : decode cX5_isSame 247 = .ok (.goto 4, 3) := by decide +kernel
theorem dX5_isSame_250 : decode cX5_isSame 250 = .ok (.iconst 0, 1) := by decide +kernel
theorem dX5_isSame_251 : decode cX5_isSame 251 = .ok (.iadd, 1) := by decide +kernel
theorem dX5_isSame_252 : decode cX5_isSame 252 = .ok (.istore 5, 2) := by decide +kernel
theorem dX5_isSame_254 : decode cX5_isSame 254 = .ok (.iload 6, 2) := by decide +kernel
theorem dX5_isSame_256 : decode cX5_isSame 256 = .ok (.iload 7, 2) := by decide +kernel
theorem dX5_isSame_258 : decode cX5_isSame 258 = .ok (.invokestatic 49, 3) := by decide +kernel
theorem dX5_isSame_261 : decode cX5_isSame 261 = .ok (.istore 6, 2) := by decide +kernel
theorem dX5_isSame_263 : decode cX5_isSame 263 = .ok (.iload 8, 2) := by decide +kernel
theorem dX5_isSame_265 : decode cX5_isSame 265 = .ok (.iload 10, 2) := by decide +kernel
theorem dX5_isSame_267 : decode cX5_isSame 267 = .ok (.invokestatic 49, 3) := by decide +kernel
theorem dX5_isSame_270 : decode cX5_isSame 270 = .ok (.istore 8, 2) := by decide +kernel
theorem dX5_isSame_272 : decode cX5_isSame 272 = .ok (.iinc 9 1, 3) := by decide +kernel
theorem dX5_isSame_275 : decode cX5_isSame 275 = .ok (.goto (-172), 3) := by decide +kernel
theorem dX5_isSame_278 : decode cX5_isSame 278 = .ok (.aload_n 1, 1) := by decide +kernel
theorem dX5_isSame_279 : decode cX5_isSame 279 = .ok (.iload_n 3, 1) := by decide +kernel
theorem dX5_isSame_280 : decode cX5_isSame 280 = .ok (.iconst 0, 1) := by decide +kernel
theorem dX5_isSame_281 : decode cX5_isSame 281 = .ok (.invokevirtual 69, 3) := by decide +kernel
theorem dX5_isSame_284 : decode cX5_isSame 284 = .ok (.iload 4, 2) := by decide +kernel
theorem dX5_isSame_286 : decode cX5_isSame 286 = .ok (.if_icmp .ne 36, 3) := by decide +kernel
theorem dX5_isSame_289 : decode cX5_isSame 289 = .ok (.aload_n 1, 1) := by decide +kernel
theorem dX5_isSame_290 : decode cX5_isSame 290 = .ok (.iload_n 3, 1) := by decide +kernel
theorem dX5_isSame_291 : decode cX5_isSame 291 = .ok (.iconst 1, 1) := by decide +kernel
theorem dX5_isSame_292 : decode cX5_isSame 292 = .ok (.invokevirtual 69, 3) := by decide +kernel
theorem dX5_isSame_295 : decode cX5_isSame 295 = .ok (.iload 5, 2) := by decide +kernel
theorem dX5_isSame_297 : decode cX5_isSame 297 = .ok (.if_icmp .ne 25, 3) := by decide +kernel
theorem dX5_isSame_300 : decode cX5_isSame 300 = .ok (.aload_n 1, 1) := by decide +kernel
theorem dX5_isSame_301 : decode cX5_isSame 301 = .ok (.iload_n 3, 1) := by decide +kernel
theorem dX5_isSame_302 : decode cX5_isSame 302 = .ok (.iconst 2, 1) := by decide +kernel
theorem dX5_isSame_303 : decode cX5_isSame 303 = .ok (.invokevirtual 69, 3) := by decide +kernel
theorem dX5_isSame_306 : decode cX5_isSame 306 = .ok (.iload 6, 2) := by decide +kernel
theorem dX5_isSame_308 : decode cX5_isSame 308 = .ok (.if_icmp .ne 14, 3) := by decide +kernel
theorem dX5_isSame_311 : decode cX5_isSame 311 = .ok (.aload_n 1, 1) := by decide +kernel
theorem dX5_isSame_312 : decode cX5_isSame 312 = .ok (.iload_n 3, 1) := by decide +kernel
theorem dX5_isSame_313 : decode cX5_isSame 313 = .ok (.iconst 3, 1) := by decide +kernel
theorem dX5_isSame_314 : decode cX5_isSame 314 = .ok (.invokevirtual 69, 3) := by decide +kernel
theorem dX5_isSame_317 : decode cX5_isSame 317 = .ok (.iload 8, 2) := by decide +kernel
theorem dX5_isSame_319 : decode cX5_isSame 319 = .ok (.if_icmp .eq 5, 3) := by decide +kernel
theorem dX5_isSame_322 : decode cX5_isSame 322 = .ok (.iconst 0, 1) := by decide +kernel
theorem dX5_isSame_323 : decode cX5_isSame 323 = .ok (.ireturn, 1) := by decide +kernel
theorem dX5_isSame_324 : decode cX5_isSame 324 = .ok (.iinc 3 1, 3) := by decide +kernel
theorem dX5_isSame_327 : decode cX5_isSame 327 = .ok (.goto (-248), 3) := by decide +kernel
theorem dX5_isSame_330 : decode cX5_isSame 330 = .ok (.iconst 0, 1) := by decide +kernel
theorem dX5_isSame_331 : decode cX5_isSame 331 = .ok (.istore_n 3, 1) := by decide +kernel
theorem dX5_isSame_332 : decode cX5_isSame 332 = .ok (.iload_n 3, 1) := by decide +kernel
theorem dX5_isSame_333 : decode cX5_isSame 333 = .ok (.aload_n 0, 1) := by decide +kernel
theorem dX5_isSame_334 : decode cX5_isSame 334 = .ok (.getfield 9, 3) := by decide +kernel
theorem dX5_isSame_337 : decode cX5_isSame 337 = .ok (.arraylength, 1) := by decide +kernel
theorem dX5_isSame_338 : decode cX5_isSame 338 = .ok (.if_icmp .ge 130, 3) := by decide +kernel
theorem dX5_isSame_341 : decode cX5_isSame 341 = .ok (.aload_n 2, 1) := by decide +kernel
theorem dX5_isSame_342 : decode cX5_isSame 342 = .ok (.iconst 1, 1) := by decide +kernel
theorem dX5_isSame_343 : decode cX5_isSame 343 = .ok (.dup2, 1) := by decide +kernel
theorem dX5_isSame_344 : decode cX5_isSame 344 = .ok (.iaload, 1) := by decide +kernel
theorem dX5_isSame_345 : decode cX5_isSame 345 = .ok (.aload_n 0, 1) := by decide +kernel
theorem dX5_isSame_346 : decode cX5_isSame 346 = .ok (.getfield 9, 3) := by decide +kernel
theorem dX5_isSame_349 : decode cX5_isSame 349 = .ok (.iload_n 3, 1) := by decide +kernel
theorem dX5_isSame_350 : decode cX5_isSame 350 = .ok (.aaload, 1) := by decide +kernel
theorem dX5_isSame_351 : decode cX5_isSame 351 = .ok (.bipush 6, 2) := by decide +kernel
theorem dX5_isSame_353 : decode cX5_isSame 353 = .ok (.iaload, 1) := by decide +kernel
theorem dX5_isSame_354 : decode cX5_isSame 354 = .ok (.iadd, 1) := by decide +kernel
theorem dX5_isSame_355 : decode cX5_isSame 355 = .ok (.iastore, 1) := by decide +kernel
theorem dX5_isSame_356 : decode cX5_isSame 356 = .ok (.iconst 0, 1) := by decide +kernel
theorem dX5_isSame_357 : decode cX5_isSame 357 = .ok (.istore 4, 2) := by decide +kernel
theorem dX5_isSame_359 : decode cX5_isSame 359 = .ok (.iload 4, 2) := by decide +kernel
theorem dX5_isSame_361 : decode cX5_isSame 361 = .ok (.bipush 7, 2) := by decide +kernel
theorem dX5_isSame_363 : decode cX5_isSame 363 = .ok (.if_icmp .ge 30, 3) := by decide +kernel
theorem dX5_isSame_366 : decode cX5_isSame 366 = .ok (.aload_n 1, 1) := by decide +kernel
theorem dX5_isSame_367 : decode cX5_isSame 367 = .ok (.iload_n 3, 1) := by decide +kernel
theorem dX5_isSame_368 : decode cX5_isSame 368 = .ok (.iload 4, 2) := by decide +kernel
theorem dX5_isSame_370 : decode cX5_isSame 370 = .ok (.invokevirtual 72, 3) := by decide +kernel
theorem dX5_isSame_373 : decode cX5_isSame 373 = .ok (.aload_n 0, 1) := by decide +kernel
theorem dX5_isSame_374 : decode cX5_isSame 374 = .ok (.getfield 9, 3) := by decide +kernel
theorem dX5_isSame_377 : decode cX5_isSame 377 = .ok (.iload_n 3, 1) := by decide +kernel
theorem dX5_isSame_378 : decode cX5_isSame 378 = .ok (.aaload, 1) := by decide +kernel
theorem dX5_isSame_379 : decode cX5_isSame 379 = .ok (.iload 4, 2) := by decide +kernel
theorem dX5_isSame_381 : decode cX5_isSame 381 = .ok (.iaload, 1) := by decide +kernel
theorem dX5_isSame_382 : decode cX5_isSame 382 = .ok (.if_icmp .eq 5, 3) := by decide +kernel
theorem dX5_isSame_385 : decode cX5_isSame 385 = .ok (.iconst 0, 1) := by decide +kernel
theorem dX5_isSame_386 : decode cX5_isSame 386 = .ok (.ireturn, 1) := by decide +kernel
theorem dX5_isSame_387 : decode cX5_isSame 387 = .ok (.iinc 4 1, 3) := by decide +kernel
theorem dX5_isSame_390 : decode cX5_isSame 390 = .ok (.goto (-31), 3) := by decide +kernel
theorem dX5_isSame_393 : decode cX5_isSame 393 = .ok (.aload_n 1, 1) := by decide +kernel
theorem dX5_isSame_394 : decode cX5_isSame 394 = .ok (.iload_n 3, 1) := by decide +kernel
theorem dX5_isSame_395 : decode cX5_isSame 395 = .ok (.bipush 7, 2) := by decide +kernel
theorem dX5_isSame_397 : decode cX5_isSame 397 = .ok (.invokevirtual 72, 3) := by decide +kernel
theorem dX5_isSame_400 : decode cX5_isSame 400 = .ok (.aload_n 0, 1) := by decide +kernel
theorem dX5_isSame_401 : decode cX5_isSame 401 = .ok (.iload_n 3, 1) := by decide +kernel
theorem dX5_isSame_402 : decode cX5_isSame 402 = .ok (.invokevirtual 75, 3) := by decide +kernel
theorem dX5_isSame_405 : decode cX5_isSame 405 = .ok (.if_icmp .ne 22, 3) := by decide +kernel
theorem dX5_isSame_408 : decode cX5_isSame 408 = .ok (.aload_n 1, 1) := by decide +kernel
theorem dX5_isSame_409 : decode cX5_isSame 409 = .ok (.iload_n 3, 1) := by decide +kernel
theorem dX5_isSame_410 : decode cX5_isSame 410 = .ok (.bipush 8, 2) := by decide +kernel
theorem dX5_isSame_412 : decode cX5_isSame 412 = .ok (.invokevirtual 72, 3) := by decide +kernel
theorem dX5_isSame_415 : decode cX5_isSame 415 = .ok (.aload_n 0, 1) := by decide +kernel
theorem dX5_isSame_416 : decode cX5_isSame 416 = .ok (.getfield 9, 3) := by decide +kernel
theorem dX5_isSame_419 : decode cX5_isSame 419 = .ok (.iload_n 3, 1) := by decide +kernel
theorem dX5_isSame_420 : decode cX5_isSame 420 = .ok (.aaload, 1) := by decide +kernel
theorem dX5_isSame_421 : decode cX5_isSame 421 = .ok (.bipush 7, 2) := by decide +kernel
theorem dX5_isSame_423 : decode cX5_isSame 423 = .ok (.iaload, 1) := by decide +kernel
theorem dX5_isSame_424 : decode cX5_isSame 424 = .ok (.if_icmp .eq 5, 3) := by decide +kernel
theorem dX5_isSame_427 : decode cX5_isSame 427 = .ok (.iconst 0, 1) := by decide +kernel
theorem dX5_isSame_428 : decode cX5_isSame 428 = .ok (.ireturn, 1) := by decide +kernel
theorem dX5_isSame_429 : decode cX5_isSame 429 = .ok (.iload_n 3, 1) := by decide +kernel
theorem dX5_isSame_430 : decode cX5_isSame 430 = .ok (.aload_n 0, 1) := by decide +kernel
theorem dX5_isSame_431 : decode cX5_isSame 431 = .ok (.getfield 42, 3) := by decide +kernel
theorem dX5_isSame_434 : decode cX5_isSame 434 = .ok (.iadd, 1) := by decide +kernel
theorem dX5_isSame_435 : decode cX5_isSame 435 = .ok (.aload_n 0, 1) := by decide +kernel
theorem dX5_isSame_436 : decode cX5_isSame 436 = .ok (.getfield 9, 3) := by decide +kernel
theorem dX5_isSame_439 : decode cX5_isSame 439 = .ok (.arraylength, 1) := by decide +kernel
theorem dX5_isSame_440 : decode cX5_isSame 440 = .ok (.irem, 1) := by decide +kernel
theorem dX5_isSame_441 : decode cX5_isSame 441 = .ok (.istore 4, 2) := by decide +kernel
theorem dX5_isSame_443 : decode cX5_isSame 443 = .ok (.aload_n 1, 1) := by decide +kernel
theorem dX5_isSame_444 : decode cX5_isSame 444 = .ok (.iload_n 3, 1) := by decide +kernel
theorem dX5_isSame_445 : decode cX5_isSame 445 = .ok (.iload 4, 2) := by decide +kernel
theorem dX5_isSame_447 : decode cX5_isSame 447 = .ok (.invokevirtual 79, 3) := by decide +kernel
theorem dX5_isSame_450 : decode cX5_isSame 450 = .ok (.aload_n 0, 1) := by decide +kernel
theorem dX5_isSame_451 : decode cX5_isSame 451 = .ok (.iload_n 3, 1) := by decide +kernel
theorem dX5_isSame_452 : decode cX5_isSame 452 = .ok (.iload 4, 2) := by decide +kernel
theorem dX5_isSame_454 : decode cX5_isSame 454 = .ok (.invokevirtual 82, 3) := by decide +kernel
theorem dX5_isSame_457 : decode cX5_isSame 457 = .ok (.if_icmp .eq 5, 3) := by decide +kernel
theorem dX5_isSame_460 : decode cX5_isSame 460 = .ok (.iconst 0, 1) := by decide +kernel
theorem dX5_isSame_461 : decode cX5_isSame 461 = .ok (.ireturn, 1) := by decide +kernel
theorem dX5_isSame_462 : decode cX5_isSame 462 = .ok (.iinc 3 1, 3) := by decide +kernel
theorem dX5_isSame_465 : decode cX5_isSame 465 = .ok (.goto (-133), 3) := by decide +kernel
theorem dX5_isSame_468 : decode cX5_isSame 468 = .ok (.iconst 0, 1) := by decide +kernel
theorem dX5_isSame_469 : decode cX5_isSame 469 = .ok (.istore_n 3, 1) := by decide +kernel
theorem dX5_isSame_470 : decode cX5_isSame 470 = .ok (.iconst 0, 1) := by decide +kernel
theorem dX5_isSame_471 : decode cX5_isSame 471 = .ok (.istore 4, 2) := by decide +kernel
theorem dX5_isSame_473 : decode cX5_isSame 473 = .ok (.iload 4, 2) := by decide +kernel
theorem dX5_isSame_475 : decode cX5_isSame 475 = .ok (.aload_n 0, 1) := by decide +kernel
theorem dX5_isSame_476 : decode cX5_isSame 476 = .ok (.getfield 15, 3) := by decide +kernel
theorem dX5_isSame_479 : decode cX5_isSame 479 = .ok (.arraylength, 1) := by decide +kernel
theorem dX5_isSame_480 : decode cX5_isSame 480 = .ok (.if_icmp .ge 118, 3) := by decide +kernel
theorem dX5_isSame_483 : decode cX5_isSame 483 = .ok (.aload_n 0, 1) := by decide +kernel
theorem dX5_isSame_484 : decode cX5_isSame 484 = .ok (.getfield 15, 3) := by decide +kernel
theorem dX5_isSame_487 : decode cX5_isSame 487 = .ok (.iload 4, 2) := by decide +kernel
theorem dX5_isSame_489 : decode cX5_isSame 489 = .ok (.aaload, 1) := by decide +kernel
