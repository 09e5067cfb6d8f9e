theorem dL_two_284 : decode cL_two 284 = .ok (.ireturn, 1) := by decide +kernel
theorem dL_tells_0 : decode cL_tells 0 = .ok (.iconst 0, 1) := by decide +kernel
theorem dL_tells_1 : decode cL_tells 1 = .ok (.istore 4, 2) := by decide +kernel
theorem dL_tells_3 : decode cL_tells 3 = .ok (.iconst 0, 1) := by decide +kernel
theorem dL_tells_4 : decode cL_tells 4 = .ok (.istore 5, 2) := by decide +kernel
theorem dL_tells_6 : decode cL_tells 6 = .ok (.iconst 0, 1) := by decide +kernel
theorem dL_tells_7 : decode cL_tells 7 = .ok (.istore 6, 2) := by decide +kernel
theorem dL_tells_9 : decode cL_tells 9 = .ok (.iload 6, 2) := by decide +kernel
theorem dL_tells_11 : decode cL_tells 11 = .ok (.bipush 12, 2) := by decide +kernel
theorem dL_tells_13 : decode cL_tells 13 = .ok (.if_icmp .ge 145, 3) := by decide +kernel
theorem dL_tells_16 : decode cL_tells 16 = .ok (.aload_n 1, 1) := by decide +kernel
theorem dL_tells_17 : decode cL_tells 17 = .ok (.bipush 48, 2) := by decide +kernel
theorem dL_tells_19 : decode cL_tells 19 = .ok (.iload 6, 2) := by decide +kernel
theorem dL_tells_21 : decode cL_tells 21 = .ok (.iadd, 1) := by decide +kernel
theorem dL_tells_22 : decode cL_tells 22 = .ok (.iaload, 1) := by decide +kernel
theorem dL_tells_23 : decode cL_tells 23 = .ok (.istore 7, 2) := by decide +kernel
theorem dL_tells_25 : decode cL_tells 25 = .ok (.iconst 0, 1) := by decide +kernel
theorem dL_tells_26 : decode cL_tells 26 = .ok (.istore 8, 2) := by decide +kernel
theorem dL_tells_28 : decode cL_tells 28 = .ok (.iconst 0, 1) := by decide +kernel
theorem dL_tells_29 : decode cL_tells 29 = .ok (.istore 9, 2) := by decide +kernel
theorem dL_tells_31 : decode cL_tells 31 = .ok (.iload 9, 2) := by decide +kernel
theorem dL_tells_33 : decode cL_tells 33 = .ok (.iload 7, 2) := by decide +kernel
theorem dL_tells_35 : decode cL_tells 35 = .ok (.if_icmp .ge 23, 3) := by decide +kernel
theorem dL_tells_38 : decode cL_tells 38 = .ok (.iload 8, 2) := by decide +kernel
theorem dL_tells_40 : decode cL_tells 40 = .ok (.aload_n 1, 1) := by decide +kernel
theorem dL_tells_41 : decode cL_tells 41 = .ok (.iconst 4, 1) := by decide +kernel
theorem dL_tells_42 : decode cL_tells 42 = .ok (.iload 6, 2) := by decide +kernel
theorem dL_tells_44 : decode cL_tells 44 = .ok (.imul, 1) := by decide +kernel
theorem dL_tells_45 : decode cL_tells 45 = .ok (.iload 9, 2) := by decide +kernel
theorem dL_tells_47 : decode cL_tells 47 = .ok (.iadd, 1) := by decide +kernel
theorem dL_tells_48 : decode cL_tells 48 = .ok (.iaload, 1) := by decide +kernel
theorem dL_tells_49 : decode cL_tells 49 = .ok (.iadd, 1) := by decide +kernel
theorem dL_tells_50 : decode cL_tells 50 = .ok (.istore 8, 2) := by decide +kernel
theorem dL_tells_52 : decode cL_tells 52 = .ok (.iinc 9 1, 3) := by decide +kernel
theorem dL_tells_55 : decode cL_tells 55 = .ok (.goto (-24), 3) := by decide +kernel
theorem dL_tells_58 : decode cL_tells 58 = .ok (.iload 6, 2) := by decide +kernel
theorem dL_tells_60 : decode cL_tells 60 = .ok (.invokestatic 10, 3) := by decide +kernel
theorem dL_tells_63 : decode cL_tells 63 = .ok (.istore 9, 2) := by decide +kernel
theorem dL_tells_65 : decode cL_tells 65 = .ok (.aload_n 0, 1) := by decide +kernel
theorem dL_tells_66 : decode cL_tells 66 = .ok (.iload 9, 2) := by decide +kernel
theorem dL_tells_68 : decode cL_tells 68 = .ok (.iconst 0, 1) := by decide +kernel
theorem dL_tells_69 : decode cL_tells 69 = .ok (.invokevirtual 64, 3) := by decide +kernel
theorem dL_tells_72 : decode cL_tells 72 = .ok (.iload 7, 2) := by decide +kernel
theorem dL_tells_74 : decode cL_tells 74 = .ok (.if_icmp .ne 62, 3) := by decide +kernel
theorem dL_tells_77 : decode cL_tells 77 = .ok (.aload_n 0, 1) := by decide +kernel
theorem dL_tells_78 : decode cL_tells 78 = .ok (.iload 9, 2) := by decide +kernel
theorem dL_tells_80 : decode cL_tells 80 = .ok (.iconst 1, 1) := by decide +kernel
theorem dL_tells_81 : decode cL_tells 81 = .ok (.invokevirtual 64, 3) := by decide +kernel
theorem dL_tells_84 : decode cL_tells 84 = .ok (.iload 8, 2) := by decide +kernel
theorem dL_tells_86 : decode cL_tells 86 = .ok (.if_icmp .ne 50, 3) := by decide +kernel
theorem dL_tells_89 : decode cL_tells 89 = .ok (.aload_n 0, 1) := by decide +kernel
theorem dL_tells_90 : decode cL_tells 90 = .ok (.iload 9, 2) := by decide +kernel
theorem dL_tells_92 : decode cL_tells 92 = .ok (.iconst 2, 1) := by decide +kernel
theorem dL_tells_93 : decode cL_tells 93 = .ok (.invokevirtual 64, 3) := by decide +kernel
theorem dL_tells_96 : decode cL_tells 96 = .ok (.iload 7, 2) := by decide +kernel
theorem dL_tells_98 : decode cL_tells 98 = .ok (.ifCond .ne 9, 3) := by decide +kernel
theorem dL_tells_101 : decode cL_tells 101 = .ok (.sipush (-10005), 3) := by decide +kernel
theorem dL_tells_104 : decode cL_tells 104 = .ok (.goto 14, 3) := by decide +kernel
theorem dL_tells_107 : decode cL_tells 107 = .ok (.aload_n 1, 1) := by decide +kernel
theorem dL_tells_108 : decode cL_tells 108 = .ok (.iconst 4, 1) := by decide +kernel
theorem dL_tells_109 : decode cL_tells 109 = .ok (.iload 6, 2) := by decide +kernel
theorem dL_tells_111 : decode cL_tells 111 = .ok (.imul, 1) := by decide +kernel
theorem dL_tells_112 : decode cL_tells 112 = .ok (.iload 7, 2) := by decide +kernel
theorem dL_tells_114 : decode cL_tells 114 = .ok (.iadd, 1) := by decide +kernel
theorem dL_tells_115 : decode cL_tells 115 = .ok (.iconst 1, 1) := by decide +kernel
theorem dL_tells_116 : decode cL_tells 116 = .ok (.isub, 1) := by decide +kernel
theorem dL_tells_117 : decode cL_tells 117 = .ok (.iaload, 1) := by decide +kernel
theorem dL_tells_118 : decode cL_tells 118 = .ok (.if_icmp .ne 18, 3) := by decide +kernel
theorem dL_tells_121 : decode cL_tells 121 = .ok (.aload_n 0, 1) := by decide +kernel
theorem dL_tells_122 : decode cL_tells 122 = .ok (.iload 9, 2) := by decide +kernel
theorem dL_tells_124 : decode cL_tells 124 = .ok (.iconst 3, 1) := by decide +kernel
theorem dL_tells_125 : decode cL_tells 125 = .ok (.invokevirtual 64, 3) := by decide +kernel
theorem dL_tells_128 : decode cL_tells 128 = .ok (.iload 8, 2) := by decide +kernel
theorem dL_tells_130 : decode cL_tells 130 = .ok (.iload 9, 2) := by decide +kernel
theorem dL_tells_132 : decode cL_tells 132 = .ok (.imul, 1) := by decide +kernel
theorem dL_tells_133 : decode cL_tells 133 = .ok (.if_icmp .eq 5, 3) := by decide +kernel
theorem dL_tells_136 : decode cL_tells 136 = .ok (.iconst 0, 1) := by decide +kernel
theorem dL_tells_137 : decode cL_tells 137 = .ok (.ireturn, 1) := by decide +kernel
theorem dL_tells_138 : decode cL_tells 138 = .ok (.iload 4, 2) := by decide +kernel
theorem dL_tells_140 : decode cL_tells 140 = .ok (.iload 7, 2) := by decide +kernel
theorem dL_tells_142 : decode cL_tells 142 = .ok (.iadd, 1) := by decide +kernel
theorem dL_tells_143 : decode cL_tells 143 = .ok (.istore 4, 2) := by decide +kernel
theorem dL_tells_145 : decode cL_tells 145 = .ok (.iload 5, 2) := by decide +kernel
theorem dL_tells_147 : decode cL_tells 147 = .ok (.iload 8, 2) := by decide +kernel
theorem dL_tells_149 : decode cL_tells 149 = .ok (.iadd, 1) := by decide +kernel
theorem dL_tells_150 : decode cL_tells 150 = .ok (.istore 5, 2) := by decide +kernel
theorem dL_tells_152 : decode cL_tells 152 = .ok (.iinc 6 1, 3) := by decide +kernel
theorem dL_tells_155 : decode cL_tells 155 = .ok (.goto (-146), 3) := by decide +kernel
theorem dL_tells_158 : decode cL_tells 158 = .ok (.iconst 0, 1) := by decide +kernel
theorem dL_tells_159 : decode cL_tells 159 = .ok (.istore 6, 2) := by decide +kernel
theorem dL_tells_161 : decode cL_tells 161 = .ok (.iconst 0, 1) := by decide +kernel
theorem dL_tells_162 : decode cL_tells 162 = .ok (.istore 7, 2) := by decide +kernel
theorem dL_tells_164 : decode cL_tells 164 = .ok (.bipush 60, 2) := by decide +kernel
theorem dL_tells_166 : decode cL_tells 166 = .ok (.newarray .int, 2) := by decide +kernel
theorem dL_tells_168 : decode cL_tells 168 = .ok (.astore 8, 2) := by decide +kernel
theorem dL_tells_170 : decode cL_tells 170 = .ok (.bipush 10, 2) := by decide +kernel
theorem dL_tells_172 : decode cL_tells 172 = .ok (.newarray .int, 2) := by decide +kernel
theorem dL_tells_174 : decode cL_tells 174 = .ok (.astore 9, 2) := by decide +kernel
theorem dL_tells_176 : decode cL_tells 176 = .ok (.bipush 11, 2) := by decide +kernel
theorem dL_tells_178 : decode cL_tells 178 = .ok (.newarray .int, 2) := by decide +kernel
theorem dL_tells_180 : decode cL_tells 180 = .ok (.astore 10, 2) := by decide +kernel
theorem dL_tells_182 : decode cL_tells 182 = .ok (.iconst 0, 1) := by decide +kernel
theorem dL_tells_183 : decode cL_tells 183 = .ok (.istore 11, 2) := by decide +kernel
theorem dL_tells_185 : decode cL_tells 185 = .ok (.iload 11, 2) := by decide +kernel
theorem dL_tells_187 : decode cL_tells 187 = .ok (.bipush 84, 2) := by decide +kernel
theorem dL_tells_189 : decode cL_tells 189 = .ok (.if_icmp .ge 159, 3) := by decide +kernel
theorem dL_tells_192 : decode cL_tells 192 = .ok (.iload 11, 2) := by decide +kernel
theorem dL_tells_194 : decode cL_tells 194 = .ok (.invokestatic 45, 3) := by decide +kernel
theorem dL_tells_197 : decode cL_tells 197 = .ok (.istore 12, 2) := by decide +kernel
theorem dL_tells_199 : decode cL_tells 199 = .ok (.aload_n 1, 1) := by decide +kernel
theorem dL_tells_200 : decode cL_tells 200 = .ok (.aload_n 2, 1) := by decide +kernel
theorem dL_tells_201 : decode cL_tells 201 = .ok (.aload_n 3, 1) := by decide +kernel
theorem dL_tells_202 : decode cL_tells 202 = .ok (.iload 12, 2) := by decide +kernel
theorem dL_tells_204 : decode cL_tells 204 = .ok (.bipush 100, 2) := by decide +kernel
theorem dL_tells_206 : decode cL_tells 206 = .ok (.idiv, 1) := by decide +kernel
theorem dL_tells_207 : decode cL_tells 207 = .ok (.iload 12, 2) := by decide +kernel
theorem dL_tells_209 : decode cL_tells 209 = .ok (.bipush 100, 2) := by decide +kernel
theorem dL_tells_211 : decode cL_tells 211 = .ok (.irem, 1) := by decide +kernel
theorem dL_tells_212 : decode cL_tells 212 = .ok (.bipush 50, 2) := by decide +kernel
theorem dL_tells_214 : decode cL_tells 214 = .ok (.isub, 1) := by decide +kernel
theorem dL_tells_215 : decode cL_tells 215 = .ok (.invokestatic 48, 3) := by decide +kernel
theorem dL_tells_218 : decode cL_tells 218 = .ok (.istore 13, 2) := by decide +kernel
theorem dL_tells_220 : decode cL_tells 220 = .ok (.aload_n 0, 1) := by decide +kernel
theorem dL_tells_221 : decode cL_tells 221 = .ok (.iload 12, 2) := by decide +kernel
theorem dL_tells_223 : decode cL_tells 223 = .ok (.bipush 100, 2) := by decide +kernel
theorem dL_tells_225 : decode cL_tells 225 = .ok (.idiv, 1) := by decide +kernel
theorem dL_tells_226 : decode cL_tells 226 = .ok (.iload 12, 2) := by decide +kernel
theorem dL_tells_228 : decode cL_tells 228 = .ok (.bipush 100, 2) := by decide +kernel
theorem dL_tells_230 : decode cL_tells 230 = .ok (.irem, 1) := by decide +kernel
theorem dL_tells_231 : decode cL_tells 231 = .ok (.bipush 50, 2) := by decide +kernel
theorem dL_tells_233 : decode cL_tells 233 = .ok (.isub, 1) := by decide +kernel
theorem dL_tells_234 : decode cL_tells 234 = .ok (.invokevirtual 67, 3) := by decide +kernel
theorem dL_tells_237 : decode cL_tells 237 = .ok (.iload 13, 2) := by decide +kernel
theorem dL_tells_239 : decode cL_tells 239 = .ok (.if_icmp .ne 19, 3) := by decide +kernel
theorem dL_tells_242 : decode cL_tells 242 = .ok (.iload 13, 2) := by decide +kernel
theorem dL_tells_244 : decode cL_tells 244 = .ok (.ifCond .ne 16, 3) := by decide +kernel
theorem dL_tells_247 : decode cL_tells 247 = .ok (.aload_n 0, 1) := by decide +kernel
theorem dL_tells_248 : decode cL_tells 248 = .ok (.iload 6, 2) := by decide +kernel
theorem dL_tells_250 : decode cL_tells 250 = .ok (.invokevirtual 70, 3) := by decide +kernel
theorem dL_tells_253 : decode cL_tells 253 = .ok (.iload 12, 2) := by decide +kernel
theorem dL_tells_255 : decode cL_tells 255 = .ok (.if_icmp .eq 5, 3) := by decide +kernel
theorem dL_tells_258 : decode cL_tells 258 = .ok (.iconst 0, 1) := by decide +kernel
theorem dL_tells_259 : decode cL_tells 259 = .ok (.ireturn, 1) := by decide +kernel
theorem dL_tells_260 : decode cL_tells 260 = .ok (.iload 13, 2) := by decide +kernel
theorem dL_tells_262 : decode cL_tells 262 = .ok (.ifCond .ne 80, 3) := by decide +kernel
theorem dL_tells_265 : decode cL_tells 265 = .ok (.iinc 6 1, 3) := by decide +kernel
theorem dL_tells_268 : decode cL_tells 268 = .ok (.aload_n 1, 1) := by decide +kernel
theorem dL_tells_269 : decode cL_tells 269 = .ok (.aload 8, 2) := by decide +kernel
theorem dL_tells_271 : decode cL_tells 271 = .ok (.invokestatic 52, 3) := by decide +kernel
theorem dL_tells_274 : decode cL_tells 274 = .ok (.aload_n 2, 1) := by decide +kernel
theorem dL_tells_275 : decode cL_tells 275 = .ok (.aload 9, 2) := by decide +kernel
theorem dL_tells_277 : decode cL_tells 277 = .ok (.invokestatic 52, 3) := by decide +kernel
theorem dL_tells_280 : decode cL_tells 280 = .ok (.aload_n 3, 1) := by decide +kernel
theorem dL_tells_281 : decode cL_tells 281 = .ok (.aload 10, 2) := by decide +kernel
theorem dL_tells_283 : decode cL_tells 283 = .ok (.invokestatic 52, 3) := by decide +kernel
theorem dL_tells_286 : decode cL_tells 286 = .ok (.aload 8, 2) := by decide +kernel
theorem dL_tells_288 : decode cL_tells 288 = .ok (.aload 9, 2) := by decide +kernel
theorem dL_tells_290 : decode cL_tells 290 = .ok (.aload 10, 2) := by decide +kernel
theorem dL_tells_292 : decode cL_tells 292 = .ok (.iload 12, 2) := by decide +kernel
theorem dL_tells_294 : decode cL_tells 294 = .ok (.bipush 100, 2) := by decide +kernel
theorem dL_tells_296 : decode cL_tells 296 = .ok (.idiv, 1) := by decide +kernel
theorem dL_tells_297 : decode cL_tells 297 = .ok (.iload 12, 2) := by decide +kernel
theorem dL_tells_299 : decode cL_tells 299 = .ok (.bipush 100, 2) := by decide +kernel
theorem dL_tells_301 : decode cL_tells 301 = .ok (.irem, 1) := by decide +kernel
theorem dL_tells_302 : decode cL_tells 302 = .ok (.bipush 50, 2) := by decide +kernel
theorem dL_tells_304 : decode cL_tells 304 = .ok (.isub, 1) := by decide +kernel
theorem dL_tells_305 : decode cL_tells 305 = .ok (.invokestatic 56, 3) := by decide +kernel
theorem dL_tells_308 : decode cL_tells 308 = .ok (.aload 8, 2) := by decide +kernel
theorem dL_tells_310 : decode cL_tells 310 = .ok (.invokestatic 16, 3) := by decide +kernel
theorem dL_tells_313 : decode cL_tells 313 = .ok (.istore 14, 2) := by decide +kernel
theorem dL_tells_315 : decode cL_tells 315 = .ok (.iload 7, 2) := by decide +kernel
theorem dL_tells_317 : decode cL_tells 317 = .ok (.iload 14, 2) := by decide +kernel
theorem dL_tells_319 : decode cL_tells 319 = .ok (.aload_n 3, 1) := by decide +kernel
theorem dL_tells_320 : decode cL_tells 320 = .ok (.iconst 1, 1) := by decide +kernel
theorem dL_tells_321 : decode cL_tells 321 = .ok (.iaload, 1) := by decide +kernel
theorem dL_tells_322 : decode cL_tells 322 = .ok (.if_icmp .gt 16, 3) := by decide +kernel
theorem dL_tells_325 : decode cL_tells 325 = .ok (.iload 14, 2) := by decide +kernel
theorem dL_tells_327 : decode cL_tells 327 = .ok (.ineg, 1) := by decide +kernel
theorem dL_tells_328 : decode cL_tells 328 = .ok (.aload_n 3, 1) := by decide +kernel
theorem dL_tells_329 : decode cL_tells 329 = .ok (.iconst 1, 1) := by decide +kernel
theorem dL_tells_330 : decode cL_tells 330 = .ok (.iaload, 1) := by decide +kernel
theorem dL_tells_331 : decode cL_tells 331 = .ok (.if_icmp .gt 7, 3) := by decide +kernel
theorem dL_tells_334 : decode cL_tells 334 = .ok (.iconst 1, 1) := by decide +kernel
theorem dL_tells_335 : decode cL_tells 335 = .ok (.goto 4, 3) := by decide +kernel
theorem dL_tells_338 : decode cL_tells 338 = .ok (.iconst 0, 1) := by decide +kernel
theorem dL_tells_339 : decode cL_tells 339 = .ok (.iadd, 1) := by decide +kernel
theorem dL_tells_340 : decode cL_tells 340 = .ok (.istore 7, 2) := by decide +kernel
theorem dL_tells_342 : decode cL_tells 342 = .ok (.iinc 11 1, 3) := by decide +kernel
theorem dL_tells_345 : decode cL_tells 345 = .ok (.goto (-160), 3) := by decide +kernel
theorem dL_tells_348 : decode cL_tells 348 = .ok (.aload_n 1, 1) := by decide +kernel
theorem dL_tells_349 : decode cL_tells 349 = .ok (.invokestatic 16, 3) := by decide +kernel
theorem dL_tells_352 : decode cL_tells 352 = .ok (.istore 11, 2) := by decide +kernel
theorem dL_tells_354 : decode cL_tells 354 = .ok (.aload_n 0, 1) := by decide +kernel
theorem dL_tells_355 : decode cL_tells 355 = .ok (.iload 6, 2) := by decide +kernel
theorem dL_tells_357 : decode cL_tells 357 = .ok (.invokevirtual 70, 3) := by decide +kernel
theorem dL_tells_360 : decode cL_tells 360 = .ok (.sipush (-10005), 3) := by decide +kernel
theorem dL_tells_363 : decode cL_tells 363 = .ok (.if_icmp .ne 165, 3) := by decide +kernel
theorem dL_tells_366 : decode cL_tells 366 = .ok (.aload_n 0, 1) := by decide +kernel
theorem dL_tells_367 : decode cL_tells 367 = .ok (.bipush 8, 2) := by decide +kernel
theorem dL_tells_369 : decode cL_tells 369 = .ok (.invokevirtual 73, 3) := by decide +kernel
theorem dL_tells_372 : decode cL_tells 372 = .ok (.iload 6, 2) := by decide +kernel
theorem dL_tells_374 : decode cL_tells 374 = .ok (.if_icmp .ne 154, 3) := by decide +kernel
theorem dL_tells_377 : decode cL_tells 377 = .ok (.aload_n 0, 1) := by decide +kernel
theorem dL_tells_378 : decode cL_tells 378 = .ok (.bipush 9, 2) := by decide +kernel
theorem dL_tells_380 : decode cL_tells 380 = .ok (.invokevirtual 73, 3) := by decide +kernel
theorem dL_tells_383 : decode cL_tells 383 = .ok (.iload 7, 2) := by decide +kernel
theorem dL_tells_385 : decode cL_tells 385 = .ok (.if_icmp .ne 143, 3) := by decide +kernel
theorem dL_tells_388 : decode cL_tells 388 = .ok (.aload_n 0, 1) := by decide +kernel
theorem dL_tells_389 : decode cL_tells 389 = .ok (.iconst 0, 1) := by decide +kernel
theorem dL_tells_390 : decode cL_tells 390 = .ok (.invokevirtual 73, 3) := by decide +kernel
theorem dL_tells_393 : decode cL_tells 393 = .ok (.aload_n 3, 1) := by decide +kernel
theorem dL_tells_394 : decode cL_tells 394 = .ok (.iconst 4, 1) := by decide +kernel
theorem dL_tells_395 : decode cL_tells 395 = .ok (.iaload, 1) := by decide +kernel
theorem dL_tells_396 : decode cL_tells 396 = .ok (.if_icmp .ne 132, 3) := by decide +kernel
theorem dL_tells_399 : decode cL_tells 399 = .ok (.aload_n 0, 1) := by decide +kernel
theorem dL_tells_400 : decode cL_tells 400 = .ok (.iconst 1, 1) := by decide +kernel
theorem dL_tells_401 : decode cL_tells 401 = .ok (.invokevirtual 73, 3) := by decide +kernel
theorem dL_tells_404 : decode cL_tells 404 = .ok (.iload 11, 2) := by decide +kernel
theorem dL_tells_406 : decode cL_tells 406 = .ok (.if_icmp .ne 122, 3) := by decide +kernel
theorem dL_tells_409 : decode cL_tells 409 = .ok (.aload_n 0, 1) := by decide +kernel
theorem dL_tells_410 : decode cL_tells 410 = .ok (.iconst 2, 1) := by decide +kernel
theorem dL_tells_411 : decode cL_tells 411 = .ok (.invokevirtual 73, 3) := by decide +kernel
theorem dL_tells_414 : decode cL_tells 414 = .ok (.aload_n 1, 1) := by decide +kernel
theorem dL_tells_415 : decode cL_tells 415 = .ok (.aload_n 2, 1) := by decide +kernel
theorem dL_tells_416 : decode cL_tells 416 = .ok (.aload_n 3, 1) := by decide +kernel
theorem dL_tells_417 : decode cL_tells 417 = .ok (.invokestatic 24, 3) := by decide +kernel
theorem dL_tells_420 : decode cL_tells 420 = .ok (.if_icmp .ne 108, 3) := by decide +kernel
theorem dL_tells_423 : decode cL_tells 423 = .ok (.aload_n 0, 1) := by decide +kernel
theorem dL_tells_424 : decode cL_tells 424 = .ok (.iconst 3, 1) := by decide +kernel
theorem dL_tells_425 : decode cL_tells 425 = .ok (.invokevirtual 73, 3) := by decide +kernel
theorem dL_tells_428 : decode cL_tells 428 = .ok (.aload_n 3, 1) := by decide +kernel
theorem dL_tells_429 : decode cL_tells 429 = .ok (.iconst 5, 1) := by decide +kernel
theorem dL_tells_430 : decode cL_tells 430 = .ok (.iaload, 1) := by decide +kernel
theorem dL_tells_431 : decode cL_tells 431 = .ok (.if_icmp .ne 97, 3) := by decide +kernel
theorem dL_tells_434 : decode cL_tells 434 = .ok (.aload_n 0, 1) := by decide +kernel
theorem dL_tells_435 : decode cL_tells 435 = .ok (.iconst 4, 1) := by decide +kernel
theorem dL_tells_436 : decode cL_tells 436 = .ok (.invokevirtual 73, 3) := by decide +kernel
theorem dL_tells_439 : decode cL_tells 439 = .ok (.aload_n 3, 1) := by decide +kernel
theorem dL_tells_440 : decode cL_tells 440 = .ok (.bipush 6, 2) := by decide +kernel
theorem dL_tells_442 : decode cL_tells 442 = .ok (.iaload, 1) := by decide +kernel
theorem dL_tells_443 : decode cL_tells 443 = .ok (.if_icmp .ne 85, 3) := by decide +kernel
theorem dL_tells_446 : decode cL_tells 446 = .ok (.aload_n 0, 1) := by decide +kernel
theorem dL_tells_447 : decode cL_tells 447 = .ok (.iconst 5, 1) := by decide +kernel
theorem dL_tells_448 : decode cL_tells 448 = .ok (.invokevirtual 73, 3) := by decide +kernel
theorem dL_tells_451 : decode cL_tells 451 = .ok (.aload_n 3, 1) := by decide +kernel
theorem dL_tells_452 : decode cL_tells 452 = .ok (.bipush 7, 2) := by decide +kernel
theorem dL_tells_454 : decode cL_tells 454 = .ok (.iaload, 1) := by decide +kernel
theorem dL_tells_455 : decode cL_tells 455 = .ok (.if_icmp .ne 73, 3) := by decide +kernel
theorem dL_tells_458 : decode cL_tells 458 = .ok (.aload_n 3, 1) := by decide +kernel
theorem dL_tells_459 : decode cL_tells 459 = .ok (.bipush 6, 2) := by decide +kernel
theorem dL_tells_461 : decode cL_tells 461 = .ok (.iaload, 1) := by decide +kernel
theorem dL_tells_462 : decode cL_tells 462 = .ok (.aload_n 3, 1) := by decide +kernel
theorem dL_tells_463 : decode cL_tells 463 = .ok (.bipush 7, 2) := by decide +kernel
theorem dL_tells_465 : decode cL_tells 465 = .ok (.iaload, 1) := by decide +kernel
theorem dL_tells_466 : decode cL_tells 466 = .ok (.iadd, 1) := by decide +kernel
theorem dL_tells_467 : decode cL_tells 467 = .ok (.iload 11, 2) := by decide +kernel
theorem dL_tells_469 : decode cL_tells 469 = .ok (.if_icmp .ne 59, 3) := by decide +kernel
theorem dL_tells_472 : decode cL_tells 472 = .ok (.aload_n 0, 1) := by decide +kernel
theorem dL_tells_473 : decode cL_tells 473 = .ok (.bipush 6, 2) := by decide +kernel
theorem dL_tells_475 : decode cL_tells 475 = .ok (.invokevirtual 73, 3) := by decide +kernel
theorem dL_tells_478 : decode cL_tells 478 = .ok (.iload 4, 2) := by decide +kernel
theorem dL_tells_480 : decode cL_tells 480 = .ok (.if_icmp .ne 48, 3) := by decide +kernel
theorem dL_tells_483 : decode cL_tells 483 = .ok (.aload_n 0, 1) := by decide +kernel
theorem dL_tells_484 : decode cL_tells 484 = .ok (.bipush 7, 2) := by decide +kernel
theorem dL_tells_486 : decode cL_tells 486 = .ok (.invokevirtual 73, 3) := by decide +kernel
theorem dL_tells_489 : decode cL_tells 489 = .ok (.iload 5, 2) := by decide +kernel
theorem dL_tells_491 : decode cL_tells 491 = .ok (.if_icmp .ne 37, 3) := by decide +kernel
theorem dL_tells_494 : decode cL_tells 494 = .ok (.aload_n 0, 1) := by decide +kernel
theorem dL_tells_495 : decode cL_tells 495 = .ok (.bipush 10, 2) := by decide +kernel
theorem dL_tells_497 : decode cL_tells 497 = .ok (.invokevirtual 73, 3) := by decide +kernel
theorem dL_tells_500 : decode cL_tells 500 = .ok (.aload_n 3, 1) := by decide +kernel
theorem dL_tells_501 : decode cL_tells 501 = .ok (.bipush 8, 2) := by decide +kernel
theorem dL_tells_503 : decode cL_tells 503 = .ok (.iaload, 1) := by decide +kernel
theorem dL_tells_504 : decode cL_tells 504 = .ok (.if_icmp .ne 24, 3) := by decide +kernel
theorem dL_tells_507 : decode cL_tells 507 = .ok (.aload_n 0, 1) := by decide +kernel
theorem dL_tells_508 : decode cL_tells 508 = .ok (.iconst 0, 1) := by decide +kernel
theorem dL_tells_509 : decode cL_tells 509 = .ok (.invokevirtual 76, 3) := by decide +kernel
theorem dL_tells_512 : decode cL_tells 512 = .ok (.aload_n 1, 1) := by decide +kernel
theorem dL_tells_513 : decode cL_tells 513 = .ok (.aload_n 2, 1) := by decide +kernel
theorem dL_tells_514 : decode cL_tells 514 = .ok (.aload_n 3, 1) := by decide +kernel
theorem dL_tells_515 : decode cL_tells 515 = .ok (.aload_n 3, 1) := by decide +kernel
theorem dL_tells_516 : decode cL_tells 516 = .ok (.iconst 4, 1) := by decide +kernel
theorem dL_tells_517 : decode cL_tells 517 = .ok (.iaload, 1) := by decide +kernel
theorem dL_tells_518 : decode cL_tells 518 = .ok (.invokestatic 41, 3) := by decide +kernel
theorem dL_tells_521 : decode cL_tells 521 = .ok (.if_icmp .ne 7, 3) := by decide +kernel
theorem dL_tells_524 : decode cL_tells 524 = .ok (.iconst 1, 1) := by decide +kernel
theorem dL_tells_525 : decode cL_tells 525 = .ok (.goto 4, 3) := by decide +kernel
theorem dL_tells_528 : decode cL_tells 528 = .ok (.iconst 0, 1) := by decide +kernel
theorem dL_tells_529 : decode cL_tells 529 = .ok (.istore 12, 2) := by decide +kernel
theorem dL_tells_531 : decode cL_tells 531 = .ok (.iconst 0, 1) := by decide +kernel
theorem dL_tells_532 : decode cL_tells 532 = .ok (.istore 13, 2) := by decide +kernel
theorem dL_tells_534 : decode cL_tells 534 = .ok (.iload 13, 2) := by decide +kernel
theorem dL_tells_536 : decode cL_tells 536 = .ok (.iconst 4, 1) := by decide +kernel
theorem dL_tells_537 : decode cL_tells 537 = .ok (.if_icmp .ge 37, 3) := by decide +kernel
theorem dL_tells_540 : decode cL_tells 540 = .ok (.iload 12, 2) := by decide +kernel
theorem dL_tells_542 : decode cL_tells 542 = .ok (.ifCond .eq 23, 3) := by decide +kernel
theorem dL_tells_545 : decode cL_tells 545 = .ok (.aload_n 0, 1) := by decide +kernel
theorem dL_tells_546 : decode cL_tells 546 = .ok (.bipush 11, 2) := by decide +kernel
theorem dL_tells_548 : decode cL_tells 548 = .ok (.iload 13, 2) := by decide +kernel
theorem dL_tells_550 : decode cL_tells 550 = .ok (.iadd, 1) := by decide +kernel
theorem dL_tells_551 : decode cL_tells 551 = .ok (.invokevirtual 73, 3) := by decide +kernel
theorem dL_tells_554 : decode cL_tells 554 = .ok (.aload_n 3, 1) := by decide +kernel
theorem dL_tells_555 : decode cL_tells 555 = .ok (.iload 13, 2) := by decide +kernel
theorem dL_tells_557 : decode cL_tells 557 = .ok (.iaload, 1) := by decide +kernel
theorem dL_tells_558 : decode cL_tells 558 = .ok (.if_icmp .ne 7, 3) := by decide +kernel
theorem dL_tells_561 : decode cL_tells 561 = .ok (.iconst 1, 1) := by decide +kernel
theorem dL_tells_562 : decode cL_tells 562 = .ok (.goto 4, 3) := by decide +kernel
theorem dL_tells_565 : decode cL_tells 565 = .ok (.iconst 0, 1) := by decide +kernel
theorem dL_tells_566 : decode cL_tells 566 = .ok (.istore 12, 2) := by decide +kernel
theorem dL_tells_568 : decode cL_tells 568 = .ok (.iinc 13 1, 3) := by decide +kernel
theorem dL_tells_571 : decode cL_tells 571 = .ok (.goto (-37), 3) := by decide +kernel
theorem dL_tells_574 : decode cL_tells 574 = .ok (.iconst 1, 1) := by decide +kernel
theorem dL_tells_575 : decode cL_tells 575 = .ok (.istore 13, 2) := by decide +kernel
theorem dL_tells_577 : decode cL_tells 577 = .ok (.iload 13, 2) := by decide +kernel
theorem dL_tells_579 : decode cL_tells 579 = .ok (.bipush 6, 2) := by decide +kernel
theorem dL_tells_581 : decode cL_tells 581 = .ok (.if_icmp .ge 124, 3) := by decide +kernel
theorem dL_tells_584 : decode cL_tells 584 = .ok (.sipush (-10005), 3) := by decide +kernel
theorem dL_tells_587 : decode cL_tells 587 = .ok (.istore 14, 2) := by decide +kernel
theorem dL_tells_589 : decode cL_tells 589 = .ok (.iconst 0, 1) := by decide +kernel
theorem dL_tells_590 : decode cL_tells 590 = .ok (.istore 15, 2) := by decide +kernel
theorem dL_tells_592 : decode cL_tells 592 = .ok (.iload 15, 2) := by decide +kernel
theorem dL_tells_594 : decode cL_tells 594 = .ok (.bipush 12, 2) := by decide +kernel
theorem dL_tells_596 : decode cL_tells 596 = .ok (.if_icmp .ge 48, 3) := by decide +kernel
theorem dL_tells_599 : decode cL_tells 599 = .ok (.iload 11, 2) := by decide +kernel
theorem dL_tells_601 : decode cL_tells 601 = .ok (.iload 13, 2) := by decide +kernel
theorem dL_tells_603 : decode cL_tells 603 = .ok (.iload 15, 2) := by decide +kernel
theorem dL_tells_605 : decode cL_tells 605 = .ok (.invokestatic 10, 3) := by decide +kernel
theorem dL_tells_608 : decode cL_tells 608 = .ok (.imul, 1) := by decide +kernel
theorem dL_tells_609 : decode cL_tells 609 = .ok (.iadd, 1) := by decide +kernel
theorem dL_tells_610 : decode cL_tells 610 = .ok (.ifCond .ne 24, 3) := by decide +kernel
theorem dL_tells_613 : decode cL_tells 613 = .ok (.aload_n 1, 1) := by decide +kernel
theorem dL_tells_614 : decode cL_tells 614 = .ok (.bipush 48, 2) := by decide +kernel
theorem dL_tells_616 : decode cL_tells 616 = .ok (.iload 15, 2) := by decide +kernel
theorem dL_tells_618 : decode cL_tells 618 = .ok (.iadd, 1) := by decide +kernel
theorem dL_tells_619 : decode cL_tells 619 = .ok (.iaload, 1) := by decide +kernel
theorem dL_tells_620 : decode cL_tells 620 = .ok (.aload_n 3, 1) := by decide +kernel
theorem dL_tells_621 : decode cL_tells 621 = .ok (.iconst 0, 1) := by decide +kernel
theorem dL_tells_622 : decode cL_tells 622 = .ok (.iaload, 1) := by decide +kernel
theorem dL_tells_623 : decode cL_tells 623 = .ok (.if_icmp .ge 11, 3) := by decide +kernel
theorem dL_tells_626 : decode cL_tells 626 = .ok (.iload 15, 2) := by decide +kernel
theorem dL_tells_628 : decode cL_tells 628 = .ok (.invokestatic 10, 3) := by decide +kernel
theorem dL_tells_631 : decode cL_tells 631 = .ok (.goto 5, 3) := by decide +kernel
theorem dL_tells_634 : decode cL_tells 634 = .ok (.iload 14, 2) := by decide +kernel
theorem dL_tells_636 : decode cL_tells 636 = .ok (.istore 14, 2) := by decide +kernel
theorem dL_tells_638 : decode cL_tells 638 = .ok (.iinc 15 1, 3) := by decide +kernel
theorem dL_tells_641 : decode cL_tells 641 = .ok (.goto (-49), 3) := by decide +kernel
theorem dL_tells_644 : decode cL_tells 644 = .ok (.iload 12, 2) := by decide +kernel
theorem dL_tells_646 : decode cL_tells 646 = .ok (.ifCond .eq 50, 3) := by decide +kernel
theorem dL_tells_649 : decode cL_tells 649 = .ok (.aload_n 0, 1) := by decide +kernel
theorem dL_tells_650 : decode cL_tells 650 = .ok (.iload 13, 2) := by decide +kernel
theorem dL_tells_652 : decode cL_tells 652 = .ok (.invokevirtual 79, 3) := by decide +kernel
theorem dL_tells_655 : decode cL_tells 655 = .ok (.iload 14, 2) := by decide +kernel
theorem dL_tells_657 : decode cL_tells 657 = .ok (.if_icmp .ne 39, 3) := by decide +kernel
theorem dL_tells_660 : decode cL_tells 660 = .ok (.aload_n 0, 1) := by decide +kernel
theorem dL_tells_661 : decode cL_tells 661 = .ok (.iconst 0, 1) := by decide +kernel
theorem dL_tells_662 : decode cL_tells 662 = .ok (.iload 13, 2) := by decide +kernel
theorem dL_tells_664 : decode cL_tells 664 = .ok (.invokevirtual 82, 3) := by decide +kernel
theorem dL_tells_667 : decode cL_tells 667 = .ok (.aload_n 2, 1) := by decide +kernel
theorem dL_tells_668 : decode cL_tells 668 = .ok (.iload 13, 2) := by decide +kernel
theorem dL_tells_670 : decode cL_tells 670 = .ok (.iconst 1, 1) := by decide +kernel
theorem dL_tells_671 : decode cL_tells 671 = .ok (.isub, 1) := by decide +kernel
theorem dL_tells_672 : decode cL_tells 672 = .ok (.iaload, 1) := by decide +kernel
theorem dL_tells_673 : decode cL_tells 673 = .ok (.if_icmp .ne 23, 3) := by decide +kernel
theorem dL_tells_676 : decode cL_tells 676 = .ok (.aload_n 0, 1) := by decide +kernel
theorem dL_tells_677 : decode cL_tells 677 = .ok (.iconst 1, 1) := by decide +kernel
theorem dL_tells_678 : decode cL_tells 678 = .ok (.iload 13, 2) := by decide +kernel
theorem dL_tells_680 : decode cL_tells 680 = .ok (.invokevirtual 82, 3) := by decide +kernel
theorem dL_tells_683 : decode cL_tells 683 = .ok (.aload_n 2, 1) := by decide +kernel
theorem dL_tells_684 : decode cL_tells 684 = .ok (.iconst 4, 1) := by decide +kernel
theorem dL_tells_685 : decode cL_tells 685 = .ok (.iload 13, 2) := by decide +kernel
theorem dL_tells_687 : decode cL_tells 687 = .ok (.iadd, 1) := by decide +kernel
theorem dL_tells_688 : decode cL_tells 688 = .ok (.iaload, 1) := by decide +kernel
theorem dL_tells_689 : decode cL_tells 689 = .ok (.if_icmp .ne 7, 3) := by decide +kernel
theorem dL_tells_692 : decode cL_tells 692 = .ok (.iconst 1, 1) := by decide +kernel
theorem dL_tells_693 : decode cL_tells 693 = .ok (.goto 4, 3) := by decide +kernel
theorem dL_tells_696 : decode cL_tells 696 = .ok (.iconst 0, 1) := by decide +kernel
theorem dL_tells_697 : decode cL_tells 697 = .ok (.istore 12, 2) := by decide +kernel
theorem dL_tells_699 : decode cL_tells 699 = .ok (.iinc 13 1, 3) := by decide +kernel
theorem dL_tells_702 : decode cL_tells 702 = .ok (.goto (-125), 3) := by decide +kernel
theorem dL_tells_705 : decode cL_tells 705 = .ok (.iload 12, 2) := by decide +kernel
theorem dL_tells_707 : decode cL_tells 707 = .ok (.ifCond .eq 35, 3) := by decide +kernel
theorem dL_tells_710 : decode cL_tells 710 = .ok (.aload_n 0, 1) := by decide +kernel
theorem dL_tells_711 : decode cL_tells 711 = .ok (.iconst 0, 1) := by decide +kernel
theorem dL_tells_712 : decode cL_tells 712 = .ok (.iconst 0, 1) := by decide +kernel
theorem dL_tells_713 : decode cL_tells 713 = .ok (.invokevirtual 82, 3) := by decide +kernel
theorem dL_tells_716 : decode cL_tells 716 = .ok (.aload_n 2, 1) := by decide +kernel
theorem dL_tells_717 : decode cL_tells 717 = .ok (.iconst 0, 1) := by decide +kernel
theorem dL_tells_718 : decode cL_tells 718 = .ok (.invokestatic 20, 3) := by decide +kernel
theorem dL_tells_721 : decode cL_tells 721 = .ok (.if_icmp .ne 21, 3) := by decide +kernel
theorem dL_tells_724 : decode cL_tells 724 = .ok (.aload_n 0, 1) := by decide +kernel
theorem dL_tells_725 : decode cL_tells 725 = .ok (.iconst 1, 1) := by decide +kernel
theorem dL_tells_726 : decode cL_tells 726 = .ok (.iconst 0, 1) := by decide +kernel
theorem dL_tells_727 : decode cL_tells 727 = .ok (.invokevirtual 82, 3) := by decide +kernel
theorem dL_tells_730 : decode cL_tells 730 = .ok (.aload_n 2, 1) := by decide +kernel
theorem dL_tells_731 : decode cL_tells 731 = .ok (.iconst 1, 1) := by decide +kernel
theorem dL_tells_732 : decode cL_tells 732 = .ok (.invokestatic 20, 3) := by decide +kernel
theorem dL_tells_735 : decode cL_tells 735 = .ok (.if_icmp .ne 7, 3) := by decide +kernel
theorem dL_tells_738 : decode cL_tells 738 = .ok (.iconst 1, 1) := by decide +kernel
theorem dL_tells_739 : decode cL_tells 739 = .ok (.goto 4, 3) := by decide +kernel
theorem dL_tells_742 : decode cL_tells 742 = .ok (.iconst 0, 1) := by decide +kernel
theorem dL_tells_743 : decode cL_tells 743 = .ok (.ireturn, 1) := by decide +kernel
theorem dL_looks_0 : decode cL_looks 0 = .ok (.iconst 1, 1) := by decide +kernel
theorem dL_looks_1 : decode cL_looks 1 = .ok (.newarray .int, 2) := by decide +kernel
theorem dL_looks_3 : decode cL_looks 3 = .ok (.astore 5, 2) := by decide +kernel
theorem dL_looks_5 : decode cL_looks 5 = .ok (.aload_n 1, 1) := by decide +kernel
theorem dL_looks_6 : decode cL_looks 6 = .ok (.aload_n 2, 1) := by decide +kernel
theorem dL_looks_7 : decode cL_looks 7 = .ok (.aload_n 3, 1) := by decide +kernel
theorem dL_looks_8 : decode cL_looks 8 = .ok (.aload 5, 2) := by decide +kernel
theorem dL_looks_10 : decode cL_looks 10 = .ok (.invokestatic 60, 3) := by decide +kernel
theorem dL_looks_13 : decode cL_looks 13 = .ok (.istore 6, 2) := by decide +kernel
theorem dL_looks_15 : decode cL_looks 15 = .ok (.aload_n 0, 1) := by decide +kernel
theorem dL_looks_16 : decode cL_looks 16 = .ok (.iconst 1, 1) := by decide +kernel
theorem dL_looks_17 : decode cL_looks 17 = .ok (.invokevirtual 76, 3) := by decide +kernel
theorem dL_looks_20 : decode cL_looks 20 = .ok (.iload 6, 2) := by decide +kernel
theorem dL_looks_22 : decode cL_looks 22 = .ok (.if_icmp .ne 15, 3) := by decide +kernel
theorem dL_looks_25 : decode cL_looks 25 = .ok (.aload_n 0, 1) := by decide +kernel
theorem dL_looks_26 : decode cL_looks 26 = .ok (.iconst 1, 1) := by decide +kernel
theorem dL_looks_27 : decode cL_looks 27 = .ok (.invokevirtual 85, 3) := by decide +kernel
theorem dL_looks_30 : decode cL_looks 30 = .ok (.aload 5, 2) := by decide +kernel
theorem dL_looks_32 : decode cL_looks 32 = .ok (.iconst 0, 1) := by decide +kernel
theorem dL_looks_33 : decode cL_looks 33 = .ok (.iaload, 1) := by decide +kernel
theorem dL_looks_34 : decode cL_looks 34 = .ok (.if_icmp .eq 5, 3) := by decide +kernel
theorem dL_looks_37 : decode cL_looks 37 = .ok (.iconst 0, 1) := by decide +kernel
theorem dL_looks_38 : decode cL_looks 38 = .ok (.ireturn, 1) := by decide +kernel
theorem dL_looks_39 : decode cL_looks 39 = .ok (.iload 4, 2) := by decide +kernel
theorem dL_looks_41 : decode cL_looks 41 = .ok (.ifCond .eq 41, 3) := by decide +kernel
theorem dL_looks_44 : decode cL_looks 44 = .ok (.aload_n 1, 1) := by decide +kernel
theorem dL_looks_45 : decode cL_looks 45 = .ok (.aload_n 2, 1) := by decide +kernel
theorem dL_looks_46 : decode cL_looks 46 = .ok (.aload_n 3, 1) := by decide +kernel
theorem dL_looks_47 : decode cL_looks 47 = .ok (.aload 5, 2) := by decide +kernel
theorem dL_looks_49 : decode cL_looks 49 = .ok (.invokestatic 88, 3) := by decide +kernel
theorem dL_looks_52 : decode cL_looks 52 = .ok (.istore 6, 2) := by decide +kernel
theorem dL_looks_54 : decode cL_looks 54 = .ok (.aload_n 0, 1) := by decide +kernel
theorem dL_looks_55 : decode cL_looks 55 = .ok (.iconst 2, 1) := by decide +kernel
theorem dL_looks_56 : decode cL_looks 56 = .ok (.invokevirtual 76, 3) := by decide +kernel
theorem dL_looks_59 : decode cL_looks 59 = .ok (.iload 6, 2) := by decide +kernel
theorem dL_looks_61 : decode cL_looks 61 = .ok (.if_icmp .ne 19, 3) := by decide +kernel
theorem dL_looks_64 : decode cL_looks 64 = .ok (.aload_n 0, 1) := by decide +kernel
theorem dL_looks_65 : decode cL_looks 65 = .ok (.iconst 2, 1) := by decide +kernel
theorem dL_looks_66 : decode cL_looks 66 = .ok (.invokevirtual 85, 3) := by decide +kernel
theorem dL_looks_69 : decode cL_looks 69 = .ok (.aload 5, 2) := by decide +kernel
theorem dL_looks_71 : decode cL_looks 71 = .ok (.iconst 0, 1) := by decide +kernel
theorem dL_looks_72 : decode cL_looks 72 = .ok (.iaload, 1) := by decide +kernel
theorem dL_looks_73 : decode cL_looks 73 = .ok (.if_icmp .ne 7, 3) := by decide +kernel
theorem dL_looks_76 : decode cL_looks 76 = .ok (.iconst 1, 1) := by decide +kernel
theorem dL_looks_77 : decode cL_looks 77 = .ok (.goto 4, 3) := by decide +kernel
theorem dL_looks_80 : decode cL_looks 80 = .ok (.iconst 0, 1) := by decide +kernel
theorem dL_looks_81 : decode cL_looks 81 = .ok (.ireturn, 1) := by decide +kernel
theorem dL_looks_82 : decode cL_looks 82 = .ok (.iconst 1, 1) := by decide +kernel
theorem dL_looks_83 : decode cL_looks 83 = .ok (.ireturn, 1) := by decide +kernel
theorem dL_law_0 : decode cL_law 0 = .ok (.new 39, 3) := by decide +kernel
theorem dL_law_3 : decode cL_law 3 = .ok (.dup, 1) := by decide +kernel
theorem dL_law_4 : decode cL_law 4 = .ok (.invokespecial 91, 3) := by decide +kernel
theorem dL_law_7 : decode cL_law 7 = .ok (.astore_n 1, 1) := by decide +kernel
theorem dL_law_8 : decode cL_law 8 = .ok (.bipush 60, 2) := by decide +kernel
theorem dL_law_10 : decode cL_law 10 = .ok (.newarray .int, 2) := by decide +kernel
theorem dL_law_12 : decode cL_law 12 = .ok (.astore_n 2, 1) := by decide +kernel
theorem dL_law_13 : decode cL_law 13 = .ok (.bipush 10, 2) := by decide +kernel
theorem dL_law_15 : decode cL_law 15 = .ok (.newarray .int, 2) := by decide +kernel
theorem dL_law_17 : decode cL_law 17 = .ok (.astore_n 3, 1) := by decide +kernel
theorem dL_law_18 : decode cL_law 18 = .ok (.bipush 11, 2) := by decide +kernel
theorem dL_law_20 : decode cL_law 20 = .ok (.newarray .int, 2) := by decide +kernel
theorem dL_law_22 : decode cL_law 22 = .ok (.astore 4, 2) := by decide +kernel
theorem dL_law_24 : decode cL_law 24 = .ok (.bipush 40, 2) := by decide +kernel
theorem dL_law_26 : decode cL_law 26 = .ok (.newarray .int, 2) := by decide +kernel
theorem dL_law_28 : decode cL_law 28 = .ok (.astore 5, 2) := by decide +kernel
theorem dL_law_30 : decode cL_law 30 = .ok (.bipush 40, 2) := by decide +kernel
theorem dL_law_32 : decode cL_law 32 = .ok (.newarray .int, 2) := by decide +kernel
theorem dL_law_34 : decode cL_law 34 = .ok (.astore 6, 2) := by decide +kernel
theorem dL_law_36 : decode cL_law 36 = .ok (.bipush 40, 2) := by decide +kernel
theorem dL_law_38 : decode cL_law 38 = .ok (.newarray .int, 2) := by decide +kernel
theorem dL_law_40 : decode cL_law 40 = .ok (.astore 7, 2) := by decide +kernel
theorem dL_law_42 : decode cL_law 42 = .ok (.bipush 40, 2) := by decide +kernel
theorem dL_law_44 : decode cL_law 44 = .ok (.newarray .int, 2) := by decide +kernel
theorem dL_law_46 : decode cL_law 46 = .ok (.astore 8, 2) := by decide +kernel
theorem dL_law_48 : decode cL_law 48 = .ok (.aload 4, 2) := by decide +kernel
theorem dL_law_50 : decode cL_law 50 = .ok (.iconst 0, 1) := by decide +kernel
theorem dL_law_51 : decode cL_law 51 = .ok (.iconst 2, 1) := by decide +kernel
theorem dL_law_52 : decode cL_law 52 = .ok (.iastore, 1) := by decide +kernel
theorem dL_law_53 : decode cL_law 53 = .ok (.aload 4, 2) := by decide +kernel
theorem dL_law_55 : decode cL_law 55 = .ok (.iconst 1, 1) := by decide +kernel
theorem dL_law_56 : decode cL_law 56 = .ok (.bipush 8, 2) := by decide +kernel
theorem dL_law_58 : decode cL_law 58 = .ok (.iastore, 1) := by decide +kernel
theorem dL_law_59 : decode cL_law 59 = .ok (.aload 4, 2) := by decide +kernel
theorem dL_law_61 : decode cL_law 61 = .ok (.bipush 9, 2) := by decide +kernel
theorem dL_law_63 : decode cL_law 63 = .ok (.iconst 1, 1) := by decide +kernel
theorem dL_law_64 : decode cL_law 64 = .ok (.iastore, 1) := by decide +kernel
theorem dL_law_65 : decode cL_law 65 = .ok (.iconst 0, 1) := by decide +kernel
theorem dL_law_66 : decode cL_law 66 = .ok (.istore 9, 2) := by decide +kernel
theorem dL_law_68 : decode cL_law 68 = .ok (.iload 9, 2) := by decide +kernel
theorem dL_law_70 : decode cL_law 70 = .ok (.bipush 10, 2) := by decide +kernel
theorem dL_law_72 : decode cL_law 72 = .ok (.if_icmp .ge 14, 3) := by decide +kernel
theorem dL_law_75 : decode cL_law 75 = .ok (.aload_n 3, 1) := by decide +kernel
theorem dL_law_76 : decode cL_law 76 = .ok (.iload 9, 2) := by decide +kernel
theorem dL_law_78 : decode cL_law 78 = .ok (.iconst 2, 1) := by decide +kernel
theorem dL_law_79 : decode cL_law 79 = .ok (.iastore, 1) := by decide +kernel
theorem dL_law_80 : decode cL_law 80 = .ok (.iinc 9 1, 3) := by decide +kernel
theorem dL_law_83 : decode cL_law 83 = .ok (.goto (-15), 3) := by decide +kernel
theorem dL_law_86 : decode cL_law 86 = .ok (.iconst 0, 1) := by decide +kernel
theorem dL_law_87 : decode cL_law 87 = .ok (.istore 9, 2) := by decide +kernel
theorem dL_law_89 : decode cL_law 89 = .ok (.iload 9, 2) := by decide +kernel
theorem dL_law_91 : decode cL_law 91 = .ok (.bipush 46, 2) := by decide +kernel
theorem dL_law_93 : decode cL_law 93 = .ok (.if_icmp .ge 1061, 3) := by decide +kernel
theorem dL_law_96 : decode cL_law 96 = .ok (.aload_n 0, 1) := by decide +kernel
theorem dL_law_97 : decode cL_law 97 = .ok (.iload 9, 2) := by decide +kernel
theorem dL_law_99 : decode cL_law 99 = .ok (.invokestatic 92, 3) := by decide +kernel
theorem dL_law_102 : decode cL_law 102 = .ok (.istore 10, 2) := by decide +kernel
theorem dL_law_104 : decode cL_law 104 = .ok (.iload 10, 2) := by decide +kernel
theorem dL_law_106 : decode cL_law 106 = .ok (.bipush 16, 2) := by decide +kernel
theorem dL_law_108 : decode cL_law 108 = .ok (.invokestatic 95, 3) := by decide +kernel
theorem dL_law_111 : decode cL_law 111 = .ok (.istore 11, 2) := by decide +kernel
theorem dL_law_113 : decode cL_law 113 = .ok (.iload 10, 2) := by decide +kernel
theorem dL_law_115 : decode cL_law 115 = .ok (.iconst 4, 1) := by decide +kernel
theorem dL_law_116 : decode cL_law 116 = .ok (.ishr, 1) := by decide +kernel
theorem dL_law_117 : decode cL_law 117 = .ok (.bipush 12, 2) := by decide +kernel
theorem dL_law_119 : decode cL_law 119 = .ok (.invokestatic 95, 3) := by decide +kernel
theorem dL_law_122 : decode cL_law 122 = .ok (.invokestatic 10, 3) := by decide +kernel
theorem dL_law_125 : decode cL_law 125 = .ok (.istore 12, 2) := by decide +kernel
theorem dL_law_127 : decode cL_law 127 = .ok (.iconst 1, 1) := by decide +kernel
theorem dL_law_128 : decode cL_law 128 = .ok (.istore 13, 2) := by decide +kernel
theorem dL_law_130 : decode cL_law 130 = .ok (.iload 11, 2) := by decide +kernel
theorem dL_law_132 : decode cL_law 132 = .ok (.bipush 9, 2) := by decide +kernel
theorem dL_law_134 : decode cL_law 134 = .ok (.if_icmp .ge 331, 3) := by decide +kernel
theorem dL_law_137 : decode cL_law 137 = .ok (.iload 11, 2) := by decide +kernel
theorem dL_law_139 : decode cL_law 139 = .ok (.bipush 6, 2) := by decide +kernel
theorem dL_law_141 : decode cL_law 141 = .ok (.if_icmp .ge 17, 3) := by decide +kernel
theorem dL_law_144 : decode cL_law 144 = .ok (.iconst 1, 1) := by decide +kernel
theorem dL_law_145 : decode cL_law 145 = .ok (.iload 10, 2) := by decide +kernel
theorem dL_law_147 : decode cL_law 147 = .ok (.bipush 8, 2) := by decide +kernel
theorem dL_law_149 : decode cL_law 149 = .ok (.ishr, 1) := by decide +kernel
theorem dL_law_150 : decode cL_law 150 = .ok (.iconst 5, 1) := by decide +kernel
theorem dL_law_151 : decode cL_law 151 = .ok (.invokestatic 95, 3) := by decide +kernel
theorem dL_law_154 : decode cL_law 154 = .ok (.iadd, 1) := by decide +kernel
theorem dL_law_155 : decode cL_law 155 = .ok (.goto 15, 3) := by decide +kernel
theorem dL_law_158 : decode cL_law 158 = .ok (.bipush 6, 2) := by decide +kernel
theorem dL_law_160 : decode cL_law 160 = .ok (.iload 10, 2) := by decide +kernel
theorem dL_law_162 : decode cL_law 162 = .ok (.bipush 8, 2) := by decide +kernel
theorem dL_law_164 : decode cL_law 164 = .ok (.ishr, 1) := by decide +kernel
theorem dL_law_165 : decode cL_law 165 = .ok (.iconst 2, 1) := by decide +kernel
theorem dL_law_166 : decode cL_law 166 = .ok (.invokestatic 95, 3) := by decide +kernel
theorem dL_law_169 : decode cL_law 169 = .ok (.iadd, 1) := by decide +kernel
theorem dL_law_170 : decode cL_law 170 = .ok (.istore 14, 2) := by decide +kernel
theorem dL_law_172 : decode cL_law 172 = .ok (.aload_n 1, 1) := by decide +kernel
theorem dL_law_173 : decode cL_law 173 = .ok (.bipush 8, 2) := by decide +kernel
theorem dL_law_175 : decode cL_law 175 = .ok (.invokevirtual 73, 3) := by decide +kernel
theorem dL_law_178 : decode cL_law 178 = .ok (.istore 15, 2) := by decide +kernel
theorem dL_law_180 : decode cL_law 180 = .ok (.iload 15, 2) := by decide +kernel
theorem dL_law_182 : decode cL_law 182 = .ok (.ifCond .le 32, 3) := by decide +kernel
theorem dL_law_185 : decode cL_law 185 = .ok (.iload 10, 2) := by decide +kernel
theorem dL_law_187 : decode cL_law 187 = .ok (.bipush 20, 2) := by decide +kernel
theorem dL_law_189 : decode cL_law 189 = .ok (.ishr, 1) := by decide +kernel
theorem dL_law_190 : decode cL_law 190 = .ok (.iconst 4, 1) := by decide +kernel
theorem dL_law_191 : decode cL_law 191 = .ok (.invokestatic 95, 3) := by decide +kernel
theorem dL_law_194 : decode cL_law 194 = .ok (.ifCond .le 20, 3) := by decide +kernel
theorem dL_law_197 : decode cL_law 197 = .ok (.aload_n 1, 1) := by decide +kernel
theorem dL_law_198 : decode cL_law 198 = .ok (.iload 10, 2) := by decide +kernel
theorem dL_law_200 : decode cL_law 200 = .ok (.bipush 8, 2) := by decide +kernel
theorem dL_law_202 : decode cL_law 202 = .ok (.ishr, 1) := by decide +kernel
theorem dL_law_203 : decode cL_law 203 = .ok (.iload 15, 2) := by decide +kernel
theorem dL_law_205 : decode cL_law 205 = .ok (.invokestatic 95, 3) := by decide +kernel
theorem dL_law_208 : decode cL_law 208 = .ok (.invokevirtual 70, 3) := by decide +kernel
theorem dL_law_211 : decode cL_law 211 = .ok (.goto 14, 3) := by decide +kernel
theorem dL_law_214 : decode cL_law 214 = .ok (.bipush 100, 2) := by decide +kernel
theorem dL_law_216 : decode cL_law 216 = .ok (.iload 14, 2) := by decide +kernel
theorem dL_law_218 : decode cL_law 218 = .ok (.imul, 1) := by decide +kernel
theorem dL_law_219 : decode cL_law 219 = .ok (.iload 12, 2) := by decide +kernel
theorem dL_law_221 : decode cL_law 221 = .ok (.iadd, 1) := by decide +kernel
theorem dL_law_222 : decode cL_law 222 = .ok (.bipush 50, 2) := by decide +kernel
theorem dL_law_224 : decode cL_law 224 = .ok (.iadd, 1) := by decide +kernel
theorem dL_law_225 : decode cL_law 225 = .ok (.istore 16, 2) := by decide +kernel
theorem dL_law_227 : decode cL_law 227 = .ok (.iload 16, 2) := by decide +kernel
theorem dL_law_229 : decode cL_law 229 = .ok (.bipush 100, 2) := by decide +kernel
theorem dL_law_231 : decode cL_law 231 = .ok (.idiv, 1) := by decide +kernel
theorem dL_law_232 : decode cL_law 232 = .ok (.istore 14, 2) := by decide +kernel
theorem dL_law_234 : decode cL_law 234 = .ok (.iload 16, 2) := by decide +kernel
theorem dL_law_236 : decode cL_law 236 = .ok (.bipush 100, 2) := by decide +kernel
theorem dL_law_238 : decode cL_law 238 = .ok (.irem, 1) := by decide +kernel
theorem dL_law_239 : decode cL_law 239 = .ok (.bipush 50, 2) := by decide +kernel
theorem dL_law_241 : decode cL_law 241 = .ok (.isub, 1) := by decide +kernel
theorem dL_law_242 : decode cL_law 242 = .ok (.istore 12, 2) := by decide +kernel
theorem dL_law_244 : decode cL_law 244 = .ok (.aload_n 2, 1) := by decide +kernel
theorem dL_law_245 : decode cL_law 245 = .ok (.aload_n 3, 1) := by decide +kernel
theorem dL_law_246 : decode cL_law 246 = .ok (.aload 4, 2) := by decide +kernel
theorem dL_law_248 : decode cL_law 248 = .ok (.iload 14, 2) := by decide +kernel
theorem dL_law_250 : decode cL_law 250 = .ok (.iload 12, 2) := by decide +kernel
theorem dL_law_252 : decode cL_law 252 = .ok (.invokestatic 48, 3) := by decide +kernel
theorem dL_law_255 : decode cL_law 255 = .ok (.istore 17, 2) := by decide +kernel
theorem dL_law_257 : decode cL_law 257 = .ok (.aload_n 2, 1) := by decide +kernel
theorem dL_law_258 : decode cL_law 258 = .ok (.invokestatic 16, 3) := by decide +kernel
theorem dL_law_261 : decode cL_law 261 = .ok (.istore 18, 2) := by decide +kernel
theorem dL_law_263 : decode cL_law 263 = .ok (.aload 4, 2) := by decide +kernel
theorem dL_law_265 : decode cL_law 265 = .ok (.iconst 4, 1) := by decide +kernel
theorem dL_law_266 : decode cL_law 266 = .ok (.iaload, 1) := by decide +kernel
theorem dL_law_267 : decode cL_law 267 = .ok (.istore 19, 2) := by decide +kernel
theorem dL_law_269 : decode cL_law 269 = .ok (.iload 17, 2) := by decide +kernel
theorem dL_law_271 : decode cL_law 271 = .ok (.ifCond .ne 123, 3) := by decide +kernel
theorem dL_law_274 : decode cL_law 274 = .ok (.aload_n 2, 1) := by decide +kernel
theorem dL_law_275 : decode cL_law 275 = .ok (.aload_n 3, 1) := by decide +kernel
theorem dL_law_276 : decode cL_law 276 = .ok (.aload 4, 2) := by decide +kernel
theorem dL_law_278 : decode cL_law 278 = .ok (.iload 14, 2) := by decide +kernel
theorem dL_law_280 : decode cL_law 280 = .ok (.iload 12, 2) := by decide +kernel
theorem dL_law_282 : decode cL_law 282 = .ok (.invokestatic 56, 3) := by decide +kernel
theorem dL_law_285 : decode cL_law 285 = .ok (.aload_n 2, 1) := by decide +kernel
theorem dL_law_286 : decode cL_law 286 = .ok (.invokestatic 16, 3) := by decide +kernel
theorem dL_law_289 : decode cL_law 289 = .ok (.istore 20, 2) := by decide +kernel
theorem dL_law_291 : decode cL_law 291 = .ok (.aload 4, 2) := by decide +kernel
theorem dL_law_293 : decode cL_law 293 = .ok (.iconst 5, 1) := by decide +kernel
theorem dL_law_294 : decode cL_law 294 = .ok (.iaload, 1) := by decide +kernel
theorem dL_law_295 : decode cL_law 295 = .ok (.bipush 40, 2) := by decide +kernel
theorem dL_law_297 : decode cL_law 297 = .ok (.irem, 1) := by decide +kernel
theorem dL_law_298 : decode cL_law 298 = .ok (.istore 21, 2) := by decide +kernel
theorem dL_law_300 : decode cL_law 300 = .ok (.aload 5, 2) := by decide +kernel
theorem dL_law_302 : decode cL_law 302 = .ok (.iload 21, 2) := by decide +kernel
theorem dL_law_304 : decode cL_law 304 = .ok (.iload 19, 2) := by decide +kernel
theorem dL_law_306 : decode cL_law 306 = .ok (.iastore, 1) := by decide +kernel
theorem dL_law_307 : decode cL_law 307 = .ok (.aload 6, 2) := by decide +kernel
theorem dL_law_309 : decode cL_law 309 = .ok (.iload 21, 2) := by decide +kernel
theorem dL_law_311 : decode cL_law 311 = .ok (.iload 14, 2) := by decide +kernel
theorem dL_law_313 : decode cL_law 313 = .ok (.iastore, 1) := by decide +kernel
theorem dL_law_314 : decode cL_law 314 = .ok (.aload 7, 2) := by decide +kernel
theorem dL_law_316 : decode cL_law 316 = .ok (.iload 21, 2) := by decide +kernel
theorem dL_law_318 : decode cL_law 318 = .ok (.iload 12, 2) := by decide +kernel
theorem dL_law_320 : decode cL_law 320 = .ok (.iastore, 1) := by decide +kernel
theorem dL_law_321 : decode cL_law 321 = .ok (.aload 8, 2) := by decide +kernel
theorem dL_law_323 : decode cL_law 323 = .ok (.iload 21, 2) := by decide +kernel
theorem dL_law_325 : decode cL_law 325 = .ok (.iload 20, 2) := by decide +kernel
theorem dL_law_327 : decode cL_law 327 = .ok (.iload 18, 2) := by decide +kernel
theorem dL_law_329 : decode cL_law 329 = .ok (.isub, 1) := by decide +kernel
theorem dL_law_330 : decode cL_law 330 = .ok (.iastore, 1) := by decide +kernel
theorem dL_law_331 : decode cL_law 331 = .ok (.aload 4, 2) := by decide +kernel
theorem dL_law_333 : decode cL_law 333 = .ok (.iconst 5, 1) := by decide +kernel
theorem dL_law_334 : decode cL_law 334 = .ok (.dup2, 1) := by decide +kernel
theorem dL_law_335 : decode cL_law 335 = .ok (.iaload, 1) := by decide +kernel
theorem dL_law_336 : decode cL_law 336 = .ok (.iconst 1, 1) := by decide +kernel
theorem dL_law_337 : decode cL_law 337 = .ok (.iadd, 1) := by decide +kernel
theorem dL_law_338 : decode cL_law 338 = .ok (.iastore, 1) := by decide +kernel
theorem dL_law_339 : decode cL_law 339 = .ok (.aload 4, 2) := by decide +kernel
theorem dL_law_341 : decode cL_law 341 = .ok (.bipush 6, 2) := by decide +kernel
theorem dL_law_343 : decode cL_law 343 = .ok (.dup2, 1) := by decide +kernel
theorem dL_law_344 : decode cL_law 344 = .ok (.iaload, 1) := by decide +kernel
theorem dL_law_345 : decode cL_law 345 = .ok (.iload 20, 2) := by decide +kernel
theorem dL_law_347 : decode cL_law 347 = .ok (.iload 18, 2) := by decide +kernel
theorem dL_law_349 : decode cL_law 349 = .ok (.isub, 1) := by decide +kernel
theorem dL_law_350 : decode cL_law 350 = .ok (.iadd, 1) := by decide +kernel
theorem dL_law_351 : decode cL_law 351 = .ok (.iastore, 1) := by decide +kernel
theorem dL_law_352 : decode cL_law 352 = .ok (.aload 4, 2) := by decide +kernel
theorem dL_law_354 : decode cL_law 354 = .ok (.bipush 8, 2) := by decide +kernel
theorem dL_law_356 : decode cL_law 356 = .ok (.iload 20, 2) := by decide +kernel
theorem dL_law_358 : decode cL_law 358 = .ok (.aload 4, 2) := by decide +kernel
theorem dL_law_360 : decode cL_law 360 = .ok (.bipush 8, 2) := by decide +kernel
theorem dL_law_362 : decode cL_law 362 = .ok (.iaload, 1) := by decide +kernel
theorem dL_law_363 : decode cL_law 363 = .ok (.if_icmp .le 8, 3) := by decide +kernel
theorem dL_law_366 : decode cL_law 366 = .ok (.iload 20, 2) := by decide +kernel
theorem dL_law_368 : decode cL_law 368 = .ok (.goto 25, 3) := by decide +kernel
theorem dL_law_371 : decode cL_law 371 = .ok (.iload 20, 2) := by decide +kernel
theorem dL_law_373 : decode cL_law 373 = .ok (.ineg, 1) := by decide +kernel
theorem dL_law_374 : decode cL_law 374 = .ok (.aload 4, 2) := by decide +kernel
theorem dL_law_376 : decode cL_law 376 = .ok (.bipush 8, 2) := by decide +kernel
theorem dL_law_378 : decode cL_law 378 = .ok (.iaload, 1) := by decide +kernel
theorem dL_law_379 : decode cL_law 379 = .ok (.if_icmp .le 9, 3) := by decide +kernel
theorem dL_law_382 : decode cL_law 382 = .ok (.iload 20, 2) := by decide +kernel
theorem dL_law_384 : decode cL_law 384 = .ok (.ineg, 1) := by decide +kernel
theorem dL_law_385 : decode cL_law 385 = .ok (.goto 8, 3) := by decide +kernel
theorem dL_law_388 : decode cL_law 388 = .ok (.aload 4, 2) := by decide +kernel
theorem dL_law_390 : decode cL_law 390 = .ok (.bipush 8, 2) := by decide +kernel
theorem dL_law_392 : decode cL_law 392 = .ok (.iaload, 1) := by decide +kernel
theorem dL_law_393 : decode cL_law 393 = .ok (.iastore, 1) := by decide +kernel
theorem dL_law_394 : decode cL_law 394 = .ok (.iload 14, 2) := by decide +kernel
theorem dL_law_396 : decode cL_law 396 = .ok (.bipush 6, 2) := by decide +kernel
theorem dL_law_398 : decode cL_law 398 = .ok (.if_icmp .ge 14, 3) := by decide +kernel
theorem dL_law_401 : decode cL_law 401 = .ok (.aload_n 1, 1) := by decide +kernel
theorem dL_law_402 : decode cL_law 402 = .ok (.iload 14, 2) := by decide +kernel
theorem dL_law_404 : decode cL_law 404 = .ok (.iload 12, 2) := by decide +kernel
theorem dL_law_406 : decode cL_law 406 = .ok (.invokevirtual 98, 3) := by decide +kernel
theorem dL_law_409 : decode cL_law 409 = .ok (.goto 21, 3) := by decide +kernel
theorem dL_law_412 : decode cL_law 412 = .ok (.aload_n 1, 1) := by decide +kernel
theorem dL_law_413 : decode cL_law 413 = .ok (.iload 12, 2) := by decide +kernel
theorem dL_law_415 : decode cL_law 415 = .ok (.iload 14, 2) := by decide +kernel
theorem dL_law_417 : decode cL_law 417 = .ok (.bipush 6, 2) := by decide +kernel
theorem dL_law_419 : decode cL_law 419 = .ok (.if_icmp .ne 7, 3) := by decide +kernel
theorem dL_law_422 : decode cL_law 422 = .ok (.iconst 1, 1) := by decide +kernel
theorem dL_law_423 : decode cL_law 423 = .ok (.goto 4, 3) := by decide +kernel
theorem dL_law_426 : decode cL_law 426 = .ok (.iconst 0, 1) := by decide +kernel
theorem dL_law_427 : decode cL_law 427 = .ok (.invokevirtual 101, 3) := by decide +kernel
theorem dL_law_430 : decode cL_law 430 = .ok (.istore 20, 2) := by decide +kernel
theorem dL_law_432 : decode cL_law 432 = .ok (.iload 20, 2) := by decide +kernel
theorem dL_law_434 : decode cL_law 434 = .ok (.iload 17, 2) := by decide +kernel
theorem dL_law_436 : decode cL_law 436 = .ok (.ifCond .le 12, 3) := by decide +kernel
theorem dL_law_439 : decode cL_law 439 = .ok (.sipush (-10010), 3) := by decide +kernel
theorem dL_law_442 : decode cL_law 442 = .ok (.iload 17, 2) := by decide +kernel
theorem dL_law_444 : decode cL_law 444 = .ok (.isub, 1) := by decide +kernel
theorem dL_law_445 : decode cL_law 445 = .ok (.goto 7, 3) := by decide +kernel
theorem dL_law_448 : decode cL_law 448 = .ok (.aload_n 2, 1) := by decide +kernel
theorem dL_law_449 : decode cL_law 449 = .ok (.invokestatic 16, 3) := by decide +kernel
theorem dL_law_452 : decode cL_law 452 = .ok (.if_icmp .ne 7, 3) := by decide +kernel
theorem dL_law_455 : decode cL_law 455 = .ok (.iconst 1, 1) := by decide +kernel
theorem dL_law_456 : decode cL_law 456 = .ok (.goto 4, 3) := by decide +kernel
theorem dL_law_459 : decode cL_law 459 = .ok (.iconst 0, 1) := by decide +kernel
theorem dL_law_460 : decode cL_law 460 = .ok (.istore 13, 2) := by decide +kernel
theorem dL_law_462 : decode cL_law 462 = .ok (.goto 456, 3) := by decide +kernel
theorem dL_law_465 : decode cL_law 465 = .ok (.iload 11, 2) := by decide +kernel
theorem dL_law_467 : decode cL_law 467 = .ok (.bipush 11, 2) := by decide +kernel
theorem dL_law_469 : decode cL_law 469 = .ok (.if_icmp .ge 106, 3) := by decide +kernel
theorem dL_law_472 : decode cL_law 472 = .ok (.iconst 1, 1) := by decide +kernel
theorem dL_law_473 : decode cL_law 473 = .ok (.iload 10, 2) := by decide +kernel
theorem dL_law_475 : decode cL_law 475 = .ok (.bipush 8, 2) := by decide +kernel
theorem dL_law_477 : decode cL_law 477 = .ok (.ishr, 1) := by decide +kernel
theorem dL_law_478 : decode cL_law 478 = .ok (.iconst 5, 1) := by decide +kernel
theorem dL_law_479 : decode cL_law 479 = .ok (.invokestatic 95, 3) := by decide +kernel
theorem dL_law_482 : decode cL_law 482 = .ok (.iadd, 1) := by decide +kernel
theorem dL_law_483 : decode cL_law 483 = .ok (.istore 14, 2) := by decide +kernel
theorem dL_law_485 : decode cL_law 485 = .ok (.iload 12, 2) := by decide +kernel
theorem dL_law_487 : decode cL_law 487 = .ok (.invokestatic 28, 3) := by decide +kernel
theorem dL_law_490 : decode cL_law 490 = .ok (.istore 15, 2) := by decide +kernel
theorem dL_law_492 : decode cL_law 492 = .ok (.aload_n 2, 1) := by decide +kernel
theorem dL_law_493 : decode cL_law 493 = .ok (.bipush 48, 2) := by decide +kernel
theorem dL_law_495 : decode cL_law 495 = .ok (.iload 15, 2) := by decide +kernel
theorem dL_law_497 : decode cL_law 497 = .ok (.iadd, 1) := by decide +kernel
theorem dL_law_498 : decode cL_law 498 = .ok (.iaload, 1) := by decide +kernel
theorem dL_law_499 : decode cL_law 499 = .ok (.aload 4, 2) := by decide +kernel
theorem dL_law_501 : decode cL_law 501 = .ok (.iconst 0, 1) := by decide +kernel
theorem dL_law_502 : decode cL_law 502 = .ok (.iaload, 1) := by decide +kernel
theorem dL_law_503 : decode cL_law 503 = .ok (.if_icmp .lt 7, 3) := by decide +kernel
theorem dL_law_506 : decode cL_law 506 = .ok (.iconst 1, 1) := by decide +kernel
theorem dL_law_507 : decode cL_law 507 = .ok (.goto 4, 3) := by decide +kernel
theorem dL_law_510 : decode cL_law 510 = .ok (.iconst 0, 1) := by decide +kernel
theorem dL_law_511 : decode cL_law 511 = .ok (.istore 16, 2) := by decide +kernel
theorem dL_law_513 : decode cL_law 513 = .ok (.iload 16, 2) := by decide +kernel
theorem dL_law_515 : decode cL_law 515 = .ok (.ifCond .ne 24, 3) := by decide +kernel
theorem dL_law_518 : decode cL_law 518 = .ok (.aload_n 2, 1) := by decide +kernel
theorem dL_law_519 : decode cL_law 519 = .ok (.iload 12, 2) := by decide +kernel
theorem dL_law_521 : decode cL_law 521 = .ok (.iload 14, 2) := by decide +kernel
theorem dL_law_523 : decode cL_law 523 = .ok (.invokestatic 35, 3) := by decide +kernel
theorem dL_law_526 : decode cL_law 526 = .ok (.aload 4, 2) := by decide +kernel
theorem dL_law_528 : decode cL_law 528 = .ok (.bipush 7, 2) := by decide +kernel
theorem dL_law_530 : decode cL_law 530 = .ok (.dup2, 1) := by decide +kernel
theorem dL_law_531 : decode cL_law 531 = .ok (.iaload, 1) := by decide +kernel
theorem dL_law_532 : decode cL_law 532 = .ok (.iload 14, 2) := by decide +kernel
theorem dL_law_534 : decode cL_law 534 = .ok (.iload 12, 2) := by decide +kernel
theorem dL_law_536 : decode cL_law 536 = .ok (.imul, 1) := by decide +kernel
theorem dL_law_537 : decode cL_law 537 = .ok (.iadd, 1) := by decide +kernel
theorem dL_law_538 : decode cL_law 538 = .ok (.iastore, 1) := by decide +kernel
theorem dL_law_539 : decode cL_law 539 = .ok (.aload_n 1, 1) := by decide +kernel
theorem dL_law_540 : decode cL_law 540 = .ok (.iload 14, 2) := by decide +kernel
theorem dL_law_542 : decode cL_law 542 = .ok (.iload 12, 2) := by decide +kernel
theorem dL_law_544 : decode cL_law 544 = .ok (.invokevirtual 105, 3) := by decide +kernel
theorem dL_law_547 : decode cL_law 547 = .ok (.iload 16, 2) := by decide +kernel
theorem dL_law_549 : decode cL_law 549 = .ok (.ifCond .eq 9, 3) := by decide +kernel
theorem dL_law_552 : decode cL_law 552 = .ok (.sipush (-10003), 3) := by decide +kernel
theorem dL_law_555 : decode cL_law 555 = .ok (.goto 7, 3) := by decide +kernel
theorem dL_law_558 : decode cL_law 558 = .ok (.aload_n 2, 1) := by decide +kernel
theorem dL_law_559 : decode cL_law 559 = .ok (.invokestatic 16, 3) := by decide +kernel
theorem dL_law_562 : decode cL_law 562 = .ok (.if_icmp .ne 7, 3) := by decide +kernel
theorem dL_law_565 : decode cL_law 565 = .ok (.iconst 1, 1) := by decide +kernel
theorem dL_law_566 : decode cL_law 566 = .ok (.goto 4, 3) := by decide +kernel
theorem dL_law_569 : decode cL_law 569 = .ok (.iconst 0, 1) := by decide +kernel
theorem dL_law_570 : decode cL_law 570 = .ok (.istore 13, 2) := by decide +kernel
theorem dL_law_572 : decode cL_law 572 = .ok (.goto 346, 3) := by decide +kernel
theorem dL_law_575 : decode cL_law 575 = .ok (.iload 11, 2) := by decide +kernel
theorem dL_law_577 : decode cL_law 577 = .ok (.bipush 13, 2) := by decide +kernel
theorem dL_law_579 : decode cL_law 579 = .ok (.if_icmp .ge 113, 3) := by decide +kernel
theorem dL_law_582 : decode cL_law 582 = .ok (.iload 10, 2) := by decide +kernel
theorem dL_law_584 : decode cL_law 584 = .ok (.iconst 4, 1) := by decide +kernel
theorem dL_law_585 : decode cL_law 585 = .ok (.ishr, 1) := by decide +kernel
theorem dL_law_586 : decode cL_law 586 = .ok (.iconst 2, 1) := by decide +kernel
theorem dL_law_587 : decode cL_law 587 = .ok (.invokestatic 95, 3) := by decide +kernel
theorem dL_law_590 : decode cL_law 590 = .ok (.istore 14, 2) := by decide +kernel
theorem dL_law_592 : decode cL_law 592 = .ok (.iload 10, 2) := by decide +kernel
theorem dL_law_594 : decode cL_law 594 = .ok (.iconst 5, 1) := by decide +kernel
theorem dL_law_595 : decode cL_law 595 = .ok (.ishr, 1) := by decide +kernel
theorem dL_law_596 : decode cL_law 596 = .ok (.iconst 5, 1) := by decide +kernel
theorem dL_law_597 : decode cL_law 597 = .ok (.invokestatic 95, 3) := by decide +kernel
theorem dL_law_600 : decode cL_law 600 = .ok (.istore 15, 2) := by decide +kernel
theorem dL_law_602 : decode cL_law 602 = .ok (.iload 10, 2) := by decide +kernel
theorem dL_law_604 : decode cL_law 604 = .ok (.bipush 8, 2) := by decide +kernel
theorem dL_law_606 : decode cL_law 606 = .ok (.ishr, 1) := by decide +kernel
theorem dL_law_607 : decode cL_law 607 = .ok (.iload 10, 2) := by decide +kernel
theorem dL_law_609 : decode cL_law 609 = .ok (.bipush 20, 2) := by decide +kernel
theorem dL_law_611 : decode cL_law 611 = .ok (.ishr, 1) := by decide +kernel
theorem dL_law_612 : decode cL_law 612 = .ok (.iconst 3, 1) := by decide +kernel
theorem dL_law_613 : decode cL_law 613 = .ok (.invokestatic 95, 3) := by decide +kernel
theorem dL_law_616 : decode cL_law 616 = .ok (.ifCond .ne 8, 3) := by decide +kernel
theorem dL_law_619 : decode cL_law 619 = .ok (.bipush 7, 2) := by decide +kernel
theorem dL_law_621 : decode cL_law 621 = .ok (.goto 4, 3) := by decide +kernel
theorem dL_law_624 : decode cL_law 624 = .ok (.iconst 2, 1) := by decide +kernel
theorem dL_law_625 : decode cL_law 625 = .ok (.invokestatic 95, 3) := by decide +kernel
theorem dL_law_628 : decode cL_law 628 = .ok (.istore 16, 2) := by decide +kernel
theorem dL_law_630 : decode cL_law 630 = .ok (.aload_n 3, 1) := by decide +kernel
theorem dL_law_631 : decode cL_law 631 = .ok (.iconst 5, 1) := by decide +kernel
theorem dL_law_632 : decode cL_law 632 = .ok (.iload 14, 2) := by decide +kernel
theorem dL_law_634 : decode cL_law 634 = .ok (.imul, 1) := by decide +kernel
theorem dL_law_635 : decode cL_law 635 = .ok (.iload 15, 2) := by decide +kernel
theorem dL_law_637 : decode cL_law 637 = .ok (.iadd, 1) := by decide +kernel
theorem dL_law_638 : decode cL_law 638 = .ok (.iaload, 1) := by decide +kernel
theorem dL_law_639 : decode cL_law 639 = .ok (.istore 17, 2) := by decide +kernel
theorem dL_law_641 : decode cL_law 641 = .ok (.aload_n 3, 1) := by decide +kernel
theorem dL_law_642 : decode cL_law 642 = .ok (.iconst 5, 1) := by decide +kernel
theorem dL_law_643 : decode cL_law 643 = .ok (.iload 14, 2) := by decide +kernel
theorem dL_law_645 : decode cL_law 645 = .ok (.imul, 1) := by decide +kernel
theorem dL_law_646 : decode cL_law 646 = .ok (.iload 15, 2) := by decide +kernel
theorem dL_law_648 : decode cL_law 648 = .ok (.iadd, 1) := by decide +kernel
theorem dL_law_649 : decode cL_law 649 = .ok (.iload 16, 2) := by decide +kernel
theorem dL_law_651 : decode cL_law 651 = .ok (.iastore, 1) := by decide +kernel
theorem dL_law_652 : decode cL_law 652 = .ok (.aload_n 1, 1) := by decide +kernel
theorem dL_law_653 : decode cL_law 653 = .ok (.iload 14, 2) := by decide +kernel
theorem dL_law_655 : decode cL_law 655 = .ok (.iload 15, 2) := by decide +kernel
theorem dL_law_657 : decode cL_law 657 = .ok (.iconst 1, 1) := by decide +kernel
theorem dL_law_658 : decode cL_law 658 = .ok (.iadd, 1) := by decide +kernel
theorem dL_law_659 : decode cL_law 659 = .ok (.iload 16, 2) := by decide +kernel
theorem dL_law_661 : decode cL_law 661 = .ok (.invokevirtual 108, 3) := by decide +kernel
theorem dL_law_664 : decode cL_law 664 = .ok (.iload 17, 2) := by decide +kernel
theorem dL_law_666 : decode cL_law 666 = .ok (.iload 16, 2) := by decide +kernel
theorem dL_law_668 : decode cL_law 668 = .ok (.if_icmp .ne 9, 3) := by decide +kernel
theorem dL_law_671 : decode cL_law 671 = .ok (.sipush (-10005), 3) := by decide +kernel
theorem dL_law_674 : decode cL_law 674 = .ok (.goto 5, 3) := by decide +kernel
theorem dL_law_677 : decode cL_law 677 = .ok (.iload 17, 2) := by decide +kernel
theorem dL_law_679 : decode cL_law 679 = .ok (.if_icmp .ne 7, 3) := by decide +kernel
theorem dL_law_682 : decode cL_law 682 = .ok (.iconst 1, 1) := by decide +kernel
theorem dL_law_683 : decode cL_law 683 = .ok (.goto 4, 3) := by decide +kernel
theorem dL_law_686 : decode cL_law 686 = .ok (.iconst 0, 1) := by decide +kernel
theorem dL_law_687 : decode cL_law 687 = .ok (.istore 13, 2) := by decide +kernel
theorem dL_law_689 : decode cL_law 689 = .ok (.goto 229, 3) := by decide +kernel
theorem dL_law_692 : decode cL_law 692 = .ok (.iload 11, 2) := by decide +kernel
theorem dL_law_694 : decode cL_law 694 = .ok (.bipush 15, 2) := by decide +kernel
theorem dL_law_696 : decode cL_law 696 = .ok (.if_icmp .ge 129, 3) := by decide +kernel
theorem dL_law_699 : decode cL_law 699 = .ok (.iload 10, 2) := by decide +kernel
theorem dL_law_701 : decode cL_law 701 = .ok (.iconst 4, 1) := by decide +kernel
theorem dL_law_702 : decode cL_law 702 = .ok (.ishr, 1) := by decide +kernel
theorem dL_law_703 : decode cL_law 703 = .ok (.iconst 4, 1) := by decide +kernel
theorem dL_law_704 : decode cL_law 704 = .ok (.invokestatic 95, 3) := by decide +kernel
theorem dL_law_707 : decode cL_law 707 = .ok (.istore 14, 2) := by decide +kernel
theorem dL_law_709 : decode cL_law 709 = .ok (.iload 14, 2) := by decide +kernel
theorem dL_law_711 : decode cL_law 711 = .ok (.ifCond .ne 17, 3) := by decide +kernel
theorem dL_law_714 : decode cL_law 714 = .ok (.iconst 1, 1) := by decide +kernel
theorem dL_law_715 : decode cL_law 715 = .ok (.iload 10, 2) := by decide +kernel
theorem dL_law_717 : decode cL_law 717 = .ok (.bipush 6, 2) := by decide +kernel
theorem dL_law_719 : decode cL_law 719 = .ok (.ishr, 1) := by decide +kernel
theorem dL_law_720 : decode cL_law 720 = .ok (.iconst 4, 1) := by decide +kernel
theorem dL_law_721 : decode cL_law 721 = .ok (.invokestatic 95, 3) := by decide +kernel
theorem dL_law_724 : decode cL_law 724 = .ok (.iadd, 1) := by decide +kernel
theorem dL_law_725 : decode cL_law 725 = .ok (.goto 48, 3) := by decide +kernel
theorem dL_law_728 : decode cL_law 728 = .ok (.iload 14, 2) := by decide +kernel
theorem dL_law_730 : decode cL_law 730 = .ok (.iconst 1, 1) := by decide +kernel
theorem dL_law_731 : decode cL_law 731 = .ok (.if_icmp .ne 33, 3) := by decide +kernel
theorem dL_law_734 : decode cL_law 734 = .ok (.iload 10, 2) := by decide +kernel
theorem dL_law_736 : decode cL_law 736 = .ok (.bipush 6, 2) := by decide +kernel
theorem dL_law_738 : decode cL_law 738 = .ok (.ishr, 1) := by decide +kernel
theorem dL_law_739 : decode cL_law 739 = .ok (.iload 10, 2) := by decide +kernel
theorem dL_law_741 : decode cL_law 741 = .ok (.bipush 20, 2) := by decide +kernel
theorem dL_law_743 : decode cL_law 743 = .ok (.ishr, 1) := by decide +kernel
theorem dL_law_744 : decode cL_law 744 = .ok (.iconst 2, 1) := by decide +kernel
theorem dL_law_745 : decode cL_law 745 = .ok (.invokestatic 95, 3) := by decide +kernel
theorem dL_law_748 : decode cL_law 748 = .ok (.ifCond .ne 8, 3) := by decide +kernel
theorem dL_law_751 : decode cL_law 751 = .ok (.bipush 41, 2) := by decide +kernel
theorem dL_law_753 : decode cL_law 753 = .ok (.goto 5, 3) := by decide +kernel
theorem dL_law_756 : decode cL_law 756 = .ok (.bipush 20, 2) := by decide +kernel
theorem dL_law_758 : decode cL_law 758 = .ok (.invokestatic 95, 3) := by decide +kernel
theorem dL_law_761 : decode cL_law 761 = .ok (.goto 12, 3) := by decide +kernel
theorem dL_law_764 : decode cL_law 764 = .ok (.iload 10, 2) := by decide +kernel
theorem dL_law_766 : decode cL_law 766 = .ok (.bipush 6, 2) := by decide +kernel
theorem dL_law_768 : decode cL_law 768 = .ok (.ishr, 1) := by decide +kernel
theorem dL_law_769 : decode cL_law 769 = .ok (.iconst 2, 1) := by decide +kernel
theorem dL_law_770 : decode cL_law 770 = .ok (.invokestatic 95, 3) := by decide +kernel
theorem dL_law_773 : decode cL_law 773 = .ok (.istore 15, 2) := by decide +kernel
theorem dL_law_775 : decode cL_law 775 = .ok (.aload 4, 2) := by decide +kernel
theorem dL_law_777 : decode cL_law 777 = .ok (.iload 14, 2) := by decide +kernel
theorem dL_law_779 : decode cL_law 779 = .ok (.iaload, 1) := by decide +kernel
theorem dL_law_780 : decode cL_law 780 = .ok (.istore 16, 2) := by decide +kernel
theorem dL_law_782 : decode cL_law 782 = .ok (.aload 4, 2) := by decide +kernel
theorem dL_law_784 : decode cL_law 784 = .ok (.iload 14, 2) := by decide +kernel
theorem dL_law_786 : decode cL_law 786 = .ok (.iload 15, 2) := by decide +kernel
theorem dL_law_788 : decode cL_law 788 = .ok (.iastore, 1) := by decide +kernel
theorem dL_law_789 : decode cL_law 789 = .ok (.aload_n 1, 1) := by decide +kernel
theorem dL_law_790 : decode cL_law 790 = .ok (.iload 14, 2) := by decide +kernel
theorem dL_law_792 : decode cL_law 792 = .ok (.iload 15, 2) := by decide +kernel
theorem dL_law_794 : decode cL_law 794 = .ok (.invokevirtual 112, 3) := by decide +kernel
theorem dL_law_797 : decode cL_law 797 = .ok (.iload 16, 2) := by decide +kernel
theorem dL_law_799 : decode cL_law 799 = .ok (.iload 15, 2) := by decide +kernel
theorem dL_law_801 : decode cL_law 801 = .ok (.if_icmp .ne 9, 3) := by decide +kernel
theorem dL_law_804 : decode cL_law 804 = .ok (.sipush (-10005), 3) := by decide +kernel
theorem dL_law_807 : decode cL_law 807 = .ok (.goto 5, 3) := by decide +kernel
theorem dL_law_810 : decode cL_law 810 = .ok (.iload 16, 2) := by decide +kernel
theorem dL_law_812 : decode cL_law 812 = .ok (.if_icmp .ne 7, 3) := by decide +kernel
theorem dL_law_815 : decode cL_law 815 = .ok (.iconst 1, 1) := by decide +kernel
theorem dL_law_816 : decode cL_law 816 = .ok (.goto 4, 3) := by decide +kernel
theorem dL_law_819 : decode cL_law 819 = .ok (.iconst 0, 1) := by decide +kernel
theorem dL_law_820 : decode cL_law 820 = .ok (.istore 13, 2) := by decide +kernel
theorem dL_law_822 : decode cL_law 822 = .ok (.goto 96, 3) := by decide +kernel
theorem dL_law_825 : decode cL_law 825 = .ok (.iconst 0, 1) := by decide +kernel
theorem dL_law_826 : decode cL_law 826 = .ok (.istore 14, 2) := by decide +kernel
theorem dL_law_828 : decode cL_law 828 = .ok (.iconst 0, 1) := by decide +kernel
theorem dL_law_829 : decode cL_law 829 = .ok (.istore 15, 2) := by decide +kernel
theorem dL_law_831 : decode cL_law 831 = .ok (.iload 15, 2) := by decide +kernel
theorem dL_law_833 : decode cL_law 833 = .ok (.bipush 60, 2) := by decide +kernel
theorem dL_law_835 : decode cL_law 835 = .ok (.if_icmp .ge 34, 3) := by decide +kernel
theorem dL_law_838 : decode cL_law 838 = .ok (.iload 14, 2) := by decide +kernel
theorem dL_law_840 : decode cL_law 840 = .ok (.iload 15, 2) := by decide +kernel
theorem dL_law_842 : decode cL_law 842 = .ok (.bipush 48, 2) := by decide +kernel
theorem dL_law_844 : decode cL_law 844 = .ok (.if_icmp .ge 7, 3) := by decide +kernel
theorem dL_law_847 : decode cL_law 847 = .ok (.iconst 0, 1) := by decide +kernel
theorem dL_law_848 : decode cL_law 848 = .ok (.goto 7, 3) := by decide +kernel
theorem dL_law_851 : decode cL_law 851 = .ok (.aload_n 2, 1) := by decide +kernel
theorem dL_law_852 : decode cL_law 852 = .ok (.iload 15, 2) := by decide +kernel
theorem dL_law_854 : decode cL_law 854 = .ok (.iaload, 1) := by decide +kernel
theorem dL_law_855 : decode cL_law 855 = .ok (.iadd, 1) := by decide +kernel
theorem dL_law_856 : decode cL_law 856 = .ok (.istore 14, 2) := by decide +kernel
theorem dL_law_858 : decode cL_law 858 = .ok (.aload_n 2, 1) := by decide +kernel
theorem dL_law_859 : decode cL_law 859 = .ok (.iload 15, 2) := by decide +kernel
theorem dL_law_861 : decode cL_law 861 = .ok (.iconst 0, 1) := by decide +kernel
theorem dL_law_862 : decode cL_law 862 = .ok (.iastore, 1) := by decide +kernel
theorem dL_law_863 : decode cL_law 863 = .ok (.iinc 15 1, 3) := by decide +kernel
theorem dL_law_866 : decode cL_law 866 = .ok (.goto (-35), 3) := by decide +kernel
theorem dL_law_869 : decode cL_law 869 = .ok (.iconst 4, 1) := by decide +kernel
theorem dL_law_870 : decode cL_law 870 = .ok (.istore 15, 2) := by decide +kernel
theorem dL_law_872 : decode cL_law 872 = .ok (.iload 15, 2) := by decide +kernel
theorem dL_law_874 : decode cL_law 874 = .ok (.bipush 11, 2) := by decide +kernel
theorem dL_law_876 : decode cL_law 876 = .ok (.if_icmp .ge 26, 3) := by decide +kernel
theorem dL_law_879 : decode cL_law 879 = .ok (.aload 4, 2) := by decide +kernel
theorem dL_law_881 : decode cL_law 881 = .ok (.iload 15, 2) := by decide +kernel
theorem dL_law_883 : decode cL_law 883 = .ok (.iload 15, 2) := by decide +kernel
theorem dL_law_885 : decode cL_law 885 = .ok (.bipush 9, 2) := by decide +kernel
theorem dL_law_887 : decode cL_law 887 = .ok (.if_icmp .ne 7, 3) := by decide +kernel
theorem dL_law_890 : decode cL_law 890 = .ok (.iconst 1, 1) := by decide +kernel
theorem dL_law_891 : decode cL_law 891 = .ok (.goto 4, 3) := by decide +kernel
theorem dL_law_894 : decode cL_law 894 = .ok (.iconst 0, 1) := by decide +kernel
theorem dL_law_895 : decode cL_law 895 = .ok (.iastore, 1) := by decide +kernel
theorem dL_law_896 : decode cL_law 896 = .ok (.iinc 15 1, 3) := by decide +kernel
theorem dL_law_899 : decode cL_law 899 = .ok (.goto (-27), 3) := by decide +kernel
theorem dL_law_902 : decode cL_law 902 = .ok (.aload_n 1, 1) := by decide +kernel
theorem dL_law_903 : decode cL_law 903 = .ok (.invokevirtual 115, 3) := by decide +kernel
theorem dL_law_906 : decode cL_law 906 = .ok (.iload 14, 2) := by decide +kernel
theorem dL_law_908 : decode cL_law 908 = .ok (.if_icmp .ne 7, 3) := by decide +kernel
theorem dL_law_911 : decode cL_law 911 = .ok (.iconst 1, 1) := by decide +kernel
theorem dL_law_912 : decode cL_law 912 = .ok (.goto 4, 3) := by decide +kernel
theorem dL_law_915 : decode cL_law 915 = .ok (.iconst 0, 1) := by decide +kernel
theorem dL_law_916 : decode cL_law 916 = .ok (.istore 13, 2) := by decide +kernel
theorem dL_law_918 : decode cL_law 918 = .ok (.iconst 0, 1) := by decide +kernel
theorem dL_law_919 : decode cL_law 919 = .ok (.istore 14, 2) := by decide +kernel
theorem dL_law_921 : decode cL_law 921 = .ok (.iload 14, 2) := by decide +kernel
theorem dL_law_923 : decode cL_law 923 = .ok (.bipush 41, 2) := by decide +kernel
theorem dL_law_925 : decode cL_law 925 = .ok (.if_icmp .ge 171, 3) := by decide +kernel
theorem dL_law_928 : decode cL_law 928 = .ok (.iload 13, 2) := by decide +kernel
theorem dL_law_930 : decode cL_law 930 = .ok (.ifCond .eq 166, 3) := by decide +kernel
theorem dL_law_933 : decode cL_law 933 = .ok (.aload 4, 2) := by decide +kernel
theorem dL_law_935 : decode cL_law 935 = .ok (.iconst 5, 1) := by decide +kernel
theorem dL_law_936 : decode cL_law 936 = .ok (.iaload, 1) := by decide +kernel
theorem dL_law_937 : decode cL_law 937 = .ok (.bipush 79, 2) := by decide +kernel
theorem dL_law_939 : decode cL_law 939 = .ok (.iadd, 1) := by decide +kernel
theorem dL_law_940 : decode cL_law 940 = .ok (.iload 14, 2) := by decide +kernel
theorem dL_law_942 : decode cL_law 942 = .ok (.isub, 1) := by decide +kernel
theorem dL_law_943 : decode cL_law 943 = .ok (.bipush 40, 2) := by decide +kernel
theorem dL_law_945 : decode cL_law 945 = .ok (.irem, 1) := by decide +kernel
theorem dL_law_946 : decode cL_law 946 = .ok (.istore 15, 2) := by decide +kernel
theorem dL_law_948 : decode cL_law 948 = .ok (.iload 14, 2) := by decide +kernel
theorem dL_law_950 : decode cL_law 950 = .ok (.aload 4, 2) := by decide +kernel
theorem dL_law_952 : decode cL_law 952 = .ok (.iconst 5, 1) := by decide +kernel
theorem dL_law_953 : decode cL_law 953 = .ok (.iaload, 1) := by decide +kernel
theorem dL_law_954 : decode cL_law 954 = .ok (.if_icmp .ge 10, 3) := by decide +kernel
theorem dL_law_957 : decode cL_law 957 = .ok (.iload 14, 2) := by decide +kernel
theorem dL_law_959 : decode cL_law 959 = .ok (.bipush 40, 2) := by decide +kernel
theorem dL_law_961 : decode cL_law 961 = .ok (.if_icmp .ne 7, 3) := by decide +kernel
theorem dL_law_964 : decode cL_law 964 = .ok (.iconst 1, 1) := by decide +kernel
theorem dL_law_965 : decode cL_law 965 = .ok (.goto 4, 3) := by decide +kernel
theorem dL_law_968 : decode cL_law 968 = .ok (.iconst 0, 1) := by decide +kernel
theorem dL_law_969 : decode cL_law 969 = .ok (.istore 16, 2) := by decide +kernel
theorem dL_law_971 : decode cL_law 971 = .ok (.aload_n 1, 1) := by decide +kernel
theorem dL_law_972 : decode cL_law 972 = .ok (.iload 14, 2) := by decide +kernel
theorem dL_law_974 : decode cL_law 974 = .ok (.iconst 0, 1) := by decide +kernel
theorem dL_law_975 : decode cL_law 975 = .ok (.invokevirtual 119, 3) := by decide +kernel
theorem dL_law_978 : decode cL_law 978 = .ok (.iload 16, 2) := by decide +kernel
theorem dL_law_980 : decode cL_law 980 = .ok (.ifCond .eq 9, 3) := by decide +kernel
theorem dL_law_983 : decode cL_law 983 = .ok (.sipush (-10005), 3) := by decide +kernel
theorem dL_law_986 : decode cL_law 986 = .ok (.goto 8, 3) := by decide +kernel
theorem dL_law_989 : decode cL_law 989 = .ok (.aload 5, 2) := by decide +kernel
theorem dL_law_991 : decode cL_law 991 = .ok (.iload 15, 2) := by decide +kernel
theorem dL_law_993 : decode cL_law 993 = .ok (.iaload, 1) := by decide +kernel
theorem dL_law_994 : decode cL_law 994 = .ok (.if_icmp .ne 85, 3) := by decide +kernel
theorem dL_law_997 : decode cL_law 997 = .ok (.aload_n 1, 1) := by decide +kernel
theorem dL_law_998 : decode cL_law 998 = .ok (.iload 14, 2) := by decide +kernel
theorem dL_law_1000 : decode cL_law 1000 = .ok (.iconst 1, 1) := by decide +kernel
theorem dL_law_1001 : decode cL_law 1001 = .ok (.invokevirtual 119, 3) := by decide +kernel
theorem dL_law_1004 : decode cL_law 1004 = .ok (.iload 16, 2) := by decide +kernel
theorem dL_law_1006 : decode cL_law 1006 = .ok (.ifCond .eq 9, 3) := by decide +kernel
theorem dL_law_1009 : decode cL_law 1009 = .ok (.sipush (-10005), 3) := by decide +kernel
theorem dL_law_1012 : decode cL_law 1012 = .ok (.goto 8, 3) := by decide +kernel
theorem dL_law_1015 : decode cL_law 1015 = .ok (.aload 6, 2) := by decide +kernel
theorem dL_law_1017 : decode cL_law 1017 = .ok (.iload 15, 2) := by decide +kernel
theorem dL_law_1019 : decode cL_law 1019 = .ok (.iaload, 1) := by decide +kernel
theorem dL_law_1020 : decode cL_law 1020 = .ok (.if_icmp .ne 59, 3) := by decide +kernel
theorem dL_law_1023 : decode cL_law 1023 = .ok (.aload_n 1, 1) := by decide +kernel
theorem dL_law_1024 : decode cL_law 1024 = .ok (.iload 14, 2) := by decide +kernel
theorem dL_law_1026 : decode cL_law 1026 = .ok (.iconst 2, 1) := by decide +kernel
theorem dL_law_1027 : decode cL_law 1027 = .ok (.invokevirtual 119, 3) := by decide +kernel
theorem dL_law_1030 : decode cL_law 1030 = .ok (.iload 16, 2) := by decide +kernel
theorem dL_law_1032 : decode cL_law 1032 = .ok (.ifCond .eq 9, 3) := by decide +kernel
theorem dL_law_1035 : decode cL_law 1035 = .ok (.sipush (-10005), 3) := by decide +kernel
theorem dL_law_1038 : decode cL_law 1038 = .ok (.goto 8, 3) := by decide +kernel
theorem dL_law_1041 : decode cL_law 1041 = .ok (.aload 7, 2) := by decide +kernel
theorem dL_law_1043 : decode cL_law 1043 = .ok (.iload 15, 2) := by decide +kernel
theorem dL_law_1045 : decode cL_law 1045 = .ok (.iaload, 1) := by decide +kernel
theorem dL_law_1046 : decode cL_law 1046 = .ok (.if_icmp .ne 33, 3) := by decide +kernel
theorem dL_law_1049 : decode cL_law 1049 = .ok (.aload_n 1, 1) := by decide +kernel
theorem dL_law_1050 : decode cL_law 1050 = .ok (.iload 14, 2) := by decide +kernel
theorem dL_law_1052 : decode cL_law 1052 = .ok (.iconst 3, 1) := by decide +kernel
theorem dL_law_1053 : decode cL_law 1053 = .ok (.invokevirtual 119, 3) := by decide +kernel
theorem dL_law_1056 : decode cL_law 1056 = .ok (.iload 16, 2) := by decide +kernel
theorem dL_law_1058 : decode cL_law 1058 = .ok (.ifCond .eq 9, 3) := by decide +kernel
theorem dL_law_1061 : decode cL_law 1061 = .ok (.sipush (-10005), 3) := by decide +kernel
theorem dL_law_1064 : decode cL_law 1064 = .ok (.goto 8, 3) := by decide +kernel
theorem dL_law_1067 : decode cL_law 1067 = .ok (.aload 8, 2) := by decide +kernel
theorem dL_law_1069 : decode cL_law 1069 = .ok (.iload 15, 2) := by decide +kernel
theorem dL_law_1071 : decode cL_law 1071 = .ok (.iaload, 1) := by decide +kernel
theorem dL_law_1072 : decode cL_law 1072 = .ok (.if_icmp .ne 7, 3) := by decide +kernel
theorem dL_law_1075 : decode cL_law 1075 = .ok (.iconst 1, 1) := by decide +kernel
theorem dL_law_1076 : decode cL_law 1076 = .ok (.goto 4, 3) := by decide +kernel
theorem dL_law_1079 : decode cL_law 1079 = .ok (.iconst 0, 1) := by decide +kernel
theorem dL_law_1080 : decode cL_law 1080 = .ok (.istore 13, 2) := by decide +kernel
theorem dL_law_1082 : decode cL_law 1082 = .ok (.iload 14, 2) := by decide +kernel
theorem dL_law_1084 : decode cL_law 1084 = .ok (.iconst 1, 1) := by decide +kernel
theorem dL_law_1085 : decode cL_law 1085 = .ok (.iload 14, 2) := by decide +kernel
theorem dL_law_1087 : decode cL_law 1087 = .ok (.iconst 3, 1) := by decide +kernel
theorem dL_law_1088 : decode cL_law 1088 = .ok (.idiv, 1) := by decide +kernel
theorem dL_law_1089 : decode cL_law 1089 = .ok (.iadd, 1) := by decide +kernel
theorem dL_law_1090 : decode cL_law 1090 = .ok (.iadd, 1) := by decide +kernel
theorem dL_law_1091 : decode cL_law 1091 = .ok (.istore 14, 2) := by decide +kernel
theorem dL_law_1093 : decode cL_law 1093 = .ok (.goto (-172), 3) := by decide +kernel
theorem dL_law_1096 : decode cL_law 1096 = .ok (.iload 13, 2) := by decide +kernel
theorem dL_law_1098 : decode cL_law 1098 = .ok (.ifCond .eq 48, 3) := by decide +kernel
theorem dL_law_1101 : decode cL_law 1101 = .ok (.aload_n 1, 1) := by decide +kernel
theorem dL_law_1102 : decode cL_law 1102 = .ok (.aload_n 2, 1) := by decide +kernel
theorem dL_law_1103 : decode cL_law 1103 = .ok (.aload_n 3, 1) := by decide +kernel
theorem dL_law_1104 : decode cL_law 1104 = .ok (.aload 4, 2) := by decide +kernel
theorem dL_law_1106 : decode cL_law 1106 = .ok (.invokestatic 122, 3) := by decide +kernel
theorem dL_law_1109 : decode cL_law 1109 = .ok (.ifCond .eq 37, 3) := by decide +kernel
theorem dL_law_1112 : decode cL_law 1112 = .ok (.iload 9, 2) := by decide +kernel
theorem dL_law_1114 : decode cL_law 1114 = .ok (.iconst 4, 1) := by decide +kernel
theorem dL_law_1115 : decode cL_law 1115 = .ok (.irem, 1) := by decide +kernel
theorem dL_law_1116 : decode cL_law 1116 = .ok (.iconst 3, 1) := by decide +kernel
theorem dL_law_1117 : decode cL_law 1117 = .ok (.if_icmp .ne 31, 3) := by decide +kernel
theorem dL_law_1120 : decode cL_law 1120 = .ok (.aload_n 1, 1) := by decide +kernel
theorem dL_law_1121 : decode cL_law 1121 = .ok (.aload_n 2, 1) := by decide +kernel
theorem dL_law_1122 : decode cL_law 1122 = .ok (.aload_n 3, 1) := by decide +kernel
theorem dL_law_1123 : decode cL_law 1123 = .ok (.aload 4, 2) := by decide +kernel
theorem dL_law_1125 : decode cL_law 1125 = .ok (.iload 9, 2) := by decide +kernel
theorem dL_law_1127 : decode cL_law 1127 = .ok (.bipush 16, 2) := by decide +kernel
theorem dL_law_1129 : decode cL_law 1129 = .ok (.irem, 1) := by decide +kernel
theorem dL_law_1130 : decode cL_law 1130 = .ok (.bipush 15, 2) := by decide +kernel
theorem dL_law_1132 : decode cL_law 1132 = .ok (.if_icmp .ne 7, 3) := by decide +kernel
theorem dL_law_1135 : decode cL_law 1135 = .ok (.iconst 1, 1) := by decide +kernel
theorem dL_law_1136 : decode cL_law 1136 = .ok (.goto 4, 3) := by decide +kernel
theorem dL_law_1139 : decode cL_law 1139 = .ok (.iconst 0, 1) := by decide +kernel
theorem dL_law_1140 : decode cL_law 1140 = .ok (.invokestatic 126, 3) := by decide +kernel
theorem dL_law_1143 : decode cL_law 1143 = .ok (.ifCond .ne 5, 3) := by decide +kernel
theorem dL_law_1146 : decode cL_law 1146 = .ok (.iconst 0, 1) := by decide +kernel
theorem dL_law_1147 : decode cL_law 1147 = .ok (.ireturn, 1) := by decide +kernel
theorem dL_law_1148 : decode cL_law 1148 = .ok (.iinc 9 1, 3) := by decide +kernel
theorem dL_law_1151 : decode cL_law 1151 = .ok (.goto (-1062), 3) := by decide +kernel
theorem dL_law_1154 : decode cL_law 1154 = .ok (.iconst 1, 1) := by decide +kernel
theorem dL_law_1155 : decode cL_law 1155 = .ok (.ireturn, 1) := by decide +kernel
