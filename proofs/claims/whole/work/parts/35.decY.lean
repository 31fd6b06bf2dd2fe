theorem d_Y_init_0 : decode tb_Y_init 0 = .ok (.aload_n 0, 1) := by decide +kernel
theorem d_Y_init_1 : decode tb_Y_init 1 = .ok (.invokespecial 1, 3) := by decide +kernel
theorem d_Y_init_4 : decode tb_Y_init 4 = .ok (.aload_n 0, 1) := by decide +kernel
theorem d_Y_init_5 : decode tb_Y_init 5 = .ok (.bipush 49, 2) := by decide +kernel
theorem d_Y_init_7 : decode tb_Y_init 7 = .ok (.newarray .int, 2) := by decide +kernel
theorem d_Y_init_9 : decode tb_Y_init 9 = .ok (.putfield 7, 3) := by decide +kernel
theorem d_Y_init_12 : decode tb_Y_init 12 = .ok (.aload_n 0, 1) := by decide +kernel
theorem d_Y_init_13 : decode tb_Y_init 13 = .ok (.bipush 49, 2) := by decide +kernel
theorem d_Y_init_15 : decode tb_Y_init 15 = .ok (.newarray .int, 2) := by decide +kernel
theorem d_Y_init_17 : decode tb_Y_init 17 = .ok (.putfield 13, 3) := by decide +kernel
theorem d_Y_init_20 : decode tb_Y_init 20 = .ok (.aload_n 0, 1) := by decide +kernel
theorem d_Y_init_21 : decode tb_Y_init 21 = .ok (.bipush 49, 2) := by decide +kernel
theorem d_Y_init_23 : decode tb_Y_init 23 = .ok (.newarray .boolean, 2) := by decide +kernel
theorem d_Y_init_25 : decode tb_Y_init 25 = .ok (.putfield 16, 3) := by decide +kernel
theorem d_Y_init_28 : decode tb_Y_init 28 = .ok (.aload_n 0, 1) := by decide +kernel
theorem d_Y_init_29 : decode tb_Y_init 29 = .ok (.bipush 49, 2) := by decide +kernel
theorem d_Y_init_31 : decode tb_Y_init 31 = .ok (.newarray .int, 2) := by decide +kernel
theorem d_Y_init_33 : decode tb_Y_init 33 = .ok (.putfield 20, 3) := by decide +kernel
theorem d_Y_init_36 : decode tb_Y_init 36 = .ok (.aload_n 0, 1) := by decide +kernel
theorem d_Y_init_37 : decode tb_Y_init 37 = .ok (.bipush 49, 2) := by decide +kernel
theorem d_Y_init_39 : decode tb_Y_init 39 = .ok (.newarray .int, 2) := by decide +kernel
theorem d_Y_init_41 : decode tb_Y_init 41 = .ok (.putfield 23, 3) := by decide +kernel
theorem d_Y_init_44 : decode tb_Y_init 44 = .ok (.aload_n 0, 1) := by decide +kernel
theorem d_Y_init_45 : decode tb_Y_init 45 = .ok (.bipush 49, 2) := by decide +kernel
theorem d_Y_init_47 : decode tb_Y_init 47 = .ok (.newarray .int, 2) := by decide +kernel
theorem d_Y_init_49 : decode tb_Y_init 49 = .ok (.putfield 26, 3) := by decide +kernel
theorem d_Y_init_52 : decode tb_Y_init 52 = .ok (.aload_n 0, 1) := by decide +kernel
theorem d_Y_init_53 : decode tb_Y_init 53 = .ok (.bipush 7, 2) := by decide +kernel
theorem d_Y_init_55 : decode tb_Y_init 55 = .ok (.newarray .boolean, 2) := by decide +kernel
theorem d_Y_init_57 : decode tb_Y_init 57 = .ok (.putfield 29, 3) := by decide +kernel
theorem d_Y_init_60 : decode tb_Y_init 60 = .ok (.aload_n 0, 1) := by decide +kernel
theorem d_Y_init_61 : decode tb_Y_init 61 = .ok (.bipush 7, 2) := by decide +kernel
theorem d_Y_init_63 : decode tb_Y_init 63 = .ok (.newarray .int, 2) := by decide +kernel
theorem d_Y_init_65 : decode tb_Y_init 65 = .ok (.putfield 32, 3) := by decide +kernel
theorem d_Y_init_68 : decode tb_Y_init 68 = .ok (.aload_n 0, 1) := by decide +kernel
theorem d_Y_init_69 : decode tb_Y_init 69 = .ok (.bipush 7, 2) := by decide +kernel
theorem d_Y_init_71 : decode tb_Y_init 71 = .ok (.newarray .int, 2) := by decide +kernel
theorem d_Y_init_73 : decode tb_Y_init 73 = .ok (.putfield 35, 3) := by decide +kernel
theorem d_Y_init_76 : decode tb_Y_init 76 = .ok (.aload_n 0, 1) := by decide +kernel
theorem d_Y_init_77 : decode tb_Y_init 77 = .ok (.bipush 7, 2) := by decide +kernel
theorem d_Y_init_79 : decode tb_Y_init 79 = .ok (.newarray .int, 2) := by decide +kernel
theorem d_Y_init_81 : decode tb_Y_init 81 = .ok (.putfield 38, 3) := by decide +kernel
theorem d_Y_init_84 : decode tb_Y_init 84 = .ok (.aload_n 0, 1) := by decide +kernel
theorem d_Y_init_85 : decode tb_Y_init 85 = .ok (.bipush 7, 2) := by decide +kernel
theorem d_Y_init_87 : decode tb_Y_init 87 = .ok (.newarray .int, 2) := by decide +kernel
theorem d_Y_init_89 : decode tb_Y_init 89 = .ok (.putfield 41, 3) := by decide +kernel
theorem d_Y_init_92 : decode tb_Y_init 92 = .ok (.aload_n 0, 1) := by decide +kernel
theorem d_Y_init_93 : decode tb_Y_init 93 = .ok (.bipush 7, 2) := by decide +kernel
theorem d_Y_init_95 : decode tb_Y_init 95 = .ok (.newarray .boolean, 2) := by decide +kernel
theorem d_Y_init_97 : decode tb_Y_init 97 = .ok (.putfield 44, 3) := by decide +kernel
theorem d_Y_init_100 : decode tb_Y_init 100 = .ok (.aload_n 0, 1) := by decide +kernel
theorem d_Y_init_101 : decode tb_Y_init 101 = .ok (.bipush 7, 2) := by decide +kernel
theorem d_Y_init_103 : decode tb_Y_init 103 = .ok (.newarray .int, 2) := by decide +kernel
theorem d_Y_init_105 : decode tb_Y_init 105 = .ok (.putfield 47, 3) := by decide +kernel
theorem d_Y_init_108 : decode tb_Y_init 108 = .ok (.aload_n 0, 1) := by decide +kernel
theorem d_Y_init_109 : decode tb_Y_init 109 = .ok (.bipush 7, 2) := by decide +kernel
theorem d_Y_init_111 : decode tb_Y_init 111 = .ok (.newarray .int, 2) := by decide +kernel
theorem d_Y_init_113 : decode tb_Y_init 113 = .ok (.putfield 50, 3) := by decide +kernel
theorem d_Y_init_116 : decode tb_Y_init 116 = .ok (.aload_n 0, 1) := by decide +kernel
theorem d_Y_init_117 : decode tb_Y_init 117 = .ok (.bipush 7, 2) := by decide +kernel
theorem d_Y_init_119 : decode tb_Y_init 119 = .ok (.newarray .int, 2) := by decide +kernel
theorem d_Y_init_121 : decode tb_Y_init 121 = .ok (.putfield 53, 3) := by decide +kernel
theorem d_Y_init_124 : decode tb_Y_init 124 = .ok (.aload_n 0, 1) := by decide +kernel
theorem d_Y_init_125 : decode tb_Y_init 125 = .ok (.bipush 7, 2) := by decide +kernel
theorem d_Y_init_127 : decode tb_Y_init 127 = .ok (.newarray .int, 2) := by decide +kernel
theorem d_Y_init_129 : decode tb_Y_init 129 = .ok (.putfield 56, 3) := by decide +kernel
theorem d_Y_init_132 : decode tb_Y_init 132 = .ok (.aload_n 0, 1) := by decide +kernel
theorem d_Y_init_133 : decode tb_Y_init 133 = .ok (.bipush 28, 2) := by decide +kernel
theorem d_Y_init_135 : decode tb_Y_init 135 = .ok (.newarray .int, 2) := by decide +kernel
theorem d_Y_init_137 : decode tb_Y_init 137 = .ok (.putfield 59, 3) := by decide +kernel
theorem d_Y_init_140 : decode tb_Y_init 140 = .ok (.aload_n 0, 1) := by decide +kernel
theorem d_Y_init_141 : decode tb_Y_init 141 = .ok (.bipush 7, 2) := by decide +kernel
theorem d_Y_init_143 : decode tb_Y_init 143 = .ok (.newarray .int, 2) := by decide +kernel
theorem d_Y_init_145 : decode tb_Y_init 145 = .ok (.putfield 62, 3) := by decide +kernel
theorem d_Y_init_148 : decode tb_Y_init 148 = .ok (.aload_n 0, 1) := by decide +kernel
theorem d_Y_init_149 : decode tb_Y_init 149 = .ok (.bipush 7, 2) := by decide +kernel
theorem d_Y_init_151 : decode tb_Y_init 151 = .ok (.newarray .int, 2) := by decide +kernel
theorem d_Y_init_153 : decode tb_Y_init 153 = .ok (.putfield 65, 3) := by decide +kernel
theorem d_Y_init_156 : decode tb_Y_init 156 = .ok (.aload_n 0, 1) := by decide +kernel
theorem d_Y_init_157 : decode tb_Y_init 157 = .ok (.bipush 7, 2) := by decide +kernel
theorem d_Y_init_159 : decode tb_Y_init 159 = .ok (.newarray .int, 2) := by decide +kernel
theorem d_Y_init_161 : decode tb_Y_init 161 = .ok (.putfield 68, 3) := by decide +kernel
theorem d_Y_init_164 : decode tb_Y_init 164 = .ok (.aload_n 0, 1) := by decide +kernel
theorem d_Y_init_165 : decode tb_Y_init 165 = .ok (.bipush 7, 2) := by decide +kernel
theorem d_Y_init_167 : decode tb_Y_init 167 = .ok (.newarray .int, 2) := by decide +kernel
theorem d_Y_init_169 : decode tb_Y_init 169 = .ok (.putfield 71, 3) := by decide +kernel
theorem d_Y_init_172 : decode tb_Y_init 172 = .ok (.aload_n 0, 1) := by decide +kernel
theorem d_Y_init_173 : decode tb_Y_init 173 = .ok (.bipush 7, 2) := by decide +kernel
theorem d_Y_init_175 : decode tb_Y_init 175 = .ok (.newarray .int, 2) := by decide +kernel
theorem d_Y_init_177 : decode tb_Y_init 177 = .ok (.putfield 74, 3) := by decide +kernel
theorem d_Y_init_180 : decode tb_Y_init 180 = .ok (.aload_n 0, 1) := by decide +kernel
theorem d_Y_init_181 : decode tb_Y_init 181 = .ok (.bipush 7, 2) := by decide +kernel
theorem d_Y_init_183 : decode tb_Y_init 183 = .ok (.newarray .boolean, 2) := by decide +kernel
theorem d_Y_init_185 : decode tb_Y_init 185 = .ok (.putfield 77, 3) := by decide +kernel
theorem d_Y_init_188 : decode tb_Y_init 188 = .ok (.aload_n 0, 1) := by decide +kernel
theorem d_Y_init_189 : decode tb_Y_init 189 = .ok (.bipush 32, 2) := by decide +kernel
theorem d_Y_init_191 : decode tb_Y_init 191 = .ok (.newarray .boolean, 2) := by decide +kernel
theorem d_Y_init_193 : decode tb_Y_init 193 = .ok (.putfield 80, 3) := by decide +kernel
theorem d_Y_init_196 : decode tb_Y_init 196 = .ok (.aload_n 0, 1) := by decide +kernel
theorem d_Y_init_197 : decode tb_Y_init 197 = .ok (.bipush 32, 2) := by decide +kernel
theorem d_Y_init_199 : decode tb_Y_init 199 = .ok (.newarray .int, 2) := by decide +kernel
theorem d_Y_init_201 : decode tb_Y_init 201 = .ok (.putfield 83, 3) := by decide +kernel
theorem d_Y_init_204 : decode tb_Y_init 204 = .ok (.aload_n 0, 1) := by decide +kernel
theorem d_Y_init_205 : decode tb_Y_init 205 = .ok (.bipush 32, 2) := by decide +kernel
theorem d_Y_init_207 : decode tb_Y_init 207 = .ok (.newarray .int, 2) := by decide +kernel
theorem d_Y_init_209 : decode tb_Y_init 209 = .ok (.putfield 86, 3) := by decide +kernel
theorem d_Y_init_212 : decode tb_Y_init 212 = .ok (.aload_n 0, 1) := by decide +kernel
theorem d_Y_init_213 : decode tb_Y_init 213 = .ok (.bipush 32, 2) := by decide +kernel
theorem d_Y_init_215 : decode tb_Y_init 215 = .ok (.newarray .int, 2) := by decide +kernel
theorem d_Y_init_217 : decode tb_Y_init 217 = .ok (.putfield 89, 3) := by decide +kernel
theorem d_Y_init_220 : decode tb_Y_init 220 = .ok (.aload_n 0, 1) := by decide +kernel
theorem d_Y_init_221 : decode tb_Y_init 221 = .ok (.bipush 32, 2) := by decide +kernel
theorem d_Y_init_223 : decode tb_Y_init 223 = .ok (.newarray .int, 2) := by decide +kernel
theorem d_Y_init_225 : decode tb_Y_init 225 = .ok (.putfield 92, 3) := by decide +kernel
theorem d_Y_init_228 : decode tb_Y_init 228 = .ok (.aload_n 0, 1) := by decide +kernel
theorem d_Y_init_229 : decode tb_Y_init 229 = .ok (.sipush 224, 3) := by decide +kernel
theorem d_Y_init_232 : decode tb_Y_init 232 = .ok (.newarray .int, 2) := by decide +kernel
theorem d_Y_init_234 : decode tb_Y_init 234 = .ok (.putfield 95, 3) := by decide +kernel
theorem d_Y_init_237 : decode tb_Y_init 237 = .ok (.aload_n 0, 1) := by decide +kernel
theorem d_Y_init_238 : decode tb_Y_init 238 = .ok (.bipush 32, 2) := by decide +kernel
theorem d_Y_init_240 : decode tb_Y_init 240 = .ok (.newarray .boolean, 2) := by decide +kernel
theorem d_Y_init_242 : decode tb_Y_init 242 = .ok (.putfield 98, 3) := by decide +kernel
theorem d_Y_init_245 : decode tb_Y_init 245 = .ok (.aload_n 0, 1) := by decide +kernel
theorem d_Y_init_246 : decode tb_Y_init 246 = .ok (.bipush 32, 2) := by decide +kernel
theorem d_Y_init_248 : decode tb_Y_init 248 = .ok (.newarray .int, 2) := by decide +kernel
theorem d_Y_init_250 : decode tb_Y_init 250 = .ok (.putfield 101, 3) := by decide +kernel
theorem d_Y_init_253 : decode tb_Y_init 253 = .ok (.aload_n 0, 1) := by decide +kernel
theorem d_Y_init_254 : decode tb_Y_init 254 = .ok (.bipush 32, 2) := by decide +kernel
theorem d_Y_init_256 : decode tb_Y_init 256 = .ok (.newarray .int, 2) := by decide +kernel
theorem d_Y_init_258 : decode tb_Y_init 258 = .ok (.putfield 104, 3) := by decide +kernel
theorem d_Y_init_261 : decode tb_Y_init 261 = .ok (.aload_n 0, 1) := by decide +kernel
theorem d_Y_init_262 : decode tb_Y_init 262 = .ok (.bipush 32, 2) := by decide +kernel
theorem d_Y_init_264 : decode tb_Y_init 264 = .ok (.newarray .int, 2) := by decide +kernel
theorem d_Y_init_266 : decode tb_Y_init 266 = .ok (.putfield 107, 3) := by decide +kernel
theorem d_Y_init_269 : decode tb_Y_init 269 = .ok (.aload_n 0, 1) := by decide +kernel
theorem d_Y_init_270 : decode tb_Y_init 270 = .ok (.bipush 32, 2) := by decide +kernel
theorem d_Y_init_272 : decode tb_Y_init 272 = .ok (.newarray .int, 2) := by decide +kernel
theorem d_Y_init_274 : decode tb_Y_init 274 = .ok (.putfield 110, 3) := by decide +kernel
theorem d_Y_init_277 : decode tb_Y_init 277 = .ok (.aload_n 0, 1) := by decide +kernel
theorem d_Y_init_278 : decode tb_Y_init 278 = .ok (.bipush 32, 2) := by decide +kernel
theorem d_Y_init_280 : decode tb_Y_init 280 = .ok (.newarray .boolean, 2) := by decide +kernel
theorem d_Y_init_282 : decode tb_Y_init 282 = .ok (.putfield 113, 3) := by decide +kernel
theorem d_Y_init_285 : decode tb_Y_init 285 = .ok (.aload_n 0, 1) := by decide +kernel
theorem d_Y_init_286 : decode tb_Y_init 286 = .ok (.bipush 32, 2) := by decide +kernel
theorem d_Y_init_288 : decode tb_Y_init 288 = .ok (.newarray .boolean, 2) := by decide +kernel
theorem d_Y_init_290 : decode tb_Y_init 290 = .ok (.putfield 116, 3) := by decide +kernel
theorem d_Y_init_293 : decode tb_Y_init 293 = .ok (.aload_n 0, 1) := by decide +kernel
theorem d_Y_init_294 : decode tb_Y_init 294 = .ok (.bipush 7, 2) := by decide +kernel
theorem d_Y_init_296 : decode tb_Y_init 296 = .ok (.newarray .int, 2) := by decide +kernel
theorem d_Y_init_298 : decode tb_Y_init 298 = .ok (.putfield 119, 3) := by decide +kernel
theorem d_Y_init_301 : decode tb_Y_init 301 = .ok (.aload_n 0, 1) := by decide +kernel
theorem d_Y_init_302 : decode tb_Y_init 302 = .ok (.bipush 7, 2) := by decide +kernel
theorem d_Y_init_304 : decode tb_Y_init 304 = .ok (.newarray .int, 2) := by decide +kernel
theorem d_Y_init_306 : decode tb_Y_init 306 = .ok (.putfield 122, 3) := by decide +kernel
theorem d_Y_init_309 : decode tb_Y_init 309 = .ok (.aload_n 0, 1) := by decide +kernel
theorem d_Y_init_310 : decode tb_Y_init 310 = .ok (.bipush 7, 2) := by decide +kernel
theorem d_Y_init_312 : decode tb_Y_init 312 = .ok (.newarray .boolean, 2) := by decide +kernel
theorem d_Y_init_314 : decode tb_Y_init 314 = .ok (.putfield 125, 3) := by decide +kernel
theorem d_Y_init_317 : decode tb_Y_init 317 = .ok (.aload_n 0, 1) := by decide +kernel
theorem d_Y_init_318 : decode tb_Y_init 318 = .ok (.bipush 7, 2) := by decide +kernel
theorem d_Y_init_320 : decode tb_Y_init 320 = .ok (.newarray .boolean, 2) := by decide +kernel
theorem d_Y_init_322 : decode tb_Y_init 322 = .ok (.putfield 128, 3) := by decide +kernel
theorem d_Y_init_325 : decode tb_Y_init 325 = .ok (.aload_n 0, 1) := by decide +kernel
theorem d_Y_init_326 : decode tb_Y_init 326 = .ok (.bipush 7, 2) := by decide +kernel
theorem d_Y_init_328 : decode tb_Y_init 328 = .ok (.newarray .boolean, 2) := by decide +kernel
theorem d_Y_init_330 : decode tb_Y_init 330 = .ok (.putfield 131, 3) := by decide +kernel
theorem d_Y_init_333 : decode tb_Y_init 333 = .ok (.aload_n 0, 1) := by decide +kernel
theorem d_Y_init_334 : decode tb_Y_init 334 = .ok (.bipush 7, 2) := by decide +kernel
theorem d_Y_init_336 : decode tb_Y_init 336 = .ok (.newarray .int, 2) := by decide +kernel
theorem d_Y_init_338 : decode tb_Y_init 338 = .ok (.putfield 134, 3) := by decide +kernel
theorem d_Y_init_341 : decode tb_Y_init 341 = .ok (.aload_n 0, 1) := by decide +kernel
theorem d_Y_init_342 : decode tb_Y_init 342 = .ok (.bipush 56, 2) := by decide +kernel
theorem d_Y_init_344 : decode tb_Y_init 344 = .ok (.newarray .int, 2) := by decide +kernel
theorem d_Y_init_346 : decode tb_Y_init 346 = .ok (.putfield 137, 3) := by decide +kernel
theorem d_Y_init_349 : decode tb_Y_init 349 = .ok (.aload_n 0, 1) := by decide +kernel
theorem d_Y_init_350 : decode tb_Y_init 350 = .ok (.iload_n 1, 1) := by decide +kernel
theorem d_Y_init_351 : decode tb_Y_init 351 = .ok (.putfield 140, 3) := by decide +kernel
theorem d_Y_init_354 : decode tb_Y_init 354 = .ok (.aload_n 0, 1) := by decide +kernel
theorem d_Y_init_355 : decode tb_Y_init 355 = .ok (.iload_n 2, 1) := by decide +kernel
theorem d_Y_init_356 : decode tb_Y_init 356 = .ok (.ifCond .ge 7, 3) := by decide +kernel
theorem d_Y_init_359 : decode tb_Y_init 359 = .ok (.iconst 0, 1) := by decide +kernel
theorem d_Y_init_360 : decode tb_Y_init 360 = .ok (.goto 17, 3) := by decide +kernel
theorem d_Y_init_363 : decode tb_Y_init 363 = .ok (.iload_n 2, 1) := by decide +kernel
theorem d_Y_init_364 : decode tb_Y_init 364 = .ok (.sipush 200, 3) := by decide +kernel
theorem d_Y_init_367 : decode tb_Y_init 367 = .ok (.if_icmp .le 9, 3) := by decide +kernel
theorem d_Y_init_370 : decode tb_Y_init 370 = .ok (.sipush 200, 3) := by decide +kernel
theorem d_Y_init_373 : decode tb_Y_init 373 = .ok (.goto 4, 3) := by decide +kernel
theorem d_Y_init_376 : decode tb_Y_init 376 = .ok (.iload_n 2, 1) := by decide +kernel
theorem d_Y_init_377 : decode tb_Y_init 377 = .ok (.putfield 144, 3) := by decide +kernel
theorem d_Y_init_380 : decode tb_Y_init 380 = .ok (.aload_n 0, 1) := by decide +kernel
theorem d_Y_init_381 : decode tb_Y_init 381 = .ok (.iload_n 3, 1) := by decide +kernel
theorem d_Y_init_382 : decode tb_Y_init 382 = .ok (.iconst 1, 1) := by decide +kernel
theorem d_Y_init_383 : decode tb_Y_init 383 = .ok (.if_icmp .ge 7, 3) := by decide +kernel
theorem d_Y_init_386 : decode tb_Y_init 386 = .ok (.iconst 1, 1) := by decide +kernel
theorem d_Y_init_387 : decode tb_Y_init 387 = .ok (.goto 15, 3) := by decide +kernel
theorem d_Y_init_390 : decode tb_Y_init 390 = .ok (.iload_n 3, 1) := by decide +kernel
theorem d_Y_init_391 : decode tb_Y_init 391 = .ok (.bipush 9, 2) := by decide +kernel
theorem d_Y_init_393 : decode tb_Y_init 393 = .ok (.if_icmp .le 8, 3) := by decide +kernel
theorem d_Y_init_396 : decode tb_Y_init 396 = .ok (.bipush 9, 2) := by decide +kernel
theorem d_Y_init_398 : decode tb_Y_init 398 = .ok (.goto 4, 3) := by decide +kernel
theorem d_Y_init_401 : decode tb_Y_init 401 = .ok (.iload_n 3, 1) := by decide +kernel
theorem d_Y_init_402 : decode tb_Y_init 402 = .ok (.putfield 147, 3) := by decide +kernel
theorem d_Y_init_405 : decode tb_Y_init 405 = .ok (.iconst 0, 1) := by decide +kernel
theorem d_Y_init_406 : decode tb_Y_init 406 = .ok (.istore 4, 2) := by decide +kernel
theorem d_Y_init_408 : decode tb_Y_init 408 = .ok (.iload 4, 2) := by decide +kernel
theorem d_Y_init_410 : decode tb_Y_init 410 = .ok (.bipush 7, 2) := by decide +kernel
theorem d_Y_init_412 : decode tb_Y_init 412 = .ok (.if_icmp .ge 80, 3) := by decide +kernel
theorem d_Y_init_415 : decode tb_Y_init 415 = .ok (.aload_n 0, 1) := by decide +kernel
theorem d_Y_init_416 : decode tb_Y_init 416 = .ok (.getfield 32, 3) := by decide +kernel
theorem d_Y_init_419 : decode tb_Y_init 419 = .ok (.iload 4, 2) := by decide +kernel
theorem d_Y_init_421 : decode tb_Y_init 421 = .ok (.iload 4, 2) := by decide +kernel
theorem d_Y_init_423 : decode tb_Y_init 423 = .ok (.ifCond .ne 7, 3) := by decide +kernel
theorem d_Y_init_426 : decode tb_Y_init 426 = .ok (.iconst 1, 1) := by decide +kernel
theorem d_Y_init_427 : decode tb_Y_init 427 = .ok (.goto 4, 3) := by decide +kernel
theorem d_Y_init_430 : decode tb_Y_init 430 = .ok (.iconst 0, 1) := by decide +kernel
theorem d_Y_init_431 : decode tb_Y_init 431 = .ok (.iastore, 1) := by decide +kernel
theorem d_Y_init_432 : decode tb_Y_init 432 = .ok (.aload_n 0, 1) := by decide +kernel
theorem d_Y_init_433 : decode tb_Y_init 433 = .ok (.getfield 35, 3) := by decide +kernel
theorem d_Y_init_436 : decode tb_Y_init 436 = .ok (.iload 4, 2) := by decide +kernel
theorem d_Y_init_438 : decode tb_Y_init 438 = .ok (.iload 4, 2) := by decide +kernel
theorem d_Y_init_440 : decode tb_Y_init 440 = .ok (.ifCond .ne 7, 3) := by decide +kernel
theorem d_Y_init_443 : decode tb_Y_init 443 = .ok (.iconst 1, 1) := by decide +kernel
theorem d_Y_init_444 : decode tb_Y_init 444 = .ok (.goto 6, 3) := by decide +kernel
theorem d_Y_init_447 : decode tb_Y_init 447 = .ok (.sipush 255, 3) := by decide +kernel
theorem d_Y_init_450 : decode tb_Y_init 450 = .ok (.iastore, 1) := by decide +kernel
theorem d_Y_init_451 : decode tb_Y_init 451 = .ok (.aload_n 0, 1) := by decide +kernel
theorem d_Y_init_452 : decode tb_Y_init 452 = .ok (.getfield 38, 3) := by decide +kernel
theorem d_Y_init_455 : decode tb_Y_init 455 = .ok (.iload 4, 2) := by decide +kernel
theorem d_Y_init_457 : decode tb_Y_init 457 = .ok (.iconst (-1), 1) := by decide +kernel
theorem d_Y_init_458 : decode tb_Y_init 458 = .ok (.iastore, 1) := by decide +kernel
theorem d_Y_init_459 : decode tb_Y_init 459 = .ok (.aload_n 0, 1) := by decide +kernel
theorem d_Y_init_460 : decode tb_Y_init 460 = .ok (.getfield 41, 3) := by decide +kernel
theorem d_Y_init_463 : decode tb_Y_init 463 = .ok (.iload 4, 2) := by decide +kernel
theorem d_Y_init_465 : decode tb_Y_init 465 = .ok (.sipush 255, 3) := by decide +kernel
theorem d_Y_init_468 : decode tb_Y_init 468 = .ok (.iastore, 1) := by decide +kernel
theorem d_Y_init_469 : decode tb_Y_init 469 = .ok (.aload_n 0, 1) := by decide +kernel
theorem d_Y_init_470 : decode tb_Y_init 470 = .ok (.getfield 47, 3) := by decide +kernel
theorem d_Y_init_473 : decode tb_Y_init 473 = .ok (.iload 4, 2) := by decide +kernel
theorem d_Y_init_475 : decode tb_Y_init 475 = .ok (.bipush 64, 2) := by decide +kernel
theorem d_Y_init_477 : decode tb_Y_init 477 = .ok (.iastore, 1) := by decide +kernel
theorem d_Y_init_478 : decode tb_Y_init 478 = .ok (.aload_n 0, 1) := by decide +kernel
theorem d_Y_init_479 : decode tb_Y_init 479 = .ok (.getfield 74, 3) := by decide +kernel
theorem d_Y_init_482 : decode tb_Y_init 482 = .ok (.iload 4, 2) := by decide +kernel
theorem d_Y_init_484 : decode tb_Y_init 484 = .ok (.iconst (-1), 1) := by decide +kernel
theorem d_Y_init_485 : decode tb_Y_init 485 = .ok (.iastore, 1) := by decide +kernel
theorem d_Y_init_486 : decode tb_Y_init 486 = .ok (.iinc 4 1, 3) := by decide +kernel
theorem d_Y_init_489 : decode tb_Y_init 489 = .ok (.goto (-81), 3) := by decide +kernel
theorem d_Y_init_492 : decode tb_Y_init 492 = .ok (.iconst 0, 1) := by decide +kernel
theorem d_Y_init_493 : decode tb_Y_init 493 = .ok (.istore 4, 2) := by decide +kernel
theorem d_Y_init_495 : decode tb_Y_init 495 = .ok (.iload 4, 2) := by decide +kernel
theorem d_Y_init_497 : decode tb_Y_init 497 = .ok (.bipush 49, 2) := by decide +kernel
theorem d_Y_init_499 : decode tb_Y_init 499 = .ok (.if_icmp .ge 17, 3) := by decide +kernel
theorem d_Y_init_502 : decode tb_Y_init 502 = .ok (.aload_n 0, 1) := by decide +kernel
theorem d_Y_init_503 : decode tb_Y_init 503 = .ok (.getfield 20, 3) := by decide +kernel
theorem d_Y_init_506 : decode tb_Y_init 506 = .ok (.iload 4, 2) := by decide +kernel
theorem d_Y_init_508 : decode tb_Y_init 508 = .ok (.iconst (-1), 1) := by decide +kernel
theorem d_Y_init_509 : decode tb_Y_init 509 = .ok (.iastore, 1) := by decide +kernel
theorem d_Y_init_510 : decode tb_Y_init 510 = .ok (.iinc 4 1, 3) := by decide +kernel
theorem d_Y_init_513 : decode tb_Y_init 513 = .ok (.goto (-18), 3) := by decide +kernel
theorem d_Y_init_516 : decode tb_Y_init 516 = .ok (.aload_n 0, 1) := by decide +kernel
theorem d_Y_init_517 : decode tb_Y_init 517 = .ok (.getfield 44, 3) := by decide +kernel
theorem d_Y_init_520 : decode tb_Y_init 520 = .ok (.iconst 0, 1) := by decide +kernel
theorem d_Y_init_521 : decode tb_Y_init 521 = .ok (.iconst 1, 1) := by decide +kernel
theorem d_Y_init_522 : decode tb_Y_init 522 = .ok (.bastore, 1) := by decide +kernel
theorem d_Y_init_523 : decode tb_Y_init 523 = .ok (.aload_n 0, 1) := by decide +kernel
theorem d_Y_init_524 : decode tb_Y_init 524 = .ok (.iconst 0, 1) := by decide +kernel
theorem d_Y_init_525 : decode tb_Y_init 525 = .ok (.invokevirtual 150, 3) := by decide +kernel
theorem d_Y_init_528 : decode tb_Y_init 528 = .ok (.return_, 1) := by decide +kernel
theorem d_Y_draw_0 : decode tb_Y_draw 0 = .ok (.aload_n 0, 1) := by decide +kernel
theorem d_Y_draw_1 : decode tb_Y_draw 1 = .ok (.aload_n 0, 1) := by decide +kernel
theorem d_Y_draw_2 : decode tb_Y_draw 2 = .ok (.getfield 140, 3) := by decide +kernel
theorem d_Y_draw_5 : decode tb_Y_draw 5 = .ok (.ldc 154, 2) := by decide +kernel
theorem d_Y_draw_7 : decode tb_Y_draw 7 = .ok (.imul, 1) := by decide +kernel
theorem d_Y_draw_8 : decode tb_Y_draw 8 = .ok (.sipush 12345, 3) := by decide +kernel
theorem d_Y_draw_11 : decode tb_Y_draw 11 = .ok (.iadd, 1) := by decide +kernel
theorem d_Y_draw_12 : decode tb_Y_draw 12 = .ok (.putfield 140, 3) := by decide +kernel
theorem d_Y_draw_15 : decode tb_Y_draw 15 = .ok (.aload_n 0, 1) := by decide +kernel
theorem d_Y_draw_16 : decode tb_Y_draw 16 = .ok (.getfield 140, 3) := by decide +kernel
theorem d_Y_draw_19 : decode tb_Y_draw 19 = .ok (.bipush 16, 2) := by decide +kernel
theorem d_Y_draw_21 : decode tb_Y_draw 21 = .ok (.iushr, 1) := by decide +kernel
theorem d_Y_draw_22 : decode tb_Y_draw 22 = .ok (.iload_n 1, 1) := by decide +kernel
theorem d_Y_draw_23 : decode tb_Y_draw 23 = .ok (.irem, 1) := by decide +kernel
theorem d_Y_draw_24 : decode tb_Y_draw 24 = .ok (.ireturn, 1) := by decide +kernel
theorem d_Y_makeFrame_0 : decode tb_Y_makeFrame 0 = .ok (.iconst 0, 1) := by decide +kernel
theorem d_Y_makeFrame_1 : decode tb_Y_makeFrame 1 = .ok (.istore_n 3, 1) := by decide +kernel
theorem d_Y_makeFrame_2 : decode tb_Y_makeFrame 2 = .ok (.aload_n 0, 1) := by decide +kernel
theorem d_Y_makeFrame_3 : decode tb_Y_makeFrame 3 = .ok (.getfield 80, 3) := by decide +kernel
theorem d_Y_makeFrame_6 : decode tb_Y_makeFrame 6 = .ok (.iload_n 3, 1) := by decide +kernel
theorem d_Y_makeFrame_7 : decode tb_Y_makeFrame 7 = .ok (.baload, 1) := by decide +kernel
theorem d_Y_makeFrame_8 : decode tb_Y_makeFrame 8 = .ok (.ifCond .eq 9, 3) := by decide +kernel
theorem d_Y_makeFrame_11 : decode tb_Y_makeFrame 11 = .ok (.iinc 3 1, 3) := by decide +kernel
theorem d_Y_makeFrame_14 : decode tb_Y_makeFrame 14 = .ok (.goto (-12), 3) := by decide +kernel
theorem d_Y_makeFrame_17 : decode tb_Y_makeFrame 17 = .ok (.aload_n 0, 1) := by decide +kernel
theorem d_Y_makeFrame_18 : decode tb_Y_makeFrame 18 = .ok (.dup, 1) := by decide +kernel
theorem d_Y_makeFrame_19 : decode tb_Y_makeFrame 19 = .ok (.getfield 155, 3) := by decide +kernel
theorem d_Y_makeFrame_22 : decode tb_Y_makeFrame 22 = .ok (.iconst 1, 1) := by decide +kernel
theorem d_Y_makeFrame_23 : decode tb_Y_makeFrame 23 = .ok (.iadd, 1) := by decide +kernel
theorem d_Y_makeFrame_24 : decode tb_Y_makeFrame 24 = .ok (.putfield 155, 3) := by decide +kernel
theorem d_Y_makeFrame_27 : decode tb_Y_makeFrame 27 = .ok (.aload_n 0, 1) := by decide +kernel
theorem d_Y_makeFrame_28 : decode tb_Y_makeFrame 28 = .ok (.getfield 80, 3) := by decide +kernel
theorem d_Y_makeFrame_31 : decode tb_Y_makeFrame 31 = .ok (.iload_n 3, 1) := by decide +kernel
theorem d_Y_makeFrame_32 : decode tb_Y_makeFrame 32 = .ok (.iconst 1, 1) := by decide +kernel
theorem d_Y_makeFrame_33 : decode tb_Y_makeFrame 33 = .ok (.bastore, 1) := by decide +kernel
theorem d_Y_makeFrame_34 : decode tb_Y_makeFrame 34 = .ok (.aload_n 0, 1) := by decide +kernel
theorem d_Y_makeFrame_35 : decode tb_Y_makeFrame 35 = .ok (.getfield 83, 3) := by decide +kernel
theorem d_Y_makeFrame_38 : decode tb_Y_makeFrame 38 = .ok (.iload_n 3, 1) := by decide +kernel
theorem d_Y_makeFrame_39 : decode tb_Y_makeFrame 39 = .ok (.aload_n 0, 1) := by decide +kernel
theorem d_Y_makeFrame_40 : decode tb_Y_makeFrame 40 = .ok (.getfield 155, 3) := by decide +kernel
theorem d_Y_makeFrame_43 : decode tb_Y_makeFrame 43 = .ok (.iastore, 1) := by decide +kernel
theorem d_Y_makeFrame_44 : decode tb_Y_makeFrame 44 = .ok (.aload_n 0, 1) := by decide +kernel
theorem d_Y_makeFrame_45 : decode tb_Y_makeFrame 45 = .ok (.getfield 86, 3) := by decide +kernel
theorem d_Y_makeFrame_48 : decode tb_Y_makeFrame 48 = .ok (.iload_n 3, 1) := by decide +kernel
theorem d_Y_makeFrame_49 : decode tb_Y_makeFrame 49 = .ok (.iload_n 1, 1) := by decide +kernel
theorem d_Y_makeFrame_50 : decode tb_Y_makeFrame 50 = .ok (.iastore, 1) := by decide +kernel
theorem d_Y_makeFrame_51 : decode tb_Y_makeFrame 51 = .ok (.aload_n 0, 1) := by decide +kernel
theorem d_Y_makeFrame_52 : decode tb_Y_makeFrame 52 = .ok (.getfield 89, 3) := by decide +kernel
theorem d_Y_makeFrame_55 : decode tb_Y_makeFrame 55 = .ok (.iload_n 3, 1) := by decide +kernel
theorem d_Y_makeFrame_56 : decode tb_Y_makeFrame 56 = .ok (.iload_n 2, 1) := by decide +kernel
theorem d_Y_makeFrame_57 : decode tb_Y_makeFrame 57 = .ok (.iastore, 1) := by decide +kernel
theorem d_Y_makeFrame_58 : decode tb_Y_makeFrame 58 = .ok (.iload_n 3, 1) := by decide +kernel
theorem d_Y_makeFrame_59 : decode tb_Y_makeFrame 59 = .ok (.ireturn, 1) := by decide +kernel
theorem d_Y_first_0 : decode tb_Y_first 0 = .ok (.aload_n 0, 1) := by decide +kernel
theorem d_Y_first_1 : decode tb_Y_first 1 = .ok (.getfield 62, 3) := by decide +kernel
theorem d_Y_first_4 : decode tb_Y_first 4 = .ok (.iload_n 1, 1) := by decide +kernel
theorem d_Y_first_5 : decode tb_Y_first 5 = .ok (.iaload, 1) := by decide +kernel
theorem d_Y_first_6 : decode tb_Y_first 6 = .ok (.ifCond .ne 4, 3) := by decide +kernel
theorem d_Y_first_9 : decode tb_Y_first 9 = .ok (.return_, 1) := by decide +kernel
theorem d_Y_first_10 : decode tb_Y_first 10 = .ok (.aload_n 0, 1) := by decide +kernel
theorem d_Y_first_11 : decode tb_Y_first 11 = .ok (.getfield 68, 3) := by decide +kernel
theorem d_Y_first_14 : decode tb_Y_first 14 = .ok (.iload_n 1, 1) := by decide +kernel
theorem d_Y_first_15 : decode tb_Y_first 15 = .ok (.iconst 0, 1) := by decide +kernel
theorem d_Y_first_16 : decode tb_Y_first 16 = .ok (.iastore, 1) := by decide +kernel
theorem d_Y_first_17 : decode tb_Y_first 17 = .ok (.aload_n 0, 1) := by decide +kernel
theorem d_Y_first_18 : decode tb_Y_first 18 = .ok (.getfield 71, 3) := by decide +kernel
theorem d_Y_first_21 : decode tb_Y_first 21 = .ok (.iload_n 1, 1) := by decide +kernel
theorem d_Y_first_22 : decode tb_Y_first 22 = .ok (.iconst 0, 1) := by decide +kernel
theorem d_Y_first_23 : decode tb_Y_first 23 = .ok (.iastore, 1) := by decide +kernel
theorem d_Y_first_24 : decode tb_Y_first 24 = .ok (.aload_n 0, 1) := by decide +kernel
theorem d_Y_first_25 : decode tb_Y_first 25 = .ok (.getfield 65, 3) := by decide +kernel
theorem d_Y_first_28 : decode tb_Y_first 28 = .ok (.iload_n 1, 1) := by decide +kernel
theorem d_Y_first_29 : decode tb_Y_first 29 = .ok (.aload_n 0, 1) := by decide +kernel
theorem d_Y_first_30 : decode tb_Y_first 30 = .ok (.iconst 4, 1) := by decide +kernel
theorem d_Y_first_31 : decode tb_Y_first 31 = .ok (.invokevirtual 158, 3) := by decide +kernel
theorem d_Y_first_34 : decode tb_Y_first 34 = .ok (.iastore, 1) := by decide +kernel
theorem d_Y_first_35 : decode tb_Y_first 35 = .ok (.return_, 1) := by decide +kernel
theorem d_Y_queue_0 : decode tb_Y_queue 0 = .ok (.aload_n 0, 1) := by decide +kernel
theorem d_Y_queue_1 : decode tb_Y_queue 1 = .ok (.getfield 62, 3) := by decide +kernel
theorem d_Y_queue_4 : decode tb_Y_queue 4 = .ok (.iload_n 1, 1) := by decide +kernel
theorem d_Y_queue_5 : decode tb_Y_queue 5 = .ok (.iaload, 1) := by decide +kernel
theorem d_Y_queue_6 : decode tb_Y_queue 6 = .ok (.iconst 4, 1) := by decide +kernel
theorem d_Y_queue_7 : decode tb_Y_queue 7 = .ok (.if_icmp .ne 35, 3) := by decide +kernel
theorem d_Y_queue_10 : decode tb_Y_queue 10 = .ok (.aload_n 0, 1) := by decide +kernel
theorem d_Y_queue_11 : decode tb_Y_queue 11 = .ok (.dup, 1) := by decide +kernel
theorem d_Y_queue_12 : decode tb_Y_queue 12 = .ok (.getfield 162, 3) := by decide +kernel
theorem d_Y_queue_15 : decode tb_Y_queue 15 = .ok (.aload_n 0, 1) := by decide +kernel
theorem d_Y_queue_16 : decode tb_Y_queue 16 = .ok (.getfield 86, 3) := by decide +kernel
theorem d_Y_queue_19 : decode tb_Y_queue 19 = .ok (.iload_n 2, 1) := by decide +kernel
theorem d_Y_queue_20 : decode tb_Y_queue 20 = .ok (.iaload, 1) := by decide +kernel
theorem d_Y_queue_21 : decode tb_Y_queue 21 = .ok (.iconst 4, 1) := by decide +kernel
theorem d_Y_queue_22 : decode tb_Y_queue 22 = .ok (.if_icmp .ne 7, 3) := by decide +kernel
theorem d_Y_queue_25 : decode tb_Y_queue 25 = .ok (.iconst 1, 1) := by decide +kernel
theorem d_Y_queue_26 : decode tb_Y_queue 26 = .ok (.goto 4, 3) := by decide +kernel
theorem d_Y_queue_29 : decode tb_Y_queue 29 = .ok (.iconst 0, 1) := by decide +kernel
theorem d_Y_queue_30 : decode tb_Y_queue 30 = .ok (.iadd, 1) := by decide +kernel
theorem d_Y_queue_31 : decode tb_Y_queue 31 = .ok (.putfield 162, 3) := by decide +kernel
theorem d_Y_queue_34 : decode tb_Y_queue 34 = .ok (.aload_n 0, 1) := by decide +kernel
theorem d_Y_queue_35 : decode tb_Y_queue 35 = .ok (.getfield 80, 3) := by decide +kernel
theorem d_Y_queue_38 : decode tb_Y_queue 38 = .ok (.iload_n 2, 1) := by decide +kernel
theorem d_Y_queue_39 : decode tb_Y_queue 39 = .ok (.iconst 0, 1) := by decide +kernel
theorem d_Y_queue_40 : decode tb_Y_queue 40 = .ok (.bastore, 1) := by decide +kernel
theorem d_Y_queue_41 : decode tb_Y_queue 41 = .ok (.return_, 1) := by decide +kernel
theorem d_Y_queue_42 : decode tb_Y_queue 42 = .ok (.aload_n 0, 1) := by decide +kernel
theorem d_Y_queue_43 : decode tb_Y_queue 43 = .ok (.getfield 59, 3) := by decide +kernel
theorem d_Y_queue_46 : decode tb_Y_queue 46 = .ok (.iconst 4, 1) := by decide +kernel
theorem d_Y_queue_47 : decode tb_Y_queue 47 = .ok (.iload_n 1, 1) := by decide +kernel
theorem d_Y_queue_48 : decode tb_Y_queue 48 = .ok (.imul, 1) := by decide +kernel
theorem d_Y_queue_49 : decode tb_Y_queue 49 = .ok (.aload_n 0, 1) := by decide +kernel
theorem d_Y_queue_50 : decode tb_Y_queue 50 = .ok (.getfield 62, 3) := by decide +kernel
theorem d_Y_queue_53 : decode tb_Y_queue 53 = .ok (.iload_n 1, 1) := by decide +kernel
theorem d_Y_queue_54 : decode tb_Y_queue 54 = .ok (.iaload, 1) := by decide +kernel
theorem d_Y_queue_55 : decode tb_Y_queue 55 = .ok (.iadd, 1) := by decide +kernel
theorem d_Y_queue_56 : decode tb_Y_queue 56 = .ok (.iload_n 2, 1) := by decide +kernel
theorem d_Y_queue_57 : decode tb_Y_queue 57 = .ok (.iastore, 1) := by decide +kernel
theorem d_Y_queue_58 : decode tb_Y_queue 58 = .ok (.aload_n 0, 1) := by decide +kernel
theorem d_Y_queue_59 : decode tb_Y_queue 59 = .ok (.getfield 62, 3) := by decide +kernel
theorem d_Y_queue_62 : decode tb_Y_queue 62 = .ok (.iload_n 1, 1) := by decide +kernel
theorem d_Y_queue_63 : decode tb_Y_queue 63 = .ok (.dup2, 1) := by decide +kernel
theorem d_Y_queue_64 : decode tb_Y_queue 64 = .ok (.iaload, 1) := by decide +kernel
theorem d_Y_queue_65 : decode tb_Y_queue 65 = .ok (.iconst 1, 1) := by decide +kernel
theorem d_Y_queue_66 : decode tb_Y_queue 66 = .ok (.iadd, 1) := by decide +kernel
theorem d_Y_queue_67 : decode tb_Y_queue 67 = .ok (.iastore, 1) := by decide +kernel
theorem d_Y_queue_68 : decode tb_Y_queue 68 = .ok (.aload_n 0, 1) := by decide +kernel
theorem d_Y_queue_69 : decode tb_Y_queue 69 = .ok (.getfield 62, 3) := by decide +kernel
theorem d_Y_queue_72 : decode tb_Y_queue 72 = .ok (.iload_n 1, 1) := by decide +kernel
theorem d_Y_queue_73 : decode tb_Y_queue 73 = .ok (.iaload, 1) := by decide +kernel
theorem d_Y_queue_74 : decode tb_Y_queue 74 = .ok (.iconst 1, 1) := by decide +kernel
theorem d_Y_queue_75 : decode tb_Y_queue 75 = .ok (.if_icmp .ne 8, 3) := by decide +kernel
theorem d_Y_queue_78 : decode tb_Y_queue 78 = .ok (.aload_n 0, 1) := by decide +kernel
theorem d_Y_queue_79 : decode tb_Y_queue 79 = .ok (.iload_n 1, 1) := by decide +kernel
theorem d_Y_queue_80 : decode tb_Y_queue 80 = .ok (.invokevirtual 165, 3) := by decide +kernel
theorem d_Y_queue_83 : decode tb_Y_queue 83 = .ok (.return_, 1) := by decide +kernel
theorem d_Y_queues_0 : decode tb_Y_queues 0 = .ok (.iconst 0, 1) := by decide +kernel
theorem d_Y_queues_1 : decode tb_Y_queues 1 = .ok (.istore_n 3, 1) := by decide +kernel
theorem d_Y_queues_2 : decode tb_Y_queues 2 = .ok (.iconst 0, 1) := by decide +kernel
theorem d_Y_queues_3 : decode tb_Y_queues 3 = .ok (.istore 4, 2) := by decide +kernel
theorem d_Y_queues_5 : decode tb_Y_queues 5 = .ok (.iload 4, 2) := by decide +kernel
theorem d_Y_queues_7 : decode tb_Y_queues 7 = .ok (.aload_n 0, 1) := by decide +kernel
theorem d_Y_queues_8 : decode tb_Y_queues 8 = .ok (.getfield 62, 3) := by decide +kernel
theorem d_Y_queues_11 : decode tb_Y_queues 11 = .ok (.iload_n 1, 1) := by decide +kernel
theorem d_Y_queues_12 : decode tb_Y_queues 12 = .ok (.iaload, 1) := by decide +kernel
theorem d_Y_queues_13 : decode tb_Y_queues 13 = .ok (.if_icmp .ge 39, 3) := by decide +kernel
theorem d_Y_queues_16 : decode tb_Y_queues 16 = .ok (.iload_n 3, 1) := by decide +kernel
theorem d_Y_queues_17 : decode tb_Y_queues 17 = .ok (.ifCond .ne 23, 3) := by decide +kernel
theorem d_Y_queues_20 : decode tb_Y_queues 20 = .ok (.aload_n 0, 1) := by decide +kernel
theorem d_Y_queues_21 : decode tb_Y_queues 21 = .ok (.getfield 86, 3) := by decide +kernel
theorem d_Y_queues_24 : decode tb_Y_queues 24 = .ok (.aload_n 0, 1) := by decide +kernel
theorem d_Y_queues_25 : decode tb_Y_queues 25 = .ok (.getfield 59, 3) := by decide +kernel
theorem d_Y_queues_28 : decode tb_Y_queues 28 = .ok (.iconst 4, 1) := by decide +kernel
theorem d_Y_queues_29 : decode tb_Y_queues 29 = .ok (.iload_n 1, 1) := by decide +kernel
theorem d_Y_queues_30 : decode tb_Y_queues 30 = .ok (.imul, 1) := by decide +kernel
theorem d_Y_queues_31 : decode tb_Y_queues 31 = .ok (.iload 4, 2) := by decide +kernel
theorem d_Y_queues_33 : decode tb_Y_queues 33 = .ok (.iadd, 1) := by decide +kernel
theorem d_Y_queues_34 : decode tb_Y_queues 34 = .ok (.iaload, 1) := by decide +kernel
theorem d_Y_queues_35 : decode tb_Y_queues 35 = .ok (.iaload, 1) := by decide +kernel
theorem d_Y_queues_36 : decode tb_Y_queues 36 = .ok (.iload_n 2, 1) := by decide +kernel
theorem d_Y_queues_37 : decode tb_Y_queues 37 = .ok (.if_icmp .ne 7, 3) := by decide +kernel
theorem d_Y_queues_40 : decode tb_Y_queues 40 = .ok (.iconst 1, 1) := by decide +kernel
theorem d_Y_queues_41 : decode tb_Y_queues 41 = .ok (.goto 4, 3) := by decide +kernel
theorem d_Y_queues_44 : decode tb_Y_queues 44 = .ok (.iconst 0, 1) := by decide +kernel
theorem d_Y_queues_45 : decode tb_Y_queues 45 = .ok (.istore_n 3, 1) := by decide +kernel
theorem d_Y_queues_46 : decode tb_Y_queues 46 = .ok (.iinc 4 1, 3) := by decide +kernel
theorem d_Y_queues_49 : decode tb_Y_queues 49 = .ok (.goto (-44), 3) := by decide +kernel
theorem d_Y_queues_52 : decode tb_Y_queues 52 = .ok (.iload_n 3, 1) := by decide +kernel
theorem d_Y_queues_53 : decode tb_Y_queues 53 = .ok (.ireturn, 1) := by decide +kernel
theorem d_Y_done_0 : decode tb_Y_done 0 = .ok (.aload_n 0, 1) := by decide +kernel
theorem d_Y_done_1 : decode tb_Y_done 1 = .ok (.getfield 80, 3) := by decide +kernel
theorem d_Y_done_4 : decode tb_Y_done 4 = .ok (.aload_n 0, 1) := by decide +kernel
theorem d_Y_done_5 : decode tb_Y_done 5 = .ok (.getfield 59, 3) := by decide +kernel
theorem d_Y_done_8 : decode tb_Y_done 8 = .ok (.iconst 4, 1) := by decide +kernel
theorem d_Y_done_9 : decode tb_Y_done 9 = .ok (.iload_n 1, 1) := by decide +kernel
theorem d_Y_done_10 : decode tb_Y_done 10 = .ok (.imul, 1) := by decide +kernel
theorem d_Y_done_11 : decode tb_Y_done 11 = .ok (.iaload, 1) := by decide +kernel
theorem d_Y_done_12 : decode tb_Y_done 12 = .ok (.iconst 0, 1) := by decide +kernel
theorem d_Y_done_13 : decode tb_Y_done 13 = .ok (.bastore, 1) := by decide +kernel
theorem d_Y_done_14 : decode tb_Y_done 14 = .ok (.aload_n 0, 1) := by decide +kernel
theorem d_Y_done_15 : decode tb_Y_done 15 = .ok (.getfield 62, 3) := by decide +kernel
theorem d_Y_done_18 : decode tb_Y_done 18 = .ok (.iload_n 1, 1) := by decide +kernel
theorem d_Y_done_19 : decode tb_Y_done 19 = .ok (.dup2, 1) := by decide +kernel
theorem d_Y_done_20 : decode tb_Y_done 20 = .ok (.iaload, 1) := by decide +kernel
theorem d_Y_done_21 : decode tb_Y_done 21 = .ok (.iconst 1, 1) := by decide +kernel
theorem d_Y_done_22 : decode tb_Y_done 22 = .ok (.isub, 1) := by decide +kernel
theorem d_Y_done_23 : decode tb_Y_done 23 = .ok (.iastore, 1) := by decide +kernel
theorem d_Y_done_24 : decode tb_Y_done 24 = .ok (.iconst 0, 1) := by decide +kernel
theorem d_Y_done_25 : decode tb_Y_done 25 = .ok (.istore_n 2, 1) := by decide +kernel
theorem d_Y_done_26 : decode tb_Y_done 26 = .ok (.iload_n 2, 1) := by decide +kernel
theorem d_Y_done_27 : decode tb_Y_done 27 = .ok (.aload_n 0, 1) := by decide +kernel
theorem d_Y_done_28 : decode tb_Y_done 28 = .ok (.getfield 62, 3) := by decide +kernel
theorem d_Y_done_31 : decode tb_Y_done 31 = .ok (.iload_n 1, 1) := by decide +kernel
theorem d_Y_done_32 : decode tb_Y_done 32 = .ok (.iaload, 1) := by decide +kernel
theorem d_Y_done_33 : decode tb_Y_done 33 = .ok (.if_icmp .ge 31, 3) := by decide +kernel
theorem d_Y_done_36 : decode tb_Y_done 36 = .ok (.aload_n 0, 1) := by decide +kernel
theorem d_Y_done_37 : decode tb_Y_done 37 = .ok (.getfield 59, 3) := by decide +kernel
theorem d_Y_done_40 : decode tb_Y_done 40 = .ok (.iconst 4, 1) := by decide +kernel
theorem d_Y_done_41 : decode tb_Y_done 41 = .ok (.iload_n 1, 1) := by decide +kernel
theorem d_Y_done_42 : decode tb_Y_done 42 = .ok (.imul, 1) := by decide +kernel
theorem d_Y_done_43 : decode tb_Y_done 43 = .ok (.iload_n 2, 1) := by decide +kernel
theorem d_Y_done_44 : decode tb_Y_done 44 = .ok (.iadd, 1) := by decide +kernel
theorem d_Y_done_45 : decode tb_Y_done 45 = .ok (.aload_n 0, 1) := by decide +kernel
theorem d_Y_done_46 : decode tb_Y_done 46 = .ok (.getfield 59, 3) := by decide +kernel
theorem d_Y_done_49 : decode tb_Y_done 49 = .ok (.iconst 4, 1) := by decide +kernel
theorem d_Y_done_50 : decode tb_Y_done 50 = .ok (.iload_n 1, 1) := by decide +kernel
theorem d_Y_done_51 : decode tb_Y_done 51 = .ok (.imul, 1) := by decide +kernel
theorem d_Y_done_52 : decode tb_Y_done 52 = .ok (.iload_n 2, 1) := by decide +kernel
theorem d_Y_done_53 : decode tb_Y_done 53 = .ok (.iadd, 1) := by decide +kernel
theorem d_Y_done_54 : decode tb_Y_done 54 = .ok (.iconst 1, 1) := by decide +kernel
theorem d_Y_done_55 : decode tb_Y_done 55 = .ok (.iadd, 1) := by decide +kernel
theorem d_Y_done_56 : decode tb_Y_done 56 = .ok (.iaload, 1) := by decide +kernel
theorem d_Y_done_57 : decode tb_Y_done 57 = .ok (.iastore, 1) := by decide +kernel
theorem d_Y_done_58 : decode tb_Y_done 58 = .ok (.iinc 2 1, 3) := by decide +kernel
theorem d_Y_done_61 : decode tb_Y_done 61 = .ok (.goto (-35), 3) := by decide +kernel
theorem d_Y_done_64 : decode tb_Y_done 64 = .ok (.aload_n 0, 1) := by decide +kernel
theorem d_Y_done_65 : decode tb_Y_done 65 = .ok (.iload_n 1, 1) := by decide +kernel
theorem d_Y_done_66 : decode tb_Y_done 66 = .ok (.invokevirtual 165, 3) := by decide +kernel
theorem d_Y_done_69 : decode tb_Y_done 69 = .ok (.return_, 1) := by decide +kernel
theorem d_Y_fails_0 : decode tb_Y_fails 0 = .ok (.aload_n 0, 1) := by decide +kernel
theorem d_Y_fails_1 : decode tb_Y_fails 1 = .ok (.getfield 59, 3) := by decide +kernel
theorem d_Y_fails_4 : decode tb_Y_fails 4 = .ok (.iconst 4, 1) := by decide +kernel
theorem d_Y_fails_5 : decode tb_Y_fails 5 = .ok (.iload_n 1, 1) := by decide +kernel
theorem d_Y_fails_6 : decode tb_Y_fails 6 = .ok (.imul, 1) := by decide +kernel
theorem d_Y_fails_7 : decode tb_Y_fails 7 = .ok (.iaload, 1) := by decide +kernel
theorem d_Y_fails_8 : decode tb_Y_fails 8 = .ok (.istore_n 2, 1) := by decide +kernel
theorem d_Y_fails_9 : decode tb_Y_fails 9 = .ok (.aload_n 0, 1) := by decide +kernel
theorem d_Y_fails_10 : decode tb_Y_fails 10 = .ok (.getfield 89, 3) := by decide +kernel
theorem d_Y_fails_13 : decode tb_Y_fails 13 = .ok (.iload_n 2, 1) := by decide +kernel
theorem d_Y_fails_14 : decode tb_Y_fails 14 = .ok (.iaload, 1) := by decide +kernel
theorem d_Y_fails_15 : decode tb_Y_fails 15 = .ok (.istore_n 3, 1) := by decide +kernel
theorem d_Y_fails_16 : decode tb_Y_fails 16 = .ok (.aload_n 0, 1) := by decide +kernel
theorem d_Y_fails_17 : decode tb_Y_fails 17 = .ok (.dup, 1) := by decide +kernel
theorem d_Y_fails_18 : decode tb_Y_fails 18 = .ok (.getfield 162, 3) := by decide +kernel
theorem d_Y_fails_21 : decode tb_Y_fails 21 = .ok (.aload_n 0, 1) := by decide +kernel
theorem d_Y_fails_22 : decode tb_Y_fails 22 = .ok (.getfield 86, 3) := by decide +kernel
theorem d_Y_fails_25 : decode tb_Y_fails 25 = .ok (.iload_n 2, 1) := by decide +kernel
theorem d_Y_fails_26 : decode tb_Y_fails 26 = .ok (.iaload, 1) := by decide +kernel
theorem d_Y_fails_27 : decode tb_Y_fails 27 = .ok (.iconst 4, 1) := by decide +kernel
theorem d_Y_fails_28 : decode tb_Y_fails 28 = .ok (.if_icmp .ne 7, 3) := by decide +kernel
theorem d_Y_fails_31 : decode tb_Y_fails 31 = .ok (.iconst 1, 1) := by decide +kernel
theorem d_Y_fails_32 : decode tb_Y_fails 32 = .ok (.goto 4, 3) := by decide +kernel
theorem d_Y_fails_35 : decode tb_Y_fails 35 = .ok (.iconst 0, 1) := by decide +kernel
theorem d_Y_fails_36 : decode tb_Y_fails 36 = .ok (.iadd, 1) := by decide +kernel
theorem d_Y_fails_37 : decode tb_Y_fails 37 = .ok (.putfield 162, 3) := by decide +kernel
theorem d_Y_fails_40 : decode tb_Y_fails 40 = .ok (.aload_n 0, 1) := by decide +kernel
theorem d_Y_fails_41 : decode tb_Y_fails 41 = .ok (.iload_n 1, 1) := by decide +kernel
theorem d_Y_fails_42 : decode tb_Y_fails 42 = .ok (.invokevirtual 168, 3) := by decide +kernel
theorem d_Y_fails_45 : decode tb_Y_fails 45 = .ok (.iload_n 3, 1) := by decide +kernel
theorem d_Y_fails_46 : decode tb_Y_fails 46 = .ok (.ifCond .ge 4, 3) := by decide +kernel
theorem d_Y_fails_49 : decode tb_Y_fails 49 = .ok (.return_, 1) := by decide +kernel
theorem d_Y_fails_50 : decode tb_Y_fails 50 = .ok (.iconst 0, 1) := by decide +kernel
theorem d_Y_fails_51 : decode tb_Y_fails 51 = .ok (.istore 4, 2) := by decide +kernel
theorem d_Y_fails_53 : decode tb_Y_fails 53 = .ok (.iload 4, 2) := by decide +kernel
theorem d_Y_fails_55 : decode tb_Y_fails 55 = .ok (.bipush 7, 2) := by decide +kernel
theorem d_Y_fails_57 : decode tb_Y_fails 57 = .ok (.if_icmp .ge 53, 3) := by decide +kernel
theorem d_Y_fails_60 : decode tb_Y_fails 60 = .ok (.aload_n 0, 1) := by decide +kernel
theorem d_Y_fails_61 : decode tb_Y_fails 61 = .ok (.getfield 20, 3) := by decide +kernel
theorem d_Y_fails_64 : decode tb_Y_fails 64 = .ok (.bipush 7, 2) := by decide +kernel
theorem d_Y_fails_66 : decode tb_Y_fails 66 = .ok (.iload_n 1, 1) := by decide +kernel
theorem d_Y_fails_67 : decode tb_Y_fails 67 = .ok (.imul, 1) := by decide +kernel
theorem d_Y_fails_68 : decode tb_Y_fails 68 = .ok (.iload 4, 2) := by decide +kernel
theorem d_Y_fails_70 : decode tb_Y_fails 70 = .ok (.iadd, 1) := by decide +kernel
theorem d_Y_fails_71 : decode tb_Y_fails 71 = .ok (.aload_n 0, 1) := by decide +kernel
theorem d_Y_fails_72 : decode tb_Y_fails 72 = .ok (.getfield 20, 3) := by decide +kernel
theorem d_Y_fails_75 : decode tb_Y_fails 75 = .ok (.bipush 7, 2) := by decide +kernel
theorem d_Y_fails_77 : decode tb_Y_fails 77 = .ok (.iload_n 1, 1) := by decide +kernel
theorem d_Y_fails_78 : decode tb_Y_fails 78 = .ok (.imul, 1) := by decide +kernel
theorem d_Y_fails_79 : decode tb_Y_fails 79 = .ok (.iload 4, 2) := by decide +kernel
theorem d_Y_fails_81 : decode tb_Y_fails 81 = .ok (.iadd, 1) := by decide +kernel
theorem d_Y_fails_82 : decode tb_Y_fails 82 = .ok (.iaload, 1) := by decide +kernel
theorem d_Y_fails_83 : decode tb_Y_fails 83 = .ok (.iload_n 3, 1) := by decide +kernel
theorem d_Y_fails_84 : decode tb_Y_fails 84 = .ok (.if_icmp .ne 7, 3) := by decide +kernel
theorem d_Y_fails_87 : decode tb_Y_fails 87 = .ok (.iconst (-1), 1) := by decide +kernel
theorem d_Y_fails_88 : decode tb_Y_fails 88 = .ok (.goto 15, 3) := by decide +kernel
theorem d_Y_fails_91 : decode tb_Y_fails 91 = .ok (.aload_n 0, 1) := by decide +kernel
theorem d_Y_fails_92 : decode tb_Y_fails 92 = .ok (.getfield 20, 3) := by decide +kernel
theorem d_Y_fails_95 : decode tb_Y_fails 95 = .ok (.bipush 7, 2) := by decide +kernel
theorem d_Y_fails_97 : decode tb_Y_fails 97 = .ok (.iload_n 1, 1) := by decide +kernel
theorem d_Y_fails_98 : decode tb_Y_fails 98 = .ok (.imul, 1) := by decide +kernel
theorem d_Y_fails_99 : decode tb_Y_fails 99 = .ok (.iload 4, 2) := by decide +kernel
theorem d_Y_fails_101 : decode tb_Y_fails 101 = .ok (.iadd, 1) := by decide +kernel
theorem d_Y_fails_102 : decode tb_Y_fails 102 = .ok (.iaload, 1) := by decide +kernel
theorem d_Y_fails_103 : decode tb_Y_fails 103 = .ok (.iastore, 1) := by decide +kernel
theorem d_Y_fails_104 : decode tb_Y_fails 104 = .ok (.iinc 4 1, 3) := by decide +kernel
theorem d_Y_fails_107 : decode tb_Y_fails 107 = .ok (.goto (-54), 3) := by decide +kernel
theorem d_Y_fails_110 : decode tb_Y_fails 110 = .ok (.aload_n 0, 1) := by decide +kernel
theorem d_Y_fails_111 : decode tb_Y_fails 111 = .ok (.getfield 38, 3) := by decide +kernel
theorem d_Y_fails_114 : decode tb_Y_fails 114 = .ok (.iload_n 1, 1) := by decide +kernel
theorem d_Y_fails_115 : decode tb_Y_fails 115 = .ok (.iaload, 1) := by decide +kernel
theorem d_Y_fails_116 : decode tb_Y_fails 116 = .ok (.iload_n 3, 1) := by decide +kernel
theorem d_Y_fails_117 : decode tb_Y_fails 117 = .ok (.if_icmp .ne 21, 3) := by decide +kernel
theorem d_Y_fails_120 : decode tb_Y_fails 120 = .ok (.aload_n 0, 1) := by decide +kernel
theorem d_Y_fails_121 : decode tb_Y_fails 121 = .ok (.getfield 16, 3) := by decide +kernel
theorem d_Y_fails_124 : decode tb_Y_fails 124 = .ok (.bipush 7, 2) := by decide +kernel
theorem d_Y_fails_126 : decode tb_Y_fails 126 = .ok (.iload_n 1, 1) := by decide +kernel
theorem d_Y_fails_127 : decode tb_Y_fails 127 = .ok (.imul, 1) := by decide +kernel
theorem d_Y_fails_128 : decode tb_Y_fails 128 = .ok (.iload_n 3, 1) := by decide +kernel
theorem d_Y_fails_129 : decode tb_Y_fails 129 = .ok (.iadd, 1) := by decide +kernel
theorem d_Y_fails_130 : decode tb_Y_fails 130 = .ok (.iconst 0, 1) := by decide +kernel
theorem d_Y_fails_131 : decode tb_Y_fails 131 = .ok (.bastore, 1) := by decide +kernel
theorem d_Y_fails_132 : decode tb_Y_fails 132 = .ok (.aload_n 0, 1) := by decide +kernel
theorem d_Y_fails_133 : decode tb_Y_fails 133 = .ok (.iload_n 1, 1) := by decide +kernel
theorem d_Y_fails_134 : decode tb_Y_fails 134 = .ok (.invokevirtual 171, 3) := by decide +kernel
theorem d_Y_fails_137 : decode tb_Y_fails 137 = .ok (.pop, 1) := by decide +kernel
theorem d_Y_fails_138 : decode tb_Y_fails 138 = .ok (.return_, 1) := by decide +kernel
theorem d_Y_begin_0 : decode tb_Y_begin 0 = .ok (.aload_n 0, 1) := by decide +kernel
theorem d_Y_begin_1 : decode tb_Y_begin 1 = .ok (.getfield 50, 3) := by decide +kernel
theorem d_Y_begin_4 : decode tb_Y_begin 4 = .ok (.iload_n 1, 1) := by decide +kernel
theorem d_Y_begin_5 : decode tb_Y_begin 5 = .ok (.iconst 0, 1) := by decide +kernel
theorem d_Y_begin_6 : decode tb_Y_begin 6 = .ok (.iastore, 1) := by decide +kernel
theorem d_Y_begin_7 : decode tb_Y_begin 7 = .ok (.aload_n 0, 1) := by decide +kernel
theorem d_Y_begin_8 : decode tb_Y_begin 8 = .ok (.getfield 56, 3) := by decide +kernel
theorem d_Y_begin_11 : decode tb_Y_begin 11 = .ok (.iload_n 1, 1) := by decide +kernel
theorem d_Y_begin_12 : decode tb_Y_begin 12 = .ok (.iconst 0, 1) := by decide +kernel
theorem d_Y_begin_13 : decode tb_Y_begin 13 = .ok (.iastore, 1) := by decide +kernel
theorem d_Y_begin_14 : decode tb_Y_begin 14 = .ok (.aload_n 0, 1) := by decide +kernel
theorem d_Y_begin_15 : decode tb_Y_begin 15 = .ok (.getfield 53, 3) := by decide +kernel
theorem d_Y_begin_18 : decode tb_Y_begin 18 = .ok (.iload_n 1, 1) := by decide +kernel
theorem d_Y_begin_19 : decode tb_Y_begin 19 = .ok (.aload_n 0, 1) := by decide +kernel
theorem d_Y_begin_20 : decode tb_Y_begin 20 = .ok (.getfield 47, 3) := by decide +kernel
theorem d_Y_begin_23 : decode tb_Y_begin 23 = .ok (.iload_n 1, 1) := by decide +kernel
theorem d_Y_begin_24 : decode tb_Y_begin 24 = .ok (.iaload, 1) := by decide +kernel
theorem d_Y_begin_25 : decode tb_Y_begin 25 = .ok (.iconst 2, 1) := by decide +kernel
theorem d_Y_begin_26 : decode tb_Y_begin 26 = .ok (.idiv, 1) := by decide +kernel
theorem d_Y_begin_27 : decode tb_Y_begin 27 = .ok (.aload_n 0, 1) := by decide +kernel
theorem d_Y_begin_28 : decode tb_Y_begin 28 = .ok (.aload_n 0, 1) := by decide +kernel
theorem d_Y_begin_29 : decode tb_Y_begin 29 = .ok (.getfield 47, 3) := by decide +kernel
theorem d_Y_begin_32 : decode tb_Y_begin 32 = .ok (.iload_n 1, 1) := by decide +kernel
theorem d_Y_begin_33 : decode tb_Y_begin 33 = .ok (.iaload, 1) := by decide +kernel
theorem d_Y_begin_34 : decode tb_Y_begin 34 = .ok (.iconst 2, 1) := by decide +kernel
theorem d_Y_begin_35 : decode tb_Y_begin 35 = .ok (.idiv, 1) := by decide +kernel
theorem d_Y_begin_36 : decode tb_Y_begin 36 = .ok (.invokevirtual 158, 3) := by decide +kernel
theorem d_Y_begin_39 : decode tb_Y_begin 39 = .ok (.iadd, 1) := by decide +kernel
theorem d_Y_begin_40 : decode tb_Y_begin 40 = .ok (.iastore, 1) := by decide +kernel
theorem d_Y_begin_41 : decode tb_Y_begin 41 = .ok (.return_, 1) := by decide +kernel
theorem d_Y_reset_0 : decode tb_Y_reset 0 = .ok (.aload_n 0, 1) := by decide +kernel
theorem d_Y_reset_1 : decode tb_Y_reset 1 = .ok (.getfield 44, 3) := by decide +kernel
theorem d_Y_reset_4 : decode tb_Y_reset 4 = .ok (.iload_n 1, 1) := by decide +kernel
theorem d_Y_reset_5 : decode tb_Y_reset 5 = .ok (.baload, 1) := by decide +kernel
theorem d_Y_reset_6 : decode tb_Y_reset 6 = .ok (.ifCond .eq 13, 3) := by decide +kernel
theorem d_Y_reset_9 : decode tb_Y_reset 9 = .ok (.aload_n 0, 1) := by decide +kernel
theorem d_Y_reset_10 : decode tb_Y_reset 10 = .ok (.getfield 47, 3) := by decide +kernel
theorem d_Y_reset_13 : decode tb_Y_reset 13 = .ok (.iload_n 1, 1) := by decide +kernel
theorem d_Y_reset_14 : decode tb_Y_reset 14 = .ok (.iaload, 1) := by decide +kernel
theorem d_Y_reset_15 : decode tb_Y_reset 15 = .ok (.iconst 4, 1) := by decide +kernel
theorem d_Y_reset_16 : decode tb_Y_reset 16 = .ok (.if_icmp .ne 4, 3) := by decide +kernel
theorem d_Y_reset_19 : decode tb_Y_reset 19 = .ok (.return_, 1) := by decide +kernel
theorem d_Y_reset_20 : decode tb_Y_reset 20 = .ok (.aload_n 0, 1) := by decide +kernel
theorem d_Y_reset_21 : decode tb_Y_reset 21 = .ok (.getfield 47, 3) := by decide +kernel
theorem d_Y_reset_24 : decode tb_Y_reset 24 = .ok (.iload_n 1, 1) := by decide +kernel
theorem d_Y_reset_25 : decode tb_Y_reset 25 = .ok (.iconst 4, 1) := by decide +kernel
theorem d_Y_reset_26 : decode tb_Y_reset 26 = .ok (.iastore, 1) := by decide +kernel
theorem d_Y_reset_27 : decode tb_Y_reset 27 = .ok (.aload_n 0, 1) := by decide +kernel
theorem d_Y_reset_28 : decode tb_Y_reset 28 = .ok (.iload_n 1, 1) := by decide +kernel
theorem d_Y_reset_29 : decode tb_Y_reset 29 = .ok (.invokevirtual 175, 3) := by decide +kernel
theorem d_Y_reset_32 : decode tb_Y_reset 32 = .ok (.return_, 1) := by decide +kernel
theorem d_Y_timer_0 : decode tb_Y_timer 0 = .ok (.aload_n 0, 1) := by decide +kernel
theorem d_Y_timer_1 : decode tb_Y_timer 1 = .ok (.getfield 44, 3) := by decide +kernel
theorem d_Y_timer_4 : decode tb_Y_timer 4 = .ok (.iload_n 1, 1) := by decide +kernel
theorem d_Y_timer_5 : decode tb_Y_timer 5 = .ok (.baload, 1) := by decide +kernel
theorem d_Y_timer_6 : decode tb_Y_timer 6 = .ok (.ifCond .ne 4, 3) := by decide +kernel
theorem d_Y_timer_9 : decode tb_Y_timer 9 = .ok (.return_, 1) := by decide +kernel
theorem d_Y_timer_10 : decode tb_Y_timer 10 = .ok (.aload_n 0, 1) := by decide +kernel
theorem d_Y_timer_11 : decode tb_Y_timer 11 = .ok (.getfield 50, 3) := by decide +kernel
theorem d_Y_timer_14 : decode tb_Y_timer 14 = .ok (.iload_n 1, 1) := by decide +kernel
theorem d_Y_timer_15 : decode tb_Y_timer 15 = .ok (.dup2, 1) := by decide +kernel
theorem d_Y_timer_16 : decode tb_Y_timer 16 = .ok (.iaload, 1) := by decide +kernel
theorem d_Y_timer_17 : decode tb_Y_timer 17 = .ok (.iconst 1, 1) := by decide +kernel
theorem d_Y_timer_18 : decode tb_Y_timer 18 = .ok (.iadd, 1) := by decide +kernel
theorem d_Y_timer_19 : decode tb_Y_timer 19 = .ok (.iastore, 1) := by decide +kernel
theorem d_Y_timer_20 : decode tb_Y_timer 20 = .ok (.aload_n 0, 1) := by decide +kernel
theorem d_Y_timer_21 : decode tb_Y_timer 21 = .ok (.getfield 50, 3) := by decide +kernel
theorem d_Y_timer_24 : decode tb_Y_timer 24 = .ok (.iload_n 1, 1) := by decide +kernel
theorem d_Y_timer_25 : decode tb_Y_timer 25 = .ok (.iaload, 1) := by decide +kernel
theorem d_Y_timer_26 : decode tb_Y_timer 26 = .ok (.aload_n 0, 1) := by decide +kernel
theorem d_Y_timer_27 : decode tb_Y_timer 27 = .ok (.getfield 53, 3) := by decide +kernel
theorem d_Y_timer_30 : decode tb_Y_timer 30 = .ok (.iload_n 1, 1) := by decide +kernel
theorem d_Y_timer_31 : decode tb_Y_timer 31 = .ok (.iaload, 1) := by decide +kernel
theorem d_Y_timer_32 : decode tb_Y_timer 32 = .ok (.if_icmp .ne 38, 3) := by decide +kernel
theorem d_Y_timer_35 : decode tb_Y_timer 35 = .ok (.aload_n 0, 1) := by decide +kernel
theorem d_Y_timer_36 : decode tb_Y_timer 36 = .ok (.getfield 56, 3) := by decide +kernel
theorem d_Y_timer_39 : decode tb_Y_timer 39 = .ok (.iload_n 1, 1) := by decide +kernel
theorem d_Y_timer_40 : decode tb_Y_timer 40 = .ok (.iaload, 1) := by decide +kernel
theorem d_Y_timer_41 : decode tb_Y_timer 41 = .ok (.aload_n 0, 1) := by decide +kernel
theorem d_Y_timer_42 : decode tb_Y_timer 42 = .ok (.getfield 147, 3) := by decide +kernel
theorem d_Y_timer_45 : decode tb_Y_timer 45 = .ok (.if_icmp .ge 25, 3) := by decide +kernel
theorem d_Y_timer_48 : decode tb_Y_timer 48 = .ok (.aload_n 0, 1) := by decide +kernel
theorem d_Y_timer_49 : decode tb_Y_timer 49 = .ok (.iload_n 1, 1) := by decide +kernel
theorem d_Y_timer_50 : decode tb_Y_timer 50 = .ok (.iconst 2, 1) := by decide +kernel
theorem d_Y_timer_51 : decode tb_Y_timer 51 = .ok (.invokevirtual 178, 3) := by decide +kernel
theorem d_Y_timer_54 : decode tb_Y_timer 54 = .ok (.ifCond .ne 16, 3) := by decide +kernel
theorem d_Y_timer_57 : decode tb_Y_timer 57 = .ok (.aload_n 0, 1) := by decide +kernel
theorem d_Y_timer_58 : decode tb_Y_timer 58 = .ok (.iconst 2, 1) := by decide +kernel
theorem d_Y_timer_59 : decode tb_Y_timer 59 = .ok (.iconst (-1), 1) := by decide +kernel
theorem d_Y_timer_60 : decode tb_Y_timer 60 = .ok (.invokevirtual 182, 3) := by decide +kernel
theorem d_Y_timer_63 : decode tb_Y_timer 63 = .ok (.istore_n 2, 1) := by decide +kernel
theorem d_Y_timer_64 : decode tb_Y_timer 64 = .ok (.aload_n 0, 1) := by decide +kernel
theorem d_Y_timer_65 : decode tb_Y_timer 65 = .ok (.iload_n 1, 1) := by decide +kernel
theorem d_Y_timer_66 : decode tb_Y_timer 66 = .ok (.iload_n 2, 1) := by decide +kernel
theorem d_Y_timer_67 : decode tb_Y_timer 67 = .ok (.invokevirtual 186, 3) := by decide +kernel
theorem d_Y_timer_70 : decode tb_Y_timer 70 = .ok (.aload_n 0, 1) := by decide +kernel
theorem d_Y_timer_71 : decode tb_Y_timer 71 = .ok (.getfield 50, 3) := by decide +kernel
theorem d_Y_timer_74 : decode tb_Y_timer 74 = .ok (.iload_n 1, 1) := by decide +kernel
theorem d_Y_timer_75 : decode tb_Y_timer 75 = .ok (.iaload, 1) := by decide +kernel
theorem d_Y_timer_76 : decode tb_Y_timer 76 = .ok (.aload_n 0, 1) := by decide +kernel
theorem d_Y_timer_77 : decode tb_Y_timer 77 = .ok (.getfield 47, 3) := by decide +kernel
theorem d_Y_timer_80 : decode tb_Y_timer 80 = .ok (.iload_n 1, 1) := by decide +kernel
theorem d_Y_timer_81 : decode tb_Y_timer 81 = .ok (.iaload, 1) := by decide +kernel
theorem d_Y_timer_82 : decode tb_Y_timer 82 = .ok (.if_icmp .ne 40, 3) := by decide +kernel
theorem d_Y_timer_85 : decode tb_Y_timer 85 = .ok (.aload_n 0, 1) := by decide +kernel
theorem d_Y_timer_86 : decode tb_Y_timer 86 = .ok (.getfield 47, 3) := by decide +kernel
theorem d_Y_timer_89 : decode tb_Y_timer 89 = .ok (.iload_n 1, 1) := by decide +kernel
theorem d_Y_timer_90 : decode tb_Y_timer 90 = .ok (.iconst 2, 1) := by decide +kernel
theorem d_Y_timer_91 : decode tb_Y_timer 91 = .ok (.aload_n 0, 1) := by decide +kernel
theorem d_Y_timer_92 : decode tb_Y_timer 92 = .ok (.getfield 47, 3) := by decide +kernel
theorem d_Y_timer_95 : decode tb_Y_timer 95 = .ok (.iload_n 1, 1) := by decide +kernel
theorem d_Y_timer_96 : decode tb_Y_timer 96 = .ok (.iaload, 1) := by decide +kernel
theorem d_Y_timer_97 : decode tb_Y_timer 97 = .ok (.imul, 1) := by decide +kernel
theorem d_Y_timer_98 : decode tb_Y_timer 98 = .ok (.bipush 64, 2) := by decide +kernel
theorem d_Y_timer_100 : decode tb_Y_timer 100 = .ok (.if_icmp .le 8, 3) := by decide +kernel
theorem d_Y_timer_103 : decode tb_Y_timer 103 = .ok (.bipush 64, 2) := by decide +kernel
theorem d_Y_timer_105 : decode tb_Y_timer 105 = .ok (.goto 11, 3) := by decide +kernel
theorem d_Y_timer_108 : decode tb_Y_timer 108 = .ok (.iconst 2, 1) := by decide +kernel
theorem d_Y_timer_109 : decode tb_Y_timer 109 = .ok (.aload_n 0, 1) := by decide +kernel
theorem d_Y_timer_110 : decode tb_Y_timer 110 = .ok (.getfield 47, 3) := by decide +kernel
theorem d_Y_timer_113 : decode tb_Y_timer 113 = .ok (.iload_n 1, 1) := by decide +kernel
theorem d_Y_timer_114 : decode tb_Y_timer 114 = .ok (.iaload, 1) := by decide +kernel
theorem d_Y_timer_115 : decode tb_Y_timer 115 = .ok (.imul, 1) := by decide +kernel
theorem d_Y_timer_116 : decode tb_Y_timer 116 = .ok (.iastore, 1) := by decide +kernel
theorem d_Y_timer_117 : decode tb_Y_timer 117 = .ok (.aload_n 0, 1) := by decide +kernel
theorem d_Y_timer_118 : decode tb_Y_timer 118 = .ok (.iload_n 1, 1) := by decide +kernel
theorem d_Y_timer_119 : decode tb_Y_timer 119 = .ok (.invokevirtual 175, 3) := by decide +kernel
theorem d_Y_timer_122 : decode tb_Y_timer 122 = .ok (.return_, 1) := by decide +kernel
theorem d_Y_announce_0 : decode tb_Y_announce 0 = .ok (.aload_n 0, 1) := by decide +kernel
theorem d_Y_announce_1 : decode tb_Y_announce 1 = .ok (.iconst 3, 1) := by decide +kernel
theorem d_Y_announce_2 : decode tb_Y_announce 2 = .ok (.iload_n 2, 1) := by decide +kernel
theorem d_Y_announce_3 : decode tb_Y_announce 3 = .ok (.invokevirtual 182, 3) := by decide +kernel
theorem d_Y_announce_6 : decode tb_Y_announce 6 = .ok (.istore 5, 2) := by decide +kernel
theorem d_Y_announce_8 : decode tb_Y_announce 8 = .ok (.aload_n 0, 1) := by decide +kernel
theorem d_Y_announce_9 : decode tb_Y_announce 9 = .ok (.getfield 92, 3) := by decide +kernel
theorem d_Y_announce_12 : decode tb_Y_announce 12 = .ok (.iload 5, 2) := by decide +kernel
theorem d_Y_announce_14 : decode tb_Y_announce 14 = .ok (.iload_n 3, 1) := by decide +kernel
theorem d_Y_announce_15 : decode tb_Y_announce 15 = .ok (.iastore, 1) := by decide +kernel
theorem d_Y_announce_16 : decode tb_Y_announce 16 = .ok (.aload_n 0, 1) := by decide +kernel
theorem d_Y_announce_17 : decode tb_Y_announce 17 = .ok (.getfield 98, 3) := by decide +kernel
theorem d_Y_announce_20 : decode tb_Y_announce 20 = .ok (.iload 5, 2) := by decide +kernel
theorem d_Y_announce_22 : decode tb_Y_announce 22 = .ok (.iload 4, 2) := by decide +kernel
theorem d_Y_announce_24 : decode tb_Y_announce 24 = .ok (.bastore, 1) := by decide +kernel
theorem d_Y_announce_25 : decode tb_Y_announce 25 = .ok (.iconst 0, 1) := by decide +kernel
theorem d_Y_announce_26 : decode tb_Y_announce 26 = .ok (.istore 6, 2) := by decide +kernel
theorem d_Y_announce_28 : decode tb_Y_announce 28 = .ok (.iload 6, 2) := by decide +kernel
theorem d_Y_announce_30 : decode tb_Y_announce 30 = .ok (.bipush 7, 2) := by decide +kernel
theorem d_Y_announce_32 : decode tb_Y_announce 32 = .ok (.if_icmp .ge 34, 3) := by decide +kernel
theorem d_Y_announce_35 : decode tb_Y_announce 35 = .ok (.aload_n 0, 1) := by decide +kernel
theorem d_Y_announce_36 : decode tb_Y_announce 36 = .ok (.getfield 95, 3) := by decide +kernel
theorem d_Y_announce_39 : decode tb_Y_announce 39 = .ok (.bipush 7, 2) := by decide +kernel
theorem d_Y_announce_41 : decode tb_Y_announce 41 = .ok (.iload 5, 2) := by decide +kernel
theorem d_Y_announce_43 : decode tb_Y_announce 43 = .ok (.imul, 1) := by decide +kernel
theorem d_Y_announce_44 : decode tb_Y_announce 44 = .ok (.iload 6, 2) := by decide +kernel
theorem d_Y_announce_46 : decode tb_Y_announce 46 = .ok (.iadd, 1) := by decide +kernel
theorem d_Y_announce_47 : decode tb_Y_announce 47 = .ok (.aload_n 0, 1) := by decide +kernel
theorem d_Y_announce_48 : decode tb_Y_announce 48 = .ok (.getfield 23, 3) := by decide +kernel
theorem d_Y_announce_51 : decode tb_Y_announce 51 = .ok (.bipush 7, 2) := by decide +kernel
theorem d_Y_announce_53 : decode tb_Y_announce 53 = .ok (.iload_n 1, 1) := by decide +kernel
theorem d_Y_announce_54 : decode tb_Y_announce 54 = .ok (.imul, 1) := by decide +kernel
theorem d_Y_announce_55 : decode tb_Y_announce 55 = .ok (.iload 6, 2) := by decide +kernel
theorem d_Y_announce_57 : decode tb_Y_announce 57 = .ok (.iadd, 1) := by decide +kernel
theorem d_Y_announce_58 : decode tb_Y_announce 58 = .ok (.iaload, 1) := by decide +kernel
theorem d_Y_announce_59 : decode tb_Y_announce 59 = .ok (.iastore, 1) := by decide +kernel
theorem d_Y_announce_60 : decode tb_Y_announce 60 = .ok (.iinc 6 1, 3) := by decide +kernel
theorem d_Y_announce_63 : decode tb_Y_announce 63 = .ok (.goto (-35), 3) := by decide +kernel
theorem d_Y_announce_66 : decode tb_Y_announce 66 = .ok (.aload_n 0, 1) := by decide +kernel
theorem d_Y_announce_67 : decode tb_Y_announce 67 = .ok (.iload_n 1, 1) := by decide +kernel
theorem d_Y_announce_68 : decode tb_Y_announce 68 = .ok (.iload 5, 2) := by decide +kernel
theorem d_Y_announce_70 : decode tb_Y_announce 70 = .ok (.invokevirtual 186, 3) := by decide +kernel
theorem d_Y_announce_73 : decode tb_Y_announce 73 = .ok (.return_, 1) := by decide +kernel
theorem d_Y_allGoals_0 : decode tb_Y_allGoals 0 = .ok (.iconst 1, 1) := by decide +kernel
theorem d_Y_allGoals_1 : decode tb_Y_allGoals 1 = .ok (.iload_n 1, 1) := by decide +kernel
theorem d_Y_allGoals_2 : decode tb_Y_allGoals 2 = .ok (.ishl, 1) := by decide +kernel
theorem d_Y_allGoals_3 : decode tb_Y_allGoals 3 = .ok (.istore_n 2, 1) := by decide +kernel
theorem d_Y_allGoals_4 : decode tb_Y_allGoals 4 = .ok (.iconst 0, 1) := by decide +kernel
theorem d_Y_allGoals_5 : decode tb_Y_allGoals 5 = .ok (.istore_n 3, 1) := by decide +kernel
theorem d_Y_allGoals_6 : decode tb_Y_allGoals 6 = .ok (.iload_n 3, 1) := by decide +kernel
theorem d_Y_allGoals_7 : decode tb_Y_allGoals 7 = .ok (.bipush 7, 2) := by decide +kernel
theorem d_Y_allGoals_9 : decode tb_Y_allGoals 9 = .ok (.if_icmp .ge 33, 3) := by decide +kernel
theorem d_Y_allGoals_12 : decode tb_Y_allGoals 12 = .ok (.aload_n 0, 1) := by decide +kernel
theorem d_Y_allGoals_13 : decode tb_Y_allGoals 13 = .ok (.getfield 20, 3) := by decide +kernel
theorem d_Y_allGoals_16 : decode tb_Y_allGoals 16 = .ok (.bipush 7, 2) := by decide +kernel
theorem d_Y_allGoals_18 : decode tb_Y_allGoals 18 = .ok (.iload_n 1, 1) := by decide +kernel
theorem d_Y_allGoals_19 : decode tb_Y_allGoals 19 = .ok (.imul, 1) := by decide +kernel
theorem d_Y_allGoals_20 : decode tb_Y_allGoals 20 = .ok (.iload_n 3, 1) := by decide +kernel
theorem d_Y_allGoals_21 : decode tb_Y_allGoals 21 = .ok (.iadd, 1) := by decide +kernel
theorem d_Y_allGoals_22 : decode tb_Y_allGoals 22 = .ok (.iaload, 1) := by decide +kernel
theorem d_Y_allGoals_23 : decode tb_Y_allGoals 23 = .ok (.ifCond .lt 11, 3) := by decide +kernel
theorem d_Y_allGoals_26 : decode tb_Y_allGoals 26 = .ok (.iload_n 2, 1) := by decide +kernel
theorem d_Y_allGoals_27 : decode tb_Y_allGoals 27 = .ok (.iconst 1, 1) := by decide +kernel
theorem d_Y_allGoals_28 : decode tb_Y_allGoals 28 = .ok (.iload_n 3, 1) := by decide +kernel
theorem d_Y_allGoals_29 : decode tb_Y_allGoals 29 = .ok (.ishl, 1) := by decide +kernel
theorem d_Y_allGoals_30 : decode tb_Y_allGoals 30 = .ok (.ior, 1) := by decide +kernel
theorem d_Y_allGoals_31 : decode tb_Y_allGoals 31 = .ok (.goto 4, 3) := by decide +kernel
theorem d_Y_allGoals_34 : decode tb_Y_allGoals 34 = .ok (.iload_n 2, 1) := by decide +kernel
theorem d_Y_allGoals_35 : decode tb_Y_allGoals 35 = .ok (.istore_n 2, 1) := by decide +kernel
theorem d_Y_allGoals_36 : decode tb_Y_allGoals 36 = .ok (.iinc 3 1, 3) := by decide +kernel
theorem d_Y_allGoals_39 : decode tb_Y_allGoals 39 = .ok (.goto (-33), 3) := by decide +kernel
theorem d_Y_allGoals_42 : decode tb_Y_allGoals 42 = .ok (.iload_n 2, 1) := by decide +kernel
theorem d_Y_allGoals_43 : decode tb_Y_allGoals 43 = .ok (.ireturn, 1) := by decide +kernel
theorem d_Y_choose_0 : decode tb_Y_choose 0 = .ok (.iconst (-1), 1) := by decide +kernel
theorem d_Y_choose_1 : decode tb_Y_choose 1 = .ok (.istore_n 2, 1) := by decide +kernel
theorem d_Y_choose_2 : decode tb_Y_choose 2 = .ok (.iconst 0, 1) := by decide +kernel
theorem d_Y_choose_3 : decode tb_Y_choose 3 = .ok (.istore_n 3, 1) := by decide +kernel
theorem d_Y_choose_4 : decode tb_Y_choose 4 = .ok (.iconst 0, 1) := by decide +kernel
theorem d_Y_choose_5 : decode tb_Y_choose 5 = .ok (.istore 4, 2) := by decide +kernel
theorem d_Y_choose_7 : decode tb_Y_choose 7 = .ok (.iload 4, 2) := by decide +kernel
theorem d_Y_choose_9 : decode tb_Y_choose 9 = .ok (.bipush 7, 2) := by decide +kernel
theorem d_Y_choose_11 : decode tb_Y_choose 11 = .ok (.if_icmp .ge 119, 3) := by decide +kernel
theorem d_Y_choose_14 : decode tb_Y_choose 14 = .ok (.bipush 7, 2) := by decide +kernel
theorem d_Y_choose_16 : decode tb_Y_choose 16 = .ok (.iload_n 1, 1) := by decide +kernel
theorem d_Y_choose_17 : decode tb_Y_choose 17 = .ok (.imul, 1) := by decide +kernel
theorem d_Y_choose_18 : decode tb_Y_choose 18 = .ok (.iload 4, 2) := by decide +kernel
theorem d_Y_choose_20 : decode tb_Y_choose 20 = .ok (.iadd, 1) := by decide +kernel
theorem d_Y_choose_21 : decode tb_Y_choose 21 = .ok (.istore 5, 2) := by decide +kernel
theorem d_Y_choose_23 : decode tb_Y_choose 23 = .ok (.iload 4, 2) := by decide +kernel
theorem d_Y_choose_25 : decode tb_Y_choose 25 = .ok (.iload_n 1, 1) := by decide +kernel
theorem d_Y_choose_26 : decode tb_Y_choose 26 = .ok (.if_icmp .eq 40, 3) := by decide +kernel
theorem d_Y_choose_29 : decode tb_Y_choose 29 = .ok (.aload_n 0, 1) := by decide +kernel
theorem d_Y_choose_30 : decode tb_Y_choose 30 = .ok (.getfield 7, 3) := by decide +kernel
theorem d_Y_choose_33 : decode tb_Y_choose 33 = .ok (.iload 5, 2) := by decide +kernel
theorem d_Y_choose_35 : decode tb_Y_choose 35 = .ok (.iaload, 1) := by decide +kernel
theorem d_Y_choose_36 : decode tb_Y_choose 36 = .ok (.ifCond .le 30, 3) := by decide +kernel
theorem d_Y_choose_39 : decode tb_Y_choose 39 = .ok (.aload_n 0, 1) := by decide +kernel
theorem d_Y_choose_40 : decode tb_Y_choose 40 = .ok (.getfield 16, 3) := by decide +kernel
theorem d_Y_choose_43 : decode tb_Y_choose 43 = .ok (.iload 5, 2) := by decide +kernel
theorem d_Y_choose_45 : decode tb_Y_choose 45 = .ok (.baload, 1) := by decide +kernel
theorem d_Y_choose_46 : decode tb_Y_choose 46 = .ok (.ifCond .eq 20, 3) := by decide +kernel
theorem d_Y_choose_49 : decode tb_Y_choose 49 = .ok (.aload_n 0, 1) := by decide +kernel
theorem d_Y_choose_50 : decode tb_Y_choose 50 = .ok (.getfield 13, 3) := by decide +kernel
theorem d_Y_choose_53 : decode tb_Y_choose 53 = .ok (.iload 5, 2) := by decide +kernel
theorem d_Y_choose_55 : decode tb_Y_choose 55 = .ok (.iaload, 1) := by decide +kernel
theorem d_Y_choose_56 : decode tb_Y_choose 56 = .ok (.sipush 255, 3) := by decide +kernel
theorem d_Y_choose_59 : decode tb_Y_choose 59 = .ok (.if_icmp .eq 7, 3) := by decide +kernel
theorem d_Y_choose_62 : decode tb_Y_choose 62 = .ok (.iconst 1, 1) := by decide +kernel
theorem d_Y_choose_63 : decode tb_Y_choose 63 = .ok (.goto 4, 3) := by decide +kernel
theorem d_Y_choose_66 : decode tb_Y_choose 66 = .ok (.iconst 0, 1) := by decide +kernel
theorem d_Y_choose_67 : decode tb_Y_choose 67 = .ok (.istore 6, 2) := by decide +kernel
theorem d_Y_choose_69 : decode tb_Y_choose 69 = .ok (.aload_n 0, 1) := by decide +kernel
theorem d_Y_choose_70 : decode tb_Y_choose 70 = .ok (.getfield 13, 3) := by decide +kernel
theorem d_Y_choose_73 : decode tb_Y_choose 73 = .ok (.iload 5, 2) := by decide +kernel
theorem d_Y_choose_75 : decode tb_Y_choose 75 = .ok (.iaload, 1) := by decide +kernel
theorem d_Y_choose_76 : decode tb_Y_choose 76 = .ok (.aload_n 0, 1) := by decide +kernel
theorem d_Y_choose_77 : decode tb_Y_choose 77 = .ok (.getfield 7, 3) := by decide +kernel
theorem d_Y_choose_80 : decode tb_Y_choose 80 = .ok (.iload 5, 2) := by decide +kernel
theorem d_Y_choose_82 : decode tb_Y_choose 82 = .ok (.iaload, 1) := by decide +kernel
theorem d_Y_choose_83 : decode tb_Y_choose 83 = .ok (.iadd, 1) := by decide +kernel
theorem d_Y_choose_84 : decode tb_Y_choose 84 = .ok (.istore 7, 2) := by decide +kernel
theorem d_Y_choose_86 : decode tb_Y_choose 86 = .ok (.iload 6, 2) := by decide +kernel
theorem d_Y_choose_88 : decode tb_Y_choose 88 = .ok (.ifCond .eq 36, 3) := by decide +kernel
theorem d_Y_choose_91 : decode tb_Y_choose 91 = .ok (.iload_n 2, 1) := by decide +kernel
theorem d_Y_choose_92 : decode tb_Y_choose 92 = .ok (.ifCond .lt 26, 3) := by decide +kernel
theorem d_Y_choose_95 : decode tb_Y_choose 95 = .ok (.iload 7, 2) := by decide +kernel
theorem d_Y_choose_97 : decode tb_Y_choose 97 = .ok (.iload_n 3, 1) := by decide +kernel
theorem d_Y_choose_98 : decode tb_Y_choose 98 = .ok (.if_icmp .lt 20, 3) := by decide +kernel
theorem d_Y_choose_101 : decode tb_Y_choose 101 = .ok (.iload 7, 2) := by decide +kernel
theorem d_Y_choose_103 : decode tb_Y_choose 103 = .ok (.iload_n 3, 1) := by decide +kernel
theorem d_Y_choose_104 : decode tb_Y_choose 104 = .ok (.if_icmp .ne 20, 3) := by decide +kernel
theorem d_Y_choose_107 : decode tb_Y_choose 107 = .ok (.iload 4, 2) := by decide +kernel
theorem d_Y_choose_109 : decode tb_Y_choose 109 = .ok (.aload_n 0, 1) := by decide +kernel
theorem d_Y_choose_110 : decode tb_Y_choose 110 = .ok (.getfield 38, 3) := by decide +kernel
theorem d_Y_choose_113 : decode tb_Y_choose 113 = .ok (.iload_n 1, 1) := by decide +kernel
theorem d_Y_choose_114 : decode tb_Y_choose 114 = .ok (.iaload, 1) := by decide +kernel
theorem d_Y_choose_115 : decode tb_Y_choose 115 = .ok (.if_icmp .ne 9, 3) := by decide +kernel
theorem d_Y_choose_118 : decode tb_Y_choose 118 = .ok (.iload 4, 2) := by decide +kernel
theorem d_Y_choose_120 : decode tb_Y_choose 120 = .ok (.istore_n 2, 1) := by decide +kernel
theorem d_Y_choose_121 : decode tb_Y_choose 121 = .ok (.iload 7, 2) := by decide +kernel
theorem d_Y_choose_123 : decode tb_Y_choose 123 = .ok (.istore_n 3, 1) := by decide +kernel
theorem d_Y_choose_124 : decode tb_Y_choose 124 = .ok (.iinc 4 1, 3) := by decide +kernel
theorem d_Y_choose_127 : decode tb_Y_choose 127 = .ok (.goto (-120), 3) := by decide +kernel
theorem d_Y_choose_130 : decode tb_Y_choose 130 = .ok (.aload_n 0, 1) := by decide +kernel
theorem d_Y_choose_131 : decode tb_Y_choose 131 = .ok (.getfield 35, 3) := by decide +kernel
theorem d_Y_choose_134 : decode tb_Y_choose 134 = .ok (.iload_n 1, 1) := by decide +kernel
theorem d_Y_choose_135 : decode tb_Y_choose 135 = .ok (.iaload, 1) := by decide +kernel
theorem d_Y_choose_136 : decode tb_Y_choose 136 = .ok (.istore 4, 2) := by decide +kernel
theorem d_Y_choose_138 : decode tb_Y_choose 138 = .ok (.aload_n 0, 1) := by decide +kernel
theorem d_Y_choose_139 : decode tb_Y_choose 139 = .ok (.getfield 38, 3) := by decide +kernel
theorem d_Y_choose_142 : decode tb_Y_choose 142 = .ok (.iload_n 1, 1) := by decide +kernel
theorem d_Y_choose_143 : decode tb_Y_choose 143 = .ok (.iaload, 1) := by decide +kernel
theorem d_Y_choose_144 : decode tb_Y_choose 144 = .ok (.istore 5, 2) := by decide +kernel
theorem d_Y_choose_146 : decode tb_Y_choose 146 = .ok (.iload_n 2, 1) := by decide +kernel
theorem d_Y_choose_147 : decode tb_Y_choose 147 = .ok (.ifCond .lt 25, 3) := by decide +kernel
theorem d_Y_choose_150 : decode tb_Y_choose 150 = .ok (.iload_n 3, 1) := by decide +kernel
theorem d_Y_choose_151 : decode tb_Y_choose 151 = .ok (.sipush 254, 3) := by decide +kernel
theorem d_Y_choose_154 : decode tb_Y_choose 154 = .ok (.if_icmp .gt 18, 3) := by decide +kernel
theorem d_Y_choose_157 : decode tb_Y_choose 157 = .ok (.iload_n 3, 1) := by decide +kernel
theorem d_Y_choose_158 : decode tb_Y_choose 158 = .ok (.aload_n 0, 1) := by decide +kernel
theorem d_Y_choose_159 : decode tb_Y_choose 159 = .ok (.getfield 41, 3) := by decide +kernel
theorem d_Y_choose_162 : decode tb_Y_choose 162 = .ok (.iload_n 1, 1) := by decide +kernel
theorem d_Y_choose_163 : decode tb_Y_choose 163 = .ok (.iaload, 1) := by decide +kernel
theorem d_Y_choose_164 : decode tb_Y_choose 164 = .ok (.aload_n 0, 1) := by decide +kernel
theorem d_Y_choose_165 : decode tb_Y_choose 165 = .ok (.getfield 144, 3) := by decide +kernel
theorem d_Y_choose_168 : decode tb_Y_choose 168 = .ok (.iadd, 1) := by decide +kernel
theorem d_Y_choose_169 : decode tb_Y_choose 169 = .ok (.if_icmp .le 7, 3) := by decide +kernel
theorem d_Y_choose_172 : decode tb_Y_choose 172 = .ok (.iconst 1, 1) := by decide +kernel
theorem d_Y_choose_173 : decode tb_Y_choose 173 = .ok (.goto 4, 3) := by decide +kernel
theorem d_Y_choose_176 : decode tb_Y_choose 176 = .ok (.iconst 0, 1) := by decide +kernel
theorem d_Y_choose_177 : decode tb_Y_choose 177 = .ok (.istore 6, 2) := by decide +kernel
theorem d_Y_choose_179 : decode tb_Y_choose 179 = .ok (.aload_n 0, 1) := by decide +kernel
theorem d_Y_choose_180 : decode tb_Y_choose 180 = .ok (.getfield 35, 3) := by decide +kernel
theorem d_Y_choose_183 : decode tb_Y_choose 183 = .ok (.iload_n 1, 1) := by decide +kernel
theorem d_Y_choose_184 : decode tb_Y_choose 184 = .ok (.iload 6, 2) := by decide +kernel
theorem d_Y_choose_186 : decode tb_Y_choose 186 = .ok (.ifCond .eq 9, 3) := by decide +kernel
theorem d_Y_choose_189 : decode tb_Y_choose 189 = .ok (.sipush 255, 3) := by decide +kernel
theorem d_Y_choose_192 : decode tb_Y_choose 192 = .ok (.goto 4, 3) := by decide +kernel
theorem d_Y_choose_195 : decode tb_Y_choose 195 = .ok (.iload_n 3, 1) := by decide +kernel
theorem d_Y_choose_196 : decode tb_Y_choose 196 = .ok (.iastore, 1) := by decide +kernel
theorem d_Y_choose_197 : decode tb_Y_choose 197 = .ok (.aload_n 0, 1) := by decide +kernel
theorem d_Y_choose_198 : decode tb_Y_choose 198 = .ok (.getfield 38, 3) := by decide +kernel
theorem d_Y_choose_201 : decode tb_Y_choose 201 = .ok (.iload_n 1, 1) := by decide +kernel
theorem d_Y_choose_202 : decode tb_Y_choose 202 = .ok (.iload 6, 2) := by decide +kernel
theorem d_Y_choose_204 : decode tb_Y_choose 204 = .ok (.ifCond .eq 7, 3) := by decide +kernel
theorem d_Y_choose_207 : decode tb_Y_choose 207 = .ok (.iconst (-1), 1) := by decide +kernel
theorem d_Y_choose_208 : decode tb_Y_choose 208 = .ok (.goto 4, 3) := by decide +kernel
theorem d_Y_choose_211 : decode tb_Y_choose 211 = .ok (.iload_n 2, 1) := by decide +kernel
theorem d_Y_choose_212 : decode tb_Y_choose 212 = .ok (.iastore, 1) := by decide +kernel
theorem d_Y_choose_213 : decode tb_Y_choose 213 = .ok (.aload_n 0, 1) := by decide +kernel
theorem d_Y_choose_214 : decode tb_Y_choose 214 = .ok (.getfield 41, 3) := by decide +kernel
theorem d_Y_choose_217 : decode tb_Y_choose 217 = .ok (.iload_n 1, 1) := by decide +kernel
theorem d_Y_choose_218 : decode tb_Y_choose 218 = .ok (.iload 6, 2) := by decide +kernel
theorem d_Y_choose_220 : decode tb_Y_choose 220 = .ok (.ifCond .ne 17, 3) := by decide +kernel
theorem d_Y_choose_223 : decode tb_Y_choose 223 = .ok (.iload_n 3, 1) := by decide +kernel
theorem d_Y_choose_224 : decode tb_Y_choose 224 = .ok (.aload_n 0, 1) := by decide +kernel
theorem d_Y_choose_225 : decode tb_Y_choose 225 = .ok (.getfield 41, 3) := by decide +kernel
theorem d_Y_choose_228 : decode tb_Y_choose 228 = .ok (.iload_n 1, 1) := by decide +kernel
theorem d_Y_choose_229 : decode tb_Y_choose 229 = .ok (.iaload, 1) := by decide +kernel
theorem d_Y_choose_230 : decode tb_Y_choose 230 = .ok (.if_icmp .ge 7, 3) := by decide +kernel
theorem d_Y_choose_233 : decode tb_Y_choose 233 = .ok (.iload_n 3, 1) := by decide +kernel
theorem d_Y_choose_234 : decode tb_Y_choose 234 = .ok (.goto 9, 3) := by decide +kernel
theorem d_Y_choose_237 : decode tb_Y_choose 237 = .ok (.aload_n 0, 1) := by decide +kernel
theorem d_Y_choose_238 : decode tb_Y_choose 238 = .ok (.getfield 41, 3) := by decide +kernel
theorem d_Y_choose_241 : decode tb_Y_choose 241 = .ok (.iload_n 1, 1) := by decide +kernel
theorem d_Y_choose_242 : decode tb_Y_choose 242 = .ok (.iaload, 1) := by decide +kernel
theorem d_Y_choose_243 : decode tb_Y_choose 243 = .ok (.iastore, 1) := by decide +kernel
theorem d_Y_choose_244 : decode tb_Y_choose 244 = .ok (.aload_n 0, 1) := by decide +kernel
theorem d_Y_choose_245 : decode tb_Y_choose 245 = .ok (.getfield 44, 3) := by decide +kernel
theorem d_Y_choose_248 : decode tb_Y_choose 248 = .ok (.iload_n 1, 1) := by decide +kernel
theorem d_Y_choose_249 : decode tb_Y_choose 249 = .ok (.aload_n 0, 1) := by decide +kernel
theorem d_Y_choose_250 : decode tb_Y_choose 250 = .ok (.getfield 44, 3) := by decide +kernel
theorem d_Y_choose_253 : decode tb_Y_choose 253 = .ok (.iload_n 1, 1) := by decide +kernel
theorem d_Y_choose_254 : decode tb_Y_choose 254 = .ok (.baload, 1) := by decide +kernel
theorem d_Y_choose_255 : decode tb_Y_choose 255 = .ok (.ifCond .ne 8, 3) := by decide +kernel
theorem d_Y_choose_258 : decode tb_Y_choose 258 = .ok (.iload 6, 2) := by decide +kernel
theorem d_Y_choose_260 : decode tb_Y_choose 260 = .ok (.ifCond .ne 7, 3) := by decide +kernel
theorem d_Y_choose_263 : decode tb_Y_choose 263 = .ok (.iconst 1, 1) := by decide +kernel
theorem d_Y_choose_264 : decode tb_Y_choose 264 = .ok (.goto 4, 3) := by decide +kernel
theorem d_Y_choose_267 : decode tb_Y_choose 267 = .ok (.iconst 0, 1) := by decide +kernel
theorem d_Y_choose_268 : decode tb_Y_choose 268 = .ok (.bastore, 1) := by decide +kernel
theorem d_Y_choose_269 : decode tb_Y_choose 269 = .ok (.aload_n 0, 1) := by decide +kernel
theorem d_Y_choose_270 : decode tb_Y_choose 270 = .ok (.getfield 35, 3) := by decide +kernel
theorem d_Y_choose_273 : decode tb_Y_choose 273 = .ok (.iload_n 1, 1) := by decide +kernel
theorem d_Y_choose_274 : decode tb_Y_choose 274 = .ok (.iaload, 1) := by decide +kernel
theorem d_Y_choose_275 : decode tb_Y_choose 275 = .ok (.iload 4, 2) := by decide +kernel
theorem d_Y_choose_277 : decode tb_Y_choose 277 = .ok (.if_icmp .ne 14, 3) := by decide +kernel
theorem d_Y_choose_280 : decode tb_Y_choose 280 = .ok (.aload_n 0, 1) := by decide +kernel
theorem d_Y_choose_281 : decode tb_Y_choose 281 = .ok (.getfield 38, 3) := by decide +kernel
theorem d_Y_choose_284 : decode tb_Y_choose 284 = .ok (.iload_n 1, 1) := by decide +kernel
theorem d_Y_choose_285 : decode tb_Y_choose 285 = .ok (.iaload, 1) := by decide +kernel
theorem d_Y_choose_286 : decode tb_Y_choose 286 = .ok (.iload 5, 2) := by decide +kernel
theorem d_Y_choose_288 : decode tb_Y_choose 288 = .ok (.if_icmp .eq 7, 3) := by decide +kernel
theorem d_Y_choose_291 : decode tb_Y_choose 291 = .ok (.iconst 1, 1) := by decide +kernel
theorem d_Y_choose_292 : decode tb_Y_choose 292 = .ok (.goto 4, 3) := by decide +kernel
theorem d_Y_choose_295 : decode tb_Y_choose 295 = .ok (.iconst 0, 1) := by decide +kernel
theorem d_Y_choose_296 : decode tb_Y_choose 296 = .ok (.istore 7, 2) := by decide +kernel
theorem d_Y_choose_298 : decode tb_Y_choose 298 = .ok (.iload 7, 2) := by decide +kernel
theorem d_Y_choose_300 : decode tb_Y_choose 300 = .ok (.ifCond .eq 8, 3) := by decide +kernel
theorem d_Y_choose_303 : decode tb_Y_choose 303 = .ok (.aload_n 0, 1) := by decide +kernel
theorem d_Y_choose_304 : decode tb_Y_choose 304 = .ok (.iload_n 1, 1) := by decide +kernel
theorem d_Y_choose_305 : decode tb_Y_choose 305 = .ok (.invokevirtual 150, 3) := by decide +kernel
theorem d_Y_choose_308 : decode tb_Y_choose 308 = .ok (.aload_n 0, 1) := by decide +kernel
theorem d_Y_choose_309 : decode tb_Y_choose 309 = .ok (.getfield 38, 3) := by decide +kernel
theorem d_Y_choose_312 : decode tb_Y_choose 312 = .ok (.iload_n 1, 1) := by decide +kernel
theorem d_Y_choose_313 : decode tb_Y_choose 313 = .ok (.iaload, 1) := by decide +kernel
theorem d_Y_choose_314 : decode tb_Y_choose 314 = .ok (.iload 5, 2) := by decide +kernel
theorem d_Y_choose_316 : decode tb_Y_choose 316 = .ok (.if_icmp .eq 61, 3) := by decide +kernel
theorem d_Y_choose_319 : decode tb_Y_choose 319 = .ok (.aload_n 0, 1) := by decide +kernel
theorem d_Y_choose_320 : decode tb_Y_choose 320 = .ok (.iload_n 1, 1) := by decide +kernel
theorem d_Y_choose_321 : decode tb_Y_choose 321 = .ok (.invokevirtual 190, 3) := by decide +kernel
theorem d_Y_choose_324 : decode tb_Y_choose 324 = .ok (.istore 8, 2) := by decide +kernel
theorem d_Y_choose_326 : decode tb_Y_choose 326 = .ok (.iload 5, 2) := by decide +kernel
theorem d_Y_choose_328 : decode tb_Y_choose 328 = .ok (.ifCond .lt 13, 3) := by decide +kernel
theorem d_Y_choose_331 : decode tb_Y_choose 331 = .ok (.aload_n 0, 1) := by decide +kernel
theorem d_Y_choose_332 : decode tb_Y_choose 332 = .ok (.iload_n 1, 1) := by decide +kernel
theorem d_Y_choose_333 : decode tb_Y_choose 333 = .ok (.iload 5, 2) := by decide +kernel
theorem d_Y_choose_335 : decode tb_Y_choose 335 = .ok (.iload 8, 2) := by decide +kernel
theorem d_Y_choose_337 : decode tb_Y_choose 337 = .ok (.iconst 1, 1) := by decide +kernel
theorem d_Y_choose_338 : decode tb_Y_choose 338 = .ok (.invokevirtual 193, 3) := by decide +kernel
theorem d_Y_choose_341 : decode tb_Y_choose 341 = .ok (.aload_n 0, 1) := by decide +kernel
theorem d_Y_choose_342 : decode tb_Y_choose 342 = .ok (.getfield 38, 3) := by decide +kernel
theorem d_Y_choose_345 : decode tb_Y_choose 345 = .ok (.iload_n 1, 1) := by decide +kernel
theorem d_Y_choose_346 : decode tb_Y_choose 346 = .ok (.iaload, 1) := by decide +kernel
theorem d_Y_choose_347 : decode tb_Y_choose 347 = .ok (.ifCond .lt 30, 3) := by decide +kernel
theorem d_Y_choose_350 : decode tb_Y_choose 350 = .ok (.aload_n 0, 1) := by decide +kernel
theorem d_Y_choose_351 : decode tb_Y_choose 351 = .ok (.getfield 23, 3) := by decide +kernel
theorem d_Y_choose_354 : decode tb_Y_choose 354 = .ok (.bipush 8, 2) := by decide +kernel
theorem d_Y_choose_356 : decode tb_Y_choose 356 = .ok (.iload_n 1, 1) := by decide +kernel
theorem d_Y_choose_357 : decode tb_Y_choose 357 = .ok (.imul, 1) := by decide +kernel
theorem d_Y_choose_358 : decode tb_Y_choose 358 = .ok (.dup2, 1) := by decide +kernel
theorem d_Y_choose_359 : decode tb_Y_choose 359 = .ok (.iaload, 1) := by decide +kernel
theorem d_Y_choose_360 : decode tb_Y_choose 360 = .ok (.iconst 1, 1) := by decide +kernel
theorem d_Y_choose_361 : decode tb_Y_choose 361 = .ok (.iadd, 1) := by decide +kernel
theorem d_Y_choose_362 : decode tb_Y_choose 362 = .ok (.iastore, 1) := by decide +kernel
theorem d_Y_choose_363 : decode tb_Y_choose 363 = .ok (.aload_n 0, 1) := by decide +kernel
theorem d_Y_choose_364 : decode tb_Y_choose 364 = .ok (.iload_n 1, 1) := by decide +kernel
theorem d_Y_choose_365 : decode tb_Y_choose 365 = .ok (.aload_n 0, 1) := by decide +kernel
theorem d_Y_choose_366 : decode tb_Y_choose 366 = .ok (.getfield 38, 3) := by decide +kernel
theorem d_Y_choose_369 : decode tb_Y_choose 369 = .ok (.iload_n 1, 1) := by decide +kernel
theorem d_Y_choose_370 : decode tb_Y_choose 370 = .ok (.iaload, 1) := by decide +kernel
theorem d_Y_choose_371 : decode tb_Y_choose 371 = .ok (.iload 8, 2) := by decide +kernel
theorem d_Y_choose_373 : decode tb_Y_choose 373 = .ok (.iconst 0, 1) := by decide +kernel
theorem d_Y_choose_374 : decode tb_Y_choose 374 = .ok (.invokevirtual 193, 3) := by decide +kernel
theorem d_Y_choose_377 : decode tb_Y_choose 377 = .ok (.iload 7, 2) := by decide +kernel
theorem d_Y_choose_379 : decode tb_Y_choose 379 = .ok (.ireturn, 1) := by decide +kernel
theorem d_Y_advert_0 : decode tb_Y_advert 0 = .ok (.aload_n 0, 1) := by decide +kernel
theorem d_Y_advert_1 : decode tb_Y_advert 1 = .ok (.getfield 32, 3) := by decide +kernel
theorem d_Y_advert_4 : decode tb_Y_advert 4 = .ok (.iload_n 2, 1) := by decide +kernel
theorem d_Y_advert_5 : decode tb_Y_advert 5 = .ok (.iaload, 1) := by decide +kernel
theorem d_Y_advert_6 : decode tb_Y_advert 6 = .ok (.aload_n 0, 1) := by decide +kernel
theorem d_Y_advert_7 : decode tb_Y_advert 7 = .ok (.getfield 32, 3) := by decide +kernel
theorem d_Y_advert_10 : decode tb_Y_advert 10 = .ok (.iload_n 1, 1) := by decide +kernel
theorem d_Y_advert_11 : decode tb_Y_advert 11 = .ok (.iaload, 1) := by decide +kernel
theorem d_Y_advert_12 : decode tb_Y_advert 12 = .ok (.if_icmp .le 99, 3) := by decide +kernel
theorem d_Y_advert_15 : decode tb_Y_advert 15 = .ok (.iload_n 1, 1) := by decide +kernel
theorem d_Y_advert_16 : decode tb_Y_advert 16 = .ok (.ifCond .eq 95, 3) := by decide +kernel
theorem d_Y_advert_19 : decode tb_Y_advert 19 = .ok (.aload_n 0, 1) := by decide +kernel
theorem d_Y_advert_20 : decode tb_Y_advert 20 = .ok (.getfield 32, 3) := by decide +kernel
theorem d_Y_advert_23 : decode tb_Y_advert 23 = .ok (.iload_n 1, 1) := by decide +kernel
theorem d_Y_advert_24 : decode tb_Y_advert 24 = .ok (.aload_n 0, 1) := by decide +kernel
theorem d_Y_advert_25 : decode tb_Y_advert 25 = .ok (.getfield 32, 3) := by decide +kernel
theorem d_Y_advert_28 : decode tb_Y_advert 28 = .ok (.iload_n 2, 1) := by decide +kernel
theorem d_Y_advert_29 : decode tb_Y_advert 29 = .ok (.iaload, 1) := by decide +kernel
theorem d_Y_advert_30 : decode tb_Y_advert 30 = .ok (.iastore, 1) := by decide +kernel
theorem d_Y_advert_31 : decode tb_Y_advert 31 = .ok (.iconst 0, 1) := by decide +kernel
theorem d_Y_advert_32 : decode tb_Y_advert 32 = .ok (.istore_n 3, 1) := by decide +kernel
theorem d_Y_advert_33 : decode tb_Y_advert 33 = .ok (.iload_n 3, 1) := by decide +kernel
theorem d_Y_advert_34 : decode tb_Y_advert 34 = .ok (.bipush 7, 2) := by decide +kernel
theorem d_Y_advert_36 : decode tb_Y_advert 36 = .ok (.if_icmp .ge 21, 3) := by decide +kernel
theorem d_Y_advert_39 : decode tb_Y_advert 39 = .ok (.aload_n 0, 1) := by decide +kernel
theorem d_Y_advert_40 : decode tb_Y_advert 40 = .ok (.getfield 16, 3) := by decide +kernel
theorem d_Y_advert_43 : decode tb_Y_advert 43 = .ok (.bipush 7, 2) := by decide +kernel
theorem d_Y_advert_45 : decode tb_Y_advert 45 = .ok (.iload_n 1, 1) := by decide +kernel
theorem d_Y_advert_46 : decode tb_Y_advert 46 = .ok (.imul, 1) := by decide +kernel
theorem d_Y_advert_47 : decode tb_Y_advert 47 = .ok (.iload_n 3, 1) := by decide +kernel
theorem d_Y_advert_48 : decode tb_Y_advert 48 = .ok (.iadd, 1) := by decide +kernel
theorem d_Y_advert_49 : decode tb_Y_advert 49 = .ok (.iconst 0, 1) := by decide +kernel
theorem d_Y_advert_50 : decode tb_Y_advert 50 = .ok (.bastore, 1) := by decide +kernel
theorem d_Y_advert_51 : decode tb_Y_advert 51 = .ok (.iinc 3 1, 3) := by decide +kernel
theorem d_Y_advert_54 : decode tb_Y_advert 54 = .ok (.goto (-21), 3) := by decide +kernel
theorem d_Y_advert_57 : decode tb_Y_advert 57 = .ok (.aload_n 0, 1) := by decide +kernel
theorem d_Y_advert_58 : decode tb_Y_advert 58 = .ok (.getfield 41, 3) := by decide +kernel
theorem d_Y_advert_61 : decode tb_Y_advert 61 = .ok (.iload_n 1, 1) := by decide +kernel
theorem d_Y_advert_62 : decode tb_Y_advert 62 = .ok (.sipush 255, 3) := by decide +kernel
theorem d_Y_advert_65 : decode tb_Y_advert 65 = .ok (.iastore, 1) := by decide +kernel
theorem d_Y_advert_66 : decode tb_Y_advert 66 = .ok (.aload_n 0, 1) := by decide +kernel
theorem d_Y_advert_67 : decode tb_Y_advert 67 = .ok (.getfield 38, 3) := by decide +kernel
theorem d_Y_advert_70 : decode tb_Y_advert 70 = .ok (.iload_n 1, 1) := by decide +kernel
theorem d_Y_advert_71 : decode tb_Y_advert 71 = .ok (.iaload, 1) := by decide +kernel
theorem d_Y_advert_72 : decode tb_Y_advert 72 = .ok (.ifCond .ge 15, 3) := by decide +kernel
theorem d_Y_advert_75 : decode tb_Y_advert 75 = .ok (.aload_n 0, 1) := by decide +kernel
theorem d_Y_advert_76 : decode tb_Y_advert 76 = .ok (.getfield 35, 3) := by decide +kernel
theorem d_Y_advert_79 : decode tb_Y_advert 79 = .ok (.iload_n 1, 1) := by decide +kernel
theorem d_Y_advert_80 : decode tb_Y_advert 80 = .ok (.iaload, 1) := by decide +kernel
theorem d_Y_advert_81 : decode tb_Y_advert 81 = .ok (.sipush 255, 3) := by decide +kernel
theorem d_Y_advert_84 : decode tb_Y_advert 84 = .ok (.if_icmp .eq 48, 3) := by decide +kernel
theorem d_Y_advert_87 : decode tb_Y_advert 87 = .ok (.aload_n 0, 1) := by decide +kernel
theorem d_Y_advert_88 : decode tb_Y_advert 88 = .ok (.getfield 35, 3) := by decide +kernel
theorem d_Y_advert_91 : decode tb_Y_advert 91 = .ok (.iload_n 1, 1) := by decide +kernel
theorem d_Y_advert_92 : decode tb_Y_advert 92 = .ok (.sipush 255, 3) := by decide +kernel
theorem d_Y_advert_95 : decode tb_Y_advert 95 = .ok (.iastore, 1) := by decide +kernel
theorem d_Y_advert_96 : decode tb_Y_advert 96 = .ok (.aload_n 0, 1) := by decide +kernel
theorem d_Y_advert_97 : decode tb_Y_advert 97 = .ok (.getfield 38, 3) := by decide +kernel
theorem d_Y_advert_100 : decode tb_Y_advert 100 = .ok (.iload_n 1, 1) := by decide +kernel
theorem d_Y_advert_101 : decode tb_Y_advert 101 = .ok (.iconst (-1), 1) := by decide +kernel
theorem d_Y_advert_102 : decode tb_Y_advert 102 = .ok (.iastore, 1) := by decide +kernel
theorem d_Y_advert_103 : decode tb_Y_advert 103 = .ok (.aload_n 0, 1) := by decide +kernel
theorem d_Y_advert_104 : decode tb_Y_advert 104 = .ok (.iload_n 1, 1) := by decide +kernel
theorem d_Y_advert_105 : decode tb_Y_advert 105 = .ok (.invokevirtual 150, 3) := by decide +kernel
theorem d_Y_advert_108 : decode tb_Y_advert 108 = .ok (.goto 24, 3) := by decide +kernel
theorem d_Y_advert_111 : decode tb_Y_advert 111 = .ok (.aload_n 0, 1) := by decide +kernel
theorem d_Y_advert_112 : decode tb_Y_advert 112 = .ok (.getfield 32, 3) := by decide +kernel
theorem d_Y_advert_115 : decode tb_Y_advert 115 = .ok (.iload_n 2, 1) := by decide +kernel
theorem d_Y_advert_116 : decode tb_Y_advert 116 = .ok (.iaload, 1) := by decide +kernel
theorem d_Y_advert_117 : decode tb_Y_advert 117 = .ok (.aload_n 0, 1) := by decide +kernel
theorem d_Y_advert_118 : decode tb_Y_advert 118 = .ok (.getfield 32, 3) := by decide +kernel
theorem d_Y_advert_121 : decode tb_Y_advert 121 = .ok (.iload_n 1, 1) := by decide +kernel
theorem d_Y_advert_122 : decode tb_Y_advert 122 = .ok (.iaload, 1) := by decide +kernel
theorem d_Y_advert_123 : decode tb_Y_advert 123 = .ok (.if_icmp .ge 9, 3) := by decide +kernel
theorem d_Y_advert_126 : decode tb_Y_advert 126 = .ok (.aload_n 0, 1) := by decide +kernel
theorem d_Y_advert_127 : decode tb_Y_advert 127 = .ok (.iload_n 1, 1) := by decide +kernel
theorem d_Y_advert_128 : decode tb_Y_advert 128 = .ok (.invokevirtual 150, 3) := by decide +kernel
theorem d_Y_advert_131 : decode tb_Y_advert 131 = .ok (.return_, 1) := by decide +kernel
theorem d_Y_advert_132 : decode tb_Y_advert 132 = .ok (.aload_n 0, 1) := by decide +kernel
theorem d_Y_advert_133 : decode tb_Y_advert 133 = .ok (.getfield 13, 3) := by decide +kernel
theorem d_Y_advert_136 : decode tb_Y_advert 136 = .ok (.bipush 7, 2) := by decide +kernel
theorem d_Y_advert_138 : decode tb_Y_advert 138 = .ok (.iload_n 1, 1) := by decide +kernel
theorem d_Y_advert_139 : decode tb_Y_advert 139 = .ok (.imul, 1) := by decide +kernel
theorem d_Y_advert_140 : decode tb_Y_advert 140 = .ok (.iload_n 2, 1) := by decide +kernel
theorem d_Y_advert_141 : decode tb_Y_advert 141 = .ok (.iadd, 1) := by decide +kernel
theorem d_Y_advert_142 : decode tb_Y_advert 142 = .ok (.aload_n 0, 1) := by decide +kernel
theorem d_Y_advert_143 : decode tb_Y_advert 143 = .ok (.getfield 35, 3) := by decide +kernel
theorem d_Y_advert_146 : decode tb_Y_advert 146 = .ok (.iload_n 2, 1) := by decide +kernel
theorem d_Y_advert_147 : decode tb_Y_advert 147 = .ok (.iaload, 1) := by decide +kernel
theorem d_Y_advert_148 : decode tb_Y_advert 148 = .ok (.iastore, 1) := by decide +kernel
theorem d_Y_advert_149 : decode tb_Y_advert 149 = .ok (.aload_n 0, 1) := by decide +kernel
theorem d_Y_advert_150 : decode tb_Y_advert 150 = .ok (.getfield 16, 3) := by decide +kernel
theorem d_Y_advert_153 : decode tb_Y_advert 153 = .ok (.bipush 7, 2) := by decide +kernel
theorem d_Y_advert_155 : decode tb_Y_advert 155 = .ok (.iload_n 1, 1) := by decide +kernel
theorem d_Y_advert_156 : decode tb_Y_advert 156 = .ok (.imul, 1) := by decide +kernel
theorem d_Y_advert_157 : decode tb_Y_advert 157 = .ok (.iload_n 2, 1) := by decide +kernel
theorem d_Y_advert_158 : decode tb_Y_advert 158 = .ok (.iadd, 1) := by decide +kernel
theorem d_Y_advert_159 : decode tb_Y_advert 159 = .ok (.iconst 1, 1) := by decide +kernel
theorem d_Y_advert_160 : decode tb_Y_advert 160 = .ok (.bastore, 1) := by decide +kernel
theorem d_Y_advert_161 : decode tb_Y_advert 161 = .ok (.iload_n 1, 1) := by decide +kernel
theorem d_Y_advert_162 : decode tb_Y_advert 162 = .ok (.ifCond .eq 15, 3) := by decide +kernel
theorem d_Y_advert_165 : decode tb_Y_advert 165 = .ok (.aload_n 0, 1) := by decide +kernel
theorem d_Y_advert_166 : decode tb_Y_advert 166 = .ok (.iload_n 1, 1) := by decide +kernel
theorem d_Y_advert_167 : decode tb_Y_advert 167 = .ok (.invokevirtual 171, 3) := by decide +kernel
theorem d_Y_advert_170 : decode tb_Y_advert 170 = .ok (.ifCond .eq 7, 3) := by decide +kernel
theorem d_Y_advert_173 : decode tb_Y_advert 173 = .ok (.iconst 1, 1) := by decide +kernel
theorem d_Y_advert_174 : decode tb_Y_advert 174 = .ok (.goto 4, 3) := by decide +kernel
theorem d_Y_advert_177 : decode tb_Y_advert 177 = .ok (.iconst 0, 1) := by decide +kernel
theorem d_Y_advert_178 : decode tb_Y_advert 178 = .ok (.istore_n 3, 1) := by decide +kernel
theorem d_Y_advert_179 : decode tb_Y_advert 179 = .ok (.aload_n 0, 1) := by decide +kernel
theorem d_Y_advert_180 : decode tb_Y_advert 180 = .ok (.getfield 56, 3) := by decide +kernel
theorem d_Y_advert_183 : decode tb_Y_advert 183 = .ok (.iload_n 1, 1) := by decide +kernel
theorem d_Y_advert_184 : decode tb_Y_advert 184 = .ok (.dup2, 1) := by decide +kernel
theorem d_Y_advert_185 : decode tb_Y_advert 185 = .ok (.iaload, 1) := by decide +kernel
theorem d_Y_advert_186 : decode tb_Y_advert 186 = .ok (.iload_n 3, 1) := by decide +kernel
theorem d_Y_advert_187 : decode tb_Y_advert 187 = .ok (.ifCond .eq 7, 3) := by decide +kernel
theorem d_Y_advert_190 : decode tb_Y_advert 190 = .ok (.iconst 0, 1) := by decide +kernel
theorem d_Y_advert_191 : decode tb_Y_advert 191 = .ok (.goto 4, 3) := by decide +kernel
theorem d_Y_advert_194 : decode tb_Y_advert 194 = .ok (.iconst 1, 1) := by decide +kernel
theorem d_Y_advert_195 : decode tb_Y_advert 195 = .ok (.iadd, 1) := by decide +kernel
theorem d_Y_advert_196 : decode tb_Y_advert 196 = .ok (.iastore, 1) := by decide +kernel
theorem d_Y_advert_197 : decode tb_Y_advert 197 = .ok (.return_, 1) := by decide +kernel
theorem d_Y_announced_0 : decode tb_Y_announced 0 = .ok (.iconst 0, 1) := by decide +kernel
theorem d_Y_announced_1 : decode tb_Y_announced 1 = .ok (.istore 4, 2) := by decide +kernel
theorem d_Y_announced_3 : decode tb_Y_announced 3 = .ok (.iconst 0, 1) := by decide +kernel
theorem d_Y_announced_4 : decode tb_Y_announced 4 = .ok (.istore 5, 2) := by decide +kernel
theorem d_Y_announced_6 : decode tb_Y_announced 6 = .ok (.iload 5, 2) := by decide +kernel
theorem d_Y_announced_8 : decode tb_Y_announced 8 = .ok (.bipush 7, 2) := by decide +kernel
theorem d_Y_announced_10 : decode tb_Y_announced 10 = .ok (.if_icmp .ge 197, 3) := by decide +kernel
theorem d_Y_announced_13 : decode tb_Y_announced 13 = .ok (.bipush 7, 2) := by decide +kernel
theorem d_Y_announced_15 : decode tb_Y_announced 15 = .ok (.iload_n 1, 1) := by decide +kernel
theorem d_Y_announced_16 : decode tb_Y_announced 16 = .ok (.imul, 1) := by decide +kernel
theorem d_Y_announced_17 : decode tb_Y_announced 17 = .ok (.iload 5, 2) := by decide +kernel
theorem d_Y_announced_19 : decode tb_Y_announced 19 = .ok (.iadd, 1) := by decide +kernel
theorem d_Y_announced_20 : decode tb_Y_announced 20 = .ok (.istore 6, 2) := by decide +kernel
theorem d_Y_announced_22 : decode tb_Y_announced 22 = .ok (.iload 5, 2) := by decide +kernel
theorem d_Y_announced_24 : decode tb_Y_announced 24 = .ok (.iload_n 1, 1) := by decide +kernel
theorem d_Y_announced_25 : decode tb_Y_announced 25 = .ok (.if_icmp .eq 44, 3) := by decide +kernel
theorem d_Y_announced_28 : decode tb_Y_announced 28 = .ok (.aload_n 0, 1) := by decide +kernel
theorem d_Y_announced_29 : decode tb_Y_announced 29 = .ok (.getfield 92, 3) := by decide +kernel
theorem d_Y_announced_32 : decode tb_Y_announced 32 = .ok (.iload_n 3, 1) := by decide +kernel
theorem d_Y_announced_33 : decode tb_Y_announced 33 = .ok (.iaload, 1) := by decide +kernel
theorem d_Y_announced_34 : decode tb_Y_announced 34 = .ok (.iload 5, 2) := by decide +kernel
theorem d_Y_announced_36 : decode tb_Y_announced 36 = .ok (.ishr, 1) := by decide +kernel
theorem d_Y_announced_37 : decode tb_Y_announced 37 = .ok (.iconst 1, 1) := by decide +kernel
theorem d_Y_announced_38 : decode tb_Y_announced 38 = .ok (.iand, 1) := by decide +kernel
theorem d_Y_announced_39 : decode tb_Y_announced 39 = .ok (.iconst 1, 1) := by decide +kernel
theorem d_Y_announced_40 : decode tb_Y_announced 40 = .ok (.if_icmp .ne 29, 3) := by decide +kernel
theorem d_Y_announced_43 : decode tb_Y_announced 43 = .ok (.aload_n 0, 1) := by decide +kernel
theorem d_Y_announced_44 : decode tb_Y_announced 44 = .ok (.getfield 95, 3) := by decide +kernel
theorem d_Y_announced_47 : decode tb_Y_announced 47 = .ok (.bipush 7, 2) := by decide +kernel
theorem d_Y_announced_49 : decode tb_Y_announced 49 = .ok (.iload_n 3, 1) := by decide +kernel
theorem d_Y_announced_50 : decode tb_Y_announced 50 = .ok (.imul, 1) := by decide +kernel
theorem d_Y_announced_51 : decode tb_Y_announced 51 = .ok (.iload 5, 2) := by decide +kernel
theorem d_Y_announced_53 : decode tb_Y_announced 53 = .ok (.iadd, 1) := by decide +kernel
theorem d_Y_announced_54 : decode tb_Y_announced 54 = .ok (.iaload, 1) := by decide +kernel
theorem d_Y_announced_55 : decode tb_Y_announced 55 = .ok (.aload_n 0, 1) := by decide +kernel
theorem d_Y_announced_56 : decode tb_Y_announced 56 = .ok (.getfield 23, 3) := by decide +kernel
theorem d_Y_announced_59 : decode tb_Y_announced 59 = .ok (.iload 6, 2) := by decide +kernel
theorem d_Y_announced_61 : decode tb_Y_announced 61 = .ok (.iaload, 1) := by decide +kernel
theorem d_Y_announced_62 : decode tb_Y_announced 62 = .ok (.if_icmp .lt 7, 3) := by decide +kernel
theorem d_Y_announced_65 : decode tb_Y_announced 65 = .ok (.iconst 1, 1) := by decide +kernel
theorem d_Y_announced_66 : decode tb_Y_announced 66 = .ok (.goto 4, 3) := by decide +kernel
theorem d_Y_announced_69 : decode tb_Y_announced 69 = .ok (.iconst 0, 1) := by decide +kernel
theorem d_Y_announced_70 : decode tb_Y_announced 70 = .ok (.istore 7, 2) := by decide +kernel
theorem d_Y_announced_72 : decode tb_Y_announced 72 = .ok (.iload 7, 2) := by decide +kernel
theorem d_Y_announced_74 : decode tb_Y_announced 74 = .ok (.ifCond .eq 27, 3) := by decide +kernel
theorem d_Y_announced_77 : decode tb_Y_announced 77 = .ok (.aload_n 0, 1) := by decide +kernel
theorem d_Y_announced_78 : decode tb_Y_announced 78 = .ok (.getfield 98, 3) := by decide +kernel
theorem d_Y_announced_81 : decode tb_Y_announced 81 = .ok (.iload_n 3, 1) := by decide +kernel
theorem d_Y_announced_82 : decode tb_Y_announced 82 = .ok (.baload, 1) := by decide +kernel
theorem d_Y_announced_83 : decode tb_Y_announced 83 = .ok (.ifCond .eq 14, 3) := by decide +kernel
theorem d_Y_announced_86 : decode tb_Y_announced 86 = .ok (.aload_n 0, 1) := by decide +kernel
theorem d_Y_announced_87 : decode tb_Y_announced 87 = .ok (.getfield 20, 3) := by decide +kernel
theorem d_Y_announced_90 : decode tb_Y_announced 90 = .ok (.iload 6, 2) := by decide +kernel
theorem d_Y_announced_92 : decode tb_Y_announced 92 = .ok (.iaload, 1) := by decide +kernel
theorem d_Y_announced_93 : decode tb_Y_announced 93 = .ok (.iload_n 2, 1) := by decide +kernel
theorem d_Y_announced_94 : decode tb_Y_announced 94 = .ok (.if_icmp .ne 7, 3) := by decide +kernel
theorem d_Y_announced_97 : decode tb_Y_announced 97 = .ok (.iconst 1, 1) := by decide +kernel
theorem d_Y_announced_98 : decode tb_Y_announced 98 = .ok (.goto 4, 3) := by decide +kernel
theorem d_Y_announced_101 : decode tb_Y_announced 101 = .ok (.iconst 0, 1) := by decide +kernel
theorem d_Y_announced_102 : decode tb_Y_announced 102 = .ok (.istore 8, 2) := by decide +kernel
theorem d_Y_announced_104 : decode tb_Y_announced 104 = .ok (.aload_n 0, 1) := by decide +kernel
theorem d_Y_announced_105 : decode tb_Y_announced 105 = .ok (.getfield 98, 3) := by decide +kernel
theorem d_Y_announced_108 : decode tb_Y_announced 108 = .ok (.iload_n 3, 1) := by decide +kernel
theorem d_Y_announced_109 : decode tb_Y_announced 109 = .ok (.baload, 1) := by decide +kernel
theorem d_Y_announced_110 : decode tb_Y_announced 110 = .ok (.ifCond .eq 7, 3) := by decide +kernel
theorem d_Y_announced_113 : decode tb_Y_announced 113 = .ok (.iconst (-1), 1) := by decide +kernel
theorem d_Y_announced_114 : decode tb_Y_announced 114 = .ok (.goto 4, 3) := by decide +kernel
theorem d_Y_announced_117 : decode tb_Y_announced 117 = .ok (.iload_n 2, 1) := by decide +kernel
theorem d_Y_announced_118 : decode tb_Y_announced 118 = .ok (.istore 9, 2) := by decide +kernel
theorem d_Y_announced_120 : decode tb_Y_announced 120 = .ok (.iload 8, 2) := by decide +kernel
theorem d_Y_announced_122 : decode tb_Y_announced 122 = .ok (.ifCond .eq 79, 3) := by decide +kernel
theorem d_Y_announced_125 : decode tb_Y_announced 125 = .ok (.aload_n 0, 1) := by decide +kernel
theorem d_Y_announced_126 : decode tb_Y_announced 126 = .ok (.getfield 20, 3) := by decide +kernel
theorem d_Y_announced_129 : decode tb_Y_announced 129 = .ok (.iload 6, 2) := by decide +kernel
theorem d_Y_announced_131 : decode tb_Y_announced 131 = .ok (.iaload, 1) := by decide +kernel
theorem d_Y_announced_132 : decode tb_Y_announced 132 = .ok (.iload 9, 2) := by decide +kernel
theorem d_Y_announced_134 : decode tb_Y_announced 134 = .ok (.if_icmp .ne 25, 3) := by decide +kernel
theorem d_Y_announced_137 : decode tb_Y_announced 137 = .ok (.aload_n 0, 1) := by decide +kernel
theorem d_Y_announced_138 : decode tb_Y_announced 138 = .ok (.getfield 23, 3) := by decide +kernel
theorem d_Y_announced_141 : decode tb_Y_announced 141 = .ok (.iload 6, 2) := by decide +kernel
theorem d_Y_announced_143 : decode tb_Y_announced 143 = .ok (.iaload, 1) := by decide +kernel
theorem d_Y_announced_144 : decode tb_Y_announced 144 = .ok (.aload_n 0, 1) := by decide +kernel
theorem d_Y_announced_145 : decode tb_Y_announced 145 = .ok (.getfield 95, 3) := by decide +kernel
theorem d_Y_announced_148 : decode tb_Y_announced 148 = .ok (.bipush 7, 2) := by decide +kernel
theorem d_Y_announced_150 : decode tb_Y_announced 150 = .ok (.iload_n 3, 1) := by decide +kernel
theorem d_Y_announced_151 : decode tb_Y_announced 151 = .ok (.imul, 1) := by decide +kernel
theorem d_Y_announced_152 : decode tb_Y_announced 152 = .ok (.iload 5, 2) := by decide +kernel
theorem d_Y_announced_154 : decode tb_Y_announced 154 = .ok (.iadd, 1) := by decide +kernel
theorem d_Y_announced_155 : decode tb_Y_announced 155 = .ok (.iaload, 1) := by decide +kernel
theorem d_Y_announced_156 : decode tb_Y_announced 156 = .ok (.if_icmp .eq 13, 3) := by decide +kernel
theorem d_Y_announced_159 : decode tb_Y_announced 159 = .ok (.iload 4, 2) := by decide +kernel
theorem d_Y_announced_161 : decode tb_Y_announced 161 = .ok (.iconst 1, 1) := by decide +kernel
theorem d_Y_announced_162 : decode tb_Y_announced 162 = .ok (.iload 5, 2) := by decide +kernel
theorem d_Y_announced_164 : decode tb_Y_announced 164 = .ok (.ishl, 1) := by decide +kernel
theorem d_Y_announced_165 : decode tb_Y_announced 165 = .ok (.ior, 1) := by decide +kernel
theorem d_Y_announced_166 : decode tb_Y_announced 166 = .ok (.goto 5, 3) := by decide +kernel
theorem d_Y_announced_169 : decode tb_Y_announced 169 = .ok (.iload 4, 2) := by decide +kernel
theorem d_Y_announced_171 : decode tb_Y_announced 171 = .ok (.istore 4, 2) := by decide +kernel
theorem d_Y_announced_173 : decode tb_Y_announced 173 = .ok (.aload_n 0, 1) := by decide +kernel
theorem d_Y_announced_174 : decode tb_Y_announced 174 = .ok (.getfield 20, 3) := by decide +kernel
theorem d_Y_announced_177 : decode tb_Y_announced 177 = .ok (.iload 6, 2) := by decide +kernel
theorem d_Y_announced_179 : decode tb_Y_announced 179 = .ok (.iload 9, 2) := by decide +kernel
theorem d_Y_announced_181 : decode tb_Y_announced 181 = .ok (.iastore, 1) := by decide +kernel
theorem d_Y_announced_182 : decode tb_Y_announced 182 = .ok (.aload_n 0, 1) := by decide +kernel
theorem d_Y_announced_183 : decode tb_Y_announced 183 = .ok (.getfield 23, 3) := by decide +kernel
theorem d_Y_announced_186 : decode tb_Y_announced 186 = .ok (.iload 6, 2) := by decide +kernel
theorem d_Y_announced_188 : decode tb_Y_announced 188 = .ok (.aload_n 0, 1) := by decide +kernel
theorem d_Y_announced_189 : decode tb_Y_announced 189 = .ok (.getfield 95, 3) := by decide +kernel
theorem d_Y_announced_192 : decode tb_Y_announced 192 = .ok (.bipush 7, 2) := by decide +kernel
theorem d_Y_announced_194 : decode tb_Y_announced 194 = .ok (.iload_n 3, 1) := by decide +kernel
theorem d_Y_announced_195 : decode tb_Y_announced 195 = .ok (.imul, 1) := by decide +kernel
theorem d_Y_announced_196 : decode tb_Y_announced 196 = .ok (.iload 5, 2) := by decide +kernel
theorem d_Y_announced_198 : decode tb_Y_announced 198 = .ok (.iadd, 1) := by decide +kernel
theorem d_Y_announced_199 : decode tb_Y_announced 199 = .ok (.iaload, 1) := by decide +kernel
theorem d_Y_announced_200 : decode tb_Y_announced 200 = .ok (.iastore, 1) := by decide +kernel
theorem d_Y_announced_201 : decode tb_Y_announced 201 = .ok (.iinc 5 1, 3) := by decide +kernel
theorem d_Y_announced_204 : decode tb_Y_announced 204 = .ok (.goto (-198), 3) := by decide +kernel
theorem d_Y_announced_207 : decode tb_Y_announced 207 = .ok (.iload 4, 2) := by decide +kernel
theorem d_Y_announced_209 : decode tb_Y_announced 209 = .ok (.ifCond .eq 31, 3) := by decide +kernel
theorem d_Y_announced_212 : decode tb_Y_announced 212 = .ok (.aload_n 0, 1) := by decide +kernel
theorem d_Y_announced_213 : decode tb_Y_announced 213 = .ok (.getfield 38, 3) := by decide +kernel
theorem d_Y_announced_216 : decode tb_Y_announced 216 = .ok (.iload_n 1, 1) := by decide +kernel
theorem d_Y_announced_217 : decode tb_Y_announced 217 = .ok (.iaload, 1) := by decide +kernel
theorem d_Y_announced_218 : decode tb_Y_announced 218 = .ok (.ifCond .lt 22, 3) := by decide +kernel
theorem d_Y_announced_221 : decode tb_Y_announced 221 = .ok (.aload_n 0, 1) := by decide +kernel
theorem d_Y_announced_222 : decode tb_Y_announced 222 = .ok (.iload_n 1, 1) := by decide +kernel
theorem d_Y_announced_223 : decode tb_Y_announced 223 = .ok (.aload_n 0, 1) := by decide +kernel
theorem d_Y_announced_224 : decode tb_Y_announced 224 = .ok (.getfield 38, 3) := by decide +kernel
theorem d_Y_announced_227 : decode tb_Y_announced 227 = .ok (.iload_n 1, 1) := by decide +kernel
theorem d_Y_announced_228 : decode tb_Y_announced 228 = .ok (.iaload, 1) := by decide +kernel
theorem d_Y_announced_229 : decode tb_Y_announced 229 = .ok (.iload 4, 2) := by decide +kernel
theorem d_Y_announced_231 : decode tb_Y_announced 231 = .ok (.aload_n 0, 1) := by decide +kernel
theorem d_Y_announced_232 : decode tb_Y_announced 232 = .ok (.getfield 98, 3) := by decide +kernel
theorem d_Y_announced_235 : decode tb_Y_announced 235 = .ok (.iload_n 3, 1) := by decide +kernel
theorem d_Y_announced_236 : decode tb_Y_announced 236 = .ok (.baload, 1) := by decide +kernel
theorem d_Y_announced_237 : decode tb_Y_announced 237 = .ok (.invokevirtual 193, 3) := by decide +kernel
theorem d_Y_announced_240 : decode tb_Y_announced 240 = .ok (.return_, 1) := by decide +kernel
theorem d_Y_sendOn_0 : decode tb_Y_sendOn 0 = .ok (.aload_n 0, 1) := by decide +kernel
theorem d_Y_sendOn_1 : decode tb_Y_sendOn 1 = .ok (.getfield 20, 3) := by decide +kernel
theorem d_Y_sendOn_4 : decode tb_Y_sendOn 4 = .ok (.bipush 7, 2) := by decide +kernel
theorem d_Y_sendOn_6 : decode tb_Y_sendOn 6 = .ok (.iload_n 1, 1) := by decide +kernel
theorem d_Y_sendOn_7 : decode tb_Y_sendOn 7 = .ok (.imul, 1) := by decide +kernel
theorem d_Y_sendOn_8 : decode tb_Y_sendOn 8 = .ok (.iload_n 3, 1) := by decide +kernel
theorem d_Y_sendOn_9 : decode tb_Y_sendOn 9 = .ok (.iadd, 1) := by decide +kernel
theorem d_Y_sendOn_10 : decode tb_Y_sendOn 10 = .ok (.iaload, 1) := by decide +kernel
theorem d_Y_sendOn_11 : decode tb_Y_sendOn 11 = .ok (.istore 7, 2) := by decide +kernel
theorem d_Y_sendOn_13 : decode tb_Y_sendOn 13 = .ok (.iload 7, 2) := by decide +kernel
theorem d_Y_sendOn_15 : decode tb_Y_sendOn 15 = .ok (.ifCond .lt 8, 3) := by decide +kernel
theorem d_Y_sendOn_18 : decode tb_Y_sendOn 18 = .ok (.iload 7, 2) := by decide +kernel
theorem d_Y_sendOn_20 : decode tb_Y_sendOn 20 = .ok (.goto 9, 3) := by decide +kernel
theorem d_Y_sendOn_23 : decode tb_Y_sendOn 23 = .ok (.aload_n 0, 1) := by decide +kernel
theorem d_Y_sendOn_24 : decode tb_Y_sendOn 24 = .ok (.getfield 38, 3) := by decide +kernel
theorem d_Y_sendOn_27 : decode tb_Y_sendOn 27 = .ok (.iload_n 1, 1) := by decide +kernel
theorem d_Y_sendOn_28 : decode tb_Y_sendOn 28 = .ok (.iaload, 1) := by decide +kernel
theorem d_Y_sendOn_29 : decode tb_Y_sendOn 29 = .ok (.istore 8, 2) := by decide +kernel
theorem d_Y_sendOn_31 : decode tb_Y_sendOn 31 = .ok (.iload 8, 2) := by decide +kernel
theorem d_Y_sendOn_33 : decode tb_Y_sendOn 33 = .ok (.ifCond .ge 14, 3) := by decide +kernel
theorem d_Y_sendOn_36 : decode tb_Y_sendOn 36 = .ok (.aload_n 0, 1) := by decide +kernel
theorem d_Y_sendOn_37 : decode tb_Y_sendOn 37 = .ok (.dup, 1) := by decide +kernel
theorem d_Y_sendOn_38 : decode tb_Y_sendOn 38 = .ok (.getfield 162, 3) := by decide +kernel
theorem d_Y_sendOn_41 : decode tb_Y_sendOn 41 = .ok (.iconst 1, 1) := by decide +kernel
theorem d_Y_sendOn_42 : decode tb_Y_sendOn 42 = .ok (.iadd, 1) := by decide +kernel
theorem d_Y_sendOn_43 : decode tb_Y_sendOn 43 = .ok (.putfield 162, 3) := by decide +kernel
theorem d_Y_sendOn_46 : decode tb_Y_sendOn 46 = .ok (.return_, 1) := by decide +kernel
theorem d_Y_sendOn_47 : decode tb_Y_sendOn 47 = .ok (.aload_n 0, 1) := by decide +kernel
theorem d_Y_sendOn_48 : decode tb_Y_sendOn 48 = .ok (.iconst 4, 1) := by decide +kernel
theorem d_Y_sendOn_49 : decode tb_Y_sendOn 49 = .ok (.iload 8, 2) := by decide +kernel
theorem d_Y_sendOn_51 : decode tb_Y_sendOn 51 = .ok (.invokevirtual 182, 3) := by decide +kernel
theorem d_Y_sendOn_54 : decode tb_Y_sendOn 54 = .ok (.istore 9, 2) := by decide +kernel
theorem d_Y_sendOn_56 : decode tb_Y_sendOn 56 = .ok (.aload_n 0, 1) := by decide +kernel
theorem d_Y_sendOn_57 : decode tb_Y_sendOn 57 = .ok (.getfield 101, 3) := by decide +kernel
theorem d_Y_sendOn_60 : decode tb_Y_sendOn 60 = .ok (.iload 9, 2) := by decide +kernel
theorem d_Y_sendOn_62 : decode tb_Y_sendOn 62 = .ok (.iload_n 2, 1) := by decide +kernel
theorem d_Y_sendOn_63 : decode tb_Y_sendOn 63 = .ok (.iastore, 1) := by decide +kernel
theorem d_Y_sendOn_64 : decode tb_Y_sendOn 64 = .ok (.aload_n 0, 1) := by decide +kernel
theorem d_Y_sendOn_65 : decode tb_Y_sendOn 65 = .ok (.getfield 104, 3) := by decide +kernel
theorem d_Y_sendOn_68 : decode tb_Y_sendOn 68 = .ok (.iload 9, 2) := by decide +kernel
theorem d_Y_sendOn_70 : decode tb_Y_sendOn 70 = .ok (.iload_n 3, 1) := by decide +kernel
theorem d_Y_sendOn_71 : decode tb_Y_sendOn 71 = .ok (.iastore, 1) := by decide +kernel
theorem d_Y_sendOn_72 : decode tb_Y_sendOn 72 = .ok (.aload_n 0, 1) := by decide +kernel
theorem d_Y_sendOn_73 : decode tb_Y_sendOn 73 = .ok (.getfield 107, 3) := by decide +kernel
theorem d_Y_sendOn_76 : decode tb_Y_sendOn 76 = .ok (.iload 9, 2) := by decide +kernel
theorem d_Y_sendOn_78 : decode tb_Y_sendOn 78 = .ok (.iload 4, 2) := by decide +kernel
theorem d_Y_sendOn_80 : decode tb_Y_sendOn 80 = .ok (.iastore, 1) := by decide +kernel
theorem d_Y_sendOn_81 : decode tb_Y_sendOn 81 = .ok (.aload_n 0, 1) := by decide +kernel
theorem d_Y_sendOn_82 : decode tb_Y_sendOn 82 = .ok (.getfield 110, 3) := by decide +kernel
theorem d_Y_sendOn_85 : decode tb_Y_sendOn 85 = .ok (.iload 9, 2) := by decide +kernel
theorem d_Y_sendOn_87 : decode tb_Y_sendOn 87 = .ok (.iload 5, 2) := by decide +kernel
theorem d_Y_sendOn_89 : decode tb_Y_sendOn 89 = .ok (.iastore, 1) := by decide +kernel
theorem d_Y_sendOn_90 : decode tb_Y_sendOn 90 = .ok (.aload_n 0, 1) := by decide +kernel
theorem d_Y_sendOn_91 : decode tb_Y_sendOn 91 = .ok (.getfield 113, 3) := by decide +kernel
theorem d_Y_sendOn_94 : decode tb_Y_sendOn 94 = .ok (.iload 9, 2) := by decide +kernel
theorem d_Y_sendOn_96 : decode tb_Y_sendOn 96 = .ok (.iload 7, 2) := by decide +kernel
theorem d_Y_sendOn_98 : decode tb_Y_sendOn 98 = .ok (.ifCond .lt 7, 3) := by decide +kernel
theorem d_Y_sendOn_101 : decode tb_Y_sendOn 101 = .ok (.iconst 1, 1) := by decide +kernel
theorem d_Y_sendOn_102 : decode tb_Y_sendOn 102 = .ok (.goto 4, 3) := by decide +kernel
theorem d_Y_sendOn_105 : decode tb_Y_sendOn 105 = .ok (.iconst 0, 1) := by decide +kernel
theorem d_Y_sendOn_106 : decode tb_Y_sendOn 106 = .ok (.bastore, 1) := by decide +kernel
theorem d_Y_sendOn_107 : decode tb_Y_sendOn 107 = .ok (.aload_n 0, 1) := by decide +kernel
theorem d_Y_sendOn_108 : decode tb_Y_sendOn 108 = .ok (.getfield 116, 3) := by decide +kernel
theorem d_Y_sendOn_111 : decode tb_Y_sendOn 111 = .ok (.iload 9, 2) := by decide +kernel
theorem d_Y_sendOn_113 : decode tb_Y_sendOn 113 = .ok (.iload 6, 2) := by decide +kernel
theorem d_Y_sendOn_115 : decode tb_Y_sendOn 115 = .ok (.bastore, 1) := by decide +kernel
theorem d_Y_sendOn_116 : decode tb_Y_sendOn 116 = .ok (.aload_n 0, 1) := by decide +kernel
theorem d_Y_sendOn_117 : decode tb_Y_sendOn 117 = .ok (.iload_n 1, 1) := by decide +kernel
theorem d_Y_sendOn_118 : decode tb_Y_sendOn 118 = .ok (.iload 9, 2) := by decide +kernel
theorem d_Y_sendOn_120 : decode tb_Y_sendOn 120 = .ok (.invokevirtual 186, 3) := by decide +kernel
theorem d_Y_sendOn_123 : decode tb_Y_sendOn 123 = .ok (.return_, 1) := by decide +kernel
theorem d_Y_valued_0 : decode tb_Y_valued 0 = .ok (.aload_n 0, 1) := by decide +kernel
theorem d_Y_valued_1 : decode tb_Y_valued 1 = .ok (.getfield 113, 3) := by decide +kernel
theorem d_Y_valued_4 : decode tb_Y_valued 4 = .ok (.iload_n 3, 1) := by decide +kernel
theorem d_Y_valued_5 : decode tb_Y_valued 5 = .ok (.baload, 1) := by decide +kernel
theorem d_Y_valued_6 : decode tb_Y_valued 6 = .ok (.ifCond .eq 26, 3) := by decide +kernel
theorem d_Y_valued_9 : decode tb_Y_valued 9 = .ok (.aload_n 0, 1) := by decide +kernel
theorem d_Y_valued_10 : decode tb_Y_valued 10 = .ok (.getfield 35, 3) := by decide +kernel
theorem d_Y_valued_13 : decode tb_Y_valued 13 = .ok (.iload_n 2, 1) := by decide +kernel
theorem d_Y_valued_14 : decode tb_Y_valued 14 = .ok (.iaload, 1) := by decide +kernel
theorem d_Y_valued_15 : decode tb_Y_valued 15 = .ok (.aload_n 0, 1) := by decide +kernel
theorem d_Y_valued_16 : decode tb_Y_valued 16 = .ok (.getfield 35, 3) := by decide +kernel
theorem d_Y_valued_19 : decode tb_Y_valued 19 = .ok (.iload_n 1, 1) := by decide +kernel
theorem d_Y_valued_20 : decode tb_Y_valued 20 = .ok (.iaload, 1) := by decide +kernel
theorem d_Y_valued_21 : decode tb_Y_valued 21 = .ok (.if_icmp .lt 7, 3) := by decide +kernel
theorem d_Y_valued_24 : decode tb_Y_valued 24 = .ok (.iconst 1, 1) := by decide +kernel
theorem d_Y_valued_25 : decode tb_Y_valued 25 = .ok (.goto 27, 3) := by decide +kernel
theorem d_Y_valued_28 : decode tb_Y_valued 28 = .ok (.iconst 0, 1) := by decide +kernel
theorem d_Y_valued_29 : decode tb_Y_valued 29 = .ok (.goto 23, 3) := by decide +kernel
theorem d_Y_valued_32 : decode tb_Y_valued 32 = .ok (.aload_n 0, 1) := by decide +kernel
theorem d_Y_valued_33 : decode tb_Y_valued 33 = .ok (.getfield 35, 3) := by decide +kernel
theorem d_Y_valued_36 : decode tb_Y_valued 36 = .ok (.iload_n 2, 1) := by decide +kernel
theorem d_Y_valued_37 : decode tb_Y_valued 37 = .ok (.iaload, 1) := by decide +kernel
theorem d_Y_valued_38 : decode tb_Y_valued 38 = .ok (.aload_n 0, 1) := by decide +kernel
theorem d_Y_valued_39 : decode tb_Y_valued 39 = .ok (.getfield 35, 3) := by decide +kernel
theorem d_Y_valued_42 : decode tb_Y_valued 42 = .ok (.iload_n 1, 1) := by decide +kernel
theorem d_Y_valued_43 : decode tb_Y_valued 43 = .ok (.iaload, 1) := by decide +kernel
theorem d_Y_valued_44 : decode tb_Y_valued 44 = .ok (.if_icmp .gt 7, 3) := by decide +kernel
theorem d_Y_valued_47 : decode tb_Y_valued 47 = .ok (.iconst 1, 1) := by decide +kernel
theorem d_Y_valued_48 : decode tb_Y_valued 48 = .ok (.goto 4, 3) := by decide +kernel
theorem d_Y_valued_51 : decode tb_Y_valued 51 = .ok (.iconst 0, 1) := by decide +kernel
theorem d_Y_valued_52 : decode tb_Y_valued 52 = .ok (.istore 4, 2) := by decide +kernel
theorem d_Y_valued_54 : decode tb_Y_valued 54 = .ok (.iload 4, 2) := by decide +kernel
theorem d_Y_valued_56 : decode tb_Y_valued 56 = .ok (.ifCond .eq 28, 3) := by decide +kernel
theorem d_Y_valued_59 : decode tb_Y_valued 59 = .ok (.aload_n 0, 1) := by decide +kernel
theorem d_Y_valued_60 : decode tb_Y_valued 60 = .ok (.getfield 116, 3) := by decide +kernel
theorem d_Y_valued_63 : decode tb_Y_valued 63 = .ok (.iload_n 3, 1) := by decide +kernel
theorem d_Y_valued_64 : decode tb_Y_valued 64 = .ok (.baload, 1) := by decide +kernel
theorem d_Y_valued_65 : decode tb_Y_valued 65 = .ok (.ifCond .eq 19, 3) := by decide +kernel
theorem d_Y_valued_68 : decode tb_Y_valued 68 = .ok (.aload_n 0, 1) := by decide +kernel
theorem d_Y_valued_69 : decode tb_Y_valued 69 = .ok (.dup, 1) := by decide +kernel
theorem d_Y_valued_70 : decode tb_Y_valued 70 = .ok (.getfield 162, 3) := by decide +kernel
theorem d_Y_valued_73 : decode tb_Y_valued 73 = .ok (.iconst 1, 1) := by decide +kernel
theorem d_Y_valued_74 : decode tb_Y_valued 74 = .ok (.iadd, 1) := by decide +kernel
theorem d_Y_valued_75 : decode tb_Y_valued 75 = .ok (.putfield 162, 3) := by decide +kernel
theorem d_Y_valued_78 : decode tb_Y_valued 78 = .ok (.aload_n 0, 1) := by decide +kernel
theorem d_Y_valued_79 : decode tb_Y_valued 79 = .ok (.iload_n 1, 1) := by decide +kernel
theorem d_Y_valued_80 : decode tb_Y_valued 80 = .ok (.invokevirtual 150, 3) := by decide +kernel
theorem d_Y_valued_83 : decode tb_Y_valued 83 = .ok (.return_, 1) := by decide +kernel
theorem d_Y_valued_84 : decode tb_Y_valued 84 = .ok (.aload_n 0, 1) := by decide +kernel
theorem d_Y_valued_85 : decode tb_Y_valued 85 = .ok (.getfield 104, 3) := by decide +kernel
theorem d_Y_valued_88 : decode tb_Y_valued 88 = .ok (.iload_n 3, 1) := by decide +kernel
theorem d_Y_valued_89 : decode tb_Y_valued 89 = .ok (.iaload, 1) := by decide +kernel
theorem d_Y_valued_90 : decode tb_Y_valued 90 = .ok (.iload_n 1, 1) := by decide +kernel
theorem d_Y_valued_91 : decode tb_Y_valued 91 = .ok (.if_icmp .ne 93, 3) := by decide +kernel
theorem d_Y_valued_94 : decode tb_Y_valued 94 = .ok (.bipush 7, 2) := by decide +kernel
theorem d_Y_valued_96 : decode tb_Y_valued 96 = .ok (.istore 5, 2) := by decide +kernel
theorem d_Y_valued_98 : decode tb_Y_valued 98 = .ok (.iload 5, 2) := by decide +kernel
theorem d_Y_valued_100 : decode tb_Y_valued 100 = .ok (.ifCond .le 35, 3) := by decide +kernel
theorem d_Y_valued_103 : decode tb_Y_valued 103 = .ok (.aload_n 0, 1) := by decide +kernel
theorem d_Y_valued_104 : decode tb_Y_valued 104 = .ok (.getfield 137, 3) := by decide +kernel
theorem d_Y_valued_107 : decode tb_Y_valued 107 = .ok (.bipush 8, 2) := by decide +kernel
theorem d_Y_valued_109 : decode tb_Y_valued 109 = .ok (.iload_n 1, 1) := by decide +kernel
theorem d_Y_valued_110 : decode tb_Y_valued 110 = .ok (.imul, 1) := by decide +kernel
theorem d_Y_valued_111 : decode tb_Y_valued 111 = .ok (.iload 5, 2) := by decide +kernel
theorem d_Y_valued_113 : decode tb_Y_valued 113 = .ok (.iadd, 1) := by decide +kernel
theorem d_Y_valued_114 : decode tb_Y_valued 114 = .ok (.aload_n 0, 1) := by decide +kernel
theorem d_Y_valued_115 : decode tb_Y_valued 115 = .ok (.getfield 137, 3) := by decide +kernel
theorem d_Y_valued_118 : decode tb_Y_valued 118 = .ok (.bipush 8, 2) := by decide +kernel
theorem d_Y_valued_120 : decode tb_Y_valued 120 = .ok (.iload_n 1, 1) := by decide +kernel
theorem d_Y_valued_121 : decode tb_Y_valued 121 = .ok (.imul, 1) := by decide +kernel
theorem d_Y_valued_122 : decode tb_Y_valued 122 = .ok (.iload 5, 2) := by decide +kernel
theorem d_Y_valued_124 : decode tb_Y_valued 124 = .ok (.iadd, 1) := by decide +kernel
theorem d_Y_valued_125 : decode tb_Y_valued 125 = .ok (.iconst 1, 1) := by decide +kernel
theorem d_Y_valued_126 : decode tb_Y_valued 126 = .ok (.isub, 1) := by decide +kernel
theorem d_Y_valued_127 : decode tb_Y_valued 127 = .ok (.iaload, 1) := by decide +kernel
theorem d_Y_valued_128 : decode tb_Y_valued 128 = .ok (.iastore, 1) := by decide +kernel
theorem d_Y_valued_129 : decode tb_Y_valued 129 = .ok (.iinc 5 (-1), 3) := by decide +kernel
theorem d_Y_valued_132 : decode tb_Y_valued 132 = .ok (.goto (-34), 3) := by decide +kernel
theorem d_Y_valued_135 : decode tb_Y_valued 135 = .ok (.aload_n 0, 1) := by decide +kernel
theorem d_Y_valued_136 : decode tb_Y_valued 136 = .ok (.getfield 137, 3) := by decide +kernel
theorem d_Y_valued_139 : decode tb_Y_valued 139 = .ok (.bipush 8, 2) := by decide +kernel
theorem d_Y_valued_141 : decode tb_Y_valued 141 = .ok (.iload_n 1, 1) := by decide +kernel
theorem d_Y_valued_142 : decode tb_Y_valued 142 = .ok (.imul, 1) := by decide +kernel
theorem d_Y_valued_143 : decode tb_Y_valued 143 = .ok (.aload_n 0, 1) := by decide +kernel
theorem d_Y_valued_144 : decode tb_Y_valued 144 = .ok (.getfield 110, 3) := by decide +kernel
theorem d_Y_valued_147 : decode tb_Y_valued 147 = .ok (.iload_n 3, 1) := by decide +kernel
theorem d_Y_valued_148 : decode tb_Y_valued 148 = .ok (.iaload, 1) := by decide +kernel
theorem d_Y_valued_149 : decode tb_Y_valued 149 = .ok (.sipush 1000, 3) := by decide +kernel
theorem d_Y_valued_152 : decode tb_Y_valued 152 = .ok (.aload_n 0, 1) := by decide +kernel
theorem d_Y_valued_153 : decode tb_Y_valued 153 = .ok (.getfield 101, 3) := by decide +kernel
theorem d_Y_valued_156 : decode tb_Y_valued 156 = .ok (.iload_n 3, 1) := by decide +kernel
theorem d_Y_valued_157 : decode tb_Y_valued 157 = .ok (.iaload, 1) := by decide +kernel
theorem d_Y_valued_158 : decode tb_Y_valued 158 = .ok (.imul, 1) := by decide +kernel
theorem d_Y_valued_159 : decode tb_Y_valued 159 = .ok (.iadd, 1) := by decide +kernel
theorem d_Y_valued_160 : decode tb_Y_valued 160 = .ok (.iastore, 1) := by decide +kernel
theorem d_Y_valued_161 : decode tb_Y_valued 161 = .ok (.aload_n 0, 1) := by decide +kernel
theorem d_Y_valued_162 : decode tb_Y_valued 162 = .ok (.getfield 134, 3) := by decide +kernel
theorem d_Y_valued_165 : decode tb_Y_valued 165 = .ok (.iload_n 1, 1) := by decide +kernel
theorem d_Y_valued_166 : decode tb_Y_valued 166 = .ok (.dup2, 1) := by decide +kernel
theorem d_Y_valued_167 : decode tb_Y_valued 167 = .ok (.iaload, 1) := by decide +kernel
theorem d_Y_valued_168 : decode tb_Y_valued 168 = .ok (.iconst 1, 1) := by decide +kernel
theorem d_Y_valued_169 : decode tb_Y_valued 169 = .ok (.iadd, 1) := by decide +kernel
theorem d_Y_valued_170 : decode tb_Y_valued 170 = .ok (.iastore, 1) := by decide +kernel
theorem d_Y_valued_171 : decode tb_Y_valued 171 = .ok (.aload_n 0, 1) := by decide +kernel
theorem d_Y_valued_172 : decode tb_Y_valued 172 = .ok (.dup, 1) := by decide +kernel
theorem d_Y_valued_173 : decode tb_Y_valued 173 = .ok (.getfield 197, 3) := by decide +kernel
theorem d_Y_valued_176 : decode tb_Y_valued 176 = .ok (.iconst 1, 1) := by decide +kernel
theorem d_Y_valued_177 : decode tb_Y_valued 177 = .ok (.iadd, 1) := by decide +kernel
theorem d_Y_valued_178 : decode tb_Y_valued 178 = .ok (.putfield 197, 3) := by decide +kernel
theorem d_Y_valued_181 : decode tb_Y_valued 181 = .ok (.goto 76, 3) := by decide +kernel
theorem d_Y_valued_184 : decode tb_Y_valued 184 = .ok (.aload_n 0, 1) := by decide +kernel
theorem d_Y_valued_185 : decode tb_Y_valued 185 = .ok (.getfield 107, 3) := by decide +kernel
theorem d_Y_valued_188 : decode tb_Y_valued 188 = .ok (.iload_n 3, 1) := by decide +kernel
theorem d_Y_valued_189 : decode tb_Y_valued 189 = .ok (.iaload, 1) := by decide +kernel
theorem d_Y_valued_190 : decode tb_Y_valued 190 = .ok (.iconst 1, 1) := by decide +kernel
theorem d_Y_valued_191 : decode tb_Y_valued 191 = .ok (.if_icmp .ne 16, 3) := by decide +kernel
theorem d_Y_valued_194 : decode tb_Y_valued 194 = .ok (.aload_n 0, 1) := by decide +kernel
theorem d_Y_valued_195 : decode tb_Y_valued 195 = .ok (.dup, 1) := by decide +kernel
theorem d_Y_valued_196 : decode tb_Y_valued 196 = .ok (.getfield 162, 3) := by decide +kernel
theorem d_Y_valued_199 : decode tb_Y_valued 199 = .ok (.iconst 1, 1) := by decide +kernel
theorem d_Y_valued_200 : decode tb_Y_valued 200 = .ok (.iadd, 1) := by decide +kernel
theorem d_Y_valued_201 : decode tb_Y_valued 201 = .ok (.putfield 162, 3) := by decide +kernel
theorem d_Y_valued_204 : decode tb_Y_valued 204 = .ok (.goto 53, 3) := by decide +kernel
theorem d_Y_valued_207 : decode tb_Y_valued 207 = .ok (.aload_n 0, 1) := by decide +kernel
theorem d_Y_valued_208 : decode tb_Y_valued 208 = .ok (.iload_n 1, 1) := by decide +kernel
theorem d_Y_valued_209 : decode tb_Y_valued 209 = .ok (.aload_n 0, 1) := by decide +kernel
theorem d_Y_valued_210 : decode tb_Y_valued 210 = .ok (.getfield 101, 3) := by decide +kernel
theorem d_Y_valued_213 : decode tb_Y_valued 213 = .ok (.iload_n 3, 1) := by decide +kernel
theorem d_Y_valued_214 : decode tb_Y_valued 214 = .ok (.iaload, 1) := by decide +kernel
theorem d_Y_valued_215 : decode tb_Y_valued 215 = .ok (.aload_n 0, 1) := by decide +kernel
theorem d_Y_valued_216 : decode tb_Y_valued 216 = .ok (.getfield 104, 3) := by decide +kernel
theorem d_Y_valued_219 : decode tb_Y_valued 219 = .ok (.iload_n 3, 1) := by decide +kernel
theorem d_Y_valued_220 : decode tb_Y_valued 220 = .ok (.iaload, 1) := by decide +kernel
theorem d_Y_valued_221 : decode tb_Y_valued 221 = .ok (.aload_n 0, 1) := by decide +kernel
theorem d_Y_valued_222 : decode tb_Y_valued 222 = .ok (.getfield 107, 3) := by decide +kernel
theorem d_Y_valued_225 : decode tb_Y_valued 225 = .ok (.iload_n 3, 1) := by decide +kernel
theorem d_Y_valued_226 : decode tb_Y_valued 226 = .ok (.iaload, 1) := by decide +kernel
theorem d_Y_valued_227 : decode tb_Y_valued 227 = .ok (.iconst 1, 1) := by decide +kernel
theorem d_Y_valued_228 : decode tb_Y_valued 228 = .ok (.isub, 1) := by decide +kernel
theorem d_Y_valued_229 : decode tb_Y_valued 229 = .ok (.aload_n 0, 1) := by decide +kernel
theorem d_Y_valued_230 : decode tb_Y_valued 230 = .ok (.getfield 110, 3) := by decide +kernel
theorem d_Y_valued_233 : decode tb_Y_valued 233 = .ok (.iload_n 3, 1) := by decide +kernel
theorem d_Y_valued_234 : decode tb_Y_valued 234 = .ok (.iaload, 1) := by decide +kernel
theorem d_Y_valued_235 : decode tb_Y_valued 235 = .ok (.iload 4, 2) := by decide +kernel
theorem d_Y_valued_237 : decode tb_Y_valued 237 = .ok (.ifCond .ne 12, 3) := by decide +kernel
theorem d_Y_valued_240 : decode tb_Y_valued 240 = .ok (.aload_n 0, 1) := by decide +kernel
theorem d_Y_valued_241 : decode tb_Y_valued 241 = .ok (.getfield 116, 3) := by decide +kernel
theorem d_Y_valued_244 : decode tb_Y_valued 244 = .ok (.iload_n 3, 1) := by decide +kernel
theorem d_Y_valued_245 : decode tb_Y_valued 245 = .ok (.baload, 1) := by decide +kernel
theorem d_Y_valued_246 : decode tb_Y_valued 246 = .ok (.ifCond .eq 7, 3) := by decide +kernel
theorem d_Y_valued_249 : decode tb_Y_valued 249 = .ok (.iconst 1, 1) := by decide +kernel
theorem d_Y_valued_250 : decode tb_Y_valued 250 = .ok (.goto 4, 3) := by decide +kernel
theorem d_Y_valued_253 : decode tb_Y_valued 253 = .ok (.iconst 0, 1) := by decide +kernel
theorem d_Y_valued_254 : decode tb_Y_valued 254 = .ok (.invokevirtual 200, 3) := by decide +kernel
theorem d_Y_valued_257 : decode tb_Y_valued 257 = .ok (.return_, 1) := by decide +kernel
theorem d_Y_nearWasOn_0 : decode tb_Y_nearWasOn 0 = .ok (.iconst 0, 1) := by decide +kernel
theorem d_Y_nearWasOn_1 : decode tb_Y_nearWasOn 1 = .ok (.istore_n 2, 1) := by decide +kernel
theorem d_Y_nearWasOn_2 : decode tb_Y_nearWasOn 2 = .ok (.iconst 0, 1) := by decide +kernel
theorem d_Y_nearWasOn_3 : decode tb_Y_nearWasOn 3 = .ok (.istore_n 3, 1) := by decide +kernel
theorem d_Y_nearWasOn_4 : decode tb_Y_nearWasOn 4 = .ok (.iload_n 3, 1) := by decide +kernel
theorem d_Y_nearWasOn_5 : decode tb_Y_nearWasOn 5 = .ok (.bipush 7, 2) := by decide +kernel
theorem d_Y_nearWasOn_7 : decode tb_Y_nearWasOn 7 = .ok (.if_icmp .ge 42, 3) := by decide +kernel
theorem d_Y_nearWasOn_10 : decode tb_Y_nearWasOn 10 = .ok (.iload_n 2, 1) := by decide +kernel
theorem d_Y_nearWasOn_11 : decode tb_Y_nearWasOn 11 = .ok (.ifCond .ne 26, 3) := by decide +kernel
theorem d_Y_nearWasOn_14 : decode tb_Y_nearWasOn 14 = .ok (.aload_n 0, 1) := by decide +kernel
theorem d_Y_nearWasOn_15 : decode tb_Y_nearWasOn 15 = .ok (.getfield 7, 3) := by decide +kernel
theorem d_Y_nearWasOn_18 : decode tb_Y_nearWasOn 18 = .ok (.bipush 7, 2) := by decide +kernel
theorem d_Y_nearWasOn_20 : decode tb_Y_nearWasOn 20 = .ok (.iload_n 1, 1) := by decide +kernel
theorem d_Y_nearWasOn_21 : decode tb_Y_nearWasOn 21 = .ok (.imul, 1) := by decide +kernel
theorem d_Y_nearWasOn_22 : decode tb_Y_nearWasOn 22 = .ok (.iload_n 3, 1) := by decide +kernel
theorem d_Y_nearWasOn_23 : decode tb_Y_nearWasOn 23 = .ok (.iadd, 1) := by decide +kernel
theorem d_Y_nearWasOn_24 : decode tb_Y_nearWasOn 24 = .ok (.iaload, 1) := by decide +kernel
theorem d_Y_nearWasOn_25 : decode tb_Y_nearWasOn 25 = .ok (.ifCond .le 16, 3) := by decide +kernel
theorem d_Y_nearWasOn_28 : decode tb_Y_nearWasOn 28 = .ok (.aload_n 0, 1) := by decide +kernel
theorem d_Y_nearWasOn_29 : decode tb_Y_nearWasOn 29 = .ok (.getfield 125, 3) := by decide +kernel
theorem d_Y_nearWasOn_32 : decode tb_Y_nearWasOn 32 = .ok (.iload_n 3, 1) := by decide +kernel
theorem d_Y_nearWasOn_33 : decode tb_Y_nearWasOn 33 = .ok (.baload, 1) := by decide +kernel
theorem d_Y_nearWasOn_34 : decode tb_Y_nearWasOn 34 = .ok (.ifCond .eq 7, 3) := by decide +kernel
theorem d_Y_nearWasOn_37 : decode tb_Y_nearWasOn 37 = .ok (.iconst 1, 1) := by decide +kernel
theorem d_Y_nearWasOn_38 : decode tb_Y_nearWasOn 38 = .ok (.goto 4, 3) := by decide +kernel
theorem d_Y_nearWasOn_41 : decode tb_Y_nearWasOn 41 = .ok (.iconst 0, 1) := by decide +kernel
theorem d_Y_nearWasOn_42 : decode tb_Y_nearWasOn 42 = .ok (.istore_n 2, 1) := by decide +kernel
theorem d_Y_nearWasOn_43 : decode tb_Y_nearWasOn 43 = .ok (.iinc 3 1, 3) := by decide +kernel
theorem d_Y_nearWasOn_46 : decode tb_Y_nearWasOn 46 = .ok (.goto (-42), 3) := by decide +kernel
theorem d_Y_nearWasOn_49 : decode tb_Y_nearWasOn 49 = .ok (.iload_n 2, 1) := by decide +kernel
theorem d_Y_nearWasOn_50 : decode tb_Y_nearWasOn 50 = .ok (.ireturn, 1) := by decide +kernel
theorem d_Y_air_0 : decode tb_Y_air 0 = .ok (.aload_n 0, 1) := by decide +kernel
theorem d_Y_air_1 : decode tb_Y_air 1 = .ok (.getfield 119, 3) := by decide +kernel
theorem d_Y_air_4 : decode tb_Y_air 4 = .ok (.iload_n 1, 1) := by decide +kernel
theorem d_Y_air_5 : decode tb_Y_air 5 = .ok (.iconst 0, 1) := by decide +kernel
theorem d_Y_air_6 : decode tb_Y_air 6 = .ok (.iastore, 1) := by decide +kernel
theorem d_Y_air_7 : decode tb_Y_air 7 = .ok (.aload_n 0, 1) := by decide +kernel
theorem d_Y_air_8 : decode tb_Y_air 8 = .ok (.getfield 74, 3) := by decide +kernel
theorem d_Y_air_11 : decode tb_Y_air 11 = .ok (.iload_n 1, 1) := by decide +kernel
theorem d_Y_air_12 : decode tb_Y_air 12 = .ok (.iaload, 1) := by decide +kernel
theorem d_Y_air_13 : decode tb_Y_air 13 = .ok (.ifCond .lt 32, 3) := by decide +kernel
theorem d_Y_air_16 : decode tb_Y_air 16 = .ok (.aload_n 0, 1) := by decide +kernel
theorem d_Y_air_17 : decode tb_Y_air 17 = .ok (.getfield 119, 3) := by decide +kernel
theorem d_Y_air_20 : decode tb_Y_air 20 = .ok (.iload_n 1, 1) := by decide +kernel
theorem d_Y_air_21 : decode tb_Y_air 21 = .ok (.iconst 2, 1) := by decide +kernel
theorem d_Y_air_22 : decode tb_Y_air 22 = .ok (.iastore, 1) := by decide +kernel
theorem d_Y_air_23 : decode tb_Y_air 23 = .ok (.aload_n 0, 1) := by decide +kernel
theorem d_Y_air_24 : decode tb_Y_air 24 = .ok (.getfield 122, 3) := by decide +kernel
theorem d_Y_air_27 : decode tb_Y_air 27 = .ok (.iload_n 1, 1) := by decide +kernel
theorem d_Y_air_28 : decode tb_Y_air 28 = .ok (.aload_n 0, 1) := by decide +kernel
theorem d_Y_air_29 : decode tb_Y_air 29 = .ok (.getfield 74, 3) := by decide +kernel
theorem d_Y_air_32 : decode tb_Y_air 32 = .ok (.iload_n 1, 1) := by decide +kernel
theorem d_Y_air_33 : decode tb_Y_air 33 = .ok (.iaload, 1) := by decide +kernel
theorem d_Y_air_34 : decode tb_Y_air 34 = .ok (.iastore, 1) := by decide +kernel
theorem d_Y_air_35 : decode tb_Y_air 35 = .ok (.aload_n 0, 1) := by decide +kernel
theorem d_Y_air_36 : decode tb_Y_air 36 = .ok (.getfield 74, 3) := by decide +kernel
theorem d_Y_air_39 : decode tb_Y_air 39 = .ok (.iload_n 1, 1) := by decide +kernel
theorem d_Y_air_40 : decode tb_Y_air 40 = .ok (.iconst (-1), 1) := by decide +kernel
theorem d_Y_air_41 : decode tb_Y_air 41 = .ok (.iastore, 1) := by decide +kernel
theorem d_Y_air_42 : decode tb_Y_air 42 = .ok (.goto 130, 3) := by decide +kernel
theorem d_Y_air_45 : decode tb_Y_air 45 = .ok (.aload_n 0, 1) := by decide +kernel
theorem d_Y_air_46 : decode tb_Y_air 46 = .ok (.getfield 77, 3) := by decide +kernel
theorem d_Y_air_49 : decode tb_Y_air 49 = .ok (.iload_n 1, 1) := by decide +kernel
theorem d_Y_air_50 : decode tb_Y_air 50 = .ok (.baload, 1) := by decide +kernel
theorem d_Y_air_51 : decode tb_Y_air 51 = .ok (.ifCond .ne 121, 3) := by decide +kernel
theorem d_Y_air_54 : decode tb_Y_air 54 = .ok (.aload_n 0, 1) := by decide +kernel
theorem d_Y_air_55 : decode tb_Y_air 55 = .ok (.getfield 62, 3) := by decide +kernel
theorem d_Y_air_58 : decode tb_Y_air 58 = .ok (.iload_n 1, 1) := by decide +kernel
theorem d_Y_air_59 : decode tb_Y_air 59 = .ok (.iaload, 1) := by decide +kernel
theorem d_Y_air_60 : decode tb_Y_air 60 = .ok (.ifCond .le 112, 3) := by decide +kernel
theorem d_Y_air_63 : decode tb_Y_air 63 = .ok (.aload_n 0, 1) := by decide +kernel
theorem d_Y_air_64 : decode tb_Y_air 64 = .ok (.getfield 65, 3) := by decide +kernel
theorem d_Y_air_67 : decode tb_Y_air 67 = .ok (.iload_n 1, 1) := by decide +kernel
theorem d_Y_air_68 : decode tb_Y_air 68 = .ok (.iaload, 1) := by decide +kernel
theorem d_Y_air_69 : decode tb_Y_air 69 = .ok (.ifCond .le 16, 3) := by decide +kernel
theorem d_Y_air_72 : decode tb_Y_air 72 = .ok (.aload_n 0, 1) := by decide +kernel
theorem d_Y_air_73 : decode tb_Y_air 73 = .ok (.getfield 65, 3) := by decide +kernel
theorem d_Y_air_76 : decode tb_Y_air 76 = .ok (.iload_n 1, 1) := by decide +kernel
theorem d_Y_air_77 : decode tb_Y_air 77 = .ok (.dup2, 1) := by decide +kernel
theorem d_Y_air_78 : decode tb_Y_air 78 = .ok (.iaload, 1) := by decide +kernel
theorem d_Y_air_79 : decode tb_Y_air 79 = .ok (.iconst 1, 1) := by decide +kernel
theorem d_Y_air_80 : decode tb_Y_air 80 = .ok (.isub, 1) := by decide +kernel
theorem d_Y_air_81 : decode tb_Y_air 81 = .ok (.iastore, 1) := by decide +kernel
theorem d_Y_air_82 : decode tb_Y_air 82 = .ok (.goto 90, 3) := by decide +kernel
theorem d_Y_air_85 : decode tb_Y_air 85 = .ok (.aload_n 0, 1) := by decide +kernel
theorem d_Y_air_86 : decode tb_Y_air 86 = .ok (.iload_n 1, 1) := by decide +kernel
theorem d_Y_air_87 : decode tb_Y_air 87 = .ok (.invokevirtual 204, 3) := by decide +kernel
theorem d_Y_air_90 : decode tb_Y_air 90 = .ok (.ifCond .eq 65, 3) := by decide +kernel
theorem d_Y_air_93 : decode tb_Y_air 93 = .ok (.aload_n 0, 1) := by decide +kernel
theorem d_Y_air_94 : decode tb_Y_air 94 = .ok (.getfield 68, 3) := by decide +kernel
theorem d_Y_air_97 : decode tb_Y_air 97 = .ok (.iload_n 1, 1) := by decide +kernel
theorem d_Y_air_98 : decode tb_Y_air 98 = .ok (.dup2, 1) := by decide +kernel
theorem d_Y_air_99 : decode tb_Y_air 99 = .ok (.iaload, 1) := by decide +kernel
theorem d_Y_air_100 : decode tb_Y_air 100 = .ok (.iconst 1, 1) := by decide +kernel
theorem d_Y_air_101 : decode tb_Y_air 101 = .ok (.iadd, 1) := by decide +kernel
theorem d_Y_air_102 : decode tb_Y_air 102 = .ok (.iastore, 1) := by decide +kernel
theorem d_Y_air_103 : decode tb_Y_air 103 = .ok (.aload_n 0, 1) := by decide +kernel
theorem d_Y_air_104 : decode tb_Y_air 104 = .ok (.getfield 68, 3) := by decide +kernel
theorem d_Y_air_107 : decode tb_Y_air 107 = .ok (.iload_n 1, 1) := by decide +kernel
theorem d_Y_air_108 : decode tb_Y_air 108 = .ok (.iaload, 1) := by decide +kernel
theorem d_Y_air_109 : decode tb_Y_air 109 = .ok (.iconst 5, 1) := by decide +kernel
theorem d_Y_air_110 : decode tb_Y_air 110 = .ok (.if_icmp .ne 11, 3) := by decide +kernel
theorem d_Y_air_113 : decode tb_Y_air 113 = .ok (.aload_n 0, 1) := by decide +kernel
theorem d_Y_air_114 : decode tb_Y_air 114 = .ok (.iload_n 1, 1) := by decide +kernel
theorem d_Y_air_115 : decode tb_Y_air 115 = .ok (.invokevirtual 207, 3) := by decide +kernel
theorem d_Y_air_118 : decode tb_Y_air 118 = .ok (.goto 54, 3) := by decide +kernel
theorem d_Y_air_121 : decode tb_Y_air 121 = .ok (.iconst 4, 1) := by decide +kernel
theorem d_Y_air_122 : decode tb_Y_air 122 = .ok (.aload_n 0, 1) := by decide +kernel
theorem d_Y_air_123 : decode tb_Y_air 123 = .ok (.getfield 68, 3) := by decide +kernel
theorem d_Y_air_126 : decode tb_Y_air 126 = .ok (.iload_n 1, 1) := by decide +kernel
theorem d_Y_air_127 : decode tb_Y_air 127 = .ok (.iaload, 1) := by decide +kernel
theorem d_Y_air_128 : decode tb_Y_air 128 = .ok (.ishl, 1) := by decide +kernel
theorem d_Y_air_129 : decode tb_Y_air 129 = .ok (.istore_n 2, 1) := by decide +kernel
theorem d_Y_air_130 : decode tb_Y_air 130 = .ok (.aload_n 0, 1) := by decide +kernel
theorem d_Y_air_131 : decode tb_Y_air 131 = .ok (.getfield 65, 3) := by decide +kernel
theorem d_Y_air_134 : decode tb_Y_air 134 = .ok (.iload_n 1, 1) := by decide +kernel
theorem d_Y_air_135 : decode tb_Y_air 135 = .ok (.aload_n 0, 1) := by decide +kernel
theorem d_Y_air_136 : decode tb_Y_air 136 = .ok (.iload_n 2, 1) := by decide +kernel
theorem d_Y_air_137 : decode tb_Y_air 137 = .ok (.bipush 32, 2) := by decide +kernel
theorem d_Y_air_139 : decode tb_Y_air 139 = .ok (.if_icmp .le 8, 3) := by decide +kernel
theorem d_Y_air_142 : decode tb_Y_air 142 = .ok (.bipush 32, 2) := by decide +kernel
theorem d_Y_air_144 : decode tb_Y_air 144 = .ok (.goto 4, 3) := by decide +kernel
theorem d_Y_air_147 : decode tb_Y_air 147 = .ok (.iload_n 2, 1) := by decide +kernel
theorem d_Y_air_148 : decode tb_Y_air 148 = .ok (.invokevirtual 158, 3) := by decide +kernel
theorem d_Y_air_151 : decode tb_Y_air 151 = .ok (.iastore, 1) := by decide +kernel
theorem d_Y_air_152 : decode tb_Y_air 152 = .ok (.goto 20, 3) := by decide +kernel
theorem d_Y_air_155 : decode tb_Y_air 155 = .ok (.aload_n 0, 1) := by decide +kernel
theorem d_Y_air_156 : decode tb_Y_air 156 = .ok (.getfield 119, 3) := by decide +kernel
theorem d_Y_air_159 : decode tb_Y_air 159 = .ok (.iload_n 1, 1) := by decide +kernel
theorem d_Y_air_160 : decode tb_Y_air 160 = .ok (.iconst 1, 1) := by decide +kernel
theorem d_Y_air_161 : decode tb_Y_air 161 = .ok (.iastore, 1) := by decide +kernel
theorem d_Y_air_162 : decode tb_Y_air 162 = .ok (.aload_n 0, 1) := by decide +kernel
theorem d_Y_air_163 : decode tb_Y_air 163 = .ok (.dup, 1) := by decide +kernel
theorem d_Y_air_164 : decode tb_Y_air 164 = .ok (.getfield 210, 3) := by decide +kernel
theorem d_Y_air_167 : decode tb_Y_air 167 = .ok (.iconst 1, 1) := by decide +kernel
theorem d_Y_air_168 : decode tb_Y_air 168 = .ok (.iadd, 1) := by decide +kernel
theorem d_Y_air_169 : decode tb_Y_air 169 = .ok (.putfield 210, 3) := by decide +kernel
theorem d_Y_air_172 : decode tb_Y_air 172 = .ok (.return_, 1) := by decide +kernel
theorem d_Y_heardFrom_0 : decode tb_Y_heardFrom 0 = .ok (.iconst (-1), 1) := by decide +kernel
theorem d_Y_heardFrom_1 : decode tb_Y_heardFrom 1 = .ok (.istore_n 2, 1) := by decide +kernel
theorem d_Y_heardFrom_2 : decode tb_Y_heardFrom 2 = .ok (.iconst 0, 1) := by decide +kernel
theorem d_Y_heardFrom_3 : decode tb_Y_heardFrom 3 = .ok (.istore_n 3, 1) := by decide +kernel
theorem d_Y_heardFrom_4 : decode tb_Y_heardFrom 4 = .ok (.iconst 0, 1) := by decide +kernel
theorem d_Y_heardFrom_5 : decode tb_Y_heardFrom 5 = .ok (.istore 4, 2) := by decide +kernel
theorem d_Y_heardFrom_7 : decode tb_Y_heardFrom 7 = .ok (.iload 4, 2) := by decide +kernel
theorem d_Y_heardFrom_9 : decode tb_Y_heardFrom 9 = .ok (.bipush 7, 2) := by decide +kernel
theorem d_Y_heardFrom_11 : decode tb_Y_heardFrom 11 = .ok (.if_icmp .ge 40, 3) := by decide +kernel
theorem d_Y_heardFrom_14 : decode tb_Y_heardFrom 14 = .ok (.aload_n 0, 1) := by decide +kernel
theorem d_Y_heardFrom_15 : decode tb_Y_heardFrom 15 = .ok (.getfield 7, 3) := by decide +kernel
theorem d_Y_heardFrom_18 : decode tb_Y_heardFrom 18 = .ok (.bipush 7, 2) := by decide +kernel
theorem d_Y_heardFrom_20 : decode tb_Y_heardFrom 20 = .ok (.iload_n 1, 1) := by decide +kernel
theorem d_Y_heardFrom_21 : decode tb_Y_heardFrom 21 = .ok (.imul, 1) := by decide +kernel
theorem d_Y_heardFrom_22 : decode tb_Y_heardFrom 22 = .ok (.iload 4, 2) := by decide +kernel
theorem d_Y_heardFrom_24 : decode tb_Y_heardFrom 24 = .ok (.iadd, 1) := by decide +kernel
theorem d_Y_heardFrom_25 : decode tb_Y_heardFrom 25 = .ok (.iaload, 1) := by decide +kernel
theorem d_Y_heardFrom_26 : decode tb_Y_heardFrom 26 = .ok (.ifCond .le 19, 3) := by decide +kernel
theorem d_Y_heardFrom_29 : decode tb_Y_heardFrom 29 = .ok (.aload_n 0, 1) := by decide +kernel
theorem d_Y_heardFrom_30 : decode tb_Y_heardFrom 30 = .ok (.getfield 119, 3) := by decide +kernel
theorem d_Y_heardFrom_33 : decode tb_Y_heardFrom 33 = .ok (.iload 4, 2) := by decide +kernel
theorem d_Y_heardFrom_35 : decode tb_Y_heardFrom 35 = .ok (.iaload, 1) := by decide +kernel
theorem d_Y_heardFrom_36 : decode tb_Y_heardFrom 36 = .ok (.ifCond .le 9, 3) := by decide +kernel
theorem d_Y_heardFrom_39 : decode tb_Y_heardFrom 39 = .ok (.iload 4, 2) := by decide +kernel
theorem d_Y_heardFrom_41 : decode tb_Y_heardFrom 41 = .ok (.istore_n 2, 1) := by decide +kernel
theorem d_Y_heardFrom_42 : decode tb_Y_heardFrom 42 = .ok (.iinc 3 1, 3) := by decide +kernel
theorem d_Y_heardFrom_45 : decode tb_Y_heardFrom 45 = .ok (.iinc 4 1, 3) := by decide +kernel
theorem d_Y_heardFrom_48 : decode tb_Y_heardFrom 48 = .ok (.goto (-41), 3) := by decide +kernel
theorem d_Y_heardFrom_51 : decode tb_Y_heardFrom 51 = .ok (.iload_n 3, 1) := by decide +kernel
theorem d_Y_heardFrom_52 : decode tb_Y_heardFrom 52 = .ok (.iconst 1, 1) := by decide +kernel
theorem d_Y_heardFrom_53 : decode tb_Y_heardFrom 53 = .ok (.if_icmp .ne 16, 3) := by decide +kernel
theorem d_Y_heardFrom_56 : decode tb_Y_heardFrom 56 = .ok (.aload_n 0, 1) := by decide +kernel
theorem d_Y_heardFrom_57 : decode tb_Y_heardFrom 57 = .ok (.getfield 119, 3) := by decide +kernel
theorem d_Y_heardFrom_60 : decode tb_Y_heardFrom 60 = .ok (.iload_n 1, 1) := by decide +kernel
theorem d_Y_heardFrom_61 : decode tb_Y_heardFrom 61 = .ok (.iaload, 1) := by decide +kernel
theorem d_Y_heardFrom_62 : decode tb_Y_heardFrom 62 = .ok (.ifCond .ne 7, 3) := by decide +kernel
theorem d_Y_heardFrom_65 : decode tb_Y_heardFrom 65 = .ok (.iload_n 2, 1) := by decide +kernel
theorem d_Y_heardFrom_66 : decode tb_Y_heardFrom 66 = .ok (.goto 4, 3) := by decide +kernel
theorem d_Y_heardFrom_69 : decode tb_Y_heardFrom 69 = .ok (.iconst (-1), 1) := by decide +kernel
theorem d_Y_heardFrom_70 : decode tb_Y_heardFrom 70 = .ok (.ireturn, 1) := by decide +kernel
theorem d_Y_takes_0 : decode tb_Y_takes 0 = .ok (.aload_n 0, 1) := by decide +kernel
theorem d_Y_takes_1 : decode tb_Y_takes 1 = .ok (.getfield 119, 3) := by decide +kernel
theorem d_Y_takes_4 : decode tb_Y_takes 4 = .ok (.iload_n 2, 1) := by decide +kernel
theorem d_Y_takes_5 : decode tb_Y_takes 5 = .ok (.iaload, 1) := by decide +kernel
theorem d_Y_takes_6 : decode tb_Y_takes 6 = .ok (.iconst 2, 1) := by decide +kernel
theorem d_Y_takes_7 : decode tb_Y_takes 7 = .ok (.if_icmp .ne 59, 3) := by decide +kernel
theorem d_Y_takes_10 : decode tb_Y_takes 10 = .ok (.aload_n 0, 1) := by decide +kernel
theorem d_Y_takes_11 : decode tb_Y_takes 11 = .ok (.getfield 122, 3) := by decide +kernel
theorem d_Y_takes_14 : decode tb_Y_takes 14 = .ok (.iload_n 2, 1) := by decide +kernel
theorem d_Y_takes_15 : decode tb_Y_takes 15 = .ok (.iaload, 1) := by decide +kernel
theorem d_Y_takes_16 : decode tb_Y_takes 16 = .ok (.iload_n 1, 1) := by decide +kernel
theorem d_Y_takes_17 : decode tb_Y_takes 17 = .ok (.if_icmp .ne 48, 3) := by decide +kernel
theorem d_Y_takes_20 : decode tb_Y_takes 20 = .ok (.aload_n 0, 1) := by decide +kernel
theorem d_Y_takes_21 : decode tb_Y_takes 21 = .ok (.getfield 77, 3) := by decide +kernel
theorem d_Y_takes_24 : decode tb_Y_takes 24 = .ok (.iload_n 1, 1) := by decide +kernel
theorem d_Y_takes_25 : decode tb_Y_takes 25 = .ok (.baload, 1) := by decide +kernel
theorem d_Y_takes_26 : decode tb_Y_takes 26 = .ok (.ifCond .eq 39, 3) := by decide +kernel
theorem d_Y_takes_29 : decode tb_Y_takes 29 = .ok (.aload_n 0, 1) := by decide +kernel
theorem d_Y_takes_30 : decode tb_Y_takes 30 = .ok (.getfield 89, 3) := by decide +kernel
theorem d_Y_takes_33 : decode tb_Y_takes 33 = .ok (.aload_n 0, 1) := by decide +kernel
theorem d_Y_takes_34 : decode tb_Y_takes 34 = .ok (.getfield 59, 3) := by decide +kernel
theorem d_Y_takes_37 : decode tb_Y_takes 37 = .ok (.iconst 4, 1) := by decide +kernel
theorem d_Y_takes_38 : decode tb_Y_takes 38 = .ok (.iload_n 1, 1) := by decide +kernel
theorem d_Y_takes_39 : decode tb_Y_takes 39 = .ok (.imul, 1) := by decide +kernel
theorem d_Y_takes_40 : decode tb_Y_takes 40 = .ok (.iaload, 1) := by decide +kernel
theorem d_Y_takes_41 : decode tb_Y_takes 41 = .ok (.iaload, 1) := by decide +kernel
theorem d_Y_takes_42 : decode tb_Y_takes 42 = .ok (.iload_n 2, 1) := by decide +kernel
theorem d_Y_takes_43 : decode tb_Y_takes 43 = .ok (.if_icmp .ne 22, 3) := by decide +kernel
theorem d_Y_takes_46 : decode tb_Y_takes 46 = .ok (.aload_n 0, 1) := by decide +kernel
theorem d_Y_takes_47 : decode tb_Y_takes 47 = .ok (.getfield 131, 3) := by decide +kernel
theorem d_Y_takes_50 : decode tb_Y_takes 50 = .ok (.iload_n 1, 1) := by decide +kernel
theorem d_Y_takes_51 : decode tb_Y_takes 51 = .ok (.iconst 1, 1) := by decide +kernel
theorem d_Y_takes_52 : decode tb_Y_takes 52 = .ok (.bastore, 1) := by decide +kernel
theorem d_Y_takes_53 : decode tb_Y_takes 53 = .ok (.aload_n 0, 1) := by decide +kernel
theorem d_Y_takes_54 : decode tb_Y_takes 54 = .ok (.getfield 77, 3) := by decide +kernel
theorem d_Y_takes_57 : decode tb_Y_takes 57 = .ok (.iload_n 1, 1) := by decide +kernel
theorem d_Y_takes_58 : decode tb_Y_takes 58 = .ok (.iconst 0, 1) := by decide +kernel
theorem d_Y_takes_59 : decode tb_Y_takes 59 = .ok (.bastore, 1) := by decide +kernel
theorem d_Y_takes_60 : decode tb_Y_takes 60 = .ok (.aload_n 0, 1) := by decide +kernel
theorem d_Y_takes_61 : decode tb_Y_takes 61 = .ok (.iload_n 1, 1) := by decide +kernel
theorem d_Y_takes_62 : decode tb_Y_takes 62 = .ok (.invokevirtual 168, 3) := by decide +kernel
theorem d_Y_takes_65 : decode tb_Y_takes 65 = .ok (.return_, 1) := by decide +kernel
theorem d_Y_takes_66 : decode tb_Y_takes 66 = .ok (.aload_n 0, 1) := by decide +kernel
theorem d_Y_takes_67 : decode tb_Y_takes 67 = .ok (.getfield 59, 3) := by decide +kernel
theorem d_Y_takes_70 : decode tb_Y_takes 70 = .ok (.iconst 4, 1) := by decide +kernel
theorem d_Y_takes_71 : decode tb_Y_takes 71 = .ok (.iload_n 2, 1) := by decide +kernel
theorem d_Y_takes_72 : decode tb_Y_takes 72 = .ok (.imul, 1) := by decide +kernel
theorem d_Y_takes_73 : decode tb_Y_takes 73 = .ok (.iaload, 1) := by decide +kernel
theorem d_Y_takes_74 : decode tb_Y_takes 74 = .ok (.istore_n 3, 1) := by decide +kernel
theorem d_Y_takes_75 : decode tb_Y_takes 75 = .ok (.aload_n 0, 1) := by decide +kernel
theorem d_Y_takes_76 : decode tb_Y_takes 76 = .ok (.getfield 86, 3) := by decide +kernel
theorem d_Y_takes_79 : decode tb_Y_takes 79 = .ok (.iload_n 3, 1) := by decide +kernel
theorem d_Y_takes_80 : decode tb_Y_takes 80 = .ok (.iaload, 1) := by decide +kernel
theorem d_Y_takes_81 : decode tb_Y_takes 81 = .ok (.iconst 2, 1) := by decide +kernel
theorem d_Y_takes_82 : decode tb_Y_takes 82 = .ok (.if_icmp .ne 12, 3) := by decide +kernel
theorem d_Y_takes_85 : decode tb_Y_takes 85 = .ok (.aload_n 0, 1) := by decide +kernel
theorem d_Y_takes_86 : decode tb_Y_takes 86 = .ok (.iload_n 1, 1) := by decide +kernel
theorem d_Y_takes_87 : decode tb_Y_takes 87 = .ok (.iload_n 2, 1) := by decide +kernel
theorem d_Y_takes_88 : decode tb_Y_takes 88 = .ok (.invokevirtual 213, 3) := by decide +kernel
theorem d_Y_takes_91 : decode tb_Y_takes 91 = .ok (.goto 115, 3) := by decide +kernel
theorem d_Y_takes_94 : decode tb_Y_takes 94 = .ok (.aload_n 0, 1) := by decide +kernel
theorem d_Y_takes_95 : decode tb_Y_takes 95 = .ok (.getfield 86, 3) := by decide +kernel
theorem d_Y_takes_98 : decode tb_Y_takes 98 = .ok (.iload_n 3, 1) := by decide +kernel
theorem d_Y_takes_99 : decode tb_Y_takes 99 = .ok (.iaload, 1) := by decide +kernel
theorem d_Y_takes_100 : decode tb_Y_takes 100 = .ok (.iconst 1, 1) := by decide +kernel
theorem d_Y_takes_101 : decode tb_Y_takes 101 = .ok (.if_icmp .ne 23, 3) := by decide +kernel
theorem d_Y_takes_104 : decode tb_Y_takes 104 = .ok (.aload_n 0, 1) := by decide +kernel
theorem d_Y_takes_105 : decode tb_Y_takes 105 = .ok (.getfield 35, 3) := by decide +kernel
theorem d_Y_takes_108 : decode tb_Y_takes 108 = .ok (.iload_n 1, 1) := by decide +kernel
theorem d_Y_takes_109 : decode tb_Y_takes 109 = .ok (.iaload, 1) := by decide +kernel
theorem d_Y_takes_110 : decode tb_Y_takes 110 = .ok (.sipush 255, 3) := by decide +kernel
theorem d_Y_takes_113 : decode tb_Y_takes 113 = .ok (.if_icmp .eq 11, 3) := by decide +kernel
theorem d_Y_takes_116 : decode tb_Y_takes 116 = .ok (.aload_n 0, 1) := by decide +kernel
theorem d_Y_takes_117 : decode tb_Y_takes 117 = .ok (.iload_n 1, 1) := by decide +kernel
theorem d_Y_takes_118 : decode tb_Y_takes 118 = .ok (.invokevirtual 150, 3) := by decide +kernel
theorem d_Y_takes_121 : decode tb_Y_takes 121 = .ok (.goto 85, 3) := by decide +kernel
theorem d_Y_takes_124 : decode tb_Y_takes 124 = .ok (.aload_n 0, 1) := by decide +kernel
theorem d_Y_takes_125 : decode tb_Y_takes 125 = .ok (.getfield 89, 3) := by decide +kernel
theorem d_Y_takes_128 : decode tb_Y_takes 128 = .ok (.iload_n 3, 1) := by decide +kernel
theorem d_Y_takes_129 : decode tb_Y_takes 129 = .ok (.iaload, 1) := by decide +kernel
theorem d_Y_takes_130 : decode tb_Y_takes 130 = .ok (.iload_n 1, 1) := by decide +kernel
theorem d_Y_takes_131 : decode tb_Y_takes 131 = .ok (.if_icmp .ne 75, 3) := by decide +kernel
theorem d_Y_takes_134 : decode tb_Y_takes 134 = .ok (.aload_n 0, 1) := by decide +kernel
theorem d_Y_takes_135 : decode tb_Y_takes 135 = .ok (.getfield 74, 3) := by decide +kernel
theorem d_Y_takes_138 : decode tb_Y_takes 138 = .ok (.iload_n 1, 1) := by decide +kernel
theorem d_Y_takes_139 : decode tb_Y_takes 139 = .ok (.iload_n 2, 1) := by decide +kernel
theorem d_Y_takes_140 : decode tb_Y_takes 140 = .ok (.iastore, 1) := by decide +kernel
theorem d_Y_takes_141 : decode tb_Y_takes 141 = .ok (.aload_n 0, 1) := by decide +kernel
theorem d_Y_takes_142 : decode tb_Y_takes 142 = .ok (.getfield 26, 3) := by decide +kernel
theorem d_Y_takes_145 : decode tb_Y_takes 145 = .ok (.bipush 7, 2) := by decide +kernel
theorem d_Y_takes_147 : decode tb_Y_takes 147 = .ok (.iload_n 1, 1) := by decide +kernel
theorem d_Y_takes_148 : decode tb_Y_takes 148 = .ok (.imul, 1) := by decide +kernel
theorem d_Y_takes_149 : decode tb_Y_takes 149 = .ok (.iload_n 2, 1) := by decide +kernel
theorem d_Y_takes_150 : decode tb_Y_takes 150 = .ok (.iadd, 1) := by decide +kernel
theorem d_Y_takes_151 : decode tb_Y_takes 151 = .ok (.iaload, 1) := by decide +kernel
theorem d_Y_takes_152 : decode tb_Y_takes 152 = .ok (.aload_n 0, 1) := by decide +kernel
theorem d_Y_takes_153 : decode tb_Y_takes 153 = .ok (.getfield 83, 3) := by decide +kernel
theorem d_Y_takes_156 : decode tb_Y_takes 156 = .ok (.iload_n 3, 1) := by decide +kernel
theorem d_Y_takes_157 : decode tb_Y_takes 157 = .ok (.iaload, 1) := by decide +kernel
theorem d_Y_takes_158 : decode tb_Y_takes 158 = .ok (.if_icmp .ne 4, 3) := by decide +kernel
theorem d_Y_takes_161 : decode tb_Y_takes 161 = .ok (.return_, 1) := by decide +kernel
theorem d_Y_takes_162 : decode tb_Y_takes 162 = .ok (.aload_n 0, 1) := by decide +kernel
theorem d_Y_takes_163 : decode tb_Y_takes 163 = .ok (.getfield 26, 3) := by decide +kernel
theorem d_Y_takes_166 : decode tb_Y_takes 166 = .ok (.bipush 7, 2) := by decide +kernel
theorem d_Y_takes_168 : decode tb_Y_takes 168 = .ok (.iload_n 1, 1) := by decide +kernel
theorem d_Y_takes_169 : decode tb_Y_takes 169 = .ok (.imul, 1) := by decide +kernel
theorem d_Y_takes_170 : decode tb_Y_takes 170 = .ok (.iload_n 2, 1) := by decide +kernel
theorem d_Y_takes_171 : decode tb_Y_takes 171 = .ok (.iadd, 1) := by decide +kernel
theorem d_Y_takes_172 : decode tb_Y_takes 172 = .ok (.aload_n 0, 1) := by decide +kernel
theorem d_Y_takes_173 : decode tb_Y_takes 173 = .ok (.getfield 83, 3) := by decide +kernel
theorem d_Y_takes_176 : decode tb_Y_takes 176 = .ok (.iload_n 3, 1) := by decide +kernel
theorem d_Y_takes_177 : decode tb_Y_takes 177 = .ok (.iaload, 1) := by decide +kernel
theorem d_Y_takes_178 : decode tb_Y_takes 178 = .ok (.iastore, 1) := by decide +kernel
theorem d_Y_takes_179 : decode tb_Y_takes 179 = .ok (.aload_n 0, 1) := by decide +kernel
theorem d_Y_takes_180 : decode tb_Y_takes 180 = .ok (.getfield 86, 3) := by decide +kernel
theorem d_Y_takes_183 : decode tb_Y_takes 183 = .ok (.iload_n 3, 1) := by decide +kernel
theorem d_Y_takes_184 : decode tb_Y_takes 184 = .ok (.iaload, 1) := by decide +kernel
theorem d_Y_takes_185 : decode tb_Y_takes 185 = .ok (.iconst 3, 1) := by decide +kernel
theorem d_Y_takes_186 : decode tb_Y_takes 186 = .ok (.if_icmp .ne 13, 3) := by decide +kernel
theorem d_Y_takes_189 : decode tb_Y_takes 189 = .ok (.aload_n 0, 1) := by decide +kernel
theorem d_Y_takes_190 : decode tb_Y_takes 190 = .ok (.iload_n 1, 1) := by decide +kernel
theorem d_Y_takes_191 : decode tb_Y_takes 191 = .ok (.iload_n 2, 1) := by decide +kernel
theorem d_Y_takes_192 : decode tb_Y_takes 192 = .ok (.iload_n 3, 1) := by decide +kernel
theorem d_Y_takes_193 : decode tb_Y_takes 193 = .ok (.invokevirtual 216, 3) := by decide +kernel
theorem d_Y_takes_196 : decode tb_Y_takes 196 = .ok (.goto 10, 3) := by decide +kernel
theorem d_Y_takes_199 : decode tb_Y_takes 199 = .ok (.aload_n 0, 1) := by decide +kernel
theorem d_Y_takes_200 : decode tb_Y_takes 200 = .ok (.iload_n 1, 1) := by decide +kernel
theorem d_Y_takes_201 : decode tb_Y_takes 201 = .ok (.iload_n 2, 1) := by decide +kernel
theorem d_Y_takes_202 : decode tb_Y_takes 202 = .ok (.iload_n 3, 1) := by decide +kernel
theorem d_Y_takes_203 : decode tb_Y_takes 203 = .ok (.invokevirtual 220, 3) := by decide +kernel
theorem d_Y_takes_206 : decode tb_Y_takes 206 = .ok (.return_, 1) := by decide +kernel
theorem d_Y_slot_0 : decode tb_Y_slot 0 = .ok (.aload_n 0, 1) := by decide +kernel
theorem d_Y_slot_1 : decode tb_Y_slot 1 = .ok (.dup, 1) := by decide +kernel
theorem d_Y_slot_2 : decode tb_Y_slot 2 = .ok (.getfield 223, 3) := by decide +kernel
theorem d_Y_slot_5 : decode tb_Y_slot 5 = .ok (.iconst 1, 1) := by decide +kernel
theorem d_Y_slot_6 : decode tb_Y_slot 6 = .ok (.iadd, 1) := by decide +kernel
theorem d_Y_slot_7 : decode tb_Y_slot 7 = .ok (.putfield 223, 3) := by decide +kernel
theorem d_Y_slot_10 : decode tb_Y_slot 10 = .ok (.iconst 0, 1) := by decide +kernel
theorem d_Y_slot_11 : decode tb_Y_slot 11 = .ok (.istore_n 1, 1) := by decide +kernel
theorem d_Y_slot_12 : decode tb_Y_slot 12 = .ok (.iload_n 1, 1) := by decide +kernel
theorem d_Y_slot_13 : decode tb_Y_slot 13 = .ok (.bipush 7, 2) := by decide +kernel
theorem d_Y_slot_15 : decode tb_Y_slot 15 = .ok (.if_icmp .ge 35, 3) := by decide +kernel
theorem d_Y_slot_18 : decode tb_Y_slot 18 = .ok (.aload_n 0, 1) := by decide +kernel
theorem d_Y_slot_19 : decode tb_Y_slot 19 = .ok (.getfield 128, 3) := by decide +kernel
theorem d_Y_slot_22 : decode tb_Y_slot 22 = .ok (.iload_n 1, 1) := by decide +kernel
theorem d_Y_slot_23 : decode tb_Y_slot 23 = .ok (.aload_n 0, 1) := by decide +kernel
theorem d_Y_slot_24 : decode tb_Y_slot 24 = .ok (.getfield 77, 3) := by decide +kernel
theorem d_Y_slot_27 : decode tb_Y_slot 27 = .ok (.iload_n 1, 1) := by decide +kernel
theorem d_Y_slot_28 : decode tb_Y_slot 28 = .ok (.baload, 1) := by decide +kernel
theorem d_Y_slot_29 : decode tb_Y_slot 29 = .ok (.bastore, 1) := by decide +kernel
theorem d_Y_slot_30 : decode tb_Y_slot 30 = .ok (.aload_n 0, 1) := by decide +kernel
theorem d_Y_slot_31 : decode tb_Y_slot 31 = .ok (.getfield 131, 3) := by decide +kernel
theorem d_Y_slot_34 : decode tb_Y_slot 34 = .ok (.iload_n 1, 1) := by decide +kernel
theorem d_Y_slot_35 : decode tb_Y_slot 35 = .ok (.iconst 0, 1) := by decide +kernel
theorem d_Y_slot_36 : decode tb_Y_slot 36 = .ok (.bastore, 1) := by decide +kernel
theorem d_Y_slot_37 : decode tb_Y_slot 37 = .ok (.aload_n 0, 1) := by decide +kernel
theorem d_Y_slot_38 : decode tb_Y_slot 38 = .ok (.getfield 119, 3) := by decide +kernel
theorem d_Y_slot_41 : decode tb_Y_slot 41 = .ok (.iload_n 1, 1) := by decide +kernel
theorem d_Y_slot_42 : decode tb_Y_slot 42 = .ok (.iconst 0, 1) := by decide +kernel
theorem d_Y_slot_43 : decode tb_Y_slot 43 = .ok (.iastore, 1) := by decide +kernel
theorem d_Y_slot_44 : decode tb_Y_slot 44 = .ok (.iinc 1 1, 3) := by decide +kernel
theorem d_Y_slot_47 : decode tb_Y_slot 47 = .ok (.goto (-35), 3) := by decide +kernel
theorem d_Y_slot_50 : decode tb_Y_slot 50 = .ok (.iconst 0, 1) := by decide +kernel
theorem d_Y_slot_51 : decode tb_Y_slot 51 = .ok (.istore_n 1, 1) := by decide +kernel
theorem d_Y_slot_52 : decode tb_Y_slot 52 = .ok (.iload_n 1, 1) := by decide +kernel
theorem d_Y_slot_53 : decode tb_Y_slot 53 = .ok (.bipush 7, 2) := by decide +kernel
theorem d_Y_slot_55 : decode tb_Y_slot 55 = .ok (.if_icmp .ge 23, 3) := by decide +kernel
theorem d_Y_slot_58 : decode tb_Y_slot 58 = .ok (.aload_n 0, 1) := by decide +kernel
theorem d_Y_slot_59 : decode tb_Y_slot 59 = .ok (.getfield 29, 3) := by decide +kernel
theorem d_Y_slot_62 : decode tb_Y_slot 62 = .ok (.iload_n 1, 1) := by decide +kernel
theorem d_Y_slot_63 : decode tb_Y_slot 63 = .ok (.baload, 1) := by decide +kernel
theorem d_Y_slot_64 : decode tb_Y_slot 64 = .ok (.ifCond .ne 8, 3) := by decide +kernel
theorem d_Y_slot_67 : decode tb_Y_slot 67 = .ok (.aload_n 0, 1) := by decide +kernel
theorem d_Y_slot_68 : decode tb_Y_slot 68 = .ok (.iload_n 1, 1) := by decide +kernel
theorem d_Y_slot_69 : decode tb_Y_slot 69 = .ok (.invokevirtual 226, 3) := by decide +kernel
theorem d_Y_slot_72 : decode tb_Y_slot 72 = .ok (.iinc 1 1, 3) := by decide +kernel
theorem d_Y_slot_75 : decode tb_Y_slot 75 = .ok (.goto (-23), 3) := by decide +kernel
theorem d_Y_slot_78 : decode tb_Y_slot 78 = .ok (.iconst 0, 1) := by decide +kernel
theorem d_Y_slot_79 : decode tb_Y_slot 79 = .ok (.istore_n 1, 1) := by decide +kernel
theorem d_Y_slot_80 : decode tb_Y_slot 80 = .ok (.iload_n 1, 1) := by decide +kernel
theorem d_Y_slot_81 : decode tb_Y_slot 81 = .ok (.bipush 7, 2) := by decide +kernel
theorem d_Y_slot_83 : decode tb_Y_slot 83 = .ok (.if_icmp .ge 38, 3) := by decide +kernel
theorem d_Y_slot_86 : decode tb_Y_slot 86 = .ok (.aload_n 0, 1) := by decide +kernel
theorem d_Y_slot_87 : decode tb_Y_slot 87 = .ok (.getfield 29, 3) := by decide +kernel
theorem d_Y_slot_90 : decode tb_Y_slot 90 = .ok (.iload_n 1, 1) := by decide +kernel
theorem d_Y_slot_91 : decode tb_Y_slot 91 = .ok (.baload, 1) := by decide +kernel
theorem d_Y_slot_92 : decode tb_Y_slot 92 = .ok (.ifCond .eq 7, 3) := by decide +kernel
theorem d_Y_slot_95 : decode tb_Y_slot 95 = .ok (.iconst (-1), 1) := by decide +kernel
theorem d_Y_slot_96 : decode tb_Y_slot 96 = .ok (.goto 8, 3) := by decide +kernel
theorem d_Y_slot_99 : decode tb_Y_slot 99 = .ok (.aload_n 0, 1) := by decide +kernel
theorem d_Y_slot_100 : decode tb_Y_slot 100 = .ok (.iload_n 1, 1) := by decide +kernel
theorem d_Y_slot_101 : decode tb_Y_slot 101 = .ok (.invokevirtual 229, 3) := by decide +kernel
theorem d_Y_slot_104 : decode tb_Y_slot 104 = .ok (.istore_n 2, 1) := by decide +kernel
theorem d_Y_slot_105 : decode tb_Y_slot 105 = .ok (.iload_n 2, 1) := by decide +kernel
theorem d_Y_slot_106 : decode tb_Y_slot 106 = .ok (.ifCond .lt 9, 3) := by decide +kernel
theorem d_Y_slot_109 : decode tb_Y_slot 109 = .ok (.aload_n 0, 1) := by decide +kernel
theorem d_Y_slot_110 : decode tb_Y_slot 110 = .ok (.iload_n 1, 1) := by decide +kernel
theorem d_Y_slot_111 : decode tb_Y_slot 111 = .ok (.iload_n 2, 1) := by decide +kernel
theorem d_Y_slot_112 : decode tb_Y_slot 112 = .ok (.invokevirtual 232, 3) := by decide +kernel
theorem d_Y_slot_115 : decode tb_Y_slot 115 = .ok (.iinc 1 1, 3) := by decide +kernel
theorem d_Y_slot_118 : decode tb_Y_slot 118 = .ok (.goto (-38), 3) := by decide +kernel
theorem d_Y_slot_121 : decode tb_Y_slot 121 = .ok (.iconst 0, 1) := by decide +kernel
theorem d_Y_slot_122 : decode tb_Y_slot 122 = .ok (.istore_n 1, 1) := by decide +kernel
theorem d_Y_slot_123 : decode tb_Y_slot 123 = .ok (.iload_n 1, 1) := by decide +kernel
theorem d_Y_slot_124 : decode tb_Y_slot 124 = .ok (.bipush 7, 2) := by decide +kernel
theorem d_Y_slot_126 : decode tb_Y_slot 126 = .ok (.if_icmp .ge 60, 3) := by decide +kernel
theorem d_Y_slot_129 : decode tb_Y_slot 129 = .ok (.aload_n 0, 1) := by decide +kernel
theorem d_Y_slot_130 : decode tb_Y_slot 130 = .ok (.getfield 119, 3) := by decide +kernel
theorem d_Y_slot_133 : decode tb_Y_slot 133 = .ok (.iload_n 1, 1) := by decide +kernel
theorem d_Y_slot_134 : decode tb_Y_slot 134 = .ok (.iaload, 1) := by decide +kernel
theorem d_Y_slot_135 : decode tb_Y_slot 135 = .ok (.iconst 1, 1) := by decide +kernel
theorem d_Y_slot_136 : decode tb_Y_slot 136 = .ok (.if_icmp .ne 27, 3) := by decide +kernel
theorem d_Y_slot_139 : decode tb_Y_slot 139 = .ok (.aload_n 0, 1) := by decide +kernel
theorem d_Y_slot_140 : decode tb_Y_slot 140 = .ok (.getfield 89, 3) := by decide +kernel
theorem d_Y_slot_143 : decode tb_Y_slot 143 = .ok (.aload_n 0, 1) := by decide +kernel
theorem d_Y_slot_144 : decode tb_Y_slot 144 = .ok (.getfield 59, 3) := by decide +kernel
theorem d_Y_slot_147 : decode tb_Y_slot 147 = .ok (.iconst 4, 1) := by decide +kernel
theorem d_Y_slot_148 : decode tb_Y_slot 148 = .ok (.iload_n 1, 1) := by decide +kernel
theorem d_Y_slot_149 : decode tb_Y_slot 149 = .ok (.imul, 1) := by decide +kernel
theorem d_Y_slot_150 : decode tb_Y_slot 150 = .ok (.iaload, 1) := by decide +kernel
theorem d_Y_slot_151 : decode tb_Y_slot 151 = .ok (.iaload, 1) := by decide +kernel
theorem d_Y_slot_152 : decode tb_Y_slot 152 = .ok (.ifCond .ge 11, 3) := by decide +kernel
theorem d_Y_slot_155 : decode tb_Y_slot 155 = .ok (.aload_n 0, 1) := by decide +kernel
theorem d_Y_slot_156 : decode tb_Y_slot 156 = .ok (.iload_n 1, 1) := by decide +kernel
theorem d_Y_slot_157 : decode tb_Y_slot 157 = .ok (.invokevirtual 168, 3) := by decide +kernel
theorem d_Y_slot_160 : decode tb_Y_slot 160 = .ok (.goto 20, 3) := by decide +kernel
theorem d_Y_slot_163 : decode tb_Y_slot 163 = .ok (.aload_n 0, 1) := by decide +kernel
theorem d_Y_slot_164 : decode tb_Y_slot 164 = .ok (.getfield 119, 3) := by decide +kernel
theorem d_Y_slot_167 : decode tb_Y_slot 167 = .ok (.iload_n 1, 1) := by decide +kernel
theorem d_Y_slot_168 : decode tb_Y_slot 168 = .ok (.iaload, 1) := by decide +kernel
theorem d_Y_slot_169 : decode tb_Y_slot 169 = .ok (.iconst 1, 1) := by decide +kernel
theorem d_Y_slot_170 : decode tb_Y_slot 170 = .ok (.if_icmp .ne 10, 3) := by decide +kernel
theorem d_Y_slot_173 : decode tb_Y_slot 173 = .ok (.aload_n 0, 1) := by decide +kernel
theorem d_Y_slot_174 : decode tb_Y_slot 174 = .ok (.getfield 77, 3) := by decide +kernel
theorem d_Y_slot_177 : decode tb_Y_slot 177 = .ok (.iload_n 1, 1) := by decide +kernel
theorem d_Y_slot_178 : decode tb_Y_slot 178 = .ok (.iconst 1, 1) := by decide +kernel
theorem d_Y_slot_179 : decode tb_Y_slot 179 = .ok (.bastore, 1) := by decide +kernel
theorem d_Y_slot_180 : decode tb_Y_slot 180 = .ok (.iinc 1 1, 3) := by decide +kernel
theorem d_Y_slot_183 : decode tb_Y_slot 183 = .ok (.goto (-60), 3) := by decide +kernel
theorem d_Y_slot_186 : decode tb_Y_slot 186 = .ok (.iconst 0, 1) := by decide +kernel
theorem d_Y_slot_187 : decode tb_Y_slot 187 = .ok (.istore_n 1, 1) := by decide +kernel
theorem d_Y_slot_188 : decode tb_Y_slot 188 = .ok (.iload_n 1, 1) := by decide +kernel
theorem d_Y_slot_189 : decode tb_Y_slot 189 = .ok (.bipush 7, 2) := by decide +kernel
theorem d_Y_slot_191 : decode tb_Y_slot 191 = .ok (.if_icmp .ge 41, 3) := by decide +kernel
theorem d_Y_slot_194 : decode tb_Y_slot 194 = .ok (.aload_n 0, 1) := by decide +kernel
theorem d_Y_slot_195 : decode tb_Y_slot 195 = .ok (.getfield 29, 3) := by decide +kernel
theorem d_Y_slot_198 : decode tb_Y_slot 198 = .ok (.iload_n 1, 1) := by decide +kernel
theorem d_Y_slot_199 : decode tb_Y_slot 199 = .ok (.baload, 1) := by decide +kernel
theorem d_Y_slot_200 : decode tb_Y_slot 200 = .ok (.ifCond .ne 26, 3) := by decide +kernel
theorem d_Y_slot_203 : decode tb_Y_slot 203 = .ok (.aload_n 0, 1) := by decide +kernel
theorem d_Y_slot_204 : decode tb_Y_slot 204 = .ok (.getfield 128, 3) := by decide +kernel
theorem d_Y_slot_207 : decode tb_Y_slot 207 = .ok (.iload_n 1, 1) := by decide +kernel
theorem d_Y_slot_208 : decode tb_Y_slot 208 = .ok (.baload, 1) := by decide +kernel
theorem d_Y_slot_209 : decode tb_Y_slot 209 = .ok (.ifCond .eq 17, 3) := by decide +kernel
theorem d_Y_slot_212 : decode tb_Y_slot 212 = .ok (.aload_n 0, 1) := by decide +kernel
theorem d_Y_slot_213 : decode tb_Y_slot 213 = .ok (.getfield 131, 3) := by decide +kernel
theorem d_Y_slot_216 : decode tb_Y_slot 216 = .ok (.iload_n 1, 1) := by decide +kernel
theorem d_Y_slot_217 : decode tb_Y_slot 217 = .ok (.baload, 1) := by decide +kernel
theorem d_Y_slot_218 : decode tb_Y_slot 218 = .ok (.ifCond .ne 8, 3) := by decide +kernel
theorem d_Y_slot_221 : decode tb_Y_slot 221 = .ok (.aload_n 0, 1) := by decide +kernel
theorem d_Y_slot_222 : decode tb_Y_slot 222 = .ok (.iload_n 1, 1) := by decide +kernel
theorem d_Y_slot_223 : decode tb_Y_slot 223 = .ok (.invokevirtual 235, 3) := by decide +kernel
theorem d_Y_slot_226 : decode tb_Y_slot 226 = .ok (.iinc 1 1, 3) := by decide +kernel
theorem d_Y_slot_229 : decode tb_Y_slot 229 = .ok (.goto (-41), 3) := by decide +kernel
theorem d_Y_slot_232 : decode tb_Y_slot 232 = .ok (.iconst 0, 1) := by decide +kernel
theorem d_Y_slot_233 : decode tb_Y_slot 233 = .ok (.istore_n 1, 1) := by decide +kernel
theorem d_Y_slot_234 : decode tb_Y_slot 234 = .ok (.iload_n 1, 1) := by decide +kernel
theorem d_Y_slot_235 : decode tb_Y_slot 235 = .ok (.bipush 7, 2) := by decide +kernel
theorem d_Y_slot_237 : decode tb_Y_slot 237 = .ok (.if_icmp .ge 43, 3) := by decide +kernel
theorem d_Y_slot_240 : decode tb_Y_slot 240 = .ok (.aload_n 0, 1) := by decide +kernel
theorem d_Y_slot_241 : decode tb_Y_slot 241 = .ok (.getfield 29, 3) := by decide +kernel
theorem d_Y_slot_244 : decode tb_Y_slot 244 = .ok (.iload_n 1, 1) := by decide +kernel
theorem d_Y_slot_245 : decode tb_Y_slot 245 = .ok (.baload, 1) := by decide +kernel
theorem d_Y_slot_246 : decode tb_Y_slot 246 = .ok (.ifCond .ne 8, 3) := by decide +kernel
theorem d_Y_slot_249 : decode tb_Y_slot 249 = .ok (.aload_n 0, 1) := by decide +kernel
theorem d_Y_slot_250 : decode tb_Y_slot 250 = .ok (.iload_n 1, 1) := by decide +kernel
theorem d_Y_slot_251 : decode tb_Y_slot 251 = .ok (.invokevirtual 238, 3) := by decide +kernel
theorem d_Y_slot_254 : decode tb_Y_slot 254 = .ok (.aload_n 0, 1) := by decide +kernel
theorem d_Y_slot_255 : decode tb_Y_slot 255 = .ok (.getfield 125, 3) := by decide +kernel
theorem d_Y_slot_258 : decode tb_Y_slot 258 = .ok (.iload_n 1, 1) := by decide +kernel
theorem d_Y_slot_259 : decode tb_Y_slot 259 = .ok (.aload_n 0, 1) := by decide +kernel
theorem d_Y_slot_260 : decode tb_Y_slot 260 = .ok (.getfield 119, 3) := by decide +kernel
theorem d_Y_slot_263 : decode tb_Y_slot 263 = .ok (.iload_n 1, 1) := by decide +kernel
theorem d_Y_slot_264 : decode tb_Y_slot 264 = .ok (.iaload, 1) := by decide +kernel
theorem d_Y_slot_265 : decode tb_Y_slot 265 = .ok (.ifCond .le 7, 3) := by decide +kernel
theorem d_Y_slot_268 : decode tb_Y_slot 268 = .ok (.iconst 1, 1) := by decide +kernel
theorem d_Y_slot_269 : decode tb_Y_slot 269 = .ok (.goto 4, 3) := by decide +kernel
theorem d_Y_slot_272 : decode tb_Y_slot 272 = .ok (.iconst 0, 1) := by decide +kernel
theorem d_Y_slot_273 : decode tb_Y_slot 273 = .ok (.bastore, 1) := by decide +kernel
theorem d_Y_slot_274 : decode tb_Y_slot 274 = .ok (.iinc 1 1, 3) := by decide +kernel
theorem d_Y_slot_277 : decode tb_Y_slot 277 = .ok (.goto (-43), 3) := by decide +kernel
theorem d_Y_slot_280 : decode tb_Y_slot 280 = .ok (.return_, 1) := by decide +kernel
theorem d_Y_unheard_0 : decode tb_Y_unheard 0 = .ok (.aload_n 0, 1) := by decide +kernel
theorem d_Y_unheard_1 : decode tb_Y_unheard 1 = .ok (.getfield 77, 3) := by decide +kernel
theorem d_Y_unheard_4 : decode tb_Y_unheard 4 = .ok (.iload_n 1, 1) := by decide +kernel
theorem d_Y_unheard_5 : decode tb_Y_unheard 5 = .ok (.iconst 0, 1) := by decide +kernel
theorem d_Y_unheard_6 : decode tb_Y_unheard 6 = .ok (.bastore, 1) := by decide +kernel
theorem d_Y_unheard_7 : decode tb_Y_unheard 7 = .ok (.aload_n 0, 1) := by decide +kernel
theorem d_Y_unheard_8 : decode tb_Y_unheard 8 = .ok (.getfield 71, 3) := by decide +kernel
theorem d_Y_unheard_11 : decode tb_Y_unheard 11 = .ok (.iload_n 1, 1) := by decide +kernel
theorem d_Y_unheard_12 : decode tb_Y_unheard 12 = .ok (.dup2, 1) := by decide +kernel
theorem d_Y_unheard_13 : decode tb_Y_unheard 13 = .ok (.iaload, 1) := by decide +kernel
theorem d_Y_unheard_14 : decode tb_Y_unheard 14 = .ok (.iconst 1, 1) := by decide +kernel
theorem d_Y_unheard_15 : decode tb_Y_unheard 15 = .ok (.iadd, 1) := by decide +kernel
theorem d_Y_unheard_16 : decode tb_Y_unheard 16 = .ok (.iastore, 1) := by decide +kernel
theorem d_Y_unheard_17 : decode tb_Y_unheard 17 = .ok (.aload_n 0, 1) := by decide +kernel
theorem d_Y_unheard_18 : decode tb_Y_unheard 18 = .ok (.getfield 71, 3) := by decide +kernel
theorem d_Y_unheard_21 : decode tb_Y_unheard 21 = .ok (.iload_n 1, 1) := by decide +kernel
theorem d_Y_unheard_22 : decode tb_Y_unheard 22 = .ok (.iaload, 1) := by decide +kernel
theorem d_Y_unheard_23 : decode tb_Y_unheard 23 = .ok (.iconst 4, 1) := by decide +kernel
theorem d_Y_unheard_24 : decode tb_Y_unheard 24 = .ok (.if_icmp .ne 9, 3) := by decide +kernel
theorem d_Y_unheard_27 : decode tb_Y_unheard 27 = .ok (.aload_n 0, 1) := by decide +kernel
theorem d_Y_unheard_28 : decode tb_Y_unheard 28 = .ok (.iload_n 1, 1) := by decide +kernel
theorem d_Y_unheard_29 : decode tb_Y_unheard 29 = .ok (.invokevirtual 207, 3) := by decide +kernel
theorem d_Y_unheard_32 : decode tb_Y_unheard 32 = .ok (.return_, 1) := by decide +kernel
theorem d_Y_unheard_33 : decode tb_Y_unheard 33 = .ok (.aload_n 0, 1) := by decide +kernel
theorem d_Y_unheard_34 : decode tb_Y_unheard 34 = .ok (.getfield 68, 3) := by decide +kernel
theorem d_Y_unheard_37 : decode tb_Y_unheard 37 = .ok (.iload_n 1, 1) := by decide +kernel
theorem d_Y_unheard_38 : decode tb_Y_unheard 38 = .ok (.iconst 0, 1) := by decide +kernel
theorem d_Y_unheard_39 : decode tb_Y_unheard 39 = .ok (.iastore, 1) := by decide +kernel
theorem d_Y_unheard_40 : decode tb_Y_unheard 40 = .ok (.aload_n 0, 1) := by decide +kernel
theorem d_Y_unheard_41 : decode tb_Y_unheard 41 = .ok (.getfield 65, 3) := by decide +kernel
theorem d_Y_unheard_44 : decode tb_Y_unheard 44 = .ok (.iload_n 1, 1) := by decide +kernel
theorem d_Y_unheard_45 : decode tb_Y_unheard 45 = .ok (.aload_n 0, 1) := by decide +kernel
theorem d_Y_unheard_46 : decode tb_Y_unheard 46 = .ok (.iconst 4, 1) := by decide +kernel
theorem d_Y_unheard_47 : decode tb_Y_unheard 47 = .ok (.invokevirtual 158, 3) := by decide +kernel
theorem d_Y_unheard_50 : decode tb_Y_unheard 50 = .ok (.iastore, 1) := by decide +kernel
theorem d_Y_unheard_51 : decode tb_Y_unheard 51 = .ok (.return_, 1) := by decide +kernel
theorem d_Y_later_0 : decode tb_Y_later 0 = .ok (.aload_n 0, 1) := by decide +kernel
theorem d_Y_later_1 : decode tb_Y_later 1 = .ok (.iload_n 1, 1) := by decide +kernel
theorem d_Y_later_2 : decode tb_Y_later 2 = .ok (.invokevirtual 241, 3) := by decide +kernel
theorem d_Y_later_5 : decode tb_Y_later 5 = .ok (.iload_n 1, 1) := by decide +kernel
theorem d_Y_later_6 : decode tb_Y_later 6 = .ok (.ifCond .le 47, 3) := by decide +kernel
theorem d_Y_later_9 : decode tb_Y_later 9 = .ok (.aload_n 0, 1) := by decide +kernel
theorem d_Y_later_10 : decode tb_Y_later 10 = .ok (.getfield 35, 3) := by decide +kernel
theorem d_Y_later_13 : decode tb_Y_later 13 = .ok (.iload_n 1, 1) := by decide +kernel
theorem d_Y_later_14 : decode tb_Y_later 14 = .ok (.iaload, 1) := by decide +kernel
theorem d_Y_later_15 : decode tb_Y_later 15 = .ok (.sipush 255, 3) := by decide +kernel
theorem d_Y_later_18 : decode tb_Y_later 18 = .ok (.if_icmp .ne 35, 3) := by decide +kernel
theorem d_Y_later_21 : decode tb_Y_later 21 = .ok (.aload_n 0, 1) := by decide +kernel
theorem d_Y_later_22 : decode tb_Y_later 22 = .ok (.getfield 223, 3) := by decide +kernel
theorem d_Y_later_25 : decode tb_Y_later 25 = .ok (.bipush 16, 2) := by decide +kernel
theorem d_Y_later_27 : decode tb_Y_later 27 = .ok (.irem, 1) := by decide +kernel
theorem d_Y_later_28 : decode tb_Y_later 28 = .ok (.ifCond .ne 25, 3) := by decide +kernel
theorem d_Y_later_31 : decode tb_Y_later 31 = .ok (.aload_n 0, 1) := by decide +kernel
theorem d_Y_later_32 : decode tb_Y_later 32 = .ok (.iload_n 1, 1) := by decide +kernel
theorem d_Y_later_33 : decode tb_Y_later 33 = .ok (.iconst 1, 1) := by decide +kernel
theorem d_Y_later_34 : decode tb_Y_later 34 = .ok (.invokevirtual 178, 3) := by decide +kernel
theorem d_Y_later_37 : decode tb_Y_later 37 = .ok (.ifCond .ne 16, 3) := by decide +kernel
theorem d_Y_later_40 : decode tb_Y_later 40 = .ok (.aload_n 0, 1) := by decide +kernel
theorem d_Y_later_41 : decode tb_Y_later 41 = .ok (.iconst 1, 1) := by decide +kernel
theorem d_Y_later_42 : decode tb_Y_later 42 = .ok (.iconst (-1), 1) := by decide +kernel
theorem d_Y_later_43 : decode tb_Y_later 43 = .ok (.invokevirtual 182, 3) := by decide +kernel
theorem d_Y_later_46 : decode tb_Y_later 46 = .ok (.istore_n 2, 1) := by decide +kernel
theorem d_Y_later_47 : decode tb_Y_later 47 = .ok (.aload_n 0, 1) := by decide +kernel
theorem d_Y_later_48 : decode tb_Y_later 48 = .ok (.iload_n 1, 1) := by decide +kernel
theorem d_Y_later_49 : decode tb_Y_later 49 = .ok (.iload_n 2, 1) := by decide +kernel
theorem d_Y_later_50 : decode tb_Y_later 50 = .ok (.invokevirtual 186, 3) := by decide +kernel
theorem d_Y_later_53 : decode tb_Y_later 53 = .ok (.aload_n 0, 1) := by decide +kernel
theorem d_Y_later_54 : decode tb_Y_later 54 = .ok (.getfield 223, 3) := by decide +kernel
theorem d_Y_later_57 : decode tb_Y_later 57 = .ok (.bipush 64, 2) := by decide +kernel
theorem d_Y_later_59 : decode tb_Y_later 59 = .ok (.irem, 1) := by decide +kernel
theorem d_Y_later_60 : decode tb_Y_later 60 = .ok (.ifCond .ne 44, 3) := by decide +kernel
theorem d_Y_later_63 : decode tb_Y_later 63 = .ok (.aload_n 0, 1) := by decide +kernel
theorem d_Y_later_64 : decode tb_Y_later 64 = .ok (.getfield 38, 3) := by decide +kernel
theorem d_Y_later_67 : decode tb_Y_later 67 = .ok (.iload_n 1, 1) := by decide +kernel
theorem d_Y_later_68 : decode tb_Y_later 68 = .ok (.iaload, 1) := by decide +kernel
theorem d_Y_later_69 : decode tb_Y_later 69 = .ok (.ifCond .lt 35, 3) := by decide +kernel
theorem d_Y_later_72 : decode tb_Y_later 72 = .ok (.aload_n 0, 1) := by decide +kernel
theorem d_Y_later_73 : decode tb_Y_later 73 = .ok (.iload_n 1, 1) := by decide +kernel
theorem d_Y_later_74 : decode tb_Y_later 74 = .ok (.invokevirtual 190, 3) := by decide +kernel
theorem d_Y_later_77 : decode tb_Y_later 77 = .ok (.istore_n 2, 1) := by decide +kernel
theorem d_Y_later_78 : decode tb_Y_later 78 = .ok (.aload_n 0, 1) := by decide +kernel
theorem d_Y_later_79 : decode tb_Y_later 79 = .ok (.getfield 23, 3) := by decide +kernel
theorem d_Y_later_82 : decode tb_Y_later 82 = .ok (.bipush 8, 2) := by decide +kernel
theorem d_Y_later_84 : decode tb_Y_later 84 = .ok (.iload_n 1, 1) := by decide +kernel
theorem d_Y_later_85 : decode tb_Y_later 85 = .ok (.imul, 1) := by decide +kernel
theorem d_Y_later_86 : decode tb_Y_later 86 = .ok (.dup2, 1) := by decide +kernel
theorem d_Y_later_87 : decode tb_Y_later 87 = .ok (.iaload, 1) := by decide +kernel
theorem d_Y_later_88 : decode tb_Y_later 88 = .ok (.iconst 1, 1) := by decide +kernel
theorem d_Y_later_89 : decode tb_Y_later 89 = .ok (.iadd, 1) := by decide +kernel
theorem d_Y_later_90 : decode tb_Y_later 90 = .ok (.iastore, 1) := by decide +kernel
theorem d_Y_later_91 : decode tb_Y_later 91 = .ok (.aload_n 0, 1) := by decide +kernel
theorem d_Y_later_92 : decode tb_Y_later 92 = .ok (.iload_n 1, 1) := by decide +kernel
theorem d_Y_later_93 : decode tb_Y_later 93 = .ok (.aload_n 0, 1) := by decide +kernel
theorem d_Y_later_94 : decode tb_Y_later 94 = .ok (.getfield 38, 3) := by decide +kernel
theorem d_Y_later_97 : decode tb_Y_later 97 = .ok (.iload_n 1, 1) := by decide +kernel
theorem d_Y_later_98 : decode tb_Y_later 98 = .ok (.iaload, 1) := by decide +kernel
theorem d_Y_later_99 : decode tb_Y_later 99 = .ok (.iload_n 2, 1) := by decide +kernel
theorem d_Y_later_100 : decode tb_Y_later 100 = .ok (.iconst 0, 1) := by decide +kernel
theorem d_Y_later_101 : decode tb_Y_later 101 = .ok (.invokevirtual 193, 3) := by decide +kernel
theorem d_Y_later_104 : decode tb_Y_later 104 = .ok (.return_, 1) := by decide +kernel
theorem d_Y_isNode_0 : decode tb_Y_isNode 0 = .ok (.iload_n 0, 1) := by decide +kernel
theorem d_Y_isNode_1 : decode tb_Y_isNode 1 = .ok (.ifCond .lt 13, 3) := by decide +kernel
theorem d_Y_isNode_4 : decode tb_Y_isNode 4 = .ok (.iload_n 0, 1) := by decide +kernel
theorem d_Y_isNode_5 : decode tb_Y_isNode 5 = .ok (.bipush 7, 2) := by decide +kernel
theorem d_Y_isNode_7 : decode tb_Y_isNode 7 = .ok (.if_icmp .ge 7, 3) := by decide +kernel
theorem d_Y_isNode_10 : decode tb_Y_isNode 10 = .ok (.iconst 1, 1) := by decide +kernel
theorem d_Y_isNode_11 : decode tb_Y_isNode 11 = .ok (.goto 4, 3) := by decide +kernel
theorem d_Y_isNode_14 : decode tb_Y_isNode 14 = .ok (.iconst 0, 1) := by decide +kernel
theorem d_Y_isNode_15 : decode tb_Y_isNode 15 = .ok (.ireturn, 1) := by decide +kernel
theorem d_Y_link_0 : decode tb_Y_link 0 = .ok (.iload_n 1, 1) := by decide +kernel
theorem d_Y_link_1 : decode tb_Y_link 1 = .ok (.invokestatic 244, 3) := by decide +kernel
theorem d_Y_link_4 : decode tb_Y_link 4 = .ok (.ifCond .eq 25, 3) := by decide +kernel
theorem d_Y_link_7 : decode tb_Y_link 7 = .ok (.iload_n 2, 1) := by decide +kernel
theorem d_Y_link_8 : decode tb_Y_link 8 = .ok (.invokestatic 244, 3) := by decide +kernel
theorem d_Y_link_11 : decode tb_Y_link 11 = .ok (.ifCond .eq 18, 3) := by decide +kernel
theorem d_Y_link_14 : decode tb_Y_link 14 = .ok (.iload_n 1, 1) := by decide +kernel
theorem d_Y_link_15 : decode tb_Y_link 15 = .ok (.iload_n 2, 1) := by decide +kernel
theorem d_Y_link_16 : decode tb_Y_link 16 = .ok (.if_icmp .eq 13, 3) := by decide +kernel
theorem d_Y_link_19 : decode tb_Y_link 19 = .ok (.iload_n 3, 1) := by decide +kernel
theorem d_Y_link_20 : decode tb_Y_link 20 = .ok (.ifCond .lt 9, 3) := by decide +kernel
theorem d_Y_link_23 : decode tb_Y_link 23 = .ok (.iload_n 3, 1) := by decide +kernel
theorem d_Y_link_24 : decode tb_Y_link 24 = .ok (.bipush 9, 2) := by decide +kernel
theorem d_Y_link_26 : decode tb_Y_link 26 = .ok (.if_icmp .le 5, 3) := by decide +kernel
theorem d_Y_link_29 : decode tb_Y_link 29 = .ok (.iconst 0, 1) := by decide +kernel
theorem d_Y_link_30 : decode tb_Y_link 30 = .ok (.ireturn, 1) := by decide +kernel
theorem d_Y_link_31 : decode tb_Y_link 31 = .ok (.aload_n 0, 1) := by decide +kernel
theorem d_Y_link_32 : decode tb_Y_link 32 = .ok (.getfield 7, 3) := by decide +kernel
theorem d_Y_link_35 : decode tb_Y_link 35 = .ok (.bipush 7, 2) := by decide +kernel
theorem d_Y_link_37 : decode tb_Y_link 37 = .ok (.iload_n 1, 1) := by decide +kernel
theorem d_Y_link_38 : decode tb_Y_link 38 = .ok (.imul, 1) := by decide +kernel
theorem d_Y_link_39 : decode tb_Y_link 39 = .ok (.iload_n 2, 1) := by decide +kernel
theorem d_Y_link_40 : decode tb_Y_link 40 = .ok (.iadd, 1) := by decide +kernel
theorem d_Y_link_41 : decode tb_Y_link 41 = .ok (.iload_n 3, 1) := by decide +kernel
theorem d_Y_link_42 : decode tb_Y_link 42 = .ok (.iastore, 1) := by decide +kernel
theorem d_Y_link_43 : decode tb_Y_link 43 = .ok (.aload_n 0, 1) := by decide +kernel
theorem d_Y_link_44 : decode tb_Y_link 44 = .ok (.getfield 7, 3) := by decide +kernel
theorem d_Y_link_47 : decode tb_Y_link 47 = .ok (.bipush 7, 2) := by decide +kernel
theorem d_Y_link_49 : decode tb_Y_link 49 = .ok (.iload_n 2, 1) := by decide +kernel
theorem d_Y_link_50 : decode tb_Y_link 50 = .ok (.imul, 1) := by decide +kernel
theorem d_Y_link_51 : decode tb_Y_link 51 = .ok (.iload_n 1, 1) := by decide +kernel
theorem d_Y_link_52 : decode tb_Y_link 52 = .ok (.iadd, 1) := by decide +kernel
theorem d_Y_link_53 : decode tb_Y_link 53 = .ok (.iload_n 3, 1) := by decide +kernel
theorem d_Y_link_54 : decode tb_Y_link 54 = .ok (.iastore, 1) := by decide +kernel
theorem d_Y_link_55 : decode tb_Y_link 55 = .ok (.iconst 1, 1) := by decide +kernel
theorem d_Y_link_56 : decode tb_Y_link 56 = .ok (.ireturn, 1) := by decide +kernel
theorem d_Y_kill_0 : decode tb_Y_kill 0 = .ok (.iload_n 1, 1) := by decide +kernel
theorem d_Y_kill_1 : decode tb_Y_kill 1 = .ok (.invokestatic 244, 3) := by decide +kernel
theorem d_Y_kill_4 : decode tb_Y_kill 4 = .ok (.ifCond .eq 16, 3) := by decide +kernel
theorem d_Y_kill_7 : decode tb_Y_kill 7 = .ok (.iload_n 1, 1) := by decide +kernel
theorem d_Y_kill_8 : decode tb_Y_kill 8 = .ok (.ifCond .eq 12, 3) := by decide +kernel
theorem d_Y_kill_11 : decode tb_Y_kill 11 = .ok (.aload_n 0, 1) := by decide +kernel
theorem d_Y_kill_12 : decode tb_Y_kill 12 = .ok (.getfield 29, 3) := by decide +kernel
theorem d_Y_kill_15 : decode tb_Y_kill 15 = .ok (.iload_n 1, 1) := by decide +kernel
theorem d_Y_kill_16 : decode tb_Y_kill 16 = .ok (.baload, 1) := by decide +kernel
theorem d_Y_kill_17 : decode tb_Y_kill 17 = .ok (.ifCond .eq 5, 3) := by decide +kernel
theorem d_Y_kill_20 : decode tb_Y_kill 20 = .ok (.iconst 0, 1) := by decide +kernel
theorem d_Y_kill_21 : decode tb_Y_kill 21 = .ok (.ireturn, 1) := by decide +kernel
theorem d_Y_kill_22 : decode tb_Y_kill 22 = .ok (.aload_n 0, 1) := by decide +kernel
theorem d_Y_kill_23 : decode tb_Y_kill 23 = .ok (.getfield 29, 3) := by decide +kernel
theorem d_Y_kill_26 : decode tb_Y_kill 26 = .ok (.iload_n 1, 1) := by decide +kernel
theorem d_Y_kill_27 : decode tb_Y_kill 27 = .ok (.iconst 1, 1) := by decide +kernel
theorem d_Y_kill_28 : decode tb_Y_kill 28 = .ok (.bastore, 1) := by decide +kernel
theorem d_Y_kill_29 : decode tb_Y_kill 29 = .ok (.iconst 0, 1) := by decide +kernel
theorem d_Y_kill_30 : decode tb_Y_kill 30 = .ok (.istore_n 2, 1) := by decide +kernel
theorem d_Y_kill_31 : decode tb_Y_kill 31 = .ok (.iload_n 2, 1) := by decide +kernel
theorem d_Y_kill_32 : decode tb_Y_kill 32 = .ok (.aload_n 0, 1) := by decide +kernel
theorem d_Y_kill_33 : decode tb_Y_kill 33 = .ok (.getfield 62, 3) := by decide +kernel
theorem d_Y_kill_36 : decode tb_Y_kill 36 = .ok (.iload_n 1, 1) := by decide +kernel
theorem d_Y_kill_37 : decode tb_Y_kill 37 = .ok (.iaload, 1) := by decide +kernel
theorem d_Y_kill_38 : decode tb_Y_kill 38 = .ok (.if_icmp .ge 25, 3) := by decide +kernel
theorem d_Y_kill_41 : decode tb_Y_kill 41 = .ok (.aload_n 0, 1) := by decide +kernel
theorem d_Y_kill_42 : decode tb_Y_kill 42 = .ok (.getfield 80, 3) := by decide +kernel
theorem d_Y_kill_45 : decode tb_Y_kill 45 = .ok (.aload_n 0, 1) := by decide +kernel
theorem d_Y_kill_46 : decode tb_Y_kill 46 = .ok (.getfield 59, 3) := by decide +kernel
theorem d_Y_kill_49 : decode tb_Y_kill 49 = .ok (.iconst 4, 1) := by decide +kernel
theorem d_Y_kill_50 : decode tb_Y_kill 50 = .ok (.iload_n 1, 1) := by decide +kernel
theorem d_Y_kill_51 : decode tb_Y_kill 51 = .ok (.imul, 1) := by decide +kernel
theorem d_Y_kill_52 : decode tb_Y_kill 52 = .ok (.iload_n 2, 1) := by decide +kernel
theorem d_Y_kill_53 : decode tb_Y_kill 53 = .ok (.iadd, 1) := by decide +kernel
theorem d_Y_kill_54 : decode tb_Y_kill 54 = .ok (.iaload, 1) := by decide +kernel
theorem d_Y_kill_55 : decode tb_Y_kill 55 = .ok (.iconst 0, 1) := by decide +kernel
theorem d_Y_kill_56 : decode tb_Y_kill 56 = .ok (.bastore, 1) := by decide +kernel
theorem d_Y_kill_57 : decode tb_Y_kill 57 = .ok (.iinc 2 1, 3) := by decide +kernel
theorem d_Y_kill_60 : decode tb_Y_kill 60 = .ok (.goto (-29), 3) := by decide +kernel
theorem d_Y_kill_63 : decode tb_Y_kill 63 = .ok (.aload_n 0, 1) := by decide +kernel
theorem d_Y_kill_64 : decode tb_Y_kill 64 = .ok (.getfield 62, 3) := by decide +kernel
theorem d_Y_kill_67 : decode tb_Y_kill 67 = .ok (.iload_n 1, 1) := by decide +kernel
theorem d_Y_kill_68 : decode tb_Y_kill 68 = .ok (.iconst 0, 1) := by decide +kernel
theorem d_Y_kill_69 : decode tb_Y_kill 69 = .ok (.iastore, 1) := by decide +kernel
theorem d_Y_kill_70 : decode tb_Y_kill 70 = .ok (.aload_n 0, 1) := by decide +kernel
theorem d_Y_kill_71 : decode tb_Y_kill 71 = .ok (.getfield 74, 3) := by decide +kernel
theorem d_Y_kill_74 : decode tb_Y_kill 74 = .ok (.iload_n 1, 1) := by decide +kernel
theorem d_Y_kill_75 : decode tb_Y_kill 75 = .ok (.iconst (-1), 1) := by decide +kernel
theorem d_Y_kill_76 : decode tb_Y_kill 76 = .ok (.iastore, 1) := by decide +kernel
theorem d_Y_kill_77 : decode tb_Y_kill 77 = .ok (.aload_n 0, 1) := by decide +kernel
theorem d_Y_kill_78 : decode tb_Y_kill 78 = .ok (.getfield 77, 3) := by decide +kernel
theorem d_Y_kill_81 : decode tb_Y_kill 81 = .ok (.iload_n 1, 1) := by decide +kernel
theorem d_Y_kill_82 : decode tb_Y_kill 82 = .ok (.iconst 0, 1) := by decide +kernel
theorem d_Y_kill_83 : decode tb_Y_kill 83 = .ok (.bastore, 1) := by decide +kernel
theorem d_Y_kill_84 : decode tb_Y_kill 84 = .ok (.iconst 1, 1) := by decide +kernel
theorem d_Y_kill_85 : decode tb_Y_kill 85 = .ok (.ireturn, 1) := by decide +kernel
theorem d_Y_repair_0 : decode tb_Y_repair 0 = .ok (.aload_n 0, 1) := by decide +kernel
theorem d_Y_repair_1 : decode tb_Y_repair 1 = .ok (.getfield 32, 3) := by decide +kernel
theorem d_Y_repair_4 : decode tb_Y_repair 4 = .ok (.iconst 0, 1) := by decide +kernel
theorem d_Y_repair_5 : decode tb_Y_repair 5 = .ok (.dup2, 1) := by decide +kernel
theorem d_Y_repair_6 : decode tb_Y_repair 6 = .ok (.iaload, 1) := by decide +kernel
theorem d_Y_repair_7 : decode tb_Y_repair 7 = .ok (.iconst 1, 1) := by decide +kernel
theorem d_Y_repair_8 : decode tb_Y_repair 8 = .ok (.iadd, 1) := by decide +kernel
theorem d_Y_repair_9 : decode tb_Y_repair 9 = .ok (.iastore, 1) := by decide +kernel
theorem d_Y_repair_10 : decode tb_Y_repair 10 = .ok (.aload_n 0, 1) := by decide +kernel
theorem d_Y_repair_11 : decode tb_Y_repair 11 = .ok (.iconst 0, 1) := by decide +kernel
theorem d_Y_repair_12 : decode tb_Y_repair 12 = .ok (.invokevirtual 150, 3) := by decide +kernel
theorem d_Y_repair_15 : decode tb_Y_repair 15 = .ok (.aload_n 0, 1) := by decide +kernel
theorem d_Y_repair_16 : decode tb_Y_repair 16 = .ok (.getfield 32, 3) := by decide +kernel
theorem d_Y_repair_19 : decode tb_Y_repair 19 = .ok (.iconst 0, 1) := by decide +kernel
theorem d_Y_repair_20 : decode tb_Y_repair 20 = .ok (.iaload, 1) := by decide +kernel
theorem d_Y_repair_21 : decode tb_Y_repair 21 = .ok (.ireturn, 1) := by decide +kernel
theorem d_Y_send_0 : decode tb_Y_send 0 = .ok (.iload_n 1, 1) := by decide +kernel
theorem d_Y_send_1 : decode tb_Y_send 1 = .ok (.invokestatic 244, 3) := by decide +kernel
theorem d_Y_send_4 : decode tb_Y_send 4 = .ok (.ifCond .eq 48, 3) := by decide +kernel
theorem d_Y_send_7 : decode tb_Y_send 7 = .ok (.iload_n 2, 1) := by decide +kernel
theorem d_Y_send_8 : decode tb_Y_send 8 = .ok (.invokestatic 244, 3) := by decide +kernel
theorem d_Y_send_11 : decode tb_Y_send 11 = .ok (.ifCond .eq 41, 3) := by decide +kernel
theorem d_Y_send_14 : decode tb_Y_send 14 = .ok (.iload_n 1, 1) := by decide +kernel
theorem d_Y_send_15 : decode tb_Y_send 15 = .ok (.iload_n 2, 1) := by decide +kernel
theorem d_Y_send_16 : decode tb_Y_send 16 = .ok (.if_icmp .eq 36, 3) := by decide +kernel
theorem d_Y_send_19 : decode tb_Y_send 19 = .ok (.iload_n 3, 1) := by decide +kernel
theorem d_Y_send_20 : decode tb_Y_send 20 = .ok (.iconst 1, 1) := by decide +kernel
theorem d_Y_send_21 : decode tb_Y_send 21 = .ok (.if_icmp .lt 31, 3) := by decide +kernel
theorem d_Y_send_24 : decode tb_Y_send 24 = .ok (.iload_n 3, 1) := by decide +kernel
theorem d_Y_send_25 : decode tb_Y_send 25 = .ok (.bipush 15, 2) := by decide +kernel
theorem d_Y_send_27 : decode tb_Y_send 27 = .ok (.if_icmp .gt 25, 3) := by decide +kernel
theorem d_Y_send_30 : decode tb_Y_send 30 = .ok (.iload 4, 2) := by decide +kernel
theorem d_Y_send_32 : decode tb_Y_send 32 = .ok (.ifCond .lt 20, 3) := by decide +kernel
theorem d_Y_send_35 : decode tb_Y_send 35 = .ok (.iload 4, 2) := by decide +kernel
theorem d_Y_send_37 : decode tb_Y_send 37 = .ok (.sipush 999, 3) := by decide +kernel
theorem d_Y_send_40 : decode tb_Y_send 40 = .ok (.if_icmp .gt 12, 3) := by decide +kernel
theorem d_Y_send_43 : decode tb_Y_send 43 = .ok (.aload_n 0, 1) := by decide +kernel
theorem d_Y_send_44 : decode tb_Y_send 44 = .ok (.getfield 29, 3) := by decide +kernel
theorem d_Y_send_47 : decode tb_Y_send 47 = .ok (.iload_n 1, 1) := by decide +kernel
theorem d_Y_send_48 : decode tb_Y_send 48 = .ok (.baload, 1) := by decide +kernel
theorem d_Y_send_49 : decode tb_Y_send 49 = .ok (.ifCond .eq 5, 3) := by decide +kernel
theorem d_Y_send_52 : decode tb_Y_send 52 = .ok (.iconst (-1), 1) := by decide +kernel
theorem d_Y_send_53 : decode tb_Y_send 53 = .ok (.ireturn, 1) := by decide +kernel
theorem d_Y_send_54 : decode tb_Y_send 54 = .ok (.aload_n 0, 1) := by decide +kernel
theorem d_Y_send_55 : decode tb_Y_send 55 = .ok (.dup, 1) := by decide +kernel
theorem d_Y_send_56 : decode tb_Y_send 56 = .ok (.getfield 247, 3) := by decide +kernel
theorem d_Y_send_59 : decode tb_Y_send 59 = .ok (.iconst 1, 1) := by decide +kernel
theorem d_Y_send_60 : decode tb_Y_send 60 = .ok (.iadd, 1) := by decide +kernel
theorem d_Y_send_61 : decode tb_Y_send 61 = .ok (.putfield 247, 3) := by decide +kernel
theorem d_Y_send_64 : decode tb_Y_send 64 = .ok (.aload_n 0, 1) := by decide +kernel
theorem d_Y_send_65 : decode tb_Y_send 65 = .ok (.iload_n 1, 1) := by decide +kernel
theorem d_Y_send_66 : decode tb_Y_send 66 = .ok (.iload_n 1, 1) := by decide +kernel
theorem d_Y_send_67 : decode tb_Y_send 67 = .ok (.iload_n 2, 1) := by decide +kernel
theorem d_Y_send_68 : decode tb_Y_send 68 = .ok (.iload_n 3, 1) := by decide +kernel
theorem d_Y_send_69 : decode tb_Y_send 69 = .ok (.iload 4, 2) := by decide +kernel
theorem d_Y_send_71 : decode tb_Y_send 71 = .ok (.iconst 0, 1) := by decide +kernel
theorem d_Y_send_72 : decode tb_Y_send 72 = .ok (.invokevirtual 200, 3) := by decide +kernel
theorem d_Y_send_75 : decode tb_Y_send 75 = .ok (.aload_n 0, 1) := by decide +kernel
theorem d_Y_send_76 : decode tb_Y_send 76 = .ok (.getfield 247, 3) := by decide +kernel
theorem d_Y_send_79 : decode tb_Y_send 79 = .ok (.ireturn, 1) := by decide +kernel
theorem d_Y_tick_0 : decode tb_Y_tick 0 = .ok (.iload_n 1, 1) := by decide +kernel
theorem d_Y_tick_1 : decode tb_Y_tick 1 = .ok (.ifCond .lt 9, 3) := by decide +kernel
theorem d_Y_tick_4 : decode tb_Y_tick 4 = .ok (.iload_n 1, 1) := by decide +kernel
theorem d_Y_tick_5 : decode tb_Y_tick 5 = .ok (.bipush 100, 2) := by decide +kernel
theorem d_Y_tick_7 : decode tb_Y_tick 7 = .ok (.if_icmp .le 5, 3) := by decide +kernel
theorem d_Y_tick_10 : decode tb_Y_tick 10 = .ok (.iconst (-1), 1) := by decide +kernel
theorem d_Y_tick_11 : decode tb_Y_tick 11 = .ok (.ireturn, 1) := by decide +kernel
theorem d_Y_tick_12 : decode tb_Y_tick 12 = .ok (.iconst 0, 1) := by decide +kernel
theorem d_Y_tick_13 : decode tb_Y_tick 13 = .ok (.istore_n 2, 1) := by decide +kernel
theorem d_Y_tick_14 : decode tb_Y_tick 14 = .ok (.iload_n 2, 1) := by decide +kernel
theorem d_Y_tick_15 : decode tb_Y_tick 15 = .ok (.iload_n 1, 1) := by decide +kernel
theorem d_Y_tick_16 : decode tb_Y_tick 16 = .ok (.if_icmp .ge 13, 3) := by decide +kernel
theorem d_Y_tick_19 : decode tb_Y_tick 19 = .ok (.aload_n 0, 1) := by decide +kernel
theorem d_Y_tick_20 : decode tb_Y_tick 20 = .ok (.invokevirtual 250, 3) := by decide +kernel
theorem d_Y_tick_23 : decode tb_Y_tick 23 = .ok (.iinc 2 1, 3) := by decide +kernel
theorem d_Y_tick_26 : decode tb_Y_tick 26 = .ok (.goto (-12), 3) := by decide +kernel
theorem d_Y_tick_29 : decode tb_Y_tick 29 = .ok (.aload_n 0, 1) := by decide +kernel
theorem d_Y_tick_30 : decode tb_Y_tick 30 = .ok (.getfield 223, 3) := by decide +kernel
theorem d_Y_tick_33 : decode tb_Y_tick 33 = .ok (.ireturn, 1) := by decide +kernel
theorem d_Y_node_0 : decode tb_Y_node 0 = .ok (.iload_n 1, 1) := by decide +kernel
theorem d_Y_node_1 : decode tb_Y_node 1 = .ok (.invokestatic 244, 3) := by decide +kernel
theorem d_Y_node_4 : decode tb_Y_node 4 = .ok (.ifCond .eq 13, 3) := by decide +kernel
theorem d_Y_node_7 : decode tb_Y_node 7 = .ok (.iload_n 2, 1) := by decide +kernel
theorem d_Y_node_8 : decode tb_Y_node 8 = .ok (.ifCond .lt 9, 3) := by decide +kernel
theorem d_Y_node_11 : decode tb_Y_node 11 = .ok (.iload_n 2, 1) := by decide +kernel
theorem d_Y_node_12 : decode tb_Y_node 12 = .ok (.bipush 12, 2) := by decide +kernel
theorem d_Y_node_14 : decode tb_Y_node 14 = .ok (.if_icmp .le 5, 3) := by decide +kernel
theorem d_Y_node_17 : decode tb_Y_node 17 = .ok (.iconst (-1), 1) := by decide +kernel
theorem d_Y_node_18 : decode tb_Y_node 18 = .ok (.ireturn, 1) := by decide +kernel
theorem d_Y_node_19 : decode tb_Y_node 19 = .ok (.aload_n 0, 1) := by decide +kernel
theorem d_Y_node_20 : decode tb_Y_node 20 = .ok (.getfield 62, 3) := by decide +kernel
theorem d_Y_node_23 : decode tb_Y_node 23 = .ok (.iload_n 1, 1) := by decide +kernel
theorem d_Y_node_24 : decode tb_Y_node 24 = .ok (.iaload, 1) := by decide +kernel
theorem d_Y_node_25 : decode tb_Y_node 25 = .ok (.ifCond .le 7, 3) := by decide +kernel
theorem d_Y_node_28 : decode tb_Y_node 28 = .ok (.iconst 1, 1) := by decide +kernel
theorem d_Y_node_29 : decode tb_Y_node 29 = .ok (.goto 4, 3) := by decide +kernel
theorem d_Y_node_32 : decode tb_Y_node 32 = .ok (.iconst 0, 1) := by decide +kernel
theorem d_Y_node_33 : decode tb_Y_node 33 = .ok (.istore_n 3, 1) := by decide +kernel
theorem d_Y_node_34 : decode tb_Y_node 34 = .ok (.iload_n 2, 1) := by decide +kernel
theorem d_Y_node_35 : decode tb_Y_node 35 = .ok (.tableswitch 205 0 11 #[61, 68, 77, 84, 91, 98, 105, 112, 127, 142, 157, 164], 61) := by decide +kernel
theorem d_Y_node_96 : decode tb_Y_node 96 = .ok (.aload_n 0, 1) := by decide +kernel
theorem d_Y_node_97 : decode tb_Y_node 97 = .ok (.getfield 35, 3) := by decide +kernel
theorem d_Y_node_100 : decode tb_Y_node 100 = .ok (.iload_n 1, 1) := by decide +kernel
theorem d_Y_node_101 : decode tb_Y_node 101 = .ok (.iaload, 1) := by decide +kernel
theorem d_Y_node_102 : decode tb_Y_node 102 = .ok (.ireturn, 1) := by decide +kernel
theorem d_Y_node_103 : decode tb_Y_node 103 = .ok (.aload_n 0, 1) := by decide +kernel
theorem d_Y_node_104 : decode tb_Y_node 104 = .ok (.getfield 38, 3) := by decide +kernel
theorem d_Y_node_107 : decode tb_Y_node 107 = .ok (.iload_n 1, 1) := by decide +kernel
theorem d_Y_node_108 : decode tb_Y_node 108 = .ok (.iaload, 1) := by decide +kernel
theorem d_Y_node_109 : decode tb_Y_node 109 = .ok (.iconst 1, 1) := by decide +kernel
theorem d_Y_node_110 : decode tb_Y_node 110 = .ok (.iadd, 1) := by decide +kernel
theorem d_Y_node_111 : decode tb_Y_node 111 = .ok (.ireturn, 1) := by decide +kernel
theorem d_Y_node_112 : decode tb_Y_node 112 = .ok (.aload_n 0, 1) := by decide +kernel
theorem d_Y_node_113 : decode tb_Y_node 113 = .ok (.getfield 32, 3) := by decide +kernel
theorem d_Y_node_116 : decode tb_Y_node 116 = .ok (.iload_n 1, 1) := by decide +kernel
theorem d_Y_node_117 : decode tb_Y_node 117 = .ok (.iaload, 1) := by decide +kernel
theorem d_Y_node_118 : decode tb_Y_node 118 = .ok (.ireturn, 1) := by decide +kernel
theorem d_Y_node_119 : decode tb_Y_node 119 = .ok (.aload_n 0, 1) := by decide +kernel
theorem d_Y_node_120 : decode tb_Y_node 120 = .ok (.getfield 47, 3) := by decide +kernel
theorem d_Y_node_123 : decode tb_Y_node 123 = .ok (.iload_n 1, 1) := by decide +kernel
theorem d_Y_node_124 : decode tb_Y_node 124 = .ok (.iaload, 1) := by decide +kernel
theorem d_Y_node_125 : decode tb_Y_node 125 = .ok (.ireturn, 1) := by decide +kernel
theorem d_Y_node_126 : decode tb_Y_node 126 = .ok (.aload_n 0, 1) := by decide +kernel
theorem d_Y_node_127 : decode tb_Y_node 127 = .ok (.getfield 50, 3) := by decide +kernel
theorem d_Y_node_130 : decode tb_Y_node 130 = .ok (.iload_n 1, 1) := by decide +kernel
theorem d_Y_node_131 : decode tb_Y_node 131 = .ok (.iaload, 1) := by decide +kernel
theorem d_Y_node_132 : decode tb_Y_node 132 = .ok (.ireturn, 1) := by decide +kernel
theorem d_Y_node_133 : decode tb_Y_node 133 = .ok (.aload_n 0, 1) := by decide +kernel
theorem d_Y_node_134 : decode tb_Y_node 134 = .ok (.getfield 56, 3) := by decide +kernel
theorem d_Y_node_137 : decode tb_Y_node 137 = .ok (.iload_n 1, 1) := by decide +kernel
theorem d_Y_node_138 : decode tb_Y_node 138 = .ok (.iaload, 1) := by decide +kernel
theorem d_Y_node_139 : decode tb_Y_node 139 = .ok (.ireturn, 1) := by decide +kernel
theorem d_Y_node_140 : decode tb_Y_node 140 = .ok (.aload_n 0, 1) := by decide +kernel
theorem d_Y_node_141 : decode tb_Y_node 141 = .ok (.getfield 62, 3) := by decide +kernel
theorem d_Y_node_144 : decode tb_Y_node 144 = .ok (.iload_n 1, 1) := by decide +kernel
theorem d_Y_node_145 : decode tb_Y_node 145 = .ok (.iaload, 1) := by decide +kernel
theorem d_Y_node_146 : decode tb_Y_node 146 = .ok (.ireturn, 1) := by decide +kernel
theorem d_Y_node_147 : decode tb_Y_node 147 = .ok (.iload_n 3, 1) := by decide +kernel
theorem d_Y_node_148 : decode tb_Y_node 148 = .ok (.ifCond .eq 12, 3) := by decide +kernel
theorem d_Y_node_151 : decode tb_Y_node 151 = .ok (.aload_n 0, 1) := by decide +kernel
theorem d_Y_node_152 : decode tb_Y_node 152 = .ok (.getfield 65, 3) := by decide +kernel
theorem d_Y_node_155 : decode tb_Y_node 155 = .ok (.iload_n 1, 1) := by decide +kernel
theorem d_Y_node_156 : decode tb_Y_node 156 = .ok (.iaload, 1) := by decide +kernel
theorem d_Y_node_157 : decode tb_Y_node 157 = .ok (.goto 4, 3) := by decide +kernel
theorem d_Y_node_160 : decode tb_Y_node 160 = .ok (.iconst 0, 1) := by decide +kernel
theorem d_Y_node_161 : decode tb_Y_node 161 = .ok (.ireturn, 1) := by decide +kernel
theorem d_Y_node_162 : decode tb_Y_node 162 = .ok (.iload_n 3, 1) := by decide +kernel
theorem d_Y_node_163 : decode tb_Y_node 163 = .ok (.ifCond .eq 12, 3) := by decide +kernel
theorem d_Y_node_166 : decode tb_Y_node 166 = .ok (.aload_n 0, 1) := by decide +kernel
theorem d_Y_node_167 : decode tb_Y_node 167 = .ok (.getfield 68, 3) := by decide +kernel
theorem d_Y_node_170 : decode tb_Y_node 170 = .ok (.iload_n 1, 1) := by decide +kernel
theorem d_Y_node_171 : decode tb_Y_node 171 = .ok (.iaload, 1) := by decide +kernel
theorem d_Y_node_172 : decode tb_Y_node 172 = .ok (.goto 4, 3) := by decide +kernel
theorem d_Y_node_175 : decode tb_Y_node 175 = .ok (.iconst 0, 1) := by decide +kernel
theorem d_Y_node_176 : decode tb_Y_node 176 = .ok (.ireturn, 1) := by decide +kernel
theorem d_Y_node_177 : decode tb_Y_node 177 = .ok (.iload_n 3, 1) := by decide +kernel
theorem d_Y_node_178 : decode tb_Y_node 178 = .ok (.ifCond .eq 12, 3) := by decide +kernel
theorem d_Y_node_181 : decode tb_Y_node 181 = .ok (.aload_n 0, 1) := by decide +kernel
theorem d_Y_node_182 : decode tb_Y_node 182 = .ok (.getfield 71, 3) := by decide +kernel
theorem d_Y_node_185 : decode tb_Y_node 185 = .ok (.iload_n 1, 1) := by decide +kernel
theorem d_Y_node_186 : decode tb_Y_node 186 = .ok (.iaload, 1) := by decide +kernel
theorem d_Y_node_187 : decode tb_Y_node 187 = .ok (.goto 4, 3) := by decide +kernel
theorem d_Y_node_190 : decode tb_Y_node 190 = .ok (.iconst 0, 1) := by decide +kernel
theorem d_Y_node_191 : decode tb_Y_node 191 = .ok (.ireturn, 1) := by decide +kernel
theorem d_Y_node_192 : decode tb_Y_node 192 = .ok (.aload_n 0, 1) := by decide +kernel
theorem d_Y_node_193 : decode tb_Y_node 193 = .ok (.getfield 41, 3) := by decide +kernel
theorem d_Y_node_196 : decode tb_Y_node 196 = .ok (.iload_n 1, 1) := by decide +kernel
theorem d_Y_node_197 : decode tb_Y_node 197 = .ok (.iaload, 1) := by decide +kernel
theorem d_Y_node_198 : decode tb_Y_node 198 = .ok (.ireturn, 1) := by decide +kernel
theorem d_Y_node_199 : decode tb_Y_node 199 = .ok (.aload_n 0, 1) := by decide +kernel
theorem d_Y_node_200 : decode tb_Y_node 200 = .ok (.getfield 29, 3) := by decide +kernel
theorem d_Y_node_203 : decode tb_Y_node 203 = .ok (.iload_n 1, 1) := by decide +kernel
theorem d_Y_node_204 : decode tb_Y_node 204 = .ok (.baload, 1) := by decide +kernel
theorem d_Y_node_205 : decode tb_Y_node 205 = .ok (.ifCond .eq 7, 3) := by decide +kernel
theorem d_Y_node_208 : decode tb_Y_node 208 = .ok (.iconst 1, 1) := by decide +kernel
theorem d_Y_node_209 : decode tb_Y_node 209 = .ok (.goto 30, 3) := by decide +kernel
theorem d_Y_node_212 : decode tb_Y_node 212 = .ok (.aload_n 0, 1) := by decide +kernel
theorem d_Y_node_213 : decode tb_Y_node 213 = .ok (.getfield 77, 3) := by decide +kernel
theorem d_Y_node_216 : decode tb_Y_node 216 = .ok (.iload_n 1, 1) := by decide +kernel
theorem d_Y_node_217 : decode tb_Y_node 217 = .ok (.baload, 1) := by decide +kernel
theorem d_Y_node_218 : decode tb_Y_node 218 = .ok (.ifCond .eq 7, 3) := by decide +kernel
theorem d_Y_node_221 : decode tb_Y_node 221 = .ok (.iconst 2, 1) := by decide +kernel
theorem d_Y_node_222 : decode tb_Y_node 222 = .ok (.goto 17, 3) := by decide +kernel
theorem d_Y_node_225 : decode tb_Y_node 225 = .ok (.aload_n 0, 1) := by decide +kernel
theorem d_Y_node_226 : decode tb_Y_node 226 = .ok (.getfield 74, 3) := by decide +kernel
theorem d_Y_node_229 : decode tb_Y_node 229 = .ok (.iload_n 1, 1) := by decide +kernel
theorem d_Y_node_230 : decode tb_Y_node 230 = .ok (.iaload, 1) := by decide +kernel
theorem d_Y_node_231 : decode tb_Y_node 231 = .ok (.ifCond .lt 7, 3) := by decide +kernel
theorem d_Y_node_234 : decode tb_Y_node 234 = .ok (.iconst 3, 1) := by decide +kernel
theorem d_Y_node_235 : decode tb_Y_node 235 = .ok (.goto 4, 3) := by decide +kernel
theorem d_Y_node_238 : decode tb_Y_node 238 = .ok (.iconst 0, 1) := by decide +kernel
theorem d_Y_node_239 : decode tb_Y_node 239 = .ok (.ireturn, 1) := by decide +kernel
theorem d_Y_node_240 : decode tb_Y_node 240 = .ok (.aload_n 0, 1) := by decide +kernel
theorem d_Y_node_241 : decode tb_Y_node 241 = .ok (.getfield 23, 3) := by decide +kernel
theorem d_Y_node_244 : decode tb_Y_node 244 = .ok (.bipush 8, 2) := by decide +kernel
theorem d_Y_node_246 : decode tb_Y_node 246 = .ok (.iload_n 1, 1) := by decide +kernel
theorem d_Y_node_247 : decode tb_Y_node 247 = .ok (.imul, 1) := by decide +kernel
theorem d_Y_node_248 : decode tb_Y_node 248 = .ok (.iaload, 1) := by decide +kernel
theorem d_Y_node_249 : decode tb_Y_node 249 = .ok (.ireturn, 1) := by decide +kernel
theorem d_Y_next_0 : decode tb_Y_next 0 = .ok (.iload_n 1, 1) := by decide +kernel
theorem d_Y_next_1 : decode tb_Y_next 1 = .ok (.invokestatic 244, 3) := by decide +kernel
theorem d_Y_next_4 : decode tb_Y_next 4 = .ok (.ifCond .eq 15, 3) := by decide +kernel
theorem d_Y_next_7 : decode tb_Y_next 7 = .ok (.iload_n 2, 1) := by decide +kernel
theorem d_Y_next_8 : decode tb_Y_next 8 = .ok (.invokestatic 244, 3) := by decide +kernel
theorem d_Y_next_11 : decode tb_Y_next 11 = .ok (.ifCond .eq 8, 3) := by decide +kernel
theorem d_Y_next_14 : decode tb_Y_next 14 = .ok (.iload_n 1, 1) := by decide +kernel
theorem d_Y_next_15 : decode tb_Y_next 15 = .ok (.iload_n 2, 1) := by decide +kernel
theorem d_Y_next_16 : decode tb_Y_next 16 = .ok (.if_icmp .ne 7, 3) := by decide +kernel
theorem d_Y_next_19 : decode tb_Y_next 19 = .ok (.iconst 0, 1) := by decide +kernel
theorem d_Y_next_20 : decode tb_Y_next 20 = .ok (.goto 16, 3) := by decide +kernel
theorem d_Y_next_23 : decode tb_Y_next 23 = .ok (.aload_n 0, 1) := by decide +kernel
theorem d_Y_next_24 : decode tb_Y_next 24 = .ok (.getfield 20, 3) := by decide +kernel
theorem d_Y_next_27 : decode tb_Y_next 27 = .ok (.bipush 7, 2) := by decide +kernel
theorem d_Y_next_29 : decode tb_Y_next 29 = .ok (.iload_n 1, 1) := by decide +kernel
theorem d_Y_next_30 : decode tb_Y_next 30 = .ok (.imul, 1) := by decide +kernel
theorem d_Y_next_31 : decode tb_Y_next 31 = .ok (.iload_n 2, 1) := by decide +kernel
theorem d_Y_next_32 : decode tb_Y_next 32 = .ok (.iadd, 1) := by decide +kernel
theorem d_Y_next_33 : decode tb_Y_next 33 = .ok (.iaload, 1) := by decide +kernel
theorem d_Y_next_34 : decode tb_Y_next 34 = .ok (.iconst 1, 1) := by decide +kernel
theorem d_Y_next_35 : decode tb_Y_next 35 = .ok (.iadd, 1) := by decide +kernel
theorem d_Y_next_36 : decode tb_Y_next 36 = .ok (.ireturn, 1) := by decide +kernel
theorem d_Y_known_0 : decode tb_Y_known 0 = .ok (.iload_n 1, 1) := by decide +kernel
theorem d_Y_known_1 : decode tb_Y_known 1 = .ok (.invokestatic 244, 3) := by decide +kernel
theorem d_Y_known_4 : decode tb_Y_known 4 = .ok (.ifCond .eq 29, 3) := by decide +kernel
theorem d_Y_known_7 : decode tb_Y_known 7 = .ok (.iload_n 2, 1) := by decide +kernel
theorem d_Y_known_8 : decode tb_Y_known 8 = .ok (.invokestatic 244, 3) := by decide +kernel
theorem d_Y_known_11 : decode tb_Y_known 11 = .ok (.ifCond .eq 22, 3) := by decide +kernel
theorem d_Y_known_14 : decode tb_Y_known 14 = .ok (.iload_n 1, 1) := by decide +kernel
theorem d_Y_known_15 : decode tb_Y_known 15 = .ok (.iload_n 2, 1) := by decide +kernel
theorem d_Y_known_16 : decode tb_Y_known 16 = .ok (.if_icmp .eq 17, 3) := by decide +kernel
theorem d_Y_known_19 : decode tb_Y_known 19 = .ok (.aload_n 0, 1) := by decide +kernel
theorem d_Y_known_20 : decode tb_Y_known 20 = .ok (.getfield 16, 3) := by decide +kernel
theorem d_Y_known_23 : decode tb_Y_known 23 = .ok (.bipush 7, 2) := by decide +kernel
theorem d_Y_known_25 : decode tb_Y_known 25 = .ok (.iload_n 1, 1) := by decide +kernel
theorem d_Y_known_26 : decode tb_Y_known 26 = .ok (.imul, 1) := by decide +kernel
theorem d_Y_known_27 : decode tb_Y_known 27 = .ok (.iload_n 2, 1) := by decide +kernel
theorem d_Y_known_28 : decode tb_Y_known 28 = .ok (.iadd, 1) := by decide +kernel
theorem d_Y_known_29 : decode tb_Y_known 29 = .ok (.baload, 1) := by decide +kernel
theorem d_Y_known_30 : decode tb_Y_known 30 = .ok (.ifCond .ne 7, 3) := by decide +kernel
theorem d_Y_known_33 : decode tb_Y_known 33 = .ok (.iconst 0, 1) := by decide +kernel
theorem d_Y_known_34 : decode tb_Y_known 34 = .ok (.goto 14, 3) := by decide +kernel
theorem d_Y_known_37 : decode tb_Y_known 37 = .ok (.aload_n 0, 1) := by decide +kernel
theorem d_Y_known_38 : decode tb_Y_known 38 = .ok (.getfield 13, 3) := by decide +kernel
theorem d_Y_known_41 : decode tb_Y_known 41 = .ok (.bipush 7, 2) := by decide +kernel
theorem d_Y_known_43 : decode tb_Y_known 43 = .ok (.iload_n 1, 1) := by decide +kernel
theorem d_Y_known_44 : decode tb_Y_known 44 = .ok (.imul, 1) := by decide +kernel
theorem d_Y_known_45 : decode tb_Y_known 45 = .ok (.iload_n 2, 1) := by decide +kernel
theorem d_Y_known_46 : decode tb_Y_known 46 = .ok (.iadd, 1) := by decide +kernel
theorem d_Y_known_47 : decode tb_Y_known 47 = .ok (.iaload, 1) := by decide +kernel
theorem d_Y_known_48 : decode tb_Y_known 48 = .ok (.ireturn, 1) := by decide +kernel
theorem d_Y_delivered_0 : decode tb_Y_delivered 0 = .ok (.iload_n 1, 1) := by decide +kernel
theorem d_Y_delivered_1 : decode tb_Y_delivered 1 = .ok (.invokestatic 244, 3) := by decide +kernel
theorem d_Y_delivered_4 : decode tb_Y_delivered 4 = .ok (.ifCond .eq 14, 3) := by decide +kernel
theorem d_Y_delivered_7 : decode tb_Y_delivered 7 = .ok (.iload_n 2, 1) := by decide +kernel
theorem d_Y_delivered_8 : decode tb_Y_delivered 8 = .ok (.iconst (-1), 1) := by decide +kernel
theorem d_Y_delivered_9 : decode tb_Y_delivered 9 = .ok (.if_icmp .lt 9, 3) := by decide +kernel
theorem d_Y_delivered_12 : decode tb_Y_delivered 12 = .ok (.iload_n 2, 1) := by decide +kernel
theorem d_Y_delivered_13 : decode tb_Y_delivered 13 = .ok (.bipush 7, 2) := by decide +kernel
theorem d_Y_delivered_15 : decode tb_Y_delivered 15 = .ok (.if_icmp .le 5, 3) := by decide +kernel
theorem d_Y_delivered_18 : decode tb_Y_delivered 18 = .ok (.iconst 0, 1) := by decide +kernel
theorem d_Y_delivered_19 : decode tb_Y_delivered 19 = .ok (.ireturn, 1) := by decide +kernel
theorem d_Y_delivered_20 : decode tb_Y_delivered 20 = .ok (.iload_n 2, 1) := by decide +kernel
theorem d_Y_delivered_21 : decode tb_Y_delivered 21 = .ok (.iconst (-1), 1) := by decide +kernel
theorem d_Y_delivered_22 : decode tb_Y_delivered 22 = .ok (.if_icmp .ne 10, 3) := by decide +kernel
theorem d_Y_delivered_25 : decode tb_Y_delivered 25 = .ok (.aload_n 0, 1) := by decide +kernel
theorem d_Y_delivered_26 : decode tb_Y_delivered 26 = .ok (.getfield 134, 3) := by decide +kernel
theorem d_Y_delivered_29 : decode tb_Y_delivered 29 = .ok (.iload_n 1, 1) := by decide +kernel
theorem d_Y_delivered_30 : decode tb_Y_delivered 30 = .ok (.iaload, 1) := by decide +kernel
theorem d_Y_delivered_31 : decode tb_Y_delivered 31 = .ok (.ireturn, 1) := by decide +kernel
theorem d_Y_delivered_32 : decode tb_Y_delivered 32 = .ok (.iload_n 2, 1) := by decide +kernel
theorem d_Y_delivered_33 : decode tb_Y_delivered 33 = .ok (.aload_n 0, 1) := by decide +kernel
theorem d_Y_delivered_34 : decode tb_Y_delivered 34 = .ok (.getfield 134, 3) := by decide +kernel
theorem d_Y_delivered_37 : decode tb_Y_delivered 37 = .ok (.iload_n 1, 1) := by decide +kernel
theorem d_Y_delivered_38 : decode tb_Y_delivered 38 = .ok (.iaload, 1) := by decide +kernel
theorem d_Y_delivered_39 : decode tb_Y_delivered 39 = .ok (.if_icmp .ge 17, 3) := by decide +kernel
theorem d_Y_delivered_42 : decode tb_Y_delivered 42 = .ok (.aload_n 0, 1) := by decide +kernel
theorem d_Y_delivered_43 : decode tb_Y_delivered 43 = .ok (.getfield 137, 3) := by decide +kernel
theorem d_Y_delivered_46 : decode tb_Y_delivered 46 = .ok (.bipush 8, 2) := by decide +kernel
theorem d_Y_delivered_48 : decode tb_Y_delivered 48 = .ok (.iload_n 1, 1) := by decide +kernel
theorem d_Y_delivered_49 : decode tb_Y_delivered 49 = .ok (.imul, 1) := by decide +kernel
theorem d_Y_delivered_50 : decode tb_Y_delivered 50 = .ok (.iload_n 2, 1) := by decide +kernel
theorem d_Y_delivered_51 : decode tb_Y_delivered 51 = .ok (.iadd, 1) := by decide +kernel
theorem d_Y_delivered_52 : decode tb_Y_delivered 52 = .ok (.iaload, 1) := by decide +kernel
theorem d_Y_delivered_53 : decode tb_Y_delivered 53 = .ok (.goto 4, 3) := by decide +kernel
theorem d_Y_delivered_56 : decode tb_Y_delivered 56 = .ok (.iconst 0, 1) := by decide +kernel
theorem d_Y_delivered_57 : decode tb_Y_delivered 57 = .ok (.ireturn, 1) := by decide +kernel
theorem d_Y_count_0 : decode tb_Y_count 0 = .ok (.iload_n 1, 1) := by decide +kernel
theorem d_Y_count_1 : decode tb_Y_count 1 = .ok (.ifCond .ne 10, 3) := by decide +kernel
theorem d_Y_count_4 : decode tb_Y_count 4 = .ok (.aload_n 0, 1) := by decide +kernel
theorem d_Y_count_5 : decode tb_Y_count 5 = .ok (.getfield 162, 3) := by decide +kernel
theorem d_Y_count_8 : decode tb_Y_count 8 = .ok (.goto 28, 3) := by decide +kernel
theorem d_Y_count_11 : decode tb_Y_count 11 = .ok (.iload_n 1, 1) := by decide +kernel
theorem d_Y_count_12 : decode tb_Y_count 12 = .ok (.iconst 1, 1) := by decide +kernel
theorem d_Y_count_13 : decode tb_Y_count 13 = .ok (.if_icmp .ne 10, 3) := by decide +kernel
theorem d_Y_count_16 : decode tb_Y_count 16 = .ok (.aload_n 0, 1) := by decide +kernel
theorem d_Y_count_17 : decode tb_Y_count 17 = .ok (.getfield 197, 3) := by decide +kernel
theorem d_Y_count_20 : decode tb_Y_count 20 = .ok (.goto 16, 3) := by decide +kernel
theorem d_Y_count_23 : decode tb_Y_count 23 = .ok (.iload_n 1, 1) := by decide +kernel
theorem d_Y_count_24 : decode tb_Y_count 24 = .ok (.iconst 2, 1) := by decide +kernel
theorem d_Y_count_25 : decode tb_Y_count 25 = .ok (.if_icmp .ne 10, 3) := by decide +kernel
theorem d_Y_count_28 : decode tb_Y_count 28 = .ok (.aload_n 0, 1) := by decide +kernel
theorem d_Y_count_29 : decode tb_Y_count 29 = .ok (.getfield 210, 3) := by decide +kernel
theorem d_Y_count_32 : decode tb_Y_count 32 = .ok (.goto 4, 3) := by decide +kernel
theorem d_Y_count_35 : decode tb_Y_count 35 = .ok (.iconst 0, 1) := by decide +kernel
theorem d_Y_count_36 : decode tb_Y_count 36 = .ok (.ireturn, 1) := by decide +kernel
