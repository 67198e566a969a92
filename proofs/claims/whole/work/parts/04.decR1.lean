theorem dX12_init_0 : decode cX12_init 0 = .ok (.aload_n 0, 1) := by decide +kernel
theorem dX12_init_1 : decode cX12_init 1 = .ok (.invokespecial 1, 3) := by decide +kernel
theorem dX12_init_4 : decode cX12_init 4 = .ok (.aload_n 0, 1) := by decide +kernel
theorem dX12_init_5 : decode cX12_init 5 = .ok (.sipush 1500, 3) := by decide +kernel
theorem dX12_init_8 : decode cX12_init 8 = .ok (.newarray .byte, 2) := by decide +kernel
theorem dX12_init_10 : decode cX12_init 10 = .ok (.putfield 7, 3) := by decide +kernel
theorem dX12_init_13 : decode cX12_init 13 = .ok (.aload_n 0, 1) := by decide +kernel
theorem dX12_init_14 : decode cX12_init 14 = .ok (.sipush 820, 3) := by decide +kernel
theorem dX12_init_17 : decode cX12_init 17 = .ok (.newarray .long, 2) := by decide +kernel
theorem dX12_init_19 : decode cX12_init 19 = .ok (.putfield 13, 3) := by decide +kernel
theorem dX12_init_22 : decode cX12_init 22 = .ok (.aload_n 0, 1) := by decide +kernel
theorem dX12_init_23 : decode cX12_init 23 = .ok (.sipush 820, 3) := by decide +kernel
theorem dX12_init_26 : decode cX12_init 26 = .ok (.newarray .int, 2) := by decide +kernel
theorem dX12_init_28 : decode cX12_init 28 = .ok (.putfield 17, 3) := by decide +kernel
theorem dX12_init_31 : decode cX12_init 31 = .ok (.aload_n 0, 1) := by decide +kernel
theorem dX12_init_32 : decode cX12_init 32 = .ok (.sipush 820, 3) := by decide +kernel
theorem dX12_init_35 : decode cX12_init 35 = .ok (.newarray .boolean, 2) := by decide +kernel
theorem dX12_init_37 : decode cX12_init 37 = .ok (.putfield 21, 3) := by decide +kernel
theorem dX12_init_40 : decode cX12_init 40 = .ok (.aload_n 0, 1) := by decide +kernel
theorem dX12_init_41 : decode cX12_init 41 = .ok (.sipush 3100, 3) := by decide +kernel
theorem dX12_init_44 : decode cX12_init 44 = .ok (.newarray .int, 2) := by decide +kernel
theorem dX12_init_46 : decode cX12_init 46 = .ok (.putfield 25, 3) := by decide +kernel
theorem dX12_init_49 : decode cX12_init 49 = .ok (.aload_n 0, 1) := by decide +kernel
theorem dX12_init_50 : decode cX12_init 50 = .ok (.bipush 101, 2) := by decide +kernel
theorem dX12_init_52 : decode cX12_init 52 = .ok (.newarray .int, 2) := by decide +kernel
theorem dX12_init_54 : decode cX12_init 54 = .ok (.putfield 28, 3) := by decide +kernel
theorem dX12_init_57 : decode cX12_init 57 = .ok (.aload_n 0, 1) := by decide +kernel
theorem dX12_init_58 : decode cX12_init 58 = .ok (.bipush 101, 2) := by decide +kernel
theorem dX12_init_60 : decode cX12_init 60 = .ok (.newarray .int, 2) := by decide +kernel
theorem dX12_init_62 : decode cX12_init 62 = .ok (.putfield 31, 3) := by decide +kernel
theorem dX12_init_65 : decode cX12_init 65 = .ok (.aload_n 0, 1) := by decide +kernel
theorem dX12_init_66 : decode cX12_init 66 = .ok (.bipush 101, 2) := by decide +kernel
theorem dX12_init_68 : decode cX12_init 68 = .ok (.newarray .int, 2) := by decide +kernel
theorem dX12_init_70 : decode cX12_init 70 = .ok (.putfield 34, 3) := by decide +kernel
theorem dX12_init_73 : decode cX12_init 73 = .ok (.aload_n 0, 1) := by decide +kernel
theorem dX12_init_74 : decode cX12_init 74 = .ok (.sipush 1300, 3) := by decide +kernel
theorem dX12_init_77 : decode cX12_init 77 = .ok (.newarray .boolean, 2) := by decide +kernel
theorem dX12_init_79 : decode cX12_init 79 = .ok (.putfield 37, 3) := by decide +kernel
theorem dX12_init_82 : decode cX12_init 82 = .ok (.aload_n 0, 1) := by decide +kernel
theorem dX12_init_83 : decode cX12_init 83 = .ok (.sipush 1300, 3) := by decide +kernel
theorem dX12_init_86 : decode cX12_init 86 = .ok (.newarray .int, 2) := by decide +kernel
theorem dX12_init_88 : decode cX12_init 88 = .ok (.putfield 40, 3) := by decide +kernel
theorem dX12_init_91 : decode cX12_init 91 = .ok (.aload_n 0, 1) := by decide +kernel
theorem dX12_init_92 : decode cX12_init 92 = .ok (.sipush 20400, 3) := by decide +kernel
theorem dX12_init_95 : decode cX12_init 95 = .ok (.newarray .int, 2) := by decide +kernel
theorem dX12_init_97 : decode cX12_init 97 = .ok (.putfield 43, 3) := by decide +kernel
theorem dX12_init_100 : decode cX12_init 100 = .ok (.aload_n 0, 1) := by decide +kernel
theorem dX12_init_101 : decode cX12_init 101 = .ok (.sipush 20400, 3) := by decide +kernel
theorem dX12_init_104 : decode cX12_init 104 = .ok (.newarray .int, 2) := by decide +kernel
theorem dX12_init_106 : decode cX12_init 106 = .ok (.putfield 46, 3) := by decide +kernel
theorem dX12_init_109 : decode cX12_init 109 = .ok (.aload_n 0, 1) := by decide +kernel
theorem dX12_init_110 : decode cX12_init 110 = .ok (.sipush 20400, 3) := by decide +kernel
theorem dX12_init_113 : decode cX12_init 113 = .ok (.newarray .int, 2) := by decide +kernel
theorem dX12_init_115 : decode cX12_init 115 = .ok (.putfield 49, 3) := by decide +kernel
theorem dX12_init_118 : decode cX12_init 118 = .ok (.aload_n 0, 1) := by decide +kernel
theorem dX12_init_119 : decode cX12_init 119 = .ok (.sipush 1600, 3) := by decide +kernel
theorem dX12_init_122 : decode cX12_init 122 = .ok (.newarray .int, 2) := by decide +kernel
theorem dX12_init_124 : decode cX12_init 124 = .ok (.putfield 52, 3) := by decide +kernel
theorem dX12_init_127 : decode cX12_init 127 = .ok (.aload_n 0, 1) := by decide +kernel
theorem dX12_init_128 : decode cX12_init 128 = .ok (.sipush 1600, 3) := by decide +kernel
theorem dX12_init_131 : decode cX12_init 131 = .ok (.newarray .int, 2) := by decide +kernel
theorem dX12_init_133 : decode cX12_init 133 = .ok (.putfield 55, 3) := by decide +kernel
theorem dX12_init_136 : decode cX12_init 136 = .ok (.aload_n 0, 1) := by decide +kernel
theorem dX12_init_137 : decode cX12_init 137 = .ok (.sipush 1600, 3) := by decide +kernel
theorem dX12_init_140 : decode cX12_init 140 = .ok (.newarray .int, 2) := by decide +kernel
theorem dX12_init_142 : decode cX12_init 142 = .ok (.putfield 58, 3) := by decide +kernel
theorem dX12_init_145 : decode cX12_init 145 = .ok (.aload_n 0, 1) := by decide +kernel
theorem dX12_init_146 : decode cX12_init 146 = .ok (.sipush 1600, 3) := by decide +kernel
theorem dX12_init_149 : decode cX12_init 149 = .ok (.newarray .long, 2) := by decide +kernel
theorem dX12_init_151 : decode cX12_init 151 = .ok (.putfield 61, 3) := by decide +kernel
theorem dX12_init_154 : decode cX12_init 154 = .ok (.aload_n 0, 1) := by decide +kernel
theorem dX12_init_155 : decode cX12_init 155 = .ok (.sipush 1600, 3) := by decide +kernel
theorem dX12_init_158 : decode cX12_init 158 = .ok (.newarray .int, 2) := by decide +kernel
theorem dX12_init_160 : decode cX12_init 160 = .ok (.putfield 64, 3) := by decide +kernel
theorem dX12_init_163 : decode cX12_init 163 = .ok (.aload_n 0, 1) := by decide +kernel
theorem dX12_init_164 : decode cX12_init 164 = .ok (.sipush 1600, 3) := by decide +kernel
theorem dX12_init_167 : decode cX12_init 167 = .ok (.newarray .long, 2) := by decide +kernel
theorem dX12_init_169 : decode cX12_init 169 = .ok (.putfield 67, 3) := by decide +kernel
theorem dX12_init_172 : decode cX12_init 172 = .ok (.aload_n 0, 1) := by decide +kernel
theorem dX12_init_173 : decode cX12_init 173 = .ok (.sipush 6000, 3) := by decide +kernel
theorem dX12_init_176 : decode cX12_init 176 = .ok (.newarray .int, 2) := by decide +kernel
theorem dX12_init_178 : decode cX12_init 178 = .ok (.putfield 70, 3) := by decide +kernel
theorem dX12_init_181 : decode cX12_init 181 = .ok (.aload_n 0, 1) := by decide +kernel
theorem dX12_init_182 : decode cX12_init 182 = .ok (.sipush 6000, 3) := by decide +kernel
theorem dX12_init_185 : decode cX12_init 185 = .ok (.newarray .int, 2) := by decide +kernel
theorem dX12_init_187 : decode cX12_init 187 = .ok (.putfield 73, 3) := by decide +kernel
theorem dX12_init_190 : decode cX12_init 190 = .ok (.aload_n 0, 1) := by decide +kernel
theorem dX12_init_191 : decode cX12_init 191 = .ok (.sipush 3000, 3) := by decide +kernel
theorem dX12_init_194 : decode cX12_init 194 = .ok (.newarray .int, 2) := by decide +kernel
theorem dX12_init_196 : decode cX12_init 196 = .ok (.putfield 76, 3) := by decide +kernel
theorem dX12_init_199 : decode cX12_init 199 = .ok (.aload_n 0, 1) := by decide +kernel
theorem dX12_init_200 : decode cX12_init 200 = .ok (.bipush 40, 2) := by decide +kernel
theorem dX12_init_202 : decode cX12_init 202 = .ok (.newarray .int, 2) := by decide +kernel
theorem dX12_init_204 : decode cX12_init 204 = .ok (.putfield 79, 3) := by decide +kernel
theorem dX12_init_207 : decode cX12_init 207 = .ok (.aload_n 0, 1) := by decide +kernel
theorem dX12_init_208 : decode cX12_init 208 = .ok (.bipush 40, 2) := by decide +kernel
theorem dX12_init_210 : decode cX12_init 210 = .ok (.newarray .int, 2) := by decide +kernel
theorem dX12_init_212 : decode cX12_init 212 = .ok (.putfield 82, 3) := by decide +kernel
theorem dX12_init_215 : decode cX12_init 215 = .ok (.aload_n 0, 1) := by decide +kernel
theorem dX12_init_216 : decode cX12_init 216 = .ok (.bipush 40, 2) := by decide +kernel
theorem dX12_init_218 : decode cX12_init 218 = .ok (.newarray .int, 2) := by decide +kernel
theorem dX12_init_220 : decode cX12_init 220 = .ok (.putfield 85, 3) := by decide +kernel
theorem dX12_init_223 : decode cX12_init 223 = .ok (.aload_n 0, 1) := by decide +kernel
theorem dX12_init_224 : decode cX12_init 224 = .ok (.sipush 700, 3) := by decide +kernel
theorem dX12_init_227 : decode cX12_init 227 = .ok (.newarray .int, 2) := by decide +kernel
theorem dX12_init_229 : decode cX12_init 229 = .ok (.putfield 88, 3) := by decide +kernel
theorem dX12_init_232 : decode cX12_init 232 = .ok (.aload_n 0, 1) := by decide +kernel
theorem dX12_init_233 : decode cX12_init 233 = .ok (.sipush 700, 3) := by decide +kernel
theorem dX12_init_236 : decode cX12_init 236 = .ok (.newarray .int, 2) := by decide +kernel
theorem dX12_init_238 : decode cX12_init 238 = .ok (.putfield 91, 3) := by decide +kernel
theorem dX12_init_241 : decode cX12_init 241 = .ok (.aload_n 0, 1) := by decide +kernel
theorem dX12_init_242 : decode cX12_init 242 = .ok (.sipush 700, 3) := by decide +kernel
theorem dX12_init_245 : decode cX12_init 245 = .ok (.newarray .int, 2) := by decide +kernel
theorem dX12_init_247 : decode cX12_init 247 = .ok (.putfield 94, 3) := by decide +kernel
theorem dX12_init_250 : decode cX12_init 250 = .ok (.aload_n 0, 1) := by decide +kernel
theorem dX12_init_251 : decode cX12_init 251 = .ok (.sipush 700, 3) := by decide +kernel
theorem dX12_init_254 : decode cX12_init 254 = .ok (.newarray .int, 2) := by decide +kernel
theorem dX12_init_256 : decode cX12_init 256 = .ok (.putfield 97, 3) := by decide +kernel
theorem dX12_init_259 : decode cX12_init 259 = .ok (.aload_n 0, 1) := by decide +kernel
theorem dX12_init_260 : decode cX12_init 260 = .ok (.sipush 6100, 3) := by decide +kernel
theorem dX12_init_263 : decode cX12_init 263 = .ok (.newarray .int, 2) := by decide +kernel
theorem dX12_init_265 : decode cX12_init 265 = .ok (.putfield 100, 3) := by decide +kernel
theorem dX12_init_268 : decode cX12_init 268 = .ok (.aload_n 0, 1) := by decide +kernel
theorem dX12_init_269 : decode cX12_init 269 = .ok (.sipush 6100, 3) := by decide +kernel
theorem dX12_init_272 : decode cX12_init 272 = .ok (.newarray .int, 2) := by decide +kernel
theorem dX12_init_274 : decode cX12_init 274 = .ok (.putfield 103, 3) := by decide +kernel
theorem dX12_init_277 : decode cX12_init 277 = .ok (.aload_n 0, 1) := by decide +kernel
theorem dX12_init_278 : decode cX12_init 278 = .ok (.sipush 6100, 3) := by decide +kernel
theorem dX12_init_281 : decode cX12_init 281 = .ok (.newarray .int, 2) := by decide +kernel
theorem dX12_init_283 : decode cX12_init 283 = .ok (.putfield 106, 3) := by decide +kernel
theorem dX12_init_286 : decode cX12_init 286 = .ok (.aload_n 0, 1) := by decide +kernel
theorem dX12_init_287 : decode cX12_init 287 = .ok (.sipush 6100, 3) := by decide +kernel
theorem dX12_init_290 : decode cX12_init 290 = .ok (.newarray .boolean, 2) := by decide +kernel
theorem dX12_init_292 : decode cX12_init 292 = .ok (.putfield 109, 3) := by decide +kernel
theorem dX12_init_295 : decode cX12_init 295 = .ok (.aload_n 0, 1) := by decide +kernel
theorem dX12_init_296 : decode cX12_init 296 = .ok (.sipush 24000, 3) := by decide +kernel
theorem dX12_init_299 : decode cX12_init 299 = .ok (.newarray .int, 2) := by decide +kernel
theorem dX12_init_301 : decode cX12_init 301 = .ok (.putfield 112, 3) := by decide +kernel
theorem dX12_init_304 : decode cX12_init 304 = .ok (.aload_n 0, 1) := by decide +kernel
theorem dX12_init_305 : decode cX12_init 305 = .ok (.sipush 15500, 3) := by decide +kernel
theorem dX12_init_308 : decode cX12_init 308 = .ok (.newarray .int, 2) := by decide +kernel
theorem dX12_init_310 : decode cX12_init 310 = .ok (.putfield 115, 3) := by decide +kernel
theorem dX12_init_313 : decode cX12_init 313 = .ok (.aload_n 0, 1) := by decide +kernel
theorem dX12_init_314 : decode cX12_init 314 = .ok (.sipush 6100, 3) := by decide +kernel
theorem dX12_init_317 : decode cX12_init 317 = .ok (.newarray .int, 2) := by decide +kernel
theorem dX12_init_319 : decode cX12_init 319 = .ok (.putfield 118, 3) := by decide +kernel
theorem dX12_init_322 : decode cX12_init 322 = .ok (.aload_n 0, 1) := by decide +kernel
theorem dX12_init_323 : decode cX12_init 323 = .ok (.sipush 6100, 3) := by decide +kernel
theorem dX12_init_326 : decode cX12_init 326 = .ok (.newarray .int, 2) := by decide +kernel
theorem dX12_init_328 : decode cX12_init 328 = .ok (.putfield 121, 3) := by decide +kernel
theorem dX12_init_331 : decode cX12_init 331 = .ok (.aload_n 0, 1) := by decide +kernel
theorem dX12_init_332 : decode cX12_init 332 = .ok (.sipush 700, 3) := by decide +kernel
theorem dX12_init_335 : decode cX12_init 335 = .ok (.newarray .int, 2) := by decide +kernel
theorem dX12_init_337 : decode cX12_init 337 = .ok (.putfield 124, 3) := by decide +kernel
theorem dX12_init_340 : decode cX12_init 340 = .ok (.aload_n 0, 1) := by decide +kernel
theorem dX12_init_341 : decode cX12_init 341 = .ok (.sipush 700, 3) := by decide +kernel
theorem dX12_init_344 : decode cX12_init 344 = .ok (.newarray .int, 2) := by decide +kernel
theorem dX12_init_346 : decode cX12_init 346 = .ok (.putfield 127, 3) := by decide +kernel
theorem dX12_init_349 : decode cX12_init 349 = .ok (.aload_n 0, 1) := by decide +kernel
theorem dX12_init_350 : decode cX12_init 350 = .ok (.sipush 7000, 3) := by decide +kernel
theorem dX12_init_353 : decode cX12_init 353 = .ok (.newarray .int, 2) := by decide +kernel
theorem dX12_init_355 : decode cX12_init 355 = .ok (.putfield 130, 3) := by decide +kernel
theorem dX12_init_358 : decode cX12_init 358 = .ok (.aload_n 0, 1) := by decide +kernel
theorem dX12_init_359 : decode cX12_init 359 = .ok (.bipush 13, 2) := by decide +kernel
theorem dX12_init_361 : decode cX12_init 361 = .ok (.newarray .int, 2) := by decide +kernel
theorem dX12_init_363 : decode cX12_init 363 = .ok (.putfield 133, 3) := by decide +kernel
theorem dX12_init_366 : decode cX12_init 366 = .ok (.aload_n 0, 1) := by decide +kernel
theorem dX12_init_367 : decode cX12_init 367 = .ok (.sipush 200, 3) := by decide +kernel
theorem dX12_init_370 : decode cX12_init 370 = .ok (.newarray .int, 2) := by decide +kernel
theorem dX12_init_372 : decode cX12_init 372 = .ok (.putfield 136, 3) := by decide +kernel
theorem dX12_init_375 : decode cX12_init 375 = .ok (.aload_n 0, 1) := by decide +kernel
theorem dX12_init_376 : decode cX12_init 376 = .ok (.sipush 300, 3) := by decide +kernel
theorem dX12_init_379 : decode cX12_init 379 = .ok (.newarray .int, 2) := by decide +kernel
theorem dX12_init_381 : decode cX12_init 381 = .ok (.putfield 139, 3) := by decide +kernel
theorem dX12_init_384 : decode cX12_init 384 = .ok (.aload_n 0, 1) := by decide +kernel
theorem dX12_init_385 : decode cX12_init 385 = .ok (.sipush 4100, 3) := by decide +kernel
theorem dX12_init_388 : decode cX12_init 388 = .ok (.newarray .byte, 2) := by decide +kernel
theorem dX12_init_390 : decode cX12_init 390 = .ok (.putfield 142, 3) := by decide +kernel
theorem dX12_init_393 : decode cX12_init 393 = .ok (.aload_n 0, 1) := by decide +kernel
theorem dX12_init_394 : decode cX12_init 394 = .ok (.sipush 4100, 3) := by decide +kernel
theorem dX12_init_397 : decode cX12_init 397 = .ok (.newarray .byte, 2) := by decide +kernel
theorem dX12_init_399 : decode cX12_init 399 = .ok (.putfield 145, 3) := by decide +kernel
theorem dX12_init_402 : decode cX12_init 402 = .ok (.aload_n 0, 1) := by decide +kernel
theorem dX12_init_403 : decode cX12_init 403 = .ok (.sipush 4200, 3) := by decide +kernel
theorem dX12_init_406 : decode cX12_init 406 = .ok (.newarray .int, 2) := by decide +kernel
theorem dX12_init_408 : decode cX12_init 408 = .ok (.putfield 148, 3) := by decide +kernel
theorem dX12_init_411 : decode cX12_init 411 = .ok (.aload_n 0, 1) := by decide +kernel
theorem dX12_init_412 : decode cX12_init 412 = .ok (.sipush 21000, 3) := by decide +kernel
theorem dX12_init_415 : decode cX12_init 415 = .ok (.newarray .int, 2) := by decide +kernel
theorem dX12_init_417 : decode cX12_init 417 = .ok (.putfield 151, 3) := by decide +kernel
theorem dX12_init_420 : decode cX12_init 420 = .ok (.aload_n 0, 1) := by decide +kernel
theorem dX12_init_421 : decode cX12_init 421 = .ok (.sipush 21000, 3) := by decide +kernel
theorem dX12_init_424 : decode cX12_init 424 = .ok (.newarray .int, 2) := by decide +kernel
theorem dX12_init_426 : decode cX12_init 426 = .ok (.putfield 154, 3) := by decide +kernel
theorem dX12_init_429 : decode cX12_init 429 = .ok (.aload_n 0, 1) := by decide +kernel
theorem dX12_init_430 : decode cX12_init 430 = .ok (.iconst 5, 1) := by decide +kernel
theorem dX12_init_431 : decode cX12_init 431 = .ok (.newarray .int, 2) := by decide +kernel
theorem dX12_init_433 : decode cX12_init 433 = .ok (.putfield 157, 3) := by decide +kernel
theorem dX12_init_436 : decode cX12_init 436 = .ok (.aload_n 0, 1) := by decide +kernel
theorem dX12_init_437 : decode cX12_init 437 = .ok (.sipush 400, 3) := by decide +kernel
theorem dX12_init_440 : decode cX12_init 440 = .ok (.newarray .int, 2) := by decide +kernel
theorem dX12_init_442 : decode cX12_init 442 = .ok (.putfield 160, 3) := by decide +kernel
theorem dX12_init_445 : decode cX12_init 445 = .ok (.aload_n 0, 1) := by decide +kernel
theorem dX12_init_446 : decode cX12_init 446 = .ok (.sipush 400, 3) := by decide +kernel
theorem dX12_init_449 : decode cX12_init 449 = .ok (.newarray .int, 2) := by decide +kernel
theorem dX12_init_451 : decode cX12_init 451 = .ok (.putfield 163, 3) := by decide +kernel
theorem dX12_init_454 : decode cX12_init 454 = .ok (.aload_n 0, 1) := by decide +kernel
theorem dX12_init_455 : decode cX12_init 455 = .ok (.sipush 400, 3) := by decide +kernel
theorem dX12_init_458 : decode cX12_init 458 = .ok (.newarray .int, 2) := by decide +kernel
theorem dX12_init_460 : decode cX12_init 460 = .ok (.putfield 166, 3) := by decide +kernel
theorem dX12_init_463 : decode cX12_init 463 = .ok (.aload_n 0, 1) := by decide +kernel
theorem dX12_init_464 : decode cX12_init 464 = .ok (.sipush 400, 3) := by decide +kernel
theorem dX12_init_467 : decode cX12_init 467 = .ok (.newarray .int, 2) := by decide +kernel
theorem dX12_init_469 : decode cX12_init 469 = .ok (.putfield 169, 3) := by decide +kernel
theorem dX12_init_472 : decode cX12_init 472 = .ok (.aload_n 0, 1) := by decide +kernel
theorem dX12_init_473 : decode cX12_init 473 = .ok (.sipush 300, 3) := by decide +kernel
theorem dX12_init_476 : decode cX12_init 476 = .ok (.newarray .int, 2) := by decide +kernel
theorem dX12_init_478 : decode cX12_init 478 = .ok (.putfield 172, 3) := by decide +kernel
theorem dX12_init_481 : decode cX12_init 481 = .ok (.aload_n 0, 1) := by decide +kernel
theorem dX12_init_482 : decode cX12_init 482 = .ok (.sipush 300, 3) := by decide +kernel
theorem dX12_init_485 : decode cX12_init 485 = .ok (.newarray .int, 2) := by decide +kernel
theorem dX12_init_487 : decode cX12_init 487 = .ok (.putfield 175, 3) := by decide +kernel
theorem dX12_init_490 : decode cX12_init 490 = .ok (.aload_n 0, 1) := by decide +kernel
theorem dX12_init_491 : decode cX12_init 491 = .ok (.sipush 400, 3) := by decide +kernel
theorem dX12_init_494 : decode cX12_init 494 = .ok (.newarray .int, 2) := by decide +kernel
theorem dX12_init_496 : decode cX12_init 496 = .ok (.putfield 178, 3) := by decide +kernel
theorem dX12_init_499 : decode cX12_init 499 = .ok (.aload_n 0, 1) := by decide +kernel
theorem dX12_init_500 : decode cX12_init 500 = .ok (.sipush 400, 3) := by decide +kernel
theorem dX12_init_503 : decode cX12_init 503 = .ok (.newarray .int, 2) := by decide +kernel
theorem dX12_init_505 : decode cX12_init 505 = .ok (.putfield 181, 3) := by decide +kernel
theorem dX12_init_508 : decode cX12_init 508 = .ok (.aload_n 0, 1) := by decide +kernel
theorem dX12_init_509 : decode cX12_init 509 = .ok (.sipush 400, 3) := by decide +kernel
theorem dX12_init_512 : decode cX12_init 512 = .ok (.newarray .int, 2) := by decide +kernel
theorem dX12_init_514 : decode cX12_init 514 = .ok (.putfield 184, 3) := by decide +kernel
theorem dX12_init_517 : decode cX12_init 517 = .ok (.aload_n 0, 1) := by decide +kernel
theorem dX12_init_518 : decode cX12_init 518 = .ok (.sipush 400, 3) := by decide +kernel
theorem dX12_init_521 : decode cX12_init 521 = .ok (.newarray .int, 2) := by decide +kernel
theorem dX12_init_523 : decode cX12_init 523 = .ok (.putfield 187, 3) := by decide +kernel
theorem dX12_init_526 : decode cX12_init 526 = .ok (.aload_n 0, 1) := by decide +kernel
theorem dX12_init_527 : decode cX12_init 527 = .ok (.sipush 400, 3) := by decide +kernel
theorem dX12_init_530 : decode cX12_init 530 = .ok (.newarray .int, 2) := by decide +kernel
theorem dX12_init_532 : decode cX12_init 532 = .ok (.putfield 190, 3) := by decide +kernel
theorem dX12_init_535 : decode cX12_init 535 = .ok (.aload_n 0, 1) := by decide +kernel
theorem dX12_init_536 : decode cX12_init 536 = .ok (.sipush 20100, 3) := by decide +kernel
theorem dX12_init_539 : decode cX12_init 539 = .ok (.newarray .int, 2) := by decide +kernel
theorem dX12_init_541 : decode cX12_init 541 = .ok (.putfield 193, 3) := by decide +kernel
theorem dX12_init_544 : decode cX12_init 544 = .ok (.aload_n 0, 1) := by decide +kernel
theorem dX12_init_545 : decode cX12_init 545 = .ok (.sipush 20100, 3) := by decide +kernel
theorem dX12_init_548 : decode cX12_init 548 = .ok (.newarray .int, 2) := by decide +kernel
theorem dX12_init_550 : decode cX12_init 550 = .ok (.putfield 196, 3) := by decide +kernel
theorem dX12_init_553 : decode cX12_init 553 = .ok (.aload_n 0, 1) := by decide +kernel
theorem dX12_init_554 : decode cX12_init 554 = .ok (.sipush 20100, 3) := by decide +kernel
theorem dX12_init_557 : decode cX12_init 557 = .ok (.newarray .int, 2) := by decide +kernel
theorem dX12_init_559 : decode cX12_init 559 = .ok (.putfield 199, 3) := by decide +kernel
theorem dX12_init_562 : decode cX12_init 562 = .ok (.aload_n 0, 1) := by decide +kernel
theorem dX12_init_563 : decode cX12_init 563 = .ok (.sipush 20100, 3) := by decide +kernel
theorem dX12_init_566 : decode cX12_init 566 = .ok (.newarray .int, 2) := by decide +kernel
theorem dX12_init_568 : decode cX12_init 568 = .ok (.putfield 202, 3) := by decide +kernel
theorem dX12_init_571 : decode cX12_init 571 = .ok (.aload_n 0, 1) := by decide +kernel
theorem dX12_init_572 : decode cX12_init 572 = .ok (.sipush 20100, 3) := by decide +kernel
theorem dX12_init_575 : decode cX12_init 575 = .ok (.newarray .int, 2) := by decide +kernel
theorem dX12_init_577 : decode cX12_init 577 = .ok (.putfield 205, 3) := by decide +kernel
theorem dX12_init_580 : decode cX12_init 580 = .ok (.aload_n 0, 1) := by decide +kernel
theorem dX12_init_581 : decode cX12_init 581 = .ok (.sipush 20100, 3) := by decide +kernel
theorem dX12_init_584 : decode cX12_init 584 = .ok (.newarray .int, 2) := by decide +kernel
theorem dX12_init_586 : decode cX12_init 586 = .ok (.putfield 208, 3) := by decide +kernel
theorem dX12_init_589 : decode cX12_init 589 = .ok (.aload_n 0, 1) := by decide +kernel
theorem dX12_init_590 : decode cX12_init 590 = .ok (.sipush 400, 3) := by decide +kernel
theorem dX12_init_593 : decode cX12_init 593 = .ok (.newarray .int, 2) := by decide +kernel
theorem dX12_init_595 : decode cX12_init 595 = .ok (.putfield 211, 3) := by decide +kernel
theorem dX12_init_598 : decode cX12_init 598 = .ok (.aload_n 0, 1) := by decide +kernel
theorem dX12_init_599 : decode cX12_init 599 = .ok (.sipush 400, 3) := by decide +kernel
theorem dX12_init_602 : decode cX12_init 602 = .ok (.newarray .int, 2) := by decide +kernel
theorem dX12_init_604 : decode cX12_init 604 = .ok (.putfield 214, 3) := by decide +kernel
theorem dX12_init_607 : decode cX12_init 607 = .ok (.aload_n 0, 1) := by decide +kernel
theorem dX12_init_608 : decode cX12_init 608 = .ok (.sipush 400, 3) := by decide +kernel
theorem dX12_init_611 : decode cX12_init 611 = .ok (.newarray .int, 2) := by decide +kernel
theorem dX12_init_613 : decode cX12_init 613 = .ok (.putfield 217, 3) := by decide +kernel
theorem dX12_init_616 : decode cX12_init 616 = .ok (.aload_n 0, 1) := by decide +kernel
theorem dX12_init_617 : decode cX12_init 617 = .ok (.sipush 400, 3) := by decide +kernel
theorem dX12_init_620 : decode cX12_init 620 = .ok (.newarray .int, 2) := by decide +kernel
theorem dX12_init_622 : decode cX12_init 622 = .ok (.putfield 220, 3) := by decide +kernel
theorem dX12_init_625 : decode cX12_init 625 = .ok (.aload_n 0, 1) := by decide +kernel
theorem dX12_init_626 : decode cX12_init 626 = .ok (.sipush 400, 3) := by decide +kernel
theorem dX12_init_629 : decode cX12_init 629 = .ok (.newarray .int, 2) := by decide +kernel
theorem dX12_init_631 : decode cX12_init 631 = .ok (.putfield 223, 3) := by decide +kernel
theorem dX12_init_634 : decode cX12_init 634 = .ok (.aload_n 0, 1) := by decide +kernel
theorem dX12_init_635 : decode cX12_init 635 = .ok (.sipush 400, 3) := by decide +kernel
theorem dX12_init_638 : decode cX12_init 638 = .ok (.newarray .int, 2) := by decide +kernel
theorem dX12_init_640 : decode cX12_init 640 = .ok (.putfield 226, 3) := by decide +kernel
theorem dX12_init_643 : decode cX12_init 643 = .ok (.aload_n 0, 1) := by decide +kernel
theorem dX12_init_644 : decode cX12_init 644 = .ok (.sipush 400, 3) := by decide +kernel
theorem dX12_init_647 : decode cX12_init 647 = .ok (.newarray .int, 2) := by decide +kernel
theorem dX12_init_649 : decode cX12_init 649 = .ok (.putfield 229, 3) := by decide +kernel
theorem dX12_init_652 : decode cX12_init 652 = .ok (.aload_n 0, 1) := by decide +kernel
theorem dX12_init_653 : decode cX12_init 653 = .ok (.sipush 400, 3) := by decide +kernel
theorem dX12_init_656 : decode cX12_init 656 = .ok (.newarray .int, 2) := by decide +kernel
theorem dX12_init_658 : decode cX12_init 658 = .ok (.putfield 232, 3) := by decide +kernel
theorem dX12_init_661 : decode cX12_init 661 = .ok (.aload_n 0, 1) := by decide +kernel
theorem dX12_init_662 : decode cX12_init 662 = .ok (.sipush 400, 3) := by decide +kernel
theorem dX12_init_665 : decode cX12_init 665 = .ok (.newarray .int, 2) := by decide +kernel
theorem dX12_init_667 : decode cX12_init 667 = .ok (.putfield 235, 3) := by decide +kernel
theorem dX12_init_670 : decode cX12_init 670 = .ok (.aload_n 0, 1) := by decide +kernel
theorem dX12_init_671 : decode cX12_init 671 = .ok (.sipush 400, 3) := by decide +kernel
theorem dX12_init_674 : decode cX12_init 674 = .ok (.newarray .int, 2) := by decide +kernel
theorem dX12_init_676 : decode cX12_init 676 = .ok (.putfield 238, 3) := by decide +kernel
theorem dX12_init_679 : decode cX12_init 679 = .ok (.aload_n 0, 1) := by decide +kernel
theorem dX12_init_680 : decode cX12_init 680 = .ok (.iconst 0, 1) := by decide +kernel
theorem dX12_init_681 : decode cX12_init 681 = .ok (.putfield 241, 3) := by decide +kernel
theorem dX12_init_684 : decode cX12_init 684 = .ok (.return_, 1) := by decide +kernel
theorem dX12_in_0 : decode cX12_in 0 = .ok (.iload_n 0, 1) := by decide +kernel
theorem dX12_in_1 : decode cX12_in 1 = .ok (.iload_n 1, 1) := by decide +kernel
theorem dX12_in_2 : decode cX12_in 2 = .ok (.if_icmp .lt 12, 3) := by decide +kernel
theorem dX12_in_5 : decode cX12_in 5 = .ok (.iload_n 0, 1) := by decide +kernel
theorem dX12_in_6 : decode cX12_in 6 = .ok (.iload_n 2, 1) := by decide +kernel
theorem dX12_in_7 : decode cX12_in 7 = .ok (.if_icmp .gt 7, 3) := by decide +kernel
theorem dX12_in_10 : decode cX12_in 10 = .ok (.iconst 1, 1) := by decide +kernel
theorem dX12_in_11 : decode cX12_in 11 = .ok (.goto 4, 3) := by decide +kernel
theorem dX12_in_14 : decode cX12_in 14 = .ok (.iconst 0, 1) := by decide +kernel
theorem dX12_in_15 : decode cX12_in 15 = .ok (.ireturn, 1) := by decide +kernel
theorem dX12_feed_0 : decode cX12_feed 0 = .ok (.aload_n 0, 1) := by decide +kernel
theorem dX12_feed_1 : decode cX12_feed 1 = .ok (.iconst 0, 1) := by decide +kernel
theorem dX12_feed_2 : decode cX12_feed 2 = .ok (.putfield 241, 3) := by decide +kernel
theorem dX12_feed_5 : decode cX12_feed 5 = .ok (.iload_n 3, 1) := by decide +kernel
theorem dX12_feed_6 : decode cX12_feed 6 = .ok (.iconst 0, 1) := by decide +kernel
theorem dX12_feed_7 : decode cX12_feed 7 = .ok (.bipush 8, 2) := by decide +kernel
theorem dX12_feed_9 : decode cX12_feed 9 = .ok (.invokestatic 245, 3) := by decide +kernel
theorem dX12_feed_12 : decode cX12_feed 12 = .ok (.ifCond .ne 6, 3) := by decide +kernel
theorem dX12_feed_15 : decode cX12_feed 15 = .ok (.bipush (-2), 2) := by decide +kernel
theorem dX12_feed_17 : decode cX12_feed 17 = .ok (.ireturn, 1) := by decide +kernel
theorem dX12_feed_18 : decode cX12_feed 18 = .ok (.iload_n 3, 1) := by decide +kernel
theorem dX12_feed_19 : decode cX12_feed 19 = .ok (.ifCond .ne 10, 3) := by decide +kernel
theorem dX12_feed_22 : decode cX12_feed 22 = .ok (.aload_n 0, 1) := by decide +kernel
theorem dX12_feed_23 : decode cX12_feed 23 = .ok (.iconst 0, 1) := by decide +kernel
theorem dX12_feed_24 : decode cX12_feed 24 = .ok (.putfield 249, 3) := by decide +kernel
theorem dX12_feed_27 : decode cX12_feed 27 = .ok (.iconst 0, 1) := by decide +kernel
theorem dX12_feed_28 : decode cX12_feed 28 = .ok (.ireturn, 1) := by decide +kernel
theorem dX12_feed_29 : decode cX12_feed 29 = .ok (.aload_n 0, 1) := by decide +kernel
theorem dX12_feed_30 : decode cX12_feed 30 = .ok (.getfield 249, 3) := by decide +kernel
theorem dX12_feed_33 : decode cX12_feed 33 = .ok (.iload_n 3, 1) := by decide +kernel
theorem dX12_feed_34 : decode cX12_feed 34 = .ok (.iadd, 1) := by decide +kernel
theorem dX12_feed_35 : decode cX12_feed 35 = .ok (.sipush 1500, 3) := by decide +kernel
theorem dX12_feed_38 : decode cX12_feed 38 = .ok (.if_icmp .le 6, 3) := by decide +kernel
theorem dX12_feed_41 : decode cX12_feed 41 = .ok (.bipush (-4), 2) := by decide +kernel
theorem dX12_feed_43 : decode cX12_feed 43 = .ok (.ireturn, 1) := by decide +kernel
theorem dX12_feed_44 : decode cX12_feed 44 = .ok (.iload_n 3, 1) := by decide +kernel
theorem dX12_feed_45 : decode cX12_feed 45 = .ok (.iconst 1, 1) := by decide +kernel
theorem dX12_feed_46 : decode cX12_feed 46 = .ok (.isub, 1) := by decide +kernel
theorem dX12_feed_47 : decode cX12_feed 47 = .ok (.istore 4, 2) := by decide +kernel
theorem dX12_feed_49 : decode cX12_feed 49 = .ok (.iload 4, 2) := by decide +kernel
theorem dX12_feed_51 : decode cX12_feed 51 = .ok (.ifCond .lt 37, 3) := by decide +kernel
theorem dX12_feed_54 : decode cX12_feed 54 = .ok (.aload_n 0, 1) := by decide +kernel
theorem dX12_feed_55 : decode cX12_feed 55 = .ok (.getfield 7, 3) := by decide +kernel
theorem dX12_feed_58 : decode cX12_feed 58 = .ok (.aload_n 0, 1) := by decide +kernel
theorem dX12_feed_59 : decode cX12_feed 59 = .ok (.getfield 249, 3) := by decide +kernel
theorem dX12_feed_62 : decode cX12_feed 62 = .ok (.lload_n 1, 1) := by decide +kernel
theorem dX12_feed_63 : decode cX12_feed 63 = .ok (.bipush 8, 2) := by decide +kernel
theorem dX12_feed_65 : decode cX12_feed 65 = .ok (.iload 4, 2) := by decide +kernel
theorem dX12_feed_67 : decode cX12_feed 67 = .ok (.imul, 1) := by decide +kernel
theorem dX12_feed_68 : decode cX12_feed 68 = .ok (.lshr, 1) := by decide +kernel
theorem dX12_feed_69 : decode cX12_feed 69 = .ok (.l2i, 1) := by decide +kernel
theorem dX12_feed_70 : decode cX12_feed 70 = .ok (.i2b, 1) := by decide +kernel
theorem dX12_feed_71 : decode cX12_feed 71 = .ok (.bastore, 1) := by decide +kernel
theorem dX12_feed_72 : decode cX12_feed 72 = .ok (.aload_n 0, 1) := by decide +kernel
theorem dX12_feed_73 : decode cX12_feed 73 = .ok (.dup, 1) := by decide +kernel
theorem dX12_feed_74 : decode cX12_feed 74 = .ok (.getfield 249, 3) := by decide +kernel
theorem dX12_feed_77 : decode cX12_feed 77 = .ok (.iconst 1, 1) := by decide +kernel
theorem dX12_feed_78 : decode cX12_feed 78 = .ok (.iadd, 1) := by decide +kernel
theorem dX12_feed_79 : decode cX12_feed 79 = .ok (.putfield 249, 3) := by decide +kernel
theorem dX12_feed_82 : decode cX12_feed 82 = .ok (.iinc 4 (-1), 3) := by decide +kernel
theorem dX12_feed_85 : decode cX12_feed 85 = .ok (.goto (-36), 3) := by decide +kernel
theorem dX12_feed_88 : decode cX12_feed 88 = .ok (.aload_n 0, 1) := by decide +kernel
theorem dX12_feed_89 : decode cX12_feed 89 = .ok (.getfield 249, 3) := by decide +kernel
theorem dX12_feed_92 : decode cX12_feed 92 = .ok (.ireturn, 1) := by decide +kernel
theorem dX12_fail_0 : decode cX12_fail 0 = .ok (.aload_n 0, 1) := by decide +kernel
theorem dX12_fail_1 : decode cX12_fail 1 = .ok (.getfield 252, 3) := by decide +kernel
theorem dX12_fail_4 : decode cX12_fail 4 = .ok (.ifCond .ne 13, 3) := by decide +kernel
theorem dX12_fail_7 : decode cX12_fail 7 = .ok (.aload_n 0, 1) := by decide +kernel
theorem dX12_fail_8 : decode cX12_fail 8 = .ok (.iload_n 1, 1) := by decide +kernel
theorem dX12_fail_9 : decode cX12_fail 9 = .ok (.putfield 252, 3) := by decide +kernel
theorem dX12_fail_12 : decode cX12_fail 12 = .ok (.aload_n 0, 1) := by decide +kernel
theorem dX12_fail_13 : decode cX12_fail 13 = .ok (.iload_n 2, 1) := by decide +kernel
theorem dX12_fail_14 : decode cX12_fail 14 = .ok (.putfield 255, 3) := by decide +kernel
theorem dX12_fail_17 : decode cX12_fail 17 = .ok (.return_, 1) := by decide +kernel
theorem dX12_sign_0 : decode cX12_sign 0 = .ok (.iload_n 1, 1) := by decide +kernel
theorem dX12_sign_1 : decode cX12_sign 1 = .ok (.aload_n 0, 1) := by decide +kernel
theorem dX12_sign_2 : decode cX12_sign 2 = .ok (.getfield 249, 3) := by decide +kernel
theorem dX12_sign_5 : decode cX12_sign 5 = .ok (.if_icmp .ge 16, 3) := by decide +kernel
theorem dX12_sign_8 : decode cX12_sign 8 = .ok (.aload_n 0, 1) := by decide +kernel
theorem dX12_sign_9 : decode cX12_sign 9 = .ok (.getfield 7, 3) := by decide +kernel
theorem dX12_sign_12 : decode cX12_sign 12 = .ok (.iload_n 1, 1) := by decide +kernel
theorem dX12_sign_13 : decode cX12_sign 13 = .ok (.baload, 1) := by decide +kernel
theorem dX12_sign_14 : decode cX12_sign 14 = .ok (.sipush 255, 3) := by decide +kernel
theorem dX12_sign_17 : decode cX12_sign 17 = .ok (.iand, 1) := by decide +kernel
theorem dX12_sign_18 : decode cX12_sign 18 = .ok (.goto 4, 3) := by decide +kernel
theorem dX12_sign_21 : decode cX12_sign 21 = .ok (.iconst (-1), 1) := by decide +kernel
theorem dX12_sign_22 : decode cX12_sign 22 = .ok (.ireturn, 1) := by decide +kernel
theorem dX12_letter_0 : decode cX12_letter 0 = .ok (.iload_n 0, 1) := by decide +kernel
theorem dX12_letter_1 : decode cX12_letter 1 = .ok (.bipush 97, 2) := by decide +kernel
theorem dX12_letter_3 : decode cX12_letter 3 = .ok (.bipush 122, 2) := by decide +kernel
theorem dX12_letter_5 : decode cX12_letter 5 = .ok (.invokestatic 245, 3) := by decide +kernel
theorem dX12_letter_8 : decode cX12_letter 8 = .ok (.ifCond .eq 12, 3) := by decide +kernel
theorem dX12_letter_11 : decode cX12_letter 11 = .ok (.iload_n 0, 1) := by decide +kernel
theorem dX12_letter_12 : decode cX12_letter 12 = .ok (.bipush 97, 2) := by decide +kernel
theorem dX12_letter_14 : decode cX12_letter 14 = .ok (.isub, 1) := by decide +kernel
theorem dX12_letter_15 : decode cX12_letter 15 = .ok (.iconst 1, 1) := by decide +kernel
theorem dX12_letter_16 : decode cX12_letter 16 = .ok (.iadd, 1) := by decide +kernel
theorem dX12_letter_17 : decode cX12_letter 17 = .ok (.goto 57, 3) := by decide +kernel
theorem dX12_letter_20 : decode cX12_letter 20 = .ok (.iload_n 0, 1) := by decide +kernel
theorem dX12_letter_21 : decode cX12_letter 21 = .ok (.bipush 65, 2) := by decide +kernel
theorem dX12_letter_23 : decode cX12_letter 23 = .ok (.bipush 90, 2) := by decide +kernel
theorem dX12_letter_25 : decode cX12_letter 25 = .ok (.invokestatic 245, 3) := by decide +kernel
theorem dX12_letter_28 : decode cX12_letter 28 = .ok (.ifCond .eq 13, 3) := by decide +kernel
theorem dX12_letter_31 : decode cX12_letter 31 = .ok (.iload_n 0, 1) := by decide +kernel
theorem dX12_letter_32 : decode cX12_letter 32 = .ok (.bipush 65, 2) := by decide +kernel
theorem dX12_letter_34 : decode cX12_letter 34 = .ok (.isub, 1) := by decide +kernel
theorem dX12_letter_35 : decode cX12_letter 35 = .ok (.bipush 27, 2) := by decide +kernel
theorem dX12_letter_37 : decode cX12_letter 37 = .ok (.iadd, 1) := by decide +kernel
theorem dX12_letter_38 : decode cX12_letter 38 = .ok (.goto 36, 3) := by decide +kernel
theorem dX12_letter_41 : decode cX12_letter 41 = .ok (.iload_n 0, 1) := by decide +kernel
theorem dX12_letter_42 : decode cX12_letter 42 = .ok (.bipush 48, 2) := by decide +kernel
theorem dX12_letter_44 : decode cX12_letter 44 = .ok (.bipush 57, 2) := by decide +kernel
theorem dX12_letter_46 : decode cX12_letter 46 = .ok (.invokestatic 245, 3) := by decide +kernel
theorem dX12_letter_49 : decode cX12_letter 49 = .ok (.ifCond .eq 13, 3) := by decide +kernel
theorem dX12_letter_52 : decode cX12_letter 52 = .ok (.iload_n 0, 1) := by decide +kernel
theorem dX12_letter_53 : decode cX12_letter 53 = .ok (.bipush 48, 2) := by decide +kernel
theorem dX12_letter_55 : decode cX12_letter 55 = .ok (.isub, 1) := by decide +kernel
theorem dX12_letter_56 : decode cX12_letter 56 = .ok (.bipush 53, 2) := by decide +kernel
theorem dX12_letter_58 : decode cX12_letter 58 = .ok (.iadd, 1) := by decide +kernel
theorem dX12_letter_59 : decode cX12_letter 59 = .ok (.goto 15, 3) := by decide +kernel
theorem dX12_letter_62 : decode cX12_letter 62 = .ok (.iload_n 0, 1) := by decide +kernel
theorem dX12_letter_63 : decode cX12_letter 63 = .ok (.bipush 95, 2) := by decide +kernel
theorem dX12_letter_65 : decode cX12_letter 65 = .ok (.if_icmp .ne 8, 3) := by decide +kernel
theorem dX12_letter_68 : decode cX12_letter 68 = .ok (.bipush 63, 2) := by decide +kernel
theorem dX12_letter_70 : decode cX12_letter 70 = .ok (.goto 4, 3) := by decide +kernel
theorem dX12_letter_73 : decode cX12_letter 73 = .ok (.iconst 0, 1) := by decide +kernel
theorem dX12_letter_74 : decode cX12_letter 74 = .ok (.ireturn, 1) := by decide +kernel
theorem dX12_look_0 : decode cX12_look 0 = .ok (.aload_n 0, 1) := by decide +kernel
theorem dX12_look_1 : decode cX12_look 1 = .ok (.getfield 252, 3) := by decide +kernel
theorem dX12_look_4 : decode cX12_look 4 = .ok (.ifCond .le 5, 3) := by decide +kernel
theorem dX12_look_7 : decode cX12_look 7 = .ok (.iconst (-1), 1) := by decide +kernel
theorem dX12_look_8 : decode cX12_look 8 = .ok (.ireturn, 1) := by decide +kernel
theorem dX12_look_9 : decode cX12_look 9 = .ok (.aload_n 0, 1) := by decide +kernel
theorem dX12_look_10 : decode cX12_look 10 = .ok (.getfield 258, 3) := by decide +kernel
theorem dX12_look_13 : decode cX12_look 13 = .ok (.ifCond .eq 8, 3) := by decide +kernel
theorem dX12_look_16 : decode cX12_look 16 = .ok (.aload_n 0, 1) := by decide +kernel
theorem dX12_look_17 : decode cX12_look 17 = .ok (.getfield 262, 3) := by decide +kernel
theorem dX12_look_20 : decode cX12_look 20 = .ok (.ireturn, 1) := by decide +kernel
theorem dX12_look_21 : decode cX12_look 21 = .ok (.aload_n 0, 1) := by decide +kernel
theorem dX12_look_22 : decode cX12_look 22 = .ok (.aload_n 0, 1) := by decide +kernel
theorem dX12_look_23 : decode cX12_look 23 = .ok (.getfield 265, 3) := by decide +kernel
theorem dX12_look_26 : decode cX12_look 26 = .ok (.invokevirtual 268, 3) := by decide +kernel
theorem dX12_look_29 : decode cX12_look 29 = .ok (.bipush 9, 2) := by decide +kernel
theorem dX12_look_31 : decode cX12_look 31 = .ok (.if_icmp .eq 42, 3) := by decide +kernel
theorem dX12_look_34 : decode cX12_look 34 = .ok (.aload_n 0, 1) := by decide +kernel
theorem dX12_look_35 : decode cX12_look 35 = .ok (.aload_n 0, 1) := by decide +kernel
theorem dX12_look_36 : decode cX12_look 36 = .ok (.getfield 265, 3) := by decide +kernel
theorem dX12_look_39 : decode cX12_look 39 = .ok (.invokevirtual 268, 3) := by decide +kernel
theorem dX12_look_42 : decode cX12_look 42 = .ok (.bipush 10, 2) := by decide +kernel
theorem dX12_look_44 : decode cX12_look 44 = .ok (.if_icmp .eq 29, 3) := by decide +kernel
theorem dX12_look_47 : decode cX12_look 47 = .ok (.aload_n 0, 1) := by decide +kernel
theorem dX12_look_48 : decode cX12_look 48 = .ok (.aload_n 0, 1) := by decide +kernel
theorem dX12_look_49 : decode cX12_look 49 = .ok (.getfield 265, 3) := by decide +kernel
theorem dX12_look_52 : decode cX12_look 52 = .ok (.invokevirtual 268, 3) := by decide +kernel
theorem dX12_look_55 : decode cX12_look 55 = .ok (.bipush 13, 2) := by decide +kernel
theorem dX12_look_57 : decode cX12_look 57 = .ok (.if_icmp .eq 16, 3) := by decide +kernel
theorem dX12_look_60 : decode cX12_look 60 = .ok (.aload_n 0, 1) := by decide +kernel
theorem dX12_look_61 : decode cX12_look 61 = .ok (.aload_n 0, 1) := by decide +kernel
theorem dX12_look_62 : decode cX12_look 62 = .ok (.getfield 265, 3) := by decide +kernel
theorem dX12_look_65 : decode cX12_look 65 = .ok (.invokevirtual 268, 3) := by decide +kernel
theorem dX12_look_68 : decode cX12_look 68 = .ok (.bipush 32, 2) := by decide +kernel
theorem dX12_look_70 : decode cX12_look 70 = .ok (.if_icmp .ne 16, 3) := by decide +kernel
theorem dX12_look_73 : decode cX12_look 73 = .ok (.aload_n 0, 1) := by decide +kernel
theorem dX12_look_74 : decode cX12_look 74 = .ok (.dup, 1) := by decide +kernel
theorem dX12_look_75 : decode cX12_look 75 = .ok (.getfield 265, 3) := by decide +kernel
theorem dX12_look_78 : decode cX12_look 78 = .ok (.iconst 1, 1) := by decide +kernel
theorem dX12_look_79 : decode cX12_look 79 = .ok (.iadd, 1) := by decide +kernel
theorem dX12_look_80 : decode cX12_look 80 = .ok (.putfield 265, 3) := by decide +kernel
theorem dX12_look_83 : decode cX12_look 83 = .ok (.goto (-62), 3) := by decide +kernel
theorem dX12_look_86 : decode cX12_look 86 = .ok (.aload_n 0, 1) := by decide +kernel
theorem dX12_look_87 : decode cX12_look 87 = .ok (.aload_n 0, 1) := by decide +kernel
theorem dX12_look_88 : decode cX12_look 88 = .ok (.getfield 265, 3) := by decide +kernel
theorem dX12_look_91 : decode cX12_look 91 = .ok (.invokevirtual 268, 3) := by decide +kernel
theorem dX12_look_94 : decode cX12_look 94 = .ok (.istore_n 1, 1) := by decide +kernel
theorem dX12_look_95 : decode cX12_look 95 = .ok (.aload_n 0, 1) := by decide +kernel
theorem dX12_look_96 : decode cX12_look 96 = .ok (.aload_n 0, 1) := by decide +kernel
theorem dX12_look_97 : decode cX12_look 97 = .ok (.getfield 265, 3) := by decide +kernel
theorem dX12_look_100 : decode cX12_look 100 = .ok (.putfield 272, 3) := by decide +kernel
theorem dX12_look_103 : decode cX12_look 103 = .ok (.aload_n 0, 1) := by decide +kernel
theorem dX12_look_104 : decode cX12_look 104 = .ok (.iconst 1, 1) := by decide +kernel
theorem dX12_look_105 : decode cX12_look 105 = .ok (.putfield 258, 3) := by decide +kernel
theorem dX12_look_108 : decode cX12_look 108 = .ok (.iload_n 1, 1) := by decide +kernel
theorem dX12_look_109 : decode cX12_look 109 = .ok (.ifCond .ge 10, 3) := by decide +kernel
theorem dX12_look_112 : decode cX12_look 112 = .ok (.aload_n 0, 1) := by decide +kernel
theorem dX12_look_113 : decode cX12_look 113 = .ok (.iconst 0, 1) := by decide +kernel
theorem dX12_look_114 : decode cX12_look 114 = .ok (.putfield 262, 3) := by decide +kernel
theorem dX12_look_117 : decode cX12_look 117 = .ok (.iconst 0, 1) := by decide +kernel
theorem dX12_look_118 : decode cX12_look 118 = .ok (.ireturn, 1) := by decide +kernel
theorem dX12_look_119 : decode cX12_look 119 = .ok (.iload_n 1, 1) := by decide +kernel
theorem dX12_look_120 : decode cX12_look 120 = .ok (.bipush 97, 2) := by decide +kernel
theorem dX12_look_122 : decode cX12_look 122 = .ok (.bipush 122, 2) := by decide +kernel
theorem dX12_look_124 : decode cX12_look 124 = .ok (.invokestatic 245, 3) := by decide +kernel
theorem dX12_look_127 : decode cX12_look 127 = .ok (.ifCond .ne 14, 3) := by decide +kernel
theorem dX12_look_130 : decode cX12_look 130 = .ok (.iload_n 1, 1) := by decide +kernel
theorem dX12_look_131 : decode cX12_look 131 = .ok (.bipush 65, 2) := by decide +kernel
theorem dX12_look_133 : decode cX12_look 133 = .ok (.bipush 90, 2) := by decide +kernel
theorem dX12_look_135 : decode cX12_look 135 = .ok (.invokestatic 245, 3) := by decide +kernel
theorem dX12_look_138 : decode cX12_look 138 = .ok (.ifCond .eq 120, 3) := by decide +kernel
theorem dX12_look_141 : decode cX12_look 141 = .ok (.iconst 0, 1) := by decide +kernel
theorem dX12_look_142 : decode cX12_look 142 = .ok (.istore_n 2, 1) := by decide +kernel
theorem dX12_look_143 : decode cX12_look 143 = .ok (.aload_n 0, 1) := by decide +kernel
theorem dX12_look_144 : decode cX12_look 144 = .ok (.lconst 0, 1) := by decide +kernel
theorem dX12_look_145 : decode cX12_look 145 = .ok (.putfield 275, 3) := by decide +kernel
theorem dX12_look_148 : decode cX12_look 148 = .ok (.aload_n 0, 1) := by decide +kernel
theorem dX12_look_149 : decode cX12_look 149 = .ok (.aload_n 0, 1) := by decide +kernel
theorem dX12_look_150 : decode cX12_look 150 = .ok (.getfield 265, 3) := by decide +kernel
theorem dX12_look_153 : decode cX12_look 153 = .ok (.invokevirtual 268, 3) := by decide +kernel
theorem dX12_look_156 : decode cX12_look 156 = .ok (.invokestatic 279, 3) := by decide +kernel
theorem dX12_look_159 : decode cX12_look 159 = .ok (.ifCond .le 57, 3) := by decide +kernel
theorem dX12_look_162 : decode cX12_look 162 = .ok (.aload_n 0, 1) := by decide +kernel
theorem dX12_look_163 : decode cX12_look 163 = .ok (.iload_n 2, 1) := by decide +kernel
theorem dX12_look_164 : decode cX12_look 164 = .ok (.bipush 9, 2) := by decide +kernel
theorem dX12_look_166 : decode cX12_look 166 = .ok (.if_icmp .ge 27, 3) := by decide +kernel
theorem dX12_look_169 : decode cX12_look 169 = .ok (.ldc2_w 282, 3) := by decide +kernel
theorem dX12_look_172 : decode cX12_look 172 = .ok (.aload_n 0, 1) := by decide +kernel
theorem dX12_look_173 : decode cX12_look 173 = .ok (.getfield 275, 3) := by decide +kernel
theorem dX12_look_176 : decode cX12_look 176 = .ok (.lmul, 1) := by decide +kernel
theorem dX12_look_177 : decode cX12_look 177 = .ok (.aload_n 0, 1) := by decide +kernel
theorem dX12_look_178 : decode cX12_look 178 = .ok (.aload_n 0, 1) := by decide +kernel
theorem dX12_look_179 : decode cX12_look 179 = .ok (.getfield 265, 3) := by decide +kernel
theorem dX12_look_182 : decode cX12_look 182 = .ok (.invokevirtual 268, 3) := by decide +kernel
theorem dX12_look_185 : decode cX12_look 185 = .ok (.invokestatic 279, 3) := by decide +kernel
theorem dX12_look_188 : decode cX12_look 188 = .ok (.i2l, 1) := by decide +kernel
theorem dX12_look_189 : decode cX12_look 189 = .ok (.ladd, 1) := by decide +kernel
theorem dX12_look_190 : decode cX12_look 190 = .ok (.goto 7, 3) := by decide +kernel
theorem dX12_look_193 : decode cX12_look 193 = .ok (.aload_n 0, 1) := by decide +kernel
theorem dX12_look_194 : decode cX12_look 194 = .ok (.getfield 275, 3) := by decide +kernel
theorem dX12_look_197 : decode cX12_look 197 = .ok (.putfield 275, 3) := by decide +kernel
theorem dX12_look_200 : decode cX12_look 200 = .ok (.aload_n 0, 1) := by decide +kernel
theorem dX12_look_201 : decode cX12_look 201 = .ok (.dup, 1) := by decide +kernel
theorem dX12_look_202 : decode cX12_look 202 = .ok (.getfield 265, 3) := by decide +kernel
theorem dX12_look_205 : decode cX12_look 205 = .ok (.iconst 1, 1) := by decide +kernel
theorem dX12_look_206 : decode cX12_look 206 = .ok (.iadd, 1) := by decide +kernel
theorem dX12_look_207 : decode cX12_look 207 = .ok (.putfield 265, 3) := by decide +kernel
theorem dX12_look_210 : decode cX12_look 210 = .ok (.iinc 2 1, 3) := by decide +kernel
theorem dX12_look_213 : decode cX12_look 213 = .ok (.goto (-65), 3) := by decide +kernel
theorem dX12_look_216 : decode cX12_look 216 = .ok (.aload_n 0, 1) := by decide +kernel
theorem dX12_look_217 : decode cX12_look 217 = .ok (.iload_n 1, 1) := by decide +kernel
theorem dX12_look_218 : decode cX12_look 218 = .ok (.bipush 97, 2) := by decide +kernel
theorem dX12_look_220 : decode cX12_look 220 = .ok (.bipush 122, 2) := by decide +kernel
theorem dX12_look_222 : decode cX12_look 222 = .ok (.invokestatic 245, 3) := by decide +kernel
theorem dX12_look_225 : decode cX12_look 225 = .ok (.ifCond .eq 7, 3) := by decide +kernel
theorem dX12_look_228 : decode cX12_look 228 = .ok (.iconst 1, 1) := by decide +kernel
theorem dX12_look_229 : decode cX12_look 229 = .ok (.goto 4, 3) := by decide +kernel
theorem dX12_look_232 : decode cX12_look 232 = .ok (.iconst 2, 1) := by decide +kernel
theorem dX12_look_233 : decode cX12_look 233 = .ok (.putfield 262, 3) := by decide +kernel
theorem dX12_look_236 : decode cX12_look 236 = .ok (.iload_n 2, 1) := by decide +kernel
theorem dX12_look_237 : decode cX12_look 237 = .ok (.bipush 8, 2) := by decide +kernel
theorem dX12_look_239 : decode cX12_look 239 = .ok (.if_icmp .le 14, 3) := by decide +kernel
theorem dX12_look_242 : decode cX12_look 242 = .ok (.aload_n 0, 1) := by decide +kernel
theorem dX12_look_243 : decode cX12_look 243 = .ok (.iconst 1, 1) := by decide +kernel
theorem dX12_look_244 : decode cX12_look 244 = .ok (.aload_n 0, 1) := by decide +kernel
theorem dX12_look_245 : decode cX12_look 245 = .ok (.getfield 272, 3) := by decide +kernel
theorem dX12_look_248 : decode cX12_look 248 = .ok (.invokevirtual 284, 3) := by decide +kernel
theorem dX12_look_251 : decode cX12_look 251 = .ok (.iconst (-1), 1) := by decide +kernel
theorem dX12_look_252 : decode cX12_look 252 = .ok (.ireturn, 1) := by decide +kernel
theorem dX12_look_253 : decode cX12_look 253 = .ok (.aload_n 0, 1) := by decide +kernel
theorem dX12_look_254 : decode cX12_look 254 = .ok (.getfield 262, 3) := by decide +kernel
theorem dX12_look_257 : decode cX12_look 257 = .ok (.ireturn, 1) := by decide +kernel
theorem dX12_look_258 : decode cX12_look 258 = .ok (.iconst 1, 1) := by decide +kernel
theorem dX12_look_259 : decode cX12_look 259 = .ok (.istore_n 2, 1) := by decide +kernel
theorem dX12_look_260 : decode cX12_look 260 = .ok (.iload_n 1, 1) := by decide +kernel
theorem dX12_look_261 : decode cX12_look 261 = .ok (.bipush 40, 2) := by decide +kernel
theorem dX12_look_263 : decode cX12_look 263 = .ok (.if_icmp .ne 7, 3) := by decide +kernel
theorem dX12_look_266 : decode cX12_look 266 = .ok (.iconst 3, 1) := by decide +kernel
theorem dX12_look_267 : decode cX12_look 267 = .ok (.goto 101, 3) := by decide +kernel
theorem dX12_look_270 : decode cX12_look 270 = .ok (.iload_n 1, 1) := by decide +kernel
theorem dX12_look_271 : decode cX12_look 271 = .ok (.bipush 41, 2) := by decide +kernel
theorem dX12_look_273 : decode cX12_look 273 = .ok (.if_icmp .ne 7, 3) := by decide +kernel
theorem dX12_look_276 : decode cX12_look 276 = .ok (.iconst 4, 1) := by decide +kernel
theorem dX12_look_277 : decode cX12_look 277 = .ok (.goto 91, 3) := by decide +kernel
theorem dX12_look_280 : decode cX12_look 280 = .ok (.iload_n 1, 1) := by decide +kernel
theorem dX12_look_281 : decode cX12_look 281 = .ok (.bipush 44, 2) := by decide +kernel
theorem dX12_look_283 : decode cX12_look 283 = .ok (.if_icmp .ne 7, 3) := by decide +kernel
theorem dX12_look_286 : decode cX12_look 286 = .ok (.iconst 5, 1) := by decide +kernel
theorem dX12_look_287 : decode cX12_look 287 = .ok (.goto 81, 3) := by decide +kernel
theorem dX12_look_290 : decode cX12_look 290 = .ok (.iload_n 1, 1) := by decide +kernel
theorem dX12_look_291 : decode cX12_look 291 = .ok (.bipush 46, 2) := by decide +kernel
theorem dX12_look_293 : decode cX12_look 293 = .ok (.if_icmp .ne 8, 3) := by decide +kernel
theorem dX12_look_296 : decode cX12_look 296 = .ok (.bipush 6, 2) := by decide +kernel
theorem dX12_look_298 : decode cX12_look 298 = .ok (.goto 70, 3) := by decide +kernel
theorem dX12_look_301 : decode cX12_look 301 = .ok (.iload_n 1, 1) := by decide +kernel
theorem dX12_look_302 : decode cX12_look 302 = .ok (.bipush 58, 2) := by decide +kernel
theorem dX12_look_304 : decode cX12_look 304 = .ok (.if_icmp .ne 8, 3) := by decide +kernel
theorem dX12_look_307 : decode cX12_look 307 = .ok (.bipush 7, 2) := by decide +kernel
theorem dX12_look_309 : decode cX12_look 309 = .ok (.goto 59, 3) := by decide +kernel
theorem dX12_look_312 : decode cX12_look 312 = .ok (.iload_n 1, 1) := by decide +kernel
theorem dX12_look_313 : decode cX12_look 313 = .ok (.bipush 126, 2) := by decide +kernel
theorem dX12_look_315 : decode cX12_look 315 = .ok (.if_icmp .ne 8, 3) := by decide +kernel
theorem dX12_look_318 : decode cX12_look 318 = .ok (.bipush 8, 2) := by decide +kernel
theorem dX12_look_320 : decode cX12_look 320 = .ok (.goto 48, 3) := by decide +kernel
theorem dX12_look_323 : decode cX12_look 323 = .ok (.iload_n 1, 1) := by decide +kernel
theorem dX12_look_324 : decode cX12_look 324 = .ok (.bipush 38, 2) := by decide +kernel
theorem dX12_look_326 : decode cX12_look 326 = .ok (.if_icmp .ne 8, 3) := by decide +kernel
theorem dX12_look_329 : decode cX12_look 329 = .ok (.bipush 9, 2) := by decide +kernel
theorem dX12_look_331 : decode cX12_look 331 = .ok (.goto 37, 3) := by decide +kernel
theorem dX12_look_334 : decode cX12_look 334 = .ok (.iload_n 1, 1) := by decide +kernel
theorem dX12_look_335 : decode cX12_look 335 = .ok (.bipush 124, 2) := by decide +kernel
theorem dX12_look_337 : decode cX12_look 337 = .ok (.if_icmp .ne 8, 3) := by decide +kernel
theorem dX12_look_340 : decode cX12_look 340 = .ok (.bipush 10, 2) := by decide +kernel
theorem dX12_look_342 : decode cX12_look 342 = .ok (.goto 26, 3) := by decide +kernel
theorem dX12_look_345 : decode cX12_look 345 = .ok (.iload_n 1, 1) := by decide +kernel
theorem dX12_look_346 : decode cX12_look 346 = .ok (.bipush 33, 2) := by decide +kernel
theorem dX12_look_348 : decode cX12_look 348 = .ok (.if_icmp .ne 8, 3) := by decide +kernel
theorem dX12_look_351 : decode cX12_look 351 = .ok (.bipush 11, 2) := by decide +kernel
theorem dX12_look_353 : decode cX12_look 353 = .ok (.goto 15, 3) := by decide +kernel
theorem dX12_look_356 : decode cX12_look 356 = .ok (.iload_n 1, 1) := by decide +kernel
theorem dX12_look_357 : decode cX12_look 357 = .ok (.bipush 63, 2) := by decide +kernel
theorem dX12_look_359 : decode cX12_look 359 = .ok (.if_icmp .ne 8, 3) := by decide +kernel
theorem dX12_look_362 : decode cX12_look 362 = .ok (.bipush 12, 2) := by decide +kernel
theorem dX12_look_364 : decode cX12_look 364 = .ok (.goto 4, 3) := by decide +kernel
theorem dX12_look_367 : decode cX12_look 367 = .ok (.iconst 0, 1) := by decide +kernel
theorem dX12_look_368 : decode cX12_look 368 = .ok (.istore_n 3, 1) := by decide +kernel
theorem dX12_look_369 : decode cX12_look 369 = .ok (.iload_n 1, 1) := by decide +kernel
theorem dX12_look_370 : decode cX12_look 370 = .ok (.bipush 61, 2) := by decide +kernel
theorem dX12_look_372 : decode cX12_look 372 = .ok (.if_icmp .ne 23, 3) := by decide +kernel
theorem dX12_look_375 : decode cX12_look 375 = .ok (.aload_n 0, 1) := by decide +kernel
theorem dX12_look_376 : decode cX12_look 376 = .ok (.aload_n 0, 1) := by decide +kernel
theorem dX12_look_377 : decode cX12_look 377 = .ok (.getfield 265, 3) := by decide +kernel
theorem dX12_look_380 : decode cX12_look 380 = .ok (.iconst 1, 1) := by decide +kernel
theorem dX12_look_381 : decode cX12_look 381 = .ok (.iadd, 1) := by decide +kernel
theorem dX12_look_382 : decode cX12_look 382 = .ok (.invokevirtual 268, 3) := by decide +kernel
theorem dX12_look_385 : decode cX12_look 385 = .ok (.bipush 62, 2) := by decide +kernel
theorem dX12_look_387 : decode cX12_look 387 = .ok (.if_icmp .ne 8, 3) := by decide +kernel
theorem dX12_look_390 : decode cX12_look 390 = .ok (.bipush 13, 2) := by decide +kernel
theorem dX12_look_392 : decode cX12_look 392 = .ok (.istore_n 3, 1) := by decide +kernel
theorem dX12_look_393 : decode cX12_look 393 = .ok (.iconst 2, 1) := by decide +kernel
theorem dX12_look_394 : decode cX12_look 394 = .ok (.istore_n 2, 1) := by decide +kernel
theorem dX12_look_395 : decode cX12_look 395 = .ok (.iload_n 1, 1) := by decide +kernel
theorem dX12_look_396 : decode cX12_look 396 = .ok (.bipush 60, 2) := by decide +kernel
theorem dX12_look_398 : decode cX12_look 398 = .ok (.if_icmp .ne 38, 3) := by decide +kernel
theorem dX12_look_401 : decode cX12_look 401 = .ok (.aload_n 0, 1) := by decide +kernel
theorem dX12_look_402 : decode cX12_look 402 = .ok (.aload_n 0, 1) := by decide +kernel
theorem dX12_look_403 : decode cX12_look 403 = .ok (.getfield 265, 3) := by decide +kernel
theorem dX12_look_406 : decode cX12_look 406 = .ok (.iconst 1, 1) := by decide +kernel
theorem dX12_look_407 : decode cX12_look 407 = .ok (.iadd, 1) := by decide +kernel
theorem dX12_look_408 : decode cX12_look 408 = .ok (.invokevirtual 268, 3) := by decide +kernel
theorem dX12_look_411 : decode cX12_look 411 = .ok (.bipush 61, 2) := by decide +kernel
theorem dX12_look_413 : decode cX12_look 413 = .ok (.if_icmp .ne 23, 3) := by decide +kernel
theorem dX12_look_416 : decode cX12_look 416 = .ok (.aload_n 0, 1) := by decide +kernel
theorem dX12_look_417 : decode cX12_look 417 = .ok (.aload_n 0, 1) := by decide +kernel
theorem dX12_look_418 : decode cX12_look 418 = .ok (.getfield 265, 3) := by decide +kernel
theorem dX12_look_421 : decode cX12_look 421 = .ok (.iconst 2, 1) := by decide +kernel
theorem dX12_look_422 : decode cX12_look 422 = .ok (.iadd, 1) := by decide +kernel
theorem dX12_look_423 : decode cX12_look 423 = .ok (.invokevirtual 268, 3) := by decide +kernel
theorem dX12_look_426 : decode cX12_look 426 = .ok (.bipush 62, 2) := by decide +kernel
theorem dX12_look_428 : decode cX12_look 428 = .ok (.if_icmp .ne 8, 3) := by decide +kernel
theorem dX12_look_431 : decode cX12_look 431 = .ok (.bipush 14, 2) := by decide +kernel
theorem dX12_look_433 : decode cX12_look 433 = .ok (.istore_n 3, 1) := by decide +kernel
theorem dX12_look_434 : decode cX12_look 434 = .ok (.iconst 3, 1) := by decide +kernel
theorem dX12_look_435 : decode cX12_look 435 = .ok (.istore_n 2, 1) := by decide +kernel
theorem dX12_look_436 : decode cX12_look 436 = .ok (.iload_n 3, 1) := by decide +kernel
theorem dX12_look_437 : decode cX12_look 437 = .ok (.ifCond .ne 14, 3) := by decide +kernel
theorem dX12_look_440 : decode cX12_look 440 = .ok (.aload_n 0, 1) := by decide +kernel
theorem dX12_look_441 : decode cX12_look 441 = .ok (.iconst 1, 1) := by decide +kernel
theorem dX12_look_442 : decode cX12_look 442 = .ok (.aload_n 0, 1) := by decide +kernel
theorem dX12_look_443 : decode cX12_look 443 = .ok (.getfield 272, 3) := by decide +kernel
theorem dX12_look_446 : decode cX12_look 446 = .ok (.invokevirtual 284, 3) := by decide +kernel
theorem dX12_look_449 : decode cX12_look 449 = .ok (.iconst (-1), 1) := by decide +kernel
theorem dX12_look_450 : decode cX12_look 450 = .ok (.ireturn, 1) := by decide +kernel
theorem dX12_look_451 : decode cX12_look 451 = .ok (.aload_n 0, 1) := by decide +kernel
theorem dX12_look_452 : decode cX12_look 452 = .ok (.dup, 1) := by decide +kernel
theorem dX12_look_453 : decode cX12_look 453 = .ok (.getfield 265, 3) := by decide +kernel
theorem dX12_look_456 : decode cX12_look 456 = .ok (.iload_n 2, 1) := by decide +kernel
theorem dX12_look_457 : decode cX12_look 457 = .ok (.iadd, 1) := by decide +kernel
theorem dX12_look_458 : decode cX12_look 458 = .ok (.putfield 265, 3) := by decide +kernel
theorem dX12_look_461 : decode cX12_look 461 = .ok (.aload_n 0, 1) := by decide +kernel
theorem dX12_look_462 : decode cX12_look 462 = .ok (.iload_n 3, 1) := by decide +kernel
theorem dX12_look_463 : decode cX12_look 463 = .ok (.putfield 262, 3) := by decide +kernel
theorem dX12_look_466 : decode cX12_look 466 = .ok (.iload_n 3, 1) := by decide +kernel
theorem dX12_look_467 : decode cX12_look 467 = .ok (.ireturn, 1) := by decide +kernel
theorem dX12_take_0 : decode cX12_take 0 = .ok (.aload_n 0, 1) := by decide +kernel
theorem dX12_take_1 : decode cX12_take 1 = .ok (.iconst 0, 1) := by decide +kernel
theorem dX12_take_2 : decode cX12_take 2 = .ok (.putfield 258, 3) := by decide +kernel
theorem dX12_take_5 : decode cX12_take 5 = .ok (.return_, 1) := by decide +kernel
theorem dX12_must_0 : decode cX12_must 0 = .ok (.aload_n 0, 1) := by decide +kernel
theorem dX12_must_1 : decode cX12_must 1 = .ok (.invokevirtual 288, 3) := by decide +kernel
theorem dX12_must_4 : decode cX12_must 4 = .ok (.iload_n 1, 1) := by decide +kernel
theorem dX12_must_5 : decode cX12_must 5 = .ok (.if_icmp .eq 14, 3) := by decide +kernel
theorem dX12_must_8 : decode cX12_must 8 = .ok (.aload_n 0, 1) := by decide +kernel
theorem dX12_must_9 : decode cX12_must 9 = .ok (.iconst 2, 1) := by decide +kernel
theorem dX12_must_10 : decode cX12_must 10 = .ok (.aload_n 0, 1) := by decide +kernel
theorem dX12_must_11 : decode cX12_must 11 = .ok (.getfield 272, 3) := by decide +kernel
theorem dX12_must_14 : decode cX12_must 14 = .ok (.invokevirtual 284, 3) := by decide +kernel
theorem dX12_must_17 : decode cX12_must 17 = .ok (.iconst 0, 1) := by decide +kernel
theorem dX12_must_18 : decode cX12_must 18 = .ok (.ireturn, 1) := by decide +kernel
theorem dX12_must_19 : decode cX12_must 19 = .ok (.aload_n 0, 1) := by decide +kernel
theorem dX12_must_20 : decode cX12_must 20 = .ok (.invokevirtual 292, 3) := by decide +kernel
theorem dX12_must_23 : decode cX12_must 23 = .ok (.iconst 1, 1) := by decide +kernel
theorem dX12_must_24 : decode cX12_must 24 = .ok (.ireturn, 1) := by decide +kernel
theorem dX12_node_0 : decode cX12_node 0 = .ok (.aload_n 0, 1) := by decide +kernel
theorem dX12_node_1 : decode cX12_node 1 = .ok (.getfield 295, 3) := by decide +kernel
theorem dX12_node_4 : decode cX12_node 4 = .ok (.istore 4, 2) := by decide +kernel
theorem dX12_node_6 : decode cX12_node 6 = .ok (.aload_n 0, 1) := by decide +kernel
theorem dX12_node_7 : decode cX12_node 7 = .ok (.dup, 1) := by decide +kernel
theorem dX12_node_8 : decode cX12_node 8 = .ok (.getfield 295, 3) := by decide +kernel
theorem dX12_node_11 : decode cX12_node 11 = .ok (.iconst 1, 1) := by decide +kernel
theorem dX12_node_12 : decode cX12_node 12 = .ok (.iadd, 1) := by decide +kernel
theorem dX12_node_13 : decode cX12_node 13 = .ok (.putfield 295, 3) := by decide +kernel
theorem dX12_node_16 : decode cX12_node 16 = .ok (.aload_n 0, 1) := by decide +kernel
theorem dX12_node_17 : decode cX12_node 17 = .ok (.getfield 52, 3) := by decide +kernel
theorem dX12_node_20 : decode cX12_node 20 = .ok (.iload 4, 2) := by decide +kernel
theorem dX12_node_22 : decode cX12_node 22 = .ok (.iload_n 1, 1) := by decide +kernel
theorem dX12_node_23 : decode cX12_node 23 = .ok (.iastore, 1) := by decide +kernel
theorem dX12_node_24 : decode cX12_node 24 = .ok (.aload_n 0, 1) := by decide +kernel
theorem dX12_node_25 : decode cX12_node 25 = .ok (.getfield 55, 3) := by decide +kernel
theorem dX12_node_28 : decode cX12_node 28 = .ok (.iload 4, 2) := by decide +kernel
theorem dX12_node_30 : decode cX12_node 30 = .ok (.iload_n 2, 1) := by decide +kernel
theorem dX12_node_31 : decode cX12_node 31 = .ok (.iastore, 1) := by decide +kernel
theorem dX12_node_32 : decode cX12_node 32 = .ok (.aload_n 0, 1) := by decide +kernel
theorem dX12_node_33 : decode cX12_node 33 = .ok (.getfield 58, 3) := by decide +kernel
theorem dX12_node_36 : decode cX12_node 36 = .ok (.iload 4, 2) := by decide +kernel
theorem dX12_node_38 : decode cX12_node 38 = .ok (.iload_n 3, 1) := by decide +kernel
theorem dX12_node_39 : decode cX12_node 39 = .ok (.iastore, 1) := by decide +kernel
theorem dX12_node_40 : decode cX12_node 40 = .ok (.iload 4, 2) := by decide +kernel
theorem dX12_node_42 : decode cX12_node 42 = .ok (.ireturn, 1) := by decide +kernel
theorem dX12_opens_0 : decode cX12_opens 0 = .ok (.aload_n 0, 1) := by decide +kernel
theorem dX12_opens_1 : decode cX12_opens 1 = .ok (.getfield 298, 3) := by decide +kernel
theorem dX12_opens_4 : decode cX12_opens 4 = .ok (.bipush 30, 2) := by decide +kernel
theorem dX12_opens_6 : decode cX12_opens 6 = .ok (.if_icmp .ne 15, 3) := by decide +kernel
theorem dX12_opens_9 : decode cX12_opens 9 = .ok (.aload_n 0, 1) := by decide +kernel
theorem dX12_opens_10 : decode cX12_opens 10 = .ok (.bipush 6, 2) := by decide +kernel
theorem dX12_opens_12 : decode cX12_opens 12 = .ok (.aload_n 0, 1) := by decide +kernel
theorem dX12_opens_13 : decode cX12_opens 13 = .ok (.getfield 272, 3) := by decide +kernel
theorem dX12_opens_16 : decode cX12_opens 16 = .ok (.invokevirtual 284, 3) := by decide +kernel
theorem dX12_opens_19 : decode cX12_opens 19 = .ok (.iconst 0, 1) := by decide +kernel
theorem dX12_opens_20 : decode cX12_opens 20 = .ok (.ireturn, 1) := by decide +kernel
theorem dX12_opens_21 : decode cX12_opens 21 = .ok (.aload_n 0, 1) := by decide +kernel
theorem dX12_opens_22 : decode cX12_opens 22 = .ok (.dup, 1) := by decide +kernel
theorem dX12_opens_23 : decode cX12_opens 23 = .ok (.getfield 298, 3) := by decide +kernel
theorem dX12_opens_26 : decode cX12_opens 26 = .ok (.iconst 1, 1) := by decide +kernel
theorem dX12_opens_27 : decode cX12_opens 27 = .ok (.iadd, 1) := by decide +kernel
theorem dX12_opens_28 : decode cX12_opens 28 = .ok (.putfield 298, 3) := by decide +kernel
theorem dX12_opens_31 : decode cX12_opens 31 = .ok (.aload_n 0, 1) := by decide +kernel
theorem dX12_opens_32 : decode cX12_opens 32 = .ok (.invokevirtual 292, 3) := by decide +kernel
theorem dX12_opens_35 : decode cX12_opens 35 = .ok (.iconst 1, 1) := by decide +kernel
theorem dX12_opens_36 : decode cX12_opens 36 = .ok (.ireturn, 1) := by decide +kernel
theorem dX12_push_0 : decode cX12_push 0 = .ok (.aload_n 0, 1) := by decide +kernel
theorem dX12_push_1 : decode cX12_push 1 = .ok (.getfield 70, 3) := by decide +kernel
theorem dX12_push_4 : decode cX12_push 4 = .ok (.aload_n 0, 1) := by decide +kernel
theorem dX12_push_5 : decode cX12_push 5 = .ok (.getfield 301, 3) := by decide +kernel
theorem dX12_push_8 : decode cX12_push 8 = .ok (.iload_n 1, 1) := by decide +kernel
theorem dX12_push_9 : decode cX12_push 9 = .ok (.iastore, 1) := by decide +kernel
theorem dX12_push_10 : decode cX12_push 10 = .ok (.aload_n 0, 1) := by decide +kernel
theorem dX12_push_11 : decode cX12_push 11 = .ok (.getfield 73, 3) := by decide +kernel
theorem dX12_push_14 : decode cX12_push 14 = .ok (.aload_n 0, 1) := by decide +kernel
theorem dX12_push_15 : decode cX12_push 15 = .ok (.getfield 301, 3) := by decide +kernel
theorem dX12_push_18 : decode cX12_push 18 = .ok (.iload_n 2, 1) := by decide +kernel
theorem dX12_push_19 : decode cX12_push 19 = .ok (.iastore, 1) := by decide +kernel
theorem dX12_push_20 : decode cX12_push 20 = .ok (.aload_n 0, 1) := by decide +kernel
theorem dX12_push_21 : decode cX12_push 21 = .ok (.dup, 1) := by decide +kernel
theorem dX12_push_22 : decode cX12_push 22 = .ok (.getfield 301, 3) := by decide +kernel
theorem dX12_push_25 : decode cX12_push 25 = .ok (.iconst 1, 1) := by decide +kernel
theorem dX12_push_26 : decode cX12_push 26 = .ok (.iadd, 1) := by decide +kernel
theorem dX12_push_27 : decode cX12_push 27 = .ok (.putfield 301, 3) := by decide +kernel
theorem dX12_push_30 : decode cX12_push 30 = .ok (.return_, 1) := by decide +kernel
theorem dX12_give_0 : decode cX12_give 0 = .ok (.aload_n 0, 1) := by decide +kernel
theorem dX12_give_1 : decode cX12_give 1 = .ok (.getfield 76, 3) := by decide +kernel
theorem dX12_give_4 : decode cX12_give 4 = .ok (.aload_n 0, 1) := by decide +kernel
theorem dX12_give_5 : decode cX12_give 5 = .ok (.getfield 304, 3) := by decide +kernel
theorem dX12_give_8 : decode cX12_give 8 = .ok (.iload_n 1, 1) := by decide +kernel
theorem dX12_give_9 : decode cX12_give 9 = .ok (.iastore, 1) := by decide +kernel
theorem dX12_give_10 : decode cX12_give 10 = .ok (.aload_n 0, 1) := by decide +kernel
theorem dX12_give_11 : decode cX12_give 11 = .ok (.dup, 1) := by decide +kernel
theorem dX12_give_12 : decode cX12_give 12 = .ok (.getfield 304, 3) := by decide +kernel
theorem dX12_give_15 : decode cX12_give 15 = .ok (.iconst 1, 1) := by decide +kernel
theorem dX12_give_16 : decode cX12_give 16 = .ok (.iadd, 1) := by decide +kernel
theorem dX12_give_17 : decode cX12_give 17 = .ok (.putfield 304, 3) := by decide +kernel
theorem dX12_give_20 : decode cX12_give 20 = .ok (.return_, 1) := by decide +kernel
theorem dX12_got_0 : decode cX12_got 0 = .ok (.aload_n 0, 1) := by decide +kernel
theorem dX12_got_1 : decode cX12_got 1 = .ok (.dup, 1) := by decide +kernel
theorem dX12_got_2 : decode cX12_got 2 = .ok (.getfield 304, 3) := by decide +kernel
theorem dX12_got_5 : decode cX12_got 5 = .ok (.iconst 1, 1) := by decide +kernel
theorem dX12_got_6 : decode cX12_got 6 = .ok (.isub, 1) := by decide +kernel
theorem dX12_got_7 : decode cX12_got 7 = .ok (.putfield 304, 3) := by decide +kernel
theorem dX12_got_10 : decode cX12_got 10 = .ok (.aload_n 0, 1) := by decide +kernel
theorem dX12_got_11 : decode cX12_got 11 = .ok (.getfield 76, 3) := by decide +kernel
theorem dX12_got_14 : decode cX12_got 14 = .ok (.aload_n 0, 1) := by decide +kernel
theorem dX12_got_15 : decode cX12_got 15 = .ok (.getfield 304, 3) := by decide +kernel
theorem dX12_got_18 : decode cX12_got 18 = .ok (.iaload, 1) := by decide +kernel
theorem dX12_got_19 : decode cX12_got 19 = .ok (.ireturn, 1) := by decide +kernel
theorem dX12_joins_0 : decode cX12_joins 0 = .ok (.aload_n 0, 1) := by decide +kernel
theorem dX12_joins_1 : decode cX12_joins 1 = .ok (.invokevirtual 307, 3) := by decide +kernel
theorem dX12_joins_4 : decode cX12_joins 4 = .ok (.istore_n 2, 1) := by decide +kernel
theorem dX12_joins_5 : decode cX12_joins 5 = .ok (.aload_n 0, 1) := by decide +kernel
theorem dX12_joins_6 : decode cX12_joins 6 = .ok (.invokevirtual 307, 3) := by decide +kernel
theorem dX12_joins_9 : decode cX12_joins 9 = .ok (.istore_n 3, 1) := by decide +kernel
theorem dX12_joins_10 : decode cX12_joins 10 = .ok (.aload_n 0, 1) := by decide +kernel
theorem dX12_joins_11 : decode cX12_joins 11 = .ok (.aload_n 0, 1) := by decide +kernel
theorem dX12_joins_12 : decode cX12_joins 12 = .ok (.iload_n 1, 1) := by decide +kernel
theorem dX12_joins_13 : decode cX12_joins 13 = .ok (.iload_n 3, 1) := by decide +kernel
theorem dX12_joins_14 : decode cX12_joins 14 = .ok (.iload_n 2, 1) := by decide +kernel
theorem dX12_joins_15 : decode cX12_joins 15 = .ok (.invokevirtual 310, 3) := by decide +kernel
theorem dX12_joins_18 : decode cX12_joins 18 = .ok (.invokevirtual 314, 3) := by decide +kernel
theorem dX12_joins_21 : decode cX12_joins 21 = .ok (.return_, 1) := by decide +kernel
theorem dX12_formula_0 : decode cX12_formula 0 = .ok (.aload_n 0, 1) := by decide +kernel
theorem dX12_formula_1 : decode cX12_formula 1 = .ok (.iconst 0, 1) := by decide +kernel
theorem dX12_formula_2 : decode cX12_formula 2 = .ok (.putfield 301, 3) := by decide +kernel
theorem dX12_formula_5 : decode cX12_formula 5 = .ok (.aload_n 0, 1) := by decide +kernel
theorem dX12_formula_6 : decode cX12_formula 6 = .ok (.iconst 0, 1) := by decide +kernel
theorem dX12_formula_7 : decode cX12_formula 7 = .ok (.putfield 304, 3) := by decide +kernel
theorem dX12_formula_10 : decode cX12_formula 10 = .ok (.aload_n 0, 1) := by decide +kernel
theorem dX12_formula_11 : decode cX12_formula 11 = .ok (.iconst 1, 1) := by decide +kernel
theorem dX12_formula_12 : decode cX12_formula 12 = .ok (.iconst 0, 1) := by decide +kernel
theorem dX12_formula_13 : decode cX12_formula 13 = .ok (.invokevirtual 318, 3) := by decide +kernel
theorem dX12_formula_16 : decode cX12_formula 16 = .ok (.aload_n 0, 1) := by decide +kernel
theorem dX12_formula_17 : decode cX12_formula 17 = .ok (.getfield 301, 3) := by decide +kernel
theorem dX12_formula_20 : decode cX12_formula 20 = .ok (.ifCond .le 45, 3) := by decide +kernel
theorem dX12_formula_23 : decode cX12_formula 23 = .ok (.aload_n 0, 1) := by decide +kernel
theorem dX12_formula_24 : decode cX12_formula 24 = .ok (.getfield 252, 3) := by decide +kernel
theorem dX12_formula_27 : decode cX12_formula 27 = .ok (.ifCond .ne 38, 3) := by decide +kernel
theorem dX12_formula_30 : decode cX12_formula 30 = .ok (.aload_n 0, 1) := by decide +kernel
theorem dX12_formula_31 : decode cX12_formula 31 = .ok (.dup, 1) := by decide +kernel
theorem dX12_formula_32 : decode cX12_formula 32 = .ok (.getfield 301, 3) := by decide +kernel
theorem dX12_formula_35 : decode cX12_formula 35 = .ok (.iconst 1, 1) := by decide +kernel
theorem dX12_formula_36 : decode cX12_formula 36 = .ok (.isub, 1) := by decide +kernel
theorem dX12_formula_37 : decode cX12_formula 37 = .ok (.putfield 301, 3) := by decide +kernel
theorem dX12_formula_40 : decode cX12_formula 40 = .ok (.aload_n 0, 1) := by decide +kernel
theorem dX12_formula_41 : decode cX12_formula 41 = .ok (.aload_n 0, 1) := by decide +kernel
theorem dX12_formula_42 : decode cX12_formula 42 = .ok (.getfield 70, 3) := by decide +kernel
theorem dX12_formula_45 : decode cX12_formula 45 = .ok (.aload_n 0, 1) := by decide +kernel
theorem dX12_formula_46 : decode cX12_formula 46 = .ok (.getfield 301, 3) := by decide +kernel
theorem dX12_formula_49 : decode cX12_formula 49 = .ok (.iaload, 1) := by decide +kernel
theorem dX12_formula_50 : decode cX12_formula 50 = .ok (.aload_n 0, 1) := by decide +kernel
theorem dX12_formula_51 : decode cX12_formula 51 = .ok (.getfield 73, 3) := by decide +kernel
theorem dX12_formula_54 : decode cX12_formula 54 = .ok (.aload_n 0, 1) := by decide +kernel
theorem dX12_formula_55 : decode cX12_formula 55 = .ok (.getfield 301, 3) := by decide +kernel
theorem dX12_formula_58 : decode cX12_formula 58 = .ok (.iaload, 1) := by decide +kernel
theorem dX12_formula_59 : decode cX12_formula 59 = .ok (.invokevirtual 321, 3) := by decide +kernel
theorem dX12_formula_62 : decode cX12_formula 62 = .ok (.goto (-46), 3) := by decide +kernel
theorem dX12_formula_65 : decode cX12_formula 65 = .ok (.aload_n 0, 1) := by decide +kernel
theorem dX12_formula_66 : decode cX12_formula 66 = .ok (.getfield 252, 3) := by decide +kernel
theorem dX12_formula_69 : decode cX12_formula 69 = .ok (.ifCond .le 7, 3) := by decide +kernel
theorem dX12_formula_72 : decode cX12_formula 72 = .ok (.iconst 0, 1) := by decide +kernel
theorem dX12_formula_73 : decode cX12_formula 73 = .ok (.goto 7, 3) := by decide +kernel
theorem dX12_formula_76 : decode cX12_formula 76 = .ok (.aload_n 0, 1) := by decide +kernel
theorem dX12_formula_77 : decode cX12_formula 77 = .ok (.invokevirtual 307, 3) := by decide +kernel
theorem dX12_formula_80 : decode cX12_formula 80 = .ok (.ireturn, 1) := by decide +kernel
theorem dX12_readTask_0 : decode cX12_readTask 0 = .ok (.iload_n 1, 1) := by decide +kernel
theorem dX12_readTask_1 : decode cX12_readTask 1 = .ok (.tableswitch 402 1 15 #[75, 90, 121, 146, 162, 194, 213, 230, 260, 276, 293, 323, 339, 346, 374], 75) := by decide +kernel
theorem dX12_readTask_76 : decode cX12_readTask 76 = .ok (.aload_n 0, 1) := by decide +kernel
theorem dX12_readTask_77 : decode cX12_readTask 77 = .ok (.iconst 2, 1) := by decide +kernel
theorem dX12_readTask_78 : decode cX12_readTask 78 = .ok (.iconst 0, 1) := by decide +kernel
theorem dX12_readTask_79 : decode cX12_readTask 79 = .ok (.invokevirtual 318, 3) := by decide +kernel
theorem dX12_readTask_82 : decode cX12_readTask 82 = .ok (.aload_n 0, 1) := by decide +kernel
theorem dX12_readTask_83 : decode cX12_readTask 83 = .ok (.iconst 4, 1) := by decide +kernel
theorem dX12_readTask_84 : decode cX12_readTask 84 = .ok (.iconst 0, 1) := by decide +kernel
theorem dX12_readTask_85 : decode cX12_readTask 85 = .ok (.invokevirtual 318, 3) := by decide +kernel
theorem dX12_readTask_88 : decode cX12_readTask 88 = .ok (.goto 334, 3) := by decide +kernel
theorem dX12_readTask_91 : decode cX12_readTask 91 = .ok (.aload_n 0, 1) := by decide +kernel
theorem dX12_readTask_92 : decode cX12_readTask 92 = .ok (.invokevirtual 288, 3) := by decide +kernel
theorem dX12_readTask_95 : decode cX12_readTask 95 = .ok (.bipush 14, 2) := by decide +kernel
theorem dX12_readTask_97 : decode cX12_readTask 97 = .ok (.if_icmp .ne 325, 3) := by decide +kernel
theorem dX12_readTask_100 : decode cX12_readTask 100 = .ok (.aload_n 0, 1) := by decide +kernel
theorem dX12_readTask_101 : decode cX12_readTask 101 = .ok (.invokevirtual 324, 3) := by decide +kernel
theorem dX12_readTask_104 : decode cX12_readTask 104 = .ok (.ifCond .eq 318, 3) := by decide +kernel
theorem dX12_readTask_107 : decode cX12_readTask 107 = .ok (.aload_n 0, 1) := by decide +kernel
theorem dX12_readTask_108 : decode cX12_readTask 108 = .ok (.iconst 3, 1) := by decide +kernel
theorem dX12_readTask_109 : decode cX12_readTask 109 = .ok (.iconst 0, 1) := by decide +kernel
theorem dX12_readTask_110 : decode cX12_readTask 110 = .ok (.invokevirtual 318, 3) := by decide +kernel
theorem dX12_readTask_113 : decode cX12_readTask 113 = .ok (.aload_n 0, 1) := by decide +kernel
theorem dX12_readTask_114 : decode cX12_readTask 114 = .ok (.iconst 4, 1) := by decide +kernel
theorem dX12_readTask_115 : decode cX12_readTask 115 = .ok (.iconst 0, 1) := by decide +kernel
theorem dX12_readTask_116 : decode cX12_readTask 116 = .ok (.invokevirtual 318, 3) := by decide +kernel
theorem dX12_readTask_119 : decode cX12_readTask 119 = .ok (.goto 303, 3) := by decide +kernel
theorem dX12_readTask_122 : decode cX12_readTask 122 = .ok (.aload_n 0, 1) := by decide +kernel
theorem dX12_readTask_123 : decode cX12_readTask 123 = .ok (.dup, 1) := by decide +kernel
theorem dX12_readTask_124 : decode cX12_readTask 124 = .ok (.getfield 298, 3) := by decide +kernel
theorem dX12_readTask_127 : decode cX12_readTask 127 = .ok (.iconst 1, 1) := by decide +kernel
theorem dX12_readTask_128 : decode cX12_readTask 128 = .ok (.isub, 1) := by decide +kernel
theorem dX12_readTask_129 : decode cX12_readTask 129 = .ok (.putfield 298, 3) := by decide +kernel
theorem dX12_readTask_132 : decode cX12_readTask 132 = .ok (.aload_n 0, 1) := by decide +kernel
theorem dX12_readTask_133 : decode cX12_readTask 133 = .ok (.bipush 14, 2) := by decide +kernel
theorem dX12_readTask_135 : decode cX12_readTask 135 = .ok (.invokevirtual 328, 3) := by decide +kernel
theorem dX12_readTask_138 : decode cX12_readTask 138 = .ok (.aload_n 0, 1) := by decide +kernel
theorem dX12_readTask_139 : decode cX12_readTask 139 = .ok (.iconst 2, 1) := by decide +kernel
theorem dX12_readTask_140 : decode cX12_readTask 140 = .ok (.iconst 0, 1) := by decide +kernel
theorem dX12_readTask_141 : decode cX12_readTask 141 = .ok (.invokevirtual 318, 3) := by decide +kernel
theorem dX12_readTask_144 : decode cX12_readTask 144 = .ok (.goto 278, 3) := by decide +kernel
theorem dX12_readTask_147 : decode cX12_readTask 147 = .ok (.aload_n 0, 1) := by decide +kernel
theorem dX12_readTask_148 : decode cX12_readTask 148 = .ok (.iconst 5, 1) := by decide +kernel
theorem dX12_readTask_149 : decode cX12_readTask 149 = .ok (.iconst 0, 1) := by decide +kernel
theorem dX12_readTask_150 : decode cX12_readTask 150 = .ok (.invokevirtual 318, 3) := by decide +kernel
theorem dX12_readTask_153 : decode cX12_readTask 153 = .ok (.aload_n 0, 1) := by decide +kernel
theorem dX12_readTask_154 : decode cX12_readTask 154 = .ok (.bipush 7, 2) := by decide +kernel
theorem dX12_readTask_156 : decode cX12_readTask 156 = .ok (.iconst 0, 1) := by decide +kernel
theorem dX12_readTask_157 : decode cX12_readTask 157 = .ok (.invokevirtual 318, 3) := by decide +kernel
theorem dX12_readTask_160 : decode cX12_readTask 160 = .ok (.goto 262, 3) := by decide +kernel
theorem dX12_readTask_163 : decode cX12_readTask 163 = .ok (.aload_n 0, 1) := by decide +kernel
theorem dX12_readTask_164 : decode cX12_readTask 164 = .ok (.invokevirtual 288, 3) := by decide +kernel
theorem dX12_readTask_167 : decode cX12_readTask 167 = .ok (.bipush 13, 2) := by decide +kernel
theorem dX12_readTask_169 : decode cX12_readTask 169 = .ok (.if_icmp .ne 253, 3) := by decide +kernel
theorem dX12_readTask_172 : decode cX12_readTask 172 = .ok (.aload_n 0, 1) := by decide +kernel
theorem dX12_readTask_173 : decode cX12_readTask 173 = .ok (.invokevirtual 324, 3) := by decide +kernel
theorem dX12_readTask_176 : decode cX12_readTask 176 = .ok (.ifCond .eq 246, 3) := by decide +kernel
theorem dX12_readTask_179 : decode cX12_readTask 179 = .ok (.aload_n 0, 1) := by decide +kernel
theorem dX12_readTask_180 : decode cX12_readTask 180 = .ok (.bipush 6, 2) := by decide +kernel
theorem dX12_readTask_182 : decode cX12_readTask 182 = .ok (.iconst 0, 1) := by decide +kernel
theorem dX12_readTask_183 : decode cX12_readTask 183 = .ok (.invokevirtual 318, 3) := by decide +kernel
theorem dX12_readTask_186 : decode cX12_readTask 186 = .ok (.aload_n 0, 1) := by decide +kernel
theorem dX12_readTask_187 : decode cX12_readTask 187 = .ok (.iconst 4, 1) := by decide +kernel
theorem dX12_readTask_188 : decode cX12_readTask 188 = .ok (.iconst 0, 1) := by decide +kernel
theorem dX12_readTask_189 : decode cX12_readTask 189 = .ok (.invokevirtual 318, 3) := by decide +kernel
theorem dX12_readTask_192 : decode cX12_readTask 192 = .ok (.goto 230, 3) := by decide +kernel
theorem dX12_readTask_195 : decode cX12_readTask 195 = .ok (.aload_n 0, 1) := by decide +kernel
theorem dX12_readTask_196 : decode cX12_readTask 196 = .ok (.dup, 1) := by decide +kernel
theorem dX12_readTask_197 : decode cX12_readTask 197 = .ok (.getfield 298, 3) := by decide +kernel
theorem dX12_readTask_200 : decode cX12_readTask 200 = .ok (.iconst 1, 1) := by decide +kernel
theorem dX12_readTask_201 : decode cX12_readTask 201 = .ok (.isub, 1) := by decide +kernel
theorem dX12_readTask_202 : decode cX12_readTask 202 = .ok (.putfield 298, 3) := by decide +kernel
theorem dX12_readTask_205 : decode cX12_readTask 205 = .ok (.aload_n 0, 1) := by decide +kernel
theorem dX12_readTask_206 : decode cX12_readTask 206 = .ok (.bipush 13, 2) := by decide +kernel
theorem dX12_readTask_208 : decode cX12_readTask 208 = .ok (.invokevirtual 328, 3) := by decide +kernel
theorem dX12_readTask_211 : decode cX12_readTask 211 = .ok (.goto 211, 3) := by decide +kernel
theorem dX12_readTask_214 : decode cX12_readTask 214 = .ok (.aload_n 0, 1) := by decide +kernel
theorem dX12_readTask_215 : decode cX12_readTask 215 = .ok (.bipush 8, 2) := by decide +kernel
theorem dX12_readTask_217 : decode cX12_readTask 217 = .ok (.iconst 0, 1) := by decide +kernel
theorem dX12_readTask_218 : decode cX12_readTask 218 = .ok (.invokevirtual 318, 3) := by decide +kernel
theorem dX12_readTask_221 : decode cX12_readTask 221 = .ok (.aload_n 0, 1) := by decide +kernel
theorem dX12_readTask_222 : decode cX12_readTask 222 = .ok (.bipush 10, 2) := by decide +kernel
theorem dX12_readTask_224 : decode cX12_readTask 224 = .ok (.iconst 0, 1) := by decide +kernel
theorem dX12_readTask_225 : decode cX12_readTask 225 = .ok (.invokevirtual 318, 3) := by decide +kernel
theorem dX12_readTask_228 : decode cX12_readTask 228 = .ok (.goto 194, 3) := by decide +kernel
theorem dX12_readTask_231 : decode cX12_readTask 231 = .ok (.aload_n 0, 1) := by decide +kernel
theorem dX12_readTask_232 : decode cX12_readTask 232 = .ok (.invokevirtual 288, 3) := by decide +kernel
theorem dX12_readTask_235 : decode cX12_readTask 235 = .ok (.bipush 10, 2) := by decide +kernel
theorem dX12_readTask_237 : decode cX12_readTask 237 = .ok (.if_icmp .ne 185, 3) := by decide +kernel
theorem dX12_readTask_240 : decode cX12_readTask 240 = .ok (.aload_n 0, 1) := by decide +kernel
theorem dX12_readTask_241 : decode cX12_readTask 241 = .ok (.invokevirtual 292, 3) := by decide +kernel
theorem dX12_readTask_244 : decode cX12_readTask 244 = .ok (.aload_n 0, 1) := by decide +kernel
theorem dX12_readTask_245 : decode cX12_readTask 245 = .ok (.bipush 9, 2) := by decide +kernel
theorem dX12_readTask_247 : decode cX12_readTask 247 = .ok (.iconst 0, 1) := by decide +kernel
theorem dX12_readTask_248 : decode cX12_readTask 248 = .ok (.invokevirtual 318, 3) := by decide +kernel
theorem dX12_readTask_251 : decode cX12_readTask 251 = .ok (.aload_n 0, 1) := by decide +kernel
theorem dX12_readTask_252 : decode cX12_readTask 252 = .ok (.bipush 10, 2) := by decide +kernel
theorem dX12_readTask_254 : decode cX12_readTask 254 = .ok (.iconst 0, 1) := by decide +kernel
theorem dX12_readTask_255 : decode cX12_readTask 255 = .ok (.invokevirtual 318, 3) := by decide +kernel
theorem dX12_readTask_258 : decode cX12_readTask 258 = .ok (.goto 164, 3) := by decide +kernel
theorem dX12_readTask_261 : decode cX12_readTask 261 = .ok (.aload_n 0, 1) := by decide +kernel
theorem dX12_readTask_262 : decode cX12_readTask 262 = .ok (.bipush 10, 2) := by decide +kernel
theorem dX12_readTask_264 : decode cX12_readTask 264 = .ok (.invokevirtual 328, 3) := by decide +kernel
theorem dX12_readTask_267 : decode cX12_readTask 267 = .ok (.aload_n 0, 1) := by decide +kernel
theorem dX12_readTask_268 : decode cX12_readTask 268 = .ok (.bipush 8, 2) := by decide +kernel
theorem dX12_readTask_270 : decode cX12_readTask 270 = .ok (.iconst 0, 1) := by decide +kernel
theorem dX12_readTask_271 : decode cX12_readTask 271 = .ok (.invokevirtual 318, 3) := by decide +kernel
theorem dX12_readTask_274 : decode cX12_readTask 274 = .ok (.goto 148, 3) := by decide +kernel
theorem dX12_readTask_277 : decode cX12_readTask 277 = .ok (.aload_n 0, 1) := by decide +kernel
theorem dX12_readTask_278 : decode cX12_readTask 278 = .ok (.bipush 11, 2) := by decide +kernel
theorem dX12_readTask_280 : decode cX12_readTask 280 = .ok (.iconst 0, 1) := by decide +kernel
theorem dX12_readTask_281 : decode cX12_readTask 281 = .ok (.invokevirtual 318, 3) := by decide +kernel
theorem dX12_readTask_284 : decode cX12_readTask 284 = .ok (.aload_n 0, 1) := by decide +kernel
theorem dX12_readTask_285 : decode cX12_readTask 285 = .ok (.bipush 13, 2) := by decide +kernel
theorem dX12_readTask_287 : decode cX12_readTask 287 = .ok (.iconst 0, 1) := by decide +kernel
theorem dX12_readTask_288 : decode cX12_readTask 288 = .ok (.invokevirtual 318, 3) := by decide +kernel
theorem dX12_readTask_291 : decode cX12_readTask 291 = .ok (.goto 131, 3) := by decide +kernel
theorem dX12_readTask_294 : decode cX12_readTask 294 = .ok (.aload_n 0, 1) := by decide +kernel
theorem dX12_readTask_295 : decode cX12_readTask 295 = .ok (.invokevirtual 288, 3) := by decide +kernel
theorem dX12_readTask_298 : decode cX12_readTask 298 = .ok (.bipush 9, 2) := by decide +kernel
theorem dX12_readTask_300 : decode cX12_readTask 300 = .ok (.if_icmp .ne 122, 3) := by decide +kernel
theorem dX12_readTask_303 : decode cX12_readTask 303 = .ok (.aload_n 0, 1) := by decide +kernel
theorem dX12_readTask_304 : decode cX12_readTask 304 = .ok (.invokevirtual 292, 3) := by decide +kernel
theorem dX12_readTask_307 : decode cX12_readTask 307 = .ok (.aload_n 0, 1) := by decide +kernel
theorem dX12_readTask_308 : decode cX12_readTask 308 = .ok (.bipush 12, 2) := by decide +kernel
theorem dX12_readTask_310 : decode cX12_readTask 310 = .ok (.iconst 0, 1) := by decide +kernel
theorem dX12_readTask_311 : decode cX12_readTask 311 = .ok (.invokevirtual 318, 3) := by decide +kernel
theorem dX12_readTask_314 : decode cX12_readTask 314 = .ok (.aload_n 0, 1) := by decide +kernel
theorem dX12_readTask_315 : decode cX12_readTask 315 = .ok (.bipush 13, 2) := by decide +kernel
theorem dX12_readTask_317 : decode cX12_readTask 317 = .ok (.iconst 0, 1) := by decide +kernel
theorem dX12_readTask_318 : decode cX12_readTask 318 = .ok (.invokevirtual 318, 3) := by decide +kernel
theorem dX12_readTask_321 : decode cX12_readTask 321 = .ok (.goto 101, 3) := by decide +kernel
theorem dX12_readTask_324 : decode cX12_readTask 324 = .ok (.aload_n 0, 1) := by decide +kernel
theorem dX12_readTask_325 : decode cX12_readTask 325 = .ok (.bipush 9, 2) := by decide +kernel
theorem dX12_readTask_327 : decode cX12_readTask 327 = .ok (.invokevirtual 328, 3) := by decide +kernel
theorem dX12_readTask_330 : decode cX12_readTask 330 = .ok (.aload_n 0, 1) := by decide +kernel
theorem dX12_readTask_331 : decode cX12_readTask 331 = .ok (.bipush 11, 2) := by decide +kernel
theorem dX12_readTask_333 : decode cX12_readTask 333 = .ok (.iconst 0, 1) := by decide +kernel
theorem dX12_readTask_334 : decode cX12_readTask 334 = .ok (.invokevirtual 318, 3) := by decide +kernel
theorem dX12_readTask_337 : decode cX12_readTask 337 = .ok (.goto 85, 3) := by decide +kernel
theorem dX12_readTask_340 : decode cX12_readTask 340 = .ok (.aload_n 0, 1) := by decide +kernel
theorem dX12_readTask_341 : decode cX12_readTask 341 = .ok (.invokevirtual 331, 3) := by decide +kernel
theorem dX12_readTask_344 : decode cX12_readTask 344 = .ok (.goto 78, 3) := by decide +kernel
theorem dX12_readTask_347 : decode cX12_readTask 347 = .ok (.aload_n 0, 1) := by decide +kernel
theorem dX12_readTask_348 : decode cX12_readTask 348 = .ok (.dup, 1) := by decide +kernel
theorem dX12_readTask_349 : decode cX12_readTask 349 = .ok (.getfield 298, 3) := by decide +kernel
theorem dX12_readTask_352 : decode cX12_readTask 352 = .ok (.iconst 1, 1) := by decide +kernel
theorem dX12_readTask_353 : decode cX12_readTask 353 = .ok (.isub, 1) := by decide +kernel
theorem dX12_readTask_354 : decode cX12_readTask 354 = .ok (.putfield 298, 3) := by decide +kernel
theorem dX12_readTask_357 : decode cX12_readTask 357 = .ok (.aload_n 0, 1) := by decide +kernel
theorem dX12_readTask_358 : decode cX12_readTask 358 = .ok (.aload_n 0, 1) := by decide +kernel
theorem dX12_readTask_359 : decode cX12_readTask 359 = .ok (.bipush 8, 2) := by decide +kernel
theorem dX12_readTask_361 : decode cX12_readTask 361 = .ok (.aload_n 0, 1) := by decide +kernel
theorem dX12_readTask_362 : decode cX12_readTask 362 = .ok (.invokevirtual 307, 3) := by decide +kernel
theorem dX12_readTask_365 : decode cX12_readTask 365 = .ok (.iconst 0, 1) := by decide +kernel
theorem dX12_readTask_366 : decode cX12_readTask 366 = .ok (.invokevirtual 310, 3) := by decide +kernel
theorem dX12_readTask_369 : decode cX12_readTask 369 = .ok (.invokevirtual 314, 3) := by decide +kernel
theorem dX12_readTask_372 : decode cX12_readTask 372 = .ok (.goto 50, 3) := by decide +kernel
theorem dX12_readTask_375 : decode cX12_readTask 375 = .ok (.aload_n 0, 1) := by decide +kernel
theorem dX12_readTask_376 : decode cX12_readTask 376 = .ok (.dup, 1) := by decide +kernel
theorem dX12_readTask_377 : decode cX12_readTask 377 = .ok (.getfield 298, 3) := by decide +kernel
theorem dX12_readTask_380 : decode cX12_readTask 380 = .ok (.iconst 1, 1) := by decide +kernel
theorem dX12_readTask_381 : decode cX12_readTask 381 = .ok (.isub, 1) := by decide +kernel
theorem dX12_readTask_382 : decode cX12_readTask 382 = .ok (.putfield 298, 3) := by decide +kernel
theorem dX12_readTask_385 : decode cX12_readTask 385 = .ok (.aload_n 0, 1) := by decide +kernel
theorem dX12_readTask_386 : decode cX12_readTask 386 = .ok (.getfield 55, 3) := by decide +kernel
theorem dX12_readTask_389 : decode cX12_readTask 389 = .ok (.iload_n 2, 1) := by decide +kernel
theorem dX12_readTask_390 : decode cX12_readTask 390 = .ok (.aload_n 0, 1) := by decide +kernel
theorem dX12_readTask_391 : decode cX12_readTask 391 = .ok (.invokevirtual 307, 3) := by decide +kernel
theorem dX12_readTask_394 : decode cX12_readTask 394 = .ok (.iastore, 1) := by decide +kernel
theorem dX12_readTask_395 : decode cX12_readTask 395 = .ok (.aload_n 0, 1) := by decide +kernel
theorem dX12_readTask_396 : decode cX12_readTask 396 = .ok (.iload_n 2, 1) := by decide +kernel
theorem dX12_readTask_397 : decode cX12_readTask 397 = .ok (.invokevirtual 314, 3) := by decide +kernel
theorem dX12_readTask_400 : decode cX12_readTask 400 = .ok (.goto 22, 3) := by decide +kernel
theorem dX12_readTask_403 : decode cX12_readTask 403 = .ok (.aload_n 0, 1) := by decide +kernel
theorem dX12_readTask_404 : decode cX12_readTask 404 = .ok (.dup, 1) := by decide +kernel
theorem dX12_readTask_405 : decode cX12_readTask 405 = .ok (.getfield 298, 3) := by decide +kernel
theorem dX12_readTask_408 : decode cX12_readTask 408 = .ok (.iconst 1, 1) := by decide +kernel
theorem dX12_readTask_409 : decode cX12_readTask 409 = .ok (.isub, 1) := by decide +kernel
theorem dX12_readTask_410 : decode cX12_readTask 410 = .ok (.putfield 298, 3) := by decide +kernel
theorem dX12_readTask_413 : decode cX12_readTask 413 = .ok (.aload_n 0, 1) := by decide +kernel
theorem dX12_readTask_414 : decode cX12_readTask 414 = .ok (.iconst 4, 1) := by decide +kernel
theorem dX12_readTask_415 : decode cX12_readTask 415 = .ok (.invokevirtual 334, 3) := by decide +kernel
theorem dX12_readTask_418 : decode cX12_readTask 418 = .ok (.istore_n 3, 1) := by decide +kernel
theorem dX12_readTask_419 : decode cX12_readTask 419 = .ok (.goto 3, 3) := by decide +kernel
theorem dX12_readTask_422 : decode cX12_readTask 422 = .ok (.return_, 1) := by decide +kernel
theorem dX12_unary_0 : decode cX12_unary 0 = .ok (.aload_n 0, 1) := by decide +kernel
theorem dX12_unary_1 : decode cX12_unary 1 = .ok (.invokevirtual 288, 3) := by decide +kernel
theorem dX12_unary_4 : decode cX12_unary 4 = .ok (.istore_n 1, 1) := by decide +kernel
theorem dX12_unary_5 : decode cX12_unary 5 = .ok (.iload_n 1, 1) := by decide +kernel
theorem dX12_unary_6 : decode cX12_unary 6 = .ok (.bipush 8, 2) := by decide +kernel
theorem dX12_unary_8 : decode cX12_unary 8 = .ok (.if_icmp .ne 27, 3) := by decide +kernel
theorem dX12_unary_11 : decode cX12_unary 11 = .ok (.aload_n 0, 1) := by decide +kernel
theorem dX12_unary_12 : decode cX12_unary 12 = .ok (.invokevirtual 324, 3) := by decide +kernel
theorem dX12_unary_15 : decode cX12_unary 15 = .ok (.ifCond .eq 171, 3) := by decide +kernel
theorem dX12_unary_18 : decode cX12_unary 18 = .ok (.aload_n 0, 1) := by decide +kernel
theorem dX12_unary_19 : decode cX12_unary 19 = .ok (.bipush 14, 2) := by decide +kernel
theorem dX12_unary_21 : decode cX12_unary 21 = .ok (.iconst 0, 1) := by decide +kernel
theorem dX12_unary_22 : decode cX12_unary 22 = .ok (.invokevirtual 318, 3) := by decide +kernel
theorem dX12_unary_25 : decode cX12_unary 25 = .ok (.aload_n 0, 1) := by decide +kernel
theorem dX12_unary_26 : decode cX12_unary 26 = .ok (.bipush 13, 2) := by decide +kernel
theorem dX12_unary_28 : decode cX12_unary 28 = .ok (.iconst 0, 1) := by decide +kernel
theorem dX12_unary_29 : decode cX12_unary 29 = .ok (.invokevirtual 318, 3) := by decide +kernel
theorem dX12_unary_32 : decode cX12_unary 32 = .ok (.goto 154, 3) := by decide +kernel
theorem dX12_unary_35 : decode cX12_unary 35 = .ok (.iload_n 1, 1) := by decide +kernel
theorem dX12_unary_36 : decode cX12_unary 36 = .ok (.bipush 11, 2) := by decide +kernel
theorem dX12_unary_38 : decode cX12_unary 38 = .ok (.if_icmp .eq 9, 3) := by decide +kernel
theorem dX12_unary_41 : decode cX12_unary 41 = .ok (.iload_n 1, 1) := by decide +kernel
theorem dX12_unary_42 : decode cX12_unary 42 = .ok (.bipush 12, 2) := by decide +kernel
theorem dX12_unary_44 : decode cX12_unary 44 = .ok (.if_icmp .ne 73, 3) := by decide +kernel
theorem dX12_unary_47 : decode cX12_unary 47 = .ok (.aload_n 0, 1) := by decide +kernel
theorem dX12_unary_48 : decode cX12_unary 48 = .ok (.invokevirtual 324, 3) := by decide +kernel
theorem dX12_unary_51 : decode cX12_unary 51 = .ok (.ifCond .ne 4, 3) := by decide +kernel
theorem dX12_unary_54 : decode cX12_unary 54 = .ok (.return_, 1) := by decide +kernel
theorem dX12_unary_55 : decode cX12_unary 55 = .ok (.aload_n 0, 1) := by decide +kernel
theorem dX12_unary_56 : decode cX12_unary 56 = .ok (.invokevirtual 288, 3) := by decide +kernel
theorem dX12_unary_59 : decode cX12_unary 59 = .ok (.istore_n 2, 1) := by decide +kernel
theorem dX12_unary_60 : decode cX12_unary 60 = .ok (.aload_n 0, 1) := by decide +kernel
theorem dX12_unary_61 : decode cX12_unary 61 = .ok (.getfield 275, 3) := by decide +kernel
theorem dX12_unary_64 : decode cX12_unary 64 = .ok (.lstore_n 3, 1) := by decide +kernel
theorem dX12_unary_65 : decode cX12_unary 65 = .ok (.aload_n 0, 1) := by decide +kernel
theorem dX12_unary_66 : decode cX12_unary 66 = .ok (.iconst 2, 1) := by decide +kernel
theorem dX12_unary_67 : decode cX12_unary 67 = .ok (.invokevirtual 334, 3) := by decide +kernel
theorem dX12_unary_70 : decode cX12_unary 70 = .ok (.ifCond .eq 44, 3) := by decide +kernel
theorem dX12_unary_73 : decode cX12_unary 73 = .ok (.aload_n 0, 1) := by decide +kernel
theorem dX12_unary_74 : decode cX12_unary 74 = .ok (.bipush 7, 2) := by decide +kernel
theorem dX12_unary_76 : decode cX12_unary 76 = .ok (.invokevirtual 334, 3) := by decide +kernel
theorem dX12_unary_79 : decode cX12_unary 79 = .ok (.ifCond .eq 35, 3) := by decide +kernel
theorem dX12_unary_82 : decode cX12_unary 82 = .ok (.aload_n 0, 1) := by decide +kernel
theorem dX12_unary_83 : decode cX12_unary 83 = .ok (.iload_n 1, 1) := by decide +kernel
theorem dX12_unary_84 : decode cX12_unary 84 = .ok (.iconst 0, 1) := by decide +kernel
theorem dX12_unary_85 : decode cX12_unary 85 = .ok (.iconst 0, 1) := by decide +kernel
theorem dX12_unary_86 : decode cX12_unary 86 = .ok (.invokevirtual 310, 3) := by decide +kernel
theorem dX12_unary_89 : decode cX12_unary 89 = .ok (.istore 5, 2) := by decide +kernel
theorem dX12_unary_91 : decode cX12_unary 91 = .ok (.aload_n 0, 1) := by decide +kernel
theorem dX12_unary_92 : decode cX12_unary 92 = .ok (.getfield 61, 3) := by decide +kernel
theorem dX12_unary_95 : decode cX12_unary 95 = .ok (.iload 5, 2) := by decide +kernel
theorem dX12_unary_97 : decode cX12_unary 97 = .ok (.lload_n 3, 1) := by decide +kernel
theorem dX12_unary_98 : decode cX12_unary 98 = .ok (.lastore, 1) := by decide +kernel
theorem dX12_unary_99 : decode cX12_unary 99 = .ok (.aload_n 0, 1) := by decide +kernel
theorem dX12_unary_100 : decode cX12_unary 100 = .ok (.bipush 15, 2) := by decide +kernel
theorem dX12_unary_102 : decode cX12_unary 102 = .ok (.iload 5, 2) := by decide +kernel
theorem dX12_unary_104 : decode cX12_unary 104 = .ok (.invokevirtual 318, 3) := by decide +kernel
theorem dX12_unary_107 : decode cX12_unary 107 = .ok (.aload_n 0, 1) := by decide +kernel
theorem dX12_unary_108 : decode cX12_unary 108 = .ok (.bipush 13, 2) := by decide +kernel
theorem dX12_unary_110 : decode cX12_unary 110 = .ok (.iconst 0, 1) := by decide +kernel
theorem dX12_unary_111 : decode cX12_unary 111 = .ok (.invokevirtual 318, 3) := by decide +kernel
theorem dX12_unary_114 : decode cX12_unary 114 = .ok (.goto 72, 3) := by decide +kernel
theorem dX12_unary_117 : decode cX12_unary 117 = .ok (.iload_n 1, 1) := by decide +kernel
theorem dX12_unary_118 : decode cX12_unary 118 = .ok (.iconst 3, 1) := by decide +kernel
theorem dX12_unary_119 : decode cX12_unary 119 = .ok (.if_icmp .ne 26, 3) := by decide +kernel
theorem dX12_unary_122 : decode cX12_unary 122 = .ok (.aload_n 0, 1) := by decide +kernel
theorem dX12_unary_123 : decode cX12_unary 123 = .ok (.invokevirtual 324, 3) := by decide +kernel
theorem dX12_unary_126 : decode cX12_unary 126 = .ok (.ifCond .eq 60, 3) := by decide +kernel
theorem dX12_unary_129 : decode cX12_unary 129 = .ok (.aload_n 0, 1) := by decide +kernel
theorem dX12_unary_130 : decode cX12_unary 130 = .ok (.bipush 16, 2) := by decide +kernel
theorem dX12_unary_132 : decode cX12_unary 132 = .ok (.iconst 0, 1) := by decide +kernel
theorem dX12_unary_133 : decode cX12_unary 133 = .ok (.invokevirtual 318, 3) := by decide +kernel
theorem dX12_unary_136 : decode cX12_unary 136 = .ok (.aload_n 0, 1) := by decide +kernel
theorem dX12_unary_137 : decode cX12_unary 137 = .ok (.iconst 1, 1) := by decide +kernel
theorem dX12_unary_138 : decode cX12_unary 138 = .ok (.iconst 0, 1) := by decide +kernel
theorem dX12_unary_139 : decode cX12_unary 139 = .ok (.invokevirtual 318, 3) := by decide +kernel
theorem dX12_unary_142 : decode cX12_unary 142 = .ok (.goto 44, 3) := by decide +kernel
theorem dX12_unary_145 : decode cX12_unary 145 = .ok (.iload_n 1, 1) := by decide +kernel
theorem dX12_unary_146 : decode cX12_unary 146 = .ok (.iconst 1, 1) := by decide +kernel
theorem dX12_unary_147 : decode cX12_unary 147 = .ok (.if_icmp .ne 30, 3) := by decide +kernel
theorem dX12_unary_150 : decode cX12_unary 150 = .ok (.aload_n 0, 1) := by decide +kernel
theorem dX12_unary_151 : decode cX12_unary 151 = .ok (.getfield 338, 3) := by decide +kernel
theorem dX12_unary_154 : decode cX12_unary 154 = .ok (.istore_n 2, 1) := by decide +kernel
theorem dX12_unary_155 : decode cX12_unary 155 = .ok (.aload_n 0, 1) := by decide +kernel
theorem dX12_unary_156 : decode cX12_unary 156 = .ok (.invokevirtual 341, 3) := by decide +kernel
theorem dX12_unary_159 : decode cX12_unary 159 = .ok (.aload_n 0, 1) := by decide +kernel
theorem dX12_unary_160 : decode cX12_unary 160 = .ok (.aload_n 0, 1) := by decide +kernel
theorem dX12_unary_161 : decode cX12_unary 161 = .ok (.bipush 15, 2) := by decide +kernel
theorem dX12_unary_163 : decode cX12_unary 163 = .ok (.iload_n 2, 1) := by decide +kernel
theorem dX12_unary_164 : decode cX12_unary 164 = .ok (.aload_n 0, 1) := by decide +kernel
theorem dX12_unary_165 : decode cX12_unary 165 = .ok (.getfield 338, 3) := by decide +kernel
theorem dX12_unary_168 : decode cX12_unary 168 = .ok (.invokevirtual 310, 3) := by decide +kernel
theorem dX12_unary_171 : decode cX12_unary 171 = .ok (.invokevirtual 314, 3) := by decide +kernel
theorem dX12_unary_174 : decode cX12_unary 174 = .ok (.goto 12, 3) := by decide +kernel
theorem dX12_unary_177 : decode cX12_unary 177 = .ok (.aload_n 0, 1) := by decide +kernel
theorem dX12_unary_178 : decode cX12_unary 178 = .ok (.iconst 2, 1) := by decide +kernel
theorem dX12_unary_179 : decode cX12_unary 179 = .ok (.aload_n 0, 1) := by decide +kernel
theorem dX12_unary_180 : decode cX12_unary 180 = .ok (.getfield 272, 3) := by decide +kernel
theorem dX12_unary_183 : decode cX12_unary 183 = .ok (.invokevirtual 284, 3) := by decide +kernel
theorem dX12_unary_186 : decode cX12_unary 186 = .ok (.return_, 1) := by decide +kernel
theorem dX12_symbolOf_0 : decode cX12_symbolOf 0 = .ok (.iconst 0, 1) := by decide +kernel
theorem dX12_symbolOf_1 : decode cX12_symbolOf 1 = .ok (.istore_n 3, 1) := by decide +kernel
theorem dX12_symbolOf_2 : decode cX12_symbolOf 2 = .ok (.iload_n 3, 1) := by decide +kernel
theorem dX12_symbolOf_3 : decode cX12_symbolOf 3 = .ok (.aload_n 0, 1) := by decide +kernel
theorem dX12_symbolOf_4 : decode cX12_symbolOf 4 = .ok (.getfield 344, 3) := by decide +kernel
theorem dX12_symbolOf_7 : decode cX12_symbolOf 7 = .ok (.if_icmp .ge 22, 3) := by decide +kernel
theorem dX12_symbolOf_10 : decode cX12_symbolOf 10 = .ok (.aload_n 0, 1) := by decide +kernel
theorem dX12_symbolOf_11 : decode cX12_symbolOf 11 = .ok (.getfield 13, 3) := by decide +kernel
theorem dX12_symbolOf_14 : decode cX12_symbolOf 14 = .ok (.iload_n 3, 1) := by decide +kernel
theorem dX12_symbolOf_15 : decode cX12_symbolOf 15 = .ok (.laload, 1) := by decide +kernel
theorem dX12_symbolOf_16 : decode cX12_symbolOf 16 = .ok (.lload_n 1, 1) := by decide +kernel
theorem dX12_symbolOf_17 : decode cX12_symbolOf 17 = .ok (.lcmp, 1) := by decide +kernel
theorem dX12_symbolOf_18 : decode cX12_symbolOf 18 = .ok (.ifCond .ne 5, 3) := by decide +kernel
theorem dX12_symbolOf_21 : decode cX12_symbolOf 21 = .ok (.iload_n 3, 1) := by decide +kernel
theorem dX12_symbolOf_22 : decode cX12_symbolOf 22 = .ok (.ireturn, 1) := by decide +kernel
theorem dX12_symbolOf_23 : decode cX12_symbolOf 23 = .ok (.iinc 3 1, 3) := by decide +kernel
theorem dX12_symbolOf_26 : decode cX12_symbolOf 26 = .ok (.goto (-24), 3) := by decide +kernel
theorem dX12_symbolOf_29 : decode cX12_symbolOf 29 = .ok (.aload_n 0, 1) := by decide +kernel
theorem dX12_symbolOf_30 : decode cX12_symbolOf 30 = .ok (.getfield 13, 3) := by decide +kernel
theorem dX12_symbolOf_33 : decode cX12_symbolOf 33 = .ok (.aload_n 0, 1) := by decide +kernel
theorem dX12_symbolOf_34 : decode cX12_symbolOf 34 = .ok (.getfield 344, 3) := by decide +kernel
theorem dX12_symbolOf_37 : decode cX12_symbolOf 37 = .ok (.lload_n 1, 1) := by decide +kernel
theorem dX12_symbolOf_38 : decode cX12_symbolOf 38 = .ok (.lastore, 1) := by decide +kernel
theorem dX12_symbolOf_39 : decode cX12_symbolOf 39 = .ok (.aload_n 0, 1) := by decide +kernel
theorem dX12_symbolOf_40 : decode cX12_symbolOf 40 = .ok (.getfield 17, 3) := by decide +kernel
theorem dX12_symbolOf_43 : decode cX12_symbolOf 43 = .ok (.aload_n 0, 1) := by decide +kernel
theorem dX12_symbolOf_44 : decode cX12_symbolOf 44 = .ok (.getfield 344, 3) := by decide +kernel
theorem dX12_symbolOf_47 : decode cX12_symbolOf 47 = .ok (.iconst (-1), 1) := by decide +kernel
theorem dX12_symbolOf_48 : decode cX12_symbolOf 48 = .ok (.iastore, 1) := by decide +kernel
theorem dX12_symbolOf_49 : decode cX12_symbolOf 49 = .ok (.aload_n 0, 1) := by decide +kernel
theorem dX12_symbolOf_50 : decode cX12_symbolOf 50 = .ok (.dup, 1) := by decide +kernel
theorem dX12_symbolOf_51 : decode cX12_symbolOf 51 = .ok (.getfield 344, 3) := by decide +kernel
theorem dX12_symbolOf_54 : decode cX12_symbolOf 54 = .ok (.iconst 1, 1) := by decide +kernel
theorem dX12_symbolOf_55 : decode cX12_symbolOf 55 = .ok (.iadd, 1) := by decide +kernel
theorem dX12_symbolOf_56 : decode cX12_symbolOf 56 = .ok (.putfield 344, 3) := by decide +kernel
theorem dX12_symbolOf_59 : decode cX12_symbolOf 59 = .ok (.aload_n 0, 1) := by decide +kernel
theorem dX12_symbolOf_60 : decode cX12_symbolOf 60 = .ok (.getfield 344, 3) := by decide +kernel
theorem dX12_symbolOf_63 : decode cX12_symbolOf 63 = .ok (.iconst 1, 1) := by decide +kernel
theorem dX12_symbolOf_64 : decode cX12_symbolOf 64 = .ok (.isub, 1) := by decide +kernel
theorem dX12_symbolOf_65 : decode cX12_symbolOf 65 = .ok (.ireturn, 1) := by decide +kernel
theorem dX12_variableOf_0 : decode cX12_variableOf 0 = .ok (.iconst 0, 1) := by decide +kernel
theorem dX12_variableOf_1 : decode cX12_variableOf 1 = .ok (.istore_n 3, 1) := by decide +kernel
theorem dX12_variableOf_2 : decode cX12_variableOf 2 = .ok (.iload_n 3, 1) := by decide +kernel
theorem dX12_variableOf_3 : decode cX12_variableOf 3 = .ok (.aload_n 0, 1) := by decide +kernel
theorem dX12_variableOf_4 : decode cX12_variableOf 4 = .ok (.getfield 347, 3) := by decide +kernel
theorem dX12_variableOf_7 : decode cX12_variableOf 7 = .ok (.if_icmp .ge 22, 3) := by decide +kernel
theorem dX12_variableOf_10 : decode cX12_variableOf 10 = .ok (.aload_n 0, 1) := by decide +kernel
theorem dX12_variableOf_11 : decode cX12_variableOf 11 = .ok (.getfield 67, 3) := by decide +kernel
theorem dX12_variableOf_14 : decode cX12_variableOf 14 = .ok (.iload_n 3, 1) := by decide +kernel
theorem dX12_variableOf_15 : decode cX12_variableOf 15 = .ok (.laload, 1) := by decide +kernel
theorem dX12_variableOf_16 : decode cX12_variableOf 16 = .ok (.lload_n 1, 1) := by decide +kernel
theorem dX12_variableOf_17 : decode cX12_variableOf 17 = .ok (.lcmp, 1) := by decide +kernel
theorem dX12_variableOf_18 : decode cX12_variableOf 18 = .ok (.ifCond .ne 5, 3) := by decide +kernel
theorem dX12_variableOf_21 : decode cX12_variableOf 21 = .ok (.iload_n 3, 1) := by decide +kernel
theorem dX12_variableOf_22 : decode cX12_variableOf 22 = .ok (.ireturn, 1) := by decide +kernel
theorem dX12_variableOf_23 : decode cX12_variableOf 23 = .ok (.iinc 3 1, 3) := by decide +kernel
theorem dX12_variableOf_26 : decode cX12_variableOf 26 = .ok (.goto (-24), 3) := by decide +kernel
theorem dX12_variableOf_29 : decode cX12_variableOf 29 = .ok (.aload_n 0, 1) := by decide +kernel
theorem dX12_variableOf_30 : decode cX12_variableOf 30 = .ok (.getfield 67, 3) := by decide +kernel
theorem dX12_variableOf_33 : decode cX12_variableOf 33 = .ok (.aload_n 0, 1) := by decide +kernel
theorem dX12_variableOf_34 : decode cX12_variableOf 34 = .ok (.getfield 347, 3) := by decide +kernel
theorem dX12_variableOf_37 : decode cX12_variableOf 37 = .ok (.lload_n 1, 1) := by decide +kernel
theorem dX12_variableOf_38 : decode cX12_variableOf 38 = .ok (.lastore, 1) := by decide +kernel
theorem dX12_variableOf_39 : decode cX12_variableOf 39 = .ok (.aload_n 0, 1) := by decide +kernel
theorem dX12_variableOf_40 : decode cX12_variableOf 40 = .ok (.dup, 1) := by decide +kernel
theorem dX12_variableOf_41 : decode cX12_variableOf 41 = .ok (.getfield 347, 3) := by decide +kernel
theorem dX12_variableOf_44 : decode cX12_variableOf 44 = .ok (.iconst 1, 1) := by decide +kernel
theorem dX12_variableOf_45 : decode cX12_variableOf 45 = .ok (.iadd, 1) := by decide +kernel
theorem dX12_variableOf_46 : decode cX12_variableOf 46 = .ok (.putfield 347, 3) := by decide +kernel
theorem dX12_variableOf_49 : decode cX12_variableOf 49 = .ok (.aload_n 0, 1) := by decide +kernel
theorem dX12_variableOf_50 : decode cX12_variableOf 50 = .ok (.getfield 347, 3) := by decide +kernel
theorem dX12_variableOf_53 : decode cX12_variableOf 53 = .ok (.iconst 1, 1) := by decide +kernel
theorem dX12_variableOf_54 : decode cX12_variableOf 54 = .ok (.isub, 1) := by decide +kernel
theorem dX12_variableOf_55 : decode cX12_variableOf 55 = .ok (.ireturn, 1) := by decide +kernel
theorem dX12_beginTerm_0 : decode cX12_beginTerm 0 = .ok (.aload_n 0, 1) := by decide +kernel
theorem dX12_beginTerm_1 : decode cX12_beginTerm 1 = .ok (.invokevirtual 288, 3) := by decide +kernel
theorem dX12_beginTerm_4 : decode cX12_beginTerm 4 = .ok (.istore_n 1, 1) := by decide +kernel
theorem dX12_beginTerm_5 : decode cX12_beginTerm 5 = .ok (.aload_n 0, 1) := by decide +kernel
theorem dX12_beginTerm_6 : decode cX12_beginTerm 6 = .ok (.getfield 350, 3) := by decide +kernel
theorem dX12_beginTerm_9 : decode cX12_beginTerm 9 = .ok (.ifCond .le 43, 3) := by decide +kernel
theorem dX12_beginTerm_12 : decode cX12_beginTerm 12 = .ok (.iload_n 1, 1) := by decide +kernel
theorem dX12_beginTerm_13 : decode cX12_beginTerm 13 = .ok (.iconst 2, 1) := by decide +kernel
theorem dX12_beginTerm_14 : decode cX12_beginTerm 14 = .ok (.if_icmp .ne 38, 3) := by decide +kernel
theorem dX12_beginTerm_17 : decode cX12_beginTerm 17 = .ok (.aload_n 0, 1) := by decide +kernel
theorem dX12_beginTerm_18 : decode cX12_beginTerm 18 = .ok (.getfield 64, 3) := by decide +kernel
theorem dX12_beginTerm_21 : decode cX12_beginTerm 21 = .ok (.aload_n 0, 1) := by decide +kernel
theorem dX12_beginTerm_22 : decode cX12_beginTerm 22 = .ok (.getfield 338, 3) := by decide +kernel
theorem dX12_beginTerm_25 : decode cX12_beginTerm 25 = .ok (.iconst (-1), 1) := by decide +kernel
theorem dX12_beginTerm_26 : decode cX12_beginTerm 26 = .ok (.aload_n 0, 1) := by decide +kernel
theorem dX12_beginTerm_27 : decode cX12_beginTerm 27 = .ok (.aload_n 0, 1) := by decide +kernel
theorem dX12_beginTerm_28 : decode cX12_beginTerm 28 = .ok (.getfield 275, 3) := by decide +kernel
theorem dX12_beginTerm_31 : decode cX12_beginTerm 31 = .ok (.invokevirtual 353, 3) := by decide +kernel
theorem dX12_beginTerm_34 : decode cX12_beginTerm 34 = .ok (.isub, 1) := by decide +kernel
theorem dX12_beginTerm_35 : decode cX12_beginTerm 35 = .ok (.iastore, 1) := by decide +kernel
theorem dX12_beginTerm_36 : decode cX12_beginTerm 36 = .ok (.aload_n 0, 1) := by decide +kernel
theorem dX12_beginTerm_37 : decode cX12_beginTerm 37 = .ok (.dup, 1) := by decide +kernel
theorem dX12_beginTerm_38 : decode cX12_beginTerm 38 = .ok (.getfield 338, 3) := by decide +kernel
theorem dX12_beginTerm_41 : decode cX12_beginTerm 41 = .ok (.iconst 1, 1) := by decide +kernel
theorem dX12_beginTerm_42 : decode cX12_beginTerm 42 = .ok (.iadd, 1) := by decide +kernel
theorem dX12_beginTerm_43 : decode cX12_beginTerm 43 = .ok (.putfield 338, 3) := by decide +kernel
theorem dX12_beginTerm_46 : decode cX12_beginTerm 46 = .ok (.aload_n 0, 1) := by decide +kernel
theorem dX12_beginTerm_47 : decode cX12_beginTerm 47 = .ok (.invokevirtual 292, 3) := by decide +kernel
theorem dX12_beginTerm_50 : decode cX12_beginTerm 50 = .ok (.iconst 1, 1) := by decide +kernel
theorem dX12_beginTerm_51 : decode cX12_beginTerm 51 = .ok (.ireturn, 1) := by decide +kernel
theorem dX12_beginTerm_52 : decode cX12_beginTerm 52 = .ok (.iload_n 1, 1) := by decide +kernel
theorem dX12_beginTerm_53 : decode cX12_beginTerm 53 = .ok (.iconst 1, 1) := by decide +kernel
theorem dX12_beginTerm_54 : decode cX12_beginTerm 54 = .ok (.if_icmp .eq 14, 3) := by decide +kernel
theorem dX12_beginTerm_57 : decode cX12_beginTerm 57 = .ok (.aload_n 0, 1) := by decide +kernel
theorem dX12_beginTerm_58 : decode cX12_beginTerm 58 = .ok (.iconst 2, 1) := by decide +kernel
theorem dX12_beginTerm_59 : decode cX12_beginTerm 59 = .ok (.aload_n 0, 1) := by decide +kernel
theorem dX12_beginTerm_60 : decode cX12_beginTerm 60 = .ok (.getfield 272, 3) := by decide +kernel
theorem dX12_beginTerm_63 : decode cX12_beginTerm 63 = .ok (.invokevirtual 284, 3) := by decide +kernel
theorem dX12_beginTerm_66 : decode cX12_beginTerm 66 = .ok (.iconst 0, 1) := by decide +kernel
theorem dX12_beginTerm_67 : decode cX12_beginTerm 67 = .ok (.ireturn, 1) := by decide +kernel
theorem dX12_beginTerm_68 : decode cX12_beginTerm 68 = .ok (.aload_n 0, 1) := by decide +kernel
theorem dX12_beginTerm_69 : decode cX12_beginTerm 69 = .ok (.getfield 272, 3) := by decide +kernel
theorem dX12_beginTerm_72 : decode cX12_beginTerm 72 = .ok (.istore_n 2, 1) := by decide +kernel
theorem dX12_beginTerm_73 : decode cX12_beginTerm 73 = .ok (.aload_n 0, 1) := by decide +kernel
theorem dX12_beginTerm_74 : decode cX12_beginTerm 74 = .ok (.aload_n 0, 1) := by decide +kernel
theorem dX12_beginTerm_75 : decode cX12_beginTerm 75 = .ok (.getfield 275, 3) := by decide +kernel
theorem dX12_beginTerm_78 : decode cX12_beginTerm 78 = .ok (.invokevirtual 357, 3) := by decide +kernel
theorem dX12_beginTerm_81 : decode cX12_beginTerm 81 = .ok (.istore_n 3, 1) := by decide +kernel
theorem dX12_beginTerm_82 : decode cX12_beginTerm 82 = .ok (.aload_n 0, 1) := by decide +kernel
theorem dX12_beginTerm_83 : decode cX12_beginTerm 83 = .ok (.invokevirtual 292, 3) := by decide +kernel
theorem dX12_beginTerm_86 : decode cX12_beginTerm 86 = .ok (.aload_n 0, 1) := by decide +kernel
theorem dX12_beginTerm_87 : decode cX12_beginTerm 87 = .ok (.getfield 64, 3) := by decide +kernel
theorem dX12_beginTerm_90 : decode cX12_beginTerm 90 = .ok (.aload_n 0, 1) := by decide +kernel
theorem dX12_beginTerm_91 : decode cX12_beginTerm 91 = .ok (.getfield 338, 3) := by decide +kernel
theorem dX12_beginTerm_94 : decode cX12_beginTerm 94 = .ok (.iload_n 3, 1) := by decide +kernel
theorem dX12_beginTerm_95 : decode cX12_beginTerm 95 = .ok (.iastore, 1) := by decide +kernel
theorem dX12_beginTerm_96 : decode cX12_beginTerm 96 = .ok (.aload_n 0, 1) := by decide +kernel
theorem dX12_beginTerm_97 : decode cX12_beginTerm 97 = .ok (.dup, 1) := by decide +kernel
theorem dX12_beginTerm_98 : decode cX12_beginTerm 98 = .ok (.getfield 338, 3) := by decide +kernel
theorem dX12_beginTerm_101 : decode cX12_beginTerm 101 = .ok (.iconst 1, 1) := by decide +kernel
theorem dX12_beginTerm_102 : decode cX12_beginTerm 102 = .ok (.iadd, 1) := by decide +kernel
theorem dX12_beginTerm_103 : decode cX12_beginTerm 103 = .ok (.putfield 338, 3) := by decide +kernel
theorem dX12_beginTerm_106 : decode cX12_beginTerm 106 = .ok (.aload_n 0, 1) := by decide +kernel
theorem dX12_beginTerm_107 : decode cX12_beginTerm 107 = .ok (.invokevirtual 288, 3) := by decide +kernel
theorem dX12_beginTerm_110 : decode cX12_beginTerm 110 = .ok (.iconst 3, 1) := by decide +kernel
theorem dX12_beginTerm_111 : decode cX12_beginTerm 111 = .ok (.if_icmp .ne 52, 3) := by decide +kernel
theorem dX12_beginTerm_114 : decode cX12_beginTerm 114 = .ok (.aload_n 0, 1) := by decide +kernel
theorem dX12_beginTerm_115 : decode cX12_beginTerm 115 = .ok (.invokevirtual 324, 3) := by decide +kernel
theorem dX12_beginTerm_118 : decode cX12_beginTerm 118 = .ok (.ifCond .eq 43, 3) := by decide +kernel
theorem dX12_beginTerm_121 : decode cX12_beginTerm 121 = .ok (.aload_n 0, 1) := by decide +kernel
theorem dX12_beginTerm_122 : decode cX12_beginTerm 122 = .ok (.getfield 79, 3) := by decide +kernel
theorem dX12_beginTerm_125 : decode cX12_beginTerm 125 = .ok (.aload_n 0, 1) := by decide +kernel
theorem dX12_beginTerm_126 : decode cX12_beginTerm 126 = .ok (.getfield 350, 3) := by decide +kernel
theorem dX12_beginTerm_129 : decode cX12_beginTerm 129 = .ok (.iload_n 3, 1) := by decide +kernel
theorem dX12_beginTerm_130 : decode cX12_beginTerm 130 = .ok (.iastore, 1) := by decide +kernel
theorem dX12_beginTerm_131 : decode cX12_beginTerm 131 = .ok (.aload_n 0, 1) := by decide +kernel
theorem dX12_beginTerm_132 : decode cX12_beginTerm 132 = .ok (.getfield 82, 3) := by decide +kernel
theorem dX12_beginTerm_135 : decode cX12_beginTerm 135 = .ok (.aload_n 0, 1) := by decide +kernel
theorem dX12_beginTerm_136 : decode cX12_beginTerm 136 = .ok (.getfield 350, 3) := by decide +kernel
theorem dX12_beginTerm_139 : decode cX12_beginTerm 139 = .ok (.iload_n 2, 1) := by decide +kernel
theorem dX12_beginTerm_140 : decode cX12_beginTerm 140 = .ok (.iastore, 1) := by decide +kernel
theorem dX12_beginTerm_141 : decode cX12_beginTerm 141 = .ok (.aload_n 0, 1) := by decide +kernel
theorem dX12_beginTerm_142 : decode cX12_beginTerm 142 = .ok (.getfield 85, 3) := by decide +kernel
theorem dX12_beginTerm_145 : decode cX12_beginTerm 145 = .ok (.aload_n 0, 1) := by decide +kernel
theorem dX12_beginTerm_146 : decode cX12_beginTerm 146 = .ok (.getfield 350, 3) := by decide +kernel
theorem dX12_beginTerm_149 : decode cX12_beginTerm 149 = .ok (.iconst 0, 1) := by decide +kernel
theorem dX12_beginTerm_150 : decode cX12_beginTerm 150 = .ok (.iastore, 1) := by decide +kernel
theorem dX12_beginTerm_151 : decode cX12_beginTerm 151 = .ok (.aload_n 0, 1) := by decide +kernel
theorem dX12_beginTerm_152 : decode cX12_beginTerm 152 = .ok (.dup, 1) := by decide +kernel
theorem dX12_beginTerm_153 : decode cX12_beginTerm 153 = .ok (.getfield 350, 3) := by decide +kernel
theorem dX12_beginTerm_156 : decode cX12_beginTerm 156 = .ok (.iconst 1, 1) := by decide +kernel
theorem dX12_beginTerm_157 : decode cX12_beginTerm 157 = .ok (.iadd, 1) := by decide +kernel
theorem dX12_beginTerm_158 : decode cX12_beginTerm 158 = .ok (.putfield 350, 3) := by decide +kernel
theorem dX12_beginTerm_161 : decode cX12_beginTerm 161 = .ok (.iconst 0, 1) := by decide +kernel
theorem dX12_beginTerm_162 : decode cX12_beginTerm 162 = .ok (.ireturn, 1) := by decide +kernel
theorem dX12_beginTerm_163 : decode cX12_beginTerm 163 = .ok (.aload_n 0, 1) := by decide +kernel
theorem dX12_beginTerm_164 : decode cX12_beginTerm 164 = .ok (.iload_n 3, 1) := by decide +kernel
theorem dX12_beginTerm_165 : decode cX12_beginTerm 165 = .ok (.iload_n 2, 1) := by decide +kernel
theorem dX12_beginTerm_166 : decode cX12_beginTerm 166 = .ok (.iconst 0, 1) := by decide +kernel
theorem dX12_beginTerm_167 : decode cX12_beginTerm 167 = .ok (.invokevirtual 360, 3) := by decide +kernel
theorem dX12_beginTerm_170 : decode cX12_beginTerm 170 = .ok (.iconst 1, 1) := by decide +kernel
theorem dX12_beginTerm_171 : decode cX12_beginTerm 171 = .ok (.ireturn, 1) := by decide +kernel
theorem dX12_endName_0 : decode cX12_endName 0 = .ok (.aload_n 0, 1) := by decide +kernel
theorem dX12_endName_1 : decode cX12_endName 1 = .ok (.getfield 350, 3) := by decide +kernel
theorem dX12_endName_4 : decode cX12_endName 4 = .ok (.ifCond .le 7, 3) := by decide +kernel
theorem dX12_endName_7 : decode cX12_endName 7 = .ok (.iconst 1, 1) := by decide +kernel
theorem dX12_endName_8 : decode cX12_endName 8 = .ok (.goto 4, 3) := by decide +kernel
theorem dX12_endName_11 : decode cX12_endName 11 = .ok (.iconst 0, 1) := by decide +kernel
theorem dX12_endName_12 : decode cX12_endName 12 = .ok (.istore 4, 2) := by decide +kernel
theorem dX12_endName_14 : decode cX12_endName 14 = .ok (.aload_n 0, 1) := by decide +kernel
theorem dX12_endName_15 : decode cX12_endName 15 = .ok (.getfield 252, 3) := by decide +kernel
theorem dX12_endName_18 : decode cX12_endName 18 = .ok (.ifCond .le 4, 3) := by decide +kernel
theorem dX12_endName_21 : decode cX12_endName 21 = .ok (.return_, 1) := by decide +kernel
theorem dX12_endName_22 : decode cX12_endName 22 = .ok (.aload_n 0, 1) := by decide +kernel
theorem dX12_endName_23 : decode cX12_endName 23 = .ok (.getfield 17, 3) := by decide +kernel
theorem dX12_endName_26 : decode cX12_endName 26 = .ok (.iload_n 1, 1) := by decide +kernel
theorem dX12_endName_27 : decode cX12_endName 27 = .ok (.iaload, 1) := by decide +kernel
theorem dX12_endName_28 : decode cX12_endName 28 = .ok (.ifCond .lt 31, 3) := by decide +kernel
theorem dX12_endName_31 : decode cX12_endName 31 = .ok (.aload_n 0, 1) := by decide +kernel
theorem dX12_endName_32 : decode cX12_endName 32 = .ok (.getfield 17, 3) := by decide +kernel
theorem dX12_endName_35 : decode cX12_endName 35 = .ok (.iload_n 1, 1) := by decide +kernel
theorem dX12_endName_36 : decode cX12_endName 36 = .ok (.iaload, 1) := by decide +kernel
theorem dX12_endName_37 : decode cX12_endName 37 = .ok (.iload_n 3, 1) := by decide +kernel
theorem dX12_endName_38 : decode cX12_endName 38 = .ok (.if_icmp .ne 14, 3) := by decide +kernel
theorem dX12_endName_41 : decode cX12_endName 41 = .ok (.aload_n 0, 1) := by decide +kernel
theorem dX12_endName_42 : decode cX12_endName 42 = .ok (.getfield 21, 3) := by decide +kernel
theorem dX12_endName_45 : decode cX12_endName 45 = .ok (.iload_n 1, 1) := by decide +kernel
theorem dX12_endName_46 : decode cX12_endName 46 = .ok (.baload, 1) := by decide +kernel
theorem dX12_endName_47 : decode cX12_endName 47 = .ok (.iload 4, 2) := by decide +kernel
theorem dX12_endName_49 : decode cX12_endName 49 = .ok (.if_icmp .eq 10, 3) := by decide +kernel
theorem dX12_endName_52 : decode cX12_endName 52 = .ok (.aload_n 0, 1) := by decide +kernel
theorem dX12_endName_53 : decode cX12_endName 53 = .ok (.iconst 3, 1) := by decide +kernel
theorem dX12_endName_54 : decode cX12_endName 54 = .ok (.iload_n 2, 1) := by decide +kernel
theorem dX12_endName_55 : decode cX12_endName 55 = .ok (.invokevirtual 284, 3) := by decide +kernel
theorem dX12_endName_58 : decode cX12_endName 58 = .ok (.return_, 1) := by decide +kernel
theorem dX12_endName_59 : decode cX12_endName 59 = .ok (.aload_n 0, 1) := by decide +kernel
theorem dX12_endName_60 : decode cX12_endName 60 = .ok (.getfield 17, 3) := by decide +kernel
theorem dX12_endName_63 : decode cX12_endName 63 = .ok (.iload_n 1, 1) := by decide +kernel
theorem dX12_endName_64 : decode cX12_endName 64 = .ok (.iload_n 3, 1) := by decide +kernel
theorem dX12_endName_65 : decode cX12_endName 65 = .ok (.iastore, 1) := by decide +kernel
theorem dX12_endName_66 : decode cX12_endName 66 = .ok (.aload_n 0, 1) := by decide +kernel
theorem dX12_endName_67 : decode cX12_endName 67 = .ok (.getfield 21, 3) := by decide +kernel
theorem dX12_endName_70 : decode cX12_endName 70 = .ok (.iload_n 1, 1) := by decide +kernel
theorem dX12_endName_71 : decode cX12_endName 71 = .ok (.iload 4, 2) := by decide +kernel
theorem dX12_endName_73 : decode cX12_endName 73 = .ok (.bastore, 1) := by decide +kernel
theorem dX12_endName_74 : decode cX12_endName 74 = .ok (.return_, 1) := by decide +kernel
theorem dX12_readAtom_0 : decode cX12_readAtom 0 = .ok (.aload_n 0, 1) := by decide +kernel
theorem dX12_readAtom_1 : decode cX12_readAtom 1 = .ok (.iconst 0, 1) := by decide +kernel
theorem dX12_readAtom_2 : decode cX12_readAtom 2 = .ok (.putfield 350, 3) := by decide +kernel
theorem dX12_readAtom_5 : decode cX12_readAtom 5 = .ok (.aload_n 0, 1) := by decide +kernel
theorem dX12_readAtom_6 : decode cX12_readAtom 6 = .ok (.invokevirtual 364, 3) := by decide +kernel
theorem dX12_readAtom_9 : decode cX12_readAtom 9 = .ok (.istore_n 1, 1) := by decide +kernel
theorem dX12_readAtom_10 : decode cX12_readAtom 10 = .ok (.aload_n 0, 1) := by decide +kernel
theorem dX12_readAtom_11 : decode cX12_readAtom 11 = .ok (.getfield 252, 3) := by decide +kernel
theorem dX12_readAtom_14 : decode cX12_readAtom 14 = .ok (.ifCond .ne 132, 3) := by decide +kernel
theorem dX12_readAtom_17 : decode cX12_readAtom 17 = .ok (.aload_n 0, 1) := by decide +kernel
theorem dX12_readAtom_18 : decode cX12_readAtom 18 = .ok (.getfield 350, 3) := by decide +kernel
theorem dX12_readAtom_21 : decode cX12_readAtom 21 = .ok (.ifCond .le 125, 3) := by decide +kernel
theorem dX12_readAtom_24 : decode cX12_readAtom 24 = .ok (.aload_n 0, 1) := by decide +kernel
theorem dX12_readAtom_25 : decode cX12_readAtom 25 = .ok (.getfield 350, 3) := by decide +kernel
theorem dX12_readAtom_28 : decode cX12_readAtom 28 = .ok (.iconst 1, 1) := by decide +kernel
theorem dX12_readAtom_29 : decode cX12_readAtom 29 = .ok (.isub, 1) := by decide +kernel
theorem dX12_readAtom_30 : decode cX12_readAtom 30 = .ok (.istore_n 2, 1) := by decide +kernel
theorem dX12_readAtom_31 : decode cX12_readAtom 31 = .ok (.iload_n 1, 1) := by decide +kernel
theorem dX12_readAtom_32 : decode cX12_readAtom 32 = .ok (.ifCond .ne 11, 3) := by decide +kernel
theorem dX12_readAtom_35 : decode cX12_readAtom 35 = .ok (.aload_n 0, 1) := by decide +kernel
theorem dX12_readAtom_36 : decode cX12_readAtom 36 = .ok (.invokevirtual 364, 3) := by decide +kernel
theorem dX12_readAtom_39 : decode cX12_readAtom 39 = .ok (.istore_n 1, 1) := by decide +kernel
theorem dX12_readAtom_40 : decode cX12_readAtom 40 = .ok (.goto (-30), 3) := by decide +kernel
theorem dX12_readAtom_43 : decode cX12_readAtom 43 = .ok (.aload_n 0, 1) := by decide +kernel
theorem dX12_readAtom_44 : decode cX12_readAtom 44 = .ok (.getfield 85, 3) := by decide +kernel
theorem dX12_readAtom_47 : decode cX12_readAtom 47 = .ok (.iload_n 2, 1) := by decide +kernel
theorem dX12_readAtom_48 : decode cX12_readAtom 48 = .ok (.dup2, 1) := by decide +kernel
theorem dX12_readAtom_49 : decode cX12_readAtom 49 = .ok (.iaload, 1) := by decide +kernel
theorem dX12_readAtom_50 : decode cX12_readAtom 50 = .ok (.iconst 1, 1) := by decide +kernel
theorem dX12_readAtom_51 : decode cX12_readAtom 51 = .ok (.iadd, 1) := by decide +kernel
theorem dX12_readAtom_52 : decode cX12_readAtom 52 = .ok (.iastore, 1) := by decide +kernel
theorem dX12_readAtom_53 : decode cX12_readAtom 53 = .ok (.aload_n 0, 1) := by decide +kernel
theorem dX12_readAtom_54 : decode cX12_readAtom 54 = .ok (.invokevirtual 288, 3) := by decide +kernel
theorem dX12_readAtom_57 : decode cX12_readAtom 57 = .ok (.iconst 5, 1) := by decide +kernel
theorem dX12_readAtom_58 : decode cX12_readAtom 58 = .ok (.if_icmp .ne 37, 3) := by decide +kernel
theorem dX12_readAtom_61 : decode cX12_readAtom 61 = .ok (.aload_n 0, 1) := by decide +kernel
theorem dX12_readAtom_62 : decode cX12_readAtom 62 = .ok (.invokevirtual 292, 3) := by decide +kernel
theorem dX12_readAtom_65 : decode cX12_readAtom 65 = .ok (.aload_n 0, 1) := by decide +kernel
theorem dX12_readAtom_66 : decode cX12_readAtom 66 = .ok (.getfield 85, 3) := by decide +kernel
theorem dX12_readAtom_69 : decode cX12_readAtom 69 = .ok (.iload_n 2, 1) := by decide +kernel
theorem dX12_readAtom_70 : decode cX12_readAtom 70 = .ok (.iaload, 1) := by decide +kernel
theorem dX12_readAtom_71 : decode cX12_readAtom 71 = .ok (.iconst 5, 1) := by decide +kernel
theorem dX12_readAtom_72 : decode cX12_readAtom 72 = .ok (.if_icmp .ne 15, 3) := by decide +kernel
theorem dX12_readAtom_75 : decode cX12_readAtom 75 = .ok (.aload_n 0, 1) := by decide +kernel
theorem dX12_readAtom_76 : decode cX12_readAtom 76 = .ok (.iconst 4, 1) := by decide +kernel
theorem dX12_readAtom_77 : decode cX12_readAtom 77 = .ok (.aload_n 0, 1) := by decide +kernel
theorem dX12_readAtom_78 : decode cX12_readAtom 78 = .ok (.getfield 82, 3) := by decide +kernel
theorem dX12_readAtom_81 : decode cX12_readAtom 81 = .ok (.iload_n 2, 1) := by decide +kernel
theorem dX12_readAtom_82 : decode cX12_readAtom 82 = .ok (.iaload, 1) := by decide +kernel
theorem dX12_readAtom_83 : decode cX12_readAtom 83 = .ok (.invokevirtual 284, 3) := by decide +kernel
theorem dX12_readAtom_86 : decode cX12_readAtom 86 = .ok (.return_, 1) := by decide +kernel
theorem dX12_readAtom_87 : decode cX12_readAtom 87 = .ok (.aload_n 0, 1) := by decide +kernel
theorem dX12_readAtom_88 : decode cX12_readAtom 88 = .ok (.invokevirtual 364, 3) := by decide +kernel
theorem dX12_readAtom_91 : decode cX12_readAtom 91 = .ok (.istore_n 1, 1) := by decide +kernel
theorem dX12_readAtom_92 : decode cX12_readAtom 92 = .ok (.goto (-82), 3) := by decide +kernel
theorem dX12_readAtom_95 : decode cX12_readAtom 95 = .ok (.aload_n 0, 1) := by decide +kernel
theorem dX12_readAtom_96 : decode cX12_readAtom 96 = .ok (.dup, 1) := by decide +kernel
theorem dX12_readAtom_97 : decode cX12_readAtom 97 = .ok (.getfield 298, 3) := by decide +kernel
theorem dX12_readAtom_100 : decode cX12_readAtom 100 = .ok (.iconst 1, 1) := by decide +kernel
theorem dX12_readAtom_101 : decode cX12_readAtom 101 = .ok (.isub, 1) := by decide +kernel
theorem dX12_readAtom_102 : decode cX12_readAtom 102 = .ok (.putfield 298, 3) := by decide +kernel
theorem dX12_readAtom_105 : decode cX12_readAtom 105 = .ok (.aload_n 0, 1) := by decide +kernel
theorem dX12_readAtom_106 : decode cX12_readAtom 106 = .ok (.iconst 4, 1) := by decide +kernel
theorem dX12_readAtom_107 : decode cX12_readAtom 107 = .ok (.invokevirtual 334, 3) := by decide +kernel
theorem dX12_readAtom_110 : decode cX12_readAtom 110 = .ok (.istore_n 3, 1) := by decide +kernel
theorem dX12_readAtom_111 : decode cX12_readAtom 111 = .ok (.aload_n 0, 1) := by decide +kernel
theorem dX12_readAtom_112 : decode cX12_readAtom 112 = .ok (.dup, 1) := by decide +kernel
theorem dX12_readAtom_113 : decode cX12_readAtom 113 = .ok (.getfield 350, 3) := by decide +kernel
theorem dX12_readAtom_116 : decode cX12_readAtom 116 = .ok (.iconst 1, 1) := by decide +kernel
theorem dX12_readAtom_117 : decode cX12_readAtom 117 = .ok (.isub, 1) := by decide +kernel
theorem dX12_readAtom_118 : decode cX12_readAtom 118 = .ok (.putfield 350, 3) := by decide +kernel
theorem dX12_readAtom_121 : decode cX12_readAtom 121 = .ok (.aload_n 0, 1) := by decide +kernel
theorem dX12_readAtom_122 : decode cX12_readAtom 122 = .ok (.aload_n 0, 1) := by decide +kernel
theorem dX12_readAtom_123 : decode cX12_readAtom 123 = .ok (.getfield 79, 3) := by decide +kernel
theorem dX12_readAtom_126 : decode cX12_readAtom 126 = .ok (.iload_n 2, 1) := by decide +kernel
theorem dX12_readAtom_127 : decode cX12_readAtom 127 = .ok (.iaload, 1) := by decide +kernel
theorem dX12_readAtom_128 : decode cX12_readAtom 128 = .ok (.aload_n 0, 1) := by decide +kernel
theorem dX12_readAtom_129 : decode cX12_readAtom 129 = .ok (.getfield 82, 3) := by decide +kernel
theorem dX12_readAtom_132 : decode cX12_readAtom 132 = .ok (.iload_n 2, 1) := by decide +kernel
theorem dX12_readAtom_133 : decode cX12_readAtom 133 = .ok (.iaload, 1) := by decide +kernel
theorem dX12_readAtom_134 : decode cX12_readAtom 134 = .ok (.aload_n 0, 1) := by decide +kernel
theorem dX12_readAtom_135 : decode cX12_readAtom 135 = .ok (.getfield 85, 3) := by decide +kernel
theorem dX12_readAtom_138 : decode cX12_readAtom 138 = .ok (.iload_n 2, 1) := by decide +kernel
theorem dX12_readAtom_139 : decode cX12_readAtom 139 = .ok (.iaload, 1) := by decide +kernel
theorem dX12_readAtom_140 : decode cX12_readAtom 140 = .ok (.invokevirtual 360, 3) := by decide +kernel
theorem dX12_readAtom_143 : decode cX12_readAtom 143 = .ok (.goto (-133), 3) := by decide +kernel
theorem dX12_readAtom_146 : decode cX12_readAtom 146 = .ok (.return_, 1) := by decide +kernel
theorem dX12_tree_0 : decode cX12_tree 0 = .ok (.aload_n 0, 1) := by decide +kernel
theorem dX12_tree_1 : decode cX12_tree 1 = .ok (.getfield 367, 3) := by decide +kernel
theorem dX12_tree_4 : decode cX12_tree 4 = .ok (.sipush 6100, 3) := by decide +kernel
theorem dX12_tree_7 : decode cX12_tree 7 = .ok (.if_icmp .ne 10, 3) := by decide +kernel
theorem dX12_tree_10 : decode cX12_tree 10 = .ok (.aload_n 0, 1) := by decide +kernel
theorem dX12_tree_11 : decode cX12_tree 11 = .ok (.iconst 1, 1) := by decide +kernel
theorem dX12_tree_12 : decode cX12_tree 12 = .ok (.putfield 370, 3) := by decide +kernel
theorem dX12_tree_15 : decode cX12_tree 15 = .ok (.iconst 0, 1) := by decide +kernel
theorem dX12_tree_16 : decode cX12_tree 16 = .ok (.ireturn, 1) := by decide +kernel
theorem dX12_tree_17 : decode cX12_tree 17 = .ok (.aload_n 0, 1) := by decide +kernel
theorem dX12_tree_18 : decode cX12_tree 18 = .ok (.getfield 367, 3) := by decide +kernel
theorem dX12_tree_21 : decode cX12_tree 21 = .ok (.istore 5, 2) := by decide +kernel
theorem dX12_tree_23 : decode cX12_tree 23 = .ok (.aload_n 0, 1) := by decide +kernel
theorem dX12_tree_24 : decode cX12_tree 24 = .ok (.dup, 1) := by decide +kernel
theorem dX12_tree_25 : decode cX12_tree 25 = .ok (.getfield 367, 3) := by decide +kernel
theorem dX12_tree_28 : decode cX12_tree 28 = .ok (.iconst 1, 1) := by decide +kernel
theorem dX12_tree_29 : decode cX12_tree 29 = .ok (.iadd, 1) := by decide +kernel
theorem dX12_tree_30 : decode cX12_tree 30 = .ok (.putfield 367, 3) := by decide +kernel
theorem dX12_tree_33 : decode cX12_tree 33 = .ok (.aload_n 0, 1) := by decide +kernel
theorem dX12_tree_34 : decode cX12_tree 34 = .ok (.getfield 100, 3) := by decide +kernel
theorem dX12_tree_37 : decode cX12_tree 37 = .ok (.iload 5, 2) := by decide +kernel
theorem dX12_tree_39 : decode cX12_tree 39 = .ok (.iload_n 1, 1) := by decide +kernel
theorem dX12_tree_40 : decode cX12_tree 40 = .ok (.iastore, 1) := by decide +kernel
theorem dX12_tree_41 : decode cX12_tree 41 = .ok (.aload_n 0, 1) := by decide +kernel
theorem dX12_tree_42 : decode cX12_tree 42 = .ok (.getfield 103, 3) := by decide +kernel
theorem dX12_tree_45 : decode cX12_tree 45 = .ok (.iload 5, 2) := by decide +kernel
theorem dX12_tree_47 : decode cX12_tree 47 = .ok (.iload_n 2, 1) := by decide +kernel
theorem dX12_tree_48 : decode cX12_tree 48 = .ok (.iastore, 1) := by decide +kernel
theorem dX12_tree_49 : decode cX12_tree 49 = .ok (.aload_n 0, 1) := by decide +kernel
theorem dX12_tree_50 : decode cX12_tree 50 = .ok (.getfield 106, 3) := by decide +kernel
theorem dX12_tree_53 : decode cX12_tree 53 = .ok (.iload 5, 2) := by decide +kernel
theorem dX12_tree_55 : decode cX12_tree 55 = .ok (.iload_n 3, 1) := by decide +kernel
theorem dX12_tree_56 : decode cX12_tree 56 = .ok (.iastore, 1) := by decide +kernel
theorem dX12_tree_57 : decode cX12_tree 57 = .ok (.aload_n 0, 1) := by decide +kernel
theorem dX12_tree_58 : decode cX12_tree 58 = .ok (.getfield 109, 3) := by decide +kernel
theorem dX12_tree_61 : decode cX12_tree 61 = .ok (.iload 5, 2) := by decide +kernel
theorem dX12_tree_63 : decode cX12_tree 63 = .ok (.iload 4, 2) := by decide +kernel
theorem dX12_tree_65 : decode cX12_tree 65 = .ok (.bastore, 1) := by decide +kernel
theorem dX12_tree_66 : decode cX12_tree 66 = .ok (.iload 5, 2) := by decide +kernel
theorem dX12_tree_68 : decode cX12_tree 68 = .ok (.ireturn, 1) := by decide +kernel
theorem dX12_bind_0 : decode cX12_bind 0 = .ok (.aload_n 0, 1) := by decide +kernel
theorem dX12_bind_1 : decode cX12_bind 1 = .ok (.getfield 88, 3) := by decide +kernel
theorem dX12_bind_4 : decode cX12_bind 4 = .ok (.aload_n 0, 1) := by decide +kernel
theorem dX12_bind_5 : decode cX12_bind 5 = .ok (.getfield 373, 3) := by decide +kernel
theorem dX12_bind_8 : decode cX12_bind 8 = .ok (.iload_n 1, 1) := by decide +kernel
theorem dX12_bind_9 : decode cX12_bind 9 = .ok (.iastore, 1) := by decide +kernel
theorem dX12_bind_10 : decode cX12_bind 10 = .ok (.aload_n 0, 1) := by decide +kernel
theorem dX12_bind_11 : decode cX12_bind 11 = .ok (.getfield 91, 3) := by decide +kernel
theorem dX12_bind_14 : decode cX12_bind 14 = .ok (.aload_n 0, 1) := by decide +kernel
theorem dX12_bind_15 : decode cX12_bind 15 = .ok (.getfield 373, 3) := by decide +kernel
theorem dX12_bind_18 : decode cX12_bind 18 = .ok (.iload_n 2, 1) := by decide +kernel
theorem dX12_bind_19 : decode cX12_bind 19 = .ok (.iastore, 1) := by decide +kernel
theorem dX12_bind_20 : decode cX12_bind 20 = .ok (.aload_n 0, 1) := by decide +kernel
theorem dX12_bind_21 : decode cX12_bind 21 = .ok (.dup, 1) := by decide +kernel
theorem dX12_bind_22 : decode cX12_bind 22 = .ok (.getfield 373, 3) := by decide +kernel
theorem dX12_bind_25 : decode cX12_bind 25 = .ok (.iconst 1, 1) := by decide +kernel
theorem dX12_bind_26 : decode cX12_bind 26 = .ok (.iadd, 1) := by decide +kernel
theorem dX12_bind_27 : decode cX12_bind 27 = .ok (.putfield 373, 3) := by decide +kernel
theorem dX12_bind_30 : decode cX12_bind 30 = .ok (.return_, 1) := by decide +kernel
theorem dX12_quantified_0 : decode cX12_quantified 0 = .ok (.aload_n 0, 1) := by decide +kernel
theorem dX12_quantified_1 : decode cX12_quantified 1 = .ok (.dup, 1) := by decide +kernel
theorem dX12_quantified_2 : decode cX12_quantified 2 = .ok (.getfield 376, 3) := by decide +kernel
theorem dX12_quantified_5 : decode cX12_quantified 5 = .ok (.iconst 1, 1) := by decide +kernel
theorem dX12_quantified_6 : decode cX12_quantified 6 = .ok (.iadd, 1) := by decide +kernel
theorem dX12_quantified_7 : decode cX12_quantified 7 = .ok (.putfield 376, 3) := by decide +kernel
theorem dX12_quantified_10 : decode cX12_quantified 10 = .ok (.aload_n 0, 1) := by decide +kernel
theorem dX12_quantified_11 : decode cX12_quantified 11 = .ok (.aload_n 0, 1) := by decide +kernel
theorem dX12_quantified_12 : decode cX12_quantified 12 = .ok (.getfield 370, 3) := by decide +kernel
theorem dX12_quantified_15 : decode cX12_quantified 15 = .ok (.ifCond .ne 13, 3) := by decide +kernel
theorem dX12_quantified_18 : decode cX12_quantified 18 = .ok (.aload_n 0, 1) := by decide +kernel
theorem dX12_quantified_19 : decode cX12_quantified 19 = .ok (.getfield 376, 3) := by decide +kernel
theorem dX12_quantified_22 : decode cX12_quantified 22 = .ok (.sipush 3000, 3) := by decide +kernel
theorem dX12_quantified_25 : decode cX12_quantified 25 = .ok (.if_icmp .le 7, 3) := by decide +kernel
theorem dX12_quantified_28 : decode cX12_quantified 28 = .ok (.iconst 1, 1) := by decide +kernel
theorem dX12_quantified_29 : decode cX12_quantified 29 = .ok (.goto 4, 3) := by decide +kernel
theorem dX12_quantified_32 : decode cX12_quantified 32 = .ok (.iconst 0, 1) := by decide +kernel
theorem dX12_quantified_33 : decode cX12_quantified 33 = .ok (.putfield 370, 3) := by decide +kernel
theorem dX12_quantified_36 : decode cX12_quantified 36 = .ok (.aload_n 0, 1) := by decide +kernel
theorem dX12_quantified_37 : decode cX12_quantified 37 = .ok (.aload_n 0, 1) := by decide +kernel
theorem dX12_quantified_38 : decode cX12_quantified 38 = .ok (.getfield 61, 3) := by decide +kernel
theorem dX12_quantified_41 : decode cX12_quantified 41 = .ok (.iload_n 1, 1) := by decide +kernel
theorem dX12_quantified_42 : decode cX12_quantified 42 = .ok (.laload, 1) := by decide +kernel
theorem dX12_quantified_43 : decode cX12_quantified 43 = .ok (.invokevirtual 353, 3) := by decide +kernel
theorem dX12_quantified_46 : decode cX12_quantified 46 = .ok (.istore 4, 2) := by decide +kernel
theorem dX12_quantified_48 : decode cX12_quantified 48 = .ok (.aload_n 0, 1) := by decide +kernel
theorem dX12_quantified_49 : decode cX12_quantified 49 = .ok (.getfield 370, 3) := by decide +kernel
theorem dX12_quantified_52 : decode cX12_quantified 52 = .ok (.ifCond .eq 4, 3) := by decide +kernel
theorem dX12_quantified_55 : decode cX12_quantified 55 = .ok (.return_, 1) := by decide +kernel
theorem dX12_quantified_56 : decode cX12_quantified 56 = .ok (.iload_n 2, 1) := by decide +kernel
theorem dX12_quantified_57 : decode cX12_quantified 57 = .ok (.ifCond .eq 49, 3) := by decide +kernel
theorem dX12_quantified_60 : decode cX12_quantified 60 = .ok (.aload_n 0, 1) := by decide +kernel
theorem dX12_quantified_61 : decode cX12_quantified 61 = .ok (.iload 4, 2) := by decide +kernel
theorem dX12_quantified_63 : decode cX12_quantified 63 = .ok (.aload_n 0, 1) := by decide +kernel
theorem dX12_quantified_64 : decode cX12_quantified 64 = .ok (.getfield 379, 3) := by decide +kernel
theorem dX12_quantified_67 : decode cX12_quantified 67 = .ok (.invokevirtual 382, 3) := by decide +kernel
theorem dX12_quantified_70 : decode cX12_quantified 70 = .ok (.aload_n 0, 1) := by decide +kernel
theorem dX12_quantified_71 : decode cX12_quantified 71 = .ok (.getfield 97, 3) := by decide +kernel
theorem dX12_quantified_74 : decode cX12_quantified 74 = .ok (.aload_n 0, 1) := by decide +kernel
theorem dX12_quantified_75 : decode cX12_quantified 75 = .ok (.getfield 385, 3) := by decide +kernel
theorem dX12_quantified_78 : decode cX12_quantified 78 = .ok (.aload_n 0, 1) := by decide +kernel
theorem dX12_quantified_79 : decode cX12_quantified 79 = .ok (.getfield 379, 3) := by decide +kernel
theorem dX12_quantified_82 : decode cX12_quantified 82 = .ok (.iastore, 1) := by decide +kernel
theorem dX12_quantified_83 : decode cX12_quantified 83 = .ok (.aload_n 0, 1) := by decide +kernel
theorem dX12_quantified_84 : decode cX12_quantified 84 = .ok (.dup, 1) := by decide +kernel
theorem dX12_quantified_85 : decode cX12_quantified 85 = .ok (.getfield 379, 3) := by decide +kernel
theorem dX12_quantified_88 : decode cX12_quantified 88 = .ok (.iconst 1, 1) := by decide +kernel
theorem dX12_quantified_89 : decode cX12_quantified 89 = .ok (.iadd, 1) := by decide +kernel
theorem dX12_quantified_90 : decode cX12_quantified 90 = .ok (.putfield 379, 3) := by decide +kernel
theorem dX12_quantified_93 : decode cX12_quantified 93 = .ok (.aload_n 0, 1) := by decide +kernel
theorem dX12_quantified_94 : decode cX12_quantified 94 = .ok (.dup, 1) := by decide +kernel
theorem dX12_quantified_95 : decode cX12_quantified 95 = .ok (.getfield 385, 3) := by decide +kernel
theorem dX12_quantified_98 : decode cX12_quantified 98 = .ok (.iconst 1, 1) := by decide +kernel
theorem dX12_quantified_99 : decode cX12_quantified 99 = .ok (.iadd, 1) := by decide +kernel
theorem dX12_quantified_100 : decode cX12_quantified 100 = .ok (.putfield 385, 3) := by decide +kernel
theorem dX12_quantified_103 : decode cX12_quantified 103 = .ok (.goto 100, 3) := by decide +kernel
theorem dX12_quantified_106 : decode cX12_quantified 106 = .ok (.aload_n 0, 1) := by decide +kernel
theorem dX12_quantified_107 : decode cX12_quantified 107 = .ok (.getfield 385, 3) := by decide +kernel
theorem dX12_quantified_110 : decode cX12_quantified 110 = .ok (.iconst 5, 1) := by decide +kernel
theorem dX12_quantified_111 : decode cX12_quantified 111 = .ok (.if_icmp .le 9, 3) := by decide +kernel
theorem dX12_quantified_114 : decode cX12_quantified 114 = .ok (.aload_n 0, 1) := by decide +kernel
theorem dX12_quantified_115 : decode cX12_quantified 115 = .ok (.iconst 1, 1) := by decide +kernel
theorem dX12_quantified_116 : decode cX12_quantified 116 = .ok (.putfield 370, 3) := by decide +kernel
theorem dX12_quantified_119 : decode cX12_quantified 119 = .ok (.return_, 1) := by decide +kernel
theorem dX12_quantified_120 : decode cX12_quantified 120 = .ok (.iconst 0, 1) := by decide +kernel
theorem dX12_quantified_121 : decode cX12_quantified 121 = .ok (.istore 5, 2) := by decide +kernel
theorem dX12_quantified_123 : decode cX12_quantified 123 = .ok (.iload 5, 2) := by decide +kernel
theorem dX12_quantified_125 : decode cX12_quantified 125 = .ok (.aload_n 0, 1) := by decide +kernel
theorem dX12_quantified_126 : decode cX12_quantified 126 = .ok (.getfield 385, 3) := by decide +kernel
theorem dX12_quantified_129 : decode cX12_quantified 129 = .ok (.if_icmp .ge 35, 3) := by decide +kernel
theorem dX12_quantified_132 : decode cX12_quantified 132 = .ok (.aload_n 0, 1) := by decide +kernel
theorem dX12_quantified_133 : decode cX12_quantified 133 = .ok (.getfield 115, 3) := by decide +kernel
theorem dX12_quantified_136 : decode cX12_quantified 136 = .ok (.iconst 5, 1) := by decide +kernel
theorem dX12_quantified_137 : decode cX12_quantified 137 = .ok (.aload_n 0, 1) := by decide +kernel
theorem dX12_quantified_138 : decode cX12_quantified 138 = .ok (.getfield 388, 3) := by decide +kernel
theorem dX12_quantified_141 : decode cX12_quantified 141 = .ok (.aload_n 0, 1) := by decide +kernel
theorem dX12_quantified_142 : decode cX12_quantified 142 = .ok (.getfield 391, 3) := by decide +kernel
theorem dX12_quantified_145 : decode cX12_quantified 145 = .ok (.isub, 1) := by decide +kernel
theorem dX12_quantified_146 : decode cX12_quantified 146 = .ok (.imul, 1) := by decide +kernel
theorem dX12_quantified_147 : decode cX12_quantified 147 = .ok (.iload 5, 2) := by decide +kernel
theorem dX12_quantified_149 : decode cX12_quantified 149 = .ok (.iadd, 1) := by decide +kernel
theorem dX12_quantified_150 : decode cX12_quantified 150 = .ok (.aload_n 0, 1) := by decide +kernel
theorem dX12_quantified_151 : decode cX12_quantified 151 = .ok (.getfield 97, 3) := by decide +kernel
theorem dX12_quantified_154 : decode cX12_quantified 154 = .ok (.iload 5, 2) := by decide +kernel
theorem dX12_quantified_156 : decode cX12_quantified 156 = .ok (.iaload, 1) := by decide +kernel
theorem dX12_quantified_157 : decode cX12_quantified 157 = .ok (.iastore, 1) := by decide +kernel
theorem dX12_quantified_158 : decode cX12_quantified 158 = .ok (.iinc 5 1, 3) := by decide +kernel
theorem dX12_quantified_161 : decode cX12_quantified 161 = .ok (.goto (-38), 3) := by decide +kernel
theorem dX12_quantified_164 : decode cX12_quantified 164 = .ok (.aload_n 0, 1) := by decide +kernel
theorem dX12_quantified_165 : decode cX12_quantified 165 = .ok (.getfield 25, 3) := by decide +kernel
theorem dX12_quantified_168 : decode cX12_quantified 168 = .ok (.aload_n 0, 1) := by decide +kernel
theorem dX12_quantified_169 : decode cX12_quantified 169 = .ok (.getfield 388, 3) := by decide +kernel
theorem dX12_quantified_172 : decode cX12_quantified 172 = .ok (.aload_n 0, 1) := by decide +kernel
theorem dX12_quantified_173 : decode cX12_quantified 173 = .ok (.getfield 391, 3) := by decide +kernel
theorem dX12_quantified_176 : decode cX12_quantified 176 = .ok (.isub, 1) := by decide +kernel
theorem dX12_quantified_177 : decode cX12_quantified 177 = .ok (.aload_n 0, 1) := by decide +kernel
theorem dX12_quantified_178 : decode cX12_quantified 178 = .ok (.getfield 385, 3) := by decide +kernel
theorem dX12_quantified_181 : decode cX12_quantified 181 = .ok (.iastore, 1) := by decide +kernel
theorem dX12_quantified_182 : decode cX12_quantified 182 = .ok (.aload_n 0, 1) := by decide +kernel
theorem dX12_quantified_183 : decode cX12_quantified 183 = .ok (.dup, 1) := by decide +kernel
theorem dX12_quantified_184 : decode cX12_quantified 184 = .ok (.getfield 388, 3) := by decide +kernel
theorem dX12_quantified_187 : decode cX12_quantified 187 = .ok (.iconst 1, 1) := by decide +kernel
theorem dX12_quantified_188 : decode cX12_quantified 188 = .ok (.iadd, 1) := by decide +kernel
theorem dX12_quantified_189 : decode cX12_quantified 189 = .ok (.putfield 388, 3) := by decide +kernel
theorem dX12_quantified_192 : decode cX12_quantified 192 = .ok (.aload_n 0, 1) := by decide +kernel
theorem dX12_quantified_193 : decode cX12_quantified 193 = .ok (.iload 4, 2) := by decide +kernel
theorem dX12_quantified_195 : decode cX12_quantified 195 = .ok (.aload_n 0, 1) := by decide +kernel
theorem dX12_quantified_196 : decode cX12_quantified 196 = .ok (.getfield 388, 3) := by decide +kernel
theorem dX12_quantified_199 : decode cX12_quantified 199 = .ok (.ineg, 1) := by decide +kernel
theorem dX12_quantified_200 : decode cX12_quantified 200 = .ok (.invokevirtual 382, 3) := by decide +kernel
theorem dX12_quantified_203 : decode cX12_quantified 203 = .ok (.aload_n 0, 1) := by decide +kernel
theorem dX12_quantified_204 : decode cX12_quantified 204 = .ok (.iload_n 2, 1) := by decide +kernel
theorem dX12_quantified_205 : decode cX12_quantified 205 = .ok (.ifCond .eq 8, 3) := by decide +kernel
theorem dX12_quantified_208 : decode cX12_quantified 208 = .ok (.bipush 24, 2) := by decide +kernel
theorem dX12_quantified_210 : decode cX12_quantified 210 = .ok (.goto 5, 3) := by decide +kernel
theorem dX12_quantified_213 : decode cX12_quantified 213 = .ok (.bipush 25, 2) := by decide +kernel
theorem dX12_quantified_215 : decode cX12_quantified 215 = .ok (.iconst 0, 1) := by decide +kernel
theorem dX12_quantified_216 : decode cX12_quantified 216 = .ok (.invokevirtual 318, 3) := by decide +kernel
theorem dX12_quantified_219 : decode cX12_quantified 219 = .ok (.aload_n 0, 1) := by decide +kernel
theorem dX12_quantified_220 : decode cX12_quantified 220 = .ok (.iload_n 3, 1) := by decide +kernel
theorem dX12_quantified_221 : decode cX12_quantified 221 = .ok (.ifCond .eq 8, 3) := by decide +kernel
theorem dX12_quantified_224 : decode cX12_quantified 224 = .ok (.bipush 21, 2) := by decide +kernel
theorem dX12_quantified_226 : decode cX12_quantified 226 = .ok (.goto 5, 3) := by decide +kernel
theorem dX12_quantified_229 : decode cX12_quantified 229 = .ok (.bipush 20, 2) := by decide +kernel
theorem dX12_quantified_231 : decode cX12_quantified 231 = .ok (.aload_n 0, 1) := by decide +kernel
theorem dX12_quantified_232 : decode cX12_quantified 232 = .ok (.getfield 55, 3) := by decide +kernel
theorem dX12_quantified_235 : decode cX12_quantified 235 = .ok (.iload_n 1, 1) := by decide +kernel
theorem dX12_quantified_236 : decode cX12_quantified 236 = .ok (.iaload, 1) := by decide +kernel
theorem dX12_quantified_237 : decode cX12_quantified 237 = .ok (.invokevirtual 318, 3) := by decide +kernel
theorem dX12_quantified_240 : decode cX12_quantified 240 = .ok (.return_, 1) := by decide +kernel
theorem dX12_bare_0 : decode cX12_bare 0 = .ok (.aload_n 0, 1) := by decide +kernel
theorem dX12_bare_1 : decode cX12_bare 1 = .ok (.iload_n 2, 1) := by decide +kernel
theorem dX12_bare_2 : decode cX12_bare 2 = .ok (.ifCond .eq 8, 3) := by decide +kernel
theorem dX12_bare_5 : decode cX12_bare 5 = .ok (.bipush 21, 2) := by decide +kernel
theorem dX12_bare_7 : decode cX12_bare 7 = .ok (.goto 5, 3) := by decide +kernel
theorem dX12_bare_10 : decode cX12_bare 10 = .ok (.bipush 20, 2) := by decide +kernel
theorem dX12_bare_12 : decode cX12_bare 12 = .ok (.iload_n 1, 1) := by decide +kernel
theorem dX12_bare_13 : decode cX12_bare 13 = .ok (.invokevirtual 318, 3) := by decide +kernel
theorem dX12_bare_16 : decode cX12_bare 16 = .ok (.return_, 1) := by decide +kernel
theorem dX12_join_0 : decode cX12_join 0 = .ok (.aload_n 0, 1) := by decide +kernel
theorem dX12_join_1 : decode cX12_join 1 = .ok (.iload_n 1, 1) := by decide +kernel
theorem dX12_join_2 : decode cX12_join 2 = .ok (.ifCond .eq 8, 3) := by decide +kernel
theorem dX12_join_5 : decode cX12_join 5 = .ok (.bipush 22, 2) := by decide +kernel
theorem dX12_join_7 : decode cX12_join 7 = .ok (.goto 5, 3) := by decide +kernel
theorem dX12_join_10 : decode cX12_join 10 = .ok (.bipush 23, 2) := by decide +kernel
theorem dX12_join_12 : decode cX12_join 12 = .ok (.iconst 0, 1) := by decide +kernel
theorem dX12_join_13 : decode cX12_join 13 = .ok (.invokevirtual 318, 3) := by decide +kernel
theorem dX12_join_16 : decode cX12_join 16 = .ok (.return_, 1) := by decide +kernel
theorem dX12_inside_0 : decode cX12_inside 0 = .ok (.aload_n 0, 1) := by decide +kernel
theorem dX12_inside_1 : decode cX12_inside 1 = .ok (.iconst 0, 1) := by decide +kernel
theorem dX12_inside_2 : decode cX12_inside 2 = .ok (.putfield 301, 3) := by decide +kernel
theorem dX12_inside_5 : decode cX12_inside 5 = .ok (.aload_n 0, 1) := by decide +kernel
theorem dX12_inside_6 : decode cX12_inside 6 = .ok (.iconst 0, 1) := by decide +kernel
theorem dX12_inside_7 : decode cX12_inside 7 = .ok (.putfield 304, 3) := by decide +kernel
theorem dX12_inside_10 : decode cX12_inside 10 = .ok (.aload_n 0, 1) := by decide +kernel
theorem dX12_inside_11 : decode cX12_inside 11 = .ok (.bipush 20, 2) := by decide +kernel
theorem dX12_inside_13 : decode cX12_inside 13 = .ok (.iload_n 1, 1) := by decide +kernel
theorem dX12_inside_14 : decode cX12_inside 14 = .ok (.invokevirtual 318, 3) := by decide +kernel
theorem dX12_inside_17 : decode cX12_inside 17 = .ok (.aload_n 0, 1) := by decide +kernel
theorem dX12_inside_18 : decode cX12_inside 18 = .ok (.getfield 301, 3) := by decide +kernel
theorem dX12_inside_21 : decode cX12_inside 21 = .ok (.ifCond .le 153, 3) := by decide +kernel
theorem dX12_inside_24 : decode cX12_inside 24 = .ok (.aload_n 0, 1) := by decide +kernel
theorem dX12_inside_25 : decode cX12_inside 25 = .ok (.getfield 370, 3) := by decide +kernel
theorem dX12_inside_28 : decode cX12_inside 28 = .ok (.ifCond .ne 146, 3) := by decide +kernel
theorem dX12_inside_31 : decode cX12_inside 31 = .ok (.aload_n 0, 1) := by decide +kernel
theorem dX12_inside_32 : decode cX12_inside 32 = .ok (.dup, 1) := by decide +kernel
theorem dX12_inside_33 : decode cX12_inside 33 = .ok (.getfield 301, 3) := by decide +kernel
theorem dX12_inside_36 : decode cX12_inside 36 = .ok (.iconst 1, 1) := by decide +kernel
theorem dX12_inside_37 : decode cX12_inside 37 = .ok (.isub, 1) := by decide +kernel
theorem dX12_inside_38 : decode cX12_inside 38 = .ok (.putfield 301, 3) := by decide +kernel
theorem dX12_inside_41 : decode cX12_inside 41 = .ok (.aload_n 0, 1) := by decide +kernel
theorem dX12_inside_42 : decode cX12_inside 42 = .ok (.getfield 70, 3) := by decide +kernel
theorem dX12_inside_45 : decode cX12_inside 45 = .ok (.aload_n 0, 1) := by decide +kernel
theorem dX12_inside_46 : decode cX12_inside 46 = .ok (.getfield 301, 3) := by decide +kernel
theorem dX12_inside_49 : decode cX12_inside 49 = .ok (.iaload, 1) := by decide +kernel
theorem dX12_inside_50 : decode cX12_inside 50 = .ok (.istore_n 2, 1) := by decide +kernel
theorem dX12_inside_51 : decode cX12_inside 51 = .ok (.iload_n 2, 1) := by decide +kernel
theorem dX12_inside_52 : decode cX12_inside 52 = .ok (.bipush 20, 2) := by decide +kernel
theorem dX12_inside_54 : decode cX12_inside 54 = .ok (.if_icmp .eq 9, 3) := by decide +kernel
theorem dX12_inside_57 : decode cX12_inside 57 = .ok (.iload_n 2, 1) := by decide +kernel
theorem dX12_inside_58 : decode cX12_inside 58 = .ok (.bipush 21, 2) := by decide +kernel
theorem dX12_inside_60 : decode cX12_inside 60 = .ok (.if_icmp .ne 30, 3) := by decide +kernel
theorem dX12_inside_63 : decode cX12_inside 63 = .ok (.aload_n 0, 1) := by decide +kernel
theorem dX12_inside_64 : decode cX12_inside 64 = .ok (.aload_n 0, 1) := by decide +kernel
theorem dX12_inside_65 : decode cX12_inside 65 = .ok (.getfield 73, 3) := by decide +kernel
theorem dX12_inside_68 : decode cX12_inside 68 = .ok (.aload_n 0, 1) := by decide +kernel
theorem dX12_inside_69 : decode cX12_inside 69 = .ok (.getfield 301, 3) := by decide +kernel
theorem dX12_inside_72 : decode cX12_inside 72 = .ok (.iaload, 1) := by decide +kernel
theorem dX12_inside_73 : decode cX12_inside 73 = .ok (.iload_n 2, 1) := by decide +kernel
theorem dX12_inside_74 : decode cX12_inside 74 = .ok (.bipush 21, 2) := by decide +kernel
theorem dX12_inside_76 : decode cX12_inside 76 = .ok (.if_icmp .ne 7, 3) := by decide +kernel
theorem dX12_inside_79 : decode cX12_inside 79 = .ok (.iconst 1, 1) := by decide +kernel
theorem dX12_inside_80 : decode cX12_inside 80 = .ok (.goto 4, 3) := by decide +kernel
theorem dX12_inside_83 : decode cX12_inside 83 = .ok (.iconst 0, 1) := by decide +kernel
theorem dX12_inside_84 : decode cX12_inside 84 = .ok (.invokevirtual 394, 3) := by decide +kernel
theorem dX12_inside_87 : decode cX12_inside 87 = .ok (.goto 84, 3) := by decide +kernel
theorem dX12_inside_90 : decode cX12_inside 90 = .ok (.iload_n 2, 1) := by decide +kernel
theorem dX12_inside_91 : decode cX12_inside 91 = .ok (.bipush 22, 2) := by decide +kernel
theorem dX12_inside_93 : decode cX12_inside 93 = .ok (.if_icmp .eq 9, 3) := by decide +kernel
theorem dX12_inside_96 : decode cX12_inside 96 = .ok (.iload_n 2, 1) := by decide +kernel
theorem dX12_inside_97 : decode cX12_inside 97 = .ok (.bipush 23, 2) := by decide +kernel
theorem dX12_inside_99 : decode cX12_inside 99 = .ok (.if_icmp .ne 42, 3) := by decide +kernel
theorem dX12_inside_102 : decode cX12_inside 102 = .ok (.aload_n 0, 1) := by decide +kernel
theorem dX12_inside_103 : decode cX12_inside 103 = .ok (.invokevirtual 307, 3) := by decide +kernel
theorem dX12_inside_106 : decode cX12_inside 106 = .ok (.istore_n 3, 1) := by decide +kernel
theorem dX12_inside_107 : decode cX12_inside 107 = .ok (.aload_n 0, 1) := by decide +kernel
theorem dX12_inside_108 : decode cX12_inside 108 = .ok (.invokevirtual 307, 3) := by decide +kernel
theorem dX12_inside_111 : decode cX12_inside 111 = .ok (.istore 4, 2) := by decide +kernel
theorem dX12_inside_113 : decode cX12_inside 113 = .ok (.aload_n 0, 1) := by decide +kernel
theorem dX12_inside_114 : decode cX12_inside 114 = .ok (.aload_n 0, 1) := by decide +kernel
theorem dX12_inside_115 : decode cX12_inside 115 = .ok (.iload_n 2, 1) := by decide +kernel
theorem dX12_inside_116 : decode cX12_inside 116 = .ok (.bipush 22, 2) := by decide +kernel
theorem dX12_inside_118 : decode cX12_inside 118 = .ok (.if_icmp .ne 8, 3) := by decide +kernel
theorem dX12_inside_121 : decode cX12_inside 121 = .ok (.bipush 9, 2) := by decide +kernel
theorem dX12_inside_123 : decode cX12_inside 123 = .ok (.goto 5, 3) := by decide +kernel
theorem dX12_inside_126 : decode cX12_inside 126 = .ok (.bipush 10, 2) := by decide +kernel
theorem dX12_inside_128 : decode cX12_inside 128 = .ok (.iload 4, 2) := by decide +kernel
theorem dX12_inside_130 : decode cX12_inside 130 = .ok (.iload_n 3, 1) := by decide +kernel
theorem dX12_inside_131 : decode cX12_inside 131 = .ok (.iconst 0, 1) := by decide +kernel
theorem dX12_inside_132 : decode cX12_inside 132 = .ok (.invokevirtual 398, 3) := by decide +kernel
theorem dX12_inside_135 : decode cX12_inside 135 = .ok (.invokevirtual 314, 3) := by decide +kernel
theorem dX12_inside_138 : decode cX12_inside 138 = .ok (.goto 33, 3) := by decide +kernel
theorem dX12_inside_141 : decode cX12_inside 141 = .ok (.aload_n 0, 1) := by decide +kernel
theorem dX12_inside_142 : decode cX12_inside 142 = .ok (.dup, 1) := by decide +kernel
theorem dX12_inside_143 : decode cX12_inside 143 = .ok (.getfield 373, 3) := by decide +kernel
theorem dX12_inside_146 : decode cX12_inside 146 = .ok (.iconst 1, 1) := by decide +kernel
theorem dX12_inside_147 : decode cX12_inside 147 = .ok (.isub, 1) := by decide +kernel
theorem dX12_inside_148 : decode cX12_inside 148 = .ok (.putfield 373, 3) := by decide +kernel
theorem dX12_inside_151 : decode cX12_inside 151 = .ok (.aload_n 0, 1) := by decide +kernel
theorem dX12_inside_152 : decode cX12_inside 152 = .ok (.dup, 1) := by decide +kernel
theorem dX12_inside_153 : decode cX12_inside 153 = .ok (.getfield 385, 3) := by decide +kernel
theorem dX12_inside_156 : decode cX12_inside 156 = .ok (.iload_n 2, 1) := by decide +kernel
theorem dX12_inside_157 : decode cX12_inside 157 = .ok (.bipush 24, 2) := by decide +kernel
theorem dX12_inside_159 : decode cX12_inside 159 = .ok (.if_icmp .ne 7, 3) := by decide +kernel
theorem dX12_inside_162 : decode cX12_inside 162 = .ok (.iconst 1, 1) := by decide +kernel
theorem dX12_inside_163 : decode cX12_inside 163 = .ok (.goto 4, 3) := by decide +kernel
theorem dX12_inside_166 : decode cX12_inside 166 = .ok (.iconst 0, 1) := by decide +kernel
theorem dX12_inside_167 : decode cX12_inside 167 = .ok (.isub, 1) := by decide +kernel
theorem dX12_inside_168 : decode cX12_inside 168 = .ok (.putfield 385, 3) := by decide +kernel
theorem dX12_inside_171 : decode cX12_inside 171 = .ok (.goto (-154), 3) := by decide +kernel
theorem dX12_inside_174 : decode cX12_inside 174 = .ok (.aload_n 0, 1) := by decide +kernel
theorem dX12_inside_175 : decode cX12_inside 175 = .ok (.getfield 370, 3) := by decide +kernel
theorem dX12_inside_178 : decode cX12_inside 178 = .ok (.ifCond .eq 7, 3) := by decide +kernel
theorem dX12_inside_181 : decode cX12_inside 181 = .ok (.iconst 0, 1) := by decide +kernel
theorem dX12_inside_182 : decode cX12_inside 182 = .ok (.goto 7, 3) := by decide +kernel
theorem dX12_inside_185 : decode cX12_inside 185 = .ok (.aload_n 0, 1) := by decide +kernel
theorem dX12_inside_186 : decode cX12_inside 186 = .ok (.invokevirtual 307, 3) := by decide +kernel
theorem dX12_inside_189 : decode cX12_inside 189 = .ok (.ireturn, 1) := by decide +kernel
theorem dX12_goInside_0 : decode cX12_goInside 0 = .ok (.aload_n 0, 1) := by decide +kernel
theorem dX12_goInside_1 : decode cX12_goInside 1 = .ok (.getfield 55, 3) := by decide +kernel
theorem dX12_goInside_4 : decode cX12_goInside 4 = .ok (.iload_n 1, 1) := by decide +kernel
theorem dX12_goInside_5 : decode cX12_goInside 5 = .ok (.iaload, 1) := by decide +kernel
theorem dX12_goInside_6 : decode cX12_goInside 6 = .ok (.istore_n 3, 1) := by decide +kernel
theorem dX12_goInside_7 : decode cX12_goInside 7 = .ok (.aload_n 0, 1) := by decide +kernel
theorem dX12_goInside_8 : decode cX12_goInside 8 = .ok (.getfield 58, 3) := by decide +kernel
theorem dX12_goInside_11 : decode cX12_goInside 11 = .ok (.iload_n 1, 1) := by decide +kernel
theorem dX12_goInside_12 : decode cX12_goInside 12 = .ok (.iaload, 1) := by decide +kernel
theorem dX12_goInside_13 : decode cX12_goInside 13 = .ok (.istore 4, 2) := by decide +kernel
theorem dX12_goInside_15 : decode cX12_goInside 15 = .ok (.aload_n 0, 1) := by decide +kernel
theorem dX12_goInside_16 : decode cX12_goInside 16 = .ok (.getfield 52, 3) := by decide +kernel
theorem dX12_goInside_19 : decode cX12_goInside 19 = .ok (.iload_n 1, 1) := by decide +kernel
theorem dX12_goInside_20 : decode cX12_goInside 20 = .ok (.iaload, 1) := by decide +kernel
theorem dX12_goInside_21 : decode cX12_goInside 21 = .ok (.tableswitch 230 8 14 #[43, 60, 60, 202, 220, 105, 134], 43) := by decide +kernel
theorem dX12_goInside_64 : decode cX12_goInside 64 = .ok (.aload_n 0, 1) := by decide +kernel
theorem dX12_goInside_65 : decode cX12_goInside 65 = .ok (.iload_n 3, 1) := by decide +kernel
theorem dX12_goInside_66 : decode cX12_goInside 66 = .ok (.iload_n 2, 1) := by decide +kernel
theorem dX12_goInside_67 : decode cX12_goInside 67 = .ok (.ifCond .ne 7, 3) := by decide +kernel
theorem dX12_goInside_70 : decode cX12_goInside 70 = .ok (.iconst 1, 1) := by decide +kernel
theorem dX12_goInside_71 : decode cX12_goInside 71 = .ok (.goto 4, 3) := by decide +kernel
theorem dX12_goInside_74 : decode cX12_goInside 74 = .ok (.iconst 0, 1) := by decide +kernel
theorem dX12_goInside_75 : decode cX12_goInside 75 = .ok (.invokevirtual 402, 3) := by decide +kernel
theorem dX12_goInside_78 : decode cX12_goInside 78 = .ok (.goto 183, 3) := by decide +kernel
theorem dX12_goInside_81 : decode cX12_goInside 81 = .ok (.aload_n 0, 1) := by decide +kernel
theorem dX12_goInside_82 : decode cX12_goInside 82 = .ok (.aload_n 0, 1) := by decide +kernel
theorem dX12_goInside_83 : decode cX12_goInside 83 = .ok (.getfield 52, 3) := by decide +kernel
theorem dX12_goInside_86 : decode cX12_goInside 86 = .ok (.iload_n 1, 1) := by decide +kernel
theorem dX12_goInside_87 : decode cX12_goInside 87 = .ok (.iaload, 1) := by decide +kernel
theorem dX12_goInside_88 : decode cX12_goInside 88 = .ok (.bipush 9, 2) := by decide +kernel
theorem dX12_goInside_90 : decode cX12_goInside 90 = .ok (.if_icmp .ne 7, 3) := by decide +kernel
theorem dX12_goInside_93 : decode cX12_goInside 93 = .ok (.iconst 1, 1) := by decide +kernel
theorem dX12_goInside_94 : decode cX12_goInside 94 = .ok (.goto 4, 3) := by decide +kernel
theorem dX12_goInside_97 : decode cX12_goInside 97 = .ok (.iconst 0, 1) := by decide +kernel
theorem dX12_goInside_98 : decode cX12_goInside 98 = .ok (.iload_n 2, 1) := by decide +kernel
theorem dX12_goInside_99 : decode cX12_goInside 99 = .ok (.if_icmp .eq 7, 3) := by decide +kernel
theorem dX12_goInside_102 : decode cX12_goInside 102 = .ok (.iconst 1, 1) := by decide +kernel
theorem dX12_goInside_103 : decode cX12_goInside 103 = .ok (.goto 4, 3) := by decide +kernel
theorem dX12_goInside_106 : decode cX12_goInside 106 = .ok (.iconst 0, 1) := by decide +kernel
theorem dX12_goInside_107 : decode cX12_goInside 107 = .ok (.invokevirtual 405, 3) := by decide +kernel
theorem dX12_goInside_110 : decode cX12_goInside 110 = .ok (.aload_n 0, 1) := by decide +kernel
theorem dX12_goInside_111 : decode cX12_goInside 111 = .ok (.iload 4, 2) := by decide +kernel
theorem dX12_goInside_113 : decode cX12_goInside 113 = .ok (.iload_n 2, 1) := by decide +kernel
theorem dX12_goInside_114 : decode cX12_goInside 114 = .ok (.invokevirtual 402, 3) := by decide +kernel
theorem dX12_goInside_117 : decode cX12_goInside 117 = .ok (.aload_n 0, 1) := by decide +kernel
theorem dX12_goInside_118 : decode cX12_goInside 118 = .ok (.iload_n 3, 1) := by decide +kernel
theorem dX12_goInside_119 : decode cX12_goInside 119 = .ok (.iload_n 2, 1) := by decide +kernel
theorem dX12_goInside_120 : decode cX12_goInside 120 = .ok (.invokevirtual 402, 3) := by decide +kernel
theorem dX12_goInside_123 : decode cX12_goInside 123 = .ok (.goto 138, 3) := by decide +kernel
theorem dX12_goInside_126 : decode cX12_goInside 126 = .ok (.aload_n 0, 1) := by decide +kernel
theorem dX12_goInside_127 : decode cX12_goInside 127 = .ok (.iload_n 2, 1) := by decide +kernel
theorem dX12_goInside_128 : decode cX12_goInside 128 = .ok (.invokevirtual 405, 3) := by decide +kernel
theorem dX12_goInside_131 : decode cX12_goInside 131 = .ok (.aload_n 0, 1) := by decide +kernel
theorem dX12_goInside_132 : decode cX12_goInside 132 = .ok (.iload 4, 2) := by decide +kernel
theorem dX12_goInside_134 : decode cX12_goInside 134 = .ok (.iload_n 2, 1) := by decide +kernel
theorem dX12_goInside_135 : decode cX12_goInside 135 = .ok (.invokevirtual 402, 3) := by decide +kernel
theorem dX12_goInside_138 : decode cX12_goInside 138 = .ok (.aload_n 0, 1) := by decide +kernel
theorem dX12_goInside_139 : decode cX12_goInside 139 = .ok (.iload_n 3, 1) := by decide +kernel
theorem dX12_goInside_140 : decode cX12_goInside 140 = .ok (.iload_n 2, 1) := by decide +kernel
theorem dX12_goInside_141 : decode cX12_goInside 141 = .ok (.ifCond .ne 7, 3) := by decide +kernel
theorem dX12_goInside_144 : decode cX12_goInside 144 = .ok (.iconst 1, 1) := by decide +kernel
theorem dX12_goInside_145 : decode cX12_goInside 145 = .ok (.goto 4, 3) := by decide +kernel
theorem dX12_goInside_148 : decode cX12_goInside 148 = .ok (.iconst 0, 1) := by decide +kernel
theorem dX12_goInside_149 : decode cX12_goInside 149 = .ok (.invokevirtual 402, 3) := by decide +kernel
theorem dX12_goInside_152 : decode cX12_goInside 152 = .ok (.goto 109, 3) := by decide +kernel
theorem dX12_goInside_155 : decode cX12_goInside 155 = .ok (.aload_n 0, 1) := by decide +kernel
theorem dX12_goInside_156 : decode cX12_goInside 156 = .ok (.iload_n 2, 1) := by decide +kernel
theorem dX12_goInside_157 : decode cX12_goInside 157 = .ok (.ifCond .ne 7, 3) := by decide +kernel
theorem dX12_goInside_160 : decode cX12_goInside 160 = .ok (.iconst 1, 1) := by decide +kernel
theorem dX12_goInside_161 : decode cX12_goInside 161 = .ok (.goto 4, 3) := by decide +kernel
theorem dX12_goInside_164 : decode cX12_goInside 164 = .ok (.iconst 0, 1) := by decide +kernel
theorem dX12_goInside_165 : decode cX12_goInside 165 = .ok (.invokevirtual 405, 3) := by decide +kernel
theorem dX12_goInside_168 : decode cX12_goInside 168 = .ok (.aload_n 0, 1) := by decide +kernel
theorem dX12_goInside_169 : decode cX12_goInside 169 = .ok (.iload_n 2, 1) := by decide +kernel
theorem dX12_goInside_170 : decode cX12_goInside 170 = .ok (.invokevirtual 405, 3) := by decide +kernel
theorem dX12_goInside_173 : decode cX12_goInside 173 = .ok (.aload_n 0, 1) := by decide +kernel
theorem dX12_goInside_174 : decode cX12_goInside 174 = .ok (.iload_n 3, 1) := by decide +kernel
theorem dX12_goInside_175 : decode cX12_goInside 175 = .ok (.iload_n 2, 1) := by decide +kernel
theorem dX12_goInside_176 : decode cX12_goInside 176 = .ok (.invokevirtual 402, 3) := by decide +kernel
theorem dX12_goInside_179 : decode cX12_goInside 179 = .ok (.aload_n 0, 1) := by decide +kernel
theorem dX12_goInside_180 : decode cX12_goInside 180 = .ok (.iload 4, 2) := by decide +kernel
theorem dX12_goInside_182 : decode cX12_goInside 182 = .ok (.iload_n 2, 1) := by decide +kernel
theorem dX12_goInside_183 : decode cX12_goInside 183 = .ok (.ifCond .ne 7, 3) := by decide +kernel
theorem dX12_goInside_186 : decode cX12_goInside 186 = .ok (.iconst 1, 1) := by decide +kernel
theorem dX12_goInside_187 : decode cX12_goInside 187 = .ok (.goto 4, 3) := by decide +kernel
theorem dX12_goInside_190 : decode cX12_goInside 190 = .ok (.iconst 0, 1) := by decide +kernel
theorem dX12_goInside_191 : decode cX12_goInside 191 = .ok (.invokevirtual 402, 3) := by decide +kernel
theorem dX12_goInside_194 : decode cX12_goInside 194 = .ok (.aload_n 0, 1) := by decide +kernel
theorem dX12_goInside_195 : decode cX12_goInside 195 = .ok (.iload_n 2, 1) := by decide +kernel
theorem dX12_goInside_196 : decode cX12_goInside 196 = .ok (.invokevirtual 405, 3) := by decide +kernel
theorem dX12_goInside_199 : decode cX12_goInside 199 = .ok (.aload_n 0, 1) := by decide +kernel
theorem dX12_goInside_200 : decode cX12_goInside 200 = .ok (.iload 4, 2) := by decide +kernel
theorem dX12_goInside_202 : decode cX12_goInside 202 = .ok (.iload_n 2, 1) := by decide +kernel
theorem dX12_goInside_203 : decode cX12_goInside 203 = .ok (.invokevirtual 402, 3) := by decide +kernel
theorem dX12_goInside_206 : decode cX12_goInside 206 = .ok (.aload_n 0, 1) := by decide +kernel
theorem dX12_goInside_207 : decode cX12_goInside 207 = .ok (.iload_n 3, 1) := by decide +kernel
theorem dX12_goInside_208 : decode cX12_goInside 208 = .ok (.iload_n 2, 1) := by decide +kernel
theorem dX12_goInside_209 : decode cX12_goInside 209 = .ok (.ifCond .ne 7, 3) := by decide +kernel
theorem dX12_goInside_212 : decode cX12_goInside 212 = .ok (.iconst 1, 1) := by decide +kernel
theorem dX12_goInside_213 : decode cX12_goInside 213 = .ok (.goto 4, 3) := by decide +kernel
theorem dX12_goInside_216 : decode cX12_goInside 216 = .ok (.iconst 0, 1) := by decide +kernel
theorem dX12_goInside_217 : decode cX12_goInside 217 = .ok (.invokevirtual 402, 3) := by decide +kernel
theorem dX12_goInside_220 : decode cX12_goInside 220 = .ok (.goto 41, 3) := by decide +kernel
theorem dX12_goInside_223 : decode cX12_goInside 223 = .ok (.aload_n 0, 1) := by decide +kernel
theorem dX12_goInside_224 : decode cX12_goInside 224 = .ok (.iload_n 1, 1) := by decide +kernel
theorem dX12_goInside_225 : decode cX12_goInside 225 = .ok (.iload_n 2, 1) := by decide +kernel
theorem dX12_goInside_226 : decode cX12_goInside 226 = .ok (.ifCond .ne 7, 3) := by decide +kernel
theorem dX12_goInside_229 : decode cX12_goInside 229 = .ok (.iconst 1, 1) := by decide +kernel
theorem dX12_goInside_230 : decode cX12_goInside 230 = .ok (.goto 4, 3) := by decide +kernel
theorem dX12_goInside_233 : decode cX12_goInside 233 = .ok (.iconst 0, 1) := by decide +kernel
theorem dX12_goInside_234 : decode cX12_goInside 234 = .ok (.iload_n 2, 1) := by decide +kernel
theorem dX12_goInside_235 : decode cX12_goInside 235 = .ok (.invokevirtual 409, 3) := by decide +kernel
theorem dX12_goInside_238 : decode cX12_goInside 238 = .ok (.goto 23, 3) := by decide +kernel
theorem dX12_goInside_241 : decode cX12_goInside 241 = .ok (.aload_n 0, 1) := by decide +kernel
theorem dX12_goInside_242 : decode cX12_goInside 242 = .ok (.iload_n 1, 1) := by decide +kernel
theorem dX12_goInside_243 : decode cX12_goInside 243 = .ok (.iload_n 2, 1) := by decide +kernel
theorem dX12_goInside_244 : decode cX12_goInside 244 = .ok (.iload_n 2, 1) := by decide +kernel
theorem dX12_goInside_245 : decode cX12_goInside 245 = .ok (.invokevirtual 409, 3) := by decide +kernel
theorem dX12_goInside_248 : decode cX12_goInside 248 = .ok (.goto 13, 3) := by decide +kernel
theorem dX12_goInside_251 : decode cX12_goInside 251 = .ok (.aload_n 0, 1) := by decide +kernel
theorem dX12_goInside_252 : decode cX12_goInside 252 = .ok (.aload_n 0, 1) := by decide +kernel
theorem dX12_goInside_253 : decode cX12_goInside 253 = .ok (.iload_n 1, 1) := by decide +kernel
theorem dX12_goInside_254 : decode cX12_goInside 254 = .ok (.iload_n 2, 1) := by decide +kernel
theorem dX12_goInside_255 : decode cX12_goInside 255 = .ok (.invokevirtual 413, 3) := by decide +kernel
theorem dX12_goInside_258 : decode cX12_goInside 258 = .ok (.invokevirtual 314, 3) := by decide +kernel
theorem dX12_goInside_261 : decode cX12_goInside 261 = .ok (.return_, 1) := by decide +kernel
theorem dX12_symbol_0 : decode cX12_symbol 0 = .ok (.aload_n 0, 1) := by decide +kernel
theorem dX12_symbol_1 : decode cX12_symbol 1 = .ok (.getfield 417, 3) := by decide +kernel
theorem dX12_symbol_4 : decode cX12_symbol 4 = .ok (.sipush 24000, 3) := by decide +kernel
theorem dX12_symbol_7 : decode cX12_symbol 7 = .ok (.if_icmp .ge 26, 3) := by decide +kernel
theorem dX12_symbol_10 : decode cX12_symbol 10 = .ok (.aload_n 0, 1) := by decide +kernel
theorem dX12_symbol_11 : decode cX12_symbol 11 = .ok (.getfield 112, 3) := by decide +kernel
theorem dX12_symbol_14 : decode cX12_symbol 14 = .ok (.aload_n 0, 1) := by decide +kernel
theorem dX12_symbol_15 : decode cX12_symbol 15 = .ok (.getfield 417, 3) := by decide +kernel
theorem dX12_symbol_18 : decode cX12_symbol 18 = .ok (.iload_n 1, 1) := by decide +kernel
theorem dX12_symbol_19 : decode cX12_symbol 19 = .ok (.iastore, 1) := by decide +kernel
theorem dX12_symbol_20 : decode cX12_symbol 20 = .ok (.aload_n 0, 1) := by decide +kernel
theorem dX12_symbol_21 : decode cX12_symbol 21 = .ok (.dup, 1) := by decide +kernel
theorem dX12_symbol_22 : decode cX12_symbol 22 = .ok (.getfield 417, 3) := by decide +kernel
theorem dX12_symbol_25 : decode cX12_symbol 25 = .ok (.iconst 1, 1) := by decide +kernel
theorem dX12_symbol_26 : decode cX12_symbol 26 = .ok (.iadd, 1) := by decide +kernel
theorem dX12_symbol_27 : decode cX12_symbol 27 = .ok (.putfield 417, 3) := by decide +kernel
theorem dX12_symbol_30 : decode cX12_symbol 30 = .ok (.goto 8, 3) := by decide +kernel
theorem dX12_symbol_33 : decode cX12_symbol 33 = .ok (.aload_n 0, 1) := by decide +kernel
theorem dX12_symbol_34 : decode cX12_symbol 34 = .ok (.iconst 1, 1) := by decide +kernel
theorem dX12_symbol_35 : decode cX12_symbol 35 = .ok (.putfield 370, 3) := by decide +kernel
theorem dX12_symbol_38 : decode cX12_symbol 38 = .ok (.return_, 1) := by decide +kernel
theorem dX12_literal_0 : decode cX12_literal 0 = .ok (.aload_n 0, 1) := by decide +kernel
theorem dX12_literal_1 : decode cX12_literal 1 = .ok (.getfield 417, 3) := by decide +kernel
theorem dX12_literal_4 : decode cX12_literal 4 = .ok (.istore_n 3, 1) := by decide +kernel
theorem dX12_literal_5 : decode cX12_literal 5 = .ok (.aload_n 0, 1) := by decide +kernel
theorem dX12_literal_6 : decode cX12_literal 6 = .ok (.dup, 1) := by decide +kernel
theorem dX12_literal_7 : decode cX12_literal 7 = .ok (.getfield 376, 3) := by decide +kernel
theorem dX12_literal_10 : decode cX12_literal 10 = .ok (.aload_n 0, 1) := by decide +kernel
theorem dX12_literal_11 : decode cX12_literal 11 = .ok (.getfield 58, 3) := by decide +kernel
theorem dX12_literal_14 : decode cX12_literal 14 = .ok (.iload_n 1, 1) := by decide +kernel
theorem dX12_literal_15 : decode cX12_literal 15 = .ok (.iaload, 1) := by decide +kernel
theorem dX12_literal_16 : decode cX12_literal 16 = .ok (.aload_n 0, 1) := by decide +kernel
theorem dX12_literal_17 : decode cX12_literal 17 = .ok (.getfield 55, 3) := by decide +kernel
theorem dX12_literal_20 : decode cX12_literal 20 = .ok (.iload_n 1, 1) := by decide +kernel
theorem dX12_literal_21 : decode cX12_literal 21 = .ok (.iaload, 1) := by decide +kernel
theorem dX12_literal_22 : decode cX12_literal 22 = .ok (.isub, 1) := by decide +kernel
theorem dX12_literal_23 : decode cX12_literal 23 = .ok (.iadd, 1) := by decide +kernel
theorem dX12_literal_24 : decode cX12_literal 24 = .ok (.putfield 376, 3) := by decide +kernel
theorem dX12_literal_27 : decode cX12_literal 27 = .ok (.aload_n 0, 1) := by decide +kernel
theorem dX12_literal_28 : decode cX12_literal 28 = .ok (.aload_n 0, 1) := by decide +kernel
theorem dX12_literal_29 : decode cX12_literal 29 = .ok (.getfield 370, 3) := by decide +kernel
theorem dX12_literal_32 : decode cX12_literal 32 = .ok (.ifCond .ne 13, 3) := by decide +kernel
theorem dX12_literal_35 : decode cX12_literal 35 = .ok (.aload_n 0, 1) := by decide +kernel
theorem dX12_literal_36 : decode cX12_literal 36 = .ok (.getfield 376, 3) := by decide +kernel
theorem dX12_literal_39 : decode cX12_literal 39 = .ok (.sipush 3000, 3) := by decide +kernel
theorem dX12_literal_42 : decode cX12_literal 42 = .ok (.if_icmp .le 7, 3) := by decide +kernel
theorem dX12_literal_45 : decode cX12_literal 45 = .ok (.iconst 1, 1) := by decide +kernel
theorem dX12_literal_46 : decode cX12_literal 46 = .ok (.goto 4, 3) := by decide +kernel
theorem dX12_literal_49 : decode cX12_literal 49 = .ok (.iconst 0, 1) := by decide +kernel
theorem dX12_literal_50 : decode cX12_literal 50 = .ok (.putfield 370, 3) := by decide +kernel
theorem dX12_literal_53 : decode cX12_literal 53 = .ok (.aload_n 0, 1) := by decide +kernel
theorem dX12_literal_54 : decode cX12_literal 54 = .ok (.getfield 55, 3) := by decide +kernel
theorem dX12_literal_57 : decode cX12_literal 57 = .ok (.iload_n 1, 1) := by decide +kernel
theorem dX12_literal_58 : decode cX12_literal 58 = .ok (.iaload, 1) := by decide +kernel
theorem dX12_literal_59 : decode cX12_literal 59 = .ok (.istore 4, 2) := by decide +kernel
theorem dX12_literal_61 : decode cX12_literal 61 = .ok (.iload 4, 2) := by decide +kernel
theorem dX12_literal_63 : decode cX12_literal 63 = .ok (.aload_n 0, 1) := by decide +kernel
theorem dX12_literal_64 : decode cX12_literal 64 = .ok (.getfield 58, 3) := by decide +kernel
theorem dX12_literal_67 : decode cX12_literal 67 = .ok (.iload_n 1, 1) := by decide +kernel
theorem dX12_literal_68 : decode cX12_literal 68 = .ok (.iaload, 1) := by decide +kernel
theorem dX12_literal_69 : decode cX12_literal 69 = .ok (.if_icmp .ge 163, 3) := by decide +kernel
theorem dX12_literal_72 : decode cX12_literal 72 = .ok (.aload_n 0, 1) := by decide +kernel
theorem dX12_literal_73 : decode cX12_literal 73 = .ok (.getfield 370, 3) := by decide +kernel
theorem dX12_literal_76 : decode cX12_literal 76 = .ok (.ifCond .ne 156, 3) := by decide +kernel
theorem dX12_literal_79 : decode cX12_literal 79 = .ok (.aload_n 0, 1) := by decide +kernel
theorem dX12_literal_80 : decode cX12_literal 80 = .ok (.getfield 64, 3) := by decide +kernel
theorem dX12_literal_83 : decode cX12_literal 83 = .ok (.iload 4, 2) := by decide +kernel
theorem dX12_literal_85 : decode cX12_literal 85 = .ok (.iaload, 1) := by decide +kernel
theorem dX12_literal_86 : decode cX12_literal 86 = .ok (.ifCond .lt 17, 3) := by decide +kernel
theorem dX12_literal_89 : decode cX12_literal 89 = .ok (.aload_n 0, 1) := by decide +kernel
theorem dX12_literal_90 : decode cX12_literal 90 = .ok (.aload_n 0, 1) := by decide +kernel
theorem dX12_literal_91 : decode cX12_literal 91 = .ok (.getfield 64, 3) := by decide +kernel
theorem dX12_literal_94 : decode cX12_literal 94 = .ok (.iload 4, 2) := by decide +kernel
theorem dX12_literal_96 : decode cX12_literal 96 = .ok (.iaload, 1) := by decide +kernel
theorem dX12_literal_97 : decode cX12_literal 97 = .ok (.invokevirtual 420, 3) := by decide +kernel
theorem dX12_literal_100 : decode cX12_literal 100 = .ok (.goto 126, 3) := by decide +kernel
theorem dX12_literal_103 : decode cX12_literal 103 = .ok (.aload_n 0, 1) := by decide +kernel
theorem dX12_literal_104 : decode cX12_literal 104 = .ok (.getfield 373, 3) := by decide +kernel
theorem dX12_literal_107 : decode cX12_literal 107 = .ok (.iconst 1, 1) := by decide +kernel
theorem dX12_literal_108 : decode cX12_literal 108 = .ok (.isub, 1) := by decide +kernel
theorem dX12_literal_109 : decode cX12_literal 109 = .ok (.istore 5, 2) := by decide +kernel
theorem dX12_literal_111 : decode cX12_literal 111 = .ok (.aload_n 0, 1) := by decide +kernel
theorem dX12_literal_112 : decode cX12_literal 112 = .ok (.getfield 88, 3) := by decide +kernel
theorem dX12_literal_115 : decode cX12_literal 115 = .ok (.iload 5, 2) := by decide +kernel
theorem dX12_literal_117 : decode cX12_literal 117 = .ok (.iaload, 1) := by decide +kernel
theorem dX12_literal_118 : decode cX12_literal 118 = .ok (.iconst (-1), 1) := by decide +kernel
theorem dX12_literal_119 : decode cX12_literal 119 = .ok (.aload_n 0, 1) := by decide +kernel
theorem dX12_literal_120 : decode cX12_literal 120 = .ok (.getfield 64, 3) := by decide +kernel
theorem dX12_literal_123 : decode cX12_literal 123 = .ok (.iload 4, 2) := by decide +kernel
theorem dX12_literal_125 : decode cX12_literal 125 = .ok (.iaload, 1) := by decide +kernel
theorem dX12_literal_126 : decode cX12_literal 126 = .ok (.isub, 1) := by decide +kernel
theorem dX12_literal_127 : decode cX12_literal 127 = .ok (.if_icmp .eq 9, 3) := by decide +kernel
theorem dX12_literal_130 : decode cX12_literal 130 = .ok (.iinc 5 (-1), 3) := by decide +kernel
theorem dX12_literal_133 : decode cX12_literal 133 = .ok (.goto (-22), 3) := by decide +kernel
theorem dX12_literal_136 : decode cX12_literal 136 = .ok (.aload_n 0, 1) := by decide +kernel
theorem dX12_literal_137 : decode cX12_literal 137 = .ok (.getfield 91, 3) := by decide +kernel
theorem dX12_literal_140 : decode cX12_literal 140 = .ok (.iload 5, 2) := by decide +kernel
theorem dX12_literal_142 : decode cX12_literal 142 = .ok (.iaload, 1) := by decide +kernel
theorem dX12_literal_143 : decode cX12_literal 143 = .ok (.istore 6, 2) := by decide +kernel
theorem dX12_literal_145 : decode cX12_literal 145 = .ok (.iload 6, 2) := by decide +kernel
theorem dX12_literal_147 : decode cX12_literal 147 = .ok (.ifCond .lt 14, 3) := by decide +kernel
theorem dX12_literal_150 : decode cX12_literal 150 = .ok (.aload_n 0, 1) := by decide +kernel
theorem dX12_literal_151 : decode cX12_literal 151 = .ok (.iconst (-1), 1) := by decide +kernel
theorem dX12_literal_152 : decode cX12_literal 152 = .ok (.iload 6, 2) := by decide +kernel
theorem dX12_literal_154 : decode cX12_literal 154 = .ok (.isub, 1) := by decide +kernel
theorem dX12_literal_155 : decode cX12_literal 155 = .ok (.invokevirtual 420, 3) := by decide +kernel
theorem dX12_literal_158 : decode cX12_literal 158 = .ok (.goto 68, 3) := by decide +kernel
theorem dX12_literal_161 : decode cX12_literal 161 = .ok (.iconst (-1), 1) := by decide +kernel
theorem dX12_literal_162 : decode cX12_literal 162 = .ok (.iload 6, 2) := by decide +kernel
theorem dX12_literal_164 : decode cX12_literal 164 = .ok (.isub, 1) := by decide +kernel
theorem dX12_literal_165 : decode cX12_literal 165 = .ok (.istore 7, 2) := by decide +kernel
theorem dX12_literal_167 : decode cX12_literal 167 = .ok (.aload_n 0, 1) := by decide +kernel
theorem dX12_literal_168 : decode cX12_literal 168 = .ok (.sipush 1000, 3) := by decide +kernel
theorem dX12_literal_171 : decode cX12_literal 171 = .ok (.iload 7, 2) := by decide +kernel
theorem dX12_literal_173 : decode cX12_literal 173 = .ok (.iadd, 1) := by decide +kernel
theorem dX12_literal_174 : decode cX12_literal 174 = .ok (.invokevirtual 420, 3) := by decide +kernel
theorem dX12_literal_177 : decode cX12_literal 177 = .ok (.iconst 0, 1) := by decide +kernel
theorem dX12_literal_178 : decode cX12_literal 178 = .ok (.istore 8, 2) := by decide +kernel
theorem dX12_literal_180 : decode cX12_literal 180 = .ok (.iload 8, 2) := by decide +kernel
theorem dX12_literal_182 : decode cX12_literal 182 = .ok (.aload_n 0, 1) := by decide +kernel
theorem dX12_literal_183 : decode cX12_literal 183 = .ok (.getfield 25, 3) := by decide +kernel
theorem dX12_literal_186 : decode cX12_literal 186 = .ok (.iload 7, 2) := by decide +kernel
theorem dX12_literal_188 : decode cX12_literal 188 = .ok (.aload_n 0, 1) := by decide +kernel
theorem dX12_literal_189 : decode cX12_literal 189 = .ok (.getfield 391, 3) := by decide +kernel
theorem dX12_literal_192 : decode cX12_literal 192 = .ok (.isub, 1) := by decide +kernel
theorem dX12_literal_193 : decode cX12_literal 193 = .ok (.iaload, 1) := by decide +kernel
theorem dX12_literal_194 : decode cX12_literal 194 = .ok (.if_icmp .ge 32, 3) := by decide +kernel
theorem dX12_literal_197 : decode cX12_literal 197 = .ok (.aload_n 0, 1) := by decide +kernel
theorem dX12_literal_198 : decode cX12_literal 198 = .ok (.iconst (-1), 1) := by decide +kernel
theorem dX12_literal_199 : decode cX12_literal 199 = .ok (.aload_n 0, 1) := by decide +kernel
theorem dX12_literal_200 : decode cX12_literal 200 = .ok (.getfield 115, 3) := by decide +kernel
theorem dX12_literal_203 : decode cX12_literal 203 = .ok (.iconst 5, 1) := by decide +kernel
theorem dX12_literal_204 : decode cX12_literal 204 = .ok (.iload 7, 2) := by decide +kernel
theorem dX12_literal_206 : decode cX12_literal 206 = .ok (.aload_n 0, 1) := by decide +kernel
theorem dX12_literal_207 : decode cX12_literal 207 = .ok (.getfield 391, 3) := by decide +kernel
theorem dX12_literal_210 : decode cX12_literal 210 = .ok (.isub, 1) := by decide +kernel
theorem dX12_literal_211 : decode cX12_literal 211 = .ok (.imul, 1) := by decide +kernel
theorem dX12_literal_212 : decode cX12_literal 212 = .ok (.iload 8, 2) := by decide +kernel
theorem dX12_literal_214 : decode cX12_literal 214 = .ok (.iadd, 1) := by decide +kernel
theorem dX12_literal_215 : decode cX12_literal 215 = .ok (.iaload, 1) := by decide +kernel
theorem dX12_literal_216 : decode cX12_literal 216 = .ok (.isub, 1) := by decide +kernel
theorem dX12_literal_217 : decode cX12_literal 217 = .ok (.invokevirtual 420, 3) := by decide +kernel
theorem dX12_literal_220 : decode cX12_literal 220 = .ok (.iinc 8 1, 3) := by decide +kernel
theorem dX12_literal_223 : decode cX12_literal 223 = .ok (.goto (-43), 3) := by decide +kernel
theorem dX12_literal_226 : decode cX12_literal 226 = .ok (.iinc 4 1, 3) := by decide +kernel
theorem dX12_literal_229 : decode cX12_literal 229 = .ok (.goto (-168), 3) := by decide +kernel
theorem dX12_literal_232 : decode cX12_literal 232 = .ok (.aload_n 0, 1) := by decide +kernel
theorem dX12_literal_233 : decode cX12_literal 233 = .ok (.bipush 15, 2) := by decide +kernel
theorem dX12_literal_235 : decode cX12_literal 235 = .ok (.iload_n 3, 1) := by decide +kernel
theorem dX12_literal_236 : decode cX12_literal 236 = .ok (.aload_n 0, 1) := by decide +kernel
theorem dX12_literal_237 : decode cX12_literal 237 = .ok (.getfield 417, 3) := by decide +kernel
theorem dX12_literal_240 : decode cX12_literal 240 = .ok (.iload_n 2, 1) := by decide +kernel
theorem dX12_literal_241 : decode cX12_literal 241 = .ok (.invokevirtual 398, 3) := by decide +kernel
theorem dX12_literal_244 : decode cX12_literal 244 = .ok (.ireturn, 1) := by decide +kernel
theorem dX12_newWay_0 : decode cX12_newWay 0 = .ok (.aload_n 0, 1) := by decide +kernel
theorem dX12_newWay_1 : decode cX12_newWay 1 = .ok (.getfield 423, 3) := by decide +kernel
theorem dX12_newWay_4 : decode cX12_newWay 4 = .ok (.sipush 600, 3) := by decide +kernel
theorem dX12_newWay_7 : decode cX12_newWay 7 = .ok (.if_icmp .ne 9, 3) := by decide +kernel
theorem dX12_newWay_10 : decode cX12_newWay 10 = .ok (.aload_n 0, 1) := by decide +kernel
theorem dX12_newWay_11 : decode cX12_newWay 11 = .ok (.iconst 1, 1) := by decide +kernel
theorem dX12_newWay_12 : decode cX12_newWay 12 = .ok (.putfield 370, 3) := by decide +kernel
theorem dX12_newWay_15 : decode cX12_newWay 15 = .ok (.return_, 1) := by decide +kernel
theorem dX12_newWay_16 : decode cX12_newWay 16 = .ok (.aload_n 0, 1) := by decide +kernel
theorem dX12_newWay_17 : decode cX12_newWay 17 = .ok (.getfield 124, 3) := by decide +kernel
theorem dX12_newWay_20 : decode cX12_newWay 20 = .ok (.aload_n 0, 1) := by decide +kernel
theorem dX12_newWay_21 : decode cX12_newWay 21 = .ok (.getfield 423, 3) := by decide +kernel
theorem dX12_newWay_24 : decode cX12_newWay 24 = .ok (.aload_n 0, 1) := by decide +kernel
theorem dX12_newWay_25 : decode cX12_newWay 25 = .ok (.getfield 426, 3) := by decide +kernel
theorem dX12_newWay_28 : decode cX12_newWay 28 = .ok (.iastore, 1) := by decide +kernel
theorem dX12_newWay_29 : decode cX12_newWay 29 = .ok (.aload_n 0, 1) := by decide +kernel
theorem dX12_newWay_30 : decode cX12_newWay 30 = .ok (.getfield 127, 3) := by decide +kernel
theorem dX12_newWay_33 : decode cX12_newWay 33 = .ok (.aload_n 0, 1) := by decide +kernel
theorem dX12_newWay_34 : decode cX12_newWay 34 = .ok (.getfield 423, 3) := by decide +kernel
theorem dX12_newWay_37 : decode cX12_newWay 37 = .ok (.iconst 0, 1) := by decide +kernel
theorem dX12_newWay_38 : decode cX12_newWay 38 = .ok (.iastore, 1) := by decide +kernel
theorem dX12_newWay_39 : decode cX12_newWay 39 = .ok (.aload_n 0, 1) := by decide +kernel
theorem dX12_newWay_40 : decode cX12_newWay 40 = .ok (.dup, 1) := by decide +kernel
theorem dX12_newWay_41 : decode cX12_newWay 41 = .ok (.getfield 423, 3) := by decide +kernel
theorem dX12_newWay_44 : decode cX12_newWay 44 = .ok (.iconst 1, 1) := by decide +kernel
theorem dX12_newWay_45 : decode cX12_newWay 45 = .ok (.iadd, 1) := by decide +kernel
theorem dX12_newWay_46 : decode cX12_newWay 46 = .ok (.putfield 423, 3) := by decide +kernel
theorem dX12_newWay_49 : decode cX12_newWay 49 = .ok (.return_, 1) := by decide +kernel
theorem dX12_append_0 : decode cX12_append 0 = .ok (.aload_n 0, 1) := by decide +kernel
theorem dX12_append_1 : decode cX12_append 1 = .ok (.getfield 370, 3) := by decide +kernel
theorem dX12_append_4 : decode cX12_append 4 = .ok (.ifCond .ne 29, 3) := by decide +kernel
theorem dX12_append_7 : decode cX12_append 7 = .ok (.aload_n 0, 1) := by decide +kernel
theorem dX12_append_8 : decode cX12_append 8 = .ok (.getfield 426, 3) := by decide +kernel
theorem dX12_append_11 : decode cX12_append 11 = .ok (.sipush 6000, 3) := by decide +kernel
theorem dX12_append_14 : decode cX12_append 14 = .ok (.if_icmp .eq 19, 3) := by decide +kernel
theorem dX12_append_17 : decode cX12_append 17 = .ok (.aload_n 0, 1) := by decide +kernel
theorem dX12_append_18 : decode cX12_append 18 = .ok (.getfield 127, 3) := by decide +kernel
theorem dX12_append_21 : decode cX12_append 21 = .ok (.aload_n 0, 1) := by decide +kernel
theorem dX12_append_22 : decode cX12_append 22 = .ok (.getfield 423, 3) := by decide +kernel
theorem dX12_append_25 : decode cX12_append 25 = .ok (.iconst 1, 1) := by decide +kernel
theorem dX12_append_26 : decode cX12_append 26 = .ok (.isub, 1) := by decide +kernel
theorem dX12_append_27 : decode cX12_append 27 = .ok (.iaload, 1) := by decide +kernel
theorem dX12_append_28 : decode cX12_append 28 = .ok (.bipush 12, 2) := by decide +kernel
theorem dX12_append_30 : decode cX12_append 30 = .ok (.if_icmp .ne 9, 3) := by decide +kernel
theorem dX12_append_33 : decode cX12_append 33 = .ok (.aload_n 0, 1) := by decide +kernel
theorem dX12_append_34 : decode cX12_append 34 = .ok (.iconst 1, 1) := by decide +kernel
theorem dX12_append_35 : decode cX12_append 35 = .ok (.putfield 370, 3) := by decide +kernel
theorem dX12_append_38 : decode cX12_append 38 = .ok (.return_, 1) := by decide +kernel
theorem dX12_append_39 : decode cX12_append 39 = .ok (.aload_n 0, 1) := by decide +kernel
theorem dX12_append_40 : decode cX12_append 40 = .ok (.getfield 130, 3) := by decide +kernel
theorem dX12_append_43 : decode cX12_append 43 = .ok (.aload_n 0, 1) := by decide +kernel
theorem dX12_append_44 : decode cX12_append 44 = .ok (.getfield 426, 3) := by decide +kernel
theorem dX12_append_47 : decode cX12_append 47 = .ok (.iload_n 1, 1) := by decide +kernel
theorem dX12_append_48 : decode cX12_append 48 = .ok (.iastore, 1) := by decide +kernel
theorem dX12_append_49 : decode cX12_append 49 = .ok (.aload_n 0, 1) := by decide +kernel
theorem dX12_append_50 : decode cX12_append 50 = .ok (.dup, 1) := by decide +kernel
theorem dX12_append_51 : decode cX12_append 51 = .ok (.getfield 426, 3) := by decide +kernel
theorem dX12_append_54 : decode cX12_append 54 = .ok (.iconst 1, 1) := by decide +kernel
theorem dX12_append_55 : decode cX12_append 55 = .ok (.iadd, 1) := by decide +kernel
theorem dX12_append_56 : decode cX12_append 56 = .ok (.putfield 426, 3) := by decide +kernel
theorem dX12_append_59 : decode cX12_append 59 = .ok (.aload_n 0, 1) := by decide +kernel
theorem dX12_append_60 : decode cX12_append 60 = .ok (.getfield 127, 3) := by decide +kernel
theorem dX12_append_63 : decode cX12_append 63 = .ok (.aload_n 0, 1) := by decide +kernel
theorem dX12_append_64 : decode cX12_append 64 = .ok (.getfield 423, 3) := by decide +kernel
theorem dX12_append_67 : decode cX12_append 67 = .ok (.iconst 1, 1) := by decide +kernel
theorem dX12_append_68 : decode cX12_append 68 = .ok (.isub, 1) := by decide +kernel
theorem dX12_append_69 : decode cX12_append 69 = .ok (.dup2, 1) := by decide +kernel
theorem dX12_append_70 : decode cX12_append 70 = .ok (.iaload, 1) := by decide +kernel
theorem dX12_append_71 : decode cX12_append 71 = .ok (.iconst 1, 1) := by decide +kernel
theorem dX12_append_72 : decode cX12_append 72 = .ok (.iadd, 1) := by decide +kernel
theorem dX12_append_73 : decode cX12_append 73 = .ok (.iastore, 1) := by decide +kernel
theorem dX12_append_74 : decode cX12_append 74 = .ok (.return_, 1) := by decide +kernel
theorem dX12_appendAll_0 : decode cX12_appendAll 0 = .ok (.iconst 0, 1) := by decide +kernel
theorem dX12_appendAll_1 : decode cX12_appendAll 1 = .ok (.istore_n 2, 1) := by decide +kernel
theorem dX12_appendAll_2 : decode cX12_appendAll 2 = .ok (.aload_n 0, 1) := by decide +kernel
theorem dX12_appendAll_3 : decode cX12_appendAll 3 = .ok (.getfield 370, 3) := by decide +kernel
theorem dX12_appendAll_6 : decode cX12_appendAll 6 = .ok (.ifCond .ne 36, 3) := by decide +kernel
theorem dX12_appendAll_9 : decode cX12_appendAll 9 = .ok (.iload_n 2, 1) := by decide +kernel
theorem dX12_appendAll_10 : decode cX12_appendAll 10 = .ok (.aload_n 0, 1) := by decide +kernel
theorem dX12_appendAll_11 : decode cX12_appendAll 11 = .ok (.getfield 127, 3) := by decide +kernel
theorem dX12_appendAll_14 : decode cX12_appendAll 14 = .ok (.iload_n 1, 1) := by decide +kernel
theorem dX12_appendAll_15 : decode cX12_appendAll 15 = .ok (.iaload, 1) := by decide +kernel
theorem dX12_appendAll_16 : decode cX12_appendAll 16 = .ok (.if_icmp .ge 26, 3) := by decide +kernel
theorem dX12_appendAll_19 : decode cX12_appendAll 19 = .ok (.aload_n 0, 1) := by decide +kernel
theorem dX12_appendAll_20 : decode cX12_appendAll 20 = .ok (.aload_n 0, 1) := by decide +kernel
theorem dX12_appendAll_21 : decode cX12_appendAll 21 = .ok (.getfield 130, 3) := by decide +kernel
theorem dX12_appendAll_24 : decode cX12_appendAll 24 = .ok (.aload_n 0, 1) := by decide +kernel
theorem dX12_appendAll_25 : decode cX12_appendAll 25 = .ok (.getfield 124, 3) := by decide +kernel
theorem dX12_appendAll_28 : decode cX12_appendAll 28 = .ok (.iload_n 1, 1) := by decide +kernel
theorem dX12_appendAll_29 : decode cX12_appendAll 29 = .ok (.iaload, 1) := by decide +kernel
theorem dX12_appendAll_30 : decode cX12_appendAll 30 = .ok (.iload_n 2, 1) := by decide +kernel
theorem dX12_appendAll_31 : decode cX12_appendAll 31 = .ok (.iadd, 1) := by decide +kernel
theorem dX12_appendAll_32 : decode cX12_appendAll 32 = .ok (.iaload, 1) := by decide +kernel
theorem dX12_appendAll_33 : decode cX12_appendAll 33 = .ok (.invokevirtual 429, 3) := by decide +kernel
theorem dX12_appendAll_36 : decode cX12_appendAll 36 = .ok (.iinc 2 1, 3) := by decide +kernel
theorem dX12_appendAll_39 : decode cX12_appendAll 39 = .ok (.goto (-37), 3) := by decide +kernel
theorem dX12_appendAll_42 : decode cX12_appendAll 42 = .ok (.return_, 1) := by decide +kernel
theorem dX12_distribute_0 : decode cX12_distribute 0 = .ok (.iconst 0, 1) := by decide +kernel
theorem dX12_distribute_1 : decode cX12_distribute 1 = .ok (.istore_n 1, 1) := by decide +kernel
theorem dX12_distribute_2 : decode cX12_distribute 2 = .ok (.iload_n 1, 1) := by decide +kernel
theorem dX12_distribute_3 : decode cX12_distribute 3 = .ok (.aload_n 0, 1) := by decide +kernel
theorem dX12_distribute_4 : decode cX12_distribute 4 = .ok (.getfield 367, 3) := by decide +kernel
theorem dX12_distribute_7 : decode cX12_distribute 7 = .ok (.if_icmp .ge 83, 3) := by decide +kernel
theorem dX12_distribute_10 : decode cX12_distribute 10 = .ok (.aload_n 0, 1) := by decide +kernel
theorem dX12_distribute_11 : decode cX12_distribute 11 = .ok (.getfield 370, 3) := by decide +kernel
theorem dX12_distribute_14 : decode cX12_distribute 14 = .ok (.ifCond .ne 76, 3) := by decide +kernel
theorem dX12_distribute_17 : decode cX12_distribute 17 = .ok (.aload_n 0, 1) := by decide +kernel
theorem dX12_distribute_18 : decode cX12_distribute 18 = .ok (.getfield 118, 3) := by decide +kernel
theorem dX12_distribute_21 : decode cX12_distribute 21 = .ok (.iload_n 1, 1) := by decide +kernel
theorem dX12_distribute_22 : decode cX12_distribute 22 = .ok (.aload_n 0, 1) := by decide +kernel
theorem dX12_distribute_23 : decode cX12_distribute 23 = .ok (.getfield 423, 3) := by decide +kernel
theorem dX12_distribute_26 : decode cX12_distribute 26 = .ok (.iastore, 1) := by decide +kernel
theorem dX12_distribute_27 : decode cX12_distribute 27 = .ok (.aload_n 0, 1) := by decide +kernel
theorem dX12_distribute_28 : decode cX12_distribute 28 = .ok (.getfield 100, 3) := by decide +kernel
theorem dX12_distribute_31 : decode cX12_distribute 31 = .ok (.iload_n 1, 1) := by decide +kernel
theorem dX12_distribute_32 : decode cX12_distribute 32 = .ok (.iaload, 1) := by decide +kernel
theorem dX12_distribute_33 : decode cX12_distribute 33 = .ok (.bipush 15, 2) := by decide +kernel
theorem dX12_distribute_35 : decode cX12_distribute 35 = .ok (.if_icmp .ne 15, 3) := by decide +kernel
theorem dX12_distribute_38 : decode cX12_distribute 38 = .ok (.aload_n 0, 1) := by decide +kernel
theorem dX12_distribute_39 : decode cX12_distribute 39 = .ok (.invokevirtual 432, 3) := by decide +kernel
theorem dX12_distribute_42 : decode cX12_distribute 42 = .ok (.aload_n 0, 1) := by decide +kernel
theorem dX12_distribute_43 : decode cX12_distribute 43 = .ok (.iload_n 1, 1) := by decide +kernel
theorem dX12_distribute_44 : decode cX12_distribute 44 = .ok (.invokevirtual 429, 3) := by decide +kernel
theorem dX12_distribute_47 : decode cX12_distribute 47 = .ok (.goto 20, 3) := by decide +kernel
theorem dX12_distribute_50 : decode cX12_distribute 50 = .ok (.aload_n 0, 1) := by decide +kernel
theorem dX12_distribute_51 : decode cX12_distribute 51 = .ok (.iload_n 1, 1) := by decide +kernel
theorem dX12_distribute_52 : decode cX12_distribute 52 = .ok (.aload_n 0, 1) := by decide +kernel
theorem dX12_distribute_53 : decode cX12_distribute 53 = .ok (.getfield 103, 3) := by decide +kernel
theorem dX12_distribute_56 : decode cX12_distribute 56 = .ok (.iload_n 1, 1) := by decide +kernel
theorem dX12_distribute_57 : decode cX12_distribute 57 = .ok (.iaload, 1) := by decide +kernel
theorem dX12_distribute_58 : decode cX12_distribute 58 = .ok (.aload_n 0, 1) := by decide +kernel
theorem dX12_distribute_59 : decode cX12_distribute 59 = .ok (.getfield 106, 3) := by decide +kernel
theorem dX12_distribute_62 : decode cX12_distribute 62 = .ok (.iload_n 1, 1) := by decide +kernel
theorem dX12_distribute_63 : decode cX12_distribute 63 = .ok (.iaload, 1) := by decide +kernel
theorem dX12_distribute_64 : decode cX12_distribute 64 = .ok (.invokevirtual 435, 3) := by decide +kernel
theorem dX12_distribute_67 : decode cX12_distribute 67 = .ok (.aload_n 0, 1) := by decide +kernel
theorem dX12_distribute_68 : decode cX12_distribute 68 = .ok (.getfield 121, 3) := by decide +kernel
theorem dX12_distribute_71 : decode cX12_distribute 71 = .ok (.iload_n 1, 1) := by decide +kernel
theorem dX12_distribute_72 : decode cX12_distribute 72 = .ok (.aload_n 0, 1) := by decide +kernel
theorem dX12_distribute_73 : decode cX12_distribute 73 = .ok (.getfield 423, 3) := by decide +kernel
theorem dX12_distribute_76 : decode cX12_distribute 76 = .ok (.aload_n 0, 1) := by decide +kernel
theorem dX12_distribute_77 : decode cX12_distribute 77 = .ok (.getfield 118, 3) := by decide +kernel
theorem dX12_distribute_80 : decode cX12_distribute 80 = .ok (.iload_n 1, 1) := by decide +kernel
theorem dX12_distribute_81 : decode cX12_distribute 81 = .ok (.iaload, 1) := by decide +kernel
theorem dX12_distribute_82 : decode cX12_distribute 82 = .ok (.isub, 1) := by decide +kernel
theorem dX12_distribute_83 : decode cX12_distribute 83 = .ok (.iastore, 1) := by decide +kernel
theorem dX12_distribute_84 : decode cX12_distribute 84 = .ok (.iinc 1 1, 3) := by decide +kernel
theorem dX12_distribute_87 : decode cX12_distribute 87 = .ok (.goto (-85), 3) := by decide +kernel
theorem dX12_distribute_90 : decode cX12_distribute 90 = .ok (.return_, 1) := by decide +kernel
theorem dX12_distributeOne_0 : decode cX12_distributeOne 0 = .ok (.aload_n 0, 1) := by decide +kernel
theorem dX12_distributeOne_1 : decode cX12_distributeOne 1 = .ok (.getfield 100, 3) := by decide +kernel
theorem dX12_distributeOne_4 : decode cX12_distributeOne 4 = .ok (.iload_n 1, 1) := by decide +kernel
theorem dX12_distributeOne_5 : decode cX12_distributeOne 5 = .ok (.iaload, 1) := by decide +kernel
theorem dX12_distributeOne_6 : decode cX12_distributeOne 6 = .ok (.bipush 9, 2) := by decide +kernel
theorem dX12_distributeOne_8 : decode cX12_distributeOne 8 = .ok (.if_icmp .ne 85, 3) := by decide +kernel
theorem dX12_distributeOne_11 : decode cX12_distributeOne 11 = .ok (.iconst 0, 1) := by decide +kernel
theorem dX12_distributeOne_12 : decode cX12_distributeOne 12 = .ok (.istore 4, 2) := by decide +kernel
theorem dX12_distributeOne_14 : decode cX12_distributeOne 14 = .ok (.iload 4, 2) := by decide +kernel
theorem dX12_distributeOne_16 : decode cX12_distributeOne 16 = .ok (.aload_n 0, 1) := by decide +kernel
theorem dX12_distributeOne_17 : decode cX12_distributeOne 17 = .ok (.getfield 121, 3) := by decide +kernel
theorem dX12_distributeOne_20 : decode cX12_distributeOne 20 = .ok (.iload_n 2, 1) := by decide +kernel
theorem dX12_distributeOne_21 : decode cX12_distributeOne 21 = .ok (.iaload, 1) := by decide +kernel
theorem dX12_distributeOne_22 : decode cX12_distributeOne 22 = .ok (.aload_n 0, 1) := by decide +kernel
theorem dX12_distributeOne_23 : decode cX12_distributeOne 23 = .ok (.getfield 121, 3) := by decide +kernel
theorem dX12_distributeOne_26 : decode cX12_distributeOne 26 = .ok (.iload_n 3, 1) := by decide +kernel
theorem dX12_distributeOne_27 : decode cX12_distributeOne 27 = .ok (.iaload, 1) := by decide +kernel
theorem dX12_distributeOne_28 : decode cX12_distributeOne 28 = .ok (.iadd, 1) := by decide +kernel
theorem dX12_distributeOne_29 : decode cX12_distributeOne 29 = .ok (.if_icmp .ge 63, 3) := by decide +kernel
theorem dX12_distributeOne_32 : decode cX12_distributeOne 32 = .ok (.aload_n 0, 1) := by decide +kernel
theorem dX12_distributeOne_33 : decode cX12_distributeOne 33 = .ok (.getfield 370, 3) := by decide +kernel
theorem dX12_distributeOne_36 : decode cX12_distributeOne 36 = .ok (.ifCond .ne 56, 3) := by decide +kernel
theorem dX12_distributeOne_39 : decode cX12_distributeOne 39 = .ok (.aload_n 0, 1) := by decide +kernel
theorem dX12_distributeOne_40 : decode cX12_distributeOne 40 = .ok (.invokevirtual 432, 3) := by decide +kernel
theorem dX12_distributeOne_43 : decode cX12_distributeOne 43 = .ok (.aload_n 0, 1) := by decide +kernel
theorem dX12_distributeOne_44 : decode cX12_distributeOne 44 = .ok (.iload 4, 2) := by decide +kernel
theorem dX12_distributeOne_46 : decode cX12_distributeOne 46 = .ok (.aload_n 0, 1) := by decide +kernel
theorem dX12_distributeOne_47 : decode cX12_distributeOne 47 = .ok (.getfield 121, 3) := by decide +kernel
theorem dX12_distributeOne_50 : decode cX12_distributeOne 50 = .ok (.iload_n 2, 1) := by decide +kernel
theorem dX12_distributeOne_51 : decode cX12_distributeOne 51 = .ok (.iaload, 1) := by decide +kernel
theorem dX12_distributeOne_52 : decode cX12_distributeOne 52 = .ok (.if_icmp .ge 15, 3) := by decide +kernel
theorem dX12_distributeOne_55 : decode cX12_distributeOne 55 = .ok (.aload_n 0, 1) := by decide +kernel
theorem dX12_distributeOne_56 : decode cX12_distributeOne 56 = .ok (.getfield 118, 3) := by decide +kernel
theorem dX12_distributeOne_59 : decode cX12_distributeOne 59 = .ok (.iload_n 2, 1) := by decide +kernel
theorem dX12_distributeOne_60 : decode cX12_distributeOne 60 = .ok (.iaload, 1) := by decide +kernel
theorem dX12_distributeOne_61 : decode cX12_distributeOne 61 = .ok (.iload 4, 2) := by decide +kernel
theorem dX12_distributeOne_63 : decode cX12_distributeOne 63 = .ok (.iadd, 1) := by decide +kernel
theorem dX12_distributeOne_64 : decode cX12_distributeOne 64 = .ok (.goto 19, 3) := by decide +kernel
theorem dX12_distributeOne_67 : decode cX12_distributeOne 67 = .ok (.aload_n 0, 1) := by decide +kernel
theorem dX12_distributeOne_68 : decode cX12_distributeOne 68 = .ok (.getfield 118, 3) := by decide +kernel
theorem dX12_distributeOne_71 : decode cX12_distributeOne 71 = .ok (.iload_n 3, 1) := by decide +kernel
theorem dX12_distributeOne_72 : decode cX12_distributeOne 72 = .ok (.iaload, 1) := by decide +kernel
theorem dX12_distributeOne_73 : decode cX12_distributeOne 73 = .ok (.iload 4, 2) := by decide +kernel
theorem dX12_distributeOne_75 : decode cX12_distributeOne 75 = .ok (.iadd, 1) := by decide +kernel
theorem dX12_distributeOne_76 : decode cX12_distributeOne 76 = .ok (.aload_n 0, 1) := by decide +kernel
theorem dX12_distributeOne_77 : decode cX12_distributeOne 77 = .ok (.getfield 121, 3) := by decide +kernel
theorem dX12_distributeOne_80 : decode cX12_distributeOne 80 = .ok (.iload_n 2, 1) := by decide +kernel
theorem dX12_distributeOne_81 : decode cX12_distributeOne 81 = .ok (.iaload, 1) := by decide +kernel
theorem dX12_distributeOne_82 : decode cX12_distributeOne 82 = .ok (.isub, 1) := by decide +kernel
theorem dX12_distributeOne_83 : decode cX12_distributeOne 83 = .ok (.invokevirtual 438, 3) := by decide +kernel
theorem dX12_distributeOne_86 : decode cX12_distributeOne 86 = .ok (.iinc 4 1, 3) := by decide +kernel
theorem dX12_distributeOne_89 : decode cX12_distributeOne 89 = .ok (.goto (-75), 3) := by decide +kernel
theorem dX12_distributeOne_92 : decode cX12_distributeOne 92 = .ok (.return_, 1) := by decide +kernel
theorem dX12_distributeOne_93 : decode cX12_distributeOne 93 = .ok (.iconst 0, 1) := by decide +kernel
theorem dX12_distributeOne_94 : decode cX12_distributeOne 94 = .ok (.istore 4, 2) := by decide +kernel
theorem dX12_distributeOne_96 : decode cX12_distributeOne 96 = .ok (.iload 4, 2) := by decide +kernel
theorem dX12_distributeOne_98 : decode cX12_distributeOne 98 = .ok (.aload_n 0, 1) := by decide +kernel
theorem dX12_distributeOne_99 : decode cX12_distributeOne 99 = .ok (.getfield 121, 3) := by decide +kernel
theorem dX12_distributeOne_102 : decode cX12_distributeOne 102 = .ok (.iload_n 2, 1) := by decide +kernel
theorem dX12_distributeOne_103 : decode cX12_distributeOne 103 = .ok (.iaload, 1) := by decide +kernel
theorem dX12_distributeOne_104 : decode cX12_distributeOne 104 = .ok (.if_icmp .ge 73, 3) := by decide +kernel
theorem dX12_distributeOne_107 : decode cX12_distributeOne 107 = .ok (.aload_n 0, 1) := by decide +kernel
theorem dX12_distributeOne_108 : decode cX12_distributeOne 108 = .ok (.getfield 370, 3) := by decide +kernel
theorem dX12_distributeOne_111 : decode cX12_distributeOne 111 = .ok (.ifCond .ne 66, 3) := by decide +kernel
theorem dX12_distributeOne_114 : decode cX12_distributeOne 114 = .ok (.iconst 0, 1) := by decide +kernel
theorem dX12_distributeOne_115 : decode cX12_distributeOne 115 = .ok (.istore 5, 2) := by decide +kernel
theorem dX12_distributeOne_117 : decode cX12_distributeOne 117 = .ok (.iload 5, 2) := by decide +kernel
theorem dX12_distributeOne_119 : decode cX12_distributeOne 119 = .ok (.aload_n 0, 1) := by decide +kernel
theorem dX12_distributeOne_120 : decode cX12_distributeOne 120 = .ok (.getfield 121, 3) := by decide +kernel
theorem dX12_distributeOne_123 : decode cX12_distributeOne 123 = .ok (.iload_n 3, 1) := by decide +kernel
theorem dX12_distributeOne_124 : decode cX12_distributeOne 124 = .ok (.iaload, 1) := by decide +kernel
theorem dX12_distributeOne_125 : decode cX12_distributeOne 125 = .ok (.if_icmp .ge 46, 3) := by decide +kernel
theorem dX12_distributeOne_128 : decode cX12_distributeOne 128 = .ok (.aload_n 0, 1) := by decide +kernel
theorem dX12_distributeOne_129 : decode cX12_distributeOne 129 = .ok (.getfield 370, 3) := by decide +kernel
theorem dX12_distributeOne_132 : decode cX12_distributeOne 132 = .ok (.ifCond .ne 39, 3) := by decide +kernel
theorem dX12_distributeOne_135 : decode cX12_distributeOne 135 = .ok (.aload_n 0, 1) := by decide +kernel
theorem dX12_distributeOne_136 : decode cX12_distributeOne 136 = .ok (.invokevirtual 432, 3) := by decide +kernel
theorem dX12_distributeOne_139 : decode cX12_distributeOne 139 = .ok (.aload_n 0, 1) := by decide +kernel
theorem dX12_distributeOne_140 : decode cX12_distributeOne 140 = .ok (.aload_n 0, 1) := by decide +kernel
theorem dX12_distributeOne_141 : decode cX12_distributeOne 141 = .ok (.getfield 118, 3) := by decide +kernel
theorem dX12_distributeOne_144 : decode cX12_distributeOne 144 = .ok (.iload_n 2, 1) := by decide +kernel
theorem dX12_distributeOne_145 : decode cX12_distributeOne 145 = .ok (.iaload, 1) := by decide +kernel
theorem dX12_distributeOne_146 : decode cX12_distributeOne 146 = .ok (.iload 4, 2) := by decide +kernel
theorem dX12_distributeOne_148 : decode cX12_distributeOne 148 = .ok (.iadd, 1) := by decide +kernel
theorem dX12_distributeOne_149 : decode cX12_distributeOne 149 = .ok (.invokevirtual 438, 3) := by decide +kernel
theorem dX12_distributeOne_152 : decode cX12_distributeOne 152 = .ok (.aload_n 0, 1) := by decide +kernel
theorem dX12_distributeOne_153 : decode cX12_distributeOne 153 = .ok (.aload_n 0, 1) := by decide +kernel
theorem dX12_distributeOne_154 : decode cX12_distributeOne 154 = .ok (.getfield 118, 3) := by decide +kernel
theorem dX12_distributeOne_157 : decode cX12_distributeOne 157 = .ok (.iload_n 3, 1) := by decide +kernel
theorem dX12_distributeOne_158 : decode cX12_distributeOne 158 = .ok (.iaload, 1) := by decide +kernel
theorem dX12_distributeOne_159 : decode cX12_distributeOne 159 = .ok (.iload 5, 2) := by decide +kernel
theorem dX12_distributeOne_161 : decode cX12_distributeOne 161 = .ok (.iadd, 1) := by decide +kernel
theorem dX12_distributeOne_162 : decode cX12_distributeOne 162 = .ok (.invokevirtual 438, 3) := by decide +kernel
theorem dX12_distributeOne_165 : decode cX12_distributeOne 165 = .ok (.iinc 5 1, 3) := by decide +kernel
theorem dX12_distributeOne_168 : decode cX12_distributeOne 168 = .ok (.goto (-51), 3) := by decide +kernel
theorem dX12_distributeOne_171 : decode cX12_distributeOne 171 = .ok (.iinc 4 1, 3) := by decide +kernel
theorem dX12_distributeOne_174 : decode cX12_distributeOne 174 = .ok (.goto (-78), 3) := by decide +kernel
theorem dX12_distributeOne_177 : decode cX12_distributeOne 177 = .ok (.return_, 1) := by decide +kernel
theorem dX12_isAtom_0 : decode cX12_isAtom 0 = .ok (.aload_n 0, 1) := by decide +kernel
theorem dX12_isAtom_1 : decode cX12_isAtom 1 = .ok (.getfield 106, 3) := by decide +kernel
theorem dX12_isAtom_4 : decode cX12_isAtom 4 = .ok (.iload_n 1, 1) := by decide +kernel
theorem dX12_isAtom_5 : decode cX12_isAtom 5 = .ok (.iaload, 1) := by decide +kernel
theorem dX12_isAtom_6 : decode cX12_isAtom 6 = .ok (.aload_n 0, 1) := by decide +kernel
theorem dX12_isAtom_7 : decode cX12_isAtom 7 = .ok (.getfield 103, 3) := by decide +kernel
theorem dX12_isAtom_10 : decode cX12_isAtom 10 = .ok (.iload_n 1, 1) := by decide +kernel
theorem dX12_isAtom_11 : decode cX12_isAtom 11 = .ok (.iaload, 1) := by decide +kernel
theorem dX12_isAtom_12 : decode cX12_isAtom 12 = .ok (.isub, 1) := by decide +kernel
theorem dX12_isAtom_13 : decode cX12_isAtom 13 = .ok (.aload_n 0, 1) := by decide +kernel
theorem dX12_isAtom_14 : decode cX12_isAtom 14 = .ok (.getfield 106, 3) := by decide +kernel
theorem dX12_isAtom_17 : decode cX12_isAtom 17 = .ok (.iload_n 2, 1) := by decide +kernel
theorem dX12_isAtom_18 : decode cX12_isAtom 18 = .ok (.iaload, 1) := by decide +kernel
theorem dX12_isAtom_19 : decode cX12_isAtom 19 = .ok (.aload_n 0, 1) := by decide +kernel
theorem dX12_isAtom_20 : decode cX12_isAtom 20 = .ok (.getfield 103, 3) := by decide +kernel
theorem dX12_isAtom_23 : decode cX12_isAtom 23 = .ok (.iload_n 2, 1) := by decide +kernel
theorem dX12_isAtom_24 : decode cX12_isAtom 24 = .ok (.iaload, 1) := by decide +kernel
theorem dX12_isAtom_25 : decode cX12_isAtom 25 = .ok (.isub, 1) := by decide +kernel
theorem dX12_isAtom_26 : decode cX12_isAtom 26 = .ok (.if_icmp .ne 7, 3) := by decide +kernel
theorem dX12_isAtom_29 : decode cX12_isAtom 29 = .ok (.iconst 1, 1) := by decide +kernel
theorem dX12_isAtom_30 : decode cX12_isAtom 30 = .ok (.goto 4, 3) := by decide +kernel
theorem dX12_isAtom_33 : decode cX12_isAtom 33 = .ok (.iconst 0, 1) := by decide +kernel
theorem dX12_isAtom_34 : decode cX12_isAtom 34 = .ok (.istore_n 3, 1) := by decide +kernel
theorem dX12_isAtom_35 : decode cX12_isAtom 35 = .ok (.iconst 0, 1) := by decide +kernel
theorem dX12_isAtom_36 : decode cX12_isAtom 36 = .ok (.istore 4, 2) := by decide +kernel
theorem dX12_isAtom_38 : decode cX12_isAtom 38 = .ok (.iload 4, 2) := by decide +kernel
theorem dX12_isAtom_40 : decode cX12_isAtom 40 = .ok (.aload_n 0, 1) := by decide +kernel
theorem dX12_isAtom_41 : decode cX12_isAtom 41 = .ok (.getfield 106, 3) := by decide +kernel
theorem dX12_isAtom_44 : decode cX12_isAtom 44 = .ok (.iload_n 1, 1) := by decide +kernel
theorem dX12_isAtom_45 : decode cX12_isAtom 45 = .ok (.iaload, 1) := by decide +kernel
theorem dX12_isAtom_46 : decode cX12_isAtom 46 = .ok (.aload_n 0, 1) := by decide +kernel
theorem dX12_isAtom_47 : decode cX12_isAtom 47 = .ok (.getfield 103, 3) := by decide +kernel
theorem dX12_isAtom_50 : decode cX12_isAtom 50 = .ok (.iload_n 1, 1) := by decide +kernel
theorem dX12_isAtom_51 : decode cX12_isAtom 51 = .ok (.iaload, 1) := by decide +kernel
theorem dX12_isAtom_52 : decode cX12_isAtom 52 = .ok (.isub, 1) := by decide +kernel
theorem dX12_isAtom_53 : decode cX12_isAtom 53 = .ok (.if_icmp .ge 50, 3) := by decide +kernel
theorem dX12_isAtom_56 : decode cX12_isAtom 56 = .ok (.iload_n 3, 1) := by decide +kernel
theorem dX12_isAtom_57 : decode cX12_isAtom 57 = .ok (.ifCond .eq 46, 3) := by decide +kernel
theorem dX12_isAtom_60 : decode cX12_isAtom 60 = .ok (.aload_n 0, 1) := by decide +kernel
theorem dX12_isAtom_61 : decode cX12_isAtom 61 = .ok (.getfield 112, 3) := by decide +kernel
theorem dX12_isAtom_64 : decode cX12_isAtom 64 = .ok (.aload_n 0, 1) := by decide +kernel
theorem dX12_isAtom_65 : decode cX12_isAtom 65 = .ok (.getfield 103, 3) := by decide +kernel
theorem dX12_isAtom_68 : decode cX12_isAtom 68 = .ok (.iload_n 1, 1) := by decide +kernel
theorem dX12_isAtom_69 : decode cX12_isAtom 69 = .ok (.iaload, 1) := by decide +kernel
theorem dX12_isAtom_70 : decode cX12_isAtom 70 = .ok (.iload 4, 2) := by decide +kernel
theorem dX12_isAtom_72 : decode cX12_isAtom 72 = .ok (.iadd, 1) := by decide +kernel
theorem dX12_isAtom_73 : decode cX12_isAtom 73 = .ok (.iaload, 1) := by decide +kernel
theorem dX12_isAtom_74 : decode cX12_isAtom 74 = .ok (.aload_n 0, 1) := by decide +kernel
theorem dX12_isAtom_75 : decode cX12_isAtom 75 = .ok (.getfield 112, 3) := by decide +kernel
theorem dX12_isAtom_78 : decode cX12_isAtom 78 = .ok (.aload_n 0, 1) := by decide +kernel
theorem dX12_isAtom_79 : decode cX12_isAtom 79 = .ok (.getfield 103, 3) := by decide +kernel
theorem dX12_isAtom_82 : decode cX12_isAtom 82 = .ok (.iload_n 2, 1) := by decide +kernel
theorem dX12_isAtom_83 : decode cX12_isAtom 83 = .ok (.iaload, 1) := by decide +kernel
theorem dX12_isAtom_84 : decode cX12_isAtom 84 = .ok (.iload 4, 2) := by decide +kernel
theorem dX12_isAtom_86 : decode cX12_isAtom 86 = .ok (.iadd, 1) := by decide +kernel
theorem dX12_isAtom_87 : decode cX12_isAtom 87 = .ok (.iaload, 1) := by decide +kernel
theorem dX12_isAtom_88 : decode cX12_isAtom 88 = .ok (.if_icmp .ne 7, 3) := by decide +kernel
theorem dX12_isAtom_91 : decode cX12_isAtom 91 = .ok (.iconst 1, 1) := by decide +kernel
theorem dX12_isAtom_92 : decode cX12_isAtom 92 = .ok (.goto 4, 3) := by decide +kernel
theorem dX12_isAtom_95 : decode cX12_isAtom 95 = .ok (.iconst 0, 1) := by decide +kernel
theorem dX12_isAtom_96 : decode cX12_isAtom 96 = .ok (.istore_n 3, 1) := by decide +kernel
theorem dX12_isAtom_97 : decode cX12_isAtom 97 = .ok (.iinc 4 1, 3) := by decide +kernel
theorem dX12_isAtom_100 : decode cX12_isAtom 100 = .ok (.goto (-62), 3) := by decide +kernel
theorem dX12_isAtom_103 : decode cX12_isAtom 103 = .ok (.iload_n 3, 1) := by decide +kernel
theorem dX12_isAtom_104 : decode cX12_isAtom 104 = .ok (.ireturn, 1) := by decide +kernel
theorem dX12_arityOf_0 : decode cX12_arityOf 0 = .ok (.iload_n 1, 1) := by decide +kernel
theorem dX12_arityOf_1 : decode cX12_arityOf 1 = .ok (.ifCond .ge 7, 3) := by decide +kernel
theorem dX12_arityOf_4 : decode cX12_arityOf 4 = .ok (.iconst 0, 1) := by decide +kernel
theorem dX12_arityOf_5 : decode cX12_arityOf 5 = .ok (.goto 34, 3) := by decide +kernel
theorem dX12_arityOf_8 : decode cX12_arityOf 8 = .ok (.iload_n 1, 1) := by decide +kernel
theorem dX12_arityOf_9 : decode cX12_arityOf 9 = .ok (.sipush 1000, 3) := by decide +kernel
theorem dX12_arityOf_12 : decode cX12_arityOf 12 = .ok (.if_icmp .lt 21, 3) := by decide +kernel
theorem dX12_arityOf_15 : decode cX12_arityOf 15 = .ok (.aload_n 0, 1) := by decide +kernel
theorem dX12_arityOf_16 : decode cX12_arityOf 16 = .ok (.getfield 25, 3) := by decide +kernel
theorem dX12_arityOf_19 : decode cX12_arityOf 19 = .ok (.iload_n 1, 1) := by decide +kernel
theorem dX12_arityOf_20 : decode cX12_arityOf 20 = .ok (.sipush 1000, 3) := by decide +kernel
theorem dX12_arityOf_23 : decode cX12_arityOf 23 = .ok (.isub, 1) := by decide +kernel
theorem dX12_arityOf_24 : decode cX12_arityOf 24 = .ok (.aload_n 0, 1) := by decide +kernel
theorem dX12_arityOf_25 : decode cX12_arityOf 25 = .ok (.getfield 391, 3) := by decide +kernel
theorem dX12_arityOf_28 : decode cX12_arityOf 28 = .ok (.isub, 1) := by decide +kernel
theorem dX12_arityOf_29 : decode cX12_arityOf 29 = .ok (.iaload, 1) := by decide +kernel
theorem dX12_arityOf_30 : decode cX12_arityOf 30 = .ok (.goto 9, 3) := by decide +kernel
theorem dX12_arityOf_33 : decode cX12_arityOf 33 = .ok (.aload_n 0, 1) := by decide +kernel
theorem dX12_arityOf_34 : decode cX12_arityOf 34 = .ok (.getfield 17, 3) := by decide +kernel
theorem dX12_arityOf_37 : decode cX12_arityOf 37 = .ok (.iload_n 1, 1) := by decide +kernel
theorem dX12_arityOf_38 : decode cX12_arityOf 38 = .ok (.iaload, 1) := by decide +kernel
theorem dX12_arityOf_39 : decode cX12_arityOf 39 = .ok (.ireturn, 1) := by decide +kernel
theorem dX12_newClause_0 : decode cX12_newClause 0 = .ok (.iconst 0, 1) := by decide +kernel
theorem dX12_newClause_1 : decode cX12_newClause 1 = .ok (.istore_n 2, 1) := by decide +kernel
theorem dX12_newClause_2 : decode cX12_newClause 2 = .ok (.iconst 0, 1) := by decide +kernel
theorem dX12_newClause_3 : decode cX12_newClause 3 = .ok (.istore_n 3, 1) := by decide +kernel
theorem dX12_newClause_4 : decode cX12_newClause 4 = .ok (.iconst 0, 1) := by decide +kernel
theorem dX12_newClause_5 : decode cX12_newClause 5 = .ok (.istore 4, 2) := by decide +kernel
theorem dX12_newClause_7 : decode cX12_newClause 7 = .ok (.iload 4, 2) := by decide +kernel
theorem dX12_newClause_9 : decode cX12_newClause 9 = .ok (.aload_n 0, 1) := by decide +kernel
theorem dX12_newClause_10 : decode cX12_newClause 10 = .ok (.getfield 127, 3) := by decide +kernel
theorem dX12_newClause_13 : decode cX12_newClause 13 = .ok (.iload_n 1, 1) := by decide +kernel
theorem dX12_newClause_14 : decode cX12_newClause 14 = .ok (.iaload, 1) := by decide +kernel
theorem dX12_newClause_15 : decode cX12_newClause 15 = .ok (.if_icmp .ge 150, 3) := by decide +kernel
theorem dX12_newClause_18 : decode cX12_newClause 18 = .ok (.aload_n 0, 1) := by decide +kernel
theorem dX12_newClause_19 : decode cX12_newClause 19 = .ok (.getfield 130, 3) := by decide +kernel
theorem dX12_newClause_22 : decode cX12_newClause 22 = .ok (.aload_n 0, 1) := by decide +kernel
theorem dX12_newClause_23 : decode cX12_newClause 23 = .ok (.getfield 124, 3) := by decide +kernel
theorem dX12_newClause_26 : decode cX12_newClause 26 = .ok (.iload_n 1, 1) := by decide +kernel
theorem dX12_newClause_27 : decode cX12_newClause 27 = .ok (.iaload, 1) := by decide +kernel
theorem dX12_newClause_28 : decode cX12_newClause 28 = .ok (.iload 4, 2) := by decide +kernel
theorem dX12_newClause_30 : decode cX12_newClause 30 = .ok (.iadd, 1) := by decide +kernel
theorem dX12_newClause_31 : decode cX12_newClause 31 = .ok (.iaload, 1) := by decide +kernel
theorem dX12_newClause_32 : decode cX12_newClause 32 = .ok (.istore 5, 2) := by decide +kernel
theorem dX12_newClause_34 : decode cX12_newClause 34 = .ok (.iconst 0, 1) := by decide +kernel
theorem dX12_newClause_35 : decode cX12_newClause 35 = .ok (.istore 6, 2) := by decide +kernel
theorem dX12_newClause_37 : decode cX12_newClause 37 = .ok (.iconst 0, 1) := by decide +kernel
theorem dX12_newClause_38 : decode cX12_newClause 38 = .ok (.istore 7, 2) := by decide +kernel
theorem dX12_newClause_40 : decode cX12_newClause 40 = .ok (.iload 7, 2) := by decide +kernel
theorem dX12_newClause_42 : decode cX12_newClause 42 = .ok (.iload_n 2, 1) := by decide +kernel
theorem dX12_newClause_43 : decode cX12_newClause 43 = .ok (.if_icmp .ge 100, 3) := by decide +kernel
theorem dX12_newClause_46 : decode cX12_newClause 46 = .ok (.aload_n 0, 1) := by decide +kernel
theorem dX12_newClause_47 : decode cX12_newClause 47 = .ok (.aload_n 0, 1) := by decide +kernel
theorem dX12_newClause_48 : decode cX12_newClause 48 = .ok (.getfield 133, 3) := by decide +kernel
theorem dX12_newClause_51 : decode cX12_newClause 51 = .ok (.iload 7, 2) := by decide +kernel
theorem dX12_newClause_53 : decode cX12_newClause 53 = .ok (.iaload, 1) := by decide +kernel
theorem dX12_newClause_54 : decode cX12_newClause 54 = .ok (.iload 5, 2) := by decide +kernel
theorem dX12_newClause_56 : decode cX12_newClause 56 = .ok (.invokevirtual 441, 3) := by decide +kernel
theorem dX12_newClause_59 : decode cX12_newClause 59 = .ok (.istore 8, 2) := by decide +kernel
theorem dX12_newClause_61 : decode cX12_newClause 61 = .ok (.iload 6, 2) := by decide +kernel
theorem dX12_newClause_63 : decode cX12_newClause 63 = .ok (.ifCond .ne 30, 3) := by decide +kernel
theorem dX12_newClause_66 : decode cX12_newClause 66 = .ok (.iload 8, 2) := by decide +kernel
theorem dX12_newClause_68 : decode cX12_newClause 68 = .ok (.ifCond .eq 29, 3) := by decide +kernel
theorem dX12_newClause_71 : decode cX12_newClause 71 = .ok (.aload_n 0, 1) := by decide +kernel
theorem dX12_newClause_72 : decode cX12_newClause 72 = .ok (.getfield 109, 3) := by decide +kernel
theorem dX12_newClause_75 : decode cX12_newClause 75 = .ok (.aload_n 0, 1) := by decide +kernel
theorem dX12_newClause_76 : decode cX12_newClause 76 = .ok (.getfield 133, 3) := by decide +kernel
theorem dX12_newClause_79 : decode cX12_newClause 79 = .ok (.iload 7, 2) := by decide +kernel
theorem dX12_newClause_81 : decode cX12_newClause 81 = .ok (.iaload, 1) := by decide +kernel
theorem dX12_newClause_82 : decode cX12_newClause 82 = .ok (.baload, 1) := by decide +kernel
theorem dX12_newClause_83 : decode cX12_newClause 83 = .ok (.aload_n 0, 1) := by decide +kernel
theorem dX12_newClause_84 : decode cX12_newClause 84 = .ok (.getfield 109, 3) := by decide +kernel
theorem dX12_newClause_87 : decode cX12_newClause 87 = .ok (.iload 5, 2) := by decide +kernel
theorem dX12_newClause_89 : decode cX12_newClause 89 = .ok (.baload, 1) := by decide +kernel
theorem dX12_newClause_90 : decode cX12_newClause 90 = .ok (.if_icmp .ne 7, 3) := by decide +kernel
theorem dX12_newClause_93 : decode cX12_newClause 93 = .ok (.iconst 1, 1) := by decide +kernel
theorem dX12_newClause_94 : decode cX12_newClause 94 = .ok (.goto 4, 3) := by decide +kernel
theorem dX12_newClause_97 : decode cX12_newClause 97 = .ok (.iconst 0, 1) := by decide +kernel
theorem dX12_newClause_98 : decode cX12_newClause 98 = .ok (.istore 6, 2) := by decide +kernel
theorem dX12_newClause_100 : decode cX12_newClause 100 = .ok (.iload_n 3, 1) := by decide +kernel
theorem dX12_newClause_101 : decode cX12_newClause 101 = .ok (.ifCond .ne 30, 3) := by decide +kernel
theorem dX12_newClause_104 : decode cX12_newClause 104 = .ok (.iload 8, 2) := by decide +kernel
theorem dX12_newClause_106 : decode cX12_newClause 106 = .ok (.ifCond .eq 29, 3) := by decide +kernel
theorem dX12_newClause_109 : decode cX12_newClause 109 = .ok (.aload_n 0, 1) := by decide +kernel
theorem dX12_newClause_110 : decode cX12_newClause 110 = .ok (.getfield 109, 3) := by decide +kernel
theorem dX12_newClause_113 : decode cX12_newClause 113 = .ok (.aload_n 0, 1) := by decide +kernel
theorem dX12_newClause_114 : decode cX12_newClause 114 = .ok (.getfield 133, 3) := by decide +kernel
theorem dX12_newClause_117 : decode cX12_newClause 117 = .ok (.iload 7, 2) := by decide +kernel
theorem dX12_newClause_119 : decode cX12_newClause 119 = .ok (.iaload, 1) := by decide +kernel
theorem dX12_newClause_120 : decode cX12_newClause 120 = .ok (.baload, 1) := by decide +kernel
theorem dX12_newClause_121 : decode cX12_newClause 121 = .ok (.aload_n 0, 1) := by decide +kernel
theorem dX12_newClause_122 : decode cX12_newClause 122 = .ok (.getfield 109, 3) := by decide +kernel
theorem dX12_newClause_125 : decode cX12_newClause 125 = .ok (.iload 5, 2) := by decide +kernel
theorem dX12_newClause_127 : decode cX12_newClause 127 = .ok (.baload, 1) := by decide +kernel
theorem dX12_newClause_128 : decode cX12_newClause 128 = .ok (.if_icmp .eq 7, 3) := by decide +kernel
theorem dX12_newClause_131 : decode cX12_newClause 131 = .ok (.iconst 1, 1) := by decide +kernel
theorem dX12_newClause_132 : decode cX12_newClause 132 = .ok (.goto 4, 3) := by decide +kernel
theorem dX12_newClause_135 : decode cX12_newClause 135 = .ok (.iconst 0, 1) := by decide +kernel
theorem dX12_newClause_136 : decode cX12_newClause 136 = .ok (.istore_n 3, 1) := by decide +kernel
theorem dX12_newClause_137 : decode cX12_newClause 137 = .ok (.iinc 7 1, 3) := by decide +kernel
theorem dX12_newClause_140 : decode cX12_newClause 140 = .ok (.goto (-100), 3) := by decide +kernel
theorem dX12_newClause_143 : decode cX12_newClause 143 = .ok (.iload 6, 2) := by decide +kernel
theorem dX12_newClause_145 : decode cX12_newClause 145 = .ok (.ifCond .ne 14, 3) := by decide +kernel
theorem dX12_newClause_148 : decode cX12_newClause 148 = .ok (.aload_n 0, 1) := by decide +kernel
theorem dX12_newClause_149 : decode cX12_newClause 149 = .ok (.getfield 133, 3) := by decide +kernel
theorem dX12_newClause_152 : decode cX12_newClause 152 = .ok (.iload_n 2, 1) := by decide +kernel
theorem dX12_newClause_153 : decode cX12_newClause 153 = .ok (.iload 5, 2) := by decide +kernel
theorem dX12_newClause_155 : decode cX12_newClause 155 = .ok (.iastore, 1) := by decide +kernel
theorem dX12_newClause_156 : decode cX12_newClause 156 = .ok (.iinc 2 1, 3) := by decide +kernel
theorem dX12_newClause_159 : decode cX12_newClause 159 = .ok (.iinc 4 1, 3) := by decide +kernel
theorem dX12_newClause_162 : decode cX12_newClause 162 = .ok (.goto (-155), 3) := by decide +kernel
theorem dX12_newClause_165 : decode cX12_newClause 165 = .ok (.iload_n 3, 1) := by decide +kernel
theorem dX12_newClause_166 : decode cX12_newClause 166 = .ok (.ifCond .eq 4, 3) := by decide +kernel
theorem dX12_newClause_169 : decode cX12_newClause 169 = .ok (.return_, 1) := by decide +kernel
theorem dX12_newClause_170 : decode cX12_newClause 170 = .ok (.iconst 0, 1) := by decide +kernel
theorem dX12_newClause_171 : decode cX12_newClause 171 = .ok (.istore 4, 2) := by decide +kernel
theorem dX12_newClause_173 : decode cX12_newClause 173 = .ok (.iconst 0, 1) := by decide +kernel
theorem dX12_newClause_174 : decode cX12_newClause 174 = .ok (.istore 5, 2) := by decide +kernel
theorem dX12_newClause_176 : decode cX12_newClause 176 = .ok (.iload 5, 2) := by decide +kernel
theorem dX12_newClause_178 : decode cX12_newClause 178 = .ok (.iload_n 2, 1) := by decide +kernel
theorem dX12_newClause_179 : decode cX12_newClause 179 = .ok (.if_icmp .ge 39, 3) := by decide +kernel
theorem dX12_newClause_182 : decode cX12_newClause 182 = .ok (.iload 4, 2) := by decide +kernel
theorem dX12_newClause_184 : decode cX12_newClause 184 = .ok (.aload_n 0, 1) := by decide +kernel
theorem dX12_newClause_185 : decode cX12_newClause 185 = .ok (.getfield 106, 3) := by decide +kernel
theorem dX12_newClause_188 : decode cX12_newClause 188 = .ok (.aload_n 0, 1) := by decide +kernel
theorem dX12_newClause_189 : decode cX12_newClause 189 = .ok (.getfield 133, 3) := by decide +kernel
theorem dX12_newClause_192 : decode cX12_newClause 192 = .ok (.iload 5, 2) := by decide +kernel
theorem dX12_newClause_194 : decode cX12_newClause 194 = .ok (.iaload, 1) := by decide +kernel
theorem dX12_newClause_195 : decode cX12_newClause 195 = .ok (.iaload, 1) := by decide +kernel
theorem dX12_newClause_196 : decode cX12_newClause 196 = .ok (.aload_n 0, 1) := by decide +kernel
theorem dX12_newClause_197 : decode cX12_newClause 197 = .ok (.getfield 103, 3) := by decide +kernel
theorem dX12_newClause_200 : decode cX12_newClause 200 = .ok (.aload_n 0, 1) := by decide +kernel
theorem dX12_newClause_201 : decode cX12_newClause 201 = .ok (.getfield 133, 3) := by decide +kernel
theorem dX12_newClause_204 : decode cX12_newClause 204 = .ok (.iload 5, 2) := by decide +kernel
theorem dX12_newClause_206 : decode cX12_newClause 206 = .ok (.iaload, 1) := by decide +kernel
theorem dX12_newClause_207 : decode cX12_newClause 207 = .ok (.iaload, 1) := by decide +kernel
theorem dX12_newClause_208 : decode cX12_newClause 208 = .ok (.isub, 1) := by decide +kernel
theorem dX12_newClause_209 : decode cX12_newClause 209 = .ok (.iadd, 1) := by decide +kernel
theorem dX12_newClause_210 : decode cX12_newClause 210 = .ok (.istore 4, 2) := by decide +kernel
theorem dX12_newClause_212 : decode cX12_newClause 212 = .ok (.iinc 5 1, 3) := by decide +kernel
theorem dX12_newClause_215 : decode cX12_newClause 215 = .ok (.goto (-39), 3) := by decide +kernel
theorem dX12_newClause_218 : decode cX12_newClause 218 = .ok (.iload 4, 2) := by decide +kernel
theorem dX12_newClause_220 : decode cX12_newClause 220 = .ok (.sipush 200, 3) := by decide +kernel
theorem dX12_newClause_223 : decode cX12_newClause 223 = .ok (.if_icmp .le 9, 3) := by decide +kernel
theorem dX12_newClause_226 : decode cX12_newClause 226 = .ok (.aload_n 0, 1) := by decide +kernel
theorem dX12_newClause_227 : decode cX12_newClause 227 = .ok (.iconst 1, 1) := by decide +kernel
theorem dX12_newClause_228 : decode cX12_newClause 228 = .ok (.putfield 370, 3) := by decide +kernel
theorem dX12_newClause_231 : decode cX12_newClause 231 = .ok (.return_, 1) := by decide +kernel
theorem dX12_newClause_232 : decode cX12_newClause 232 = .ok (.iconst 0, 1) := by decide +kernel
theorem dX12_newClause_233 : decode cX12_newClause 233 = .ok (.istore 5, 2) := by decide +kernel
theorem dX12_newClause_235 : decode cX12_newClause 235 = .ok (.aload_n 0, 1) := by decide +kernel
theorem dX12_newClause_236 : decode cX12_newClause 236 = .ok (.getfield 28, 3) := by decide +kernel
theorem dX12_newClause_239 : decode cX12_newClause 239 = .ok (.aload_n 0, 1) := by decide +kernel
theorem dX12_newClause_240 : decode cX12_newClause 240 = .ok (.getfield 445, 3) := by decide +kernel
theorem dX12_newClause_243 : decode cX12_newClause 243 = .ok (.aload_n 0, 1) := by decide +kernel
theorem dX12_newClause_244 : decode cX12_newClause 244 = .ok (.getfield 448, 3) := by decide +kernel
theorem dX12_newClause_247 : decode cX12_newClause 247 = .ok (.iastore, 1) := by decide +kernel
theorem dX12_newClause_248 : decode cX12_newClause 248 = .ok (.aload_n 0, 1) := by decide +kernel
theorem dX12_newClause_249 : decode cX12_newClause 249 = .ok (.getfield 31, 3) := by decide +kernel
theorem dX12_newClause_252 : decode cX12_newClause 252 = .ok (.aload_n 0, 1) := by decide +kernel
theorem dX12_newClause_253 : decode cX12_newClause 253 = .ok (.getfield 445, 3) := by decide +kernel
theorem dX12_newClause_256 : decode cX12_newClause 256 = .ok (.iload_n 2, 1) := by decide +kernel
theorem dX12_newClause_257 : decode cX12_newClause 257 = .ok (.iastore, 1) := by decide +kernel
theorem dX12_newClause_258 : decode cX12_newClause 258 = .ok (.iconst 0, 1) := by decide +kernel
theorem dX12_newClause_259 : decode cX12_newClause 259 = .ok (.istore 6, 2) := by decide +kernel
theorem dX12_newClause_261 : decode cX12_newClause 261 = .ok (.iload 6, 2) := by decide +kernel
theorem dX12_newClause_263 : decode cX12_newClause 263 = .ok (.iload_n 2, 1) := by decide +kernel
theorem dX12_newClause_264 : decode cX12_newClause 264 = .ok (.if_icmp .ge 194, 3) := by decide +kernel
theorem dX12_newClause_267 : decode cX12_newClause 267 = .ok (.aload_n 0, 1) := by decide +kernel
theorem dX12_newClause_268 : decode cX12_newClause 268 = .ok (.getfield 133, 3) := by decide +kernel
theorem dX12_newClause_271 : decode cX12_newClause 271 = .ok (.iload 6, 2) := by decide +kernel
theorem dX12_newClause_273 : decode cX12_newClause 273 = .ok (.iaload, 1) := by decide +kernel
theorem dX12_newClause_274 : decode cX12_newClause 274 = .ok (.istore 7, 2) := by decide +kernel
theorem dX12_newClause_276 : decode cX12_newClause 276 = .ok (.aload_n 0, 1) := by decide +kernel
theorem dX12_newClause_277 : decode cX12_newClause 277 = .ok (.getfield 37, 3) := by decide +kernel
theorem dX12_newClause_280 : decode cX12_newClause 280 = .ok (.aload_n 0, 1) := by decide +kernel
theorem dX12_newClause_281 : decode cX12_newClause 281 = .ok (.getfield 448, 3) := by decide +kernel
theorem dX12_newClause_284 : decode cX12_newClause 284 = .ok (.aload_n 0, 1) := by decide +kernel
theorem dX12_newClause_285 : decode cX12_newClause 285 = .ok (.getfield 109, 3) := by decide +kernel
theorem dX12_newClause_288 : decode cX12_newClause 288 = .ok (.iload 7, 2) := by decide +kernel
theorem dX12_newClause_290 : decode cX12_newClause 290 = .ok (.baload, 1) := by decide +kernel
theorem dX12_newClause_291 : decode cX12_newClause 291 = .ok (.bastore, 1) := by decide +kernel
theorem dX12_newClause_292 : decode cX12_newClause 292 = .ok (.aload_n 0, 1) := by decide +kernel
theorem dX12_newClause_293 : decode cX12_newClause 293 = .ok (.getfield 40, 3) := by decide +kernel
theorem dX12_newClause_296 : decode cX12_newClause 296 = .ok (.aload_n 0, 1) := by decide +kernel
theorem dX12_newClause_297 : decode cX12_newClause 297 = .ok (.getfield 448, 3) := by decide +kernel
theorem dX12_newClause_300 : decode cX12_newClause 300 = .ok (.aload_n 0, 1) := by decide +kernel
theorem dX12_newClause_301 : decode cX12_newClause 301 = .ok (.getfield 451, 3) := by decide +kernel
theorem dX12_newClause_304 : decode cX12_newClause 304 = .ok (.iastore, 1) := by decide +kernel
theorem dX12_newClause_305 : decode cX12_newClause 305 = .ok (.aload_n 0, 1) := by decide +kernel
theorem dX12_newClause_306 : decode cX12_newClause 306 = .ok (.dup, 1) := by decide +kernel
theorem dX12_newClause_307 : decode cX12_newClause 307 = .ok (.getfield 448, 3) := by decide +kernel
theorem dX12_newClause_310 : decode cX12_newClause 310 = .ok (.iconst 1, 1) := by decide +kernel
theorem dX12_newClause_311 : decode cX12_newClause 311 = .ok (.iadd, 1) := by decide +kernel
theorem dX12_newClause_312 : decode cX12_newClause 312 = .ok (.putfield 448, 3) := by decide +kernel
theorem dX12_newClause_315 : decode cX12_newClause 315 = .ok (.aload_n 0, 1) := by decide +kernel
theorem dX12_newClause_316 : decode cX12_newClause 316 = .ok (.getfield 103, 3) := by decide +kernel
theorem dX12_newClause_319 : decode cX12_newClause 319 = .ok (.iload 7, 2) := by decide +kernel
theorem dX12_newClause_321 : decode cX12_newClause 321 = .ok (.iaload, 1) := by decide +kernel
theorem dX12_newClause_322 : decode cX12_newClause 322 = .ok (.istore 8, 2) := by decide +kernel
theorem dX12_newClause_324 : decode cX12_newClause 324 = .ok (.iload 8, 2) := by decide +kernel
theorem dX12_newClause_326 : decode cX12_newClause 326 = .ok (.aload_n 0, 1) := by decide +kernel
theorem dX12_newClause_327 : decode cX12_newClause 327 = .ok (.getfield 106, 3) := by decide +kernel
theorem dX12_newClause_330 : decode cX12_newClause 330 = .ok (.iload 7, 2) := by decide +kernel
theorem dX12_newClause_332 : decode cX12_newClause 332 = .ok (.iaload, 1) := by decide +kernel
theorem dX12_newClause_333 : decode cX12_newClause 333 = .ok (.if_icmp .ge 119, 3) := by decide +kernel
theorem dX12_newClause_336 : decode cX12_newClause 336 = .ok (.aload_n 0, 1) := by decide +kernel
theorem dX12_newClause_337 : decode cX12_newClause 337 = .ok (.getfield 112, 3) := by decide +kernel
theorem dX12_newClause_340 : decode cX12_newClause 340 = .ok (.iload 8, 2) := by decide +kernel
theorem dX12_newClause_342 : decode cX12_newClause 342 = .ok (.iaload, 1) := by decide +kernel
theorem dX12_newClause_343 : decode cX12_newClause 343 = .ok (.istore 9, 2) := by decide +kernel
theorem dX12_newClause_345 : decode cX12_newClause 345 = .ok (.iload 9, 2) := by decide +kernel
theorem dX12_newClause_347 : decode cX12_newClause 347 = .ok (.ifCond .ge 63, 3) := by decide +kernel
theorem dX12_newClause_350 : decode cX12_newClause 350 = .ok (.iconst 0, 1) := by decide +kernel
theorem dX12_newClause_351 : decode cX12_newClause 351 = .ok (.istore 10, 2) := by decide +kernel
theorem dX12_newClause_353 : decode cX12_newClause 353 = .ok (.iload 10, 2) := by decide +kernel
theorem dX12_newClause_355 : decode cX12_newClause 355 = .ok (.iload 5, 2) := by decide +kernel
theorem dX12_newClause_357 : decode cX12_newClause 357 = .ok (.if_icmp .ge 21, 3) := by decide +kernel
theorem dX12_newClause_360 : decode cX12_newClause 360 = .ok (.aload_n 0, 1) := by decide +kernel
theorem dX12_newClause_361 : decode cX12_newClause 361 = .ok (.getfield 136, 3) := by decide +kernel
theorem dX12_newClause_364 : decode cX12_newClause 364 = .ok (.iload 10, 2) := by decide +kernel
theorem dX12_newClause_366 : decode cX12_newClause 366 = .ok (.iaload, 1) := by decide +kernel
theorem dX12_newClause_367 : decode cX12_newClause 367 = .ok (.iload 9, 2) := by decide +kernel
theorem dX12_newClause_369 : decode cX12_newClause 369 = .ok (.if_icmp .eq 9, 3) := by decide +kernel
theorem dX12_newClause_372 : decode cX12_newClause 372 = .ok (.iinc 10 1, 3) := by decide +kernel
theorem dX12_newClause_375 : decode cX12_newClause 375 = .ok (.goto (-22), 3) := by decide +kernel
theorem dX12_newClause_378 : decode cX12_newClause 378 = .ok (.aload_n 0, 1) := by decide +kernel
theorem dX12_newClause_379 : decode cX12_newClause 379 = .ok (.getfield 136, 3) := by decide +kernel
theorem dX12_newClause_382 : decode cX12_newClause 382 = .ok (.iload 10, 2) := by decide +kernel
theorem dX12_newClause_384 : decode cX12_newClause 384 = .ok (.iload 9, 2) := by decide +kernel
theorem dX12_newClause_386 : decode cX12_newClause 386 = .ok (.iastore, 1) := by decide +kernel
theorem dX12_newClause_387 : decode cX12_newClause 387 = .ok (.iload 5, 2) := by decide +kernel
theorem dX12_newClause_389 : decode cX12_newClause 389 = .ok (.iload 10, 2) := by decide +kernel
theorem dX12_newClause_391 : decode cX12_newClause 391 = .ok (.iload 5, 2) := by decide +kernel
theorem dX12_newClause_393 : decode cX12_newClause 393 = .ok (.if_icmp .ne 7, 3) := by decide +kernel
theorem dX12_newClause_396 : decode cX12_newClause 396 = .ok (.iconst 1, 1) := by decide +kernel
theorem dX12_newClause_397 : decode cX12_newClause 397 = .ok (.goto 4, 3) := by decide +kernel
theorem dX12_newClause_400 : decode cX12_newClause 400 = .ok (.iconst 0, 1) := by decide +kernel
theorem dX12_newClause_401 : decode cX12_newClause 401 = .ok (.iadd, 1) := by decide +kernel
theorem dX12_newClause_402 : decode cX12_newClause 402 = .ok (.istore 5, 2) := by decide +kernel
theorem dX12_newClause_404 : decode cX12_newClause 404 = .ok (.iconst (-1), 1) := by decide +kernel
theorem dX12_newClause_405 : decode cX12_newClause 405 = .ok (.iload 10, 2) := by decide +kernel
theorem dX12_newClause_407 : decode cX12_newClause 407 = .ok (.isub, 1) := by decide +kernel
theorem dX12_newClause_408 : decode cX12_newClause 408 = .ok (.istore 9, 2) := by decide +kernel
theorem dX12_newClause_410 : decode cX12_newClause 410 = .ok (.aload_n 0, 1) := by decide +kernel
theorem dX12_newClause_411 : decode cX12_newClause 411 = .ok (.getfield 43, 3) := by decide +kernel
theorem dX12_newClause_414 : decode cX12_newClause 414 = .ok (.aload_n 0, 1) := by decide +kernel
theorem dX12_newClause_415 : decode cX12_newClause 415 = .ok (.getfield 451, 3) := by decide +kernel
theorem dX12_newClause_418 : decode cX12_newClause 418 = .ok (.iload 9, 2) := by decide +kernel
theorem dX12_newClause_420 : decode cX12_newClause 420 = .ok (.iastore, 1) := by decide +kernel
theorem dX12_newClause_421 : decode cX12_newClause 421 = .ok (.aload_n 0, 1) := by decide +kernel
theorem dX12_newClause_422 : decode cX12_newClause 422 = .ok (.getfield 49, 3) := by decide +kernel
theorem dX12_newClause_425 : decode cX12_newClause 425 = .ok (.aload_n 0, 1) := by decide +kernel
theorem dX12_newClause_426 : decode cX12_newClause 426 = .ok (.getfield 451, 3) := by decide +kernel
theorem dX12_newClause_429 : decode cX12_newClause 429 = .ok (.aload_n 0, 1) := by decide +kernel
theorem dX12_newClause_430 : decode cX12_newClause 430 = .ok (.iload 9, 2) := by decide +kernel
theorem dX12_newClause_432 : decode cX12_newClause 432 = .ok (.invokevirtual 454, 3) := by decide +kernel
theorem dX12_newClause_435 : decode cX12_newClause 435 = .ok (.iastore, 1) := by decide +kernel
theorem dX12_newClause_436 : decode cX12_newClause 436 = .ok (.aload_n 0, 1) := by decide +kernel
theorem dX12_newClause_437 : decode cX12_newClause 437 = .ok (.dup, 1) := by decide +kernel
theorem dX12_newClause_438 : decode cX12_newClause 438 = .ok (.getfield 451, 3) := by decide +kernel
theorem dX12_newClause_441 : decode cX12_newClause 441 = .ok (.iconst 1, 1) := by decide +kernel
theorem dX12_newClause_442 : decode cX12_newClause 442 = .ok (.iadd, 1) := by decide +kernel
theorem dX12_newClause_443 : decode cX12_newClause 443 = .ok (.putfield 451, 3) := by decide +kernel
theorem dX12_newClause_446 : decode cX12_newClause 446 = .ok (.iinc 8 1, 3) := by decide +kernel
theorem dX12_newClause_449 : decode cX12_newClause 449 = .ok (.goto (-125), 3) := by decide +kernel
theorem dX12_newClause_452 : decode cX12_newClause 452 = .ok (.iinc 6 1, 3) := by decide +kernel
theorem dX12_newClause_455 : decode cX12_newClause 455 = .ok (.goto (-194), 3) := by decide +kernel
theorem dX12_newClause_458 : decode cX12_newClause 458 = .ok (.aload_n 0, 1) := by decide +kernel
theorem dX12_newClause_459 : decode cX12_newClause 459 = .ok (.getfield 451, 3) := by decide +kernel
theorem dX12_newClause_462 : decode cX12_newClause 462 = .ok (.iconst 1, 1) := by decide +kernel
theorem dX12_newClause_463 : decode cX12_newClause 463 = .ok (.isub, 1) := by decide +kernel
theorem dX12_newClause_464 : decode cX12_newClause 464 = .ok (.istore 6, 2) := by decide +kernel
theorem dX12_newClause_466 : decode cX12_newClause 466 = .ok (.iload 6, 2) := by decide +kernel
theorem dX12_newClause_468 : decode cX12_newClause 468 = .ok (.aload_n 0, 1) := by decide +kernel
theorem dX12_newClause_469 : decode cX12_newClause 469 = .ok (.getfield 451, 3) := by decide +kernel
theorem dX12_newClause_472 : decode cX12_newClause 472 = .ok (.iload 4, 2) := by decide +kernel
theorem dX12_newClause_474 : decode cX12_newClause 474 = .ok (.isub, 1) := by decide +kernel
theorem dX12_newClause_475 : decode cX12_newClause 475 = .ok (.if_icmp .lt 54, 3) := by decide +kernel
theorem dX12_newClause_478 : decode cX12_newClause 478 = .ok (.iload 6, 2) := by decide +kernel
theorem dX12_newClause_480 : decode cX12_newClause 480 = .ok (.iconst 1, 1) := by decide +kernel
theorem dX12_newClause_481 : decode cX12_newClause 481 = .ok (.iadd, 1) := by decide +kernel
theorem dX12_newClause_482 : decode cX12_newClause 482 = .ok (.istore 7, 2) := by decide +kernel
theorem dX12_newClause_484 : decode cX12_newClause 484 = .ok (.iconst 0, 1) := by decide +kernel
theorem dX12_newClause_485 : decode cX12_newClause 485 = .ok (.istore 8, 2) := by decide +kernel
theorem dX12_newClause_487 : decode cX12_newClause 487 = .ok (.iload 8, 2) := by decide +kernel
theorem dX12_newClause_489 : decode cX12_newClause 489 = .ok (.aload_n 0, 1) := by decide +kernel
theorem dX12_newClause_490 : decode cX12_newClause 490 = .ok (.getfield 49, 3) := by decide +kernel
theorem dX12_newClause_493 : decode cX12_newClause 493 = .ok (.iload 6, 2) := by decide +kernel
theorem dX12_newClause_495 : decode cX12_newClause 495 = .ok (.iaload, 1) := by decide +kernel
theorem dX12_newClause_496 : decode cX12_newClause 496 = .ok (.if_icmp .ge 18, 3) := by decide +kernel
theorem dX12_newClause_499 : decode cX12_newClause 499 = .ok (.aload_n 0, 1) := by decide +kernel
