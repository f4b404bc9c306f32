theorem dX12_init_91 : decode cX12_init 91 = .ok (.sipush 4096, 3) := by decide +kernel
theorem dX12_init_94 : decode cX12_init 94 = .ok (.newarray .int, 2) := by decide +kernel
theorem dX12_init_96 : decode cX12_init 96 = .ok (.putfield 226, 3) := by decide +kernel
theorem dX12_init_99 : decode cX12_init 99 = .ok (.aload_n 0, 1) := by decide +kernel
theorem dX12_init_100 : decode cX12_init 100 = .ok (.bipush 32, 2) := by decide +kernel
theorem dX12_init_102 : decode cX12_init 102 = .ok (.newarray .int, 2) := by decide +kernel
theorem dX12_init_104 : decode cX12_init 104 = .ok (.putfield 213, 3) := by decide +kernel
theorem dX12_init_107 : decode cX12_init 107 = .ok (.aload_n 0, 1) := by decide +kernel
theorem dX12_init_108 : decode cX12_init 108 = .ok (.bipush 8, 2) := by decide +kernel
theorem dX12_init_110 : decode cX12_init 110 = .ok (.newarray .int, 2) := by decide +kernel
theorem dX12_init_112 : decode cX12_init 112 = .ok (.putfield 234, 3) := by decide +kernel
theorem dX12_init_115 : decode cX12_init 115 = .ok (.aload_n 0, 1) := by decide +kernel
theorem dX12_init_116 : decode cX12_init 116 = .ok (.iconst (-1), 1) := by decide +kernel
theorem dX12_init_117 : decode cX12_init 117 = .ok (.putfield 237, 3) := by decide +kernel
theorem dX12_init_120 : decode cX12_init 120 = .ok (.aload_n 0, 1) := by decide +kernel
theorem dX12_init_121 : decode cX12_init 121 = .ok (.iload_n 1, 1) := by decide +kernel
theorem dX12_init_122 : decode cX12_init 122 = .ok (.iconst 1, 1) := by decide +kernel
theorem dX12_init_123 : decode cX12_init 123 = .ok (.bipush 6, 2) := by decide +kernel
theorem dX12_init_125 : decode cX12_init 125 = .ok (.invokestatic 240, 3) := by decide +kernel
theorem dX12_init_128 : decode cX12_init 128 = .ok (.putfield 243, 3) := by decide +kernel
theorem dX12_init_131 : decode cX12_init 131 = .ok (.aload_n 0, 1) := by decide +kernel
theorem dX12_init_132 : decode cX12_init 132 = .ok (.iload_n 2, 1) := by decide +kernel
theorem dX12_init_133 : decode cX12_init 133 = .ok (.iconst 1, 1) := by decide +kernel
theorem dX12_init_134 : decode cX12_init 134 = .ok (.iconst 4, 1) := by decide +kernel
theorem dX12_init_135 : decode cX12_init 135 = .ok (.invokestatic 240, 3) := by decide +kernel
theorem dX12_init_138 : decode cX12_init 138 = .ok (.putfield 246, 3) := by decide +kernel
theorem dX12_init_141 : decode cX12_init 141 = .ok (.aload_n 0, 1) := by decide +kernel
theorem dX12_init_142 : decode cX12_init 142 = .ok (.iload_n 3, 1) := by decide +kernel
theorem dX12_init_143 : decode cX12_init 143 = .ok (.iconst 1, 1) := by decide +kernel
theorem dX12_init_144 : decode cX12_init 144 = .ok (.bipush 64, 2) := by decide +kernel
theorem dX12_init_146 : decode cX12_init 146 = .ok (.invokestatic 240, 3) := by decide +kernel
theorem dX12_init_149 : decode cX12_init 149 = .ok (.putfield 249, 3) := by decide +kernel
theorem dX12_init_152 : decode cX12_init 152 = .ok (.aload_n 0, 1) := by decide +kernel
theorem dX12_init_153 : decode cX12_init 153 = .ok (.iload 4, 2) := by decide +kernel
theorem dX12_init_155 : decode cX12_init 155 = .ok (.iconst 1, 1) := by decide +kernel
theorem dX12_init_156 : decode cX12_init 156 = .ok (.bipush 64, 2) := by decide +kernel
theorem dX12_init_158 : decode cX12_init 158 = .ok (.invokestatic 240, 3) := by decide +kernel
theorem dX12_init_161 : decode cX12_init 161 = .ok (.putfield 252, 3) := by decide +kernel
theorem dX12_init_164 : decode cX12_init 164 = .ok (.aload_n 0, 1) := by decide +kernel
theorem dX12_init_165 : decode cX12_init 165 = .ok (.getfield 243, 3) := by decide +kernel
theorem dX12_init_168 : decode cX12_init 168 = .ok (.istore 5, 2) := by decide +kernel
theorem dX12_init_170 : decode cX12_init 170 = .ok (.aload_n 0, 1) := by decide +kernel
theorem dX12_init_171 : decode cX12_init 171 = .ok (.aload_n 0, 1) := by decide +kernel
theorem dX12_init_172 : decode cX12_init 172 = .ok (.getfield 246, 3) := by decide +kernel
theorem dX12_init_175 : decode cX12_init 175 = .ok (.sipush 4096, 3) := by decide +kernel
theorem dX12_init_178 : decode cX12_init 178 = .ok (.multianewarray 255 2, 4) := by decide +kernel
theorem dX12_init_182 : decode cX12_init 182 = .ok (.putfield 257, 3) := by decide +kernel
theorem dX12_init_185 : decode cX12_init 185 = .ok (.aload_n 0, 1) := by decide +kernel
theorem dX12_init_186 : decode cX12_init 186 = .ok (.iload 5, 2) := by decide +kernel
theorem dX12_init_188 : decode cX12_init 188 = .ok (.sipush 4096, 3) := by decide +kernel
theorem dX12_init_191 : decode cX12_init 191 = .ok (.multianewarray 255 2, 4) := by decide +kernel
theorem dX12_init_195 : decode cX12_init 195 = .ok (.putfield 260, 3) := by decide +kernel
theorem dX12_init_198 : decode cX12_init 198 = .ok (.aload_n 0, 1) := by decide +kernel
theorem dX12_init_199 : decode cX12_init 199 = .ok (.iload 5, 2) := by decide +kernel
theorem dX12_init_201 : decode cX12_init 201 = .ok (.sipush 1024, 3) := by decide +kernel
theorem dX12_init_204 : decode cX12_init 204 = .ok (.multianewarray 255 2, 4) := by decide +kernel
theorem dX12_init_208 : decode cX12_init 208 = .ok (.putfield 263, 3) := by decide +kernel
theorem dX12_init_211 : decode cX12_init 211 = .ok (.aload_n 0, 1) := by decide +kernel
theorem dX12_init_212 : decode cX12_init 212 = .ok (.aload_n 0, 1) := by decide +kernel
theorem dX12_init_213 : decode cX12_init 213 = .ok (.getfield 246, 3) := by decide +kernel
theorem dX12_init_216 : decode cX12_init 216 = .ok (.newarray .int, 2) := by decide +kernel
theorem dX12_init_218 : decode cX12_init 218 = .ok (.putfield 266, 3) := by decide +kernel
theorem dX12_init_221 : decode cX12_init 221 = .ok (.aload_n 0, 1) := by decide +kernel
theorem dX12_init_222 : decode cX12_init 222 = .ok (.aload_n 0, 1) := by decide +kernel
theorem dX12_init_223 : decode cX12_init 223 = .ok (.getfield 246, 3) := by decide +kernel
theorem dX12_init_226 : decode cX12_init 226 = .ok (.newarray .boolean, 2) := by decide +kernel
theorem dX12_init_228 : decode cX12_init 228 = .ok (.putfield 269, 3) := by decide +kernel
theorem dX12_init_231 : decode cX12_init 231 = .ok (.aload_n 0, 1) := by decide +kernel
theorem dX12_init_232 : decode cX12_init 232 = .ok (.aload_n 0, 1) := by decide +kernel
theorem dX12_init_233 : decode cX12_init 233 = .ok (.getfield 246, 3) := by decide +kernel
theorem dX12_init_236 : decode cX12_init 236 = .ok (.newarray .boolean, 2) := by decide +kernel
theorem dX12_init_238 : decode cX12_init 238 = .ok (.putfield 272, 3) := by decide +kernel
theorem dX12_init_241 : decode cX12_init 241 = .ok (.iconst 0, 1) := by decide +kernel
theorem dX12_init_242 : decode cX12_init 242 = .ok (.istore 6, 2) := by decide +kernel
theorem dX12_init_244 : decode cX12_init 244 = .ok (.iload 6, 2) := by decide +kernel
theorem dX12_init_246 : decode cX12_init 246 = .ok (.aload_n 0, 1) := by decide +kernel
theorem dX12_init_247 : decode cX12_init 247 = .ok (.getfield 246, 3) := by decide +kernel
theorem dX12_init_250 : decode cX12_init 250 = .ok (.if_icmp .ge 17, 3) := by decide +kernel
theorem dX12_init_253 : decode cX12_init 253 = .ok (.aload_n 0, 1) := by decide +kernel
theorem dX12_init_254 : decode cX12_init 254 = .ok (.getfield 266, 3) := by decide +kernel
theorem dX12_init_257 : decode cX12_init 257 = .ok (.iload 6, 2) := by decide +kernel
theorem dX12_init_259 : decode cX12_init 259 = .ok (.iconst (-1), 1) := by decide +kernel
theorem dX12_init_260 : decode cX12_init 260 = .ok (.iastore, 1) := by decide +kernel
theorem dX12_init_261 : decode cX12_init 261 = .ok (.iinc 6 1, 3) := by decide +kernel
theorem dX12_init_264 : decode cX12_init 264 = .ok (.goto (-20), 3) := by decide +kernel
theorem dX12_init_267 : decode cX12_init 267 = .ok (.aload_n 0, 1) := by decide +kernel
theorem dX12_init_268 : decode cX12_init 268 = .ok (.iload 5, 2) := by decide +kernel
theorem dX12_init_270 : decode cX12_init 270 = .ok (.newarray .int, 2) := by decide +kernel
theorem dX12_init_272 : decode cX12_init 272 = .ok (.putfield 275, 3) := by decide +kernel
theorem dX12_init_275 : decode cX12_init 275 = .ok (.aload_n 0, 1) := by decide +kernel
theorem dX12_init_276 : decode cX12_init 276 = .ok (.iload 5, 2) := by decide +kernel
theorem dX12_init_278 : decode cX12_init 278 = .ok (.newarray .int, 2) := by decide +kernel
theorem dX12_init_280 : decode cX12_init 280 = .ok (.putfield 278, 3) := by decide +kernel
theorem dX12_init_283 : decode cX12_init 283 = .ok (.aload_n 0, 1) := by decide +kernel
theorem dX12_init_284 : decode cX12_init 284 = .ok (.iload 5, 2) := by decide +kernel
theorem dX12_init_286 : decode cX12_init 286 = .ok (.newarray .int, 2) := by decide +kernel
theorem dX12_init_288 : decode cX12_init 288 = .ok (.putfield 281, 3) := by decide +kernel
theorem dX12_init_291 : decode cX12_init 291 = .ok (.aload_n 0, 1) := by decide +kernel
theorem dX12_init_292 : decode cX12_init 292 = .ok (.iload 5, 2) := by decide +kernel
theorem dX12_init_294 : decode cX12_init 294 = .ok (.newarray .int, 2) := by decide +kernel
theorem dX12_init_296 : decode cX12_init 296 = .ok (.putfield 284, 3) := by decide +kernel
theorem dX12_init_299 : decode cX12_init 299 = .ok (.aload_n 0, 1) := by decide +kernel
theorem dX12_init_300 : decode cX12_init 300 = .ok (.iload 5, 2) := by decide +kernel
theorem dX12_init_302 : decode cX12_init 302 = .ok (.newarray .int, 2) := by decide +kernel
theorem dX12_init_304 : decode cX12_init 304 = .ok (.putfield 287, 3) := by decide +kernel
theorem dX12_init_307 : decode cX12_init 307 = .ok (.aload_n 0, 1) := by decide +kernel
theorem dX12_init_308 : decode cX12_init 308 = .ok (.iload 5, 2) := by decide +kernel
theorem dX12_init_310 : decode cX12_init 310 = .ok (.newarray .int, 2) := by decide +kernel
theorem dX12_init_312 : decode cX12_init 312 = .ok (.putfield 290, 3) := by decide +kernel
theorem dX12_init_315 : decode cX12_init 315 = .ok (.aload_n 0, 1) := by decide +kernel
theorem dX12_init_316 : decode cX12_init 316 = .ok (.iload 5, 2) := by decide +kernel
theorem dX12_init_318 : decode cX12_init 318 = .ok (.newarray .int, 2) := by decide +kernel
theorem dX12_init_320 : decode cX12_init 320 = .ok (.putfield 293, 3) := by decide +kernel
theorem dX12_init_323 : decode cX12_init 323 = .ok (.aload_n 0, 1) := by decide +kernel
theorem dX12_init_324 : decode cX12_init 324 = .ok (.iload 5, 2) := by decide +kernel
theorem dX12_init_326 : decode cX12_init 326 = .ok (.newarray .int, 2) := by decide +kernel
theorem dX12_init_328 : decode cX12_init 328 = .ok (.putfield 296, 3) := by decide +kernel
theorem dX12_init_331 : decode cX12_init 331 = .ok (.aload_n 0, 1) := by decide +kernel
theorem dX12_init_332 : decode cX12_init 332 = .ok (.iload 5, 2) := by decide +kernel
theorem dX12_init_334 : decode cX12_init 334 = .ok (.bipush 16, 2) := by decide +kernel
theorem dX12_init_336 : decode cX12_init 336 = .ok (.multianewarray 255 2, 4) := by decide +kernel
theorem dX12_init_340 : decode cX12_init 340 = .ok (.putfield 299, 3) := by decide +kernel
theorem dX12_init_343 : decode cX12_init 343 = .ok (.aload_n 0, 1) := by decide +kernel
theorem dX12_init_344 : decode cX12_init 344 = .ok (.iload 5, 2) := by decide +kernel
theorem dX12_init_346 : decode cX12_init 346 = .ok (.newarray .int, 2) := by decide +kernel
theorem dX12_init_348 : decode cX12_init 348 = .ok (.putfield 302, 3) := by decide +kernel
theorem dX12_init_351 : decode cX12_init 351 = .ok (.aload_n 0, 1) := by decide +kernel
theorem dX12_init_352 : decode cX12_init 352 = .ok (.iload 5, 2) := by decide +kernel
theorem dX12_init_354 : decode cX12_init 354 = .ok (.newarray .int, 2) := by decide +kernel
theorem dX12_init_356 : decode cX12_init 356 = .ok (.putfield 305, 3) := by decide +kernel
theorem dX12_init_359 : decode cX12_init 359 = .ok (.aload_n 0, 1) := by decide +kernel
theorem dX12_init_360 : decode cX12_init 360 = .ok (.iload 5, 2) := by decide +kernel
theorem dX12_init_362 : decode cX12_init 362 = .ok (.bipush 16, 2) := by decide +kernel
theorem dX12_init_364 : decode cX12_init 364 = .ok (.multianewarray 255 2, 4) := by decide +kernel
theorem dX12_init_368 : decode cX12_init 368 = .ok (.putfield 308, 3) := by decide +kernel
theorem dX12_init_371 : decode cX12_init 371 = .ok (.aload_n 0, 1) := by decide +kernel
theorem dX12_init_372 : decode cX12_init 372 = .ok (.iload 5, 2) := by decide +kernel
theorem dX12_init_374 : decode cX12_init 374 = .ok (.newarray .int, 2) := by decide +kernel
theorem dX12_init_376 : decode cX12_init 376 = .ok (.putfield 311, 3) := by decide +kernel
theorem dX12_init_379 : decode cX12_init 379 = .ok (.aload_n 0, 1) := by decide +kernel
theorem dX12_init_380 : decode cX12_init 380 = .ok (.iload 5, 2) := by decide +kernel
theorem dX12_init_382 : decode cX12_init 382 = .ok (.sipush 500, 3) := by decide +kernel
theorem dX12_init_385 : decode cX12_init 385 = .ok (.multianewarray 255 2, 4) := by decide +kernel
theorem dX12_init_389 : decode cX12_init 389 = .ok (.putfield 314, 3) := by decide +kernel
theorem dX12_init_392 : decode cX12_init 392 = .ok (.aload_n 0, 1) := by decide +kernel
theorem dX12_init_393 : decode cX12_init 393 = .ok (.iload 5, 2) := by decide +kernel
theorem dX12_init_395 : decode cX12_init 395 = .ok (.newarray .int, 2) := by decide +kernel
theorem dX12_init_397 : decode cX12_init 397 = .ok (.putfield 317, 3) := by decide +kernel
theorem dX12_init_400 : decode cX12_init 400 = .ok (.aload_n 0, 1) := by decide +kernel
theorem dX12_init_401 : decode cX12_init 401 = .ok (.iload 5, 2) := by decide +kernel
theorem dX12_init_403 : decode cX12_init 403 = .ok (.newarray .int, 2) := by decide +kernel
theorem dX12_init_405 : decode cX12_init 405 = .ok (.putfield 320, 3) := by decide +kernel
theorem dX12_init_408 : decode cX12_init 408 = .ok (.aload_n 0, 1) := by decide +kernel
theorem dX12_init_409 : decode cX12_init 409 = .ok (.iload 5, 2) := by decide +kernel
theorem dX12_init_411 : decode cX12_init 411 = .ok (.newarray .int, 2) := by decide +kernel
theorem dX12_init_413 : decode cX12_init 413 = .ok (.putfield 323, 3) := by decide +kernel
theorem dX12_init_416 : decode cX12_init 416 = .ok (.aload_n 0, 1) := by decide +kernel
theorem dX12_init_417 : decode cX12_init 417 = .ok (.iload 5, 2) := by decide +kernel
theorem dX12_init_419 : decode cX12_init 419 = .ok (.newarray .int, 2) := by decide +kernel
theorem dX12_init_421 : decode cX12_init 421 = .ok (.putfield 326, 3) := by decide +kernel
theorem dX12_init_424 : decode cX12_init 424 = .ok (.aload_n 0, 1) := by decide +kernel
theorem dX12_init_425 : decode cX12_init 425 = .ok (.iload 5, 2) := by decide +kernel
theorem dX12_init_427 : decode cX12_init 427 = .ok (.newarray .int, 2) := by decide +kernel
theorem dX12_init_429 : decode cX12_init 429 = .ok (.putfield 329, 3) := by decide +kernel
theorem dX12_init_432 : decode cX12_init 432 = .ok (.aload_n 0, 1) := by decide +kernel
theorem dX12_init_433 : decode cX12_init 433 = .ok (.iload 5, 2) := by decide +kernel
theorem dX12_init_435 : decode cX12_init 435 = .ok (.newarray .int, 2) := by decide +kernel
theorem dX12_init_437 : decode cX12_init 437 = .ok (.putfield 332, 3) := by decide +kernel
theorem dX12_init_440 : decode cX12_init 440 = .ok (.aload_n 0, 1) := by decide +kernel
theorem dX12_init_441 : decode cX12_init 441 = .ok (.iload 5, 2) := by decide +kernel
theorem dX12_init_443 : decode cX12_init 443 = .ok (.newarray .boolean, 2) := by decide +kernel
theorem dX12_init_445 : decode cX12_init 445 = .ok (.putfield 335, 3) := by decide +kernel
theorem dX12_init_448 : decode cX12_init 448 = .ok (.iconst 0, 1) := by decide +kernel
theorem dX12_init_449 : decode cX12_init 449 = .ok (.istore 6, 2) := by decide +kernel
theorem dX12_init_451 : decode cX12_init 451 = .ok (.iload 6, 2) := by decide +kernel
theorem dX12_init_453 : decode cX12_init 453 = .ok (.iload 5, 2) := by decide +kernel
theorem dX12_init_455 : decode cX12_init 455 = .ok (.if_icmp .ge 17, 3) := by decide +kernel
theorem dX12_init_458 : decode cX12_init 458 = .ok (.aload_n 0, 1) := by decide +kernel
theorem dX12_init_459 : decode cX12_init 459 = .ok (.getfield 275, 3) := by decide +kernel
theorem dX12_init_462 : decode cX12_init 462 = .ok (.iload 6, 2) := by decide +kernel
theorem dX12_init_464 : decode cX12_init 464 = .ok (.iconst (-1), 1) := by decide +kernel
theorem dX12_init_465 : decode cX12_init 465 = .ok (.iastore, 1) := by decide +kernel
theorem dX12_init_466 : decode cX12_init 466 = .ok (.iinc 6 1, 3) := by decide +kernel
theorem dX12_init_469 : decode cX12_init 469 = .ok (.goto (-18), 3) := by decide +kernel
theorem dX12_init_472 : decode cX12_init 472 = .ok (.iconst 0, 1) := by decide +kernel
theorem dX12_init_473 : decode cX12_init 473 = .ok (.istore 6, 2) := by decide +kernel
theorem dX12_init_475 : decode cX12_init 475 = .ok (.iload 6, 2) := by decide +kernel
theorem dX12_init_477 : decode cX12_init 477 = .ok (.sipush 4096, 3) := by decide +kernel
theorem dX12_init_480 : decode cX12_init 480 = .ok (.if_icmp .ge 17, 3) := by decide +kernel
theorem dX12_init_483 : decode cX12_init 483 = .ok (.aload_n 0, 1) := by decide +kernel
theorem dX12_init_484 : decode cX12_init 484 = .ok (.getfield 226, 3) := by decide +kernel
theorem dX12_init_487 : decode cX12_init 487 = .ok (.iload 6, 2) := by decide +kernel
theorem dX12_init_489 : decode cX12_init 489 = .ok (.iconst (-1), 1) := by decide +kernel
theorem dX12_init_490 : decode cX12_init 490 = .ok (.iastore, 1) := by decide +kernel
theorem dX12_init_491 : decode cX12_init 491 = .ok (.iinc 6 1, 3) := by decide +kernel
theorem dX12_init_494 : decode cX12_init 494 = .ok (.goto (-19), 3) := by decide +kernel
theorem dX12_init_497 : decode cX12_init 497 = .ok (.return_, 1) := by decide +kernel
theorem dX12_isUser_0 : decode cX12_isUser 0 = .ok (.iload_n 1, 1) := by decide +kernel
theorem dX12_isUser_1 : decode cX12_isUser 1 = .ok (.iconst 0, 1) := by decide +kernel
theorem dX12_isUser_2 : decode cX12_isUser 2 = .ok (.aload_n 0, 1) := by decide +kernel
theorem dX12_isUser_3 : decode cX12_isUser 3 = .ok (.getfield 243, 3) := by decide +kernel
theorem dX12_isUser_6 : decode cX12_isUser 6 = .ok (.iconst 1, 1) := by decide +kernel
theorem dX12_isUser_7 : decode cX12_isUser 7 = .ok (.isub, 1) := by decide +kernel
theorem dX12_isUser_8 : decode cX12_isUser 8 = .ok (.invokestatic 15, 3) := by decide +kernel
theorem dX12_isUser_11 : decode cX12_isUser 11 = .ok (.ireturn, 1) := by decide +kernel
theorem dX12_isWord_0 : decode cX12_isWord 0 = .ok (.iload_n 0, 1) := by decide +kernel
theorem dX12_isWord_1 : decode cX12_isWord 1 = .ok (.iconst 0, 1) := by decide +kernel
theorem dX12_isWord_2 : decode cX12_isWord 2 = .ok (.sipush 4095, 3) := by decide +kernel
theorem dX12_isWord_5 : decode cX12_isWord 5 = .ok (.invokestatic 15, 3) := by decide +kernel
theorem dX12_isWord_8 : decode cX12_isWord 8 = .ok (.ireturn, 1) := by decide +kernel
theorem dX12_becomesReady_0 : decode cX12_becomesReady 0 = .ok (.aload_n 0, 1) := by decide +kernel
theorem dX12_becomesReady_1 : decode cX12_becomesReady 1 = .ok (.getfield 278, 3) := by decide +kernel
theorem dX12_becomesReady_4 : decode cX12_becomesReady 4 = .ok (.iload_n 1, 1) := by decide +kernel
theorem dX12_becomesReady_5 : decode cX12_becomesReady 5 = .ok (.iconst 1, 1) := by decide +kernel
theorem dX12_becomesReady_6 : decode cX12_becomesReady 6 = .ok (.iastore, 1) := by decide +kernel
theorem dX12_becomesReady_7 : decode cX12_becomesReady 7 = .ok (.aload_n 0, 1) := by decide +kernel
theorem dX12_becomesReady_8 : decode cX12_becomesReady 8 = .ok (.getfield 234, 3) := by decide +kernel
theorem dX12_becomesReady_11 : decode cX12_becomesReady 11 = .ok (.aload_n 0, 1) := by decide +kernel
theorem dX12_becomesReady_12 : decode cX12_becomesReady 12 = .ok (.getfield 338, 3) := by decide +kernel
theorem dX12_becomesReady_15 : decode cX12_becomesReady 15 = .ok (.iload_n 1, 1) := by decide +kernel
theorem dX12_becomesReady_16 : decode cX12_becomesReady 16 = .ok (.iastore, 1) := by decide +kernel
theorem dX12_becomesReady_17 : decode cX12_becomesReady 17 = .ok (.aload_n 0, 1) := by decide +kernel
theorem dX12_becomesReady_18 : decode cX12_becomesReady 18 = .ok (.dup, 1) := by decide +kernel
theorem dX12_becomesReady_19 : decode cX12_becomesReady 19 = .ok (.getfield 338, 3) := by decide +kernel
theorem dX12_becomesReady_22 : decode cX12_becomesReady 22 = .ok (.iconst 1, 1) := by decide +kernel
theorem dX12_becomesReady_23 : decode cX12_becomesReady 23 = .ok (.iadd, 1) := by decide +kernel
theorem dX12_becomesReady_24 : decode cX12_becomesReady 24 = .ok (.putfield 338, 3) := by decide +kernel
theorem dX12_becomesReady_27 : decode cX12_becomesReady 27 = .ok (.return_, 1) := by decide +kernel
theorem dX12_leavesQueue_0 : decode cX12_leavesQueue 0 = .ok (.iconst 0, 1) := by decide +kernel
theorem dX12_leavesQueue_1 : decode cX12_leavesQueue 1 = .ok (.istore_n 2, 1) := by decide +kernel
theorem dX12_leavesQueue_2 : decode cX12_leavesQueue 2 = .ok (.iconst 0, 1) := by decide +kernel
theorem dX12_leavesQueue_3 : decode cX12_leavesQueue 3 = .ok (.istore_n 3, 1) := by decide +kernel
theorem dX12_leavesQueue_4 : decode cX12_leavesQueue 4 = .ok (.iload_n 3, 1) := by decide +kernel
theorem dX12_leavesQueue_5 : decode cX12_leavesQueue 5 = .ok (.aload_n 0, 1) := by decide +kernel
theorem dX12_leavesQueue_6 : decode cX12_leavesQueue 6 = .ok (.getfield 338, 3) := by decide +kernel
theorem dX12_leavesQueue_9 : decode cX12_leavesQueue 9 = .ok (.if_icmp .ge 37, 3) := by decide +kernel
theorem dX12_leavesQueue_12 : decode cX12_leavesQueue 12 = .ok (.aload_n 0, 1) := by decide +kernel
theorem dX12_leavesQueue_13 : decode cX12_leavesQueue 13 = .ok (.getfield 234, 3) := by decide +kernel
theorem dX12_leavesQueue_16 : decode cX12_leavesQueue 16 = .ok (.iload_n 3, 1) := by decide +kernel
theorem dX12_leavesQueue_17 : decode cX12_leavesQueue 17 = .ok (.iaload, 1) := by decide +kernel
theorem dX12_leavesQueue_18 : decode cX12_leavesQueue 18 = .ok (.iload_n 1, 1) := by decide +kernel
theorem dX12_leavesQueue_19 : decode cX12_leavesQueue 19 = .ok (.if_icmp .ne 6, 3) := by decide +kernel
theorem dX12_leavesQueue_22 : decode cX12_leavesQueue 22 = .ok (.goto 18, 3) := by decide +kernel
theorem dX12_leavesQueue_25 : decode cX12_leavesQueue 25 = .ok (.aload_n 0, 1) := by decide +kernel
theorem dX12_leavesQueue_26 : decode cX12_leavesQueue 26 = .ok (.getfield 234, 3) := by decide +kernel
theorem dX12_leavesQueue_29 : decode cX12_leavesQueue 29 = .ok (.iload_n 2, 1) := by decide +kernel
theorem dX12_leavesQueue_30 : decode cX12_leavesQueue 30 = .ok (.aload_n 0, 1) := by decide +kernel
theorem dX12_leavesQueue_31 : decode cX12_leavesQueue 31 = .ok (.getfield 234, 3) := by decide +kernel
theorem dX12_leavesQueue_34 : decode cX12_leavesQueue 34 = .ok (.iload_n 3, 1) := by decide +kernel
theorem dX12_leavesQueue_35 : decode cX12_leavesQueue 35 = .ok (.iaload, 1) := by decide +kernel
theorem dX12_leavesQueue_36 : decode cX12_leavesQueue 36 = .ok (.iastore, 1) := by decide +kernel
theorem dX12_leavesQueue_37 : decode cX12_leavesQueue 37 = .ok (.iinc 2 1, 3) := by decide +kernel
theorem dX12_leavesQueue_40 : decode cX12_leavesQueue 40 = .ok (.iinc 3 1, 3) := by decide +kernel
theorem dX12_leavesQueue_43 : decode cX12_leavesQueue 43 = .ok (.goto (-39), 3) := by decide +kernel
theorem dX12_leavesQueue_46 : decode cX12_leavesQueue 46 = .ok (.aload_n 0, 1) := by decide +kernel
theorem dX12_leavesQueue_47 : decode cX12_leavesQueue 47 = .ok (.iload_n 2, 1) := by decide +kernel
theorem dX12_leavesQueue_48 : decode cX12_leavesQueue 48 = .ok (.putfield 338, 3) := by decide +kernel
theorem dX12_leavesQueue_51 : decode cX12_leavesQueue 51 = .ok (.return_, 1) := by decide +kernel
theorem dX12_rests_0 : decode cX12_rests 0 = .ok (.aload_n 0, 1) := by decide +kernel
theorem dX12_rests_1 : decode cX12_rests 1 = .ok (.iload_n 1, 1) := by decide +kernel
theorem dX12_rests_2 : decode cX12_rests 2 = .ok (.invokevirtual 341, 3) := by decide +kernel
theorem dX12_rests_5 : decode cX12_rests 5 = .ok (.ifCond .eq 38, 3) := by decide +kernel
theorem dX12_rests_8 : decode cX12_rests 8 = .ok (.aload_n 0, 1) := by decide +kernel
theorem dX12_rests_9 : decode cX12_rests 9 = .ok (.getfield 278, 3) := by decide +kernel
theorem dX12_rests_12 : decode cX12_rests 12 = .ok (.iload_n 1, 1) := by decide +kernel
theorem dX12_rests_13 : decode cX12_rests 13 = .ok (.iaload, 1) := by decide +kernel
theorem dX12_rests_14 : decode cX12_rests 14 = .ok (.ifCond .eq 25, 3) := by decide +kernel
theorem dX12_rests_17 : decode cX12_rests 17 = .ok (.aload_n 0, 1) := by decide +kernel
theorem dX12_rests_18 : decode cX12_rests 18 = .ok (.getfield 278, 3) := by decide +kernel
theorem dX12_rests_21 : decode cX12_rests 21 = .ok (.iload_n 1, 1) := by decide +kernel
theorem dX12_rests_22 : decode cX12_rests 22 = .ok (.iaload, 1) := by decide +kernel
theorem dX12_rests_23 : decode cX12_rests 23 = .ok (.bipush 6, 2) := by decide +kernel
theorem dX12_rests_25 : decode cX12_rests 25 = .ok (.if_icmp .eq 14, 3) := by decide +kernel
theorem dX12_rests_28 : decode cX12_rests 28 = .ok (.aload_n 0, 1) := by decide +kernel
theorem dX12_rests_29 : decode cX12_rests 29 = .ok (.getfield 278, 3) := by decide +kernel
theorem dX12_rests_32 : decode cX12_rests 32 = .ok (.iload_n 1, 1) := by decide +kernel
theorem dX12_rests_33 : decode cX12_rests 33 = .ok (.iaload, 1) := by decide +kernel
theorem dX12_rests_34 : decode cX12_rests 34 = .ok (.bipush 7, 2) := by decide +kernel
theorem dX12_rests_36 : decode cX12_rests 36 = .ok (.if_icmp .ne 7, 3) := by decide +kernel
theorem dX12_rests_39 : decode cX12_rests 39 = .ok (.iconst 1, 1) := by decide +kernel
theorem dX12_rests_40 : decode cX12_rests 40 = .ok (.goto 4, 3) := by decide +kernel
theorem dX12_rests_43 : decode cX12_rests 43 = .ok (.iconst 0, 1) := by decide +kernel
theorem dX12_rests_44 : decode cX12_rests 44 = .ok (.ireturn, 1) := by decide +kernel
theorem dX12_isMoved_0 : decode cX12_isMoved 0 = .ok (.aload_n 0, 1) := by decide +kernel
theorem dX12_isMoved_1 : decode cX12_isMoved 1 = .ok (.getfield 344, 3) := by decide +kernel
theorem dX12_isMoved_4 : decode cX12_isMoved 4 = .ok (.ifCond .le 15, 3) := by decide +kernel
theorem dX12_isMoved_7 : decode cX12_isMoved 7 = .ok (.aload_n 0, 1) := by decide +kernel
theorem dX12_isMoved_8 : decode cX12_isMoved 8 = .ok (.getfield 347, 3) := by decide +kernel
theorem dX12_isMoved_11 : decode cX12_isMoved 11 = .ok (.iload_n 1, 1) := by decide +kernel
theorem dX12_isMoved_12 : decode cX12_isMoved 12 = .ok (.if_icmp .ne 7, 3) := by decide +kernel
theorem dX12_isMoved_15 : decode cX12_isMoved 15 = .ok (.iconst 1, 1) := by decide +kernel
theorem dX12_isMoved_16 : decode cX12_isMoved 16 = .ok (.goto 4, 3) := by decide +kernel
theorem dX12_isMoved_19 : decode cX12_isMoved 19 = .ok (.iconst 0, 1) := by decide +kernel
theorem dX12_isMoved_20 : decode cX12_isMoved 20 = .ok (.ireturn, 1) := by decide +kernel
theorem dX12_mount_0 : decode cX12_mount 0 = .ok (.aload_n 0, 1) := by decide +kernel
theorem dX12_mount_1 : decode cX12_mount 1 = .ok (.iload_n 1, 1) := by decide +kernel
theorem dX12_mount_2 : decode cX12_mount 2 = .ok (.invokevirtual 350, 3) := by decide +kernel
theorem dX12_mount_5 : decode cX12_mount 5 = .ok (.ifCond .eq 11, 3) := by decide +kernel
theorem dX12_mount_8 : decode cX12_mount 8 = .ok (.aload_n 0, 1) := by decide +kernel
theorem dX12_mount_9 : decode cX12_mount 9 = .ok (.iload_n 1, 1) := by decide +kernel
theorem dX12_mount_10 : decode cX12_mount 10 = .ok (.invokevirtual 353, 3) := by decide +kernel
theorem dX12_mount_13 : decode cX12_mount 13 = .ok (.ifCond .eq 5, 3) := by decide +kernel
theorem dX12_mount_16 : decode cX12_mount 16 = .ok (.iconst 0, 1) := by decide +kernel
theorem dX12_mount_17 : decode cX12_mount 17 = .ok (.ireturn, 1) := by decide +kernel
theorem dX12_mount_18 : decode cX12_mount 18 = .ok (.aload_n 0, 1) := by decide +kernel
theorem dX12_mount_19 : decode cX12_mount 19 = .ok (.getfield 275, 3) := by decide +kernel
theorem dX12_mount_22 : decode cX12_mount 22 = .ok (.iload_n 1, 1) := by decide +kernel
theorem dX12_mount_23 : decode cX12_mount 23 = .ok (.iaload, 1) := by decide +kernel
theorem dX12_mount_24 : decode cX12_mount 24 = .ok (.iconst (-1), 1) := by decide +kernel
theorem dX12_mount_25 : decode cX12_mount 25 = .ok (.if_icmp .eq 13, 3) := by decide +kernel
theorem dX12_mount_28 : decode cX12_mount 28 = .ok (.aload_n 0, 1) := by decide +kernel
theorem dX12_mount_29 : decode cX12_mount 29 = .ok (.aload_n 0, 1) := by decide +kernel
theorem dX12_mount_30 : decode cX12_mount 30 = .ok (.getfield 275, 3) := by decide +kernel
theorem dX12_mount_33 : decode cX12_mount 33 = .ok (.iload_n 1, 1) := by decide +kernel
theorem dX12_mount_34 : decode cX12_mount 34 = .ok (.iaload, 1) := by decide +kernel
theorem dX12_mount_35 : decode cX12_mount 35 = .ok (.invokevirtual 356, 3) := by decide +kernel
theorem dX12_mount_38 : decode cX12_mount 38 = .ok (.iconst 0, 1) := by decide +kernel
theorem dX12_mount_39 : decode cX12_mount 39 = .ok (.istore_n 2, 1) := by decide +kernel
theorem dX12_mount_40 : decode cX12_mount 40 = .ok (.iload_n 2, 1) := by decide +kernel
theorem dX12_mount_41 : decode cX12_mount 41 = .ok (.sipush 4096, 3) := by decide +kernel
theorem dX12_mount_44 : decode cX12_mount 44 = .ok (.if_icmp .ge 37, 3) := by decide +kernel
theorem dX12_mount_47 : decode cX12_mount 47 = .ok (.aload_n 0, 1) := by decide +kernel
theorem dX12_mount_48 : decode cX12_mount 48 = .ok (.getfield 260, 3) := by decide +kernel
theorem dX12_mount_51 : decode cX12_mount 51 = .ok (.iload_n 1, 1) := by decide +kernel
theorem dX12_mount_52 : decode cX12_mount 52 = .ok (.aaload, 1) := by decide +kernel
theorem dX12_mount_53 : decode cX12_mount 53 = .ok (.iload_n 2, 1) := by decide +kernel
theorem dX12_mount_54 : decode cX12_mount 54 = .ok (.aload_n 0, 1) := by decide +kernel
theorem dX12_mount_55 : decode cX12_mount 55 = .ok (.getfield 226, 3) := by decide +kernel
theorem dX12_mount_58 : decode cX12_mount 58 = .ok (.iload_n 2, 1) := by decide +kernel
theorem dX12_mount_59 : decode cX12_mount 59 = .ok (.iaload, 1) := by decide +kernel
theorem dX12_mount_60 : decode cX12_mount 60 = .ok (.iconst (-1), 1) := by decide +kernel
theorem dX12_mount_61 : decode cX12_mount 61 = .ok (.if_icmp .ne 7, 3) := by decide +kernel
theorem dX12_mount_64 : decode cX12_mount 64 = .ok (.iconst 0, 1) := by decide +kernel
theorem dX12_mount_65 : decode cX12_mount 65 = .ok (.goto 9, 3) := by decide +kernel
theorem dX12_mount_68 : decode cX12_mount 68 = .ok (.aload_n 0, 1) := by decide +kernel
theorem dX12_mount_69 : decode cX12_mount 69 = .ok (.getfield 226, 3) := by decide +kernel
theorem dX12_mount_72 : decode cX12_mount 72 = .ok (.iload_n 2, 1) := by decide +kernel
theorem dX12_mount_73 : decode cX12_mount 73 = .ok (.iaload, 1) := by decide +kernel
theorem dX12_mount_74 : decode cX12_mount 74 = .ok (.iastore, 1) := by decide +kernel
theorem dX12_mount_75 : decode cX12_mount 75 = .ok (.iinc 2 1, 3) := by decide +kernel
theorem dX12_mount_78 : decode cX12_mount 78 = .ok (.goto (-38), 3) := by decide +kernel
theorem dX12_mount_81 : decode cX12_mount 81 = .ok (.aload_n 0, 1) := by decide +kernel
theorem dX12_mount_82 : decode cX12_mount 82 = .ok (.getfield 281, 3) := by decide +kernel
theorem dX12_mount_85 : decode cX12_mount 85 = .ok (.iload_n 1, 1) := by decide +kernel
theorem dX12_mount_86 : decode cX12_mount 86 = .ok (.iconst 0, 1) := by decide +kernel
theorem dX12_mount_87 : decode cX12_mount 87 = .ok (.iastore, 1) := by decide +kernel
theorem dX12_mount_88 : decode cX12_mount 88 = .ok (.aload_n 0, 1) := by decide +kernel
theorem dX12_mount_89 : decode cX12_mount 89 = .ok (.getfield 284, 3) := by decide +kernel
theorem dX12_mount_92 : decode cX12_mount 92 = .ok (.iload_n 1, 1) := by decide +kernel
theorem dX12_mount_93 : decode cX12_mount 93 = .ok (.iconst 0, 1) := by decide +kernel
theorem dX12_mount_94 : decode cX12_mount 94 = .ok (.iastore, 1) := by decide +kernel
theorem dX12_mount_95 : decode cX12_mount 95 = .ok (.aload_n 0, 1) := by decide +kernel
theorem dX12_mount_96 : decode cX12_mount 96 = .ok (.getfield 290, 3) := by decide +kernel
theorem dX12_mount_99 : decode cX12_mount 99 = .ok (.iload_n 1, 1) := by decide +kernel
theorem dX12_mount_100 : decode cX12_mount 100 = .ok (.iconst 0, 1) := by decide +kernel
theorem dX12_mount_101 : decode cX12_mount 101 = .ok (.iastore, 1) := by decide +kernel
theorem dX12_mount_102 : decode cX12_mount 102 = .ok (.aload_n 0, 1) := by decide +kernel
theorem dX12_mount_103 : decode cX12_mount 103 = .ok (.getfield 287, 3) := by decide +kernel
theorem dX12_mount_106 : decode cX12_mount 106 = .ok (.iload_n 1, 1) := by decide +kernel
theorem dX12_mount_107 : decode cX12_mount 107 = .ok (.sipush 128, 3) := by decide +kernel
theorem dX12_mount_110 : decode cX12_mount 110 = .ok (.iastore, 1) := by decide +kernel
theorem dX12_mount_111 : decode cX12_mount 111 = .ok (.aload_n 0, 1) := by decide +kernel
theorem dX12_mount_112 : decode cX12_mount 112 = .ok (.getfield 278, 3) := by decide +kernel
theorem dX12_mount_115 : decode cX12_mount 115 = .ok (.iload_n 1, 1) := by decide +kernel
theorem dX12_mount_116 : decode cX12_mount 116 = .ok (.bipush 6, 2) := by decide +kernel
theorem dX12_mount_118 : decode cX12_mount 118 = .ok (.iastore, 1) := by decide +kernel
theorem dX12_mount_119 : decode cX12_mount 119 = .ok (.iconst 1, 1) := by decide +kernel
theorem dX12_mount_120 : decode cX12_mount 120 = .ok (.ireturn, 1) := by decide +kernel
theorem dX12_nobodys_0 : decode cX12_nobodys 0 = .ok (.aload_n 0, 1) := by decide +kernel
theorem dX12_nobodys_1 : decode cX12_nobodys 1 = .ok (.getfield 275, 3) := by decide +kernel
theorem dX12_nobodys_4 : decode cX12_nobodys 4 = .ok (.aload_n 0, 1) := by decide +kernel
theorem dX12_nobodys_5 : decode cX12_nobodys 5 = .ok (.getfield 266, 3) := by decide +kernel
theorem dX12_nobodys_8 : decode cX12_nobodys 8 = .ok (.iload_n 1, 1) := by decide +kernel
theorem dX12_nobodys_9 : decode cX12_nobodys 9 = .ok (.iaload, 1) := by decide +kernel
theorem dX12_nobodys_10 : decode cX12_nobodys 10 = .ok (.iconst (-1), 1) := by decide +kernel
theorem dX12_nobodys_11 : decode cX12_nobodys 11 = .ok (.iastore, 1) := by decide +kernel
theorem dX12_nobodys_12 : decode cX12_nobodys 12 = .ok (.aload_n 0, 1) := by decide +kernel
theorem dX12_nobodys_13 : decode cX12_nobodys 13 = .ok (.getfield 266, 3) := by decide +kernel
theorem dX12_nobodys_16 : decode cX12_nobodys 16 = .ok (.iload_n 1, 1) := by decide +kernel
theorem dX12_nobodys_17 : decode cX12_nobodys 17 = .ok (.iconst (-1), 1) := by decide +kernel
theorem dX12_nobodys_18 : decode cX12_nobodys 18 = .ok (.iastore, 1) := by decide +kernel
theorem dX12_nobodys_19 : decode cX12_nobodys 19 = .ok (.aload_n 0, 1) := by decide +kernel
theorem dX12_nobodys_20 : decode cX12_nobodys 20 = .ok (.getfield 269, 3) := by decide +kernel
theorem dX12_nobodys_23 : decode cX12_nobodys 23 = .ok (.iload_n 1, 1) := by decide +kernel
theorem dX12_nobodys_24 : decode cX12_nobodys 24 = .ok (.iconst 0, 1) := by decide +kernel
theorem dX12_nobodys_25 : decode cX12_nobodys 25 = .ok (.bastore, 1) := by decide +kernel
theorem dX12_nobodys_26 : decode cX12_nobodys 26 = .ok (.aload_n 0, 1) := by decide +kernel
theorem dX12_nobodys_27 : decode cX12_nobodys 27 = .ok (.getfield 272, 3) := by decide +kernel
theorem dX12_nobodys_30 : decode cX12_nobodys 30 = .ok (.iload_n 1, 1) := by decide +kernel
theorem dX12_nobodys_31 : decode cX12_nobodys 31 = .ok (.iconst 0, 1) := by decide +kernel
theorem dX12_nobodys_32 : decode cX12_nobodys 32 = .ok (.bastore, 1) := by decide +kernel
theorem dX12_nobodys_33 : decode cX12_nobodys 33 = .ok (.return_, 1) := by decide +kernel
theorem dX12_begin_0 : decode cX12_begin 0 = .ok (.aload_n 0, 1) := by decide +kernel
theorem dX12_begin_1 : decode cX12_begin 1 = .ok (.iload_n 1, 1) := by decide +kernel
theorem dX12_begin_2 : decode cX12_begin 2 = .ok (.invokevirtual 350, 3) := by decide +kernel
theorem dX12_begin_5 : decode cX12_begin 5 = .ok (.ifCond .eq 19, 3) := by decide +kernel
theorem dX12_begin_8 : decode cX12_begin 8 = .ok (.aload_n 0, 1) := by decide +kernel
theorem dX12_begin_9 : decode cX12_begin 9 = .ok (.getfield 278, 3) := by decide +kernel
theorem dX12_begin_12 : decode cX12_begin 12 = .ok (.iload_n 1, 1) := by decide +kernel
theorem dX12_begin_13 : decode cX12_begin 13 = .ok (.iaload, 1) := by decide +kernel
theorem dX12_begin_14 : decode cX12_begin 14 = .ok (.ifCond .eq 10, 3) := by decide +kernel
theorem dX12_begin_17 : decode cX12_begin 17 = .ok (.iload_n 2, 1) := by decide +kernel
theorem dX12_begin_18 : decode cX12_begin 18 = .ok (.invokestatic 359, 3) := by decide +kernel
theorem dX12_begin_21 : decode cX12_begin 21 = .ok (.ifCond .ne 5, 3) := by decide +kernel
theorem dX12_begin_24 : decode cX12_begin 24 = .ok (.iconst 0, 1) := by decide +kernel
theorem dX12_begin_25 : decode cX12_begin 25 = .ok (.ireturn, 1) := by decide +kernel
theorem dX12_begin_26 : decode cX12_begin 26 = .ok (.aload_n 0, 1) := by decide +kernel
theorem dX12_begin_27 : decode cX12_begin 27 = .ok (.getfield 287, 3) := by decide +kernel
theorem dX12_begin_30 : decode cX12_begin 30 = .ok (.iload_n 1, 1) := by decide +kernel
theorem dX12_begin_31 : decode cX12_begin 31 = .ok (.iload_n 2, 1) := by decide +kernel
theorem dX12_begin_32 : decode cX12_begin 32 = .ok (.iastore, 1) := by decide +kernel
theorem dX12_begin_33 : decode cX12_begin 33 = .ok (.aload_n 0, 1) := by decide +kernel
theorem dX12_begin_34 : decode cX12_begin 34 = .ok (.iload_n 1, 1) := by decide +kernel
theorem dX12_begin_35 : decode cX12_begin 35 = .ok (.invokevirtual 362, 3) := by decide +kernel
theorem dX12_begin_38 : decode cX12_begin 38 = .ok (.iconst 1, 1) := by decide +kernel
theorem dX12_begin_39 : decode cX12_begin 39 = .ok (.ireturn, 1) := by decide +kernel
theorem dX12_halt_0 : decode cX12_halt 0 = .ok (.aload_n 0, 1) := by decide +kernel
theorem dX12_halt_1 : decode cX12_halt 1 = .ok (.iload_n 1, 1) := by decide +kernel
theorem dX12_halt_2 : decode cX12_halt 2 = .ok (.invokevirtual 341, 3) := by decide +kernel
theorem dX12_halt_5 : decode cX12_halt 5 = .ok (.ifCond .eq 17, 3) := by decide +kernel
theorem dX12_halt_8 : decode cX12_halt 8 = .ok (.aload_n 0, 1) := by decide +kernel
theorem dX12_halt_9 : decode cX12_halt 9 = .ok (.getfield 278, 3) := by decide +kernel
theorem dX12_halt_12 : decode cX12_halt 12 = .ok (.iload_n 1, 1) := by decide +kernel
theorem dX12_halt_13 : decode cX12_halt 13 = .ok (.iaload, 1) := by decide +kernel
theorem dX12_halt_14 : decode cX12_halt 14 = .ok (.iconst 1, 1) := by decide +kernel
theorem dX12_halt_15 : decode cX12_halt 15 = .ok (.iconst 4, 1) := by decide +kernel
theorem dX12_halt_16 : decode cX12_halt 16 = .ok (.invokestatic 15, 3) := by decide +kernel
theorem dX12_halt_19 : decode cX12_halt 19 = .ok (.ifCond .ne 5, 3) := by decide +kernel
theorem dX12_halt_22 : decode cX12_halt 22 = .ok (.iconst 0, 1) := by decide +kernel
theorem dX12_halt_23 : decode cX12_halt 23 = .ok (.ireturn, 1) := by decide +kernel
theorem dX12_halt_24 : decode cX12_halt 24 = .ok (.aload_n 0, 1) := by decide +kernel
theorem dX12_halt_25 : decode cX12_halt 25 = .ok (.iload_n 1, 1) := by decide +kernel
theorem dX12_halt_26 : decode cX12_halt 26 = .ok (.invokevirtual 365, 3) := by decide +kernel
theorem dX12_halt_29 : decode cX12_halt 29 = .ok (.aload_n 0, 1) := by decide +kernel
theorem dX12_halt_30 : decode cX12_halt 30 = .ok (.getfield 237, 3) := by decide +kernel
theorem dX12_halt_33 : decode cX12_halt 33 = .ok (.iload_n 1, 1) := by decide +kernel
theorem dX12_halt_34 : decode cX12_halt 34 = .ok (.if_icmp .ne 20, 3) := by decide +kernel
theorem dX12_halt_37 : decode cX12_halt 37 = .ok (.aload_n 0, 1) := by decide +kernel
theorem dX12_halt_38 : decode cX12_halt 38 = .ok (.getfield 272, 3) := by decide +kernel
theorem dX12_halt_41 : decode cX12_halt 41 = .ok (.aload_n 0, 1) := by decide +kernel
theorem dX12_halt_42 : decode cX12_halt 42 = .ok (.getfield 275, 3) := by decide +kernel
theorem dX12_halt_45 : decode cX12_halt 45 = .ok (.iload_n 1, 1) := by decide +kernel
theorem dX12_halt_46 : decode cX12_halt 46 = .ok (.iaload, 1) := by decide +kernel
theorem dX12_halt_47 : decode cX12_halt 47 = .ok (.iconst 1, 1) := by decide +kernel
theorem dX12_halt_48 : decode cX12_halt 48 = .ok (.bastore, 1) := by decide +kernel
theorem dX12_halt_49 : decode cX12_halt 49 = .ok (.aload_n 0, 1) := by decide +kernel
theorem dX12_halt_50 : decode cX12_halt 50 = .ok (.iconst (-1), 1) := by decide +kernel
theorem dX12_halt_51 : decode cX12_halt 51 = .ok (.putfield 237, 3) := by decide +kernel
theorem dX12_halt_54 : decode cX12_halt 54 = .ok (.aload_n 0, 1) := by decide +kernel
theorem dX12_halt_55 : decode cX12_halt 55 = .ok (.getfield 278, 3) := by decide +kernel
theorem dX12_halt_58 : decode cX12_halt 58 = .ok (.iload_n 1, 1) := by decide +kernel
theorem dX12_halt_59 : decode cX12_halt 59 = .ok (.bipush 6, 2) := by decide +kernel
theorem dX12_halt_61 : decode cX12_halt 61 = .ok (.iastore, 1) := by decide +kernel
theorem dX12_halt_62 : decode cX12_halt 62 = .ok (.iconst 1, 1) := by decide +kernel
theorem dX12_halt_63 : decode cX12_halt 63 = .ok (.ireturn, 1) := by decide +kernel
theorem dX12_key_0 : decode cX12_key 0 = .ok (.aload_n 0, 1) := by decide +kernel
theorem dX12_key_1 : decode cX12_key 1 = .ok (.iload_n 1, 1) := by decide +kernel
theorem dX12_key_2 : decode cX12_key 2 = .ok (.invokevirtual 341, 3) := by decide +kernel
theorem dX12_key_5 : decode cX12_key 5 = .ok (.ifCond .eq 13, 3) := by decide +kernel
theorem dX12_key_8 : decode cX12_key 8 = .ok (.iload_n 2, 1) := by decide +kernel
theorem dX12_key_9 : decode cX12_key 9 = .ok (.iconst 0, 1) := by decide +kernel
theorem dX12_key_10 : decode cX12_key 10 = .ok (.bipush 127, 2) := by decide +kernel
theorem dX12_key_12 : decode cX12_key 12 = .ok (.invokestatic 15, 3) := by decide +kernel
theorem dX12_key_15 : decode cX12_key 15 = .ok (.ifCond .ne 5, 3) := by decide +kernel
theorem dX12_key_18 : decode cX12_key 18 = .ok (.iconst 0, 1) := by decide +kernel
theorem dX12_key_19 : decode cX12_key 19 = .ok (.ireturn, 1) := by decide +kernel
theorem dX12_key_20 : decode cX12_key 20 = .ok (.aload_n 0, 1) := by decide +kernel
theorem dX12_key_21 : decode cX12_key 21 = .ok (.getfield 302, 3) := by decide +kernel
theorem dX12_key_24 : decode cX12_key 24 = .ok (.iload_n 1, 1) := by decide +kernel
theorem dX12_key_25 : decode cX12_key 25 = .ok (.iaload, 1) := by decide +kernel
theorem dX12_key_26 : decode cX12_key 26 = .ok (.bipush 16, 2) := by decide +kernel
theorem dX12_key_28 : decode cX12_key 28 = .ok (.if_icmp .ne 15, 3) := by decide +kernel
theorem dX12_key_31 : decode cX12_key 31 = .ok (.aload_n 0, 1) := by decide +kernel
theorem dX12_key_32 : decode cX12_key 32 = .ok (.getfield 305, 3) := by decide +kernel
theorem dX12_key_35 : decode cX12_key 35 = .ok (.iload_n 1, 1) := by decide +kernel
theorem dX12_key_36 : decode cX12_key 36 = .ok (.dup2, 1) := by decide +kernel
theorem dX12_key_37 : decode cX12_key 37 = .ok (.iaload, 1) := by decide +kernel
theorem dX12_key_38 : decode cX12_key 38 = .ok (.iconst 1, 1) := by decide +kernel
theorem dX12_key_39 : decode cX12_key 39 = .ok (.iadd, 1) := by decide +kernel
theorem dX12_key_40 : decode cX12_key 40 = .ok (.iastore, 1) := by decide +kernel
theorem dX12_key_41 : decode cX12_key 41 = .ok (.iconst 0, 1) := by decide +kernel
theorem dX12_key_42 : decode cX12_key 42 = .ok (.ireturn, 1) := by decide +kernel
theorem dX12_key_43 : decode cX12_key 43 = .ok (.aload_n 0, 1) := by decide +kernel
theorem dX12_key_44 : decode cX12_key 44 = .ok (.getfield 299, 3) := by decide +kernel
theorem dX12_key_47 : decode cX12_key 47 = .ok (.iload_n 1, 1) := by decide +kernel
theorem dX12_key_48 : decode cX12_key 48 = .ok (.aaload, 1) := by decide +kernel
theorem dX12_key_49 : decode cX12_key 49 = .ok (.aload_n 0, 1) := by decide +kernel
theorem dX12_key_50 : decode cX12_key 50 = .ok (.getfield 302, 3) := by decide +kernel
theorem dX12_key_53 : decode cX12_key 53 = .ok (.iload_n 1, 1) := by decide +kernel
theorem dX12_key_54 : decode cX12_key 54 = .ok (.iaload, 1) := by decide +kernel
theorem dX12_key_55 : decode cX12_key 55 = .ok (.iload_n 2, 1) := by decide +kernel
theorem dX12_key_56 : decode cX12_key 56 = .ok (.iastore, 1) := by decide +kernel
theorem dX12_key_57 : decode cX12_key 57 = .ok (.aload_n 0, 1) := by decide +kernel
theorem dX12_key_58 : decode cX12_key 58 = .ok (.getfield 302, 3) := by decide +kernel
theorem dX12_key_61 : decode cX12_key 61 = .ok (.iload_n 1, 1) := by decide +kernel
theorem dX12_key_62 : decode cX12_key 62 = .ok (.dup2, 1) := by decide +kernel
theorem dX12_key_63 : decode cX12_key 63 = .ok (.iaload, 1) := by decide +kernel
theorem dX12_key_64 : decode cX12_key 64 = .ok (.iconst 1, 1) := by decide +kernel
theorem dX12_key_65 : decode cX12_key 65 = .ok (.iadd, 1) := by decide +kernel
theorem dX12_key_66 : decode cX12_key 66 = .ok (.iastore, 1) := by decide +kernel
theorem dX12_key_67 : decode cX12_key 67 = .ok (.aload_n 0, 1) := by decide +kernel
theorem dX12_key_68 : decode cX12_key 68 = .ok (.getfield 278, 3) := by decide +kernel
theorem dX12_key_71 : decode cX12_key 71 = .ok (.iload_n 1, 1) := by decide +kernel
theorem dX12_key_72 : decode cX12_key 72 = .ok (.iaload, 1) := by decide +kernel
theorem dX12_key_73 : decode cX12_key 73 = .ok (.iconst 2, 1) := by decide +kernel
theorem dX12_key_74 : decode cX12_key 74 = .ok (.if_icmp .ne 8, 3) := by decide +kernel
theorem dX12_key_77 : decode cX12_key 77 = .ok (.aload_n 0, 1) := by decide +kernel
theorem dX12_key_78 : decode cX12_key 78 = .ok (.iload_n 1, 1) := by decide +kernel
theorem dX12_key_79 : decode cX12_key 79 = .ok (.invokevirtual 362, 3) := by decide +kernel
theorem dX12_key_82 : decode cX12_key 82 = .ok (.iconst 1, 1) := by decide +kernel
theorem dX12_key_83 : decode cX12_key 83 = .ok (.ireturn, 1) := by decide +kernel
theorem dX12_set_0 : decode cX12_set 0 = .ok (.aload_n 0, 1) := by decide +kernel
theorem dX12_set_1 : decode cX12_set 1 = .ok (.iload_n 1, 1) := by decide +kernel
theorem dX12_set_2 : decode cX12_set 2 = .ok (.invokevirtual 341, 3) := by decide +kernel
theorem dX12_set_5 : decode cX12_set 5 = .ok (.ifCond .eq 10, 3) := by decide +kernel
theorem dX12_set_8 : decode cX12_set 8 = .ok (.iload_n 2, 1) := by decide +kernel
theorem dX12_set_9 : decode cX12_set 9 = .ok (.invokestatic 359, 3) := by decide +kernel
theorem dX12_set_12 : decode cX12_set 12 = .ok (.ifCond .ne 5, 3) := by decide +kernel
theorem dX12_set_15 : decode cX12_set 15 = .ok (.iconst 0, 1) := by decide +kernel
theorem dX12_set_16 : decode cX12_set 16 = .ok (.ireturn, 1) := by decide +kernel
theorem dX12_set_17 : decode cX12_set 17 = .ok (.aload_n 0, 1) := by decide +kernel
theorem dX12_set_18 : decode cX12_set 18 = .ok (.getfield 293, 3) := by decide +kernel
theorem dX12_set_21 : decode cX12_set 21 = .ok (.iload_n 1, 1) := by decide +kernel
theorem dX12_set_22 : decode cX12_set 22 = .ok (.iload_n 2, 1) := by decide +kernel
theorem dX12_set_23 : decode cX12_set 23 = .ok (.iastore, 1) := by decide +kernel
theorem dX12_set_24 : decode cX12_set 24 = .ok (.iconst 1, 1) := by decide +kernel
theorem dX12_set_25 : decode cX12_set 25 = .ok (.ireturn, 1) := by decide +kernel
theorem dX12_deposit_0 : decode cX12_deposit 0 = .ok (.aload_n 0, 1) := by decide +kernel
theorem dX12_deposit_1 : decode cX12_deposit 1 = .ok (.iload_n 1, 1) := by decide +kernel
theorem dX12_deposit_2 : decode cX12_deposit 2 = .ok (.invokevirtual 350, 3) := by decide +kernel
theorem dX12_deposit_5 : decode cX12_deposit 5 = .ok (.ifCond .eq 25, 3) := by decide +kernel
theorem dX12_deposit_8 : decode cX12_deposit 8 = .ok (.aload_n 0, 1) := by decide +kernel
theorem dX12_deposit_9 : decode cX12_deposit 9 = .ok (.iload_n 1, 1) := by decide +kernel
theorem dX12_deposit_10 : decode cX12_deposit 10 = .ok (.invokevirtual 353, 3) := by decide +kernel
theorem dX12_deposit_13 : decode cX12_deposit 13 = .ok (.ifCond .ne 17, 3) := by decide +kernel
theorem dX12_deposit_16 : decode cX12_deposit 16 = .ok (.iload_n 2, 1) := by decide +kernel
theorem dX12_deposit_17 : decode cX12_deposit 17 = .ok (.invokestatic 359, 3) := by decide +kernel
theorem dX12_deposit_20 : decode cX12_deposit 20 = .ok (.ifCond .eq 10, 3) := by decide +kernel
theorem dX12_deposit_23 : decode cX12_deposit 23 = .ok (.iload_n 3, 1) := by decide +kernel
theorem dX12_deposit_24 : decode cX12_deposit 24 = .ok (.invokestatic 359, 3) := by decide +kernel
theorem dX12_deposit_27 : decode cX12_deposit 27 = .ok (.ifCond .ne 5, 3) := by decide +kernel
theorem dX12_deposit_30 : decode cX12_deposit 30 = .ok (.iconst 0, 1) := by decide +kernel
theorem dX12_deposit_31 : decode cX12_deposit 31 = .ok (.ireturn, 1) := by decide +kernel
theorem dX12_deposit_32 : decode cX12_deposit 32 = .ok (.aload_n 0, 1) := by decide +kernel
theorem dX12_deposit_33 : decode cX12_deposit 33 = .ok (.getfield 275, 3) := by decide +kernel
theorem dX12_deposit_36 : decode cX12_deposit 36 = .ok (.iload_n 1, 1) := by decide +kernel
theorem dX12_deposit_37 : decode cX12_deposit 37 = .ok (.iaload, 1) := by decide +kernel
theorem dX12_deposit_38 : decode cX12_deposit 38 = .ok (.iconst (-1), 1) := by decide +kernel
theorem dX12_deposit_39 : decode cX12_deposit 39 = .ok (.if_icmp .ne 15, 3) := by decide +kernel
theorem dX12_deposit_42 : decode cX12_deposit 42 = .ok (.aload_n 0, 1) := by decide +kernel
theorem dX12_deposit_43 : decode cX12_deposit 43 = .ok (.getfield 260, 3) := by decide +kernel
theorem dX12_deposit_46 : decode cX12_deposit 46 = .ok (.iload_n 1, 1) := by decide +kernel
theorem dX12_deposit_47 : decode cX12_deposit 47 = .ok (.aaload, 1) := by decide +kernel
theorem dX12_deposit_48 : decode cX12_deposit 48 = .ok (.iload_n 2, 1) := by decide +kernel
theorem dX12_deposit_49 : decode cX12_deposit 49 = .ok (.iload_n 3, 1) := by decide +kernel
theorem dX12_deposit_50 : decode cX12_deposit 50 = .ok (.iastore, 1) := by decide +kernel
theorem dX12_deposit_51 : decode cX12_deposit 51 = .ok (.goto 10, 3) := by decide +kernel
theorem dX12_deposit_54 : decode cX12_deposit 54 = .ok (.aload_n 0, 1) := by decide +kernel
theorem dX12_deposit_55 : decode cX12_deposit 55 = .ok (.iload_n 1, 1) := by decide +kernel
theorem dX12_deposit_56 : decode cX12_deposit 56 = .ok (.iload_n 2, 1) := by decide +kernel
theorem dX12_deposit_57 : decode cX12_deposit 57 = .ok (.iload_n 3, 1) := by decide +kernel
theorem dX12_deposit_58 : decode cX12_deposit 58 = .ok (.invokevirtual 368, 3) := by decide +kernel
theorem dX12_deposit_61 : decode cX12_deposit 61 = .ok (.iconst 1, 1) := by decide +kernel
theorem dX12_deposit_62 : decode cX12_deposit 62 = .ok (.ireturn, 1) := by decide +kernel
theorem dX12_store_0 : decode cX12_store 0 = .ok (.aload_n 0, 1) := by decide +kernel
theorem dX12_store_1 : decode cX12_store 1 = .ok (.getfield 257, 3) := by decide +kernel
theorem dX12_store_4 : decode cX12_store 4 = .ok (.aload_n 0, 1) := by decide +kernel
theorem dX12_store_5 : decode cX12_store 5 = .ok (.getfield 275, 3) := by decide +kernel
theorem dX12_store_8 : decode cX12_store 8 = .ok (.iload_n 1, 1) := by decide +kernel
theorem dX12_store_9 : decode cX12_store 9 = .ok (.iaload, 1) := by decide +kernel
theorem dX12_store_10 : decode cX12_store 10 = .ok (.aaload, 1) := by decide +kernel
theorem dX12_store_11 : decode cX12_store 11 = .ok (.iload_n 2, 1) := by decide +kernel
theorem dX12_store_12 : decode cX12_store 12 = .ok (.sipush 4095, 3) := by decide +kernel
theorem dX12_store_15 : decode cX12_store 15 = .ok (.iand, 1) := by decide +kernel
theorem dX12_store_16 : decode cX12_store 16 = .ok (.iload_n 3, 1) := by decide +kernel
theorem dX12_store_17 : decode cX12_store 17 = .ok (.sipush 4095, 3) := by decide +kernel
theorem dX12_store_20 : decode cX12_store 20 = .ok (.iand, 1) := by decide +kernel
theorem dX12_store_21 : decode cX12_store 21 = .ok (.iastore, 1) := by decide +kernel
theorem dX12_store_22 : decode cX12_store 22 = .ok (.aload_n 0, 1) := by decide +kernel
theorem dX12_store_23 : decode cX12_store 23 = .ok (.getfield 269, 3) := by decide +kernel
theorem dX12_store_26 : decode cX12_store 26 = .ok (.aload_n 0, 1) := by decide +kernel
theorem dX12_store_27 : decode cX12_store 27 = .ok (.getfield 275, 3) := by decide +kernel
theorem dX12_store_30 : decode cX12_store 30 = .ok (.iload_n 1, 1) := by decide +kernel
theorem dX12_store_31 : decode cX12_store 31 = .ok (.iaload, 1) := by decide +kernel
theorem dX12_store_32 : decode cX12_store 32 = .ok (.iconst 1, 1) := by decide +kernel
theorem dX12_store_33 : decode cX12_store 33 = .ok (.bastore, 1) := by decide +kernel
theorem dX12_store_34 : decode cX12_store 34 = .ok (.return_, 1) := by decide +kernel
theorem dX12_load_0 : decode cX12_load 0 = .ok (.aload_n 0, 1) := by decide +kernel
theorem dX12_load_1 : decode cX12_load 1 = .ok (.getfield 257, 3) := by decide +kernel
theorem dX12_load_4 : decode cX12_load 4 = .ok (.aload_n 0, 1) := by decide +kernel
theorem dX12_load_5 : decode cX12_load 5 = .ok (.getfield 275, 3) := by decide +kernel
theorem dX12_load_8 : decode cX12_load 8 = .ok (.iload_n 1, 1) := by decide +kernel
theorem dX12_load_9 : decode cX12_load 9 = .ok (.iaload, 1) := by decide +kernel
theorem dX12_load_10 : decode cX12_load 10 = .ok (.aaload, 1) := by decide +kernel
theorem dX12_load_11 : decode cX12_load 11 = .ok (.iload_n 2, 1) := by decide +kernel
theorem dX12_load_12 : decode cX12_load 12 = .ok (.sipush 4095, 3) := by decide +kernel
theorem dX12_load_15 : decode cX12_load 15 = .ok (.iand, 1) := by decide +kernel
theorem dX12_load_16 : decode cX12_load 16 = .ok (.iaload, 1) := by decide +kernel
theorem dX12_load_17 : decode cX12_load 17 = .ok (.ireturn, 1) := by decide +kernel
theorem dX12_run_0 : decode cX12_run 0 = .ok (.iload_n 1, 1) := by decide +kernel
theorem dX12_run_1 : decode cX12_run 1 = .ok (.iconst 1, 1) := by decide +kernel
theorem dX12_run_2 : decode cX12_run 2 = .ok (.sipush 20000, 3) := by decide +kernel
theorem dX12_run_5 : decode cX12_run 5 = .ok (.invokestatic 15, 3) := by decide +kernel
theorem dX12_run_8 : decode cX12_run 8 = .ok (.ifCond .ne 5, 3) := by decide +kernel
theorem dX12_run_11 : decode cX12_run 11 = .ok (.iconst (-1), 1) := by decide +kernel
theorem dX12_run_12 : decode cX12_run 12 = .ok (.ireturn, 1) := by decide +kernel
theorem dX12_run_13 : decode cX12_run 13 = .ok (.aload_n 0, 1) := by decide +kernel
theorem dX12_run_14 : decode cX12_run 14 = .ok (.getfield 372, 3) := by decide +kernel
theorem dX12_run_17 : decode cX12_run 17 = .ok (.istore_n 2, 1) := by decide +kernel
theorem dX12_run_18 : decode cX12_run 18 = .ok (.iconst 0, 1) := by decide +kernel
theorem dX12_run_19 : decode cX12_run 19 = .ok (.istore_n 3, 1) := by decide +kernel
theorem dX12_run_20 : decode cX12_run 20 = .ok (.iload_n 3, 1) := by decide +kernel
theorem dX12_run_21 : decode cX12_run 21 = .ok (.iload_n 1, 1) := by decide +kernel
theorem dX12_run_22 : decode cX12_run 22 = .ok (.if_icmp .ge 13, 3) := by decide +kernel
theorem dX12_run_25 : decode cX12_run 25 = .ok (.aload_n 0, 1) := by decide +kernel
theorem dX12_run_26 : decode cX12_run 26 = .ok (.invokevirtual 375, 3) := by decide +kernel
theorem dX12_run_29 : decode cX12_run 29 = .ok (.iinc 3 1, 3) := by decide +kernel
theorem dX12_run_32 : decode cX12_run 32 = .ok (.goto (-12), 3) := by decide +kernel
theorem dX12_run_35 : decode cX12_run 35 = .ok (.aload_n 0, 1) := by decide +kernel
theorem dX12_run_36 : decode cX12_run 36 = .ok (.getfield 372, 3) := by decide +kernel
theorem dX12_run_39 : decode cX12_run 39 = .ok (.iload_n 2, 1) := by decide +kernel
theorem dX12_run_40 : decode cX12_run 40 = .ok (.isub, 1) := by decide +kernel
theorem dX12_run_41 : decode cX12_run 41 = .ok (.ireturn, 1) := by decide +kernel
theorem dX12_tick_0 : decode cX12_tick 0 = .ok (.aload_n 0, 1) := by decide +kernel
theorem dX12_tick_1 : decode cX12_tick 1 = .ok (.dup, 1) := by decide +kernel
theorem dX12_tick_2 : decode cX12_tick 2 = .ok (.getfield 378, 3) := by decide +kernel
theorem dX12_tick_5 : decode cX12_tick 5 = .ok (.iconst 1, 1) := by decide +kernel
theorem dX12_tick_6 : decode cX12_tick 6 = .ok (.iadd, 1) := by decide +kernel
theorem dX12_tick_7 : decode cX12_tick 7 = .ok (.putfield 378, 3) := by decide +kernel
theorem dX12_tick_10 : decode cX12_tick 10 = .ok (.iconst 0, 1) := by decide +kernel
theorem dX12_tick_11 : decode cX12_tick 11 = .ok (.istore_n 1, 1) := by decide +kernel
theorem dX12_tick_12 : decode cX12_tick 12 = .ok (.iload_n 1, 1) := by decide +kernel
theorem dX12_tick_13 : decode cX12_tick 13 = .ok (.aload_n 0, 1) := by decide +kernel
theorem dX12_tick_14 : decode cX12_tick 14 = .ok (.getfield 243, 3) := by decide +kernel
theorem dX12_tick_17 : decode cX12_tick 17 = .ok (.if_icmp .ge 14, 3) := by decide +kernel
theorem dX12_tick_20 : decode cX12_tick 20 = .ok (.aload_n 0, 1) := by decide +kernel
theorem dX12_tick_21 : decode cX12_tick 21 = .ok (.iload_n 1, 1) := by decide +kernel
theorem dX12_tick_22 : decode cX12_tick 22 = .ok (.invokevirtual 381, 3) := by decide +kernel
theorem dX12_tick_25 : decode cX12_tick 25 = .ok (.iinc 1 1, 3) := by decide +kernel
theorem dX12_tick_28 : decode cX12_tick 28 = .ok (.goto (-16), 3) := by decide +kernel
theorem dX12_tick_31 : decode cX12_tick 31 = .ok (.aload_n 0, 1) := by decide +kernel
theorem dX12_tick_32 : decode cX12_tick 32 = .ok (.getfield 344, 3) := by decide +kernel
theorem dX12_tick_35 : decode cX12_tick 35 = .ok (.ifCond .le 7, 3) := by decide +kernel
theorem dX12_tick_38 : decode cX12_tick 38 = .ok (.aload_n 0, 1) := by decide +kernel
theorem dX12_tick_39 : decode cX12_tick 39 = .ok (.invokevirtual 384, 3) := by decide +kernel
theorem dX12_tick_42 : decode cX12_tick 42 = .ok (.aload_n 0, 1) := by decide +kernel
theorem dX12_tick_43 : decode cX12_tick 43 = .ok (.getfield 344, 3) := by decide +kernel
theorem dX12_tick_46 : decode cX12_tick 46 = .ok (.ifCond .ne 7, 3) := by decide +kernel
theorem dX12_tick_49 : decode cX12_tick 49 = .ok (.aload_n 0, 1) := by decide +kernel
theorem dX12_tick_50 : decode cX12_tick 50 = .ok (.invokevirtual 387, 3) := by decide +kernel
theorem dX12_tick_53 : decode cX12_tick 53 = .ok (.aload_n 0, 1) := by decide +kernel
theorem dX12_tick_54 : decode cX12_tick 54 = .ok (.invokevirtual 390, 3) := by decide +kernel
theorem dX12_tick_57 : decode cX12_tick 57 = .ok (.return_, 1) := by decide +kernel
theorem dX12_clocks_0 : decode cX12_clocks 0 = .ok (.aload_n 0, 1) := by decide +kernel
theorem dX12_clocks_1 : decode cX12_clocks 1 = .ok (.getfield 278, 3) := by decide +kernel
theorem dX12_clocks_4 : decode cX12_clocks 4 = .ok (.iload_n 1, 1) := by decide +kernel
theorem dX12_clocks_5 : decode cX12_clocks 5 = .ok (.iaload, 1) := by decide +kernel
theorem dX12_clocks_6 : decode cX12_clocks 6 = .ok (.iconst 4, 1) := by decide +kernel
theorem dX12_clocks_7 : decode cX12_clocks 7 = .ok (.if_icmp .ne 21, 3) := by decide +kernel
theorem dX12_clocks_10 : decode cX12_clocks 10 = .ok (.aload_n 0, 1) := by decide +kernel
theorem dX12_clocks_11 : decode cX12_clocks 11 = .ok (.getfield 378, 3) := by decide +kernel
theorem dX12_clocks_14 : decode cX12_clocks 14 = .ok (.aload_n 0, 1) := by decide +kernel
theorem dX12_clocks_15 : decode cX12_clocks 15 = .ok (.getfield 323, 3) := by decide +kernel
theorem dX12_clocks_18 : decode cX12_clocks 18 = .ok (.iload_n 1, 1) := by decide +kernel
theorem dX12_clocks_19 : decode cX12_clocks 19 = .ok (.iaload, 1) := by decide +kernel
theorem dX12_clocks_20 : decode cX12_clocks 20 = .ok (.if_icmp .lt 8, 3) := by decide +kernel
theorem dX12_clocks_23 : decode cX12_clocks 23 = .ok (.aload_n 0, 1) := by decide +kernel
theorem dX12_clocks_24 : decode cX12_clocks 24 = .ok (.iload_n 1, 1) := by decide +kernel
theorem dX12_clocks_25 : decode cX12_clocks 25 = .ok (.invokevirtual 362, 3) := by decide +kernel
theorem dX12_clocks_28 : decode cX12_clocks 28 = .ok (.aload_n 0, 1) := by decide +kernel
theorem dX12_clocks_29 : decode cX12_clocks 29 = .ok (.getfield 311, 3) := by decide +kernel
theorem dX12_clocks_32 : decode cX12_clocks 32 = .ok (.iload_n 1, 1) := by decide +kernel
theorem dX12_clocks_33 : decode cX12_clocks 33 = .ok (.iaload, 1) := by decide +kernel
theorem dX12_clocks_34 : decode cX12_clocks 34 = .ok (.ifCond .eq 16, 3) := by decide +kernel
theorem dX12_clocks_37 : decode cX12_clocks 37 = .ok (.aload_n 0, 1) := by decide +kernel
theorem dX12_clocks_38 : decode cX12_clocks 38 = .ok (.getfield 378, 3) := by decide +kernel
theorem dX12_clocks_41 : decode cX12_clocks 41 = .ok (.aload_n 0, 1) := by decide +kernel
theorem dX12_clocks_42 : decode cX12_clocks 42 = .ok (.getfield 320, 3) := by decide +kernel
theorem dX12_clocks_45 : decode cX12_clocks 45 = .ok (.iload_n 1, 1) := by decide +kernel
theorem dX12_clocks_46 : decode cX12_clocks 46 = .ok (.iaload, 1) := by decide +kernel
theorem dX12_clocks_47 : decode cX12_clocks 47 = .ok (.if_icmp .ge 4, 3) := by decide +kernel
theorem dX12_clocks_50 : decode cX12_clocks 50 = .ok (.return_, 1) := by decide +kernel
theorem dX12_clocks_51 : decode cX12_clocks 51 = .ok (.aload_n 0, 1) := by decide +kernel
theorem dX12_clocks_52 : decode cX12_clocks 52 = .ok (.getfield 317, 3) := by decide +kernel
theorem dX12_clocks_55 : decode cX12_clocks 55 = .ok (.iload_n 1, 1) := by decide +kernel
theorem dX12_clocks_56 : decode cX12_clocks 56 = .ok (.iaload, 1) := by decide +kernel
theorem dX12_clocks_57 : decode cX12_clocks 57 = .ok (.sipush 500, 3) := by decide +kernel
theorem dX12_clocks_60 : decode cX12_clocks 60 = .ok (.if_icmp .ge 24, 3) := by decide +kernel
theorem dX12_clocks_63 : decode cX12_clocks 63 = .ok (.aload_n 0, 1) := by decide +kernel
theorem dX12_clocks_64 : decode cX12_clocks 64 = .ok (.getfield 314, 3) := by decide +kernel
theorem dX12_clocks_67 : decode cX12_clocks 67 = .ok (.iload_n 1, 1) := by decide +kernel
theorem dX12_clocks_68 : decode cX12_clocks 68 = .ok (.aaload, 1) := by decide +kernel
theorem dX12_clocks_69 : decode cX12_clocks 69 = .ok (.aload_n 0, 1) := by decide +kernel
theorem dX12_clocks_70 : decode cX12_clocks 70 = .ok (.getfield 317, 3) := by decide +kernel
theorem dX12_clocks_73 : decode cX12_clocks 73 = .ok (.iload_n 1, 1) := by decide +kernel
theorem dX12_clocks_74 : decode cX12_clocks 74 = .ok (.iaload, 1) := by decide +kernel
theorem dX12_clocks_75 : decode cX12_clocks 75 = .ok (.aload_n 0, 1) := by decide +kernel
theorem dX12_clocks_76 : decode cX12_clocks 76 = .ok (.getfield 308, 3) := by decide +kernel
theorem dX12_clocks_79 : decode cX12_clocks 79 = .ok (.iload_n 1, 1) := by decide +kernel
theorem dX12_clocks_80 : decode cX12_clocks 80 = .ok (.aaload, 1) := by decide +kernel
theorem dX12_clocks_81 : decode cX12_clocks 81 = .ok (.iconst 0, 1) := by decide +kernel
theorem dX12_clocks_82 : decode cX12_clocks 82 = .ok (.iaload, 1) := by decide +kernel
theorem dX12_clocks_83 : decode cX12_clocks 83 = .ok (.iastore, 1) := by decide +kernel
theorem dX12_clocks_84 : decode cX12_clocks 84 = .ok (.aload_n 0, 1) := by decide +kernel
theorem dX12_clocks_85 : decode cX12_clocks 85 = .ok (.getfield 317, 3) := by decide +kernel
theorem dX12_clocks_88 : decode cX12_clocks 88 = .ok (.iload_n 1, 1) := by decide +kernel
theorem dX12_clocks_89 : decode cX12_clocks 89 = .ok (.dup2, 1) := by decide +kernel
theorem dX12_clocks_90 : decode cX12_clocks 90 = .ok (.iaload, 1) := by decide +kernel
theorem dX12_clocks_91 : decode cX12_clocks 91 = .ok (.iconst 1, 1) := by decide +kernel
theorem dX12_clocks_92 : decode cX12_clocks 92 = .ok (.iadd, 1) := by decide +kernel
theorem dX12_clocks_93 : decode cX12_clocks 93 = .ok (.iastore, 1) := by decide +kernel
theorem dX12_clocks_94 : decode cX12_clocks 94 = .ok (.aload_n 0, 1) := by decide +kernel
theorem dX12_clocks_95 : decode cX12_clocks 95 = .ok (.getfield 311, 3) := by decide +kernel
theorem dX12_clocks_98 : decode cX12_clocks 98 = .ok (.iload_n 1, 1) := by decide +kernel
theorem dX12_clocks_99 : decode cX12_clocks 99 = .ok (.dup2, 1) := by decide +kernel
theorem dX12_clocks_100 : decode cX12_clocks 100 = .ok (.iaload, 1) := by decide +kernel
theorem dX12_clocks_101 : decode cX12_clocks 101 = .ok (.iconst 1, 1) := by decide +kernel
theorem dX12_clocks_102 : decode cX12_clocks 102 = .ok (.isub, 1) := by decide +kernel
theorem dX12_clocks_103 : decode cX12_clocks 103 = .ok (.iastore, 1) := by decide +kernel
theorem dX12_clocks_104 : decode cX12_clocks 104 = .ok (.iconst 0, 1) := by decide +kernel
theorem dX12_clocks_105 : decode cX12_clocks 105 = .ok (.istore_n 2, 1) := by decide +kernel
theorem dX12_clocks_106 : decode cX12_clocks 106 = .ok (.iload_n 2, 1) := by decide +kernel
theorem dX12_clocks_107 : decode cX12_clocks 107 = .ok (.aload_n 0, 1) := by decide +kernel
theorem dX12_clocks_108 : decode cX12_clocks 108 = .ok (.getfield 311, 3) := by decide +kernel
theorem dX12_clocks_111 : decode cX12_clocks 111 = .ok (.iload_n 1, 1) := by decide +kernel
theorem dX12_clocks_112 : decode cX12_clocks 112 = .ok (.iaload, 1) := by decide +kernel
theorem dX12_clocks_113 : decode cX12_clocks 113 = .ok (.if_icmp .ge 27, 3) := by decide +kernel
theorem dX12_clocks_116 : decode cX12_clocks 116 = .ok (.aload_n 0, 1) := by decide +kernel
theorem dX12_clocks_117 : decode cX12_clocks 117 = .ok (.getfield 308, 3) := by decide +kernel
theorem dX12_clocks_120 : decode cX12_clocks 120 = .ok (.iload_n 1, 1) := by decide +kernel
theorem dX12_clocks_121 : decode cX12_clocks 121 = .ok (.aaload, 1) := by decide +kernel
theorem dX12_clocks_122 : decode cX12_clocks 122 = .ok (.iload_n 2, 1) := by decide +kernel
theorem dX12_clocks_123 : decode cX12_clocks 123 = .ok (.aload_n 0, 1) := by decide +kernel
theorem dX12_clocks_124 : decode cX12_clocks 124 = .ok (.getfield 308, 3) := by decide +kernel
theorem dX12_clocks_127 : decode cX12_clocks 127 = .ok (.iload_n 1, 1) := by decide +kernel
theorem dX12_clocks_128 : decode cX12_clocks 128 = .ok (.aaload, 1) := by decide +kernel
theorem dX12_clocks_129 : decode cX12_clocks 129 = .ok (.iload_n 2, 1) := by decide +kernel
theorem dX12_clocks_130 : decode cX12_clocks 130 = .ok (.iconst 1, 1) := by decide +kernel
theorem dX12_clocks_131 : decode cX12_clocks 131 = .ok (.iadd, 1) := by decide +kernel
theorem dX12_clocks_132 : decode cX12_clocks 132 = .ok (.iaload, 1) := by decide +kernel
theorem dX12_clocks_133 : decode cX12_clocks 133 = .ok (.iastore, 1) := by decide +kernel
theorem dX12_clocks_134 : decode cX12_clocks 134 = .ok (.iinc 2 1, 3) := by decide +kernel
theorem dX12_clocks_137 : decode cX12_clocks 137 = .ok (.goto (-31), 3) := by decide +kernel
theorem dX12_clocks_140 : decode cX12_clocks 140 = .ok (.aload_n 0, 1) := by decide +kernel
theorem dX12_clocks_141 : decode cX12_clocks 141 = .ok (.getfield 320, 3) := by decide +kernel
theorem dX12_clocks_144 : decode cX12_clocks 144 = .ok (.iload_n 1, 1) := by decide +kernel
theorem dX12_clocks_145 : decode cX12_clocks 145 = .ok (.aload_n 0, 1) := by decide +kernel
theorem dX12_clocks_146 : decode cX12_clocks 146 = .ok (.getfield 378, 3) := by decide +kernel
theorem dX12_clocks_149 : decode cX12_clocks 149 = .ok (.aload_n 0, 1) := by decide +kernel
theorem dX12_clocks_150 : decode cX12_clocks 150 = .ok (.getfield 252, 3) := by decide +kernel
theorem dX12_clocks_153 : decode cX12_clocks 153 = .ok (.iadd, 1) := by decide +kernel
theorem dX12_clocks_154 : decode cX12_clocks 154 = .ok (.iastore, 1) := by decide +kernel
theorem dX12_clocks_155 : decode cX12_clocks 155 = .ok (.aload_n 0, 1) := by decide +kernel
theorem dX12_clocks_156 : decode cX12_clocks 156 = .ok (.getfield 278, 3) := by decide +kernel
theorem dX12_clocks_159 : decode cX12_clocks 159 = .ok (.iload_n 1, 1) := by decide +kernel
theorem dX12_clocks_160 : decode cX12_clocks 160 = .ok (.iaload, 1) := by decide +kernel
theorem dX12_clocks_161 : decode cX12_clocks 161 = .ok (.iconst 3, 1) := by decide +kernel
theorem dX12_clocks_162 : decode cX12_clocks 162 = .ok (.if_icmp .ne 8, 3) := by decide +kernel
theorem dX12_clocks_165 : decode cX12_clocks 165 = .ok (.aload_n 0, 1) := by decide +kernel
theorem dX12_clocks_166 : decode cX12_clocks 166 = .ok (.iload_n 1, 1) := by decide +kernel
theorem dX12_clocks_167 : decode cX12_clocks 167 = .ok (.invokevirtual 362, 3) := by decide +kernel
theorem dX12_clocks_170 : decode cX12_clocks 170 = .ok (.return_, 1) := by decide +kernel
theorem dX12_moves_0 : decode cX12_moves 0 = .ok (.aload_n 0, 1) := by decide +kernel
theorem dX12_moves_1 : decode cX12_moves 1 = .ok (.getfield 347, 3) := by decide +kernel
theorem dX12_moves_4 : decode cX12_moves 4 = .ok (.istore_n 1, 1) := by decide +kernel
theorem dX12_moves_5 : decode cX12_moves 5 = .ok (.iconst 0, 1) := by decide +kernel
theorem dX12_moves_6 : decode cX12_moves 6 = .ok (.istore_n 2, 1) := by decide +kernel
theorem dX12_moves_7 : decode cX12_moves 7 = .ok (.iload_n 2, 1) := by decide +kernel
theorem dX12_moves_8 : decode cX12_moves 8 = .ok (.bipush 16, 2) := by decide +kernel
theorem dX12_moves_10 : decode cX12_moves 10 = .ok (.if_icmp .ge 165, 3) := by decide +kernel
theorem dX12_moves_13 : decode cX12_moves 13 = .ok (.aload_n 0, 1) := by decide +kernel
theorem dX12_moves_14 : decode cX12_moves 14 = .ok (.getfield 329, 3) := by decide +kernel
theorem dX12_moves_17 : decode cX12_moves 17 = .ok (.iload_n 1, 1) := by decide +kernel
theorem dX12_moves_18 : decode cX12_moves 18 = .ok (.iaload, 1) := by decide +kernel
theorem dX12_moves_19 : decode cX12_moves 19 = .ok (.aload_n 0, 1) := by decide +kernel
theorem dX12_moves_20 : decode cX12_moves 20 = .ok (.getfield 393, 3) := by decide +kernel
theorem dX12_moves_23 : decode cX12_moves 23 = .ok (.iadd, 1) := by decide +kernel
theorem dX12_moves_24 : decode cX12_moves 24 = .ok (.sipush 4095, 3) := by decide +kernel
theorem dX12_moves_27 : decode cX12_moves 27 = .ok (.iand, 1) := by decide +kernel
theorem dX12_moves_28 : decode cX12_moves 28 = .ok (.istore_n 3, 1) := by decide +kernel
theorem dX12_moves_29 : decode cX12_moves 29 = .ok (.sipush 128, 3) := by decide +kernel
theorem dX12_moves_32 : decode cX12_moves 32 = .ok (.aload_n 0, 1) := by decide +kernel
theorem dX12_moves_33 : decode cX12_moves 33 = .ok (.getfield 332, 3) := by decide +kernel
theorem dX12_moves_36 : decode cX12_moves 36 = .ok (.iload_n 1, 1) := by decide +kernel
theorem dX12_moves_37 : decode cX12_moves 37 = .ok (.iaload, 1) := by decide +kernel
theorem dX12_moves_38 : decode cX12_moves 38 = .ok (.imul, 1) := by decide +kernel
theorem dX12_moves_39 : decode cX12_moves 39 = .ok (.aload_n 0, 1) := by decide +kernel
theorem dX12_moves_40 : decode cX12_moves 40 = .ok (.getfield 393, 3) := by decide +kernel
theorem dX12_moves_43 : decode cX12_moves 43 = .ok (.iadd, 1) := by decide +kernel
theorem dX12_moves_44 : decode cX12_moves 44 = .ok (.istore 4, 2) := by decide +kernel
theorem dX12_moves_46 : decode cX12_moves 46 = .ok (.aload_n 0, 1) := by decide +kernel
theorem dX12_moves_47 : decode cX12_moves 47 = .ok (.getfield 344, 3) := by decide +kernel
theorem dX12_moves_50 : decode cX12_moves 50 = .ok (.iconst 1, 1) := by decide +kernel
theorem dX12_moves_51 : decode cX12_moves 51 = .ok (.if_icmp .ne 31, 3) := by decide +kernel
theorem dX12_moves_54 : decode cX12_moves 54 = .ok (.aload_n 0, 1) := by decide +kernel
theorem dX12_moves_55 : decode cX12_moves 55 = .ok (.getfield 260, 3) := by decide +kernel
theorem dX12_moves_58 : decode cX12_moves 58 = .ok (.iload_n 1, 1) := by decide +kernel
theorem dX12_moves_59 : decode cX12_moves 59 = .ok (.aaload, 1) := by decide +kernel
theorem dX12_moves_60 : decode cX12_moves 60 = .ok (.aload_n 0, 1) := by decide +kernel
theorem dX12_moves_61 : decode cX12_moves 61 = .ok (.getfield 393, 3) := by decide +kernel
