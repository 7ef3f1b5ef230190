theorem dL_same_105 : decode cL_same 105 = .ok (.invokevirtual 77, 3) := by decide +kernel
theorem dL_same_108 : decode cL_same 108 = .ok (.aload_n 2, 1) := by decide +kernel
theorem dL_same_109 : decode cL_same 109 = .ok (.iload 10, 2) := by decide +kernel
theorem dL_same_111 : decode cL_same 111 = .ok (.iaload, 1) := by decide +kernel
theorem dL_same_112 : decode cL_same 112 = .ok (.iconst 1, 1) := by decide +kernel
theorem dL_same_113 : decode cL_same 113 = .ok (.if_icmp .ne 10, 3) := by decide +kernel
theorem dL_same_116 : decode cL_same 116 = .ok (.aload_n 3, 1) := by decide +kernel
theorem dL_same_117 : decode cL_same 117 = .ok (.iload 10, 2) := by decide +kernel
theorem dL_same_119 : decode cL_same 119 = .ok (.iaload, 1) := by decide +kernel
theorem dL_same_120 : decode cL_same 120 = .ok (.goto 4, 3) := by decide +kernel
theorem dL_same_123 : decode cL_same 123 = .ok (.iconst (-1), 1) := by decide +kernel
theorem dL_same_124 : decode cL_same 124 = .ok (.if_icmp .eq 5, 3) := by decide +kernel
theorem dL_same_127 : decode cL_same 127 = .ok (.iconst 0, 1) := by decide +kernel
theorem dL_same_128 : decode cL_same 128 = .ok (.ireturn, 1) := by decide +kernel
theorem dL_same_129 : decode cL_same 129 = .ok (.aload_n 0, 1) := by decide +kernel
theorem dL_same_130 : decode cL_same 130 = .ok (.iload 11, 2) := by decide +kernel
theorem dL_same_132 : decode cL_same 132 = .ok (.iload 12, 2) := by decide +kernel
theorem dL_same_134 : decode cL_same 134 = .ok (.invokevirtual 80, 3) := by decide +kernel
theorem dL_same_137 : decode cL_same 137 = .ok (.aload 4, 2) := by decide +kernel
theorem dL_same_139 : decode cL_same 139 = .ok (.iload 10, 2) := by decide +kernel
theorem dL_same_141 : decode cL_same 141 = .ok (.iaload, 1) := by decide +kernel
theorem dL_same_142 : decode cL_same 142 = .ok (.iconst 1, 1) := by decide +kernel
theorem dL_same_143 : decode cL_same 143 = .ok (.if_icmp .ne 15, 3) := by decide +kernel
theorem dL_same_146 : decode cL_same 146 = .ok (.iload 10, 2) := by decide +kernel
theorem dL_same_148 : decode cL_same 148 = .ok (.aload_n 1, 1) := by decide +kernel
theorem dL_same_149 : decode cL_same 149 = .ok (.aload_n 2, 1) := by decide +kernel
theorem dL_same_150 : decode cL_same 150 = .ok (.aload 4, 2) := by decide +kernel
theorem dL_same_152 : decode cL_same 152 = .ok (.invokestatic 83, 3) := by decide +kernel
theorem dL_same_155 : decode cL_same 155 = .ok (.goto 4, 3) := by decide +kernel
theorem dL_same_158 : decode cL_same 158 = .ok (.iconst (-1), 1) := by decide +kernel
theorem dL_same_159 : decode cL_same 159 = .ok (.if_icmp .eq 5, 3) := by decide +kernel
theorem dL_same_162 : decode cL_same 162 = .ok (.iconst 0, 1) := by decide +kernel
theorem dL_same_163 : decode cL_same 163 = .ok (.ireturn, 1) := by decide +kernel
theorem dL_same_164 : decode cL_same 164 = .ok (.iload 10, 2) := by decide +kernel
theorem dL_same_166 : decode cL_same 166 = .ok (.ifCond .le 76, 3) := by decide +kernel
theorem dL_same_169 : decode cL_same 169 = .ok (.aload_n 2, 1) := by decide +kernel
theorem dL_same_170 : decode cL_same 170 = .ok (.iload 10, 2) := by decide +kernel
theorem dL_same_172 : decode cL_same 172 = .ok (.iaload, 1) := by decide +kernel
theorem dL_same_173 : decode cL_same 173 = .ok (.iconst 1, 1) := by decide +kernel
theorem dL_same_174 : decode cL_same 174 = .ok (.if_icmp .ne 68, 3) := by decide +kernel
theorem dL_same_177 : decode cL_same 177 = .ok (.iload 10, 2) := by decide +kernel
theorem dL_same_179 : decode cL_same 179 = .ok (.aload_n 2, 1) := by decide +kernel
theorem dL_same_180 : decode cL_same 180 = .ok (.invokestatic 75, 3) := by decide +kernel
theorem dL_same_183 : decode cL_same 183 = .ok (.istore 13, 2) := by decide +kernel
theorem dL_same_185 : decode cL_same 185 = .ok (.aload_n 0, 1) := by decide +kernel
theorem dL_same_186 : decode cL_same 186 = .ok (.iload 13, 2) := by decide +kernel
theorem dL_same_188 : decode cL_same 188 = .ok (.iconst 0, 1) := by decide +kernel
theorem dL_same_189 : decode cL_same 189 = .ok (.invokevirtual 86, 3) := by decide +kernel
theorem dL_same_192 : decode cL_same 192 = .ok (.iload 11, 2) := by decide +kernel
theorem dL_same_194 : decode cL_same 194 = .ok (.if_icmp .ne 46, 3) := by decide +kernel
theorem dL_same_197 : decode cL_same 197 = .ok (.aload_n 0, 1) := by decide +kernel
theorem dL_same_198 : decode cL_same 198 = .ok (.iload 13, 2) := by decide +kernel
theorem dL_same_200 : decode cL_same 200 = .ok (.iconst 1, 1) := by decide +kernel
theorem dL_same_201 : decode cL_same 201 = .ok (.invokevirtual 86, 3) := by decide +kernel
theorem dL_same_204 : decode cL_same 204 = .ok (.iload 12, 2) := by decide +kernel
theorem dL_same_206 : decode cL_same 206 = .ok (.if_icmp .ne 34, 3) := by decide +kernel
theorem dL_same_209 : decode cL_same 209 = .ok (.aload_n 0, 1) := by decide +kernel
theorem dL_same_210 : decode cL_same 210 = .ok (.iload 13, 2) := by decide +kernel
theorem dL_same_212 : decode cL_same 212 = .ok (.iconst 2, 1) := by decide +kernel
theorem dL_same_213 : decode cL_same 213 = .ok (.invokevirtual 86, 3) := by decide +kernel
theorem dL_same_216 : decode cL_same 216 = .ok (.aload_n 3, 1) := by decide +kernel
theorem dL_same_217 : decode cL_same 217 = .ok (.iload 10, 2) := by decide +kernel
theorem dL_same_219 : decode cL_same 219 = .ok (.iaload, 1) := by decide +kernel
theorem dL_same_220 : decode cL_same 220 = .ok (.if_icmp .ne 20, 3) := by decide +kernel
theorem dL_same_223 : decode cL_same 223 = .ok (.aload_n 0, 1) := by decide +kernel
theorem dL_same_224 : decode cL_same 224 = .ok (.iload 13, 2) := by decide +kernel
theorem dL_same_226 : decode cL_same 226 = .ok (.iconst 3, 1) := by decide +kernel
theorem dL_same_227 : decode cL_same 227 = .ok (.invokevirtual 86, 3) := by decide +kernel
theorem dL_same_230 : decode cL_same 230 = .ok (.iload 10, 2) := by decide +kernel
theorem dL_same_232 : decode cL_same 232 = .ok (.aload 4, 2) := by decide +kernel
theorem dL_same_234 : decode cL_same 234 = .ok (.invokestatic 56, 3) := by decide +kernel
theorem dL_same_237 : decode cL_same 237 = .ok (.if_icmp .eq 5, 3) := by decide +kernel
theorem dL_same_240 : decode cL_same 240 = .ok (.iconst 0, 1) := by decide +kernel
theorem dL_same_241 : decode cL_same 241 = .ok (.ireturn, 1) := by decide +kernel
theorem dL_same_242 : decode cL_same 242 = .ok (.iload 5, 2) := by decide +kernel
theorem dL_same_244 : decode cL_same 244 = .ok (.aload_n 2, 1) := by decide +kernel
theorem dL_same_245 : decode cL_same 245 = .ok (.iload 10, 2) := by decide +kernel
theorem dL_same_247 : decode cL_same 247 = .ok (.iaload, 1) := by decide +kernel
theorem dL_same_248 : decode cL_same 248 = .ok (.iadd, 1) := by decide +kernel
theorem dL_same_249 : decode cL_same 249 = .ok (.istore 5, 2) := by decide +kernel
theorem dL_same_251 : decode cL_same 251 = .ok (.iload 6, 2) := by decide +kernel
theorem dL_same_253 : decode cL_same 253 = .ok (.aload 4, 2) := by decide +kernel
theorem dL_same_255 : decode cL_same 255 = .ok (.iload 10, 2) := by decide +kernel
theorem dL_same_257 : decode cL_same 257 = .ok (.iaload, 1) := by decide +kernel
theorem dL_same_258 : decode cL_same 258 = .ok (.iadd, 1) := by decide +kernel
theorem dL_same_259 : decode cL_same 259 = .ok (.istore 6, 2) := by decide +kernel
theorem dL_same_261 : decode cL_same 261 = .ok (.iload 7, 2) := by decide +kernel
theorem dL_same_263 : decode cL_same 263 = .ok (.aload_n 2, 1) := by decide +kernel
theorem dL_same_264 : decode cL_same 264 = .ok (.iload 10, 2) := by decide +kernel
theorem dL_same_266 : decode cL_same 266 = .ok (.iaload, 1) := by decide +kernel
theorem dL_same_267 : decode cL_same 267 = .ok (.iconst 1, 1) := by decide +kernel
theorem dL_same_268 : decode cL_same 268 = .ok (.if_icmp .ne 10, 3) := by decide +kernel
theorem dL_same_271 : decode cL_same 271 = .ok (.aload_n 3, 1) := by decide +kernel
theorem dL_same_272 : decode cL_same 272 = .ok (.iload 10, 2) := by decide +kernel
theorem dL_same_274 : decode cL_same 274 = .ok (.iaload, 1) := by decide +kernel
theorem dL_same_275 : decode cL_same 275 = .ok (.goto 4, 3) := by decide +kernel
theorem dL_same_278 : decode cL_same 278 = .ok (.iconst 0, 1) := by decide +kernel
theorem dL_same_279 : decode cL_same 279 = .ok (.iadd, 1) := by decide +kernel
theorem dL_same_280 : decode cL_same 280 = .ok (.istore 7, 2) := by decide +kernel
theorem dL_same_282 : decode cL_same 282 = .ok (.aload 4, 2) := by decide +kernel
theorem dL_same_284 : decode cL_same 284 = .ok (.iload 10, 2) := by decide +kernel
theorem dL_same_286 : decode cL_same 286 = .ok (.iaload, 1) := by decide +kernel
theorem dL_same_287 : decode cL_same 287 = .ok (.ifCond .ne 6, 3) := by decide +kernel
theorem dL_same_290 : decode cL_same 290 = .ok (.goto 255, 3) := by decide +kernel
theorem dL_same_293 : decode cL_same 293 = .ok (.iload 10, 2) := by decide +kernel
theorem dL_same_295 : decode cL_same 295 = .ok (.aload 4, 2) := by decide +kernel
theorem dL_same_297 : decode cL_same 297 = .ok (.invokestatic 62, 3) := by decide +kernel
theorem dL_same_300 : decode cL_same 300 = .ok (.istore 13, 2) := by decide +kernel
theorem dL_same_302 : decode cL_same 302 = .ok (.iload 10, 2) := by decide +kernel
theorem dL_same_304 : decode cL_same 304 = .ok (.ifCond .ne 7, 3) := by decide +kernel
theorem dL_same_307 : decode cL_same 307 = .ok (.iconst 0, 1) := by decide +kernel
theorem dL_same_308 : decode cL_same 308 = .ok (.goto 16, 3) := by decide +kernel
theorem dL_same_311 : decode cL_same 311 = .ok (.iload 12, 2) := by decide +kernel
theorem dL_same_313 : decode cL_same 313 = .ok (.iload 10, 2) := by decide +kernel
theorem dL_same_315 : decode cL_same 315 = .ok (.aload 4, 2) := by decide +kernel
theorem dL_same_317 : decode cL_same 317 = .ok (.invokestatic 43, 3) := by decide +kernel
theorem dL_same_320 : decode cL_same 320 = .ok (.invokestatic 40, 3) := by decide +kernel
theorem dL_same_323 : decode cL_same 323 = .ok (.isub, 1) := by decide +kernel
theorem dL_same_324 : decode cL_same 324 = .ok (.istore 14, 2) := by decide +kernel
theorem dL_same_326 : decode cL_same 326 = .ok (.aload_n 0, 1) := by decide +kernel
theorem dL_same_327 : decode cL_same 327 = .ok (.iload 13, 2) := by decide +kernel
theorem dL_same_329 : decode cL_same 329 = .ok (.iconst 0, 1) := by decide +kernel
theorem dL_same_330 : decode cL_same 330 = .ok (.invokevirtual 89, 3) := by decide +kernel
theorem dL_same_333 : decode cL_same 333 = .ok (.iload 11, 2) := by decide +kernel
theorem dL_same_335 : decode cL_same 335 = .ok (.if_icmp .ne 77, 3) := by decide +kernel
theorem dL_same_338 : decode cL_same 338 = .ok (.aload_n 0, 1) := by decide +kernel
theorem dL_same_339 : decode cL_same 339 = .ok (.iload 13, 2) := by decide +kernel
theorem dL_same_341 : decode cL_same 341 = .ok (.iconst 1, 1) := by decide +kernel
theorem dL_same_342 : decode cL_same 342 = .ok (.invokevirtual 89, 3) := by decide +kernel
theorem dL_same_345 : decode cL_same 345 = .ok (.iload 12, 2) := by decide +kernel
theorem dL_same_347 : decode cL_same 347 = .ok (.if_icmp .ne 65, 3) := by decide +kernel
theorem dL_same_350 : decode cL_same 350 = .ok (.aload_n 0, 1) := by decide +kernel
theorem dL_same_351 : decode cL_same 351 = .ok (.iload 13, 2) := by decide +kernel
theorem dL_same_353 : decode cL_same 353 = .ok (.iconst 2, 1) := by decide +kernel
theorem dL_same_354 : decode cL_same 354 = .ok (.invokevirtual 89, 3) := by decide +kernel
theorem dL_same_357 : decode cL_same 357 = .ok (.iload 11, 2) := by decide +kernel
theorem dL_same_359 : decode cL_same 359 = .ok (.iconst 1, 1) := by decide +kernel
theorem dL_same_360 : decode cL_same 360 = .ok (.iconst 3, 1) := by decide +kernel
theorem dL_same_361 : decode cL_same 361 = .ok (.iload 14, 2) := by decide +kernel
theorem dL_same_363 : decode cL_same 363 = .ok (.imul, 1) := by decide +kernel
theorem dL_same_364 : decode cL_same 364 = .ok (.ishl, 1) := by decide +kernel
theorem dL_same_365 : decode cL_same 365 = .ok (.irem, 1) := by decide +kernel
theorem dL_same_366 : decode cL_same 366 = .ok (.if_icmp .ne 46, 3) := by decide +kernel
theorem dL_same_369 : decode cL_same 369 = .ok (.aload_n 0, 1) := by decide +kernel
theorem dL_same_370 : decode cL_same 370 = .ok (.iload 13, 2) := by decide +kernel
theorem dL_same_372 : decode cL_same 372 = .ok (.iconst 3, 1) := by decide +kernel
theorem dL_same_373 : decode cL_same 373 = .ok (.invokevirtual 89, 3) := by decide +kernel
theorem dL_same_376 : decode cL_same 376 = .ok (.iload 14, 2) := by decide +kernel
theorem dL_same_378 : decode cL_same 378 = .ok (.if_icmp .ne 34, 3) := by decide +kernel
theorem dL_same_381 : decode cL_same 381 = .ok (.aload_n 0, 1) := by decide +kernel
theorem dL_same_382 : decode cL_same 382 = .ok (.iload 13, 2) := by decide +kernel
theorem dL_same_384 : decode cL_same 384 = .ok (.iconst 4, 1) := by decide +kernel
theorem dL_same_385 : decode cL_same 385 = .ok (.invokevirtual 89, 3) := by decide +kernel
theorem dL_same_388 : decode cL_same 388 = .ok (.iload 10, 2) := by decide +kernel
theorem dL_same_390 : decode cL_same 390 = .ok (.aload 4, 2) := by decide +kernel
theorem dL_same_392 : decode cL_same 392 = .ok (.invokestatic 47, 3) := by decide +kernel
theorem dL_same_395 : decode cL_same 395 = .ok (.if_icmp .ne 17, 3) := by decide +kernel
theorem dL_same_398 : decode cL_same 398 = .ok (.aload_n 0, 1) := by decide +kernel
theorem dL_same_399 : decode cL_same 399 = .ok (.iload 13, 2) := by decide +kernel
theorem dL_same_401 : decode cL_same 401 = .ok (.iconst 5, 1) := by decide +kernel
theorem dL_same_402 : decode cL_same 402 = .ok (.invokevirtual 89, 3) := by decide +kernel
theorem dL_same_405 : decode cL_same 405 = .ok (.aload_n 2, 1) := by decide +kernel
theorem dL_same_406 : decode cL_same 406 = .ok (.iload 10, 2) := by decide +kernel
theorem dL_same_408 : decode cL_same 408 = .ok (.iaload, 1) := by decide +kernel
theorem dL_same_409 : decode cL_same 409 = .ok (.if_icmp .eq 5, 3) := by decide +kernel
theorem dL_same_412 : decode cL_same 412 = .ok (.iconst 0, 1) := by decide +kernel
theorem dL_same_413 : decode cL_same 413 = .ok (.ireturn, 1) := by decide +kernel
theorem dL_same_414 : decode cL_same 414 = .ok (.aload_n 0, 1) := by decide +kernel
theorem dL_same_415 : decode cL_same 415 = .ok (.iload 13, 2) := by decide +kernel
theorem dL_same_417 : decode cL_same 417 = .ok (.bipush 6, 2) := by decide +kernel
theorem dL_same_419 : decode cL_same 419 = .ok (.invokevirtual 89, 3) := by decide +kernel
theorem dL_same_422 : decode cL_same 422 = .ok (.iload 10, 2) := by decide +kernel
theorem dL_same_424 : decode cL_same 424 = .ok (.aload_n 2, 1) := by decide +kernel
theorem dL_same_425 : decode cL_same 425 = .ok (.aload_n 3, 1) := by decide +kernel
theorem dL_same_426 : decode cL_same 426 = .ok (.iconst 0, 1) := by decide +kernel
theorem dL_same_427 : decode cL_same 427 = .ok (.invokestatic 68, 3) := by decide +kernel
theorem dL_same_430 : decode cL_same 430 = .ok (.if_icmp .ne 40, 3) := by decide +kernel
theorem dL_same_433 : decode cL_same 433 = .ok (.aload_n 0, 1) := by decide +kernel
theorem dL_same_434 : decode cL_same 434 = .ok (.iload 13, 2) := by decide +kernel
theorem dL_same_436 : decode cL_same 436 = .ok (.bipush 7, 2) := by decide +kernel
theorem dL_same_438 : decode cL_same 438 = .ok (.invokevirtual 89, 3) := by decide +kernel
theorem dL_same_441 : decode cL_same 441 = .ok (.iload 10, 2) := by decide +kernel
theorem dL_same_443 : decode cL_same 443 = .ok (.aload_n 2, 1) := by decide +kernel
theorem dL_same_444 : decode cL_same 444 = .ok (.aload_n 3, 1) := by decide +kernel
theorem dL_same_445 : decode cL_same 445 = .ok (.iconst 1, 1) := by decide +kernel
theorem dL_same_446 : decode cL_same 446 = .ok (.invokestatic 68, 3) := by decide +kernel
theorem dL_same_449 : decode cL_same 449 = .ok (.if_icmp .ne 21, 3) := by decide +kernel
theorem dL_same_452 : decode cL_same 452 = .ok (.aload_n 0, 1) := by decide +kernel
theorem dL_same_453 : decode cL_same 453 = .ok (.iload 13, 2) := by decide +kernel
theorem dL_same_455 : decode cL_same 455 = .ok (.bipush 8, 2) := by decide +kernel
theorem dL_same_457 : decode cL_same 457 = .ok (.invokevirtual 89, 3) := by decide +kernel
theorem dL_same_460 : decode cL_same 460 = .ok (.iload 10, 2) := by decide +kernel
theorem dL_same_462 : decode cL_same 462 = .ok (.aload 4, 2) := by decide +kernel
theorem dL_same_464 : decode cL_same 464 = .ok (.invokestatic 56, 3) := by decide +kernel
theorem dL_same_467 : decode cL_same 467 = .ok (.if_icmp .eq 5, 3) := by decide +kernel
theorem dL_same_470 : decode cL_same 470 = .ok (.iconst 0, 1) := by decide +kernel
theorem dL_same_471 : decode cL_same 471 = .ok (.ireturn, 1) := by decide +kernel
theorem dL_same_472 : decode cL_same 472 = .ok (.iload 10, 2) := by decide +kernel
theorem dL_same_474 : decode cL_same 474 = .ok (.aload_n 1, 1) := by decide +kernel
theorem dL_same_475 : decode cL_same 475 = .ok (.aload_n 2, 1) := by decide +kernel
theorem dL_same_476 : decode cL_same 476 = .ok (.aload 4, 2) := by decide +kernel
theorem dL_same_478 : decode cL_same 478 = .ok (.invokestatic 83, 3) := by decide +kernel
theorem dL_same_481 : decode cL_same 481 = .ok (.ifCond .ne 14, 3) := by decide +kernel
theorem dL_same_484 : decode cL_same 484 = .ok (.iload 10, 2) := by decide +kernel
theorem dL_same_486 : decode cL_same 486 = .ok (.aload_n 2, 1) := by decide +kernel
theorem dL_same_487 : decode cL_same 487 = .ok (.aload_n 3, 1) := by decide +kernel
theorem dL_same_488 : decode cL_same 488 = .ok (.iconst 1, 1) := by decide +kernel
theorem dL_same_489 : decode cL_same 489 = .ok (.invokestatic 68, 3) := by decide +kernel
theorem dL_same_492 : decode cL_same 492 = .ok (.goto 4, 3) := by decide +kernel
theorem dL_same_495 : decode cL_same 495 = .ok (.iconst (-1), 1) := by decide +kernel
theorem dL_same_496 : decode cL_same 496 = .ok (.istore 15, 2) := by decide +kernel
theorem dL_same_498 : decode cL_same 498 = .ok (.aload_n 0, 1) := by decide +kernel
theorem dL_same_499 : decode cL_same 499 = .ok (.iload 13, 2) := by decide +kernel
theorem dL_same_501 : decode cL_same 501 = .ok (.invokevirtual 92, 3) := by decide +kernel
theorem dL_same_504 : decode cL_same 504 = .ok (.iload 15, 2) := by decide +kernel
theorem dL_same_506 : decode cL_same 506 = .ok (.if_icmp .eq 5, 3) := by decide +kernel
theorem dL_same_509 : decode cL_same 509 = .ok (.iconst 0, 1) := by decide +kernel
theorem dL_same_510 : decode cL_same 510 = .ok (.ireturn, 1) := by decide +kernel
theorem dL_same_511 : decode cL_same 511 = .ok (.iload 15, 2) := by decide +kernel
theorem dL_same_513 : decode cL_same 513 = .ok (.iload 9, 2) := by decide +kernel
theorem dL_same_515 : decode cL_same 515 = .ok (.if_icmp .gt 22, 3) := by decide +kernel
theorem dL_same_518 : decode cL_same 518 = .ok (.iload 15, 2) := by decide +kernel
theorem dL_same_520 : decode cL_same 520 = .ok (.iload 9, 2) := by decide +kernel
theorem dL_same_522 : decode cL_same 522 = .ok (.if_icmp .ne 23, 3) := by decide +kernel
theorem dL_same_525 : decode cL_same 525 = .ok (.iload 15, 2) := by decide +kernel
theorem dL_same_527 : decode cL_same 527 = .ok (.ifCond .lt 18, 3) := by decide +kernel
theorem dL_same_530 : decode cL_same 530 = .ok (.iload 13, 2) := by decide +kernel
theorem dL_same_532 : decode cL_same 532 = .ok (.iload 8, 2) := by decide +kernel
theorem dL_same_534 : decode cL_same 534 = .ok (.if_icmp .ge 11, 3) := by decide +kernel
theorem dL_same_537 : decode cL_same 537 = .ok (.iload 15, 2) := by decide +kernel
theorem dL_same_539 : decode cL_same 539 = .ok (.istore 9, 2) := by decide +kernel
theorem dL_same_541 : decode cL_same 541 = .ok (.iload 13, 2) := by decide +kernel
theorem dL_same_543 : decode cL_same 543 = .ok (.istore 8, 2) := by decide +kernel
theorem dL_same_545 : decode cL_same 545 = .ok (.iinc 10 1, 3) := by decide +kernel
theorem dL_same_548 : decode cL_same 548 = .ok (.goto (-530), 3) := by decide +kernel
theorem dL_same_551 : decode cL_same 551 = .ok (.aload_n 0, 1) := by decide +kernel
theorem dL_same_552 : decode cL_same 552 = .ok (.iconst 0, 1) := by decide +kernel
theorem dL_same_553 : decode cL_same 553 = .ok (.invokevirtual 95, 3) := by decide +kernel
theorem dL_same_556 : decode cL_same 556 = .ok (.iload 5, 2) := by decide +kernel
theorem dL_same_558 : decode cL_same 558 = .ok (.if_icmp .ne 101, 3) := by decide +kernel
theorem dL_same_561 : decode cL_same 561 = .ok (.aload_n 0, 1) := by decide +kernel
theorem dL_same_562 : decode cL_same 562 = .ok (.iconst 1, 1) := by decide +kernel
theorem dL_same_563 : decode cL_same 563 = .ok (.invokevirtual 95, 3) := by decide +kernel
theorem dL_same_566 : decode cL_same 566 = .ok (.iload 6, 2) := by decide +kernel
theorem dL_same_568 : decode cL_same 568 = .ok (.if_icmp .ne 91, 3) := by decide +kernel
theorem dL_same_571 : decode cL_same 571 = .ok (.aload_n 0, 1) := by decide +kernel
theorem dL_same_572 : decode cL_same 572 = .ok (.iconst 3, 1) := by decide +kernel
theorem dL_same_573 : decode cL_same 573 = .ok (.invokevirtual 95, 3) := by decide +kernel
theorem dL_same_576 : decode cL_same 576 = .ok (.aload_n 2, 1) := by decide +kernel
theorem dL_same_577 : decode cL_same 577 = .ok (.aload_n 3, 1) := by decide +kernel
theorem dL_same_578 : decode cL_same 578 = .ok (.aload 4, 2) := by decide +kernel
theorem dL_same_580 : decode cL_same 580 = .ok (.invokestatic 98, 3) := by decide +kernel
theorem dL_same_583 : decode cL_same 583 = .ok (.if_icmp .ne 76, 3) := by decide +kernel
theorem dL_same_586 : decode cL_same 586 = .ok (.aload_n 0, 1) := by decide +kernel
theorem dL_same_587 : decode cL_same 587 = .ok (.bipush 7, 2) := by decide +kernel
theorem dL_same_589 : decode cL_same 589 = .ok (.invokevirtual 95, 3) := by decide +kernel
theorem dL_same_592 : decode cL_same 592 = .ok (.aload_n 1, 1) := by decide +kernel
theorem dL_same_593 : decode cL_same 593 = .ok (.iconst 1, 1) := by decide +kernel
theorem dL_same_594 : decode cL_same 594 = .ok (.iaload, 1) := by decide +kernel
theorem dL_same_595 : decode cL_same 595 = .ok (.if_icmp .ne 64, 3) := by decide +kernel
theorem dL_same_598 : decode cL_same 598 = .ok (.aload_n 0, 1) := by decide +kernel
theorem dL_same_599 : decode cL_same 599 = .ok (.bipush 8, 2) := by decide +kernel
theorem dL_same_601 : decode cL_same 601 = .ok (.invokevirtual 95, 3) := by decide +kernel
theorem dL_same_604 : decode cL_same 604 = .ok (.aload_n 1, 1) := by decide +kernel
theorem dL_same_605 : decode cL_same 605 = .ok (.iconst 2, 1) := by decide +kernel
theorem dL_same_606 : decode cL_same 606 = .ok (.iaload, 1) := by decide +kernel
theorem dL_same_607 : decode cL_same 607 = .ok (.if_icmp .ne 52, 3) := by decide +kernel
theorem dL_same_610 : decode cL_same 610 = .ok (.aload_n 0, 1) := by decide +kernel
theorem dL_same_611 : decode cL_same 611 = .ok (.bipush 9, 2) := by decide +kernel
theorem dL_same_613 : decode cL_same 613 = .ok (.invokevirtual 95, 3) := by decide +kernel
theorem dL_same_616 : decode cL_same 616 = .ok (.aload_n 1, 1) := by decide +kernel
theorem dL_same_617 : decode cL_same 617 = .ok (.iconst 3, 1) := by decide +kernel
theorem dL_same_618 : decode cL_same 618 = .ok (.iaload, 1) := by decide +kernel
theorem dL_same_619 : decode cL_same 619 = .ok (.if_icmp .ne 40, 3) := by decide +kernel
theorem dL_same_622 : decode cL_same 622 = .ok (.aload_n 0, 1) := by decide +kernel
theorem dL_same_623 : decode cL_same 623 = .ok (.bipush 10, 2) := by decide +kernel
theorem dL_same_625 : decode cL_same 625 = .ok (.invokevirtual 95, 3) := by decide +kernel
theorem dL_same_628 : decode cL_same 628 = .ok (.aload_n 1, 1) := by decide +kernel
theorem dL_same_629 : decode cL_same 629 = .ok (.iconst 4, 1) := by decide +kernel
theorem dL_same_630 : decode cL_same 630 = .ok (.iaload, 1) := by decide +kernel
theorem dL_same_631 : decode cL_same 631 = .ok (.if_icmp .ne 28, 3) := by decide +kernel
theorem dL_same_634 : decode cL_same 634 = .ok (.aload_n 0, 1) := by decide +kernel
theorem dL_same_635 : decode cL_same 635 = .ok (.iconst 0, 1) := by decide +kernel
theorem dL_same_636 : decode cL_same 636 = .ok (.bipush 7, 2) := by decide +kernel
theorem dL_same_638 : decode cL_same 638 = .ok (.invokevirtual 89, 3) := by decide +kernel
theorem dL_same_641 : decode cL_same 641 = .ok (.iload 7, 2) := by decide +kernel
theorem dL_same_643 : decode cL_same 643 = .ok (.if_icmp .ne 16, 3) := by decide +kernel
theorem dL_same_646 : decode cL_same 646 = .ok (.aload_n 0, 1) := by decide +kernel
theorem dL_same_647 : decode cL_same 647 = .ok (.invokevirtual 102, 3) := by decide +kernel
theorem dL_same_650 : decode cL_same 650 = .ok (.iload 8, 2) := by decide +kernel
theorem dL_same_652 : decode cL_same 652 = .ok (.if_icmp .ne 7, 3) := by decide +kernel
theorem dL_same_655 : decode cL_same 655 = .ok (.iconst 1, 1) := by decide +kernel
theorem dL_same_656 : decode cL_same 656 = .ok (.goto 4, 3) := by decide +kernel
theorem dL_same_659 : decode cL_same 659 = .ok (.iconst 0, 1) := by decide +kernel
theorem dL_same_660 : decode cL_same 660 = .ok (.ireturn, 1) := by decide +kernel
set_option maxRecDepth 20000 in
theorem ggL_tours_X7_whole : GoodIn wsL_tours wsX7_whole := goodIn_ca (goodIn_r _ [5, 6, 7, 8, 9, 4, 10, 11, 12, 13, 14, 15, 16, 17, 18, 19, 20, 21, 22, 23, 24, 25, 26, 27, 28, 29, 30, 31, 32, 33, 34, 35, 36, 37, 38, 39, 40, 41, 42, 43, 44, 45, 46, 47, 48, 49, 50, 51, 52, 53, 54, 55, 56, 57, 58, 59, 60, 61, 62, 63, 64, 65, 66, 67, 68, 69, 70, 71, 72, 73, 74, 75, 76, 77, 78, 124, 125, 126, 127, 128, 129, 130, 131, 132, 133, 134, 135, 136, 137, 138, 139, 140, 141, 142, 143, 144, 145, 146, 147] (by decide +kernel) (by decide +kernel)) (goodIn_sub (fun _ h => List.mem_cons_of_mem _ (List.mem_append_left _ (List.mem_append_right _ h))) (by decide +kernel))
set_option maxRecDepth 20000 in
theorem gL_tours_X7_whole : GoodIn wsL_tours (wsV RL 95 RX7 yX7_whole wsX7_whole) := goodIn_app (goodIn_of _ (by decide +kernel)) ggL_tours_X7_whole
set_option maxRecDepth 20000 in
theorem ggL_tours_L_rank : GoodIn wsL_tours wsL_rank := goodIn_r _ [82, 83, 84, 81, 85, 86, 87, 88, 89, 90, 91] (by decide +kernel) (by decide +kernel)
set_option maxRecDepth 20000 in
theorem gL_tours_L_rank : GoodIn wsL_tours (va_wsS RL 75 yL_rank wsL_rank) := goodIn_app (goodIn_of _ (by decide +kernel)) ggL_tours_L_rank
set_option maxRecDepth 20000 in
theorem ggL_tours_X7_between : GoodIn wsL_tours wsX7_between := goodIn_ca (goodIn_r _ [95, 7, 96, 97, 98, 4, 99, 100, 101, 102, 32, 33, 22, 34, 35, 36, 37, 38, 39, 40, 41, 103, 104, 105, 106, 46, 62, 124, 125, 126, 127, 128, 131, 132, 133, 134, 135, 136, 137, 138, 147] (by decide +kernel) (by decide +kernel)) (goodIn_sub (fun _ h => List.mem_cons_of_mem _ (List.mem_append_right _ h)) (by decide +kernel))
set_option maxRecDepth 20000 in
theorem gL_tours_X7_between : GoodIn wsL_tours (wsV RL 106 RX7 yX7_between wsX7_between) := goodIn_app (goodIn_of _ (by decide +kernel)) ggL_tours_X7_between
set_option maxRecDepth 20000 in
theorem ggL_tours_L_between : GoodIn wsL_tours wsL_between := goodIn_r _ [109, 110, 111, 81, 112, 113, 114, 115] (by decide +kernel) (by decide +kernel)
set_option maxRecDepth 20000 in
theorem gL_tours_L_between : GoodIn wsL_tours (va_wsS RL 109 yL_between wsL_between) := goodIn_app (goodIn_of _ (by decide +kernel)) ggL_tours_L_between
set_option maxRecDepth 20000 in
theorem ggL_tours_X7_tour : GoodIn wsL_tours wsX7_tour := goodIn_r _ [119, 7, 120, 121, 122, 22, 123, 24, 25, 124, 125, 126, 127, 128, 131, 132, 133, 134, 135, 136, 137, 138, 139, 140, 141, 142, 143, 144, 145, 146] (by decide +kernel) (by decide +kernel)
set_option maxRecDepth 20000 in
theorem gL_tours_X7_tour : GoodIn wsL_tours (wsV RL 112 RX7 yX7_tour wsX7_tour) := goodIn_app (goodIn_of _ (by decide +kernel)) ggL_tours_X7_tour
theorem dL_tours_0 : decode cL_tours 0 = .ok (.aload_n 0, 1) := by decide +kernel
theorem dL_tours_1 : decode cL_tours 1 = .ok (.iconst 0, 1) := by decide +kernel
theorem dL_tours_2 : decode cL_tours 2 = .ok (.invokevirtual 95, 3) := by decide +kernel
theorem dL_tours_5 : decode cL_tours 5 = .ok (.istore_n 3, 1) := by decide +kernel
theorem dL_tours_6 : decode cL_tours 6 = .ok (.iconst 0, 1) := by decide +kernel
theorem dL_tours_7 : decode cL_tours 7 = .ok (.istore 4, 2) := by decide +kernel
theorem dL_tours_9 : decode cL_tours 9 = .ok (.iconst 0, 1) := by decide +kernel
theorem dL_tours_10 : decode cL_tours 10 = .ok (.istore 5, 2) := by decide +kernel
theorem dL_tours_12 : decode cL_tours 12 = .ok (.iconst 0, 1) := by decide +kernel
theorem dL_tours_13 : decode cL_tours 13 = .ok (.istore 6, 2) := by decide +kernel
theorem dL_tours_15 : decode cL_tours 15 = .ok (.iload 6, 2) := by decide +kernel
theorem dL_tours_17 : decode cL_tours 17 = .ok (.iload_n 3, 1) := by decide +kernel
theorem dL_tours_18 : decode cL_tours 18 = .ok (.if_icmp .ge 124, 3) := by decide +kernel
theorem dL_tours_21 : decode cL_tours 21 = .ok (.iconst 0, 1) := by decide +kernel
theorem dL_tours_22 : decode cL_tours 22 = .ok (.istore 7, 2) := by decide +kernel
theorem dL_tours_24 : decode cL_tours 24 = .ok (.iconst 1, 1) := by decide +kernel
theorem dL_tours_25 : decode cL_tours 25 = .ok (.istore 8, 2) := by decide +kernel
theorem dL_tours_27 : decode cL_tours 27 = .ok (.iload 8, 2) := by decide +kernel
theorem dL_tours_29 : decode cL_tours 29 = .ok (.bipush 15, 2) := by decide +kernel
theorem dL_tours_31 : decode cL_tours 31 = .ok (.if_icmp .ge 37, 3) := by decide +kernel
theorem dL_tours_34 : decode cL_tours 34 = .ok (.aload_n 1, 1) := by decide +kernel
theorem dL_tours_35 : decode cL_tours 35 = .ok (.iload 8, 2) := by decide +kernel
theorem dL_tours_37 : decode cL_tours 37 = .ok (.iaload, 1) := by decide +kernel
theorem dL_tours_38 : decode cL_tours 38 = .ok (.iconst 1, 1) := by decide +kernel
theorem dL_tours_39 : decode cL_tours 39 = .ok (.if_icmp .ne 19, 3) := by decide +kernel
theorem dL_tours_42 : decode cL_tours 42 = .ok (.iload 8, 2) := by decide +kernel
theorem dL_tours_44 : decode cL_tours 44 = .ok (.aload_n 1, 1) := by decide +kernel
theorem dL_tours_45 : decode cL_tours 45 = .ok (.invokestatic 75, 3) := by decide +kernel
theorem dL_tours_48 : decode cL_tours 48 = .ok (.iload 6, 2) := by decide +kernel
theorem dL_tours_50 : decode cL_tours 50 = .ok (.if_icmp .ne 8, 3) := by decide +kernel
theorem dL_tours_53 : decode cL_tours 53 = .ok (.iload 8, 2) := by decide +kernel
theorem dL_tours_55 : decode cL_tours 55 = .ok (.goto 5, 3) := by decide +kernel
theorem dL_tours_58 : decode cL_tours 58 = .ok (.iload 7, 2) := by decide +kernel
theorem dL_tours_60 : decode cL_tours 60 = .ok (.istore 7, 2) := by decide +kernel
theorem dL_tours_62 : decode cL_tours 62 = .ok (.iinc 8 1, 3) := by decide +kernel
theorem dL_tours_65 : decode cL_tours 65 = .ok (.goto (-38), 3) := by decide +kernel
theorem dL_tours_68 : decode cL_tours 68 = .ok (.iload 6, 2) := by decide +kernel
theorem dL_tours_70 : decode cL_tours 70 = .ok (.ifCond .le 49, 3) := by decide +kernel
theorem dL_tours_73 : decode cL_tours 73 = .ok (.aload_n 0, 1) := by decide +kernel
theorem dL_tours_74 : decode cL_tours 74 = .ok (.iload 6, 2) := by decide +kernel
theorem dL_tours_76 : decode cL_tours 76 = .ok (.iconst 1, 1) := by decide +kernel
theorem dL_tours_77 : decode cL_tours 77 = .ok (.isub, 1) := by decide +kernel
theorem dL_tours_78 : decode cL_tours 78 = .ok (.iload 6, 2) := by decide +kernel
theorem dL_tours_80 : decode cL_tours 80 = .ok (.invokevirtual 106, 3) := by decide +kernel
theorem dL_tours_83 : decode cL_tours 83 = .ok (.iload 5, 2) := by decide +kernel
theorem dL_tours_85 : decode cL_tours 85 = .ok (.iload 7, 2) := by decide +kernel
theorem dL_tours_87 : decode cL_tours 87 = .ok (.aload_n 2, 1) := by decide +kernel
theorem dL_tours_88 : decode cL_tours 88 = .ok (.invokestatic 109, 3) := by decide +kernel
theorem dL_tours_91 : decode cL_tours 91 = .ok (.if_icmp .ne 26, 3) := by decide +kernel
theorem dL_tours_94 : decode cL_tours 94 = .ok (.aload_n 0, 1) := by decide +kernel
theorem dL_tours_95 : decode cL_tours 95 = .ok (.iload 6, 2) := by decide +kernel
theorem dL_tours_97 : decode cL_tours 97 = .ok (.iload 6, 2) := by decide +kernel
theorem dL_tours_99 : decode cL_tours 99 = .ok (.iconst 1, 1) := by decide +kernel
theorem dL_tours_100 : decode cL_tours 100 = .ok (.isub, 1) := by decide +kernel
theorem dL_tours_101 : decode cL_tours 101 = .ok (.invokevirtual 106, 3) := by decide +kernel
theorem dL_tours_104 : decode cL_tours 104 = .ok (.aload_n 0, 1) := by decide +kernel
theorem dL_tours_105 : decode cL_tours 105 = .ok (.iload 6, 2) := by decide +kernel
theorem dL_tours_107 : decode cL_tours 107 = .ok (.iconst 1, 1) := by decide +kernel
theorem dL_tours_108 : decode cL_tours 108 = .ok (.isub, 1) := by decide +kernel
theorem dL_tours_109 : decode cL_tours 109 = .ok (.iload 6, 2) := by decide +kernel
theorem dL_tours_111 : decode cL_tours 111 = .ok (.invokevirtual 106, 3) := by decide +kernel
theorem dL_tours_114 : decode cL_tours 114 = .ok (.if_icmp .eq 5, 3) := by decide +kernel
theorem dL_tours_117 : decode cL_tours 117 = .ok (.iconst 0, 1) := by decide +kernel
theorem dL_tours_118 : decode cL_tours 118 = .ok (.ireturn, 1) := by decide +kernel
theorem dL_tours_119 : decode cL_tours 119 = .ok (.iload 4, 2) := by decide +kernel
theorem dL_tours_121 : decode cL_tours 121 = .ok (.iload 5, 2) := by decide +kernel
theorem dL_tours_123 : decode cL_tours 123 = .ok (.iload 7, 2) := by decide +kernel
theorem dL_tours_125 : decode cL_tours 125 = .ok (.aload_n 2, 1) := by decide +kernel
theorem dL_tours_126 : decode cL_tours 126 = .ok (.invokestatic 109, 3) := by decide +kernel
theorem dL_tours_129 : decode cL_tours 129 = .ok (.iadd, 1) := by decide +kernel
theorem dL_tours_130 : decode cL_tours 130 = .ok (.istore 4, 2) := by decide +kernel
theorem dL_tours_132 : decode cL_tours 132 = .ok (.iload 7, 2) := by decide +kernel
theorem dL_tours_134 : decode cL_tours 134 = .ok (.istore 5, 2) := by decide +kernel
theorem dL_tours_136 : decode cL_tours 136 = .ok (.iinc 6 1, 3) := by decide +kernel
theorem dL_tours_139 : decode cL_tours 139 = .ok (.goto (-124), 3) := by decide +kernel
theorem dL_tours_142 : decode cL_tours 142 = .ok (.aload_n 0, 1) := by decide +kernel
theorem dL_tours_143 : decode cL_tours 143 = .ok (.invokevirtual 112, 3) := by decide +kernel
theorem dL_tours_146 : decode cL_tours 146 = .ok (.iload 4, 2) := by decide +kernel
theorem dL_tours_148 : decode cL_tours 148 = .ok (.iload 5, 2) := by decide +kernel
theorem dL_tours_150 : decode cL_tours 150 = .ok (.iconst 0, 1) := by decide +kernel
theorem dL_tours_151 : decode cL_tours 151 = .ok (.aload_n 2, 1) := by decide +kernel
theorem dL_tours_152 : decode cL_tours 152 = .ok (.invokestatic 109, 3) := by decide +kernel
theorem dL_tours_155 : decode cL_tours 155 = .ok (.iadd, 1) := by decide +kernel
theorem dL_tours_156 : decode cL_tours 156 = .ok (.if_icmp .ne 7, 3) := by decide +kernel
theorem dL_tours_159 : decode cL_tours 159 = .ok (.iconst 1, 1) := by decide +kernel
theorem dL_tours_160 : decode cL_tours 160 = .ok (.goto 4, 3) := by decide +kernel
theorem dL_tours_163 : decode cL_tours 163 = .ok (.iconst 0, 1) := by decide +kernel
theorem dL_tours_164 : decode cL_tours 164 = .ok (.ireturn, 1) := by decide +kernel
set_option maxRecDepth 20000 in
theorem ggL_adds_L_inTown : GoodIn wsL_adds wsL_inTown := goodIn_r _ [4, 5, 6, 3, 7] (by decide +kernel) (by decide +kernel)
set_option maxRecDepth 20000 in
theorem gL_adds_L_inTown : GoodIn wsL_adds (va_wsS RL 115 yL_inTown wsL_inTown) := goodIn_app (goodIn_of _ (by decide +kernel)) ggL_adds_L_inTown
set_option maxRecDepth 20000 in
theorem ggL_adds_L_rank : GoodIn wsL_adds wsL_rank := goodIn_r _ [10, 11, 12, 3, 13, 14, 15, 16, 17, 18, 19] (by decide +kernel) (by decide +kernel)
set_option maxRecDepth 20000 in
theorem gL_adds_L_rank : GoodIn wsL_adds (va_wsS RL 75 yL_rank wsL_rank) := goodIn_app (goodIn_of _ (by decide +kernel)) ggL_adds_L_rank
theorem dL_adds_0 : decode cL_adds 0 = .ok (.iload_n 0, 1) := by decide +kernel
theorem dL_adds_1 : decode cL_adds 1 = .ok (.istore 6, 2) := by decide +kernel
theorem dL_adds_3 : decode cL_adds 3 = .ok (.iload 6, 2) := by decide +kernel
theorem dL_adds_5 : decode cL_adds 5 = .ok (.aload_n 3, 1) := by decide +kernel
theorem dL_adds_6 : decode cL_adds 6 = .ok (.invokestatic 115, 3) := by decide +kernel
theorem dL_adds_9 : decode cL_adds 9 = .ok (.ifCond .ne 14, 3) := by decide +kernel
theorem dL_adds_12 : decode cL_adds 12 = .ok (.iload 6, 2) := by decide +kernel
theorem dL_adds_14 : decode cL_adds 14 = .ok (.iconst 1, 1) := by decide +kernel
theorem dL_adds_15 : decode cL_adds 15 = .ok (.isub, 1) := by decide +kernel
theorem dL_adds_16 : decode cL_adds 16 = .ok (.iconst 2, 1) := by decide +kernel
theorem dL_adds_17 : decode cL_adds 17 = .ok (.idiv, 1) := by decide +kernel
theorem dL_adds_18 : decode cL_adds 18 = .ok (.istore 6, 2) := by decide +kernel
theorem dL_adds_20 : decode cL_adds 20 = .ok (.goto (-17), 3) := by decide +kernel
theorem dL_adds_23 : decode cL_adds 23 = .ok (.aload 5, 2) := by decide +kernel
theorem dL_adds_25 : decode cL_adds 25 = .ok (.iload 6, 2) := by decide +kernel
theorem dL_adds_27 : decode cL_adds 27 = .ok (.iaload, 1) := by decide +kernel
theorem dL_adds_28 : decode cL_adds 28 = .ok (.ifCond .ne 16, 3) := by decide +kernel
theorem dL_adds_31 : decode cL_adds 31 = .ok (.aload 5, 2) := by decide +kernel
theorem dL_adds_33 : decode cL_adds 33 = .ok (.iload 6, 2) := by decide +kernel
theorem dL_adds_35 : decode cL_adds 35 = .ok (.iconst 1, 1) := by decide +kernel
theorem dL_adds_36 : decode cL_adds 36 = .ok (.iastore, 1) := by decide +kernel
theorem dL_adds_37 : decode cL_adds 37 = .ok (.aload_n 2, 1) := by decide +kernel
theorem dL_adds_38 : decode cL_adds 38 = .ok (.iconst 2, 1) := by decide +kernel
theorem dL_adds_39 : decode cL_adds 39 = .ok (.dup2, 1) := by decide +kernel
theorem dL_adds_40 : decode cL_adds 40 = .ok (.iaload, 1) := by decide +kernel
theorem dL_adds_41 : decode cL_adds 41 = .ok (.iconst 1, 1) := by decide +kernel
theorem dL_adds_42 : decode cL_adds 42 = .ok (.iadd, 1) := by decide +kernel
theorem dL_adds_43 : decode cL_adds 43 = .ok (.iastore, 1) := by decide +kernel
theorem dL_adds_44 : decode cL_adds 44 = .ok (.iload_n 0, 1) := by decide +kernel
theorem dL_adds_45 : decode cL_adds 45 = .ok (.istore 7, 2) := by decide +kernel
theorem dL_adds_47 : decode cL_adds 47 = .ok (.iload 7, 2) := by decide +kernel
theorem dL_adds_49 : decode cL_adds 49 = .ok (.iload 6, 2) := by decide +kernel
theorem dL_adds_51 : decode cL_adds 51 = .ok (.if_icmp .le 27, 3) := by decide +kernel
theorem dL_adds_54 : decode cL_adds 54 = .ok (.aload 5, 2) := by decide +kernel
theorem dL_adds_56 : decode cL_adds 56 = .ok (.iload 7, 2) := by decide +kernel
theorem dL_adds_58 : decode cL_adds 58 = .ok (.iconst 1, 1) := by decide +kernel
theorem dL_adds_59 : decode cL_adds 59 = .ok (.iastore, 1) := by decide +kernel
theorem dL_adds_60 : decode cL_adds 60 = .ok (.aload_n 2, 1) := by decide +kernel
theorem dL_adds_61 : decode cL_adds 61 = .ok (.iconst 3, 1) := by decide +kernel
theorem dL_adds_62 : decode cL_adds 62 = .ok (.dup2, 1) := by decide +kernel
theorem dL_adds_63 : decode cL_adds 63 = .ok (.iaload, 1) := by decide +kernel
theorem dL_adds_64 : decode cL_adds 64 = .ok (.iconst 1, 1) := by decide +kernel
theorem dL_adds_65 : decode cL_adds 65 = .ok (.iadd, 1) := by decide +kernel
theorem dL_adds_66 : decode cL_adds 66 = .ok (.iastore, 1) := by decide +kernel
theorem dL_adds_67 : decode cL_adds 67 = .ok (.iload 7, 2) := by decide +kernel
theorem dL_adds_69 : decode cL_adds 69 = .ok (.iconst 1, 1) := by decide +kernel
theorem dL_adds_70 : decode cL_adds 70 = .ok (.isub, 1) := by decide +kernel
theorem dL_adds_71 : decode cL_adds 71 = .ok (.iconst 2, 1) := by decide +kernel
theorem dL_adds_72 : decode cL_adds 72 = .ok (.idiv, 1) := by decide +kernel
theorem dL_adds_73 : decode cL_adds 73 = .ok (.istore 7, 2) := by decide +kernel
theorem dL_adds_75 : decode cL_adds 75 = .ok (.goto (-28), 3) := by decide +kernel
theorem dL_adds_78 : decode cL_adds 78 = .ok (.aload_n 3, 1) := by decide +kernel
theorem dL_adds_79 : decode cL_adds 79 = .ok (.iload_n 0, 1) := by decide +kernel
theorem dL_adds_80 : decode cL_adds 80 = .ok (.iconst 1, 1) := by decide +kernel
theorem dL_adds_81 : decode cL_adds 81 = .ok (.iastore, 1) := by decide +kernel
theorem dL_adds_82 : decode cL_adds 82 = .ok (.aload 4, 2) := by decide +kernel
theorem dL_adds_84 : decode cL_adds 84 = .ok (.iload_n 0, 1) := by decide +kernel
theorem dL_adds_85 : decode cL_adds 85 = .ok (.iload_n 1, 1) := by decide +kernel
theorem dL_adds_86 : decode cL_adds 86 = .ok (.iastore, 1) := by decide +kernel
theorem dL_adds_87 : decode cL_adds 87 = .ok (.iload_n 0, 1) := by decide +kernel
theorem dL_adds_88 : decode cL_adds 88 = .ok (.aload_n 3, 1) := by decide +kernel
theorem dL_adds_89 : decode cL_adds 89 = .ok (.invokestatic 75, 3) := by decide +kernel
theorem dL_adds_92 : decode cL_adds 92 = .ok (.ireturn, 1) := by decide +kernel
set_option maxRecDepth 20000 in
theorem ggL_removes_L_children : GoodIn wsL_removes wsL_children := goodIn_r _ [4, 5, 6, 3, 7] (by decide +kernel) (by decide +kernel)
set_option maxRecDepth 20000 in
theorem gL_removes_L_children : GoodIn wsL_removes (va_wsS RL 47 yL_children wsL_children) := goodIn_app (goodIn_of _ (by decide +kernel)) ggL_removes_L_children
set_option maxRecDepth 20000 in
theorem ggL_removes_L_parent : GoodIn wsL_removes wsL_parent := goodIn_r _ [7] (by decide +kernel) (by decide +kernel)
set_option maxRecDepth 20000 in
theorem gL_removes_L_parent : GoodIn wsL_removes (va_wsS RL 43 yL_parent wsL_parent) := goodIn_app (goodIn_of _ (by decide +kernel)) ggL_removes_L_parent
theorem dL_removes_0 : decode cL_removes 0 = .ok (.aload_n 2, 1) := by decide +kernel
theorem dL_removes_1 : decode cL_removes 1 = .ok (.iload_n 0, 1) := by decide +kernel
theorem dL_removes_2 : decode cL_removes 2 = .ok (.iconst 0, 1) := by decide +kernel
theorem dL_removes_3 : decode cL_removes 3 = .ok (.iastore, 1) := by decide +kernel
theorem dL_removes_4 : decode cL_removes 4 = .ok (.iconst 0, 1) := by decide +kernel
theorem dL_removes_5 : decode cL_removes 5 = .ok (.istore 4, 2) := by decide +kernel
theorem dL_removes_7 : decode cL_removes 7 = .ok (.iload_n 0, 1) := by decide +kernel
theorem dL_removes_8 : decode cL_removes 8 = .ok (.istore 5, 2) := by decide +kernel
theorem dL_removes_10 : decode cL_removes 10 = .ok (.iload 5, 2) := by decide +kernel
theorem dL_removes_12 : decode cL_removes 12 = .ok (.ifCond .le 42, 3) := by decide +kernel
theorem dL_removes_15 : decode cL_removes 15 = .ok (.aload_n 2, 1) := by decide +kernel
theorem dL_removes_16 : decode cL_removes 16 = .ok (.iload 5, 2) := by decide +kernel
theorem dL_removes_18 : decode cL_removes 18 = .ok (.iaload, 1) := by decide +kernel
theorem dL_removes_19 : decode cL_removes 19 = .ok (.ifCond .ne 35, 3) := by decide +kernel
theorem dL_removes_22 : decode cL_removes 22 = .ok (.iload 5, 2) := by decide +kernel
theorem dL_removes_24 : decode cL_removes 24 = .ok (.aload_n 3, 1) := by decide +kernel
theorem dL_removes_25 : decode cL_removes 25 = .ok (.invokestatic 47, 3) := by decide +kernel
theorem dL_removes_28 : decode cL_removes 28 = .ok (.ifCond .ne 26, 3) := by decide +kernel
theorem dL_removes_31 : decode cL_removes 31 = .ok (.iload 5, 2) := by decide +kernel
theorem dL_removes_33 : decode cL_removes 33 = .ok (.aload_n 3, 1) := by decide +kernel
theorem dL_removes_34 : decode cL_removes 34 = .ok (.invokestatic 43, 3) := by decide +kernel
theorem dL_removes_37 : decode cL_removes 37 = .ok (.istore 6, 2) := by decide +kernel
theorem dL_removes_39 : decode cL_removes 39 = .ok (.aload_n 3, 1) := by decide +kernel
theorem dL_removes_40 : decode cL_removes 40 = .ok (.iload 5, 2) := by decide +kernel
theorem dL_removes_42 : decode cL_removes 42 = .ok (.iconst 0, 1) := by decide +kernel
theorem dL_removes_43 : decode cL_removes 43 = .ok (.iastore, 1) := by decide +kernel
theorem dL_removes_44 : decode cL_removes 44 = .ok (.iinc 4 1, 3) := by decide +kernel
theorem dL_removes_47 : decode cL_removes 47 = .ok (.iload 6, 2) := by decide +kernel
theorem dL_removes_49 : decode cL_removes 49 = .ok (.istore 5, 2) := by decide +kernel
theorem dL_removes_51 : decode cL_removes 51 = .ok (.goto (-41), 3) := by decide +kernel
theorem dL_removes_54 : decode cL_removes 54 = .ok (.aload_n 1, 1) := by decide +kernel
theorem dL_removes_55 : decode cL_removes 55 = .ok (.iconst 4, 1) := by decide +kernel
theorem dL_removes_56 : decode cL_removes 56 = .ok (.dup2, 1) := by decide +kernel
theorem dL_removes_57 : decode cL_removes 57 = .ok (.iaload, 1) := by decide +kernel
theorem dL_removes_58 : decode cL_removes 58 = .ok (.iload 4, 2) := by decide +kernel
theorem dL_removes_60 : decode cL_removes 60 = .ok (.iadd, 1) := by decide +kernel
theorem dL_removes_61 : decode cL_removes 61 = .ok (.iastore, 1) := by decide +kernel
theorem dL_removes_62 : decode cL_removes 62 = .ok (.iload 4, 2) := by decide +kernel
theorem dL_removes_64 : decode cL_removes 64 = .ok (.ireturn, 1) := by decide +kernel
