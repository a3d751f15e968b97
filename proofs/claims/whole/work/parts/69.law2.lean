/-! the law: its bytes, its world (written by wip/whole/c_law2.py) -/
abbrev M_law : MI := (⟨"CascadeBusLaw", "law", "([I)Z"⟩, code, 7, some .boolean, [])
theorem e_law_0 : decode code 0 = .ok (.new 8, 3) := by decide +kernel
theorem e_law_3 : decode code 3 = .ok (.dup, 1) := by decide +kernel
theorem e_law_4 : decode code 4 = .ok (.invokespecial 55, 3) := by decide +kernel
theorem e_law_7 : decode code 7 = .ok (.astore_n 1, 1) := by decide +kernel
theorem e_law_8 : decode code 8 = .ok (.new 56, 3) := by decide +kernel
theorem e_law_11 : decode code 11 = .ok (.dup, 1) := by decide +kernel
theorem e_law_12 : decode code 12 = .ok (.invokespecial 58, 3) := by decide +kernel
theorem e_law_15 : decode code 15 = .ok (.astore_n 2, 1) := by decide +kernel
theorem e_law_16 : decode code 16 = .ok (.iconst 1, 1) := by decide +kernel
theorem e_law_17 : decode code 17 = .ok (.newarray .long, 2) := by decide +kernel
theorem e_law_19 : decode code 19 = .ok (.astore_n 3, 1) := by decide +kernel
theorem e_law_20 : decode code 20 = .ok (.iconst 0, 1) := by decide +kernel
theorem e_law_21 : decode code 21 = .ok (.istore 4, 2) := by decide +kernel
theorem e_law_23 : decode code 23 = .ok (.iload 4, 2) := by decide +kernel
theorem e_law_25 : decode code 25 = .ok (.aload_n 0, 1) := by decide +kernel
theorem e_law_26 : decode code 26 = .ok (.arraylength, 1) := by decide +kernel
theorem e_law_27 : decode code 27 = .ok (.bipush 6, 2) := by decide +kernel
theorem e_law_29 : decode code 29 = .ok (.isub, 1) := by decide +kernel
theorem e_law_30 : decode code 30 = .ok (.if_icmp .gt 1414, 3) := by decide +kernel
theorem e_law_33 : decode code 33 = .ok (.aload_n 0, 1) := by decide +kernel
theorem e_law_34 : decode code 34 = .ok (.iload 4, 2) := by decide +kernel
theorem e_law_36 : decode code 36 = .ok (.iaload, 1) := by decide +kernel
theorem e_law_37 : decode code 37 = .ok (.bipush 31, 2) := by decide +kernel
theorem e_law_39 : decode code 39 = .ok (.iand, 1) := by decide +kernel
theorem e_law_40 : decode code 40 = .ok (.tableswitch 1398 0 26 #[124, 197, 253, 266, 322, 390, 458, 526, 563, 600, 653, 706, 731, 744, 824, 880, 948, 1016, 1029, 1109, 1165, 1214, 1227, 1283, 1294, 1374, 1385], 124) := by decide +kernel
theorem e_law_164 : decode code 164 = .ok (.aload_n 1, 1) := by decide +kernel
theorem e_law_165 : decode code 165 = .ok (.aload_n 0, 1) := by decide +kernel
theorem e_law_166 : decode code 166 = .ok (.iload 4, 2) := by decide +kernel
theorem e_law_168 : decode code 168 = .ok (.iconst 1, 1) := by decide +kernel
theorem e_law_169 : decode code 169 = .ok (.iadd, 1) := by decide +kernel
theorem e_law_170 : decode code 170 = .ok (.iaload, 1) := by decide +kernel
theorem e_law_171 : decode code 171 = .ok (.aload_n 0, 1) := by decide +kernel
theorem e_law_172 : decode code 172 = .ok (.iload 4, 2) := by decide +kernel
theorem e_law_174 : decode code 174 = .ok (.iconst 2, 1) := by decide +kernel
theorem e_law_175 : decode code 175 = .ok (.iadd, 1) := by decide +kernel
theorem e_law_176 : decode code 176 = .ok (.iaload, 1) := by decide +kernel
theorem e_law_177 : decode code 177 = .ok (.aload_n 0, 1) := by decide +kernel
theorem e_law_178 : decode code 178 = .ok (.iload 4, 2) := by decide +kernel
theorem e_law_180 : decode code 180 = .ok (.iconst 3, 1) := by decide +kernel
theorem e_law_181 : decode code 181 = .ok (.iadd, 1) := by decide +kernel
theorem e_law_182 : decode code 182 = .ok (.iaload, 1) := by decide +kernel
theorem e_law_183 : decode code 183 = .ok (.aload_n 0, 1) := by decide +kernel
theorem e_law_184 : decode code 184 = .ok (.iload 4, 2) := by decide +kernel
theorem e_law_186 : decode code 186 = .ok (.iconst 4, 1) := by decide +kernel
theorem e_law_187 : decode code 187 = .ok (.iadd, 1) := by decide +kernel
theorem e_law_188 : decode code 188 = .ok (.iaload, 1) := by decide +kernel
theorem e_law_189 : decode code 189 = .ok (.aload_n 0, 1) := by decide +kernel
theorem e_law_190 : decode code 190 = .ok (.iload 4, 2) := by decide +kernel
theorem e_law_192 : decode code 192 = .ok (.iconst 5, 1) := by decide +kernel
theorem e_law_193 : decode code 193 = .ok (.iadd, 1) := by decide +kernel
theorem e_law_194 : decode code 194 = .ok (.iaload, 1) := by decide +kernel
theorem e_law_195 : decode code 195 = .ok (.invokevirtual 59, 3) := by decide +kernel
theorem e_law_198 : decode code 198 = .ok (.aload_n 2, 1) := by decide +kernel
theorem e_law_199 : decode code 199 = .ok (.aload_n 0, 1) := by decide +kernel
theorem e_law_200 : decode code 200 = .ok (.iload 4, 2) := by decide +kernel
theorem e_law_202 : decode code 202 = .ok (.iconst 1, 1) := by decide +kernel
theorem e_law_203 : decode code 203 = .ok (.iadd, 1) := by decide +kernel
theorem e_law_204 : decode code 204 = .ok (.iaload, 1) := by decide +kernel
theorem e_law_205 : decode code 205 = .ok (.aload_n 0, 1) := by decide +kernel
theorem e_law_206 : decode code 206 = .ok (.iload 4, 2) := by decide +kernel
theorem e_law_208 : decode code 208 = .ok (.iconst 2, 1) := by decide +kernel
theorem e_law_209 : decode code 209 = .ok (.iadd, 1) := by decide +kernel
theorem e_law_210 : decode code 210 = .ok (.iaload, 1) := by decide +kernel
theorem e_law_211 : decode code 211 = .ok (.aload_n 0, 1) := by decide +kernel
theorem e_law_212 : decode code 212 = .ok (.iload 4, 2) := by decide +kernel
theorem e_law_214 : decode code 214 = .ok (.iconst 3, 1) := by decide +kernel
theorem e_law_215 : decode code 215 = .ok (.iadd, 1) := by decide +kernel
theorem e_law_216 : decode code 216 = .ok (.iaload, 1) := by decide +kernel
theorem e_law_217 : decode code 217 = .ok (.aload_n 0, 1) := by decide +kernel
theorem e_law_218 : decode code 218 = .ok (.iload 4, 2) := by decide +kernel
theorem e_law_220 : decode code 220 = .ok (.iconst 4, 1) := by decide +kernel
theorem e_law_221 : decode code 221 = .ok (.iadd, 1) := by decide +kernel
theorem e_law_222 : decode code 222 = .ok (.iaload, 1) := by decide +kernel
theorem e_law_223 : decode code 223 = .ok (.aload_n 0, 1) := by decide +kernel
theorem e_law_224 : decode code 224 = .ok (.iload 4, 2) := by decide +kernel
theorem e_law_226 : decode code 226 = .ok (.iconst 5, 1) := by decide +kernel
theorem e_law_227 : decode code 227 = .ok (.iadd, 1) := by decide +kernel
theorem e_law_228 : decode code 228 = .ok (.iaload, 1) := by decide +kernel
theorem e_law_229 : decode code 229 = .ok (.invokevirtual 63, 3) := by decide +kernel
theorem e_law_232 : decode code 232 = .ok (.if_icmp .eq 1206, 3) := by decide +kernel
theorem e_law_235 : decode code 235 = .ok (.iconst 0, 1) := by decide +kernel
theorem e_law_236 : decode code 236 = .ok (.ireturn, 1) := by decide +kernel
theorem e_law_237 : decode code 237 = .ok (.aload_n 1, 1) := by decide +kernel
theorem e_law_238 : decode code 238 = .ok (.aload_n 0, 1) := by decide +kernel
theorem e_law_239 : decode code 239 = .ok (.iload 4, 2) := by decide +kernel
theorem e_law_241 : decode code 241 = .ok (.iconst 1, 1) := by decide +kernel
theorem e_law_242 : decode code 242 = .ok (.iadd, 1) := by decide +kernel
theorem e_law_243 : decode code 243 = .ok (.iaload, 1) := by decide +kernel
theorem e_law_244 : decode code 244 = .ok (.aload_n 3, 1) := by decide +kernel
theorem e_law_245 : decode code 245 = .ok (.invokestatic 64, 3) := by decide +kernel
theorem e_law_248 : decode code 248 = .ok (.istore 5, 2) := by decide +kernel
theorem e_law_250 : decode code 250 = .ok (.aload_n 2, 1) := by decide +kernel
theorem e_law_251 : decode code 251 = .ok (.aload_n 0, 1) := by decide +kernel
theorem e_law_252 : decode code 252 = .ok (.iload 4, 2) := by decide +kernel
theorem e_law_254 : decode code 254 = .ok (.iconst 1, 1) := by decide +kernel
theorem e_law_255 : decode code 255 = .ok (.iadd, 1) := by decide +kernel
theorem e_law_256 : decode code 256 = .ok (.iaload, 1) := by decide +kernel
theorem e_law_257 : decode code 257 = .ok (.invokevirtual 69, 3) := by decide +kernel
theorem e_law_260 : decode code 260 = .ok (.istore 6, 2) := by decide +kernel
theorem e_law_262 : decode code 262 = .ok (.aload_n 2, 1) := by decide +kernel
theorem e_law_263 : decode code 263 = .ok (.invokevirtual 70, 3) := by decide +kernel
theorem e_law_266 : decode code 266 = .ok (.iload 5, 2) := by decide +kernel
theorem e_law_268 : decode code 268 = .ok (.if_icmp .eq 5, 3) := by decide +kernel
theorem e_law_271 : decode code 271 = .ok (.iconst 0, 1) := by decide +kernel
theorem e_law_272 : decode code 272 = .ok (.ireturn, 1) := by decide +kernel
theorem e_law_273 : decode code 273 = .ok (.iload 5, 2) := by decide +kernel
theorem e_law_275 : decode code 275 = .ok (.ifCond .ne 15, 3) := by decide +kernel
theorem e_law_278 : decode code 278 = .ok (.aload_n 3, 1) := by decide +kernel
theorem e_law_279 : decode code 279 = .ok (.iconst 0, 1) := by decide +kernel
theorem e_law_280 : decode code 280 = .ok (.laload, 1) := by decide +kernel
theorem e_law_281 : decode code 281 = .ok (.iload 6, 2) := by decide +kernel
theorem e_law_283 : decode code 283 = .ok (.i2l, 1) := by decide +kernel
theorem e_law_284 : decode code 284 = .ok (.lcmp, 1) := by decide +kernel
theorem e_law_285 : decode code 285 = .ok (.ifCond .eq 5, 3) := by decide +kernel
theorem e_law_288 : decode code 288 = .ok (.iconst 0, 1) := by decide +kernel
theorem e_law_289 : decode code 289 = .ok (.ireturn, 1) := by decide +kernel
theorem e_law_290 : decode code 290 = .ok (.goto 1148, 3) := by decide +kernel
theorem e_law_293 : decode code 293 = .ok (.aload_n 1, 1) := by decide +kernel
theorem e_law_294 : decode code 294 = .ok (.invokevirtual 74, 3) := by decide +kernel
theorem e_law_297 : decode code 297 = .ok (.aload_n 2, 1) := by decide +kernel
theorem e_law_298 : decode code 298 = .ok (.invokevirtual 77, 3) := by decide +kernel
theorem e_law_301 : decode code 301 = .ok (.if_icmp .eq 1137, 3) := by decide +kernel
theorem e_law_304 : decode code 304 = .ok (.iconst 0, 1) := by decide +kernel
theorem e_law_305 : decode code 305 = .ok (.ireturn, 1) := by decide +kernel
theorem e_law_306 : decode code 306 = .ok (.aload_n 1, 1) := by decide +kernel
theorem e_law_307 : decode code 307 = .ok (.aload_n 0, 1) := by decide +kernel
theorem e_law_308 : decode code 308 = .ok (.iload 4, 2) := by decide +kernel
theorem e_law_310 : decode code 310 = .ok (.iconst 1, 1) := by decide +kernel
theorem e_law_311 : decode code 311 = .ok (.iadd, 1) := by decide +kernel
theorem e_law_312 : decode code 312 = .ok (.iaload, 1) := by decide +kernel
theorem e_law_313 : decode code 313 = .ok (.aload_n 3, 1) := by decide +kernel
theorem e_law_314 : decode code 314 = .ok (.invokestatic 78, 3) := by decide +kernel
theorem e_law_317 : decode code 317 = .ok (.istore 5, 2) := by decide +kernel
theorem e_law_319 : decode code 319 = .ok (.aload_n 2, 1) := by decide +kernel
theorem e_law_320 : decode code 320 = .ok (.aload_n 0, 1) := by decide +kernel
theorem e_law_321 : decode code 321 = .ok (.iload 4, 2) := by decide +kernel
theorem e_law_323 : decode code 323 = .ok (.iconst 1, 1) := by decide +kernel
theorem e_law_324 : decode code 324 = .ok (.iadd, 1) := by decide +kernel
theorem e_law_325 : decode code 325 = .ok (.iaload, 1) := by decide +kernel
theorem e_law_326 : decode code 326 = .ok (.invokevirtual 80, 3) := by decide +kernel
theorem e_law_329 : decode code 329 = .ok (.istore 6, 2) := by decide +kernel
theorem e_law_331 : decode code 331 = .ok (.aload_n 2, 1) := by decide +kernel
theorem e_law_332 : decode code 332 = .ok (.invokevirtual 70, 3) := by decide +kernel
theorem e_law_335 : decode code 335 = .ok (.iload 5, 2) := by decide +kernel
theorem e_law_337 : decode code 337 = .ok (.if_icmp .eq 5, 3) := by decide +kernel
theorem e_law_340 : decode code 340 = .ok (.iconst 0, 1) := by decide +kernel
theorem e_law_341 : decode code 341 = .ok (.ireturn, 1) := by decide +kernel
theorem e_law_342 : decode code 342 = .ok (.iload 5, 2) := by decide +kernel
theorem e_law_344 : decode code 344 = .ok (.ifCond .ne 15, 3) := by decide +kernel
theorem e_law_347 : decode code 347 = .ok (.aload_n 3, 1) := by decide +kernel
theorem e_law_348 : decode code 348 = .ok (.iconst 0, 1) := by decide +kernel
theorem e_law_349 : decode code 349 = .ok (.laload, 1) := by decide +kernel
theorem e_law_350 : decode code 350 = .ok (.iload 6, 2) := by decide +kernel
theorem e_law_352 : decode code 352 = .ok (.i2l, 1) := by decide +kernel
theorem e_law_353 : decode code 353 = .ok (.lcmp, 1) := by decide +kernel
theorem e_law_354 : decode code 354 = .ok (.ifCond .eq 5, 3) := by decide +kernel
theorem e_law_357 : decode code 357 = .ok (.iconst 0, 1) := by decide +kernel
theorem e_law_358 : decode code 358 = .ok (.ireturn, 1) := by decide +kernel
theorem e_law_359 : decode code 359 = .ok (.goto 1079, 3) := by decide +kernel
theorem e_law_362 : decode code 362 = .ok (.aload_n 1, 1) := by decide +kernel
theorem e_law_363 : decode code 363 = .ok (.aload_n 0, 1) := by decide +kernel
theorem e_law_364 : decode code 364 = .ok (.iload 4, 2) := by decide +kernel
theorem e_law_366 : decode code 366 = .ok (.iconst 1, 1) := by decide +kernel
theorem e_law_367 : decode code 367 = .ok (.iadd, 1) := by decide +kernel
theorem e_law_368 : decode code 368 = .ok (.iaload, 1) := by decide +kernel
theorem e_law_369 : decode code 369 = .ok (.aload_n 0, 1) := by decide +kernel
theorem e_law_370 : decode code 370 = .ok (.iload 4, 2) := by decide +kernel
theorem e_law_372 : decode code 372 = .ok (.iconst 2, 1) := by decide +kernel
theorem e_law_373 : decode code 373 = .ok (.iadd, 1) := by decide +kernel
theorem e_law_374 : decode code 374 = .ok (.iaload, 1) := by decide +kernel
theorem e_law_375 : decode code 375 = .ok (.aload_n 3, 1) := by decide +kernel
theorem e_law_376 : decode code 376 = .ok (.invokestatic 81, 3) := by decide +kernel
theorem e_law_379 : decode code 379 = .ok (.istore 5, 2) := by decide +kernel
theorem e_law_381 : decode code 381 = .ok (.aload_n 2, 1) := by decide +kernel
theorem e_law_382 : decode code 382 = .ok (.aload_n 0, 1) := by decide +kernel
theorem e_law_383 : decode code 383 = .ok (.iload 4, 2) := by decide +kernel
theorem e_law_385 : decode code 385 = .ok (.iconst 1, 1) := by decide +kernel
theorem e_law_386 : decode code 386 = .ok (.iadd, 1) := by decide +kernel
theorem e_law_387 : decode code 387 = .ok (.iaload, 1) := by decide +kernel
theorem e_law_388 : decode code 388 = .ok (.aload_n 0, 1) := by decide +kernel
theorem e_law_389 : decode code 389 = .ok (.iload 4, 2) := by decide +kernel
theorem e_law_391 : decode code 391 = .ok (.iconst 2, 1) := by decide +kernel
theorem e_law_392 : decode code 392 = .ok (.iadd, 1) := by decide +kernel
theorem e_law_393 : decode code 393 = .ok (.iaload, 1) := by decide +kernel
theorem e_law_394 : decode code 394 = .ok (.invokevirtual 84, 3) := by decide +kernel
theorem e_law_397 : decode code 397 = .ok (.istore 6, 2) := by decide +kernel
theorem e_law_399 : decode code 399 = .ok (.aload_n 2, 1) := by decide +kernel
theorem e_law_400 : decode code 400 = .ok (.invokevirtual 70, 3) := by decide +kernel
theorem e_law_403 : decode code 403 = .ok (.iload 5, 2) := by decide +kernel
theorem e_law_405 : decode code 405 = .ok (.if_icmp .eq 5, 3) := by decide +kernel
theorem e_law_408 : decode code 408 = .ok (.iconst 0, 1) := by decide +kernel
theorem e_law_409 : decode code 409 = .ok (.ireturn, 1) := by decide +kernel
theorem e_law_410 : decode code 410 = .ok (.iload 5, 2) := by decide +kernel
theorem e_law_412 : decode code 412 = .ok (.ifCond .ne 15, 3) := by decide +kernel
theorem e_law_415 : decode code 415 = .ok (.aload_n 3, 1) := by decide +kernel
theorem e_law_416 : decode code 416 = .ok (.iconst 0, 1) := by decide +kernel
theorem e_law_417 : decode code 417 = .ok (.laload, 1) := by decide +kernel
theorem e_law_418 : decode code 418 = .ok (.iload 6, 2) := by decide +kernel
theorem e_law_420 : decode code 420 = .ok (.i2l, 1) := by decide +kernel
theorem e_law_421 : decode code 421 = .ok (.lcmp, 1) := by decide +kernel
theorem e_law_422 : decode code 422 = .ok (.ifCond .eq 5, 3) := by decide +kernel
theorem e_law_425 : decode code 425 = .ok (.iconst 0, 1) := by decide +kernel
theorem e_law_426 : decode code 426 = .ok (.ireturn, 1) := by decide +kernel
theorem e_law_427 : decode code 427 = .ok (.goto 1011, 3) := by decide +kernel
theorem e_law_430 : decode code 430 = .ok (.aload_n 1, 1) := by decide +kernel
theorem e_law_431 : decode code 431 = .ok (.aload_n 0, 1) := by decide +kernel
theorem e_law_432 : decode code 432 = .ok (.iload 4, 2) := by decide +kernel
theorem e_law_434 : decode code 434 = .ok (.iconst 1, 1) := by decide +kernel
theorem e_law_435 : decode code 435 = .ok (.iadd, 1) := by decide +kernel
theorem e_law_436 : decode code 436 = .ok (.iaload, 1) := by decide +kernel
theorem e_law_437 : decode code 437 = .ok (.aload_n 0, 1) := by decide +kernel
theorem e_law_438 : decode code 438 = .ok (.iload 4, 2) := by decide +kernel
theorem e_law_440 : decode code 440 = .ok (.iconst 2, 1) := by decide +kernel
theorem e_law_441 : decode code 441 = .ok (.iadd, 1) := by decide +kernel
theorem e_law_442 : decode code 442 = .ok (.iaload, 1) := by decide +kernel
theorem e_law_443 : decode code 443 = .ok (.aload_n 3, 1) := by decide +kernel
theorem e_law_444 : decode code 444 = .ok (.invokestatic 85, 3) := by decide +kernel
theorem e_law_447 : decode code 447 = .ok (.istore 5, 2) := by decide +kernel
theorem e_law_449 : decode code 449 = .ok (.aload_n 2, 1) := by decide +kernel
theorem e_law_450 : decode code 450 = .ok (.aload_n 0, 1) := by decide +kernel
theorem e_law_451 : decode code 451 = .ok (.iload 4, 2) := by decide +kernel
theorem e_law_453 : decode code 453 = .ok (.iconst 1, 1) := by decide +kernel
theorem e_law_454 : decode code 454 = .ok (.iadd, 1) := by decide +kernel
theorem e_law_455 : decode code 455 = .ok (.iaload, 1) := by decide +kernel
theorem e_law_456 : decode code 456 = .ok (.aload_n 0, 1) := by decide +kernel
theorem e_law_457 : decode code 457 = .ok (.iload 4, 2) := by decide +kernel
theorem e_law_459 : decode code 459 = .ok (.iconst 2, 1) := by decide +kernel
theorem e_law_460 : decode code 460 = .ok (.iadd, 1) := by decide +kernel
theorem e_law_461 : decode code 461 = .ok (.iaload, 1) := by decide +kernel
theorem e_law_462 : decode code 462 = .ok (.invokevirtual 87, 3) := by decide +kernel
theorem e_law_465 : decode code 465 = .ok (.istore 6, 2) := by decide +kernel
theorem e_law_467 : decode code 467 = .ok (.aload_n 2, 1) := by decide +kernel
theorem e_law_468 : decode code 468 = .ok (.invokevirtual 70, 3) := by decide +kernel
theorem e_law_471 : decode code 471 = .ok (.iload 5, 2) := by decide +kernel
theorem e_law_473 : decode code 473 = .ok (.if_icmp .eq 5, 3) := by decide +kernel
theorem e_law_476 : decode code 476 = .ok (.iconst 0, 1) := by decide +kernel
theorem e_law_477 : decode code 477 = .ok (.ireturn, 1) := by decide +kernel
theorem e_law_478 : decode code 478 = .ok (.iload 5, 2) := by decide +kernel
theorem e_law_480 : decode code 480 = .ok (.ifCond .ne 15, 3) := by decide +kernel
theorem e_law_483 : decode code 483 = .ok (.aload_n 3, 1) := by decide +kernel
theorem e_law_484 : decode code 484 = .ok (.iconst 0, 1) := by decide +kernel
theorem e_law_485 : decode code 485 = .ok (.laload, 1) := by decide +kernel
theorem e_law_486 : decode code 486 = .ok (.iload 6, 2) := by decide +kernel
theorem e_law_488 : decode code 488 = .ok (.i2l, 1) := by decide +kernel
theorem e_law_489 : decode code 489 = .ok (.lcmp, 1) := by decide +kernel
theorem e_law_490 : decode code 490 = .ok (.ifCond .eq 5, 3) := by decide +kernel
theorem e_law_493 : decode code 493 = .ok (.iconst 0, 1) := by decide +kernel
theorem e_law_494 : decode code 494 = .ok (.ireturn, 1) := by decide +kernel
theorem e_law_495 : decode code 495 = .ok (.goto 943, 3) := by decide +kernel
theorem e_law_498 : decode code 498 = .ok (.aload_n 1, 1) := by decide +kernel
theorem e_law_499 : decode code 499 = .ok (.aload_n 0, 1) := by decide +kernel
theorem e_law_500 : decode code 500 = .ok (.iload 4, 2) := by decide +kernel
theorem e_law_502 : decode code 502 = .ok (.iconst 1, 1) := by decide +kernel
theorem e_law_503 : decode code 503 = .ok (.iadd, 1) := by decide +kernel
theorem e_law_504 : decode code 504 = .ok (.iaload, 1) := by decide +kernel
theorem e_law_505 : decode code 505 = .ok (.aload_n 0, 1) := by decide +kernel
theorem e_law_506 : decode code 506 = .ok (.iload 4, 2) := by decide +kernel
theorem e_law_508 : decode code 508 = .ok (.iconst 2, 1) := by decide +kernel
theorem e_law_509 : decode code 509 = .ok (.iadd, 1) := by decide +kernel
theorem e_law_510 : decode code 510 = .ok (.iaload, 1) := by decide +kernel
theorem e_law_511 : decode code 511 = .ok (.aload_n 3, 1) := by decide +kernel
theorem e_law_512 : decode code 512 = .ok (.invokestatic 88, 3) := by decide +kernel
theorem e_law_515 : decode code 515 = .ok (.istore 5, 2) := by decide +kernel
theorem e_law_517 : decode code 517 = .ok (.aload_n 2, 1) := by decide +kernel
theorem e_law_518 : decode code 518 = .ok (.aload_n 0, 1) := by decide +kernel
theorem e_law_519 : decode code 519 = .ok (.iload 4, 2) := by decide +kernel
theorem e_law_521 : decode code 521 = .ok (.iconst 1, 1) := by decide +kernel
theorem e_law_522 : decode code 522 = .ok (.iadd, 1) := by decide +kernel
theorem e_law_523 : decode code 523 = .ok (.iaload, 1) := by decide +kernel
theorem e_law_524 : decode code 524 = .ok (.aload_n 0, 1) := by decide +kernel
theorem e_law_525 : decode code 525 = .ok (.iload 4, 2) := by decide +kernel
theorem e_law_527 : decode code 527 = .ok (.iconst 2, 1) := by decide +kernel
theorem e_law_528 : decode code 528 = .ok (.iadd, 1) := by decide +kernel
theorem e_law_529 : decode code 529 = .ok (.iaload, 1) := by decide +kernel
theorem e_law_530 : decode code 530 = .ok (.invokevirtual 90, 3) := by decide +kernel
theorem e_law_533 : decode code 533 = .ok (.istore 6, 2) := by decide +kernel
theorem e_law_535 : decode code 535 = .ok (.aload_n 2, 1) := by decide +kernel
theorem e_law_536 : decode code 536 = .ok (.invokevirtual 70, 3) := by decide +kernel
theorem e_law_539 : decode code 539 = .ok (.iload 5, 2) := by decide +kernel
theorem e_law_541 : decode code 541 = .ok (.if_icmp .eq 5, 3) := by decide +kernel
theorem e_law_544 : decode code 544 = .ok (.iconst 0, 1) := by decide +kernel
theorem e_law_545 : decode code 545 = .ok (.ireturn, 1) := by decide +kernel
theorem e_law_546 : decode code 546 = .ok (.iload 5, 2) := by decide +kernel
theorem e_law_548 : decode code 548 = .ok (.ifCond .ne 15, 3) := by decide +kernel
theorem e_law_551 : decode code 551 = .ok (.aload_n 3, 1) := by decide +kernel
theorem e_law_552 : decode code 552 = .ok (.iconst 0, 1) := by decide +kernel
theorem e_law_553 : decode code 553 = .ok (.laload, 1) := by decide +kernel
theorem e_law_554 : decode code 554 = .ok (.iload 6, 2) := by decide +kernel
theorem e_law_556 : decode code 556 = .ok (.i2l, 1) := by decide +kernel
theorem e_law_557 : decode code 557 = .ok (.lcmp, 1) := by decide +kernel
theorem e_law_558 : decode code 558 = .ok (.ifCond .eq 5, 3) := by decide +kernel
theorem e_law_561 : decode code 561 = .ok (.iconst 0, 1) := by decide +kernel
theorem e_law_562 : decode code 562 = .ok (.ireturn, 1) := by decide +kernel
theorem e_law_563 : decode code 563 = .ok (.goto 875, 3) := by decide +kernel
theorem e_law_566 : decode code 566 = .ok (.aload_n 1, 1) := by decide +kernel
theorem e_law_567 : decode code 567 = .ok (.aload_n 0, 1) := by decide +kernel
theorem e_law_568 : decode code 568 = .ok (.iload 4, 2) := by decide +kernel
theorem e_law_570 : decode code 570 = .ok (.iconst 1, 1) := by decide +kernel
theorem e_law_571 : decode code 571 = .ok (.iadd, 1) := by decide +kernel
theorem e_law_572 : decode code 572 = .ok (.iaload, 1) := by decide +kernel
theorem e_law_573 : decode code 573 = .ok (.aload_n 0, 1) := by decide +kernel
theorem e_law_574 : decode code 574 = .ok (.iload 4, 2) := by decide +kernel
theorem e_law_576 : decode code 576 = .ok (.iconst 2, 1) := by decide +kernel
theorem e_law_577 : decode code 577 = .ok (.iadd, 1) := by decide +kernel
theorem e_law_578 : decode code 578 = .ok (.iaload, 1) := by decide +kernel
theorem e_law_579 : decode code 579 = .ok (.invokevirtual 91, 3) := by decide +kernel
theorem e_law_582 : decode code 582 = .ok (.aload_n 2, 1) := by decide +kernel
theorem e_law_583 : decode code 583 = .ok (.aload_n 0, 1) := by decide +kernel
theorem e_law_584 : decode code 584 = .ok (.iload 4, 2) := by decide +kernel
theorem e_law_586 : decode code 586 = .ok (.iconst 1, 1) := by decide +kernel
theorem e_law_587 : decode code 587 = .ok (.iadd, 1) := by decide +kernel
theorem e_law_588 : decode code 588 = .ok (.iaload, 1) := by decide +kernel
theorem e_law_589 : decode code 589 = .ok (.aload_n 0, 1) := by decide +kernel
theorem e_law_590 : decode code 590 = .ok (.iload 4, 2) := by decide +kernel
theorem e_law_592 : decode code 592 = .ok (.iconst 2, 1) := by decide +kernel
theorem e_law_593 : decode code 593 = .ok (.iadd, 1) := by decide +kernel
theorem e_law_594 : decode code 594 = .ok (.iaload, 1) := by decide +kernel
theorem e_law_595 : decode code 595 = .ok (.invokevirtual 94, 3) := by decide +kernel
theorem e_law_598 : decode code 598 = .ok (.if_icmp .eq 840, 3) := by decide +kernel
theorem e_law_601 : decode code 601 = .ok (.iconst 0, 1) := by decide +kernel
theorem e_law_602 : decode code 602 = .ok (.ireturn, 1) := by decide +kernel
theorem e_law_603 : decode code 603 = .ok (.aload_n 1, 1) := by decide +kernel
theorem e_law_604 : decode code 604 = .ok (.aload_n 0, 1) := by decide +kernel
theorem e_law_605 : decode code 605 = .ok (.iload 4, 2) := by decide +kernel
theorem e_law_607 : decode code 607 = .ok (.iconst 1, 1) := by decide +kernel
theorem e_law_608 : decode code 608 = .ok (.iadd, 1) := by decide +kernel
theorem e_law_609 : decode code 609 = .ok (.iaload, 1) := by decide +kernel
theorem e_law_610 : decode code 610 = .ok (.aload_n 0, 1) := by decide +kernel
theorem e_law_611 : decode code 611 = .ok (.iload 4, 2) := by decide +kernel
theorem e_law_613 : decode code 613 = .ok (.iconst 2, 1) := by decide +kernel
theorem e_law_614 : decode code 614 = .ok (.iadd, 1) := by decide +kernel
theorem e_law_615 : decode code 615 = .ok (.iaload, 1) := by decide +kernel
theorem e_law_616 : decode code 616 = .ok (.invokevirtual 95, 3) := by decide +kernel
theorem e_law_619 : decode code 619 = .ok (.aload_n 2, 1) := by decide +kernel
theorem e_law_620 : decode code 620 = .ok (.aload_n 0, 1) := by decide +kernel
theorem e_law_621 : decode code 621 = .ok (.iload 4, 2) := by decide +kernel
theorem e_law_623 : decode code 623 = .ok (.iconst 1, 1) := by decide +kernel
theorem e_law_624 : decode code 624 = .ok (.iadd, 1) := by decide +kernel
theorem e_law_625 : decode code 625 = .ok (.iaload, 1) := by decide +kernel
theorem e_law_626 : decode code 626 = .ok (.aload_n 0, 1) := by decide +kernel
theorem e_law_627 : decode code 627 = .ok (.iload 4, 2) := by decide +kernel
theorem e_law_629 : decode code 629 = .ok (.iconst 2, 1) := by decide +kernel
theorem e_law_630 : decode code 630 = .ok (.iadd, 1) := by decide +kernel
theorem e_law_631 : decode code 631 = .ok (.iaload, 1) := by decide +kernel
theorem e_law_632 : decode code 632 = .ok (.invokevirtual 98, 3) := by decide +kernel
theorem e_law_635 : decode code 635 = .ok (.if_icmp .eq 803, 3) := by decide +kernel
theorem e_law_638 : decode code 638 = .ok (.iconst 0, 1) := by decide +kernel
theorem e_law_639 : decode code 639 = .ok (.ireturn, 1) := by decide +kernel
theorem e_law_640 : decode code 640 = .ok (.aload_n 1, 1) := by decide +kernel
theorem e_law_641 : decode code 641 = .ok (.aload_n 0, 1) := by decide +kernel
theorem e_law_642 : decode code 642 = .ok (.iload 4, 2) := by decide +kernel
theorem e_law_644 : decode code 644 = .ok (.iconst 1, 1) := by decide +kernel
theorem e_law_645 : decode code 645 = .ok (.iadd, 1) := by decide +kernel
theorem e_law_646 : decode code 646 = .ok (.iaload, 1) := by decide +kernel
theorem e_law_647 : decode code 647 = .ok (.aload_n 0, 1) := by decide +kernel
theorem e_law_648 : decode code 648 = .ok (.iload 4, 2) := by decide +kernel
theorem e_law_650 : decode code 650 = .ok (.iconst 2, 1) := by decide +kernel
theorem e_law_651 : decode code 651 = .ok (.iadd, 1) := by decide +kernel
theorem e_law_652 : decode code 652 = .ok (.iaload, 1) := by decide +kernel
theorem e_law_653 : decode code 653 = .ok (.ifCond .eq 7, 3) := by decide +kernel
theorem e_law_656 : decode code 656 = .ok (.iconst 1, 1) := by decide +kernel
theorem e_law_657 : decode code 657 = .ok (.goto 4, 3) := by decide +kernel
theorem e_law_660 : decode code 660 = .ok (.iconst 0, 1) := by decide +kernel
theorem e_law_661 : decode code 661 = .ok (.invokevirtual 99, 3) := by decide +kernel
theorem e_law_664 : decode code 664 = .ok (.aload_n 2, 1) := by decide +kernel
theorem e_law_665 : decode code 665 = .ok (.aload_n 0, 1) := by decide +kernel
theorem e_law_666 : decode code 666 = .ok (.iload 4, 2) := by decide +kernel
theorem e_law_668 : decode code 668 = .ok (.iconst 1, 1) := by decide +kernel
theorem e_law_669 : decode code 669 = .ok (.iadd, 1) := by decide +kernel
theorem e_law_670 : decode code 670 = .ok (.iaload, 1) := by decide +kernel
theorem e_law_671 : decode code 671 = .ok (.aload_n 0, 1) := by decide +kernel
theorem e_law_672 : decode code 672 = .ok (.iload 4, 2) := by decide +kernel
theorem e_law_674 : decode code 674 = .ok (.iconst 2, 1) := by decide +kernel
theorem e_law_675 : decode code 675 = .ok (.iadd, 1) := by decide +kernel
theorem e_law_676 : decode code 676 = .ok (.iaload, 1) := by decide +kernel
theorem e_law_677 : decode code 677 = .ok (.ifCond .eq 7, 3) := by decide +kernel
theorem e_law_680 : decode code 680 = .ok (.iconst 1, 1) := by decide +kernel
theorem e_law_681 : decode code 681 = .ok (.goto 4, 3) := by decide +kernel
theorem e_law_684 : decode code 684 = .ok (.iconst 0, 1) := by decide +kernel
theorem e_law_685 : decode code 685 = .ok (.invokevirtual 103, 3) := by decide +kernel
theorem e_law_688 : decode code 688 = .ok (.if_icmp .eq 750, 3) := by decide +kernel
theorem e_law_691 : decode code 691 = .ok (.iconst 0, 1) := by decide +kernel
theorem e_law_692 : decode code 692 = .ok (.ireturn, 1) := by decide +kernel
theorem e_law_693 : decode code 693 = .ok (.aload_n 1, 1) := by decide +kernel
theorem e_law_694 : decode code 694 = .ok (.aload_n 0, 1) := by decide +kernel
theorem e_law_695 : decode code 695 = .ok (.iload 4, 2) := by decide +kernel
theorem e_law_697 : decode code 697 = .ok (.iconst 1, 1) := by decide +kernel
theorem e_law_698 : decode code 698 = .ok (.iadd, 1) := by decide +kernel
theorem e_law_699 : decode code 699 = .ok (.iaload, 1) := by decide +kernel
theorem e_law_700 : decode code 700 = .ok (.aload_n 0, 1) := by decide +kernel
theorem e_law_701 : decode code 701 = .ok (.iload 4, 2) := by decide +kernel
theorem e_law_703 : decode code 703 = .ok (.iconst 2, 1) := by decide +kernel
theorem e_law_704 : decode code 704 = .ok (.iadd, 1) := by decide +kernel
theorem e_law_705 : decode code 705 = .ok (.iaload, 1) := by decide +kernel
theorem e_law_706 : decode code 706 = .ok (.ifCond .eq 7, 3) := by decide +kernel
theorem e_law_709 : decode code 709 = .ok (.iconst 1, 1) := by decide +kernel
theorem e_law_710 : decode code 710 = .ok (.goto 4, 3) := by decide +kernel
theorem e_law_713 : decode code 713 = .ok (.iconst 0, 1) := by decide +kernel
theorem e_law_714 : decode code 714 = .ok (.invokevirtual 104, 3) := by decide +kernel
theorem e_law_717 : decode code 717 = .ok (.aload_n 2, 1) := by decide +kernel
theorem e_law_718 : decode code 718 = .ok (.aload_n 0, 1) := by decide +kernel
theorem e_law_719 : decode code 719 = .ok (.iload 4, 2) := by decide +kernel
theorem e_law_721 : decode code 721 = .ok (.iconst 1, 1) := by decide +kernel
theorem e_law_722 : decode code 722 = .ok (.iadd, 1) := by decide +kernel
theorem e_law_723 : decode code 723 = .ok (.iaload, 1) := by decide +kernel
theorem e_law_724 : decode code 724 = .ok (.aload_n 0, 1) := by decide +kernel
theorem e_law_725 : decode code 725 = .ok (.iload 4, 2) := by decide +kernel
theorem e_law_727 : decode code 727 = .ok (.iconst 2, 1) := by decide +kernel
theorem e_law_728 : decode code 728 = .ok (.iadd, 1) := by decide +kernel
theorem e_law_729 : decode code 729 = .ok (.iaload, 1) := by decide +kernel
theorem e_law_730 : decode code 730 = .ok (.ifCond .eq 7, 3) := by decide +kernel
theorem e_law_733 : decode code 733 = .ok (.iconst 1, 1) := by decide +kernel
theorem e_law_734 : decode code 734 = .ok (.goto 4, 3) := by decide +kernel
theorem e_law_737 : decode code 737 = .ok (.iconst 0, 1) := by decide +kernel
theorem e_law_738 : decode code 738 = .ok (.invokevirtual 107, 3) := by decide +kernel
theorem e_law_741 : decode code 741 = .ok (.if_icmp .eq 697, 3) := by decide +kernel
theorem e_law_744 : decode code 744 = .ok (.iconst 0, 1) := by decide +kernel
theorem e_law_745 : decode code 745 = .ok (.ireturn, 1) := by decide +kernel
theorem e_law_746 : decode code 746 = .ok (.aload_n 1, 1) := by decide +kernel
theorem e_law_747 : decode code 747 = .ok (.aload_n 0, 1) := by decide +kernel
theorem e_law_748 : decode code 748 = .ok (.iload 4, 2) := by decide +kernel
theorem e_law_750 : decode code 750 = .ok (.iconst 1, 1) := by decide +kernel
theorem e_law_751 : decode code 751 = .ok (.iadd, 1) := by decide +kernel
theorem e_law_752 : decode code 752 = .ok (.iaload, 1) := by decide +kernel
theorem e_law_753 : decode code 753 = .ok (.invokevirtual 108, 3) := by decide +kernel
theorem e_law_756 : decode code 756 = .ok (.aload_n 2, 1) := by decide +kernel
theorem e_law_757 : decode code 757 = .ok (.aload_n 0, 1) := by decide +kernel
theorem e_law_758 : decode code 758 = .ok (.iload 4, 2) := by decide +kernel
theorem e_law_760 : decode code 760 = .ok (.iconst 1, 1) := by decide +kernel
theorem e_law_761 : decode code 761 = .ok (.iadd, 1) := by decide +kernel
theorem e_law_762 : decode code 762 = .ok (.iaload, 1) := by decide +kernel
theorem e_law_763 : decode code 763 = .ok (.invokevirtual 111, 3) := by decide +kernel
theorem e_law_766 : decode code 766 = .ok (.if_icmp .eq 672, 3) := by decide +kernel
theorem e_law_769 : decode code 769 = .ok (.iconst 0, 1) := by decide +kernel
theorem e_law_770 : decode code 770 = .ok (.ireturn, 1) := by decide +kernel
theorem e_law_771 : decode code 771 = .ok (.aload_n 1, 1) := by decide +kernel
theorem e_law_772 : decode code 772 = .ok (.invokevirtual 112, 3) := by decide +kernel
theorem e_law_775 : decode code 775 = .ok (.aload_n 2, 1) := by decide +kernel
theorem e_law_776 : decode code 776 = .ok (.invokevirtual 115, 3) := by decide +kernel
theorem e_law_779 : decode code 779 = .ok (.if_icmp .eq 659, 3) := by decide +kernel
theorem e_law_782 : decode code 782 = .ok (.iconst 0, 1) := by decide +kernel
theorem e_law_783 : decode code 783 = .ok (.ireturn, 1) := by decide +kernel
theorem e_law_784 : decode code 784 = .ok (.aload_n 1, 1) := by decide +kernel
theorem e_law_785 : decode code 785 = .ok (.aload_n 0, 1) := by decide +kernel
theorem e_law_786 : decode code 786 = .ok (.iload 4, 2) := by decide +kernel
theorem e_law_788 : decode code 788 = .ok (.iconst 1, 1) := by decide +kernel
theorem e_law_789 : decode code 789 = .ok (.iadd, 1) := by decide +kernel
theorem e_law_790 : decode code 790 = .ok (.iaload, 1) := by decide +kernel
theorem e_law_791 : decode code 791 = .ok (.aload_n 0, 1) := by decide +kernel
theorem e_law_792 : decode code 792 = .ok (.iload 4, 2) := by decide +kernel
theorem e_law_794 : decode code 794 = .ok (.iconst 2, 1) := by decide +kernel
theorem e_law_795 : decode code 795 = .ok (.iadd, 1) := by decide +kernel
theorem e_law_796 : decode code 796 = .ok (.iaload, 1) := by decide +kernel
theorem e_law_797 : decode code 797 = .ok (.aload_n 0, 1) := by decide +kernel
theorem e_law_798 : decode code 798 = .ok (.iload 4, 2) := by decide +kernel
theorem e_law_800 : decode code 800 = .ok (.iconst 3, 1) := by decide +kernel
theorem e_law_801 : decode code 801 = .ok (.iadd, 1) := by decide +kernel
theorem e_law_802 : decode code 802 = .ok (.iaload, 1) := by decide +kernel
theorem e_law_803 : decode code 803 = .ok (.aload_n 3, 1) := by decide +kernel
theorem e_law_804 : decode code 804 = .ok (.invokestatic 116, 3) := by decide +kernel
theorem e_law_807 : decode code 807 = .ok (.istore 5, 2) := by decide +kernel
theorem e_law_809 : decode code 809 = .ok (.aload_n 2, 1) := by decide +kernel
theorem e_law_810 : decode code 810 = .ok (.aload_n 0, 1) := by decide +kernel
theorem e_law_811 : decode code 811 = .ok (.iload 4, 2) := by decide +kernel
theorem e_law_813 : decode code 813 = .ok (.iconst 1, 1) := by decide +kernel
theorem e_law_814 : decode code 814 = .ok (.iadd, 1) := by decide +kernel
theorem e_law_815 : decode code 815 = .ok (.iaload, 1) := by decide +kernel
theorem e_law_816 : decode code 816 = .ok (.aload_n 0, 1) := by decide +kernel
theorem e_law_817 : decode code 817 = .ok (.iload 4, 2) := by decide +kernel
theorem e_law_819 : decode code 819 = .ok (.iconst 2, 1) := by decide +kernel
theorem e_law_820 : decode code 820 = .ok (.iadd, 1) := by decide +kernel
theorem e_law_821 : decode code 821 = .ok (.iaload, 1) := by decide +kernel
theorem e_law_822 : decode code 822 = .ok (.aload_n 0, 1) := by decide +kernel
theorem e_law_823 : decode code 823 = .ok (.iload 4, 2) := by decide +kernel
theorem e_law_825 : decode code 825 = .ok (.iconst 3, 1) := by decide +kernel
theorem e_law_826 : decode code 826 = .ok (.iadd, 1) := by decide +kernel
theorem e_law_827 : decode code 827 = .ok (.iaload, 1) := by decide +kernel
theorem e_law_828 : decode code 828 = .ok (.invokevirtual 119, 3) := by decide +kernel
theorem e_law_831 : decode code 831 = .ok (.istore 6, 2) := by decide +kernel
theorem e_law_833 : decode code 833 = .ok (.aload_n 2, 1) := by decide +kernel
theorem e_law_834 : decode code 834 = .ok (.invokevirtual 70, 3) := by decide +kernel
theorem e_law_837 : decode code 837 = .ok (.iload 5, 2) := by decide +kernel
theorem e_law_839 : decode code 839 = .ok (.if_icmp .eq 5, 3) := by decide +kernel
theorem e_law_842 : decode code 842 = .ok (.iconst 0, 1) := by decide +kernel
theorem e_law_843 : decode code 843 = .ok (.ireturn, 1) := by decide +kernel
theorem e_law_844 : decode code 844 = .ok (.iload 5, 2) := by decide +kernel
theorem e_law_846 : decode code 846 = .ok (.ifCond .ne 15, 3) := by decide +kernel
theorem e_law_849 : decode code 849 = .ok (.aload_n 3, 1) := by decide +kernel
theorem e_law_850 : decode code 850 = .ok (.iconst 0, 1) := by decide +kernel
theorem e_law_851 : decode code 851 = .ok (.laload, 1) := by decide +kernel
theorem e_law_852 : decode code 852 = .ok (.iload 6, 2) := by decide +kernel
theorem e_law_854 : decode code 854 = .ok (.i2l, 1) := by decide +kernel
theorem e_law_855 : decode code 855 = .ok (.lcmp, 1) := by decide +kernel
theorem e_law_856 : decode code 856 = .ok (.ifCond .eq 5, 3) := by decide +kernel
theorem e_law_859 : decode code 859 = .ok (.iconst 0, 1) := by decide +kernel
theorem e_law_860 : decode code 860 = .ok (.ireturn, 1) := by decide +kernel
theorem e_law_861 : decode code 861 = .ok (.goto 577, 3) := by decide +kernel
theorem e_law_864 : decode code 864 = .ok (.aload_n 1, 1) := by decide +kernel
theorem e_law_865 : decode code 865 = .ok (.aload_n 0, 1) := by decide +kernel
theorem e_law_866 : decode code 866 = .ok (.iload 4, 2) := by decide +kernel
theorem e_law_868 : decode code 868 = .ok (.iconst 1, 1) := by decide +kernel
theorem e_law_869 : decode code 869 = .ok (.iadd, 1) := by decide +kernel
theorem e_law_870 : decode code 870 = .ok (.iaload, 1) := by decide +kernel
theorem e_law_871 : decode code 871 = .ok (.aload_n 3, 1) := by decide +kernel
theorem e_law_872 : decode code 872 = .ok (.invokestatic 120, 3) := by decide +kernel
theorem e_law_875 : decode code 875 = .ok (.istore 5, 2) := by decide +kernel
theorem e_law_877 : decode code 877 = .ok (.aload_n 2, 1) := by decide +kernel
theorem e_law_878 : decode code 878 = .ok (.aload_n 0, 1) := by decide +kernel
theorem e_law_879 : decode code 879 = .ok (.iload 4, 2) := by decide +kernel
theorem e_law_881 : decode code 881 = .ok (.iconst 1, 1) := by decide +kernel
theorem e_law_882 : decode code 882 = .ok (.iadd, 1) := by decide +kernel
theorem e_law_883 : decode code 883 = .ok (.iaload, 1) := by decide +kernel
theorem e_law_884 : decode code 884 = .ok (.invokevirtual 122, 3) := by decide +kernel
theorem e_law_887 : decode code 887 = .ok (.istore 6, 2) := by decide +kernel
theorem e_law_889 : decode code 889 = .ok (.aload_n 2, 1) := by decide +kernel
theorem e_law_890 : decode code 890 = .ok (.invokevirtual 70, 3) := by decide +kernel
theorem e_law_893 : decode code 893 = .ok (.iload 5, 2) := by decide +kernel
theorem e_law_895 : decode code 895 = .ok (.if_icmp .eq 5, 3) := by decide +kernel
theorem e_law_898 : decode code 898 = .ok (.iconst 0, 1) := by decide +kernel
theorem e_law_899 : decode code 899 = .ok (.ireturn, 1) := by decide +kernel
theorem e_law_900 : decode code 900 = .ok (.iload 5, 2) := by decide +kernel
theorem e_law_902 : decode code 902 = .ok (.ifCond .ne 15, 3) := by decide +kernel
theorem e_law_905 : decode code 905 = .ok (.aload_n 3, 1) := by decide +kernel
theorem e_law_906 : decode code 906 = .ok (.iconst 0, 1) := by decide +kernel
theorem e_law_907 : decode code 907 = .ok (.laload, 1) := by decide +kernel
theorem e_law_908 : decode code 908 = .ok (.iload 6, 2) := by decide +kernel
theorem e_law_910 : decode code 910 = .ok (.i2l, 1) := by decide +kernel
theorem e_law_911 : decode code 911 = .ok (.lcmp, 1) := by decide +kernel
theorem e_law_912 : decode code 912 = .ok (.ifCond .eq 5, 3) := by decide +kernel
theorem e_law_915 : decode code 915 = .ok (.iconst 0, 1) := by decide +kernel
theorem e_law_916 : decode code 916 = .ok (.ireturn, 1) := by decide +kernel
theorem e_law_917 : decode code 917 = .ok (.goto 521, 3) := by decide +kernel
theorem e_law_920 : decode code 920 = .ok (.aload_n 1, 1) := by decide +kernel
theorem e_law_921 : decode code 921 = .ok (.aload_n 0, 1) := by decide +kernel
theorem e_law_922 : decode code 922 = .ok (.iload 4, 2) := by decide +kernel
theorem e_law_924 : decode code 924 = .ok (.iconst 1, 1) := by decide +kernel
theorem e_law_925 : decode code 925 = .ok (.iadd, 1) := by decide +kernel
theorem e_law_926 : decode code 926 = .ok (.iaload, 1) := by decide +kernel
theorem e_law_927 : decode code 927 = .ok (.aload_n 0, 1) := by decide +kernel
theorem e_law_928 : decode code 928 = .ok (.iload 4, 2) := by decide +kernel
theorem e_law_930 : decode code 930 = .ok (.iconst 2, 1) := by decide +kernel
theorem e_law_931 : decode code 931 = .ok (.iadd, 1) := by decide +kernel
theorem e_law_932 : decode code 932 = .ok (.iaload, 1) := by decide +kernel
theorem e_law_933 : decode code 933 = .ok (.aload_n 3, 1) := by decide +kernel
theorem e_law_934 : decode code 934 = .ok (.invokestatic 123, 3) := by decide +kernel
theorem e_law_937 : decode code 937 = .ok (.istore 5, 2) := by decide +kernel
theorem e_law_939 : decode code 939 = .ok (.aload_n 2, 1) := by decide +kernel
theorem e_law_940 : decode code 940 = .ok (.aload_n 0, 1) := by decide +kernel
theorem e_law_941 : decode code 941 = .ok (.iload 4, 2) := by decide +kernel
theorem e_law_943 : decode code 943 = .ok (.iconst 1, 1) := by decide +kernel
theorem e_law_944 : decode code 944 = .ok (.iadd, 1) := by decide +kernel
theorem e_law_945 : decode code 945 = .ok (.iaload, 1) := by decide +kernel
theorem e_law_946 : decode code 946 = .ok (.aload_n 0, 1) := by decide +kernel
theorem e_law_947 : decode code 947 = .ok (.iload 4, 2) := by decide +kernel
theorem e_law_949 : decode code 949 = .ok (.iconst 2, 1) := by decide +kernel
theorem e_law_950 : decode code 950 = .ok (.iadd, 1) := by decide +kernel
theorem e_law_951 : decode code 951 = .ok (.iaload, 1) := by decide +kernel
theorem e_law_952 : decode code 952 = .ok (.invokevirtual 125, 3) := by decide +kernel
theorem e_law_955 : decode code 955 = .ok (.istore 6, 2) := by decide +kernel
theorem e_law_957 : decode code 957 = .ok (.aload_n 2, 1) := by decide +kernel
theorem e_law_958 : decode code 958 = .ok (.invokevirtual 70, 3) := by decide +kernel
theorem e_law_961 : decode code 961 = .ok (.iload 5, 2) := by decide +kernel
theorem e_law_963 : decode code 963 = .ok (.if_icmp .eq 5, 3) := by decide +kernel
theorem e_law_966 : decode code 966 = .ok (.iconst 0, 1) := by decide +kernel
theorem e_law_967 : decode code 967 = .ok (.ireturn, 1) := by decide +kernel
theorem e_law_968 : decode code 968 = .ok (.iload 5, 2) := by decide +kernel
theorem e_law_970 : decode code 970 = .ok (.ifCond .ne 15, 3) := by decide +kernel
theorem e_law_973 : decode code 973 = .ok (.aload_n 3, 1) := by decide +kernel
theorem e_law_974 : decode code 974 = .ok (.iconst 0, 1) := by decide +kernel
theorem e_law_975 : decode code 975 = .ok (.laload, 1) := by decide +kernel
theorem e_law_976 : decode code 976 = .ok (.iload 6, 2) := by decide +kernel
theorem e_law_978 : decode code 978 = .ok (.i2l, 1) := by decide +kernel
theorem e_law_979 : decode code 979 = .ok (.lcmp, 1) := by decide +kernel
theorem e_law_980 : decode code 980 = .ok (.ifCond .eq 5, 3) := by decide +kernel
theorem e_law_983 : decode code 983 = .ok (.iconst 0, 1) := by decide +kernel
theorem e_law_984 : decode code 984 = .ok (.ireturn, 1) := by decide +kernel
theorem e_law_985 : decode code 985 = .ok (.goto 453, 3) := by decide +kernel
theorem e_law_988 : decode code 988 = .ok (.aload_n 1, 1) := by decide +kernel
theorem e_law_989 : decode code 989 = .ok (.aload_n 0, 1) := by decide +kernel
theorem e_law_990 : decode code 990 = .ok (.iload 4, 2) := by decide +kernel
theorem e_law_992 : decode code 992 = .ok (.iconst 1, 1) := by decide +kernel
theorem e_law_993 : decode code 993 = .ok (.iadd, 1) := by decide +kernel
theorem e_law_994 : decode code 994 = .ok (.iaload, 1) := by decide +kernel
theorem e_law_995 : decode code 995 = .ok (.aload_n 0, 1) := by decide +kernel
theorem e_law_996 : decode code 996 = .ok (.iload 4, 2) := by decide +kernel
theorem e_law_998 : decode code 998 = .ok (.iconst 2, 1) := by decide +kernel
theorem e_law_999 : decode code 999 = .ok (.iadd, 1) := by decide +kernel
theorem e_law_1000 : decode code 1000 = .ok (.iaload, 1) := by decide +kernel
theorem e_law_1001 : decode code 1001 = .ok (.aload_n 3, 1) := by decide +kernel
theorem e_law_1002 : decode code 1002 = .ok (.invokestatic 126, 3) := by decide +kernel
theorem e_law_1005 : decode code 1005 = .ok (.istore 5, 2) := by decide +kernel
theorem e_law_1007 : decode code 1007 = .ok (.aload_n 2, 1) := by decide +kernel
theorem e_law_1008 : decode code 1008 = .ok (.aload_n 0, 1) := by decide +kernel
theorem e_law_1009 : decode code 1009 = .ok (.iload 4, 2) := by decide +kernel
theorem e_law_1011 : decode code 1011 = .ok (.iconst 1, 1) := by decide +kernel
theorem e_law_1012 : decode code 1012 = .ok (.iadd, 1) := by decide +kernel
theorem e_law_1013 : decode code 1013 = .ok (.iaload, 1) := by decide +kernel
theorem e_law_1014 : decode code 1014 = .ok (.aload_n 0, 1) := by decide +kernel
theorem e_law_1015 : decode code 1015 = .ok (.iload 4, 2) := by decide +kernel
theorem e_law_1017 : decode code 1017 = .ok (.iconst 2, 1) := by decide +kernel
theorem e_law_1018 : decode code 1018 = .ok (.iadd, 1) := by decide +kernel
theorem e_law_1019 : decode code 1019 = .ok (.iaload, 1) := by decide +kernel
theorem e_law_1020 : decode code 1020 = .ok (.invokevirtual 128, 3) := by decide +kernel
theorem e_law_1023 : decode code 1023 = .ok (.istore 6, 2) := by decide +kernel
theorem e_law_1025 : decode code 1025 = .ok (.aload_n 2, 1) := by decide +kernel
theorem e_law_1026 : decode code 1026 = .ok (.invokevirtual 70, 3) := by decide +kernel
theorem e_law_1029 : decode code 1029 = .ok (.iload 5, 2) := by decide +kernel
theorem e_law_1031 : decode code 1031 = .ok (.if_icmp .eq 5, 3) := by decide +kernel
theorem e_law_1034 : decode code 1034 = .ok (.iconst 0, 1) := by decide +kernel
theorem e_law_1035 : decode code 1035 = .ok (.ireturn, 1) := by decide +kernel
theorem e_law_1036 : decode code 1036 = .ok (.iload 5, 2) := by decide +kernel
theorem e_law_1038 : decode code 1038 = .ok (.ifCond .ne 15, 3) := by decide +kernel
theorem e_law_1041 : decode code 1041 = .ok (.aload_n 3, 1) := by decide +kernel
theorem e_law_1042 : decode code 1042 = .ok (.iconst 0, 1) := by decide +kernel
theorem e_law_1043 : decode code 1043 = .ok (.laload, 1) := by decide +kernel
theorem e_law_1044 : decode code 1044 = .ok (.iload 6, 2) := by decide +kernel
theorem e_law_1046 : decode code 1046 = .ok (.i2l, 1) := by decide +kernel
theorem e_law_1047 : decode code 1047 = .ok (.lcmp, 1) := by decide +kernel
theorem e_law_1048 : decode code 1048 = .ok (.ifCond .eq 5, 3) := by decide +kernel
theorem e_law_1051 : decode code 1051 = .ok (.iconst 0, 1) := by decide +kernel
theorem e_law_1052 : decode code 1052 = .ok (.ireturn, 1) := by decide +kernel
theorem e_law_1053 : decode code 1053 = .ok (.goto 385, 3) := by decide +kernel
theorem e_law_1056 : decode code 1056 = .ok (.aload_n 1, 1) := by decide +kernel
theorem e_law_1057 : decode code 1057 = .ok (.invokevirtual 129, 3) := by decide +kernel
theorem e_law_1060 : decode code 1060 = .ok (.aload_n 2, 1) := by decide +kernel
theorem e_law_1061 : decode code 1061 = .ok (.invokevirtual 132, 3) := by decide +kernel
theorem e_law_1064 : decode code 1064 = .ok (.if_icmp .eq 374, 3) := by decide +kernel
theorem e_law_1067 : decode code 1067 = .ok (.iconst 0, 1) := by decide +kernel
theorem e_law_1068 : decode code 1068 = .ok (.ireturn, 1) := by decide +kernel
theorem e_law_1069 : decode code 1069 = .ok (.aload_n 1, 1) := by decide +kernel
theorem e_law_1070 : decode code 1070 = .ok (.aload_n 0, 1) := by decide +kernel
theorem e_law_1071 : decode code 1071 = .ok (.iload 4, 2) := by decide +kernel
theorem e_law_1073 : decode code 1073 = .ok (.iconst 1, 1) := by decide +kernel
theorem e_law_1074 : decode code 1074 = .ok (.iadd, 1) := by decide +kernel
theorem e_law_1075 : decode code 1075 = .ok (.iaload, 1) := by decide +kernel
theorem e_law_1076 : decode code 1076 = .ok (.aload_n 0, 1) := by decide +kernel
theorem e_law_1077 : decode code 1077 = .ok (.iload 4, 2) := by decide +kernel
theorem e_law_1079 : decode code 1079 = .ok (.iconst 2, 1) := by decide +kernel
theorem e_law_1080 : decode code 1080 = .ok (.iadd, 1) := by decide +kernel
theorem e_law_1081 : decode code 1081 = .ok (.iaload, 1) := by decide +kernel
theorem e_law_1082 : decode code 1082 = .ok (.aload_n 0, 1) := by decide +kernel
theorem e_law_1083 : decode code 1083 = .ok (.iload 4, 2) := by decide +kernel
theorem e_law_1085 : decode code 1085 = .ok (.iconst 3, 1) := by decide +kernel
theorem e_law_1086 : decode code 1086 = .ok (.iadd, 1) := by decide +kernel
theorem e_law_1087 : decode code 1087 = .ok (.iaload, 1) := by decide +kernel
theorem e_law_1088 : decode code 1088 = .ok (.aload_n 3, 1) := by decide +kernel
theorem e_law_1089 : decode code 1089 = .ok (.invokestatic 133, 3) := by decide +kernel
theorem e_law_1092 : decode code 1092 = .ok (.istore 5, 2) := by decide +kernel
theorem e_law_1094 : decode code 1094 = .ok (.aload_n 2, 1) := by decide +kernel
theorem e_law_1095 : decode code 1095 = .ok (.aload_n 0, 1) := by decide +kernel
theorem e_law_1096 : decode code 1096 = .ok (.iload 4, 2) := by decide +kernel
theorem e_law_1098 : decode code 1098 = .ok (.iconst 1, 1) := by decide +kernel
theorem e_law_1099 : decode code 1099 = .ok (.iadd, 1) := by decide +kernel
theorem e_law_1100 : decode code 1100 = .ok (.iaload, 1) := by decide +kernel
theorem e_law_1101 : decode code 1101 = .ok (.aload_n 0, 1) := by decide +kernel
theorem e_law_1102 : decode code 1102 = .ok (.iload 4, 2) := by decide +kernel
theorem e_law_1104 : decode code 1104 = .ok (.iconst 2, 1) := by decide +kernel
theorem e_law_1105 : decode code 1105 = .ok (.iadd, 1) := by decide +kernel
theorem e_law_1106 : decode code 1106 = .ok (.iaload, 1) := by decide +kernel
theorem e_law_1107 : decode code 1107 = .ok (.aload_n 0, 1) := by decide +kernel
theorem e_law_1108 : decode code 1108 = .ok (.iload 4, 2) := by decide +kernel
theorem e_law_1110 : decode code 1110 = .ok (.iconst 3, 1) := by decide +kernel
theorem e_law_1111 : decode code 1111 = .ok (.iadd, 1) := by decide +kernel
theorem e_law_1112 : decode code 1112 = .ok (.iaload, 1) := by decide +kernel
theorem e_law_1113 : decode code 1113 = .ok (.invokevirtual 135, 3) := by decide +kernel
theorem e_law_1116 : decode code 1116 = .ok (.istore 6, 2) := by decide +kernel
theorem e_law_1118 : decode code 1118 = .ok (.aload_n 2, 1) := by decide +kernel
theorem e_law_1119 : decode code 1119 = .ok (.invokevirtual 70, 3) := by decide +kernel
theorem e_law_1122 : decode code 1122 = .ok (.iload 5, 2) := by decide +kernel
theorem e_law_1124 : decode code 1124 = .ok (.if_icmp .eq 5, 3) := by decide +kernel
theorem e_law_1127 : decode code 1127 = .ok (.iconst 0, 1) := by decide +kernel
theorem e_law_1128 : decode code 1128 = .ok (.ireturn, 1) := by decide +kernel
theorem e_law_1129 : decode code 1129 = .ok (.iload 5, 2) := by decide +kernel
theorem e_law_1131 : decode code 1131 = .ok (.ifCond .ne 15, 3) := by decide +kernel
theorem e_law_1134 : decode code 1134 = .ok (.aload_n 3, 1) := by decide +kernel
theorem e_law_1135 : decode code 1135 = .ok (.iconst 0, 1) := by decide +kernel
theorem e_law_1136 : decode code 1136 = .ok (.laload, 1) := by decide +kernel
theorem e_law_1137 : decode code 1137 = .ok (.iload 6, 2) := by decide +kernel
theorem e_law_1139 : decode code 1139 = .ok (.i2l, 1) := by decide +kernel
theorem e_law_1140 : decode code 1140 = .ok (.lcmp, 1) := by decide +kernel
theorem e_law_1141 : decode code 1141 = .ok (.ifCond .eq 5, 3) := by decide +kernel
theorem e_law_1144 : decode code 1144 = .ok (.iconst 0, 1) := by decide +kernel
theorem e_law_1145 : decode code 1145 = .ok (.ireturn, 1) := by decide +kernel
theorem e_law_1146 : decode code 1146 = .ok (.goto 292, 3) := by decide +kernel
theorem e_law_1149 : decode code 1149 = .ok (.aload_n 1, 1) := by decide +kernel
theorem e_law_1150 : decode code 1150 = .ok (.aload_n 0, 1) := by decide +kernel
theorem e_law_1151 : decode code 1151 = .ok (.iload 4, 2) := by decide +kernel
theorem e_law_1153 : decode code 1153 = .ok (.iconst 1, 1) := by decide +kernel
theorem e_law_1154 : decode code 1154 = .ok (.iadd, 1) := by decide +kernel
theorem e_law_1155 : decode code 1155 = .ok (.iaload, 1) := by decide +kernel
theorem e_law_1156 : decode code 1156 = .ok (.aload_n 3, 1) := by decide +kernel
theorem e_law_1157 : decode code 1157 = .ok (.invokestatic 136, 3) := by decide +kernel
theorem e_law_1160 : decode code 1160 = .ok (.istore 5, 2) := by decide +kernel
theorem e_law_1162 : decode code 1162 = .ok (.aload_n 2, 1) := by decide +kernel
theorem e_law_1163 : decode code 1163 = .ok (.aload_n 0, 1) := by decide +kernel
theorem e_law_1164 : decode code 1164 = .ok (.iload 4, 2) := by decide +kernel
theorem e_law_1166 : decode code 1166 = .ok (.iconst 1, 1) := by decide +kernel
theorem e_law_1167 : decode code 1167 = .ok (.iadd, 1) := by decide +kernel
theorem e_law_1168 : decode code 1168 = .ok (.iaload, 1) := by decide +kernel
theorem e_law_1169 : decode code 1169 = .ok (.invokevirtual 138, 3) := by decide +kernel
theorem e_law_1172 : decode code 1172 = .ok (.istore 6, 2) := by decide +kernel
theorem e_law_1174 : decode code 1174 = .ok (.aload_n 2, 1) := by decide +kernel
theorem e_law_1175 : decode code 1175 = .ok (.invokevirtual 70, 3) := by decide +kernel
theorem e_law_1178 : decode code 1178 = .ok (.iload 5, 2) := by decide +kernel
theorem e_law_1180 : decode code 1180 = .ok (.if_icmp .eq 5, 3) := by decide +kernel
theorem e_law_1183 : decode code 1183 = .ok (.iconst 0, 1) := by decide +kernel
theorem e_law_1184 : decode code 1184 = .ok (.ireturn, 1) := by decide +kernel
theorem e_law_1185 : decode code 1185 = .ok (.iload 5, 2) := by decide +kernel
theorem e_law_1187 : decode code 1187 = .ok (.ifCond .ne 15, 3) := by decide +kernel
theorem e_law_1190 : decode code 1190 = .ok (.aload_n 3, 1) := by decide +kernel
theorem e_law_1191 : decode code 1191 = .ok (.iconst 0, 1) := by decide +kernel
theorem e_law_1192 : decode code 1192 = .ok (.laload, 1) := by decide +kernel
theorem e_law_1193 : decode code 1193 = .ok (.iload 6, 2) := by decide +kernel
theorem e_law_1195 : decode code 1195 = .ok (.i2l, 1) := by decide +kernel
theorem e_law_1196 : decode code 1196 = .ok (.lcmp, 1) := by decide +kernel
theorem e_law_1197 : decode code 1197 = .ok (.ifCond .eq 5, 3) := by decide +kernel
theorem e_law_1200 : decode code 1200 = .ok (.iconst 0, 1) := by decide +kernel
theorem e_law_1201 : decode code 1201 = .ok (.ireturn, 1) := by decide +kernel
theorem e_law_1202 : decode code 1202 = .ok (.goto 236, 3) := by decide +kernel
theorem e_law_1205 : decode code 1205 = .ok (.aload_n 1, 1) := by decide +kernel
theorem e_law_1206 : decode code 1206 = .ok (.aload_n 0, 1) := by decide +kernel
theorem e_law_1207 : decode code 1207 = .ok (.iload 4, 2) := by decide +kernel
theorem e_law_1209 : decode code 1209 = .ok (.iconst 1, 1) := by decide +kernel
theorem e_law_1210 : decode code 1210 = .ok (.iadd, 1) := by decide +kernel
theorem e_law_1211 : decode code 1211 = .ok (.iaload, 1) := by decide +kernel
theorem e_law_1212 : decode code 1212 = .ok (.aload_n 0, 1) := by decide +kernel
theorem e_law_1213 : decode code 1213 = .ok (.iload 4, 2) := by decide +kernel
theorem e_law_1215 : decode code 1215 = .ok (.iconst 2, 1) := by decide +kernel
theorem e_law_1216 : decode code 1216 = .ok (.iadd, 1) := by decide +kernel
theorem e_law_1217 : decode code 1217 = .ok (.iaload, 1) := by decide +kernel
theorem e_law_1218 : decode code 1218 = .ok (.aload_n 0, 1) := by decide +kernel
theorem e_law_1219 : decode code 1219 = .ok (.iload 4, 2) := by decide +kernel
theorem e_law_1221 : decode code 1221 = .ok (.iconst 3, 1) := by decide +kernel
theorem e_law_1222 : decode code 1222 = .ok (.iadd, 1) := by decide +kernel
theorem e_law_1223 : decode code 1223 = .ok (.iaload, 1) := by decide +kernel
theorem e_law_1224 : decode code 1224 = .ok (.invokevirtual 139, 3) := by decide +kernel
theorem e_law_1227 : decode code 1227 = .ok (.aload_n 2, 1) := by decide +kernel
theorem e_law_1228 : decode code 1228 = .ok (.aload_n 0, 1) := by decide +kernel
theorem e_law_1229 : decode code 1229 = .ok (.iload 4, 2) := by decide +kernel
theorem e_law_1231 : decode code 1231 = .ok (.iconst 1, 1) := by decide +kernel
theorem e_law_1232 : decode code 1232 = .ok (.iadd, 1) := by decide +kernel
theorem e_law_1233 : decode code 1233 = .ok (.iaload, 1) := by decide +kernel
theorem e_law_1234 : decode code 1234 = .ok (.aload_n 0, 1) := by decide +kernel
theorem e_law_1235 : decode code 1235 = .ok (.iload 4, 2) := by decide +kernel
theorem e_law_1237 : decode code 1237 = .ok (.iconst 2, 1) := by decide +kernel
theorem e_law_1238 : decode code 1238 = .ok (.iadd, 1) := by decide +kernel
theorem e_law_1239 : decode code 1239 = .ok (.iaload, 1) := by decide +kernel
theorem e_law_1240 : decode code 1240 = .ok (.aload_n 0, 1) := by decide +kernel
theorem e_law_1241 : decode code 1241 = .ok (.iload 4, 2) := by decide +kernel
theorem e_law_1243 : decode code 1243 = .ok (.iconst 3, 1) := by decide +kernel
theorem e_law_1244 : decode code 1244 = .ok (.iadd, 1) := by decide +kernel
theorem e_law_1245 : decode code 1245 = .ok (.iaload, 1) := by decide +kernel
theorem e_law_1246 : decode code 1246 = .ok (.invokevirtual 142, 3) := by decide +kernel
theorem e_law_1249 : decode code 1249 = .ok (.if_icmp .eq 189, 3) := by decide +kernel
theorem e_law_1252 : decode code 1252 = .ok (.iconst 0, 1) := by decide +kernel
theorem e_law_1253 : decode code 1253 = .ok (.ireturn, 1) := by decide +kernel
theorem e_law_1254 : decode code 1254 = .ok (.aload_n 1, 1) := by decide +kernel
theorem e_law_1255 : decode code 1255 = .ok (.invokevirtual 143, 3) := by decide +kernel
theorem e_law_1258 : decode code 1258 = .ok (.aload_n 2, 1) := by decide +kernel
theorem e_law_1259 : decode code 1259 = .ok (.invokevirtual 146, 3) := by decide +kernel
theorem e_law_1262 : decode code 1262 = .ok (.if_icmp .eq 176, 3) := by decide +kernel
theorem e_law_1265 : decode code 1265 = .ok (.iconst 0, 1) := by decide +kernel
theorem e_law_1266 : decode code 1266 = .ok (.ireturn, 1) := by decide +kernel
theorem e_law_1267 : decode code 1267 = .ok (.aload_n 1, 1) := by decide +kernel
theorem e_law_1268 : decode code 1268 = .ok (.aload_n 0, 1) := by decide +kernel
theorem e_law_1269 : decode code 1269 = .ok (.iload 4, 2) := by decide +kernel
theorem e_law_1271 : decode code 1271 = .ok (.iconst 1, 1) := by decide +kernel
theorem e_law_1272 : decode code 1272 = .ok (.iadd, 1) := by decide +kernel
theorem e_law_1273 : decode code 1273 = .ok (.iaload, 1) := by decide +kernel
theorem e_law_1274 : decode code 1274 = .ok (.aload_n 3, 1) := by decide +kernel
theorem e_law_1275 : decode code 1275 = .ok (.invokestatic 147, 3) := by decide +kernel
theorem e_law_1278 : decode code 1278 = .ok (.istore 5, 2) := by decide +kernel
theorem e_law_1280 : decode code 1280 = .ok (.aload_n 2, 1) := by decide +kernel
theorem e_law_1281 : decode code 1281 = .ok (.aload_n 0, 1) := by decide +kernel
theorem e_law_1282 : decode code 1282 = .ok (.iload 4, 2) := by decide +kernel
theorem e_law_1284 : decode code 1284 = .ok (.iconst 1, 1) := by decide +kernel
theorem e_law_1285 : decode code 1285 = .ok (.iadd, 1) := by decide +kernel
theorem e_law_1286 : decode code 1286 = .ok (.iaload, 1) := by decide +kernel
theorem e_law_1287 : decode code 1287 = .ok (.invokevirtual 149, 3) := by decide +kernel
theorem e_law_1290 : decode code 1290 = .ok (.istore 6, 2) := by decide +kernel
theorem e_law_1292 : decode code 1292 = .ok (.aload_n 2, 1) := by decide +kernel
theorem e_law_1293 : decode code 1293 = .ok (.invokevirtual 70, 3) := by decide +kernel
theorem e_law_1296 : decode code 1296 = .ok (.iload 5, 2) := by decide +kernel
theorem e_law_1298 : decode code 1298 = .ok (.if_icmp .eq 5, 3) := by decide +kernel
theorem e_law_1301 : decode code 1301 = .ok (.iconst 0, 1) := by decide +kernel
theorem e_law_1302 : decode code 1302 = .ok (.ireturn, 1) := by decide +kernel
theorem e_law_1303 : decode code 1303 = .ok (.iload 5, 2) := by decide +kernel
theorem e_law_1305 : decode code 1305 = .ok (.ifCond .ne 15, 3) := by decide +kernel
theorem e_law_1308 : decode code 1308 = .ok (.aload_n 3, 1) := by decide +kernel
theorem e_law_1309 : decode code 1309 = .ok (.iconst 0, 1) := by decide +kernel
theorem e_law_1310 : decode code 1310 = .ok (.laload, 1) := by decide +kernel
theorem e_law_1311 : decode code 1311 = .ok (.iload 6, 2) := by decide +kernel
theorem e_law_1313 : decode code 1313 = .ok (.i2l, 1) := by decide +kernel
theorem e_law_1314 : decode code 1314 = .ok (.lcmp, 1) := by decide +kernel
theorem e_law_1315 : decode code 1315 = .ok (.ifCond .eq 5, 3) := by decide +kernel
theorem e_law_1318 : decode code 1318 = .ok (.iconst 0, 1) := by decide +kernel
theorem e_law_1319 : decode code 1319 = .ok (.ireturn, 1) := by decide +kernel
theorem e_law_1320 : decode code 1320 = .ok (.goto 118, 3) := by decide +kernel
theorem e_law_1323 : decode code 1323 = .ok (.aload_n 1, 1) := by decide +kernel
theorem e_law_1324 : decode code 1324 = .ok (.invokevirtual 150, 3) := by decide +kernel
theorem e_law_1327 : decode code 1327 = .ok (.aload_n 2, 1) := by decide +kernel
theorem e_law_1328 : decode code 1328 = .ok (.invokevirtual 153, 3) := by decide +kernel
theorem e_law_1331 : decode code 1331 = .ok (.goto 107, 3) := by decide +kernel
theorem e_law_1334 : decode code 1334 = .ok (.aload_n 1, 1) := by decide +kernel
theorem e_law_1335 : decode code 1335 = .ok (.aload_n 0, 1) := by decide +kernel
theorem e_law_1336 : decode code 1336 = .ok (.iload 4, 2) := by decide +kernel
theorem e_law_1338 : decode code 1338 = .ok (.iconst 1, 1) := by decide +kernel
theorem e_law_1339 : decode code 1339 = .ok (.iadd, 1) := by decide +kernel
theorem e_law_1340 : decode code 1340 = .ok (.iaload, 1) := by decide +kernel
theorem e_law_1341 : decode code 1341 = .ok (.aload_n 0, 1) := by decide +kernel
theorem e_law_1342 : decode code 1342 = .ok (.iload 4, 2) := by decide +kernel
theorem e_law_1344 : decode code 1344 = .ok (.iconst 2, 1) := by decide +kernel
theorem e_law_1345 : decode code 1345 = .ok (.iadd, 1) := by decide +kernel
theorem e_law_1346 : decode code 1346 = .ok (.iaload, 1) := by decide +kernel
theorem e_law_1347 : decode code 1347 = .ok (.aload_n 0, 1) := by decide +kernel
theorem e_law_1348 : decode code 1348 = .ok (.iload 4, 2) := by decide +kernel
theorem e_law_1350 : decode code 1350 = .ok (.iconst 3, 1) := by decide +kernel
theorem e_law_1351 : decode code 1351 = .ok (.iadd, 1) := by decide +kernel
theorem e_law_1352 : decode code 1352 = .ok (.iaload, 1) := by decide +kernel
theorem e_law_1353 : decode code 1353 = .ok (.aload_n 3, 1) := by decide +kernel
theorem e_law_1354 : decode code 1354 = .ok (.invokestatic 154, 3) := by decide +kernel
theorem e_law_1357 : decode code 1357 = .ok (.istore 5, 2) := by decide +kernel
theorem e_law_1359 : decode code 1359 = .ok (.aload_n 2, 1) := by decide +kernel
theorem e_law_1360 : decode code 1360 = .ok (.aload_n 0, 1) := by decide +kernel
theorem e_law_1361 : decode code 1361 = .ok (.iload 4, 2) := by decide +kernel
theorem e_law_1363 : decode code 1363 = .ok (.iconst 1, 1) := by decide +kernel
theorem e_law_1364 : decode code 1364 = .ok (.iadd, 1) := by decide +kernel
theorem e_law_1365 : decode code 1365 = .ok (.iaload, 1) := by decide +kernel
theorem e_law_1366 : decode code 1366 = .ok (.aload_n 0, 1) := by decide +kernel
theorem e_law_1367 : decode code 1367 = .ok (.iload 4, 2) := by decide +kernel
theorem e_law_1369 : decode code 1369 = .ok (.iconst 2, 1) := by decide +kernel
theorem e_law_1370 : decode code 1370 = .ok (.iadd, 1) := by decide +kernel
theorem e_law_1371 : decode code 1371 = .ok (.iaload, 1) := by decide +kernel
theorem e_law_1372 : decode code 1372 = .ok (.aload_n 0, 1) := by decide +kernel
theorem e_law_1373 : decode code 1373 = .ok (.iload 4, 2) := by decide +kernel
theorem e_law_1375 : decode code 1375 = .ok (.iconst 3, 1) := by decide +kernel
theorem e_law_1376 : decode code 1376 = .ok (.iadd, 1) := by decide +kernel
theorem e_law_1377 : decode code 1377 = .ok (.iaload, 1) := by decide +kernel
theorem e_law_1378 : decode code 1378 = .ok (.invokevirtual 156, 3) := by decide +kernel
theorem e_law_1381 : decode code 1381 = .ok (.istore 6, 2) := by decide +kernel
theorem e_law_1383 : decode code 1383 = .ok (.aload_n 2, 1) := by decide +kernel
theorem e_law_1384 : decode code 1384 = .ok (.invokevirtual 70, 3) := by decide +kernel
theorem e_law_1387 : decode code 1387 = .ok (.iload 5, 2) := by decide +kernel
theorem e_law_1389 : decode code 1389 = .ok (.if_icmp .eq 5, 3) := by decide +kernel
theorem e_law_1392 : decode code 1392 = .ok (.iconst 0, 1) := by decide +kernel
theorem e_law_1393 : decode code 1393 = .ok (.ireturn, 1) := by decide +kernel
theorem e_law_1394 : decode code 1394 = .ok (.iload 5, 2) := by decide +kernel
theorem e_law_1396 : decode code 1396 = .ok (.ifCond .ne 15, 3) := by decide +kernel
theorem e_law_1399 : decode code 1399 = .ok (.aload_n 3, 1) := by decide +kernel
theorem e_law_1400 : decode code 1400 = .ok (.iconst 0, 1) := by decide +kernel
theorem e_law_1401 : decode code 1401 = .ok (.laload, 1) := by decide +kernel
theorem e_law_1402 : decode code 1402 = .ok (.iload 6, 2) := by decide +kernel
theorem e_law_1404 : decode code 1404 = .ok (.i2l, 1) := by decide +kernel
theorem e_law_1405 : decode code 1405 = .ok (.lcmp, 1) := by decide +kernel
theorem e_law_1406 : decode code 1406 = .ok (.ifCond .eq 5, 3) := by decide +kernel
theorem e_law_1409 : decode code 1409 = .ok (.iconst 0, 1) := by decide +kernel
theorem e_law_1410 : decode code 1410 = .ok (.ireturn, 1) := by decide +kernel
theorem e_law_1411 : decode code 1411 = .ok (.goto 27, 3) := by decide +kernel
theorem e_law_1414 : decode code 1414 = .ok (.aload_n 1, 1) := by decide +kernel
theorem e_law_1415 : decode code 1415 = .ok (.invokevirtual 157, 3) := by decide +kernel
theorem e_law_1418 : decode code 1418 = .ok (.aload_n 2, 1) := by decide +kernel
theorem e_law_1419 : decode code 1419 = .ok (.invokevirtual 160, 3) := by decide +kernel
theorem e_law_1422 : decode code 1422 = .ok (.goto 16, 3) := by decide +kernel
theorem e_law_1425 : decode code 1425 = .ok (.aload_n 1, 1) := by decide +kernel
theorem e_law_1426 : decode code 1426 = .ok (.invokevirtual 161, 3) := by decide +kernel
theorem e_law_1429 : decode code 1429 = .ok (.aload_n 2, 1) := by decide +kernel
theorem e_law_1430 : decode code 1430 = .ok (.invokevirtual 165, 3) := by decide +kernel
theorem e_law_1433 : decode code 1433 = .ok (.if_icmp .eq 5, 3) := by decide +kernel
theorem e_law_1436 : decode code 1436 = .ok (.iconst 0, 1) := by decide +kernel
theorem e_law_1437 : decode code 1437 = .ok (.ireturn, 1) := by decide +kernel
theorem e_law_1438 : decode code 1438 = .ok (.iinc 4 6, 3) := by decide +kernel
theorem e_law_1441 : decode code 1441 = .ok (.goto (-1418), 3) := by decide +kernel
theorem e_law_1444 : decode code 1444 = .ok (.iconst 1, 1) := by decide +kernel
theorem e_law_1445 : decode code 1445 = .ok (.ireturn, 1) := by decide +kernel
theorem ls_Law_64 : LSH "CascadeBusLaw" 64 M_Law_bus 3 := ⟨⟨⟨by decide, by decide, by decide +kernel⟩, by decide, ini_Law, cwh_Law_bus⟩, gm3 (i := 189) (by decide +kernel) rfl, gm3 (i := 190) (by decide +kernel) rfl⟩
theorem ls_Law_78 : LSH "CascadeBusLaw" 78 M_Law_count 3 := ⟨⟨⟨by decide, by decide, by decide +kernel⟩, by decide, ini_Law, cwh_Law_count⟩, gm4 (i := 228) (by decide +kernel) rfl, gm4 (i := 229) (by decide +kernel) rfl⟩
theorem ls_Law_81 : LSH "CascadeBusLaw" 81 M_Law_block 4 := ⟨⟨⟨by decide, by decide, by decide +kernel⟩, by decide, ini_Law, cwh_Law_block⟩, gm5 (i := 11) (by decide +kernel) rfl, gm5 (i := 12) (by decide +kernel) rfl⟩
theorem ls_Law_85 : LSH "CascadeBusLaw" 85 M_Law_link 4 := ⟨⟨⟨by decide, by decide, by decide +kernel⟩, by decide, ini_Law, cwh_Law_link⟩, gm5 (i := 22) (by decide +kernel) rfl, gm5 (i := 23) (by decide +kernel) rfl⟩
theorem ls_Law_88 : LSH "CascadeBusLaw" 88 M_Law_plant 4 := ⟨⟨⟨by decide, by decide, by decide +kernel⟩, by decide, ini_Law, cwh_Law_plant⟩, gm5 (i := 29) (by decide +kernel) rfl, gm5 (i := 30) (by decide +kernel) rfl⟩
theorem ls_Law_116 : LSH "CascadeBusLaw" 116 M_Law_then 5 := ⟨⟨⟨by decide, by decide, by decide +kernel⟩, by decide, ini_Law, cwh_Law_then⟩, gm5 (i := 37) (by decide +kernel) rfl, gm5 (i := 38) (by decide +kernel) rfl⟩
theorem ls_Law_120 : LSH "CascadeBusLaw" 120 M_Law_first 3 := ⟨⟨⟨by decide, by decide, by decide +kernel⟩, by decide, ini_Law, cwh_Law_first⟩, gm5 (i := 50) (by decide +kernel) rfl, gm5 (i := 51) (by decide +kernel) rfl⟩
theorem ls_Law_123 : LSH "CascadeBusLaw" 123 M_Law_jump 4 := ⟨⟨⟨by decide, by decide, by decide +kernel⟩, by decide, ini_Law, cwh_Law_jump⟩, gm5 (i := 57) (by decide +kernel) rfl, gm5 (i := 58) (by decide +kernel) rfl⟩
theorem ls_Law_126 : LSH "CascadeBusLaw" 126 M_Law_lost 4 := ⟨⟨⟨by decide, by decide, by decide +kernel⟩, by decide, ini_Law, cwh_Law_lost⟩, gm5 (i := 68) (by decide +kernel) rfl, gm5 (i := 69) (by decide +kernel) rfl⟩
theorem ls_Law_133 : LSH "CascadeBusLaw" 133 M_Law_toTune 5 := ⟨⟨⟨by decide, by decide, by decide +kernel⟩, by decide, ini_Law, cwh_Law_toTune⟩, gm5 (i := 75) (by decide +kernel) rfl, gm5 (i := 76) (by decide +kernel) rfl⟩
theorem ls_Law_136 : LSH "CascadeBusLaw" 136 M_Law_slack 3 := ⟨⟨⟨by decide, by decide, by decide +kernel⟩, by decide, ini_Law, cwh_Law_slack⟩, gm5 (i := 87) (by decide +kernel) rfl, gm5 (i := 88) (by decide +kernel) rfl⟩
theorem ls_Law_147 : LSH "CascadeBusLaw" 147 M_Law_look 3 := ⟨⟨⟨by decide, by decide, by decide +kernel⟩, by decide, ini_Law, cwh_Law_look⟩, gm5 (i := 94) (by decide +kernel) rfl, gm5 (i := 95) (by decide +kernel) rfl⟩
theorem ls_Law_154 : LSH "CascadeBusLaw" 154 M_Law_years 5 := ⟨⟨⟨by decide, by decide, by decide +kernel⟩, by decide, ini_Law, cwh_Law_years⟩, gm5 (i := 113) (by decide +kernel) rfl, gm5 (i := 114) (by decide +kernel) rfl⟩
section
variable {g : GG} {M : MI} {d kc ks : Nat} {Q : QT} {pc : Nat} {ls st : List Value} {h : Hp}
/-- one of the script's numbers -/
theorem pw_arg {i k : Nat} {n : Int} (e0 : decode M.2.1 pc = .ok (.aload_n 0, 1)) (e1 : decode M.2.1 (pc + 1) = .ok (.iload 4, 2)) (e2 : decode M.2.1 (pc + 1 + 2) = .ok (.iconst n, 1)) (e3 : decode M.2.1 (pc + 1 + 2 + 1) = .ok (.iadd, 1)) (e4 : decode M.2.1 (pc + 1 + 2 + 1 + 1) = .ok (.iaload, 1)) (hk : Int32.ofInt n = nI k) (h0 : ls[0]? = some (.ref (gsa g))) (h4 : ls[4]? = some (.int (nI i))) (hi : i + k < gsl g) (hN : gsl g ≤ 3072)
    (kk : PW g M d kc ks Q (pc + 1 + 2 + 1 + 1 + 1) ls (.int (gsx g (i + k)) :: st) h) : PW g M d kc ks Q pc ls st h := by
  refine pw_aload_n e0 h0 ?_
  refine pw_iload e1 h4 ?_
  refine pw_iconst (v := nI k) e2 hk ?_
  refine pw_iaddN e3 ?_
  refine pw_sld e4 (vp_in_nI hi (by omega)) ?_
  rw [nI_clamp (by omega)]; exact kk
end
abbrev Zf : Type := Nat → Nat → Int32
/-- the law's world: the object, the reference, its long[1] -/
def LWd (g : GG) (A B : Nat → Nat) (o : Nat) (f : Nat → Int64) (S : SA) (P Y Z W : Zf) (h : Hp) : Prop :=
  Wld g A S P Y Z h ∧ InG (moL g B) W h ∧ h o = some (aL g f) ∧ (bsA A).Nodup ∧ (gK (moL g B)).Nodup ∧ (∀ x ∈ bsA A, x ≠ o ∧ x ∉ gK (moL g B)) ∧ o ∉ gK (moL g B) ∧ ∀ m p q c, m < 2 → S m p = some (q, c) → (q ≠ o ∧ q ∉ gK (moL g B)) ∧ c ≠ o ∧ c ∉ gK (moL g B)
/-- of Z' what lies in the object, of Z what lies in its memories -/
def ct (Z' Z : Zf) : Zf := fun k => if k < 1000 then Z' k else Z k
section
variable {g : GG} {A A' B : Nat → Nat} {o : Nat} {f : Nat → Int64} {S S' : SA} {P P' Y Y' Z Z' W : Zf} {h h' : Hp}
theorem Wld.cg (W : Wld g A S P Y Z h) (h1 : ∀ x ∈ bsA A, h' x = h x) (h2 : ∀ m p q c, m < 2 → S m p = some (q, c) → h' q = h q ∧ h' c = h c) : Wld g A S P Y Z h' := by
  refine ⟨fun q hq => ?_, ⟨W.2.1.1.cg (fun _ => rfl) (fun p o c r => h2 0 p o c (by decide) r), W.2.1.2.cg (fun _ => rfl) (fun p o c r => h2 1 p o c (by decide) r)⟩, W.2.2.1, W.2.2.2⟩
  rw [h1 q.1 (by rw [← bs_gK g A S P Y, ← gO_fst _ Z]; exact List.mem_map.mpr ⟨q, hq, rfl⟩)]; exact W.1 q hq
theorem LWd.cls (L : LWd g A B o f S P Y Z W h) (hW : Wld g A' S' P' Y' Z' h') (hF : CFr A S h S' h') (hA : ∀ x, x ∈ bsA A' → x ∈ bsA A) (hn : (bsA A').Nodup) : LWd g A' B o f S' P' Y' Z' W h' := by
  obtain ⟨W0, M0, ho, nA, nB, dj, oB, sS⟩ := L
  have mo : ∀ x ∈ gK (moL g B), ∃ e, h x = some e := fun x hx => by
    obtain ⟨q, hq, rfl⟩ := List.mem_map.mp hx
    exact ⟨_, M0.mem hq⟩
  refine ⟨hW, fun q hq => ?_, hF.2.1 o _ ho (fun c => (dj o c).1 rfl) (fun m p q c hm r => fun e => (sS m p q c hm r).2.1 e.symm), hn, nB, fun x hx => dj x (hA x hx), oB, fun m p q c hm r => ?_⟩
  · have k : q.1 ∈ gK (moL g B) := by rw [← gO_fst _ W]; exact List.mem_map.mpr ⟨q, hq, rfl⟩
    exact hF.2.1 q.1 q.2 (M0 q hq) (fun c => (dj q.1 c).2 k) (fun m p q' c hm r e => (sS m p q' c hm r).2.2 (e ▸ k))
  · rcases hF.1 m p q c hm r with r' | ⟨r1, r2⟩
    · exact sS m p q c hm r'
    · refine ⟨⟨fun e => r1 _ (by rw [e]; exact ho), fun e => ?_⟩, fun e => r2 _ (by rw [e]; exact ho), fun e => ?_⟩
      · obtain ⟨e', he⟩ := mo q e; exact r1 e' he
      · obtain ⟨e', he⟩ := mo c e; exact r2 e' he
theorem LWd.out (L : LWd g A B o f S P Y Z W h) (f' : Nat → Int64) : LWd g A B o f' S P Y Z W (va_up h o (some (aL g f'))) := by
  obtain ⟨W0, M0, ho, nA, nB, dj, oB, sS⟩ := L
  refine ⟨W0.cg (fun x hx => up_ne (dj x hx).1 rfl) (fun m p q c hm r => ⟨up_ne (sS m p q c hm r).1.1 rfl, up_ne (sS m p q c hm r).2.1 rfl⟩), fun q hq => ?_, up_same, nA, nB, dj, oB, sS⟩
  refine up_ne (fun e => oB ?_) (M0 q hq)
  rw [← e, ← gO_fst _ W]; exact List.mem_map.mpr ⟨q, hq, rfl⟩
theorem LWd.mod (L : LWd g A B o f S P Y Z W h) (W' : Zf) : LWd g A B o f S P Y Z W' (ov h (gO (moL g B) W')) := by
  obtain ⟨W0, M0, ho, nA, nB, dj, oB, sS⟩ := L
  have out : ∀ x, x ∉ gK (moL g B) → ov h (gO (moL g B) W') x = h x := fun x hx => ov_none (by rw [gO_fst]; exact hx)
  exact ⟨W0.cg (fun x hx => out x (dj x hx).2) (fun m p q c hm r => ⟨out q (sS m p q c hm r).1.2, out c (sS m p q c hm r).2.2⟩), gO_in nB (fun _ z => z), by rw [out o oB]; exact ho, nA, nB, dj, oB, sS⟩
theorem gO_ct : gO (bsL g A S P Y) (ct Z' Z) = gO (bsL g A S P Y) Z' := List.map_congr_left (fun q hq => by
  show (q.1, q.2.2 (ct Z' Z q.2.1)) = (q.1, q.2.2 (Z' q.2.1))
  rw [show ct Z' Z q.2.1 = Z' q.2.1 from if_pos (bs_lt q hq)])
theorem LWd.put (L : LWd g A B o f S P Y Z W h) (Z' : Zf) : LWd g A B o f S P Y (ct Z' Z) W (ov h (gO (bsL g A S P Y) Z')) := by
  have nd : (gK (bsL g A S P Y)).Nodup := L.2.2.2.1
  obtain ⟨a, b⟩ := L.1.put nd (Z' := ct Z' Z) (fun k hk => if_neg (by omega))
  rw [gO_ct] at a b
  exact L.cls a b (fun _ z => z) L.2.2.2.1
theorem LWd.nd (L : LWd g A B o f S P Y Z W h) : (gK (bsL g A S P Y)).Nodup := L.2.2.2.1
theorem LWd.md (L : LWd g A B o f S P Y Z W h) : (gK (moL g B)).Nodup := L.2.2.2.2.1
theorem LWd.at7 (L : LWd g A B o f S P Y Z W h) : h (A 507) = some (.inr (10, [.ref (A 506), .int (Z 507 1), .int (Z 507 2), .ref (A 30), .ref (A 140), .ref (A 300), .ref (A 400), .int (Z 507 7), .ref (A 500), .ref (A 502), .ref (A 227), .ref (A 504), .ref (A 505)])) := L.1.1.at (i := 29) rfl
theorem LWd.atB (L : LWd g A B o f S P Y Z W h) : ∃ fs, h (B 100) = some (.inr (11, fs)) := ⟨_, L.2.1.at (i := 0) rfl⟩
theorem A1_bs (A : Nat → Nat) : bsA (A1 A) = bsA A := rfl
theorem A2_bs (A : Nat → Nat) : (bsA (A2 A)).Perm (bsA A) := by
  have e1 : bsA A = (bsA A).take 29 ++ (((bsA A).drop 29).take 37 ++ (bsA A).drop 66) := rfl
  have e2 : bsA (A2 A) = (bsA A).drop 66 ++ (((bsA A).drop 29).take 37 ++ (bsA A).take 29) := rfl
  rw [e2]
  refine List.Perm.trans ?_ (List.Perm.of_eq e1.symm)
  refine List.perm_append_comm.trans ?_
  rw [List.append_assoc]
  exact (List.perm_append_comm (l₁ := ((bsA A).drop 29).take 37) (l₂ := (bsA A).take 29 ++ (bsA A).drop 66)).trans (by rw [List.append_assoc]; exact List.Perm.append_left _ List.perm_append_comm)
end
