section SGLD
theorem dLW_0 : decode cL_law 0 = .ok (.new 8, 3) := by decide +kernel
theorem dLW_3 : decode cL_law 3 = .ok (.dup, 1) := by decide +kernel
theorem dLW_4 : decode cL_law 4 = .ok (.invokespecial 22, 3) := by decide +kernel
theorem dLW_7 : decode cL_law 7 = .ok (.astore_n 1, 1) := by decide +kernel
theorem dLW_8 : decode cL_law 8 = .ok (.new 23, 3) := by decide +kernel
theorem dLW_11 : decode cL_law 11 = .ok (.dup, 1) := by decide +kernel
theorem dLW_12 : decode cL_law 12 = .ok (.invokespecial 25, 3) := by decide +kernel
theorem dLW_15 : decode cL_law 15 = .ok (.astore_n 2, 1) := by decide +kernel
theorem dLW_16 : decode cL_law 16 = .ok (.iconst 1, 1) := by decide +kernel
theorem dLW_17 : decode cL_law 17 = .ok (.newarray .long, 2) := by decide +kernel
theorem dLW_19 : decode cL_law 19 = .ok (.astore_n 3, 1) := by decide +kernel
theorem dLW_20 : decode cL_law 20 = .ok (.iconst 0, 1) := by decide +kernel
theorem dLW_21 : decode cL_law 21 = .ok (.istore 4, 2) := by decide +kernel
theorem dLW_23 : decode cL_law 23 = .ok (.iload 4, 2) := by decide +kernel
theorem dLW_25 : decode cL_law 25 = .ok (.aload_n 0, 1) := by decide +kernel
theorem dLW_26 : decode cL_law 26 = .ok (.arraylength, 1) := by decide +kernel
theorem dLW_27 : decode cL_law 27 = .ok (.bipush 6, 2) := by decide +kernel
theorem dLW_29 : decode cL_law 29 = .ok (.isub, 1) := by decide +kernel
theorem dLW_30 : decode cL_law 30 = .ok (.if_icmp .gt 1433, 3) := by decide +kernel
theorem dLW_33 : decode cL_law 33 = .ok (.aload_n 0, 1) := by decide +kernel
theorem dLW_34 : decode cL_law 34 = .ok (.iload 4, 2) := by decide +kernel
theorem dLW_36 : decode cL_law 36 = .ok (.iaload, 1) := by decide +kernel
theorem dLW_37 : decode cL_law 37 = .ok (.bipush 63, 2) := by decide +kernel
theorem dLW_39 : decode cL_law 39 = .ok (.iand, 1) := by decide +kernel
theorem dLW_40 : decode cL_law 40 = .ok (.tableswitch 1417 0 35 #[160, 233, 258, 271, 284, 352, 444, 481, 530, 591, 616, 641, 714, 727, 740, 808, 845, 882, 907, 932, 957, 994, 1019, 1068, 1093, 1142, 1167, 1192, 1217, 1254, 1267, 1304, 1317, 1342, 1367, 1392], 160) := by decide +kernel
theorem dLW_200 : decode cL_law 200 = .ok (.aload_n 1, 1) := by decide +kernel
theorem dLW_201 : decode cL_law 201 = .ok (.aload_n 0, 1) := by decide +kernel
theorem dLW_202 : decode cL_law 202 = .ok (.iload 4, 2) := by decide +kernel
theorem dLW_204 : decode cL_law 204 = .ok (.iconst 1, 1) := by decide +kernel
theorem dLW_205 : decode cL_law 205 = .ok (.iadd, 1) := by decide +kernel
theorem dLW_206 : decode cL_law 206 = .ok (.iaload, 1) := by decide +kernel
theorem dLW_207 : decode cL_law 207 = .ok (.aload_n 0, 1) := by decide +kernel
theorem dLW_208 : decode cL_law 208 = .ok (.iload 4, 2) := by decide +kernel
theorem dLW_210 : decode cL_law 210 = .ok (.iconst 2, 1) := by decide +kernel
theorem dLW_211 : decode cL_law 211 = .ok (.iadd, 1) := by decide +kernel
theorem dLW_212 : decode cL_law 212 = .ok (.iaload, 1) := by decide +kernel
theorem dLW_213 : decode cL_law 213 = .ok (.aload_n 0, 1) := by decide +kernel
theorem dLW_214 : decode cL_law 214 = .ok (.iload 4, 2) := by decide +kernel
theorem dLW_216 : decode cL_law 216 = .ok (.iconst 3, 1) := by decide +kernel
theorem dLW_217 : decode cL_law 217 = .ok (.iadd, 1) := by decide +kernel
theorem dLW_218 : decode cL_law 218 = .ok (.iaload, 1) := by decide +kernel
theorem dLW_219 : decode cL_law 219 = .ok (.aload_n 0, 1) := by decide +kernel
theorem dLW_220 : decode cL_law 220 = .ok (.iload 4, 2) := by decide +kernel
theorem dLW_222 : decode cL_law 222 = .ok (.iconst 4, 1) := by decide +kernel
theorem dLW_223 : decode cL_law 223 = .ok (.iadd, 1) := by decide +kernel
theorem dLW_224 : decode cL_law 224 = .ok (.iaload, 1) := by decide +kernel
theorem dLW_225 : decode cL_law 225 = .ok (.aload_n 0, 1) := by decide +kernel
theorem dLW_226 : decode cL_law 226 = .ok (.iload 4, 2) := by decide +kernel
theorem dLW_228 : decode cL_law 228 = .ok (.iconst 5, 1) := by decide +kernel
theorem dLW_229 : decode cL_law 229 = .ok (.iadd, 1) := by decide +kernel
theorem dLW_230 : decode cL_law 230 = .ok (.iaload, 1) := by decide +kernel
theorem dLW_231 : decode cL_law 231 = .ok (.invokevirtual 26, 3) := by decide +kernel
theorem dLW_234 : decode cL_law 234 = .ok (.aload_n 2, 1) := by decide +kernel
theorem dLW_235 : decode cL_law 235 = .ok (.aload_n 0, 1) := by decide +kernel
theorem dLW_236 : decode cL_law 236 = .ok (.iload 4, 2) := by decide +kernel
theorem dLW_238 : decode cL_law 238 = .ok (.iconst 1, 1) := by decide +kernel
theorem dLW_239 : decode cL_law 239 = .ok (.iadd, 1) := by decide +kernel
theorem dLW_240 : decode cL_law 240 = .ok (.iaload, 1) := by decide +kernel
theorem dLW_241 : decode cL_law 241 = .ok (.aload_n 0, 1) := by decide +kernel
theorem dLW_242 : decode cL_law 242 = .ok (.iload 4, 2) := by decide +kernel
theorem dLW_244 : decode cL_law 244 = .ok (.iconst 2, 1) := by decide +kernel
theorem dLW_245 : decode cL_law 245 = .ok (.iadd, 1) := by decide +kernel
theorem dLW_246 : decode cL_law 246 = .ok (.iaload, 1) := by decide +kernel
theorem dLW_247 : decode cL_law 247 = .ok (.aload_n 0, 1) := by decide +kernel
theorem dLW_248 : decode cL_law 248 = .ok (.iload 4, 2) := by decide +kernel
theorem dLW_250 : decode cL_law 250 = .ok (.iconst 3, 1) := by decide +kernel
theorem dLW_251 : decode cL_law 251 = .ok (.iadd, 1) := by decide +kernel
theorem dLW_252 : decode cL_law 252 = .ok (.iaload, 1) := by decide +kernel
theorem dLW_253 : decode cL_law 253 = .ok (.aload_n 0, 1) := by decide +kernel
theorem dLW_254 : decode cL_law 254 = .ok (.iload 4, 2) := by decide +kernel
theorem dLW_256 : decode cL_law 256 = .ok (.iconst 4, 1) := by decide +kernel
theorem dLW_257 : decode cL_law 257 = .ok (.iadd, 1) := by decide +kernel
theorem dLW_258 : decode cL_law 258 = .ok (.iaload, 1) := by decide +kernel
theorem dLW_259 : decode cL_law 259 = .ok (.aload_n 0, 1) := by decide +kernel
theorem dLW_260 : decode cL_law 260 = .ok (.iload 4, 2) := by decide +kernel
theorem dLW_262 : decode cL_law 262 = .ok (.iconst 5, 1) := by decide +kernel
theorem dLW_263 : decode cL_law 263 = .ok (.iadd, 1) := by decide +kernel
theorem dLW_264 : decode cL_law 264 = .ok (.iaload, 1) := by decide +kernel
theorem dLW_265 : decode cL_law 265 = .ok (.invokevirtual 30, 3) := by decide +kernel
theorem dLW_268 : decode cL_law 268 = .ok (.if_icmp .eq 1189, 3) := by decide +kernel
theorem dLW_271 : decode cL_law 271 = .ok (.iconst 0, 1) := by decide +kernel
theorem dLW_272 : decode cL_law 272 = .ok (.ireturn, 1) := by decide +kernel
theorem dLW_273 : decode cL_law 273 = .ok (.aload_n 1, 1) := by decide +kernel
theorem dLW_274 : decode cL_law 274 = .ok (.aload_n 0, 1) := by decide +kernel
theorem dLW_275 : decode cL_law 275 = .ok (.iload 4, 2) := by decide +kernel
theorem dLW_277 : decode cL_law 277 = .ok (.iconst 1, 1) := by decide +kernel
theorem dLW_278 : decode cL_law 278 = .ok (.iadd, 1) := by decide +kernel
theorem dLW_279 : decode cL_law 279 = .ok (.iaload, 1) := by decide +kernel
theorem dLW_280 : decode cL_law 280 = .ok (.invokevirtual 31, 3) := by decide +kernel
theorem dLW_283 : decode cL_law 283 = .ok (.aload_n 2, 1) := by decide +kernel
theorem dLW_284 : decode cL_law 284 = .ok (.aload_n 0, 1) := by decide +kernel
theorem dLW_285 : decode cL_law 285 = .ok (.iload 4, 2) := by decide +kernel
theorem dLW_287 : decode cL_law 287 = .ok (.iconst 1, 1) := by decide +kernel
theorem dLW_288 : decode cL_law 288 = .ok (.iadd, 1) := by decide +kernel
theorem dLW_289 : decode cL_law 289 = .ok (.iaload, 1) := by decide +kernel
theorem dLW_290 : decode cL_law 290 = .ok (.invokevirtual 35, 3) := by decide +kernel
theorem dLW_293 : decode cL_law 293 = .ok (.if_icmp .eq 1164, 3) := by decide +kernel
theorem dLW_296 : decode cL_law 296 = .ok (.iconst 0, 1) := by decide +kernel
theorem dLW_297 : decode cL_law 297 = .ok (.ireturn, 1) := by decide +kernel
theorem dLW_298 : decode cL_law 298 = .ok (.aload_n 1, 1) := by decide +kernel
theorem dLW_299 : decode cL_law 299 = .ok (.invokevirtual 36, 3) := by decide +kernel
theorem dLW_302 : decode cL_law 302 = .ok (.aload_n 2, 1) := by decide +kernel
theorem dLW_303 : decode cL_law 303 = .ok (.invokevirtual 40, 3) := by decide +kernel
theorem dLW_306 : decode cL_law 306 = .ok (.if_icmp .eq 1151, 3) := by decide +kernel
theorem dLW_309 : decode cL_law 309 = .ok (.iconst 0, 1) := by decide +kernel
theorem dLW_310 : decode cL_law 310 = .ok (.ireturn, 1) := by decide +kernel
theorem dLW_311 : decode cL_law 311 = .ok (.aload_n 1, 1) := by decide +kernel
theorem dLW_312 : decode cL_law 312 = .ok (.invokevirtual 41, 3) := by decide +kernel
theorem dLW_315 : decode cL_law 315 = .ok (.aload_n 2, 1) := by decide +kernel
theorem dLW_316 : decode cL_law 316 = .ok (.invokevirtual 44, 3) := by decide +kernel
theorem dLW_319 : decode cL_law 319 = .ok (.if_icmp .eq 1138, 3) := by decide +kernel
theorem dLW_322 : decode cL_law 322 = .ok (.iconst 0, 1) := by decide +kernel
theorem dLW_323 : decode cL_law 323 = .ok (.ireturn, 1) := by decide +kernel
theorem dLW_324 : decode cL_law 324 = .ok (.aload_n 1, 1) := by decide +kernel
theorem dLW_325 : decode cL_law 325 = .ok (.aload_n 0, 1) := by decide +kernel
theorem dLW_326 : decode cL_law 326 = .ok (.iload 4, 2) := by decide +kernel
theorem dLW_328 : decode cL_law 328 = .ok (.iconst 1, 1) := by decide +kernel
theorem dLW_329 : decode cL_law 329 = .ok (.iadd, 1) := by decide +kernel
theorem dLW_330 : decode cL_law 330 = .ok (.iaload, 1) := by decide +kernel
theorem dLW_331 : decode cL_law 331 = .ok (.aload_n 0, 1) := by decide +kernel
theorem dLW_332 : decode cL_law 332 = .ok (.iload 4, 2) := by decide +kernel
theorem dLW_334 : decode cL_law 334 = .ok (.iconst 2, 1) := by decide +kernel
theorem dLW_335 : decode cL_law 335 = .ok (.iadd, 1) := by decide +kernel
theorem dLW_336 : decode cL_law 336 = .ok (.iaload, 1) := by decide +kernel
theorem dLW_337 : decode cL_law 337 = .ok (.aload_n 3, 1) := by decide +kernel
theorem dLW_338 : decode cL_law 338 = .ok (.invokestatic 45, 3) := by decide +kernel
theorem dLW_341 : decode cL_law 341 = .ok (.istore 5, 2) := by decide +kernel
theorem dLW_343 : decode cL_law 343 = .ok (.aload_n 2, 1) := by decide +kernel
theorem dLW_344 : decode cL_law 344 = .ok (.aload_n 0, 1) := by decide +kernel
theorem dLW_345 : decode cL_law 345 = .ok (.iload 4, 2) := by decide +kernel
theorem dLW_347 : decode cL_law 347 = .ok (.iconst 1, 1) := by decide +kernel
theorem dLW_348 : decode cL_law 348 = .ok (.iadd, 1) := by decide +kernel
theorem dLW_349 : decode cL_law 349 = .ok (.iaload, 1) := by decide +kernel
theorem dLW_350 : decode cL_law 350 = .ok (.aload_n 0, 1) := by decide +kernel
theorem dLW_351 : decode cL_law 351 = .ok (.iload 4, 2) := by decide +kernel
theorem dLW_353 : decode cL_law 353 = .ok (.iconst 2, 1) := by decide +kernel
theorem dLW_354 : decode cL_law 354 = .ok (.iadd, 1) := by decide +kernel
theorem dLW_355 : decode cL_law 355 = .ok (.iaload, 1) := by decide +kernel
theorem dLW_356 : decode cL_law 356 = .ok (.invokevirtual 50, 3) := by decide +kernel
theorem dLW_359 : decode cL_law 359 = .ok (.istore 6, 2) := by decide +kernel
theorem dLW_361 : decode cL_law 361 = .ok (.aload_n 2, 1) := by decide +kernel
theorem dLW_362 : decode cL_law 362 = .ok (.invokevirtual 51, 3) := by decide +kernel
theorem dLW_365 : decode cL_law 365 = .ok (.iload 5, 2) := by decide +kernel
theorem dLW_367 : decode cL_law 367 = .ok (.if_icmp .eq 5, 3) := by decide +kernel
theorem dLW_370 : decode cL_law 370 = .ok (.iconst 0, 1) := by decide +kernel
theorem dLW_371 : decode cL_law 371 = .ok (.ireturn, 1) := by decide +kernel
theorem dLW_372 : decode cL_law 372 = .ok (.iload 5, 2) := by decide +kernel
theorem dLW_374 : decode cL_law 374 = .ok (.ifCond .ne 15, 3) := by decide +kernel
theorem dLW_377 : decode cL_law 377 = .ok (.aload_n 3, 1) := by decide +kernel
theorem dLW_378 : decode cL_law 378 = .ok (.iconst 0, 1) := by decide +kernel
theorem dLW_379 : decode cL_law 379 = .ok (.laload, 1) := by decide +kernel
theorem dLW_380 : decode cL_law 380 = .ok (.iload 6, 2) := by decide +kernel
theorem dLW_382 : decode cL_law 382 = .ok (.i2l, 1) := by decide +kernel
theorem dLW_383 : decode cL_law 383 = .ok (.lcmp, 1) := by decide +kernel
theorem dLW_384 : decode cL_law 384 = .ok (.ifCond .eq 5, 3) := by decide +kernel
theorem dLW_387 : decode cL_law 387 = .ok (.iconst 0, 1) := by decide +kernel
theorem dLW_388 : decode cL_law 388 = .ok (.ireturn, 1) := by decide +kernel
theorem dLW_389 : decode cL_law 389 = .ok (.goto 1068, 3) := by decide +kernel
theorem dLW_392 : decode cL_law 392 = .ok (.aload_n 1, 1) := by decide +kernel
theorem dLW_393 : decode cL_law 393 = .ok (.aload_n 0, 1) := by decide +kernel
theorem dLW_394 : decode cL_law 394 = .ok (.iload 4, 2) := by decide +kernel
theorem dLW_396 : decode cL_law 396 = .ok (.iconst 1, 1) := by decide +kernel
theorem dLW_397 : decode cL_law 397 = .ok (.iadd, 1) := by decide +kernel
theorem dLW_398 : decode cL_law 398 = .ok (.iaload, 1) := by decide +kernel
theorem dLW_399 : decode cL_law 399 = .ok (.aload_n 0, 1) := by decide +kernel
theorem dLW_400 : decode cL_law 400 = .ok (.iload 4, 2) := by decide +kernel
theorem dLW_402 : decode cL_law 402 = .ok (.iconst 2, 1) := by decide +kernel
theorem dLW_403 : decode cL_law 403 = .ok (.iadd, 1) := by decide +kernel
theorem dLW_404 : decode cL_law 404 = .ok (.iaload, 1) := by decide +kernel
theorem dLW_405 : decode cL_law 405 = .ok (.aload_n 0, 1) := by decide +kernel
theorem dLW_406 : decode cL_law 406 = .ok (.iload 4, 2) := by decide +kernel
theorem dLW_408 : decode cL_law 408 = .ok (.iconst 3, 1) := by decide +kernel
theorem dLW_409 : decode cL_law 409 = .ok (.iadd, 1) := by decide +kernel
theorem dLW_410 : decode cL_law 410 = .ok (.iaload, 1) := by decide +kernel
theorem dLW_411 : decode cL_law 411 = .ok (.aload_n 0, 1) := by decide +kernel
theorem dLW_412 : decode cL_law 412 = .ok (.iload 4, 2) := by decide +kernel
theorem dLW_414 : decode cL_law 414 = .ok (.iconst 4, 1) := by decide +kernel
theorem dLW_415 : decode cL_law 415 = .ok (.iadd, 1) := by decide +kernel
theorem dLW_416 : decode cL_law 416 = .ok (.iaload, 1) := by decide +kernel
theorem dLW_417 : decode cL_law 417 = .ok (.aload_n 3, 1) := by decide +kernel
theorem dLW_418 : decode cL_law 418 = .ok (.invokestatic 54, 3) := by decide +kernel
theorem dLW_421 : decode cL_law 421 = .ok (.istore 5, 2) := by decide +kernel
theorem dLW_423 : decode cL_law 423 = .ok (.aload_n 2, 1) := by decide +kernel
theorem dLW_424 : decode cL_law 424 = .ok (.aload_n 0, 1) := by decide +kernel
theorem dLW_425 : decode cL_law 425 = .ok (.iload 4, 2) := by decide +kernel
theorem dLW_427 : decode cL_law 427 = .ok (.iconst 1, 1) := by decide +kernel
theorem dLW_428 : decode cL_law 428 = .ok (.iadd, 1) := by decide +kernel
theorem dLW_429 : decode cL_law 429 = .ok (.iaload, 1) := by decide +kernel
theorem dLW_430 : decode cL_law 430 = .ok (.aload_n 0, 1) := by decide +kernel
theorem dLW_431 : decode cL_law 431 = .ok (.iload 4, 2) := by decide +kernel
theorem dLW_433 : decode cL_law 433 = .ok (.iconst 2, 1) := by decide +kernel
theorem dLW_434 : decode cL_law 434 = .ok (.iadd, 1) := by decide +kernel
theorem dLW_435 : decode cL_law 435 = .ok (.iaload, 1) := by decide +kernel
theorem dLW_436 : decode cL_law 436 = .ok (.aload_n 0, 1) := by decide +kernel
theorem dLW_437 : decode cL_law 437 = .ok (.iload 4, 2) := by decide +kernel
theorem dLW_439 : decode cL_law 439 = .ok (.iconst 3, 1) := by decide +kernel
theorem dLW_440 : decode cL_law 440 = .ok (.iadd, 1) := by decide +kernel
theorem dLW_441 : decode cL_law 441 = .ok (.iaload, 1) := by decide +kernel
theorem dLW_442 : decode cL_law 442 = .ok (.aload_n 0, 1) := by decide +kernel
theorem dLW_443 : decode cL_law 443 = .ok (.iload 4, 2) := by decide +kernel
theorem dLW_445 : decode cL_law 445 = .ok (.iconst 4, 1) := by decide +kernel
theorem dLW_446 : decode cL_law 446 = .ok (.iadd, 1) := by decide +kernel
theorem dLW_447 : decode cL_law 447 = .ok (.iaload, 1) := by decide +kernel
theorem dLW_448 : decode cL_law 448 = .ok (.invokevirtual 57, 3) := by decide +kernel
theorem dLW_451 : decode cL_law 451 = .ok (.istore 6, 2) := by decide +kernel
theorem dLW_453 : decode cL_law 453 = .ok (.aload_n 2, 1) := by decide +kernel
theorem dLW_454 : decode cL_law 454 = .ok (.invokevirtual 51, 3) := by decide +kernel
theorem dLW_457 : decode cL_law 457 = .ok (.iload 5, 2) := by decide +kernel
theorem dLW_459 : decode cL_law 459 = .ok (.if_icmp .eq 5, 3) := by decide +kernel
theorem dLW_462 : decode cL_law 462 = .ok (.iconst 0, 1) := by decide +kernel
theorem dLW_463 : decode cL_law 463 = .ok (.ireturn, 1) := by decide +kernel
theorem dLW_464 : decode cL_law 464 = .ok (.iload 5, 2) := by decide +kernel
theorem dLW_466 : decode cL_law 466 = .ok (.ifCond .ne 15, 3) := by decide +kernel
theorem dLW_469 : decode cL_law 469 = .ok (.aload_n 3, 1) := by decide +kernel
theorem dLW_470 : decode cL_law 470 = .ok (.iconst 0, 1) := by decide +kernel
theorem dLW_471 : decode cL_law 471 = .ok (.laload, 1) := by decide +kernel
theorem dLW_472 : decode cL_law 472 = .ok (.iload 6, 2) := by decide +kernel
theorem dLW_474 : decode cL_law 474 = .ok (.i2l, 1) := by decide +kernel
theorem dLW_475 : decode cL_law 475 = .ok (.lcmp, 1) := by decide +kernel
theorem dLW_476 : decode cL_law 476 = .ok (.ifCond .eq 5, 3) := by decide +kernel
theorem dLW_479 : decode cL_law 479 = .ok (.iconst 0, 1) := by decide +kernel
theorem dLW_480 : decode cL_law 480 = .ok (.ireturn, 1) := by decide +kernel
theorem dLW_481 : decode cL_law 481 = .ok (.goto 976, 3) := by decide +kernel
theorem dLW_484 : decode cL_law 484 = .ok (.aload_n 1, 1) := by decide +kernel
theorem dLW_485 : decode cL_law 485 = .ok (.aload_n 0, 1) := by decide +kernel
theorem dLW_486 : decode cL_law 486 = .ok (.iload 4, 2) := by decide +kernel
theorem dLW_488 : decode cL_law 488 = .ok (.iconst 1, 1) := by decide +kernel
theorem dLW_489 : decode cL_law 489 = .ok (.iadd, 1) := by decide +kernel
theorem dLW_490 : decode cL_law 490 = .ok (.iaload, 1) := by decide +kernel
theorem dLW_491 : decode cL_law 491 = .ok (.aload_n 0, 1) := by decide +kernel
theorem dLW_492 : decode cL_law 492 = .ok (.iload 4, 2) := by decide +kernel
theorem dLW_494 : decode cL_law 494 = .ok (.iconst 2, 1) := by decide +kernel
theorem dLW_495 : decode cL_law 495 = .ok (.iadd, 1) := by decide +kernel
theorem dLW_496 : decode cL_law 496 = .ok (.iaload, 1) := by decide +kernel
theorem dLW_497 : decode cL_law 497 = .ok (.invokevirtual 58, 3) := by decide +kernel
theorem dLW_500 : decode cL_law 500 = .ok (.aload_n 2, 1) := by decide +kernel
theorem dLW_501 : decode cL_law 501 = .ok (.aload_n 0, 1) := by decide +kernel
theorem dLW_502 : decode cL_law 502 = .ok (.iload 4, 2) := by decide +kernel
theorem dLW_504 : decode cL_law 504 = .ok (.iconst 1, 1) := by decide +kernel
theorem dLW_505 : decode cL_law 505 = .ok (.iadd, 1) := by decide +kernel
theorem dLW_506 : decode cL_law 506 = .ok (.iaload, 1) := by decide +kernel
theorem dLW_507 : decode cL_law 507 = .ok (.aload_n 0, 1) := by decide +kernel
theorem dLW_508 : decode cL_law 508 = .ok (.iload 4, 2) := by decide +kernel
theorem dLW_510 : decode cL_law 510 = .ok (.iconst 2, 1) := by decide +kernel
theorem dLW_511 : decode cL_law 511 = .ok (.iadd, 1) := by decide +kernel
theorem dLW_512 : decode cL_law 512 = .ok (.iaload, 1) := by decide +kernel
theorem dLW_513 : decode cL_law 513 = .ok (.invokevirtual 61, 3) := by decide +kernel
theorem dLW_516 : decode cL_law 516 = .ok (.if_icmp .eq 941, 3) := by decide +kernel
theorem dLW_519 : decode cL_law 519 = .ok (.iconst 0, 1) := by decide +kernel
theorem dLW_520 : decode cL_law 520 = .ok (.ireturn, 1) := by decide +kernel
theorem dLW_521 : decode cL_law 521 = .ok (.aload_n 1, 1) := by decide +kernel
theorem dLW_522 : decode cL_law 522 = .ok (.aload_n 0, 1) := by decide +kernel
theorem dLW_523 : decode cL_law 523 = .ok (.iload 4, 2) := by decide +kernel
theorem dLW_525 : decode cL_law 525 = .ok (.iconst 1, 1) := by decide +kernel
theorem dLW_526 : decode cL_law 526 = .ok (.iadd, 1) := by decide +kernel
theorem dLW_527 : decode cL_law 527 = .ok (.iaload, 1) := by decide +kernel
theorem dLW_528 : decode cL_law 528 = .ok (.aload_n 0, 1) := by decide +kernel
theorem dLW_529 : decode cL_law 529 = .ok (.iload 4, 2) := by decide +kernel
theorem dLW_531 : decode cL_law 531 = .ok (.iconst 2, 1) := by decide +kernel
theorem dLW_532 : decode cL_law 532 = .ok (.iadd, 1) := by decide +kernel
theorem dLW_533 : decode cL_law 533 = .ok (.iaload, 1) := by decide +kernel
theorem dLW_534 : decode cL_law 534 = .ok (.aload_n 0, 1) := by decide +kernel
theorem dLW_535 : decode cL_law 535 = .ok (.iload 4, 2) := by decide +kernel
theorem dLW_537 : decode cL_law 537 = .ok (.iconst 3, 1) := by decide +kernel
theorem dLW_538 : decode cL_law 538 = .ok (.iadd, 1) := by decide +kernel
theorem dLW_539 : decode cL_law 539 = .ok (.iaload, 1) := by decide +kernel
theorem dLW_540 : decode cL_law 540 = .ok (.invokevirtual 62, 3) := by decide +kernel
theorem dLW_543 : decode cL_law 543 = .ok (.aload_n 2, 1) := by decide +kernel
theorem dLW_544 : decode cL_law 544 = .ok (.aload_n 0, 1) := by decide +kernel
theorem dLW_545 : decode cL_law 545 = .ok (.iload 4, 2) := by decide +kernel
theorem dLW_547 : decode cL_law 547 = .ok (.iconst 1, 1) := by decide +kernel
theorem dLW_548 : decode cL_law 548 = .ok (.iadd, 1) := by decide +kernel
theorem dLW_549 : decode cL_law 549 = .ok (.iaload, 1) := by decide +kernel
theorem dLW_550 : decode cL_law 550 = .ok (.aload_n 0, 1) := by decide +kernel
theorem dLW_551 : decode cL_law 551 = .ok (.iload 4, 2) := by decide +kernel
theorem dLW_553 : decode cL_law 553 = .ok (.iconst 2, 1) := by decide +kernel
theorem dLW_554 : decode cL_law 554 = .ok (.iadd, 1) := by decide +kernel
theorem dLW_555 : decode cL_law 555 = .ok (.iaload, 1) := by decide +kernel
theorem dLW_556 : decode cL_law 556 = .ok (.aload_n 0, 1) := by decide +kernel
theorem dLW_557 : decode cL_law 557 = .ok (.iload 4, 2) := by decide +kernel
theorem dLW_559 : decode cL_law 559 = .ok (.iconst 3, 1) := by decide +kernel
theorem dLW_560 : decode cL_law 560 = .ok (.iadd, 1) := by decide +kernel
theorem dLW_561 : decode cL_law 561 = .ok (.iaload, 1) := by decide +kernel
theorem dLW_562 : decode cL_law 562 = .ok (.invokevirtual 66, 3) := by decide +kernel
theorem dLW_565 : decode cL_law 565 = .ok (.if_icmp .eq 892, 3) := by decide +kernel
theorem dLW_568 : decode cL_law 568 = .ok (.iconst 0, 1) := by decide +kernel
theorem dLW_569 : decode cL_law 569 = .ok (.ireturn, 1) := by decide +kernel
theorem dLW_570 : decode cL_law 570 = .ok (.aload_n 1, 1) := by decide +kernel
theorem dLW_571 : decode cL_law 571 = .ok (.aload_n 0, 1) := by decide +kernel
theorem dLW_572 : decode cL_law 572 = .ok (.iload 4, 2) := by decide +kernel
theorem dLW_574 : decode cL_law 574 = .ok (.iconst 1, 1) := by decide +kernel
theorem dLW_575 : decode cL_law 575 = .ok (.iadd, 1) := by decide +kernel
theorem dLW_576 : decode cL_law 576 = .ok (.iaload, 1) := by decide +kernel
theorem dLW_577 : decode cL_law 577 = .ok (.aload_n 0, 1) := by decide +kernel
theorem dLW_578 : decode cL_law 578 = .ok (.iload 4, 2) := by decide +kernel
theorem dLW_580 : decode cL_law 580 = .ok (.iconst 2, 1) := by decide +kernel
theorem dLW_581 : decode cL_law 581 = .ok (.iadd, 1) := by decide +kernel
theorem dLW_582 : decode cL_law 582 = .ok (.iaload, 1) := by decide +kernel
theorem dLW_583 : decode cL_law 583 = .ok (.aload_n 0, 1) := by decide +kernel
theorem dLW_584 : decode cL_law 584 = .ok (.iload 4, 2) := by decide +kernel
theorem dLW_586 : decode cL_law 586 = .ok (.iconst 3, 1) := by decide +kernel
theorem dLW_587 : decode cL_law 587 = .ok (.iadd, 1) := by decide +kernel
theorem dLW_588 : decode cL_law 588 = .ok (.iaload, 1) := by decide +kernel
theorem dLW_589 : decode cL_law 589 = .ok (.aload_n 0, 1) := by decide +kernel
theorem dLW_590 : decode cL_law 590 = .ok (.iload 4, 2) := by decide +kernel
theorem dLW_592 : decode cL_law 592 = .ok (.iconst 4, 1) := by decide +kernel
theorem dLW_593 : decode cL_law 593 = .ok (.iadd, 1) := by decide +kernel
theorem dLW_594 : decode cL_law 594 = .ok (.iaload, 1) := by decide +kernel
theorem dLW_595 : decode cL_law 595 = .ok (.invokevirtual 67, 3) := by decide +kernel
theorem dLW_598 : decode cL_law 598 = .ok (.aload_n 2, 1) := by decide +kernel
theorem dLW_599 : decode cL_law 599 = .ok (.aload_n 0, 1) := by decide +kernel
theorem dLW_600 : decode cL_law 600 = .ok (.iload 4, 2) := by decide +kernel
theorem dLW_602 : decode cL_law 602 = .ok (.iconst 1, 1) := by decide +kernel
theorem dLW_603 : decode cL_law 603 = .ok (.iadd, 1) := by decide +kernel
theorem dLW_604 : decode cL_law 604 = .ok (.iaload, 1) := by decide +kernel
theorem dLW_605 : decode cL_law 605 = .ok (.aload_n 0, 1) := by decide +kernel
theorem dLW_606 : decode cL_law 606 = .ok (.iload 4, 2) := by decide +kernel
theorem dLW_608 : decode cL_law 608 = .ok (.iconst 2, 1) := by decide +kernel
theorem dLW_609 : decode cL_law 609 = .ok (.iadd, 1) := by decide +kernel
theorem dLW_610 : decode cL_law 610 = .ok (.iaload, 1) := by decide +kernel
theorem dLW_611 : decode cL_law 611 = .ok (.aload_n 0, 1) := by decide +kernel
theorem dLW_612 : decode cL_law 612 = .ok (.iload 4, 2) := by decide +kernel
theorem dLW_614 : decode cL_law 614 = .ok (.iconst 3, 1) := by decide +kernel
theorem dLW_615 : decode cL_law 615 = .ok (.iadd, 1) := by decide +kernel
theorem dLW_616 : decode cL_law 616 = .ok (.iaload, 1) := by decide +kernel
theorem dLW_617 : decode cL_law 617 = .ok (.aload_n 0, 1) := by decide +kernel
theorem dLW_618 : decode cL_law 618 = .ok (.iload 4, 2) := by decide +kernel
theorem dLW_620 : decode cL_law 620 = .ok (.iconst 4, 1) := by decide +kernel
theorem dLW_621 : decode cL_law 621 = .ok (.iadd, 1) := by decide +kernel
theorem dLW_622 : decode cL_law 622 = .ok (.iaload, 1) := by decide +kernel
theorem dLW_623 : decode cL_law 623 = .ok (.invokevirtual 70, 3) := by decide +kernel
theorem dLW_626 : decode cL_law 626 = .ok (.if_icmp .eq 831, 3) := by decide +kernel
theorem dLW_629 : decode cL_law 629 = .ok (.iconst 0, 1) := by decide +kernel
theorem dLW_630 : decode cL_law 630 = .ok (.ireturn, 1) := by decide +kernel
theorem dLW_631 : decode cL_law 631 = .ok (.aload_n 1, 1) := by decide +kernel
theorem dLW_632 : decode cL_law 632 = .ok (.aload_n 0, 1) := by decide +kernel
theorem dLW_633 : decode cL_law 633 = .ok (.iload 4, 2) := by decide +kernel
theorem dLW_635 : decode cL_law 635 = .ok (.iconst 1, 1) := by decide +kernel
theorem dLW_636 : decode cL_law 636 = .ok (.iadd, 1) := by decide +kernel
theorem dLW_637 : decode cL_law 637 = .ok (.iaload, 1) := by decide +kernel
theorem dLW_638 : decode cL_law 638 = .ok (.invokevirtual 71, 3) := by decide +kernel
theorem dLW_641 : decode cL_law 641 = .ok (.aload_n 2, 1) := by decide +kernel
theorem dLW_642 : decode cL_law 642 = .ok (.aload_n 0, 1) := by decide +kernel
theorem dLW_643 : decode cL_law 643 = .ok (.iload 4, 2) := by decide +kernel
theorem dLW_645 : decode cL_law 645 = .ok (.iconst 1, 1) := by decide +kernel
theorem dLW_646 : decode cL_law 646 = .ok (.iadd, 1) := by decide +kernel
theorem dLW_647 : decode cL_law 647 = .ok (.iaload, 1) := by decide +kernel
theorem dLW_648 : decode cL_law 648 = .ok (.invokevirtual 75, 3) := by decide +kernel
theorem dLW_651 : decode cL_law 651 = .ok (.if_icmp .eq 806, 3) := by decide +kernel
theorem dLW_654 : decode cL_law 654 = .ok (.iconst 0, 1) := by decide +kernel
theorem dLW_655 : decode cL_law 655 = .ok (.ireturn, 1) := by decide +kernel
theorem dLW_656 : decode cL_law 656 = .ok (.aload_n 1, 1) := by decide +kernel
theorem dLW_657 : decode cL_law 657 = .ok (.aload_n 0, 1) := by decide +kernel
theorem dLW_658 : decode cL_law 658 = .ok (.iload 4, 2) := by decide +kernel
theorem dLW_660 : decode cL_law 660 = .ok (.iconst 1, 1) := by decide +kernel
theorem dLW_661 : decode cL_law 661 = .ok (.iadd, 1) := by decide +kernel
theorem dLW_662 : decode cL_law 662 = .ok (.iaload, 1) := by decide +kernel
theorem dLW_663 : decode cL_law 663 = .ok (.invokevirtual 76, 3) := by decide +kernel
theorem dLW_666 : decode cL_law 666 = .ok (.aload_n 2, 1) := by decide +kernel
theorem dLW_667 : decode cL_law 667 = .ok (.aload_n 0, 1) := by decide +kernel
theorem dLW_668 : decode cL_law 668 = .ok (.iload 4, 2) := by decide +kernel
theorem dLW_670 : decode cL_law 670 = .ok (.iconst 1, 1) := by decide +kernel
theorem dLW_671 : decode cL_law 671 = .ok (.iadd, 1) := by decide +kernel
theorem dLW_672 : decode cL_law 672 = .ok (.iaload, 1) := by decide +kernel
theorem dLW_673 : decode cL_law 673 = .ok (.invokevirtual 79, 3) := by decide +kernel
theorem dLW_676 : decode cL_law 676 = .ok (.if_icmp .eq 781, 3) := by decide +kernel
theorem dLW_679 : decode cL_law 679 = .ok (.iconst 0, 1) := by decide +kernel
theorem dLW_680 : decode cL_law 680 = .ok (.ireturn, 1) := by decide +kernel
theorem dLW_681 : decode cL_law 681 = .ok (.aload_n 1, 1) := by decide +kernel
theorem dLW_682 : decode cL_law 682 = .ok (.aload_n 0, 1) := by decide +kernel
theorem dLW_683 : decode cL_law 683 = .ok (.iload 4, 2) := by decide +kernel
theorem dLW_685 : decode cL_law 685 = .ok (.iconst 1, 1) := by decide +kernel
theorem dLW_686 : decode cL_law 686 = .ok (.iadd, 1) := by decide +kernel
theorem dLW_687 : decode cL_law 687 = .ok (.iaload, 1) := by decide +kernel
theorem dLW_688 : decode cL_law 688 = .ok (.aload_n 0, 1) := by decide +kernel
theorem dLW_689 : decode cL_law 689 = .ok (.iload 4, 2) := by decide +kernel
theorem dLW_691 : decode cL_law 691 = .ok (.iconst 2, 1) := by decide +kernel
theorem dLW_692 : decode cL_law 692 = .ok (.iadd, 1) := by decide +kernel
theorem dLW_693 : decode cL_law 693 = .ok (.iaload, 1) := by decide +kernel
theorem dLW_694 : decode cL_law 694 = .ok (.aload_n 0, 1) := by decide +kernel
theorem dLW_695 : decode cL_law 695 = .ok (.iload 4, 2) := by decide +kernel
theorem dLW_697 : decode cL_law 697 = .ok (.iconst 3, 1) := by decide +kernel
theorem dLW_698 : decode cL_law 698 = .ok (.iadd, 1) := by decide +kernel
theorem dLW_699 : decode cL_law 699 = .ok (.iaload, 1) := by decide +kernel
theorem dLW_700 : decode cL_law 700 = .ok (.aload_n 0, 1) := by decide +kernel
theorem dLW_701 : decode cL_law 701 = .ok (.iload 4, 2) := by decide +kernel
theorem dLW_703 : decode cL_law 703 = .ok (.iconst 4, 1) := by decide +kernel
theorem dLW_704 : decode cL_law 704 = .ok (.iadd, 1) := by decide +kernel
theorem dLW_705 : decode cL_law 705 = .ok (.iaload, 1) := by decide +kernel
theorem dLW_706 : decode cL_law 706 = .ok (.aload_n 0, 1) := by decide +kernel
theorem dLW_707 : decode cL_law 707 = .ok (.iload 4, 2) := by decide +kernel
theorem dLW_709 : decode cL_law 709 = .ok (.iconst 5, 1) := by decide +kernel
theorem dLW_710 : decode cL_law 710 = .ok (.iadd, 1) := by decide +kernel
theorem dLW_711 : decode cL_law 711 = .ok (.iaload, 1) := by decide +kernel
theorem dLW_712 : decode cL_law 712 = .ok (.invokevirtual 80, 3) := by decide +kernel
theorem dLW_715 : decode cL_law 715 = .ok (.aload_n 2, 1) := by decide +kernel
theorem dLW_716 : decode cL_law 716 = .ok (.aload_n 0, 1) := by decide +kernel
theorem dLW_717 : decode cL_law 717 = .ok (.iload 4, 2) := by decide +kernel
theorem dLW_719 : decode cL_law 719 = .ok (.iconst 1, 1) := by decide +kernel
theorem dLW_720 : decode cL_law 720 = .ok (.iadd, 1) := by decide +kernel
theorem dLW_721 : decode cL_law 721 = .ok (.iaload, 1) := by decide +kernel
theorem dLW_722 : decode cL_law 722 = .ok (.aload_n 0, 1) := by decide +kernel
theorem dLW_723 : decode cL_law 723 = .ok (.iload 4, 2) := by decide +kernel
theorem dLW_725 : decode cL_law 725 = .ok (.iconst 2, 1) := by decide +kernel
theorem dLW_726 : decode cL_law 726 = .ok (.iadd, 1) := by decide +kernel
theorem dLW_727 : decode cL_law 727 = .ok (.iaload, 1) := by decide +kernel
theorem dLW_728 : decode cL_law 728 = .ok (.aload_n 0, 1) := by decide +kernel
theorem dLW_729 : decode cL_law 729 = .ok (.iload 4, 2) := by decide +kernel
theorem dLW_731 : decode cL_law 731 = .ok (.iconst 3, 1) := by decide +kernel
theorem dLW_732 : decode cL_law 732 = .ok (.iadd, 1) := by decide +kernel
theorem dLW_733 : decode cL_law 733 = .ok (.iaload, 1) := by decide +kernel
theorem dLW_734 : decode cL_law 734 = .ok (.aload_n 0, 1) := by decide +kernel
theorem dLW_735 : decode cL_law 735 = .ok (.iload 4, 2) := by decide +kernel
theorem dLW_737 : decode cL_law 737 = .ok (.iconst 4, 1) := by decide +kernel
theorem dLW_738 : decode cL_law 738 = .ok (.iadd, 1) := by decide +kernel
theorem dLW_739 : decode cL_law 739 = .ok (.iaload, 1) := by decide +kernel
theorem dLW_740 : decode cL_law 740 = .ok (.aload_n 0, 1) := by decide +kernel
theorem dLW_741 : decode cL_law 741 = .ok (.iload 4, 2) := by decide +kernel
theorem dLW_743 : decode cL_law 743 = .ok (.iconst 5, 1) := by decide +kernel
theorem dLW_744 : decode cL_law 744 = .ok (.iadd, 1) := by decide +kernel
theorem dLW_745 : decode cL_law 745 = .ok (.iaload, 1) := by decide +kernel
theorem dLW_746 : decode cL_law 746 = .ok (.invokevirtual 83, 3) := by decide +kernel
theorem dLW_749 : decode cL_law 749 = .ok (.if_icmp .eq 708, 3) := by decide +kernel
theorem dLW_752 : decode cL_law 752 = .ok (.iconst 0, 1) := by decide +kernel
theorem dLW_753 : decode cL_law 753 = .ok (.ireturn, 1) := by decide +kernel
theorem dLW_754 : decode cL_law 754 = .ok (.aload_n 1, 1) := by decide +kernel
theorem dLW_755 : decode cL_law 755 = .ok (.invokevirtual 84, 3) := by decide +kernel
theorem dLW_758 : decode cL_law 758 = .ok (.aload_n 2, 1) := by decide +kernel
theorem dLW_759 : decode cL_law 759 = .ok (.invokevirtual 87, 3) := by decide +kernel
theorem dLW_762 : decode cL_law 762 = .ok (.if_icmp .eq 695, 3) := by decide +kernel
theorem dLW_765 : decode cL_law 765 = .ok (.iconst 0, 1) := by decide +kernel
theorem dLW_766 : decode cL_law 766 = .ok (.ireturn, 1) := by decide +kernel
theorem dLW_767 : decode cL_law 767 = .ok (.aload_n 1, 1) := by decide +kernel
theorem dLW_768 : decode cL_law 768 = .ok (.invokevirtual 88, 3) := by decide +kernel
theorem dLW_771 : decode cL_law 771 = .ok (.aload_n 2, 1) := by decide +kernel
theorem dLW_772 : decode cL_law 772 = .ok (.invokevirtual 91, 3) := by decide +kernel
theorem dLW_775 : decode cL_law 775 = .ok (.if_icmp .eq 682, 3) := by decide +kernel
theorem dLW_778 : decode cL_law 778 = .ok (.iconst 0, 1) := by decide +kernel
theorem dLW_779 : decode cL_law 779 = .ok (.ireturn, 1) := by decide +kernel
theorem dLW_780 : decode cL_law 780 = .ok (.aload_n 1, 1) := by decide +kernel
theorem dLW_781 : decode cL_law 781 = .ok (.aload_n 0, 1) := by decide +kernel
theorem dLW_782 : decode cL_law 782 = .ok (.iload 4, 2) := by decide +kernel
theorem dLW_784 : decode cL_law 784 = .ok (.iconst 1, 1) := by decide +kernel
theorem dLW_785 : decode cL_law 785 = .ok (.iadd, 1) := by decide +kernel
theorem dLW_786 : decode cL_law 786 = .ok (.iaload, 1) := by decide +kernel
theorem dLW_787 : decode cL_law 787 = .ok (.aload_n 0, 1) := by decide +kernel
theorem dLW_788 : decode cL_law 788 = .ok (.iload 4, 2) := by decide +kernel
theorem dLW_790 : decode cL_law 790 = .ok (.iconst 2, 1) := by decide +kernel
theorem dLW_791 : decode cL_law 791 = .ok (.iadd, 1) := by decide +kernel
theorem dLW_792 : decode cL_law 792 = .ok (.iaload, 1) := by decide +kernel
theorem dLW_793 : decode cL_law 793 = .ok (.aload_n 3, 1) := by decide +kernel
theorem dLW_794 : decode cL_law 794 = .ok (.invokestatic 92, 3) := by decide +kernel
theorem dLW_797 : decode cL_law 797 = .ok (.istore 5, 2) := by decide +kernel
theorem dLW_799 : decode cL_law 799 = .ok (.aload_n 2, 1) := by decide +kernel
theorem dLW_800 : decode cL_law 800 = .ok (.aload_n 0, 1) := by decide +kernel
theorem dLW_801 : decode cL_law 801 = .ok (.iload 4, 2) := by decide +kernel
theorem dLW_803 : decode cL_law 803 = .ok (.iconst 1, 1) := by decide +kernel
theorem dLW_804 : decode cL_law 804 = .ok (.iadd, 1) := by decide +kernel
theorem dLW_805 : decode cL_law 805 = .ok (.iaload, 1) := by decide +kernel
theorem dLW_806 : decode cL_law 806 = .ok (.aload_n 0, 1) := by decide +kernel
theorem dLW_807 : decode cL_law 807 = .ok (.iload 4, 2) := by decide +kernel
theorem dLW_809 : decode cL_law 809 = .ok (.iconst 2, 1) := by decide +kernel
theorem dLW_810 : decode cL_law 810 = .ok (.iadd, 1) := by decide +kernel
theorem dLW_811 : decode cL_law 811 = .ok (.iaload, 1) := by decide +kernel
theorem dLW_812 : decode cL_law 812 = .ok (.invokevirtual 94, 3) := by decide +kernel
theorem dLW_815 : decode cL_law 815 = .ok (.istore 6, 2) := by decide +kernel
theorem dLW_817 : decode cL_law 817 = .ok (.aload_n 2, 1) := by decide +kernel
theorem dLW_818 : decode cL_law 818 = .ok (.invokevirtual 51, 3) := by decide +kernel
theorem dLW_821 : decode cL_law 821 = .ok (.iload 5, 2) := by decide +kernel
theorem dLW_823 : decode cL_law 823 = .ok (.if_icmp .eq 5, 3) := by decide +kernel
theorem dLW_826 : decode cL_law 826 = .ok (.iconst 0, 1) := by decide +kernel
theorem dLW_827 : decode cL_law 827 = .ok (.ireturn, 1) := by decide +kernel
theorem dLW_828 : decode cL_law 828 = .ok (.iload 5, 2) := by decide +kernel
theorem dLW_830 : decode cL_law 830 = .ok (.ifCond .ne 15, 3) := by decide +kernel
theorem dLW_833 : decode cL_law 833 = .ok (.aload_n 3, 1) := by decide +kernel
theorem dLW_834 : decode cL_law 834 = .ok (.iconst 0, 1) := by decide +kernel
theorem dLW_835 : decode cL_law 835 = .ok (.laload, 1) := by decide +kernel
theorem dLW_836 : decode cL_law 836 = .ok (.iload 6, 2) := by decide +kernel
theorem dLW_838 : decode cL_law 838 = .ok (.i2l, 1) := by decide +kernel
theorem dLW_839 : decode cL_law 839 = .ok (.lcmp, 1) := by decide +kernel
theorem dLW_840 : decode cL_law 840 = .ok (.ifCond .eq 5, 3) := by decide +kernel
theorem dLW_843 : decode cL_law 843 = .ok (.iconst 0, 1) := by decide +kernel
theorem dLW_844 : decode cL_law 844 = .ok (.ireturn, 1) := by decide +kernel
theorem dLW_845 : decode cL_law 845 = .ok (.goto 612, 3) := by decide +kernel
theorem dLW_848 : decode cL_law 848 = .ok (.aload_n 1, 1) := by decide +kernel
theorem dLW_849 : decode cL_law 849 = .ok (.aload_n 0, 1) := by decide +kernel
theorem dLW_850 : decode cL_law 850 = .ok (.iload 4, 2) := by decide +kernel
theorem dLW_852 : decode cL_law 852 = .ok (.iconst 1, 1) := by decide +kernel
theorem dLW_853 : decode cL_law 853 = .ok (.iadd, 1) := by decide +kernel
theorem dLW_854 : decode cL_law 854 = .ok (.iaload, 1) := by decide +kernel
theorem dLW_855 : decode cL_law 855 = .ok (.aload_n 0, 1) := by decide +kernel
theorem dLW_856 : decode cL_law 856 = .ok (.iload 4, 2) := by decide +kernel
theorem dLW_858 : decode cL_law 858 = .ok (.iconst 2, 1) := by decide +kernel
theorem dLW_859 : decode cL_law 859 = .ok (.iadd, 1) := by decide +kernel
theorem dLW_860 : decode cL_law 860 = .ok (.iaload, 1) := by decide +kernel
theorem dLW_861 : decode cL_law 861 = .ok (.invokevirtual 95, 3) := by decide +kernel
theorem dLW_864 : decode cL_law 864 = .ok (.aload_n 2, 1) := by decide +kernel
theorem dLW_865 : decode cL_law 865 = .ok (.aload_n 0, 1) := by decide +kernel
theorem dLW_866 : decode cL_law 866 = .ok (.iload 4, 2) := by decide +kernel
theorem dLW_868 : decode cL_law 868 = .ok (.iconst 1, 1) := by decide +kernel
theorem dLW_869 : decode cL_law 869 = .ok (.iadd, 1) := by decide +kernel
theorem dLW_870 : decode cL_law 870 = .ok (.iaload, 1) := by decide +kernel
theorem dLW_871 : decode cL_law 871 = .ok (.aload_n 0, 1) := by decide +kernel
theorem dLW_872 : decode cL_law 872 = .ok (.iload 4, 2) := by decide +kernel
theorem dLW_874 : decode cL_law 874 = .ok (.iconst 2, 1) := by decide +kernel
theorem dLW_875 : decode cL_law 875 = .ok (.iadd, 1) := by decide +kernel
theorem dLW_876 : decode cL_law 876 = .ok (.iaload, 1) := by decide +kernel
theorem dLW_877 : decode cL_law 877 = .ok (.invokevirtual 98, 3) := by decide +kernel
theorem dLW_880 : decode cL_law 880 = .ok (.if_icmp .eq 577, 3) := by decide +kernel
theorem dLW_883 : decode cL_law 883 = .ok (.iconst 0, 1) := by decide +kernel
theorem dLW_884 : decode cL_law 884 = .ok (.ireturn, 1) := by decide +kernel
theorem dLW_885 : decode cL_law 885 = .ok (.aload_n 1, 1) := by decide +kernel
theorem dLW_886 : decode cL_law 886 = .ok (.aload_n 0, 1) := by decide +kernel
theorem dLW_887 : decode cL_law 887 = .ok (.iload 4, 2) := by decide +kernel
theorem dLW_889 : decode cL_law 889 = .ok (.iconst 1, 1) := by decide +kernel
theorem dLW_890 : decode cL_law 890 = .ok (.iadd, 1) := by decide +kernel
theorem dLW_891 : decode cL_law 891 = .ok (.iaload, 1) := by decide +kernel
theorem dLW_892 : decode cL_law 892 = .ok (.aload_n 0, 1) := by decide +kernel
theorem dLW_893 : decode cL_law 893 = .ok (.iload 4, 2) := by decide +kernel
theorem dLW_895 : decode cL_law 895 = .ok (.iconst 2, 1) := by decide +kernel
theorem dLW_896 : decode cL_law 896 = .ok (.iadd, 1) := by decide +kernel
theorem dLW_897 : decode cL_law 897 = .ok (.iaload, 1) := by decide +kernel
theorem dLW_898 : decode cL_law 898 = .ok (.invokevirtual 99, 3) := by decide +kernel
theorem dLW_901 : decode cL_law 901 = .ok (.aload_n 2, 1) := by decide +kernel
theorem dLW_902 : decode cL_law 902 = .ok (.aload_n 0, 1) := by decide +kernel
theorem dLW_903 : decode cL_law 903 = .ok (.iload 4, 2) := by decide +kernel
theorem dLW_905 : decode cL_law 905 = .ok (.iconst 1, 1) := by decide +kernel
theorem dLW_906 : decode cL_law 906 = .ok (.iadd, 1) := by decide +kernel
theorem dLW_907 : decode cL_law 907 = .ok (.iaload, 1) := by decide +kernel
theorem dLW_908 : decode cL_law 908 = .ok (.aload_n 0, 1) := by decide +kernel
theorem dLW_909 : decode cL_law 909 = .ok (.iload 4, 2) := by decide +kernel
theorem dLW_911 : decode cL_law 911 = .ok (.iconst 2, 1) := by decide +kernel
theorem dLW_912 : decode cL_law 912 = .ok (.iadd, 1) := by decide +kernel
theorem dLW_913 : decode cL_law 913 = .ok (.iaload, 1) := by decide +kernel
theorem dLW_914 : decode cL_law 914 = .ok (.invokevirtual 102, 3) := by decide +kernel
theorem dLW_917 : decode cL_law 917 = .ok (.if_icmp .eq 540, 3) := by decide +kernel
theorem dLW_920 : decode cL_law 920 = .ok (.iconst 0, 1) := by decide +kernel
theorem dLW_921 : decode cL_law 921 = .ok (.ireturn, 1) := by decide +kernel
theorem dLW_922 : decode cL_law 922 = .ok (.aload_n 1, 1) := by decide +kernel
theorem dLW_923 : decode cL_law 923 = .ok (.aload_n 0, 1) := by decide +kernel
theorem dLW_924 : decode cL_law 924 = .ok (.iload 4, 2) := by decide +kernel
theorem dLW_926 : decode cL_law 926 = .ok (.iconst 1, 1) := by decide +kernel
theorem dLW_927 : decode cL_law 927 = .ok (.iadd, 1) := by decide +kernel
theorem dLW_928 : decode cL_law 928 = .ok (.iaload, 1) := by decide +kernel
theorem dLW_929 : decode cL_law 929 = .ok (.invokevirtual 103, 3) := by decide +kernel
theorem dLW_932 : decode cL_law 932 = .ok (.aload_n 2, 1) := by decide +kernel
theorem dLW_933 : decode cL_law 933 = .ok (.aload_n 0, 1) := by decide +kernel
theorem dLW_934 : decode cL_law 934 = .ok (.iload 4, 2) := by decide +kernel
theorem dLW_936 : decode cL_law 936 = .ok (.iconst 1, 1) := by decide +kernel
theorem dLW_937 : decode cL_law 937 = .ok (.iadd, 1) := by decide +kernel
theorem dLW_938 : decode cL_law 938 = .ok (.iaload, 1) := by decide +kernel
theorem dLW_939 : decode cL_law 939 = .ok (.invokevirtual 106, 3) := by decide +kernel
theorem dLW_942 : decode cL_law 942 = .ok (.if_icmp .eq 515, 3) := by decide +kernel
theorem dLW_945 : decode cL_law 945 = .ok (.iconst 0, 1) := by decide +kernel
theorem dLW_946 : decode cL_law 946 = .ok (.ireturn, 1) := by decide +kernel
theorem dLW_947 : decode cL_law 947 = .ok (.aload_n 1, 1) := by decide +kernel
theorem dLW_948 : decode cL_law 948 = .ok (.aload_n 0, 1) := by decide +kernel
theorem dLW_949 : decode cL_law 949 = .ok (.iload 4, 2) := by decide +kernel
theorem dLW_951 : decode cL_law 951 = .ok (.iconst 1, 1) := by decide +kernel
theorem dLW_952 : decode cL_law 952 = .ok (.iadd, 1) := by decide +kernel
theorem dLW_953 : decode cL_law 953 = .ok (.iaload, 1) := by decide +kernel
theorem dLW_954 : decode cL_law 954 = .ok (.invokevirtual 107, 3) := by decide +kernel
theorem dLW_957 : decode cL_law 957 = .ok (.aload_n 2, 1) := by decide +kernel
theorem dLW_958 : decode cL_law 958 = .ok (.aload_n 0, 1) := by decide +kernel
theorem dLW_959 : decode cL_law 959 = .ok (.iload 4, 2) := by decide +kernel
theorem dLW_961 : decode cL_law 961 = .ok (.iconst 1, 1) := by decide +kernel
theorem dLW_962 : decode cL_law 962 = .ok (.iadd, 1) := by decide +kernel
theorem dLW_963 : decode cL_law 963 = .ok (.iaload, 1) := by decide +kernel
theorem dLW_964 : decode cL_law 964 = .ok (.invokevirtual 110, 3) := by decide +kernel
theorem dLW_967 : decode cL_law 967 = .ok (.if_icmp .eq 490, 3) := by decide +kernel
theorem dLW_970 : decode cL_law 970 = .ok (.iconst 0, 1) := by decide +kernel
theorem dLW_971 : decode cL_law 971 = .ok (.ireturn, 1) := by decide +kernel
theorem dLW_972 : decode cL_law 972 = .ok (.aload_n 1, 1) := by decide +kernel
theorem dLW_973 : decode cL_law 973 = .ok (.aload_n 0, 1) := by decide +kernel
theorem dLW_974 : decode cL_law 974 = .ok (.iload 4, 2) := by decide +kernel
theorem dLW_976 : decode cL_law 976 = .ok (.iconst 1, 1) := by decide +kernel
theorem dLW_977 : decode cL_law 977 = .ok (.iadd, 1) := by decide +kernel
theorem dLW_978 : decode cL_law 978 = .ok (.iaload, 1) := by decide +kernel
theorem dLW_979 : decode cL_law 979 = .ok (.invokevirtual 111, 3) := by decide +kernel
theorem dLW_982 : decode cL_law 982 = .ok (.aload_n 2, 1) := by decide +kernel
theorem dLW_983 : decode cL_law 983 = .ok (.aload_n 0, 1) := by decide +kernel
theorem dLW_984 : decode cL_law 984 = .ok (.iload 4, 2) := by decide +kernel
theorem dLW_986 : decode cL_law 986 = .ok (.iconst 1, 1) := by decide +kernel
theorem dLW_987 : decode cL_law 987 = .ok (.iadd, 1) := by decide +kernel
theorem dLW_988 : decode cL_law 988 = .ok (.iaload, 1) := by decide +kernel
theorem dLW_989 : decode cL_law 989 = .ok (.invokevirtual 114, 3) := by decide +kernel
theorem dLW_992 : decode cL_law 992 = .ok (.if_icmp .eq 465, 3) := by decide +kernel
theorem dLW_995 : decode cL_law 995 = .ok (.iconst 0, 1) := by decide +kernel
theorem dLW_996 : decode cL_law 996 = .ok (.ireturn, 1) := by decide +kernel
theorem dLW_997 : decode cL_law 997 = .ok (.aload_n 1, 1) := by decide +kernel
theorem dLW_998 : decode cL_law 998 = .ok (.aload_n 0, 1) := by decide +kernel
theorem dLW_999 : decode cL_law 999 = .ok (.iload 4, 2) := by decide +kernel
theorem dLW_1001 : decode cL_law 1001 = .ok (.iconst 1, 1) := by decide +kernel
theorem dLW_1002 : decode cL_law 1002 = .ok (.iadd, 1) := by decide +kernel
theorem dLW_1003 : decode cL_law 1003 = .ok (.iaload, 1) := by decide +kernel
theorem dLW_1004 : decode cL_law 1004 = .ok (.aload_n 0, 1) := by decide +kernel
theorem dLW_1005 : decode cL_law 1005 = .ok (.iload 4, 2) := by decide +kernel
theorem dLW_1007 : decode cL_law 1007 = .ok (.iconst 2, 1) := by decide +kernel
theorem dLW_1008 : decode cL_law 1008 = .ok (.iadd, 1) := by decide +kernel
theorem dLW_1009 : decode cL_law 1009 = .ok (.iaload, 1) := by decide +kernel
theorem dLW_1010 : decode cL_law 1010 = .ok (.invokevirtual 115, 3) := by decide +kernel
theorem dLW_1013 : decode cL_law 1013 = .ok (.aload_n 2, 1) := by decide +kernel
theorem dLW_1014 : decode cL_law 1014 = .ok (.aload_n 0, 1) := by decide +kernel
theorem dLW_1015 : decode cL_law 1015 = .ok (.iload 4, 2) := by decide +kernel
theorem dLW_1017 : decode cL_law 1017 = .ok (.iconst 1, 1) := by decide +kernel
theorem dLW_1018 : decode cL_law 1018 = .ok (.iadd, 1) := by decide +kernel
theorem dLW_1019 : decode cL_law 1019 = .ok (.iaload, 1) := by decide +kernel
theorem dLW_1020 : decode cL_law 1020 = .ok (.aload_n 0, 1) := by decide +kernel
theorem dLW_1021 : decode cL_law 1021 = .ok (.iload 4, 2) := by decide +kernel
theorem dLW_1023 : decode cL_law 1023 = .ok (.iconst 2, 1) := by decide +kernel
theorem dLW_1024 : decode cL_law 1024 = .ok (.iadd, 1) := by decide +kernel
theorem dLW_1025 : decode cL_law 1025 = .ok (.iaload, 1) := by decide +kernel
theorem dLW_1026 : decode cL_law 1026 = .ok (.invokevirtual 118, 3) := by decide +kernel
theorem dLW_1029 : decode cL_law 1029 = .ok (.if_icmp .eq 428, 3) := by decide +kernel
theorem dLW_1032 : decode cL_law 1032 = .ok (.iconst 0, 1) := by decide +kernel
theorem dLW_1033 : decode cL_law 1033 = .ok (.ireturn, 1) := by decide +kernel
theorem dLW_1034 : decode cL_law 1034 = .ok (.aload_n 1, 1) := by decide +kernel
theorem dLW_1035 : decode cL_law 1035 = .ok (.aload_n 0, 1) := by decide +kernel
theorem dLW_1036 : decode cL_law 1036 = .ok (.iload 4, 2) := by decide +kernel
theorem dLW_1038 : decode cL_law 1038 = .ok (.iconst 1, 1) := by decide +kernel
theorem dLW_1039 : decode cL_law 1039 = .ok (.iadd, 1) := by decide +kernel
theorem dLW_1040 : decode cL_law 1040 = .ok (.iaload, 1) := by decide +kernel
theorem dLW_1041 : decode cL_law 1041 = .ok (.invokevirtual 119, 3) := by decide +kernel
theorem dLW_1044 : decode cL_law 1044 = .ok (.aload_n 2, 1) := by decide +kernel
theorem dLW_1045 : decode cL_law 1045 = .ok (.aload_n 0, 1) := by decide +kernel
theorem dLW_1046 : decode cL_law 1046 = .ok (.iload 4, 2) := by decide +kernel
theorem dLW_1048 : decode cL_law 1048 = .ok (.iconst 1, 1) := by decide +kernel
theorem dLW_1049 : decode cL_law 1049 = .ok (.iadd, 1) := by decide +kernel
theorem dLW_1050 : decode cL_law 1050 = .ok (.iaload, 1) := by decide +kernel
theorem dLW_1051 : decode cL_law 1051 = .ok (.invokevirtual 122, 3) := by decide +kernel
theorem dLW_1054 : decode cL_law 1054 = .ok (.if_icmp .eq 403, 3) := by decide +kernel
theorem dLW_1057 : decode cL_law 1057 = .ok (.iconst 0, 1) := by decide +kernel
theorem dLW_1058 : decode cL_law 1058 = .ok (.ireturn, 1) := by decide +kernel
theorem dLW_1059 : decode cL_law 1059 = .ok (.aload_n 1, 1) := by decide +kernel
theorem dLW_1060 : decode cL_law 1060 = .ok (.aload_n 0, 1) := by decide +kernel
theorem dLW_1061 : decode cL_law 1061 = .ok (.iload 4, 2) := by decide +kernel
theorem dLW_1063 : decode cL_law 1063 = .ok (.iconst 1, 1) := by decide +kernel
theorem dLW_1064 : decode cL_law 1064 = .ok (.iadd, 1) := by decide +kernel
theorem dLW_1065 : decode cL_law 1065 = .ok (.iaload, 1) := by decide +kernel
theorem dLW_1066 : decode cL_law 1066 = .ok (.aload_n 0, 1) := by decide +kernel
theorem dLW_1067 : decode cL_law 1067 = .ok (.iload 4, 2) := by decide +kernel
theorem dLW_1069 : decode cL_law 1069 = .ok (.iconst 2, 1) := by decide +kernel
theorem dLW_1070 : decode cL_law 1070 = .ok (.iadd, 1) := by decide +kernel
theorem dLW_1071 : decode cL_law 1071 = .ok (.iaload, 1) := by decide +kernel
theorem dLW_1072 : decode cL_law 1072 = .ok (.aload_n 0, 1) := by decide +kernel
theorem dLW_1073 : decode cL_law 1073 = .ok (.iload 4, 2) := by decide +kernel
theorem dLW_1075 : decode cL_law 1075 = .ok (.iconst 3, 1) := by decide +kernel
theorem dLW_1076 : decode cL_law 1076 = .ok (.iadd, 1) := by decide +kernel
theorem dLW_1077 : decode cL_law 1077 = .ok (.iaload, 1) := by decide +kernel
theorem dLW_1078 : decode cL_law 1078 = .ok (.invokevirtual 123, 3) := by decide +kernel
theorem dLW_1081 : decode cL_law 1081 = .ok (.aload_n 2, 1) := by decide +kernel
theorem dLW_1082 : decode cL_law 1082 = .ok (.aload_n 0, 1) := by decide +kernel
theorem dLW_1083 : decode cL_law 1083 = .ok (.iload 4, 2) := by decide +kernel
theorem dLW_1085 : decode cL_law 1085 = .ok (.iconst 1, 1) := by decide +kernel
theorem dLW_1086 : decode cL_law 1086 = .ok (.iadd, 1) := by decide +kernel
theorem dLW_1087 : decode cL_law 1087 = .ok (.iaload, 1) := by decide +kernel
theorem dLW_1088 : decode cL_law 1088 = .ok (.aload_n 0, 1) := by decide +kernel
theorem dLW_1089 : decode cL_law 1089 = .ok (.iload 4, 2) := by decide +kernel
theorem dLW_1091 : decode cL_law 1091 = .ok (.iconst 2, 1) := by decide +kernel
theorem dLW_1092 : decode cL_law 1092 = .ok (.iadd, 1) := by decide +kernel
theorem dLW_1093 : decode cL_law 1093 = .ok (.iaload, 1) := by decide +kernel
theorem dLW_1094 : decode cL_law 1094 = .ok (.aload_n 0, 1) := by decide +kernel
theorem dLW_1095 : decode cL_law 1095 = .ok (.iload 4, 2) := by decide +kernel
theorem dLW_1097 : decode cL_law 1097 = .ok (.iconst 3, 1) := by decide +kernel
theorem dLW_1098 : decode cL_law 1098 = .ok (.iadd, 1) := by decide +kernel
theorem dLW_1099 : decode cL_law 1099 = .ok (.iaload, 1) := by decide +kernel
theorem dLW_1100 : decode cL_law 1100 = .ok (.invokevirtual 126, 3) := by decide +kernel
theorem dLW_1103 : decode cL_law 1103 = .ok (.if_icmp .eq 354, 3) := by decide +kernel
theorem dLW_1106 : decode cL_law 1106 = .ok (.iconst 0, 1) := by decide +kernel
theorem dLW_1107 : decode cL_law 1107 = .ok (.ireturn, 1) := by decide +kernel
theorem dLW_1108 : decode cL_law 1108 = .ok (.aload_n 1, 1) := by decide +kernel
theorem dLW_1109 : decode cL_law 1109 = .ok (.aload_n 0, 1) := by decide +kernel
theorem dLW_1110 : decode cL_law 1110 = .ok (.iload 4, 2) := by decide +kernel
theorem dLW_1112 : decode cL_law 1112 = .ok (.iconst 1, 1) := by decide +kernel
theorem dLW_1113 : decode cL_law 1113 = .ok (.iadd, 1) := by decide +kernel
theorem dLW_1114 : decode cL_law 1114 = .ok (.iaload, 1) := by decide +kernel
theorem dLW_1115 : decode cL_law 1115 = .ok (.invokevirtual 127, 3) := by decide +kernel
theorem dLW_1118 : decode cL_law 1118 = .ok (.aload_n 2, 1) := by decide +kernel
theorem dLW_1119 : decode cL_law 1119 = .ok (.aload_n 0, 1) := by decide +kernel
theorem dLW_1120 : decode cL_law 1120 = .ok (.iload 4, 2) := by decide +kernel
theorem dLW_1122 : decode cL_law 1122 = .ok (.iconst 1, 1) := by decide +kernel
theorem dLW_1123 : decode cL_law 1123 = .ok (.iadd, 1) := by decide +kernel
theorem dLW_1124 : decode cL_law 1124 = .ok (.iaload, 1) := by decide +kernel
theorem dLW_1125 : decode cL_law 1125 = .ok (.invokevirtual 130, 3) := by decide +kernel
theorem dLW_1128 : decode cL_law 1128 = .ok (.if_icmp .eq 329, 3) := by decide +kernel
theorem dLW_1131 : decode cL_law 1131 = .ok (.iconst 0, 1) := by decide +kernel
theorem dLW_1132 : decode cL_law 1132 = .ok (.ireturn, 1) := by decide +kernel
theorem dLW_1133 : decode cL_law 1133 = .ok (.aload_n 1, 1) := by decide +kernel
theorem dLW_1134 : decode cL_law 1134 = .ok (.aload_n 0, 1) := by decide +kernel
theorem dLW_1135 : decode cL_law 1135 = .ok (.iload 4, 2) := by decide +kernel
theorem dLW_1137 : decode cL_law 1137 = .ok (.iconst 1, 1) := by decide +kernel
theorem dLW_1138 : decode cL_law 1138 = .ok (.iadd, 1) := by decide +kernel
theorem dLW_1139 : decode cL_law 1139 = .ok (.iaload, 1) := by decide +kernel
theorem dLW_1140 : decode cL_law 1140 = .ok (.aload_n 0, 1) := by decide +kernel
theorem dLW_1141 : decode cL_law 1141 = .ok (.iload 4, 2) := by decide +kernel
theorem dLW_1143 : decode cL_law 1143 = .ok (.iconst 2, 1) := by decide +kernel
theorem dLW_1144 : decode cL_law 1144 = .ok (.iadd, 1) := by decide +kernel
theorem dLW_1145 : decode cL_law 1145 = .ok (.iaload, 1) := by decide +kernel
theorem dLW_1146 : decode cL_law 1146 = .ok (.aload_n 0, 1) := by decide +kernel
theorem dLW_1147 : decode cL_law 1147 = .ok (.iload 4, 2) := by decide +kernel
theorem dLW_1149 : decode cL_law 1149 = .ok (.iconst 3, 1) := by decide +kernel
theorem dLW_1150 : decode cL_law 1150 = .ok (.iadd, 1) := by decide +kernel
theorem dLW_1151 : decode cL_law 1151 = .ok (.iaload, 1) := by decide +kernel
theorem dLW_1152 : decode cL_law 1152 = .ok (.invokevirtual 131, 3) := by decide +kernel
theorem dLW_1155 : decode cL_law 1155 = .ok (.aload_n 2, 1) := by decide +kernel
theorem dLW_1156 : decode cL_law 1156 = .ok (.aload_n 0, 1) := by decide +kernel
theorem dLW_1157 : decode cL_law 1157 = .ok (.iload 4, 2) := by decide +kernel
theorem dLW_1159 : decode cL_law 1159 = .ok (.iconst 1, 1) := by decide +kernel
theorem dLW_1160 : decode cL_law 1160 = .ok (.iadd, 1) := by decide +kernel
theorem dLW_1161 : decode cL_law 1161 = .ok (.iaload, 1) := by decide +kernel
theorem dLW_1162 : decode cL_law 1162 = .ok (.aload_n 0, 1) := by decide +kernel
theorem dLW_1163 : decode cL_law 1163 = .ok (.iload 4, 2) := by decide +kernel
theorem dLW_1165 : decode cL_law 1165 = .ok (.iconst 2, 1) := by decide +kernel
theorem dLW_1166 : decode cL_law 1166 = .ok (.iadd, 1) := by decide +kernel
theorem dLW_1167 : decode cL_law 1167 = .ok (.iaload, 1) := by decide +kernel
theorem dLW_1168 : decode cL_law 1168 = .ok (.aload_n 0, 1) := by decide +kernel
theorem dLW_1169 : decode cL_law 1169 = .ok (.iload 4, 2) := by decide +kernel
theorem dLW_1171 : decode cL_law 1171 = .ok (.iconst 3, 1) := by decide +kernel
theorem dLW_1172 : decode cL_law 1172 = .ok (.iadd, 1) := by decide +kernel
theorem dLW_1173 : decode cL_law 1173 = .ok (.iaload, 1) := by decide +kernel
theorem dLW_1174 : decode cL_law 1174 = .ok (.invokevirtual 134, 3) := by decide +kernel
theorem dLW_1177 : decode cL_law 1177 = .ok (.if_icmp .eq 280, 3) := by decide +kernel
theorem dLW_1180 : decode cL_law 1180 = .ok (.iconst 0, 1) := by decide +kernel
theorem dLW_1181 : decode cL_law 1181 = .ok (.ireturn, 1) := by decide +kernel
theorem dLW_1182 : decode cL_law 1182 = .ok (.aload_n 1, 1) := by decide +kernel
theorem dLW_1183 : decode cL_law 1183 = .ok (.aload_n 0, 1) := by decide +kernel
theorem dLW_1184 : decode cL_law 1184 = .ok (.iload 4, 2) := by decide +kernel
theorem dLW_1186 : decode cL_law 1186 = .ok (.iconst 1, 1) := by decide +kernel
theorem dLW_1187 : decode cL_law 1187 = .ok (.iadd, 1) := by decide +kernel
theorem dLW_1188 : decode cL_law 1188 = .ok (.iaload, 1) := by decide +kernel
theorem dLW_1189 : decode cL_law 1189 = .ok (.invokevirtual 135, 3) := by decide +kernel
theorem dLW_1192 : decode cL_law 1192 = .ok (.aload_n 2, 1) := by decide +kernel
theorem dLW_1193 : decode cL_law 1193 = .ok (.aload_n 0, 1) := by decide +kernel
theorem dLW_1194 : decode cL_law 1194 = .ok (.iload 4, 2) := by decide +kernel
theorem dLW_1196 : decode cL_law 1196 = .ok (.iconst 1, 1) := by decide +kernel
theorem dLW_1197 : decode cL_law 1197 = .ok (.iadd, 1) := by decide +kernel
theorem dLW_1198 : decode cL_law 1198 = .ok (.iaload, 1) := by decide +kernel
theorem dLW_1199 : decode cL_law 1199 = .ok (.invokevirtual 138, 3) := by decide +kernel
theorem dLW_1202 : decode cL_law 1202 = .ok (.if_icmp .eq 255, 3) := by decide +kernel
theorem dLW_1205 : decode cL_law 1205 = .ok (.iconst 0, 1) := by decide +kernel
theorem dLW_1206 : decode cL_law 1206 = .ok (.ireturn, 1) := by decide +kernel
theorem dLW_1207 : decode cL_law 1207 = .ok (.aload_n 1, 1) := by decide +kernel
theorem dLW_1208 : decode cL_law 1208 = .ok (.aload_n 0, 1) := by decide +kernel
theorem dLW_1209 : decode cL_law 1209 = .ok (.iload 4, 2) := by decide +kernel
theorem dLW_1211 : decode cL_law 1211 = .ok (.iconst 1, 1) := by decide +kernel
theorem dLW_1212 : decode cL_law 1212 = .ok (.iadd, 1) := by decide +kernel
theorem dLW_1213 : decode cL_law 1213 = .ok (.iaload, 1) := by decide +kernel
theorem dLW_1214 : decode cL_law 1214 = .ok (.invokevirtual 139, 3) := by decide +kernel
theorem dLW_1217 : decode cL_law 1217 = .ok (.aload_n 2, 1) := by decide +kernel
theorem dLW_1218 : decode cL_law 1218 = .ok (.aload_n 0, 1) := by decide +kernel
theorem dLW_1219 : decode cL_law 1219 = .ok (.iload 4, 2) := by decide +kernel
theorem dLW_1221 : decode cL_law 1221 = .ok (.iconst 1, 1) := by decide +kernel
theorem dLW_1222 : decode cL_law 1222 = .ok (.iadd, 1) := by decide +kernel
theorem dLW_1223 : decode cL_law 1223 = .ok (.iaload, 1) := by decide +kernel
theorem dLW_1224 : decode cL_law 1224 = .ok (.invokevirtual 142, 3) := by decide +kernel
theorem dLW_1227 : decode cL_law 1227 = .ok (.if_icmp .eq 230, 3) := by decide +kernel
theorem dLW_1230 : decode cL_law 1230 = .ok (.iconst 0, 1) := by decide +kernel
theorem dLW_1231 : decode cL_law 1231 = .ok (.ireturn, 1) := by decide +kernel
theorem dLW_1232 : decode cL_law 1232 = .ok (.aload_n 1, 1) := by decide +kernel
theorem dLW_1233 : decode cL_law 1233 = .ok (.aload_n 0, 1) := by decide +kernel
theorem dLW_1234 : decode cL_law 1234 = .ok (.iload 4, 2) := by decide +kernel
theorem dLW_1236 : decode cL_law 1236 = .ok (.iconst 1, 1) := by decide +kernel
theorem dLW_1237 : decode cL_law 1237 = .ok (.iadd, 1) := by decide +kernel
theorem dLW_1238 : decode cL_law 1238 = .ok (.iaload, 1) := by decide +kernel
theorem dLW_1239 : decode cL_law 1239 = .ok (.invokevirtual 143, 3) := by decide +kernel
theorem dLW_1242 : decode cL_law 1242 = .ok (.aload_n 2, 1) := by decide +kernel
theorem dLW_1243 : decode cL_law 1243 = .ok (.aload_n 0, 1) := by decide +kernel
theorem dLW_1244 : decode cL_law 1244 = .ok (.iload 4, 2) := by decide +kernel
theorem dLW_1246 : decode cL_law 1246 = .ok (.iconst 1, 1) := by decide +kernel
theorem dLW_1247 : decode cL_law 1247 = .ok (.iadd, 1) := by decide +kernel
theorem dLW_1248 : decode cL_law 1248 = .ok (.iaload, 1) := by decide +kernel
theorem dLW_1249 : decode cL_law 1249 = .ok (.invokevirtual 146, 3) := by decide +kernel
theorem dLW_1252 : decode cL_law 1252 = .ok (.if_icmp .eq 205, 3) := by decide +kernel
theorem dLW_1255 : decode cL_law 1255 = .ok (.iconst 0, 1) := by decide +kernel
theorem dLW_1256 : decode cL_law 1256 = .ok (.ireturn, 1) := by decide +kernel
theorem dLW_1257 : decode cL_law 1257 = .ok (.aload_n 1, 1) := by decide +kernel
theorem dLW_1258 : decode cL_law 1258 = .ok (.aload_n 0, 1) := by decide +kernel
theorem dLW_1259 : decode cL_law 1259 = .ok (.iload 4, 2) := by decide +kernel
theorem dLW_1261 : decode cL_law 1261 = .ok (.iconst 1, 1) := by decide +kernel
theorem dLW_1262 : decode cL_law 1262 = .ok (.iadd, 1) := by decide +kernel
theorem dLW_1263 : decode cL_law 1263 = .ok (.iaload, 1) := by decide +kernel
theorem dLW_1264 : decode cL_law 1264 = .ok (.aload_n 0, 1) := by decide +kernel
theorem dLW_1265 : decode cL_law 1265 = .ok (.iload 4, 2) := by decide +kernel
theorem dLW_1267 : decode cL_law 1267 = .ok (.iconst 2, 1) := by decide +kernel
theorem dLW_1268 : decode cL_law 1268 = .ok (.iadd, 1) := by decide +kernel
theorem dLW_1269 : decode cL_law 1269 = .ok (.iaload, 1) := by decide +kernel
theorem dLW_1270 : decode cL_law 1270 = .ok (.invokevirtual 147, 3) := by decide +kernel
theorem dLW_1273 : decode cL_law 1273 = .ok (.aload_n 2, 1) := by decide +kernel
theorem dLW_1274 : decode cL_law 1274 = .ok (.aload_n 0, 1) := by decide +kernel
theorem dLW_1275 : decode cL_law 1275 = .ok (.iload 4, 2) := by decide +kernel
theorem dLW_1277 : decode cL_law 1277 = .ok (.iconst 1, 1) := by decide +kernel
theorem dLW_1278 : decode cL_law 1278 = .ok (.iadd, 1) := by decide +kernel
theorem dLW_1279 : decode cL_law 1279 = .ok (.iaload, 1) := by decide +kernel
theorem dLW_1280 : decode cL_law 1280 = .ok (.aload_n 0, 1) := by decide +kernel
theorem dLW_1281 : decode cL_law 1281 = .ok (.iload 4, 2) := by decide +kernel
theorem dLW_1283 : decode cL_law 1283 = .ok (.iconst 2, 1) := by decide +kernel
theorem dLW_1284 : decode cL_law 1284 = .ok (.iadd, 1) := by decide +kernel
theorem dLW_1285 : decode cL_law 1285 = .ok (.iaload, 1) := by decide +kernel
theorem dLW_1286 : decode cL_law 1286 = .ok (.invokevirtual 150, 3) := by decide +kernel
theorem dLW_1289 : decode cL_law 1289 = .ok (.if_icmp .eq 168, 3) := by decide +kernel
theorem dLW_1292 : decode cL_law 1292 = .ok (.iconst 0, 1) := by decide +kernel
theorem dLW_1293 : decode cL_law 1293 = .ok (.ireturn, 1) := by decide +kernel
theorem dLW_1294 : decode cL_law 1294 = .ok (.aload_n 1, 1) := by decide +kernel
theorem dLW_1295 : decode cL_law 1295 = .ok (.invokevirtual 151, 3) := by decide +kernel
theorem dLW_1298 : decode cL_law 1298 = .ok (.aload_n 2, 1) := by decide +kernel
theorem dLW_1299 : decode cL_law 1299 = .ok (.invokevirtual 154, 3) := by decide +kernel
theorem dLW_1302 : decode cL_law 1302 = .ok (.if_icmp .eq 155, 3) := by decide +kernel
theorem dLW_1305 : decode cL_law 1305 = .ok (.iconst 0, 1) := by decide +kernel
theorem dLW_1306 : decode cL_law 1306 = .ok (.ireturn, 1) := by decide +kernel
theorem dLW_1307 : decode cL_law 1307 = .ok (.aload_n 1, 1) := by decide +kernel
theorem dLW_1308 : decode cL_law 1308 = .ok (.aload_n 0, 1) := by decide +kernel
theorem dLW_1309 : decode cL_law 1309 = .ok (.iload 4, 2) := by decide +kernel
theorem dLW_1311 : decode cL_law 1311 = .ok (.iconst 1, 1) := by decide +kernel
theorem dLW_1312 : decode cL_law 1312 = .ok (.iadd, 1) := by decide +kernel
theorem dLW_1313 : decode cL_law 1313 = .ok (.iaload, 1) := by decide +kernel
theorem dLW_1314 : decode cL_law 1314 = .ok (.aload_n 0, 1) := by decide +kernel
theorem dLW_1315 : decode cL_law 1315 = .ok (.iload 4, 2) := by decide +kernel
theorem dLW_1317 : decode cL_law 1317 = .ok (.iconst 2, 1) := by decide +kernel
theorem dLW_1318 : decode cL_law 1318 = .ok (.iadd, 1) := by decide +kernel
theorem dLW_1319 : decode cL_law 1319 = .ok (.iaload, 1) := by decide +kernel
theorem dLW_1320 : decode cL_law 1320 = .ok (.invokevirtual 155, 3) := by decide +kernel
theorem dLW_1323 : decode cL_law 1323 = .ok (.aload_n 2, 1) := by decide +kernel
theorem dLW_1324 : decode cL_law 1324 = .ok (.aload_n 0, 1) := by decide +kernel
theorem dLW_1325 : decode cL_law 1325 = .ok (.iload 4, 2) := by decide +kernel
theorem dLW_1327 : decode cL_law 1327 = .ok (.iconst 1, 1) := by decide +kernel
theorem dLW_1328 : decode cL_law 1328 = .ok (.iadd, 1) := by decide +kernel
theorem dLW_1329 : decode cL_law 1329 = .ok (.iaload, 1) := by decide +kernel
theorem dLW_1330 : decode cL_law 1330 = .ok (.aload_n 0, 1) := by decide +kernel
theorem dLW_1331 : decode cL_law 1331 = .ok (.iload 4, 2) := by decide +kernel
theorem dLW_1333 : decode cL_law 1333 = .ok (.iconst 2, 1) := by decide +kernel
theorem dLW_1334 : decode cL_law 1334 = .ok (.iadd, 1) := by decide +kernel
theorem dLW_1335 : decode cL_law 1335 = .ok (.iaload, 1) := by decide +kernel
theorem dLW_1336 : decode cL_law 1336 = .ok (.invokevirtual 159, 3) := by decide +kernel
theorem dLW_1339 : decode cL_law 1339 = .ok (.if_icmp .eq 118, 3) := by decide +kernel
theorem dLW_1342 : decode cL_law 1342 = .ok (.iconst 0, 1) := by decide +kernel
theorem dLW_1343 : decode cL_law 1343 = .ok (.ireturn, 1) := by decide +kernel
theorem dLW_1344 : decode cL_law 1344 = .ok (.aload_n 1, 1) := by decide +kernel
theorem dLW_1345 : decode cL_law 1345 = .ok (.invokevirtual 160, 3) := by decide +kernel
theorem dLW_1348 : decode cL_law 1348 = .ok (.aload_n 2, 1) := by decide +kernel
theorem dLW_1349 : decode cL_law 1349 = .ok (.invokevirtual 163, 3) := by decide +kernel
theorem dLW_1352 : decode cL_law 1352 = .ok (.if_icmp .eq 105, 3) := by decide +kernel
theorem dLW_1355 : decode cL_law 1355 = .ok (.iconst 0, 1) := by decide +kernel
theorem dLW_1356 : decode cL_law 1356 = .ok (.ireturn, 1) := by decide +kernel
theorem dLW_1357 : decode cL_law 1357 = .ok (.aload_n 1, 1) := by decide +kernel
theorem dLW_1358 : decode cL_law 1358 = .ok (.aload_n 0, 1) := by decide +kernel
theorem dLW_1359 : decode cL_law 1359 = .ok (.iload 4, 2) := by decide +kernel
theorem dLW_1361 : decode cL_law 1361 = .ok (.iconst 1, 1) := by decide +kernel
theorem dLW_1362 : decode cL_law 1362 = .ok (.iadd, 1) := by decide +kernel
theorem dLW_1363 : decode cL_law 1363 = .ok (.iaload, 1) := by decide +kernel
theorem dLW_1364 : decode cL_law 1364 = .ok (.invokevirtual 164, 3) := by decide +kernel
theorem dLW_1367 : decode cL_law 1367 = .ok (.aload_n 2, 1) := by decide +kernel
theorem dLW_1368 : decode cL_law 1368 = .ok (.aload_n 0, 1) := by decide +kernel
theorem dLW_1369 : decode cL_law 1369 = .ok (.iload 4, 2) := by decide +kernel
theorem dLW_1371 : decode cL_law 1371 = .ok (.iconst 1, 1) := by decide +kernel
theorem dLW_1372 : decode cL_law 1372 = .ok (.iadd, 1) := by decide +kernel
theorem dLW_1373 : decode cL_law 1373 = .ok (.iaload, 1) := by decide +kernel
theorem dLW_1374 : decode cL_law 1374 = .ok (.invokevirtual 167, 3) := by decide +kernel
theorem dLW_1377 : decode cL_law 1377 = .ok (.if_icmp .eq 80, 3) := by decide +kernel
theorem dLW_1380 : decode cL_law 1380 = .ok (.iconst 0, 1) := by decide +kernel
theorem dLW_1381 : decode cL_law 1381 = .ok (.ireturn, 1) := by decide +kernel
theorem dLW_1382 : decode cL_law 1382 = .ok (.aload_n 1, 1) := by decide +kernel
theorem dLW_1383 : decode cL_law 1383 = .ok (.aload_n 0, 1) := by decide +kernel
theorem dLW_1384 : decode cL_law 1384 = .ok (.iload 4, 2) := by decide +kernel
theorem dLW_1386 : decode cL_law 1386 = .ok (.iconst 1, 1) := by decide +kernel
theorem dLW_1387 : decode cL_law 1387 = .ok (.iadd, 1) := by decide +kernel
theorem dLW_1388 : decode cL_law 1388 = .ok (.iaload, 1) := by decide +kernel
theorem dLW_1389 : decode cL_law 1389 = .ok (.invokevirtual 168, 3) := by decide +kernel
theorem dLW_1392 : decode cL_law 1392 = .ok (.aload_n 2, 1) := by decide +kernel
theorem dLW_1393 : decode cL_law 1393 = .ok (.aload_n 0, 1) := by decide +kernel
theorem dLW_1394 : decode cL_law 1394 = .ok (.iload 4, 2) := by decide +kernel
theorem dLW_1396 : decode cL_law 1396 = .ok (.iconst 1, 1) := by decide +kernel
theorem dLW_1397 : decode cL_law 1397 = .ok (.iadd, 1) := by decide +kernel
theorem dLW_1398 : decode cL_law 1398 = .ok (.iaload, 1) := by decide +kernel
theorem dLW_1399 : decode cL_law 1399 = .ok (.invokevirtual 171, 3) := by decide +kernel
theorem dLW_1402 : decode cL_law 1402 = .ok (.if_icmp .eq 55, 3) := by decide +kernel
theorem dLW_1405 : decode cL_law 1405 = .ok (.iconst 0, 1) := by decide +kernel
theorem dLW_1406 : decode cL_law 1406 = .ok (.ireturn, 1) := by decide +kernel
theorem dLW_1407 : decode cL_law 1407 = .ok (.aload_n 1, 1) := by decide +kernel
theorem dLW_1408 : decode cL_law 1408 = .ok (.aload_n 0, 1) := by decide +kernel
theorem dLW_1409 : decode cL_law 1409 = .ok (.iload 4, 2) := by decide +kernel
theorem dLW_1411 : decode cL_law 1411 = .ok (.iconst 1, 1) := by decide +kernel
theorem dLW_1412 : decode cL_law 1412 = .ok (.iadd, 1) := by decide +kernel
theorem dLW_1413 : decode cL_law 1413 = .ok (.iaload, 1) := by decide +kernel
theorem dLW_1414 : decode cL_law 1414 = .ok (.invokevirtual 172, 3) := by decide +kernel
theorem dLW_1417 : decode cL_law 1417 = .ok (.aload_n 2, 1) := by decide +kernel
theorem dLW_1418 : decode cL_law 1418 = .ok (.aload_n 0, 1) := by decide +kernel
theorem dLW_1419 : decode cL_law 1419 = .ok (.iload 4, 2) := by decide +kernel
theorem dLW_1421 : decode cL_law 1421 = .ok (.iconst 1, 1) := by decide +kernel
theorem dLW_1422 : decode cL_law 1422 = .ok (.iadd, 1) := by decide +kernel
theorem dLW_1423 : decode cL_law 1423 = .ok (.iaload, 1) := by decide +kernel
theorem dLW_1424 : decode cL_law 1424 = .ok (.invokevirtual 175, 3) := by decide +kernel
theorem dLW_1427 : decode cL_law 1427 = .ok (.if_icmp .eq 30, 3) := by decide +kernel
theorem dLW_1430 : decode cL_law 1430 = .ok (.iconst 0, 1) := by decide +kernel
theorem dLW_1431 : decode cL_law 1431 = .ok (.ireturn, 1) := by decide +kernel
theorem dLW_1432 : decode cL_law 1432 = .ok (.aload_n 1, 1) := by decide +kernel
theorem dLW_1433 : decode cL_law 1433 = .ok (.aload_n 0, 1) := by decide +kernel
theorem dLW_1434 : decode cL_law 1434 = .ok (.iload 4, 2) := by decide +kernel
theorem dLW_1436 : decode cL_law 1436 = .ok (.iconst 1, 1) := by decide +kernel
theorem dLW_1437 : decode cL_law 1437 = .ok (.iadd, 1) := by decide +kernel
theorem dLW_1438 : decode cL_law 1438 = .ok (.iaload, 1) := by decide +kernel
theorem dLW_1439 : decode cL_law 1439 = .ok (.invokevirtual 176, 3) := by decide +kernel
theorem dLW_1442 : decode cL_law 1442 = .ok (.aload_n 2, 1) := by decide +kernel
theorem dLW_1443 : decode cL_law 1443 = .ok (.aload_n 0, 1) := by decide +kernel
theorem dLW_1444 : decode cL_law 1444 = .ok (.iload 4, 2) := by decide +kernel
theorem dLW_1446 : decode cL_law 1446 = .ok (.iconst 1, 1) := by decide +kernel
theorem dLW_1447 : decode cL_law 1447 = .ok (.iadd, 1) := by decide +kernel
theorem dLW_1448 : decode cL_law 1448 = .ok (.iaload, 1) := by decide +kernel
theorem dLW_1449 : decode cL_law 1449 = .ok (.invokevirtual 179, 3) := by decide +kernel
theorem dLW_1452 : decode cL_law 1452 = .ok (.if_icmp .eq 5, 3) := by decide +kernel
theorem dLW_1455 : decode cL_law 1455 = .ok (.iconst 0, 1) := by decide +kernel
theorem dLW_1456 : decode cL_law 1456 = .ok (.ireturn, 1) := by decide +kernel
theorem dLW_1457 : decode cL_law 1457 = .ok (.iinc 4 6, 3) := by decide +kernel
theorem dLW_1460 : decode cL_law 1460 = .ok (.goto (-1437), 3) := by decide +kernel
theorem dLW_1463 : decode cL_law 1463 = .ok (.iconst 1, 1) := by decide +kernel
theorem dLW_1464 : decode cL_law 1464 = .ok (.ireturn, 1) := by decide +kernel
end SGLD
