theorem d_law_0 : decode code 0 = .ok (.new 8, 3) := by decide +kernel
theorem d_law_3 : decode code 3 = .ok (.dup, 1) := by decide +kernel
theorem d_law_4 : decode code 4 = .ok (.invokespecial 22, 3) := by decide +kernel
theorem d_law_7 : decode code 7 = .ok (.astore_n 1, 1) := by decide +kernel
theorem d_law_8 : decode code 8 = .ok (.new 23, 3) := by decide +kernel
theorem d_law_11 : decode code 11 = .ok (.dup, 1) := by decide +kernel
theorem d_law_12 : decode code 12 = .ok (.invokespecial 25, 3) := by decide +kernel
theorem d_law_15 : decode code 15 = .ok (.astore_n 2, 1) := by decide +kernel
theorem d_law_16 : decode code 16 = .ok (.iconst 1, 1) := by decide +kernel
theorem d_law_17 : decode code 17 = .ok (.newarray .long, 2) := by decide +kernel
theorem d_law_19 : decode code 19 = .ok (.astore_n 3, 1) := by decide +kernel
theorem d_law_20 : decode code 20 = .ok (.iconst 0, 1) := by decide +kernel
theorem d_law_21 : decode code 21 = .ok (.istore 4, 2) := by decide +kernel
theorem d_law_23 : decode code 23 = .ok (.iload 4, 2) := by decide +kernel
theorem d_law_25 : decode code 25 = .ok (.aload_n 0, 1) := by decide +kernel
theorem d_law_26 : decode code 26 = .ok (.arraylength, 1) := by decide +kernel
theorem d_law_27 : decode code 27 = .ok (.iconst 5, 1) := by decide +kernel
theorem d_law_28 : decode code 28 = .ok (.isub, 1) := by decide +kernel
theorem d_law_29 : decode code 29 = .ok (.if_icmp .gt 1530, 3) := by decide +kernel
theorem d_law_32 : decode code 32 = .ok (.aload_n 0, 1) := by decide +kernel
theorem d_law_33 : decode code 33 = .ok (.iload 4, 2) := by decide +kernel
theorem d_law_35 : decode code 35 = .ok (.iaload, 1) := by decide +kernel
theorem d_law_36 : decode code 36 = .ok (.bipush 63, 2) := by decide +kernel
theorem d_law_38 : decode code 38 = .ok (.iand, 1) := by decide +kernel
theorem d_law_39 : decode code 39 = .ok (.tableswitch 1514 0 43 #[189, 214, 239, 252, 265, 278, 303, 343, 383, 420, 457, 470, 531, 556, 581, 594, 619, 632, 645, 682, 707, 744, 757, 782, 807, 844, 893, 954, 991, 1028, 1065, 1102, 1139, 1164, 1189, 1202, 1239, 1288, 1313, 1350, 1411, 1436, 1461, 1486], 189) := by decide +kernel
theorem d_law_228 : decode code 228 = .ok (.aload_n 1, 1) := by decide +kernel
theorem d_law_229 : decode code 229 = .ok (.aload_n 0, 1) := by decide +kernel
theorem d_law_230 : decode code 230 = .ok (.iload 4, 2) := by decide +kernel
theorem d_law_232 : decode code 232 = .ok (.iconst 1, 1) := by decide +kernel
theorem d_law_233 : decode code 233 = .ok (.iadd, 1) := by decide +kernel
theorem d_law_234 : decode code 234 = .ok (.iaload, 1) := by decide +kernel
theorem d_law_235 : decode code 235 = .ok (.invokevirtual 26, 3) := by decide +kernel
theorem d_law_238 : decode code 238 = .ok (.pop, 1) := by decide +kernel
theorem d_law_239 : decode code 239 = .ok (.aload_n 2, 1) := by decide +kernel
theorem d_law_240 : decode code 240 = .ok (.aload_n 0, 1) := by decide +kernel
theorem d_law_241 : decode code 241 = .ok (.iload 4, 2) := by decide +kernel
theorem d_law_243 : decode code 243 = .ok (.iconst 1, 1) := by decide +kernel
theorem d_law_244 : decode code 244 = .ok (.iadd, 1) := by decide +kernel
theorem d_law_245 : decode code 245 = .ok (.iaload, 1) := by decide +kernel
theorem d_law_246 : decode code 246 = .ok (.invokevirtual 29, 3) := by decide +kernel
theorem d_law_249 : decode code 249 = .ok (.pop, 1) := by decide +kernel
theorem d_law_250 : decode code 250 = .ok (.goto 1303, 3) := by decide +kernel
theorem d_law_253 : decode code 253 = .ok (.aload_n 1, 1) := by decide +kernel
theorem d_law_254 : decode code 254 = .ok (.aload_n 0, 1) := by decide +kernel
theorem d_law_255 : decode code 255 = .ok (.iload 4, 2) := by decide +kernel
theorem d_law_257 : decode code 257 = .ok (.iconst 1, 1) := by decide +kernel
theorem d_law_258 : decode code 258 = .ok (.iadd, 1) := by decide +kernel
theorem d_law_259 : decode code 259 = .ok (.iaload, 1) := by decide +kernel
theorem d_law_260 : decode code 260 = .ok (.invokevirtual 30, 3) := by decide +kernel
theorem d_law_263 : decode code 263 = .ok (.pop, 1) := by decide +kernel
theorem d_law_264 : decode code 264 = .ok (.aload_n 2, 1) := by decide +kernel
theorem d_law_265 : decode code 265 = .ok (.aload_n 0, 1) := by decide +kernel
theorem d_law_266 : decode code 266 = .ok (.iload 4, 2) := by decide +kernel
theorem d_law_268 : decode code 268 = .ok (.iconst 1, 1) := by decide +kernel
theorem d_law_269 : decode code 269 = .ok (.iadd, 1) := by decide +kernel
theorem d_law_270 : decode code 270 = .ok (.iaload, 1) := by decide +kernel
theorem d_law_271 : decode code 271 = .ok (.invokevirtual 34, 3) := by decide +kernel
theorem d_law_274 : decode code 274 = .ok (.pop, 1) := by decide +kernel
theorem d_law_275 : decode code 275 = .ok (.goto 1278, 3) := by decide +kernel
theorem d_law_278 : decode code 278 = .ok (.aload_n 1, 1) := by decide +kernel
theorem d_law_279 : decode code 279 = .ok (.invokevirtual 35, 3) := by decide +kernel
theorem d_law_282 : decode code 282 = .ok (.pop, 1) := by decide +kernel
theorem d_law_283 : decode code 283 = .ok (.aload_n 2, 1) := by decide +kernel
theorem d_law_284 : decode code 284 = .ok (.invokevirtual 39, 3) := by decide +kernel
theorem d_law_287 : decode code 287 = .ok (.pop, 1) := by decide +kernel
theorem d_law_288 : decode code 288 = .ok (.goto 1265, 3) := by decide +kernel
theorem d_law_291 : decode code 291 = .ok (.aload_n 1, 1) := by decide +kernel
theorem d_law_292 : decode code 292 = .ok (.invokevirtual 40, 3) := by decide +kernel
theorem d_law_295 : decode code 295 = .ok (.pop, 1) := by decide +kernel
theorem d_law_296 : decode code 296 = .ok (.aload_n 2, 1) := by decide +kernel
theorem d_law_297 : decode code 297 = .ok (.invokevirtual 43, 3) := by decide +kernel
theorem d_law_300 : decode code 300 = .ok (.pop, 1) := by decide +kernel
theorem d_law_301 : decode code 301 = .ok (.goto 1252, 3) := by decide +kernel
theorem d_law_304 : decode code 304 = .ok (.aload_n 1, 1) := by decide +kernel
theorem d_law_305 : decode code 305 = .ok (.invokevirtual 44, 3) := by decide +kernel
theorem d_law_308 : decode code 308 = .ok (.pop, 1) := by decide +kernel
theorem d_law_309 : decode code 309 = .ok (.aload_n 2, 1) := by decide +kernel
theorem d_law_310 : decode code 310 = .ok (.invokevirtual 47, 3) := by decide +kernel
theorem d_law_313 : decode code 313 = .ok (.pop, 1) := by decide +kernel
theorem d_law_314 : decode code 314 = .ok (.goto 1239, 3) := by decide +kernel
theorem d_law_317 : decode code 317 = .ok (.aload_n 1, 1) := by decide +kernel
theorem d_law_318 : decode code 318 = .ok (.aload_n 0, 1) := by decide +kernel
theorem d_law_319 : decode code 319 = .ok (.iload 4, 2) := by decide +kernel
theorem d_law_321 : decode code 321 = .ok (.iconst 1, 1) := by decide +kernel
theorem d_law_322 : decode code 322 = .ok (.iadd, 1) := by decide +kernel
theorem d_law_323 : decode code 323 = .ok (.iaload, 1) := by decide +kernel
theorem d_law_324 : decode code 324 = .ok (.invokevirtual 48, 3) := by decide +kernel
theorem d_law_327 : decode code 327 = .ok (.pop, 1) := by decide +kernel
theorem d_law_328 : decode code 328 = .ok (.aload_n 2, 1) := by decide +kernel
theorem d_law_329 : decode code 329 = .ok (.aload_n 0, 1) := by decide +kernel
theorem d_law_330 : decode code 330 = .ok (.iload 4, 2) := by decide +kernel
theorem d_law_332 : decode code 332 = .ok (.iconst 1, 1) := by decide +kernel
theorem d_law_333 : decode code 333 = .ok (.iadd, 1) := by decide +kernel
theorem d_law_334 : decode code 334 = .ok (.iaload, 1) := by decide +kernel
theorem d_law_335 : decode code 335 = .ok (.invokevirtual 51, 3) := by decide +kernel
theorem d_law_338 : decode code 338 = .ok (.pop, 1) := by decide +kernel
theorem d_law_339 : decode code 339 = .ok (.goto 1214, 3) := by decide +kernel
theorem d_law_342 : decode code 342 = .ok (.aload_n 1, 1) := by decide +kernel
theorem d_law_343 : decode code 343 = .ok (.aload_n 0, 1) := by decide +kernel
theorem d_law_344 : decode code 344 = .ok (.iload 4, 2) := by decide +kernel
theorem d_law_346 : decode code 346 = .ok (.iconst 1, 1) := by decide +kernel
theorem d_law_347 : decode code 347 = .ok (.iadd, 1) := by decide +kernel
theorem d_law_348 : decode code 348 = .ok (.iaload, 1) := by decide +kernel
theorem d_law_349 : decode code 349 = .ok (.aload_n 0, 1) := by decide +kernel
theorem d_law_350 : decode code 350 = .ok (.iload 4, 2) := by decide +kernel
theorem d_law_352 : decode code 352 = .ok (.iconst 2, 1) := by decide +kernel
theorem d_law_353 : decode code 353 = .ok (.iadd, 1) := by decide +kernel
theorem d_law_354 : decode code 354 = .ok (.iaload, 1) := by decide +kernel
theorem d_law_355 : decode code 355 = .ok (.aload_n 3, 1) := by decide +kernel
theorem d_law_356 : decode code 356 = .ok (.invokestatic 52, 3) := by decide +kernel
theorem d_law_359 : decode code 359 = .ok (.istore 5, 2) := by decide +kernel
theorem d_law_361 : decode code 361 = .ok (.aload_n 2, 1) := by decide +kernel
theorem d_law_362 : decode code 362 = .ok (.aload_n 0, 1) := by decide +kernel
theorem d_law_363 : decode code 363 = .ok (.iload 4, 2) := by decide +kernel
theorem d_law_365 : decode code 365 = .ok (.iconst 1, 1) := by decide +kernel
theorem d_law_366 : decode code 366 = .ok (.iadd, 1) := by decide +kernel
theorem d_law_367 : decode code 367 = .ok (.iaload, 1) := by decide +kernel
theorem d_law_368 : decode code 368 = .ok (.aload_n 0, 1) := by decide +kernel
theorem d_law_369 : decode code 369 = .ok (.iload 4, 2) := by decide +kernel
theorem d_law_371 : decode code 371 = .ok (.iconst 2, 1) := by decide +kernel
theorem d_law_372 : decode code 372 = .ok (.iadd, 1) := by decide +kernel
theorem d_law_373 : decode code 373 = .ok (.iaload, 1) := by decide +kernel
theorem d_law_374 : decode code 374 = .ok (.invokevirtual 57, 3) := by decide +kernel
theorem d_law_377 : decode code 377 = .ok (.istore 6, 2) := by decide +kernel
theorem d_law_379 : decode code 379 = .ok (.goto 1174, 3) := by decide +kernel
theorem d_law_382 : decode code 382 = .ok (.aload_n 1, 1) := by decide +kernel
theorem d_law_383 : decode code 383 = .ok (.aload_n 0, 1) := by decide +kernel
theorem d_law_384 : decode code 384 = .ok (.iload 4, 2) := by decide +kernel
theorem d_law_386 : decode code 386 = .ok (.iconst 1, 1) := by decide +kernel
theorem d_law_387 : decode code 387 = .ok (.iadd, 1) := by decide +kernel
theorem d_law_388 : decode code 388 = .ok (.iaload, 1) := by decide +kernel
theorem d_law_389 : decode code 389 = .ok (.aload_n 0, 1) := by decide +kernel
theorem d_law_390 : decode code 390 = .ok (.iload 4, 2) := by decide +kernel
theorem d_law_392 : decode code 392 = .ok (.iconst 2, 1) := by decide +kernel
theorem d_law_393 : decode code 393 = .ok (.iadd, 1) := by decide +kernel
theorem d_law_394 : decode code 394 = .ok (.iaload, 1) := by decide +kernel
theorem d_law_395 : decode code 395 = .ok (.aload_n 3, 1) := by decide +kernel
theorem d_law_396 : decode code 396 = .ok (.invokestatic 58, 3) := by decide +kernel
theorem d_law_399 : decode code 399 = .ok (.istore 5, 2) := by decide +kernel
theorem d_law_401 : decode code 401 = .ok (.aload_n 2, 1) := by decide +kernel
theorem d_law_402 : decode code 402 = .ok (.aload_n 0, 1) := by decide +kernel
theorem d_law_403 : decode code 403 = .ok (.iload 4, 2) := by decide +kernel
theorem d_law_405 : decode code 405 = .ok (.iconst 1, 1) := by decide +kernel
theorem d_law_406 : decode code 406 = .ok (.iadd, 1) := by decide +kernel
theorem d_law_407 : decode code 407 = .ok (.iaload, 1) := by decide +kernel
theorem d_law_408 : decode code 408 = .ok (.aload_n 0, 1) := by decide +kernel
theorem d_law_409 : decode code 409 = .ok (.iload 4, 2) := by decide +kernel
theorem d_law_411 : decode code 411 = .ok (.iconst 2, 1) := by decide +kernel
theorem d_law_412 : decode code 412 = .ok (.iadd, 1) := by decide +kernel
theorem d_law_413 : decode code 413 = .ok (.iaload, 1) := by decide +kernel
theorem d_law_414 : decode code 414 = .ok (.invokevirtual 60, 3) := by decide +kernel
theorem d_law_417 : decode code 417 = .ok (.istore 6, 2) := by decide +kernel
theorem d_law_419 : decode code 419 = .ok (.goto 1134, 3) := by decide +kernel
theorem d_law_422 : decode code 422 = .ok (.aload_n 1, 1) := by decide +kernel
theorem d_law_423 : decode code 423 = .ok (.aload_n 0, 1) := by decide +kernel
theorem d_law_424 : decode code 424 = .ok (.iload 4, 2) := by decide +kernel
theorem d_law_426 : decode code 426 = .ok (.iconst 1, 1) := by decide +kernel
theorem d_law_427 : decode code 427 = .ok (.iadd, 1) := by decide +kernel
theorem d_law_428 : decode code 428 = .ok (.iaload, 1) := by decide +kernel
theorem d_law_429 : decode code 429 = .ok (.aload_n 0, 1) := by decide +kernel
theorem d_law_430 : decode code 430 = .ok (.iload 4, 2) := by decide +kernel
theorem d_law_432 : decode code 432 = .ok (.iconst 2, 1) := by decide +kernel
theorem d_law_433 : decode code 433 = .ok (.iadd, 1) := by decide +kernel
theorem d_law_434 : decode code 434 = .ok (.iaload, 1) := by decide +kernel
theorem d_law_435 : decode code 435 = .ok (.invokevirtual 61, 3) := by decide +kernel
theorem d_law_438 : decode code 438 = .ok (.pop, 1) := by decide +kernel
theorem d_law_439 : decode code 439 = .ok (.aload_n 2, 1) := by decide +kernel
theorem d_law_440 : decode code 440 = .ok (.aload_n 0, 1) := by decide +kernel
theorem d_law_441 : decode code 441 = .ok (.iload 4, 2) := by decide +kernel
theorem d_law_443 : decode code 443 = .ok (.iconst 1, 1) := by decide +kernel
theorem d_law_444 : decode code 444 = .ok (.iadd, 1) := by decide +kernel
theorem d_law_445 : decode code 445 = .ok (.iaload, 1) := by decide +kernel
theorem d_law_446 : decode code 446 = .ok (.aload_n 0, 1) := by decide +kernel
theorem d_law_447 : decode code 447 = .ok (.iload 4, 2) := by decide +kernel
theorem d_law_449 : decode code 449 = .ok (.iconst 2, 1) := by decide +kernel
theorem d_law_450 : decode code 450 = .ok (.iadd, 1) := by decide +kernel
theorem d_law_451 : decode code 451 = .ok (.iaload, 1) := by decide +kernel
theorem d_law_452 : decode code 452 = .ok (.invokevirtual 64, 3) := by decide +kernel
theorem d_law_455 : decode code 455 = .ok (.pop, 1) := by decide +kernel
theorem d_law_456 : decode code 456 = .ok (.goto 1097, 3) := by decide +kernel
theorem d_law_459 : decode code 459 = .ok (.aload_n 1, 1) := by decide +kernel
theorem d_law_460 : decode code 460 = .ok (.aload_n 0, 1) := by decide +kernel
theorem d_law_461 : decode code 461 = .ok (.iload 4, 2) := by decide +kernel
theorem d_law_463 : decode code 463 = .ok (.iconst 1, 1) := by decide +kernel
theorem d_law_464 : decode code 464 = .ok (.iadd, 1) := by decide +kernel
theorem d_law_465 : decode code 465 = .ok (.iaload, 1) := by decide +kernel
theorem d_law_466 : decode code 466 = .ok (.aload_n 0, 1) := by decide +kernel
theorem d_law_467 : decode code 467 = .ok (.iload 4, 2) := by decide +kernel
theorem d_law_469 : decode code 469 = .ok (.iconst 2, 1) := by decide +kernel
theorem d_law_470 : decode code 470 = .ok (.iadd, 1) := by decide +kernel
theorem d_law_471 : decode code 471 = .ok (.iaload, 1) := by decide +kernel
theorem d_law_472 : decode code 472 = .ok (.invokevirtual 65, 3) := by decide +kernel
theorem d_law_475 : decode code 475 = .ok (.pop, 1) := by decide +kernel
theorem d_law_476 : decode code 476 = .ok (.aload_n 2, 1) := by decide +kernel
theorem d_law_477 : decode code 477 = .ok (.aload_n 0, 1) := by decide +kernel
theorem d_law_478 : decode code 478 = .ok (.iload 4, 2) := by decide +kernel
theorem d_law_480 : decode code 480 = .ok (.iconst 1, 1) := by decide +kernel
theorem d_law_481 : decode code 481 = .ok (.iadd, 1) := by decide +kernel
theorem d_law_482 : decode code 482 = .ok (.iaload, 1) := by decide +kernel
theorem d_law_483 : decode code 483 = .ok (.aload_n 0, 1) := by decide +kernel
theorem d_law_484 : decode code 484 = .ok (.iload 4, 2) := by decide +kernel
theorem d_law_486 : decode code 486 = .ok (.iconst 2, 1) := by decide +kernel
theorem d_law_487 : decode code 487 = .ok (.iadd, 1) := by decide +kernel
theorem d_law_488 : decode code 488 = .ok (.iaload, 1) := by decide +kernel
theorem d_law_489 : decode code 489 = .ok (.invokevirtual 68, 3) := by decide +kernel
theorem d_law_492 : decode code 492 = .ok (.pop, 1) := by decide +kernel
theorem d_law_493 : decode code 493 = .ok (.goto 1060, 3) := by decide +kernel
theorem d_law_496 : decode code 496 = .ok (.aload_n 1, 1) := by decide +kernel
theorem d_law_497 : decode code 497 = .ok (.invokevirtual 69, 3) := by decide +kernel
theorem d_law_500 : decode code 500 = .ok (.pop, 1) := by decide +kernel
theorem d_law_501 : decode code 501 = .ok (.aload_n 2, 1) := by decide +kernel
theorem d_law_502 : decode code 502 = .ok (.invokevirtual 72, 3) := by decide +kernel
theorem d_law_505 : decode code 505 = .ok (.pop, 1) := by decide +kernel
theorem d_law_506 : decode code 506 = .ok (.goto 1047, 3) := by decide +kernel
theorem d_law_509 : decode code 509 = .ok (.aload_n 1, 1) := by decide +kernel
theorem d_law_510 : decode code 510 = .ok (.aload_n 0, 1) := by decide +kernel
theorem d_law_511 : decode code 511 = .ok (.iload 4, 2) := by decide +kernel
theorem d_law_513 : decode code 513 = .ok (.iconst 1, 1) := by decide +kernel
theorem d_law_514 : decode code 514 = .ok (.iadd, 1) := by decide +kernel
theorem d_law_515 : decode code 515 = .ok (.iaload, 1) := by decide +kernel
theorem d_law_516 : decode code 516 = .ok (.aload_n 0, 1) := by decide +kernel
theorem d_law_517 : decode code 517 = .ok (.iload 4, 2) := by decide +kernel
theorem d_law_519 : decode code 519 = .ok (.iconst 2, 1) := by decide +kernel
theorem d_law_520 : decode code 520 = .ok (.iadd, 1) := by decide +kernel
theorem d_law_521 : decode code 521 = .ok (.iaload, 1) := by decide +kernel
theorem d_law_522 : decode code 522 = .ok (.aload_n 0, 1) := by decide +kernel
theorem d_law_523 : decode code 523 = .ok (.iload 4, 2) := by decide +kernel
theorem d_law_525 : decode code 525 = .ok (.iconst 3, 1) := by decide +kernel
theorem d_law_526 : decode code 526 = .ok (.iadd, 1) := by decide +kernel
theorem d_law_527 : decode code 527 = .ok (.iaload, 1) := by decide +kernel
theorem d_law_528 : decode code 528 = .ok (.aload_n 0, 1) := by decide +kernel
theorem d_law_529 : decode code 529 = .ok (.iload 4, 2) := by decide +kernel
theorem d_law_531 : decode code 531 = .ok (.iconst 4, 1) := by decide +kernel
theorem d_law_532 : decode code 532 = .ok (.iadd, 1) := by decide +kernel
theorem d_law_533 : decode code 533 = .ok (.iaload, 1) := by decide +kernel
theorem d_law_534 : decode code 534 = .ok (.invokevirtual 73, 3) := by decide +kernel
theorem d_law_537 : decode code 537 = .ok (.pop, 1) := by decide +kernel
theorem d_law_538 : decode code 538 = .ok (.aload_n 2, 1) := by decide +kernel
theorem d_law_539 : decode code 539 = .ok (.aload_n 0, 1) := by decide +kernel
theorem d_law_540 : decode code 540 = .ok (.iload 4, 2) := by decide +kernel
theorem d_law_542 : decode code 542 = .ok (.iconst 1, 1) := by decide +kernel
theorem d_law_543 : decode code 543 = .ok (.iadd, 1) := by decide +kernel
theorem d_law_544 : decode code 544 = .ok (.iaload, 1) := by decide +kernel
theorem d_law_545 : decode code 545 = .ok (.aload_n 0, 1) := by decide +kernel
theorem d_law_546 : decode code 546 = .ok (.iload 4, 2) := by decide +kernel
theorem d_law_548 : decode code 548 = .ok (.iconst 2, 1) := by decide +kernel
theorem d_law_549 : decode code 549 = .ok (.iadd, 1) := by decide +kernel
theorem d_law_550 : decode code 550 = .ok (.iaload, 1) := by decide +kernel
theorem d_law_551 : decode code 551 = .ok (.aload_n 0, 1) := by decide +kernel
theorem d_law_552 : decode code 552 = .ok (.iload 4, 2) := by decide +kernel
theorem d_law_554 : decode code 554 = .ok (.iconst 3, 1) := by decide +kernel
theorem d_law_555 : decode code 555 = .ok (.iadd, 1) := by decide +kernel
theorem d_law_556 : decode code 556 = .ok (.iaload, 1) := by decide +kernel
theorem d_law_557 : decode code 557 = .ok (.aload_n 0, 1) := by decide +kernel
theorem d_law_558 : decode code 558 = .ok (.iload 4, 2) := by decide +kernel
theorem d_law_560 : decode code 560 = .ok (.iconst 4, 1) := by decide +kernel
theorem d_law_561 : decode code 561 = .ok (.iadd, 1) := by decide +kernel
theorem d_law_562 : decode code 562 = .ok (.iaload, 1) := by decide +kernel
theorem d_law_563 : decode code 563 = .ok (.invokevirtual 77, 3) := by decide +kernel
theorem d_law_566 : decode code 566 = .ok (.pop, 1) := by decide +kernel
theorem d_law_567 : decode code 567 = .ok (.goto 986, 3) := by decide +kernel
theorem d_law_570 : decode code 570 = .ok (.aload_n 1, 1) := by decide +kernel
theorem d_law_571 : decode code 571 = .ok (.aload_n 0, 1) := by decide +kernel
theorem d_law_572 : decode code 572 = .ok (.iload 4, 2) := by decide +kernel
theorem d_law_574 : decode code 574 = .ok (.iconst 1, 1) := by decide +kernel
theorem d_law_575 : decode code 575 = .ok (.iadd, 1) := by decide +kernel
theorem d_law_576 : decode code 576 = .ok (.iaload, 1) := by decide +kernel
theorem d_law_577 : decode code 577 = .ok (.invokevirtual 78, 3) := by decide +kernel
theorem d_law_580 : decode code 580 = .ok (.pop, 1) := by decide +kernel
theorem d_law_581 : decode code 581 = .ok (.aload_n 2, 1) := by decide +kernel
theorem d_law_582 : decode code 582 = .ok (.aload_n 0, 1) := by decide +kernel
theorem d_law_583 : decode code 583 = .ok (.iload 4, 2) := by decide +kernel
theorem d_law_585 : decode code 585 = .ok (.iconst 1, 1) := by decide +kernel
theorem d_law_586 : decode code 586 = .ok (.iadd, 1) := by decide +kernel
theorem d_law_587 : decode code 587 = .ok (.iaload, 1) := by decide +kernel
theorem d_law_588 : decode code 588 = .ok (.invokevirtual 81, 3) := by decide +kernel
theorem d_law_591 : decode code 591 = .ok (.pop, 1) := by decide +kernel
theorem d_law_592 : decode code 592 = .ok (.goto 961, 3) := by decide +kernel
theorem d_law_595 : decode code 595 = .ok (.aload_n 1, 1) := by decide +kernel
theorem d_law_596 : decode code 596 = .ok (.aload_n 0, 1) := by decide +kernel
theorem d_law_597 : decode code 597 = .ok (.iload 4, 2) := by decide +kernel
theorem d_law_599 : decode code 599 = .ok (.iconst 1, 1) := by decide +kernel
theorem d_law_600 : decode code 600 = .ok (.iadd, 1) := by decide +kernel
theorem d_law_601 : decode code 601 = .ok (.iaload, 1) := by decide +kernel
theorem d_law_602 : decode code 602 = .ok (.invokevirtual 82, 3) := by decide +kernel
theorem d_law_605 : decode code 605 = .ok (.pop, 1) := by decide +kernel
theorem d_law_606 : decode code 606 = .ok (.aload_n 2, 1) := by decide +kernel
theorem d_law_607 : decode code 607 = .ok (.aload_n 0, 1) := by decide +kernel
theorem d_law_608 : decode code 608 = .ok (.iload 4, 2) := by decide +kernel
theorem d_law_610 : decode code 610 = .ok (.iconst 1, 1) := by decide +kernel
theorem d_law_611 : decode code 611 = .ok (.iadd, 1) := by decide +kernel
theorem d_law_612 : decode code 612 = .ok (.iaload, 1) := by decide +kernel
theorem d_law_613 : decode code 613 = .ok (.invokevirtual 85, 3) := by decide +kernel
theorem d_law_616 : decode code 616 = .ok (.pop, 1) := by decide +kernel
theorem d_law_617 : decode code 617 = .ok (.goto 936, 3) := by decide +kernel
theorem d_law_620 : decode code 620 = .ok (.aload_n 1, 1) := by decide +kernel
theorem d_law_621 : decode code 621 = .ok (.invokevirtual 86, 3) := by decide +kernel
theorem d_law_624 : decode code 624 = .ok (.pop, 1) := by decide +kernel
theorem d_law_625 : decode code 625 = .ok (.aload_n 2, 1) := by decide +kernel
theorem d_law_626 : decode code 626 = .ok (.invokevirtual 89, 3) := by decide +kernel
theorem d_law_629 : decode code 629 = .ok (.pop, 1) := by decide +kernel
theorem d_law_630 : decode code 630 = .ok (.goto 923, 3) := by decide +kernel
theorem d_law_633 : decode code 633 = .ok (.aload_n 1, 1) := by decide +kernel
theorem d_law_634 : decode code 634 = .ok (.aload_n 0, 1) := by decide +kernel
theorem d_law_635 : decode code 635 = .ok (.iload 4, 2) := by decide +kernel
theorem d_law_637 : decode code 637 = .ok (.iconst 1, 1) := by decide +kernel
theorem d_law_638 : decode code 638 = .ok (.iadd, 1) := by decide +kernel
theorem d_law_639 : decode code 639 = .ok (.iaload, 1) := by decide +kernel
theorem d_law_640 : decode code 640 = .ok (.invokevirtual 90, 3) := by decide +kernel
theorem d_law_643 : decode code 643 = .ok (.pop, 1) := by decide +kernel
theorem d_law_644 : decode code 644 = .ok (.aload_n 2, 1) := by decide +kernel
theorem d_law_645 : decode code 645 = .ok (.aload_n 0, 1) := by decide +kernel
theorem d_law_646 : decode code 646 = .ok (.iload 4, 2) := by decide +kernel
theorem d_law_648 : decode code 648 = .ok (.iconst 1, 1) := by decide +kernel
theorem d_law_649 : decode code 649 = .ok (.iadd, 1) := by decide +kernel
theorem d_law_650 : decode code 650 = .ok (.iaload, 1) := by decide +kernel
theorem d_law_651 : decode code 651 = .ok (.invokevirtual 93, 3) := by decide +kernel
theorem d_law_654 : decode code 654 = .ok (.pop, 1) := by decide +kernel
theorem d_law_655 : decode code 655 = .ok (.goto 898, 3) := by decide +kernel
theorem d_law_658 : decode code 658 = .ok (.aload_n 1, 1) := by decide +kernel
theorem d_law_659 : decode code 659 = .ok (.invokevirtual 94, 3) := by decide +kernel
theorem d_law_662 : decode code 662 = .ok (.pop, 1) := by decide +kernel
theorem d_law_663 : decode code 663 = .ok (.aload_n 2, 1) := by decide +kernel
theorem d_law_664 : decode code 664 = .ok (.invokevirtual 97, 3) := by decide +kernel
theorem d_law_667 : decode code 667 = .ok (.pop, 1) := by decide +kernel
theorem d_law_668 : decode code 668 = .ok (.goto 885, 3) := by decide +kernel
theorem d_law_671 : decode code 671 = .ok (.aload_n 1, 1) := by decide +kernel
theorem d_law_672 : decode code 672 = .ok (.invokevirtual 98, 3) := by decide +kernel
theorem d_law_675 : decode code 675 = .ok (.aload_n 2, 1) := by decide +kernel
theorem d_law_676 : decode code 676 = .ok (.invokevirtual 101, 3) := by decide +kernel
theorem d_law_679 : decode code 679 = .ok (.if_icmp .eq 874, 3) := by decide +kernel
theorem d_law_682 : decode code 682 = .ok (.iconst 0, 1) := by decide +kernel
theorem d_law_683 : decode code 683 = .ok (.ireturn, 1) := by decide +kernel
theorem d_law_684 : decode code 684 = .ok (.aload_n 1, 1) := by decide +kernel
theorem d_law_685 : decode code 685 = .ok (.aload_n 0, 1) := by decide +kernel
theorem d_law_686 : decode code 686 = .ok (.iload 4, 2) := by decide +kernel
theorem d_law_688 : decode code 688 = .ok (.iconst 1, 1) := by decide +kernel
theorem d_law_689 : decode code 689 = .ok (.iadd, 1) := by decide +kernel
theorem d_law_690 : decode code 690 = .ok (.iaload, 1) := by decide +kernel
theorem d_law_691 : decode code 691 = .ok (.aload_n 0, 1) := by decide +kernel
theorem d_law_692 : decode code 692 = .ok (.iload 4, 2) := by decide +kernel
theorem d_law_694 : decode code 694 = .ok (.iconst 2, 1) := by decide +kernel
theorem d_law_695 : decode code 695 = .ok (.iadd, 1) := by decide +kernel
theorem d_law_696 : decode code 696 = .ok (.iaload, 1) := by decide +kernel
theorem d_law_697 : decode code 697 = .ok (.invokevirtual 102, 3) := by decide +kernel
theorem d_law_700 : decode code 700 = .ok (.pop, 1) := by decide +kernel
theorem d_law_701 : decode code 701 = .ok (.aload_n 2, 1) := by decide +kernel
theorem d_law_702 : decode code 702 = .ok (.aload_n 0, 1) := by decide +kernel
theorem d_law_703 : decode code 703 = .ok (.iload 4, 2) := by decide +kernel
theorem d_law_705 : decode code 705 = .ok (.iconst 1, 1) := by decide +kernel
theorem d_law_706 : decode code 706 = .ok (.iadd, 1) := by decide +kernel
theorem d_law_707 : decode code 707 = .ok (.iaload, 1) := by decide +kernel
theorem d_law_708 : decode code 708 = .ok (.aload_n 0, 1) := by decide +kernel
theorem d_law_709 : decode code 709 = .ok (.iload 4, 2) := by decide +kernel
theorem d_law_711 : decode code 711 = .ok (.iconst 2, 1) := by decide +kernel
theorem d_law_712 : decode code 712 = .ok (.iadd, 1) := by decide +kernel
theorem d_law_713 : decode code 713 = .ok (.iaload, 1) := by decide +kernel
theorem d_law_714 : decode code 714 = .ok (.invokevirtual 105, 3) := by decide +kernel
theorem d_law_717 : decode code 717 = .ok (.pop, 1) := by decide +kernel
theorem d_law_718 : decode code 718 = .ok (.goto 835, 3) := by decide +kernel
theorem d_law_721 : decode code 721 = .ok (.aload_n 1, 1) := by decide +kernel
theorem d_law_722 : decode code 722 = .ok (.aload_n 0, 1) := by decide +kernel
theorem d_law_723 : decode code 723 = .ok (.iload 4, 2) := by decide +kernel
theorem d_law_725 : decode code 725 = .ok (.iconst 1, 1) := by decide +kernel
theorem d_law_726 : decode code 726 = .ok (.iadd, 1) := by decide +kernel
theorem d_law_727 : decode code 727 = .ok (.iaload, 1) := by decide +kernel
theorem d_law_728 : decode code 728 = .ok (.invokevirtual 106, 3) := by decide +kernel
theorem d_law_731 : decode code 731 = .ok (.pop, 1) := by decide +kernel
theorem d_law_732 : decode code 732 = .ok (.aload_n 2, 1) := by decide +kernel
theorem d_law_733 : decode code 733 = .ok (.aload_n 0, 1) := by decide +kernel
theorem d_law_734 : decode code 734 = .ok (.iload 4, 2) := by decide +kernel
theorem d_law_736 : decode code 736 = .ok (.iconst 1, 1) := by decide +kernel
theorem d_law_737 : decode code 737 = .ok (.iadd, 1) := by decide +kernel
theorem d_law_738 : decode code 738 = .ok (.iaload, 1) := by decide +kernel
theorem d_law_739 : decode code 739 = .ok (.invokevirtual 109, 3) := by decide +kernel
theorem d_law_742 : decode code 742 = .ok (.pop, 1) := by decide +kernel
theorem d_law_743 : decode code 743 = .ok (.goto 810, 3) := by decide +kernel
theorem d_law_746 : decode code 746 = .ok (.aload_n 1, 1) := by decide +kernel
theorem d_law_747 : decode code 747 = .ok (.aload_n 0, 1) := by decide +kernel
theorem d_law_748 : decode code 748 = .ok (.iload 4, 2) := by decide +kernel
theorem d_law_750 : decode code 750 = .ok (.iconst 1, 1) := by decide +kernel
theorem d_law_751 : decode code 751 = .ok (.iadd, 1) := by decide +kernel
theorem d_law_752 : decode code 752 = .ok (.iaload, 1) := by decide +kernel
theorem d_law_753 : decode code 753 = .ok (.aload_n 0, 1) := by decide +kernel
theorem d_law_754 : decode code 754 = .ok (.iload 4, 2) := by decide +kernel
theorem d_law_756 : decode code 756 = .ok (.iconst 2, 1) := by decide +kernel
theorem d_law_757 : decode code 757 = .ok (.iadd, 1) := by decide +kernel
theorem d_law_758 : decode code 758 = .ok (.iaload, 1) := by decide +kernel
theorem d_law_759 : decode code 759 = .ok (.invokevirtual 110, 3) := by decide +kernel
theorem d_law_762 : decode code 762 = .ok (.pop, 1) := by decide +kernel
theorem d_law_763 : decode code 763 = .ok (.aload_n 2, 1) := by decide +kernel
theorem d_law_764 : decode code 764 = .ok (.aload_n 0, 1) := by decide +kernel
theorem d_law_765 : decode code 765 = .ok (.iload 4, 2) := by decide +kernel
theorem d_law_767 : decode code 767 = .ok (.iconst 1, 1) := by decide +kernel
theorem d_law_768 : decode code 768 = .ok (.iadd, 1) := by decide +kernel
theorem d_law_769 : decode code 769 = .ok (.iaload, 1) := by decide +kernel
theorem d_law_770 : decode code 770 = .ok (.aload_n 0, 1) := by decide +kernel
theorem d_law_771 : decode code 771 = .ok (.iload 4, 2) := by decide +kernel
theorem d_law_773 : decode code 773 = .ok (.iconst 2, 1) := by decide +kernel
theorem d_law_774 : decode code 774 = .ok (.iadd, 1) := by decide +kernel
theorem d_law_775 : decode code 775 = .ok (.iaload, 1) := by decide +kernel
theorem d_law_776 : decode code 776 = .ok (.invokevirtual 113, 3) := by decide +kernel
theorem d_law_779 : decode code 779 = .ok (.pop, 1) := by decide +kernel
theorem d_law_780 : decode code 780 = .ok (.goto 773, 3) := by decide +kernel
theorem d_law_783 : decode code 783 = .ok (.aload_n 1, 1) := by decide +kernel
theorem d_law_784 : decode code 784 = .ok (.invokevirtual 114, 3) := by decide +kernel
theorem d_law_787 : decode code 787 = .ok (.pop, 1) := by decide +kernel
theorem d_law_788 : decode code 788 = .ok (.aload_n 2, 1) := by decide +kernel
theorem d_law_789 : decode code 789 = .ok (.invokevirtual 117, 3) := by decide +kernel
theorem d_law_792 : decode code 792 = .ok (.pop, 1) := by decide +kernel
theorem d_law_793 : decode code 793 = .ok (.goto 760, 3) := by decide +kernel
theorem d_law_796 : decode code 796 = .ok (.aload_n 1, 1) := by decide +kernel
theorem d_law_797 : decode code 797 = .ok (.aload_n 0, 1) := by decide +kernel
theorem d_law_798 : decode code 798 = .ok (.iload 4, 2) := by decide +kernel
theorem d_law_800 : decode code 800 = .ok (.iconst 1, 1) := by decide +kernel
theorem d_law_801 : decode code 801 = .ok (.iadd, 1) := by decide +kernel
theorem d_law_802 : decode code 802 = .ok (.iaload, 1) := by decide +kernel
theorem d_law_803 : decode code 803 = .ok (.invokevirtual 118, 3) := by decide +kernel
theorem d_law_806 : decode code 806 = .ok (.pop, 1) := by decide +kernel
theorem d_law_807 : decode code 807 = .ok (.aload_n 2, 1) := by decide +kernel
theorem d_law_808 : decode code 808 = .ok (.aload_n 0, 1) := by decide +kernel
theorem d_law_809 : decode code 809 = .ok (.iload 4, 2) := by decide +kernel
theorem d_law_811 : decode code 811 = .ok (.iconst 1, 1) := by decide +kernel
theorem d_law_812 : decode code 812 = .ok (.iadd, 1) := by decide +kernel
theorem d_law_813 : decode code 813 = .ok (.iaload, 1) := by decide +kernel
theorem d_law_814 : decode code 814 = .ok (.invokevirtual 121, 3) := by decide +kernel
theorem d_law_817 : decode code 817 = .ok (.pop, 1) := by decide +kernel
theorem d_law_818 : decode code 818 = .ok (.goto 735, 3) := by decide +kernel
theorem d_law_821 : decode code 821 = .ok (.aload_n 1, 1) := by decide +kernel
theorem d_law_822 : decode code 822 = .ok (.aload_n 0, 1) := by decide +kernel
theorem d_law_823 : decode code 823 = .ok (.iload 4, 2) := by decide +kernel
theorem d_law_825 : decode code 825 = .ok (.iconst 1, 1) := by decide +kernel
theorem d_law_826 : decode code 826 = .ok (.iadd, 1) := by decide +kernel
theorem d_law_827 : decode code 827 = .ok (.iaload, 1) := by decide +kernel
theorem d_law_828 : decode code 828 = .ok (.invokevirtual 122, 3) := by decide +kernel
theorem d_law_831 : decode code 831 = .ok (.pop, 1) := by decide +kernel
theorem d_law_832 : decode code 832 = .ok (.aload_n 2, 1) := by decide +kernel
theorem d_law_833 : decode code 833 = .ok (.aload_n 0, 1) := by decide +kernel
theorem d_law_834 : decode code 834 = .ok (.iload 4, 2) := by decide +kernel
theorem d_law_836 : decode code 836 = .ok (.iconst 1, 1) := by decide +kernel
theorem d_law_837 : decode code 837 = .ok (.iadd, 1) := by decide +kernel
theorem d_law_838 : decode code 838 = .ok (.iaload, 1) := by decide +kernel
theorem d_law_839 : decode code 839 = .ok (.invokevirtual 125, 3) := by decide +kernel
theorem d_law_842 : decode code 842 = .ok (.pop, 1) := by decide +kernel
theorem d_law_843 : decode code 843 = .ok (.goto 710, 3) := by decide +kernel
theorem d_law_846 : decode code 846 = .ok (.aload_n 1, 1) := by decide +kernel
theorem d_law_847 : decode code 847 = .ok (.aload_n 0, 1) := by decide +kernel
theorem d_law_848 : decode code 848 = .ok (.iload 4, 2) := by decide +kernel
theorem d_law_850 : decode code 850 = .ok (.iconst 1, 1) := by decide +kernel
theorem d_law_851 : decode code 851 = .ok (.iadd, 1) := by decide +kernel
theorem d_law_852 : decode code 852 = .ok (.iaload, 1) := by decide +kernel
theorem d_law_853 : decode code 853 = .ok (.aload_n 0, 1) := by decide +kernel
theorem d_law_854 : decode code 854 = .ok (.iload 4, 2) := by decide +kernel
theorem d_law_856 : decode code 856 = .ok (.iconst 2, 1) := by decide +kernel
theorem d_law_857 : decode code 857 = .ok (.iadd, 1) := by decide +kernel
theorem d_law_858 : decode code 858 = .ok (.iaload, 1) := by decide +kernel
theorem d_law_859 : decode code 859 = .ok (.invokevirtual 126, 3) := by decide +kernel
theorem d_law_862 : decode code 862 = .ok (.pop, 1) := by decide +kernel
theorem d_law_863 : decode code 863 = .ok (.aload_n 2, 1) := by decide +kernel
theorem d_law_864 : decode code 864 = .ok (.aload_n 0, 1) := by decide +kernel
theorem d_law_865 : decode code 865 = .ok (.iload 4, 2) := by decide +kernel
theorem d_law_867 : decode code 867 = .ok (.iconst 1, 1) := by decide +kernel
theorem d_law_868 : decode code 868 = .ok (.iadd, 1) := by decide +kernel
theorem d_law_869 : decode code 869 = .ok (.iaload, 1) := by decide +kernel
theorem d_law_870 : decode code 870 = .ok (.aload_n 0, 1) := by decide +kernel
theorem d_law_871 : decode code 871 = .ok (.iload 4, 2) := by decide +kernel
theorem d_law_873 : decode code 873 = .ok (.iconst 2, 1) := by decide +kernel
theorem d_law_874 : decode code 874 = .ok (.iadd, 1) := by decide +kernel
theorem d_law_875 : decode code 875 = .ok (.iaload, 1) := by decide +kernel
theorem d_law_876 : decode code 876 = .ok (.invokevirtual 129, 3) := by decide +kernel
theorem d_law_879 : decode code 879 = .ok (.pop, 1) := by decide +kernel
theorem d_law_880 : decode code 880 = .ok (.goto 673, 3) := by decide +kernel
theorem d_law_883 : decode code 883 = .ok (.aload_n 1, 1) := by decide +kernel
theorem d_law_884 : decode code 884 = .ok (.aload_n 0, 1) := by decide +kernel
theorem d_law_885 : decode code 885 = .ok (.iload 4, 2) := by decide +kernel
theorem d_law_887 : decode code 887 = .ok (.iconst 1, 1) := by decide +kernel
theorem d_law_888 : decode code 888 = .ok (.iadd, 1) := by decide +kernel
theorem d_law_889 : decode code 889 = .ok (.iaload, 1) := by decide +kernel
theorem d_law_890 : decode code 890 = .ok (.aload_n 0, 1) := by decide +kernel
theorem d_law_891 : decode code 891 = .ok (.iload 4, 2) := by decide +kernel
theorem d_law_893 : decode code 893 = .ok (.iconst 2, 1) := by decide +kernel
theorem d_law_894 : decode code 894 = .ok (.iadd, 1) := by decide +kernel
theorem d_law_895 : decode code 895 = .ok (.iaload, 1) := by decide +kernel
theorem d_law_896 : decode code 896 = .ok (.aload_n 0, 1) := by decide +kernel
theorem d_law_897 : decode code 897 = .ok (.iload 4, 2) := by decide +kernel
theorem d_law_899 : decode code 899 = .ok (.iconst 3, 1) := by decide +kernel
theorem d_law_900 : decode code 900 = .ok (.iadd, 1) := by decide +kernel
theorem d_law_901 : decode code 901 = .ok (.iaload, 1) := by decide +kernel
theorem d_law_902 : decode code 902 = .ok (.invokevirtual 130, 3) := by decide +kernel
theorem d_law_905 : decode code 905 = .ok (.pop, 1) := by decide +kernel
theorem d_law_906 : decode code 906 = .ok (.aload_n 2, 1) := by decide +kernel
theorem d_law_907 : decode code 907 = .ok (.aload_n 0, 1) := by decide +kernel
theorem d_law_908 : decode code 908 = .ok (.iload 4, 2) := by decide +kernel
theorem d_law_910 : decode code 910 = .ok (.iconst 1, 1) := by decide +kernel
theorem d_law_911 : decode code 911 = .ok (.iadd, 1) := by decide +kernel
theorem d_law_912 : decode code 912 = .ok (.iaload, 1) := by decide +kernel
theorem d_law_913 : decode code 913 = .ok (.aload_n 0, 1) := by decide +kernel
theorem d_law_914 : decode code 914 = .ok (.iload 4, 2) := by decide +kernel
theorem d_law_916 : decode code 916 = .ok (.iconst 2, 1) := by decide +kernel
theorem d_law_917 : decode code 917 = .ok (.iadd, 1) := by decide +kernel
theorem d_law_918 : decode code 918 = .ok (.iaload, 1) := by decide +kernel
theorem d_law_919 : decode code 919 = .ok (.aload_n 0, 1) := by decide +kernel
theorem d_law_920 : decode code 920 = .ok (.iload 4, 2) := by decide +kernel
theorem d_law_922 : decode code 922 = .ok (.iconst 3, 1) := by decide +kernel
theorem d_law_923 : decode code 923 = .ok (.iadd, 1) := by decide +kernel
theorem d_law_924 : decode code 924 = .ok (.iaload, 1) := by decide +kernel
theorem d_law_925 : decode code 925 = .ok (.invokevirtual 134, 3) := by decide +kernel
theorem d_law_928 : decode code 928 = .ok (.pop, 1) := by decide +kernel
theorem d_law_929 : decode code 929 = .ok (.goto 624, 3) := by decide +kernel
theorem d_law_932 : decode code 932 = .ok (.aload_n 1, 1) := by decide +kernel
theorem d_law_933 : decode code 933 = .ok (.aload_n 0, 1) := by decide +kernel
theorem d_law_934 : decode code 934 = .ok (.iload 4, 2) := by decide +kernel
theorem d_law_936 : decode code 936 = .ok (.iconst 1, 1) := by decide +kernel
theorem d_law_937 : decode code 937 = .ok (.iadd, 1) := by decide +kernel
theorem d_law_938 : decode code 938 = .ok (.iaload, 1) := by decide +kernel
theorem d_law_939 : decode code 939 = .ok (.aload_n 0, 1) := by decide +kernel
theorem d_law_940 : decode code 940 = .ok (.iload 4, 2) := by decide +kernel
theorem d_law_942 : decode code 942 = .ok (.iconst 2, 1) := by decide +kernel
theorem d_law_943 : decode code 943 = .ok (.iadd, 1) := by decide +kernel
theorem d_law_944 : decode code 944 = .ok (.iaload, 1) := by decide +kernel
theorem d_law_945 : decode code 945 = .ok (.aload_n 0, 1) := by decide +kernel
theorem d_law_946 : decode code 946 = .ok (.iload 4, 2) := by decide +kernel
theorem d_law_948 : decode code 948 = .ok (.iconst 3, 1) := by decide +kernel
theorem d_law_949 : decode code 949 = .ok (.iadd, 1) := by decide +kernel
theorem d_law_950 : decode code 950 = .ok (.iaload, 1) := by decide +kernel
theorem d_law_951 : decode code 951 = .ok (.aload_n 0, 1) := by decide +kernel
theorem d_law_952 : decode code 952 = .ok (.iload 4, 2) := by decide +kernel
theorem d_law_954 : decode code 954 = .ok (.iconst 4, 1) := by decide +kernel
theorem d_law_955 : decode code 955 = .ok (.iadd, 1) := by decide +kernel
theorem d_law_956 : decode code 956 = .ok (.iaload, 1) := by decide +kernel
theorem d_law_957 : decode code 957 = .ok (.invokevirtual 135, 3) := by decide +kernel
theorem d_law_960 : decode code 960 = .ok (.pop, 1) := by decide +kernel
theorem d_law_961 : decode code 961 = .ok (.aload_n 2, 1) := by decide +kernel
theorem d_law_962 : decode code 962 = .ok (.aload_n 0, 1) := by decide +kernel
theorem d_law_963 : decode code 963 = .ok (.iload 4, 2) := by decide +kernel
theorem d_law_965 : decode code 965 = .ok (.iconst 1, 1) := by decide +kernel
theorem d_law_966 : decode code 966 = .ok (.iadd, 1) := by decide +kernel
theorem d_law_967 : decode code 967 = .ok (.iaload, 1) := by decide +kernel
theorem d_law_968 : decode code 968 = .ok (.aload_n 0, 1) := by decide +kernel
theorem d_law_969 : decode code 969 = .ok (.iload 4, 2) := by decide +kernel
theorem d_law_971 : decode code 971 = .ok (.iconst 2, 1) := by decide +kernel
theorem d_law_972 : decode code 972 = .ok (.iadd, 1) := by decide +kernel
theorem d_law_973 : decode code 973 = .ok (.iaload, 1) := by decide +kernel
theorem d_law_974 : decode code 974 = .ok (.aload_n 0, 1) := by decide +kernel
theorem d_law_975 : decode code 975 = .ok (.iload 4, 2) := by decide +kernel
theorem d_law_977 : decode code 977 = .ok (.iconst 3, 1) := by decide +kernel
theorem d_law_978 : decode code 978 = .ok (.iadd, 1) := by decide +kernel
theorem d_law_979 : decode code 979 = .ok (.iaload, 1) := by decide +kernel
theorem d_law_980 : decode code 980 = .ok (.aload_n 0, 1) := by decide +kernel
theorem d_law_981 : decode code 981 = .ok (.iload 4, 2) := by decide +kernel
theorem d_law_983 : decode code 983 = .ok (.iconst 4, 1) := by decide +kernel
theorem d_law_984 : decode code 984 = .ok (.iadd, 1) := by decide +kernel
theorem d_law_985 : decode code 985 = .ok (.iaload, 1) := by decide +kernel
theorem d_law_986 : decode code 986 = .ok (.invokevirtual 138, 3) := by decide +kernel
theorem d_law_989 : decode code 989 = .ok (.pop, 1) := by decide +kernel
theorem d_law_990 : decode code 990 = .ok (.goto 563, 3) := by decide +kernel
theorem d_law_993 : decode code 993 = .ok (.aload_n 1, 1) := by decide +kernel
theorem d_law_994 : decode code 994 = .ok (.aload_n 0, 1) := by decide +kernel
theorem d_law_995 : decode code 995 = .ok (.iload 4, 2) := by decide +kernel
theorem d_law_997 : decode code 997 = .ok (.iconst 1, 1) := by decide +kernel
theorem d_law_998 : decode code 998 = .ok (.iadd, 1) := by decide +kernel
theorem d_law_999 : decode code 999 = .ok (.iaload, 1) := by decide +kernel
theorem d_law_1000 : decode code 1000 = .ok (.aload_n 0, 1) := by decide +kernel
theorem d_law_1001 : decode code 1001 = .ok (.iload 4, 2) := by decide +kernel
theorem d_law_1003 : decode code 1003 = .ok (.iconst 2, 1) := by decide +kernel
theorem d_law_1004 : decode code 1004 = .ok (.iadd, 1) := by decide +kernel
theorem d_law_1005 : decode code 1005 = .ok (.iaload, 1) := by decide +kernel
theorem d_law_1006 : decode code 1006 = .ok (.invokevirtual 139, 3) := by decide +kernel
theorem d_law_1009 : decode code 1009 = .ok (.pop, 1) := by decide +kernel
theorem d_law_1010 : decode code 1010 = .ok (.aload_n 2, 1) := by decide +kernel
theorem d_law_1011 : decode code 1011 = .ok (.aload_n 0, 1) := by decide +kernel
theorem d_law_1012 : decode code 1012 = .ok (.iload 4, 2) := by decide +kernel
theorem d_law_1014 : decode code 1014 = .ok (.iconst 1, 1) := by decide +kernel
theorem d_law_1015 : decode code 1015 = .ok (.iadd, 1) := by decide +kernel
theorem d_law_1016 : decode code 1016 = .ok (.iaload, 1) := by decide +kernel
theorem d_law_1017 : decode code 1017 = .ok (.aload_n 0, 1) := by decide +kernel
theorem d_law_1018 : decode code 1018 = .ok (.iload 4, 2) := by decide +kernel
theorem d_law_1020 : decode code 1020 = .ok (.iconst 2, 1) := by decide +kernel
theorem d_law_1021 : decode code 1021 = .ok (.iadd, 1) := by decide +kernel
theorem d_law_1022 : decode code 1022 = .ok (.iaload, 1) := by decide +kernel
theorem d_law_1023 : decode code 1023 = .ok (.invokevirtual 142, 3) := by decide +kernel
theorem d_law_1026 : decode code 1026 = .ok (.pop, 1) := by decide +kernel
theorem d_law_1027 : decode code 1027 = .ok (.goto 526, 3) := by decide +kernel
theorem d_law_1030 : decode code 1030 = .ok (.aload_n 1, 1) := by decide +kernel
theorem d_law_1031 : decode code 1031 = .ok (.aload_n 0, 1) := by decide +kernel
theorem d_law_1032 : decode code 1032 = .ok (.iload 4, 2) := by decide +kernel
theorem d_law_1034 : decode code 1034 = .ok (.iconst 1, 1) := by decide +kernel
theorem d_law_1035 : decode code 1035 = .ok (.iadd, 1) := by decide +kernel
theorem d_law_1036 : decode code 1036 = .ok (.iaload, 1) := by decide +kernel
theorem d_law_1037 : decode code 1037 = .ok (.aload_n 0, 1) := by decide +kernel
theorem d_law_1038 : decode code 1038 = .ok (.iload 4, 2) := by decide +kernel
theorem d_law_1040 : decode code 1040 = .ok (.iconst 2, 1) := by decide +kernel
theorem d_law_1041 : decode code 1041 = .ok (.iadd, 1) := by decide +kernel
theorem d_law_1042 : decode code 1042 = .ok (.iaload, 1) := by decide +kernel
theorem d_law_1043 : decode code 1043 = .ok (.invokevirtual 143, 3) := by decide +kernel
theorem d_law_1046 : decode code 1046 = .ok (.pop, 1) := by decide +kernel
theorem d_law_1047 : decode code 1047 = .ok (.aload_n 2, 1) := by decide +kernel
theorem d_law_1048 : decode code 1048 = .ok (.aload_n 0, 1) := by decide +kernel
theorem d_law_1049 : decode code 1049 = .ok (.iload 4, 2) := by decide +kernel
theorem d_law_1051 : decode code 1051 = .ok (.iconst 1, 1) := by decide +kernel
theorem d_law_1052 : decode code 1052 = .ok (.iadd, 1) := by decide +kernel
theorem d_law_1053 : decode code 1053 = .ok (.iaload, 1) := by decide +kernel
theorem d_law_1054 : decode code 1054 = .ok (.aload_n 0, 1) := by decide +kernel
theorem d_law_1055 : decode code 1055 = .ok (.iload 4, 2) := by decide +kernel
theorem d_law_1057 : decode code 1057 = .ok (.iconst 2, 1) := by decide +kernel
theorem d_law_1058 : decode code 1058 = .ok (.iadd, 1) := by decide +kernel
theorem d_law_1059 : decode code 1059 = .ok (.iaload, 1) := by decide +kernel
theorem d_law_1060 : decode code 1060 = .ok (.invokevirtual 146, 3) := by decide +kernel
theorem d_law_1063 : decode code 1063 = .ok (.pop, 1) := by decide +kernel
theorem d_law_1064 : decode code 1064 = .ok (.goto 489, 3) := by decide +kernel
theorem d_law_1067 : decode code 1067 = .ok (.aload_n 1, 1) := by decide +kernel
theorem d_law_1068 : decode code 1068 = .ok (.aload_n 0, 1) := by decide +kernel
theorem d_law_1069 : decode code 1069 = .ok (.iload 4, 2) := by decide +kernel
theorem d_law_1071 : decode code 1071 = .ok (.iconst 1, 1) := by decide +kernel
theorem d_law_1072 : decode code 1072 = .ok (.iadd, 1) := by decide +kernel
theorem d_law_1073 : decode code 1073 = .ok (.iaload, 1) := by decide +kernel
theorem d_law_1074 : decode code 1074 = .ok (.aload_n 0, 1) := by decide +kernel
theorem d_law_1075 : decode code 1075 = .ok (.iload 4, 2) := by decide +kernel
theorem d_law_1077 : decode code 1077 = .ok (.iconst 2, 1) := by decide +kernel
theorem d_law_1078 : decode code 1078 = .ok (.iadd, 1) := by decide +kernel
theorem d_law_1079 : decode code 1079 = .ok (.iaload, 1) := by decide +kernel
theorem d_law_1080 : decode code 1080 = .ok (.invokevirtual 147, 3) := by decide +kernel
theorem d_law_1083 : decode code 1083 = .ok (.pop, 1) := by decide +kernel
theorem d_law_1084 : decode code 1084 = .ok (.aload_n 2, 1) := by decide +kernel
theorem d_law_1085 : decode code 1085 = .ok (.aload_n 0, 1) := by decide +kernel
theorem d_law_1086 : decode code 1086 = .ok (.iload 4, 2) := by decide +kernel
theorem d_law_1088 : decode code 1088 = .ok (.iconst 1, 1) := by decide +kernel
theorem d_law_1089 : decode code 1089 = .ok (.iadd, 1) := by decide +kernel
theorem d_law_1090 : decode code 1090 = .ok (.iaload, 1) := by decide +kernel
theorem d_law_1091 : decode code 1091 = .ok (.aload_n 0, 1) := by decide +kernel
theorem d_law_1092 : decode code 1092 = .ok (.iload 4, 2) := by decide +kernel
theorem d_law_1094 : decode code 1094 = .ok (.iconst 2, 1) := by decide +kernel
theorem d_law_1095 : decode code 1095 = .ok (.iadd, 1) := by decide +kernel
theorem d_law_1096 : decode code 1096 = .ok (.iaload, 1) := by decide +kernel
theorem d_law_1097 : decode code 1097 = .ok (.invokevirtual 150, 3) := by decide +kernel
theorem d_law_1100 : decode code 1100 = .ok (.pop, 1) := by decide +kernel
theorem d_law_1101 : decode code 1101 = .ok (.goto 452, 3) := by decide +kernel
theorem d_law_1104 : decode code 1104 = .ok (.aload_n 1, 1) := by decide +kernel
theorem d_law_1105 : decode code 1105 = .ok (.aload_n 0, 1) := by decide +kernel
theorem d_law_1106 : decode code 1106 = .ok (.iload 4, 2) := by decide +kernel
theorem d_law_1108 : decode code 1108 = .ok (.iconst 1, 1) := by decide +kernel
theorem d_law_1109 : decode code 1109 = .ok (.iadd, 1) := by decide +kernel
theorem d_law_1110 : decode code 1110 = .ok (.iaload, 1) := by decide +kernel
theorem d_law_1111 : decode code 1111 = .ok (.aload_n 0, 1) := by decide +kernel
theorem d_law_1112 : decode code 1112 = .ok (.iload 4, 2) := by decide +kernel
theorem d_law_1114 : decode code 1114 = .ok (.iconst 2, 1) := by decide +kernel
theorem d_law_1115 : decode code 1115 = .ok (.iadd, 1) := by decide +kernel
theorem d_law_1116 : decode code 1116 = .ok (.iaload, 1) := by decide +kernel
theorem d_law_1117 : decode code 1117 = .ok (.invokevirtual 151, 3) := by decide +kernel
theorem d_law_1120 : decode code 1120 = .ok (.pop, 1) := by decide +kernel
theorem d_law_1121 : decode code 1121 = .ok (.aload_n 2, 1) := by decide +kernel
theorem d_law_1122 : decode code 1122 = .ok (.aload_n 0, 1) := by decide +kernel
theorem d_law_1123 : decode code 1123 = .ok (.iload 4, 2) := by decide +kernel
theorem d_law_1125 : decode code 1125 = .ok (.iconst 1, 1) := by decide +kernel
theorem d_law_1126 : decode code 1126 = .ok (.iadd, 1) := by decide +kernel
theorem d_law_1127 : decode code 1127 = .ok (.iaload, 1) := by decide +kernel
theorem d_law_1128 : decode code 1128 = .ok (.aload_n 0, 1) := by decide +kernel
theorem d_law_1129 : decode code 1129 = .ok (.iload 4, 2) := by decide +kernel
theorem d_law_1131 : decode code 1131 = .ok (.iconst 2, 1) := by decide +kernel
theorem d_law_1132 : decode code 1132 = .ok (.iadd, 1) := by decide +kernel
theorem d_law_1133 : decode code 1133 = .ok (.iaload, 1) := by decide +kernel
theorem d_law_1134 : decode code 1134 = .ok (.invokevirtual 154, 3) := by decide +kernel
theorem d_law_1137 : decode code 1137 = .ok (.pop, 1) := by decide +kernel
theorem d_law_1138 : decode code 1138 = .ok (.goto 415, 3) := by decide +kernel
theorem d_law_1141 : decode code 1141 = .ok (.aload_n 1, 1) := by decide +kernel
theorem d_law_1142 : decode code 1142 = .ok (.aload_n 0, 1) := by decide +kernel
theorem d_law_1143 : decode code 1143 = .ok (.iload 4, 2) := by decide +kernel
theorem d_law_1145 : decode code 1145 = .ok (.iconst 1, 1) := by decide +kernel
theorem d_law_1146 : decode code 1146 = .ok (.iadd, 1) := by decide +kernel
theorem d_law_1147 : decode code 1147 = .ok (.iaload, 1) := by decide +kernel
theorem d_law_1148 : decode code 1148 = .ok (.aload_n 0, 1) := by decide +kernel
theorem d_law_1149 : decode code 1149 = .ok (.iload 4, 2) := by decide +kernel
theorem d_law_1151 : decode code 1151 = .ok (.iconst 2, 1) := by decide +kernel
theorem d_law_1152 : decode code 1152 = .ok (.iadd, 1) := by decide +kernel
theorem d_law_1153 : decode code 1153 = .ok (.iaload, 1) := by decide +kernel
theorem d_law_1154 : decode code 1154 = .ok (.invokevirtual 155, 3) := by decide +kernel
theorem d_law_1157 : decode code 1157 = .ok (.pop, 1) := by decide +kernel
theorem d_law_1158 : decode code 1158 = .ok (.aload_n 2, 1) := by decide +kernel
theorem d_law_1159 : decode code 1159 = .ok (.aload_n 0, 1) := by decide +kernel
theorem d_law_1160 : decode code 1160 = .ok (.iload 4, 2) := by decide +kernel
theorem d_law_1162 : decode code 1162 = .ok (.iconst 1, 1) := by decide +kernel
theorem d_law_1163 : decode code 1163 = .ok (.iadd, 1) := by decide +kernel
theorem d_law_1164 : decode code 1164 = .ok (.iaload, 1) := by decide +kernel
theorem d_law_1165 : decode code 1165 = .ok (.aload_n 0, 1) := by decide +kernel
theorem d_law_1166 : decode code 1166 = .ok (.iload 4, 2) := by decide +kernel
theorem d_law_1168 : decode code 1168 = .ok (.iconst 2, 1) := by decide +kernel
theorem d_law_1169 : decode code 1169 = .ok (.iadd, 1) := by decide +kernel
theorem d_law_1170 : decode code 1170 = .ok (.iaload, 1) := by decide +kernel
theorem d_law_1171 : decode code 1171 = .ok (.invokevirtual 158, 3) := by decide +kernel
theorem d_law_1174 : decode code 1174 = .ok (.pop, 1) := by decide +kernel
theorem d_law_1175 : decode code 1175 = .ok (.goto 378, 3) := by decide +kernel
theorem d_law_1178 : decode code 1178 = .ok (.aload_n 1, 1) := by decide +kernel
theorem d_law_1179 : decode code 1179 = .ok (.aload_n 0, 1) := by decide +kernel
theorem d_law_1180 : decode code 1180 = .ok (.iload 4, 2) := by decide +kernel
theorem d_law_1182 : decode code 1182 = .ok (.iconst 1, 1) := by decide +kernel
theorem d_law_1183 : decode code 1183 = .ok (.iadd, 1) := by decide +kernel
theorem d_law_1184 : decode code 1184 = .ok (.iaload, 1) := by decide +kernel
theorem d_law_1185 : decode code 1185 = .ok (.invokevirtual 159, 3) := by decide +kernel
theorem d_law_1188 : decode code 1188 = .ok (.pop, 1) := by decide +kernel
theorem d_law_1189 : decode code 1189 = .ok (.aload_n 2, 1) := by decide +kernel
theorem d_law_1190 : decode code 1190 = .ok (.aload_n 0, 1) := by decide +kernel
theorem d_law_1191 : decode code 1191 = .ok (.iload 4, 2) := by decide +kernel
theorem d_law_1193 : decode code 1193 = .ok (.iconst 1, 1) := by decide +kernel
theorem d_law_1194 : decode code 1194 = .ok (.iadd, 1) := by decide +kernel
theorem d_law_1195 : decode code 1195 = .ok (.iaload, 1) := by decide +kernel
theorem d_law_1196 : decode code 1196 = .ok (.invokevirtual 162, 3) := by decide +kernel
theorem d_law_1199 : decode code 1199 = .ok (.pop, 1) := by decide +kernel
theorem d_law_1200 : decode code 1200 = .ok (.goto 353, 3) := by decide +kernel
theorem d_law_1203 : decode code 1203 = .ok (.aload_n 1, 1) := by decide +kernel
theorem d_law_1204 : decode code 1204 = .ok (.aload_n 0, 1) := by decide +kernel
theorem d_law_1205 : decode code 1205 = .ok (.iload 4, 2) := by decide +kernel
theorem d_law_1207 : decode code 1207 = .ok (.iconst 1, 1) := by decide +kernel
theorem d_law_1208 : decode code 1208 = .ok (.iadd, 1) := by decide +kernel
theorem d_law_1209 : decode code 1209 = .ok (.iaload, 1) := by decide +kernel
theorem d_law_1210 : decode code 1210 = .ok (.invokevirtual 163, 3) := by decide +kernel
theorem d_law_1213 : decode code 1213 = .ok (.pop, 1) := by decide +kernel
theorem d_law_1214 : decode code 1214 = .ok (.aload_n 2, 1) := by decide +kernel
theorem d_law_1215 : decode code 1215 = .ok (.aload_n 0, 1) := by decide +kernel
theorem d_law_1216 : decode code 1216 = .ok (.iload 4, 2) := by decide +kernel
theorem d_law_1218 : decode code 1218 = .ok (.iconst 1, 1) := by decide +kernel
theorem d_law_1219 : decode code 1219 = .ok (.iadd, 1) := by decide +kernel
theorem d_law_1220 : decode code 1220 = .ok (.iaload, 1) := by decide +kernel
theorem d_law_1221 : decode code 1221 = .ok (.invokevirtual 166, 3) := by decide +kernel
theorem d_law_1224 : decode code 1224 = .ok (.pop, 1) := by decide +kernel
theorem d_law_1225 : decode code 1225 = .ok (.goto 328, 3) := by decide +kernel
theorem d_law_1228 : decode code 1228 = .ok (.aload_n 1, 1) := by decide +kernel
theorem d_law_1229 : decode code 1229 = .ok (.invokevirtual 167, 3) := by decide +kernel
theorem d_law_1232 : decode code 1232 = .ok (.pop, 1) := by decide +kernel
theorem d_law_1233 : decode code 1233 = .ok (.aload_n 2, 1) := by decide +kernel
theorem d_law_1234 : decode code 1234 = .ok (.invokevirtual 170, 3) := by decide +kernel
theorem d_law_1237 : decode code 1237 = .ok (.pop, 1) := by decide +kernel
theorem d_law_1238 : decode code 1238 = .ok (.goto 315, 3) := by decide +kernel
theorem d_law_1241 : decode code 1241 = .ok (.aload_n 1, 1) := by decide +kernel
theorem d_law_1242 : decode code 1242 = .ok (.aload_n 0, 1) := by decide +kernel
theorem d_law_1243 : decode code 1243 = .ok (.iload 4, 2) := by decide +kernel
theorem d_law_1245 : decode code 1245 = .ok (.iconst 1, 1) := by decide +kernel
theorem d_law_1246 : decode code 1246 = .ok (.iadd, 1) := by decide +kernel
theorem d_law_1247 : decode code 1247 = .ok (.iaload, 1) := by decide +kernel
theorem d_law_1248 : decode code 1248 = .ok (.aload_n 0, 1) := by decide +kernel
theorem d_law_1249 : decode code 1249 = .ok (.iload 4, 2) := by decide +kernel
theorem d_law_1251 : decode code 1251 = .ok (.iconst 2, 1) := by decide +kernel
theorem d_law_1252 : decode code 1252 = .ok (.iadd, 1) := by decide +kernel
theorem d_law_1253 : decode code 1253 = .ok (.iaload, 1) := by decide +kernel
theorem d_law_1254 : decode code 1254 = .ok (.invokevirtual 171, 3) := by decide +kernel
theorem d_law_1257 : decode code 1257 = .ok (.pop, 1) := by decide +kernel
theorem d_law_1258 : decode code 1258 = .ok (.aload_n 2, 1) := by decide +kernel
theorem d_law_1259 : decode code 1259 = .ok (.aload_n 0, 1) := by decide +kernel
theorem d_law_1260 : decode code 1260 = .ok (.iload 4, 2) := by decide +kernel
theorem d_law_1262 : decode code 1262 = .ok (.iconst 1, 1) := by decide +kernel
theorem d_law_1263 : decode code 1263 = .ok (.iadd, 1) := by decide +kernel
theorem d_law_1264 : decode code 1264 = .ok (.iaload, 1) := by decide +kernel
theorem d_law_1265 : decode code 1265 = .ok (.aload_n 0, 1) := by decide +kernel
theorem d_law_1266 : decode code 1266 = .ok (.iload 4, 2) := by decide +kernel
theorem d_law_1268 : decode code 1268 = .ok (.iconst 2, 1) := by decide +kernel
theorem d_law_1269 : decode code 1269 = .ok (.iadd, 1) := by decide +kernel
theorem d_law_1270 : decode code 1270 = .ok (.iaload, 1) := by decide +kernel
theorem d_law_1271 : decode code 1271 = .ok (.invokevirtual 174, 3) := by decide +kernel
theorem d_law_1274 : decode code 1274 = .ok (.pop, 1) := by decide +kernel
theorem d_law_1275 : decode code 1275 = .ok (.goto 278, 3) := by decide +kernel
theorem d_law_1278 : decode code 1278 = .ok (.aload_n 1, 1) := by decide +kernel
theorem d_law_1279 : decode code 1279 = .ok (.aload_n 0, 1) := by decide +kernel
theorem d_law_1280 : decode code 1280 = .ok (.iload 4, 2) := by decide +kernel
theorem d_law_1282 : decode code 1282 = .ok (.iconst 1, 1) := by decide +kernel
theorem d_law_1283 : decode code 1283 = .ok (.iadd, 1) := by decide +kernel
theorem d_law_1284 : decode code 1284 = .ok (.iaload, 1) := by decide +kernel
theorem d_law_1285 : decode code 1285 = .ok (.aload_n 0, 1) := by decide +kernel
theorem d_law_1286 : decode code 1286 = .ok (.iload 4, 2) := by decide +kernel
theorem d_law_1288 : decode code 1288 = .ok (.iconst 2, 1) := by decide +kernel
theorem d_law_1289 : decode code 1289 = .ok (.iadd, 1) := by decide +kernel
theorem d_law_1290 : decode code 1290 = .ok (.iaload, 1) := by decide +kernel
theorem d_law_1291 : decode code 1291 = .ok (.aload_n 0, 1) := by decide +kernel
theorem d_law_1292 : decode code 1292 = .ok (.iload 4, 2) := by decide +kernel
theorem d_law_1294 : decode code 1294 = .ok (.iconst 3, 1) := by decide +kernel
theorem d_law_1295 : decode code 1295 = .ok (.iadd, 1) := by decide +kernel
theorem d_law_1296 : decode code 1296 = .ok (.iaload, 1) := by decide +kernel
theorem d_law_1297 : decode code 1297 = .ok (.invokevirtual 175, 3) := by decide +kernel
theorem d_law_1300 : decode code 1300 = .ok (.pop, 1) := by decide +kernel
theorem d_law_1301 : decode code 1301 = .ok (.aload_n 2, 1) := by decide +kernel
theorem d_law_1302 : decode code 1302 = .ok (.aload_n 0, 1) := by decide +kernel
theorem d_law_1303 : decode code 1303 = .ok (.iload 4, 2) := by decide +kernel
theorem d_law_1305 : decode code 1305 = .ok (.iconst 1, 1) := by decide +kernel
theorem d_law_1306 : decode code 1306 = .ok (.iadd, 1) := by decide +kernel
theorem d_law_1307 : decode code 1307 = .ok (.iaload, 1) := by decide +kernel
theorem d_law_1308 : decode code 1308 = .ok (.aload_n 0, 1) := by decide +kernel
theorem d_law_1309 : decode code 1309 = .ok (.iload 4, 2) := by decide +kernel
theorem d_law_1311 : decode code 1311 = .ok (.iconst 2, 1) := by decide +kernel
theorem d_law_1312 : decode code 1312 = .ok (.iadd, 1) := by decide +kernel
theorem d_law_1313 : decode code 1313 = .ok (.iaload, 1) := by decide +kernel
theorem d_law_1314 : decode code 1314 = .ok (.aload_n 0, 1) := by decide +kernel
theorem d_law_1315 : decode code 1315 = .ok (.iload 4, 2) := by decide +kernel
theorem d_law_1317 : decode code 1317 = .ok (.iconst 3, 1) := by decide +kernel
theorem d_law_1318 : decode code 1318 = .ok (.iadd, 1) := by decide +kernel
theorem d_law_1319 : decode code 1319 = .ok (.iaload, 1) := by decide +kernel
theorem d_law_1320 : decode code 1320 = .ok (.invokevirtual 178, 3) := by decide +kernel
theorem d_law_1323 : decode code 1323 = .ok (.pop, 1) := by decide +kernel
theorem d_law_1324 : decode code 1324 = .ok (.goto 229, 3) := by decide +kernel
theorem d_law_1327 : decode code 1327 = .ok (.aload_n 1, 1) := by decide +kernel
theorem d_law_1328 : decode code 1328 = .ok (.aload_n 0, 1) := by decide +kernel
theorem d_law_1329 : decode code 1329 = .ok (.iload 4, 2) := by decide +kernel
theorem d_law_1331 : decode code 1331 = .ok (.iconst 1, 1) := by decide +kernel
theorem d_law_1332 : decode code 1332 = .ok (.iadd, 1) := by decide +kernel
theorem d_law_1333 : decode code 1333 = .ok (.iaload, 1) := by decide +kernel
theorem d_law_1334 : decode code 1334 = .ok (.invokevirtual 179, 3) := by decide +kernel
theorem d_law_1337 : decode code 1337 = .ok (.pop, 1) := by decide +kernel
theorem d_law_1338 : decode code 1338 = .ok (.aload_n 2, 1) := by decide +kernel
theorem d_law_1339 : decode code 1339 = .ok (.aload_n 0, 1) := by decide +kernel
theorem d_law_1340 : decode code 1340 = .ok (.iload 4, 2) := by decide +kernel
theorem d_law_1342 : decode code 1342 = .ok (.iconst 1, 1) := by decide +kernel
theorem d_law_1343 : decode code 1343 = .ok (.iadd, 1) := by decide +kernel
theorem d_law_1344 : decode code 1344 = .ok (.iaload, 1) := by decide +kernel
theorem d_law_1345 : decode code 1345 = .ok (.invokevirtual 182, 3) := by decide +kernel
theorem d_law_1348 : decode code 1348 = .ok (.pop, 1) := by decide +kernel
theorem d_law_1349 : decode code 1349 = .ok (.goto 204, 3) := by decide +kernel
theorem d_law_1352 : decode code 1352 = .ok (.aload_n 1, 1) := by decide +kernel
theorem d_law_1353 : decode code 1353 = .ok (.aload_n 0, 1) := by decide +kernel
theorem d_law_1354 : decode code 1354 = .ok (.iload 4, 2) := by decide +kernel
theorem d_law_1356 : decode code 1356 = .ok (.iconst 1, 1) := by decide +kernel
theorem d_law_1357 : decode code 1357 = .ok (.iadd, 1) := by decide +kernel
theorem d_law_1358 : decode code 1358 = .ok (.iaload, 1) := by decide +kernel
theorem d_law_1359 : decode code 1359 = .ok (.aload_n 0, 1) := by decide +kernel
theorem d_law_1360 : decode code 1360 = .ok (.iload 4, 2) := by decide +kernel
theorem d_law_1362 : decode code 1362 = .ok (.iconst 2, 1) := by decide +kernel
theorem d_law_1363 : decode code 1363 = .ok (.iadd, 1) := by decide +kernel
theorem d_law_1364 : decode code 1364 = .ok (.iaload, 1) := by decide +kernel
theorem d_law_1365 : decode code 1365 = .ok (.invokevirtual 183, 3) := by decide +kernel
theorem d_law_1368 : decode code 1368 = .ok (.pop, 1) := by decide +kernel
theorem d_law_1369 : decode code 1369 = .ok (.aload_n 2, 1) := by decide +kernel
theorem d_law_1370 : decode code 1370 = .ok (.aload_n 0, 1) := by decide +kernel
theorem d_law_1371 : decode code 1371 = .ok (.iload 4, 2) := by decide +kernel
theorem d_law_1373 : decode code 1373 = .ok (.iconst 1, 1) := by decide +kernel
theorem d_law_1374 : decode code 1374 = .ok (.iadd, 1) := by decide +kernel
theorem d_law_1375 : decode code 1375 = .ok (.iaload, 1) := by decide +kernel
theorem d_law_1376 : decode code 1376 = .ok (.aload_n 0, 1) := by decide +kernel
theorem d_law_1377 : decode code 1377 = .ok (.iload 4, 2) := by decide +kernel
theorem d_law_1379 : decode code 1379 = .ok (.iconst 2, 1) := by decide +kernel
theorem d_law_1380 : decode code 1380 = .ok (.iadd, 1) := by decide +kernel
theorem d_law_1381 : decode code 1381 = .ok (.iaload, 1) := by decide +kernel
theorem d_law_1382 : decode code 1382 = .ok (.invokevirtual 186, 3) := by decide +kernel
theorem d_law_1385 : decode code 1385 = .ok (.pop, 1) := by decide +kernel
theorem d_law_1386 : decode code 1386 = .ok (.goto 167, 3) := by decide +kernel
theorem d_law_1389 : decode code 1389 = .ok (.aload_n 1, 1) := by decide +kernel
theorem d_law_1390 : decode code 1390 = .ok (.aload_n 0, 1) := by decide +kernel
theorem d_law_1391 : decode code 1391 = .ok (.iload 4, 2) := by decide +kernel
theorem d_law_1393 : decode code 1393 = .ok (.iconst 1, 1) := by decide +kernel
theorem d_law_1394 : decode code 1394 = .ok (.iadd, 1) := by decide +kernel
theorem d_law_1395 : decode code 1395 = .ok (.iaload, 1) := by decide +kernel
theorem d_law_1396 : decode code 1396 = .ok (.aload_n 0, 1) := by decide +kernel
theorem d_law_1397 : decode code 1397 = .ok (.iload 4, 2) := by decide +kernel
theorem d_law_1399 : decode code 1399 = .ok (.iconst 2, 1) := by decide +kernel
theorem d_law_1400 : decode code 1400 = .ok (.iadd, 1) := by decide +kernel
theorem d_law_1401 : decode code 1401 = .ok (.iaload, 1) := by decide +kernel
theorem d_law_1402 : decode code 1402 = .ok (.aload_n 0, 1) := by decide +kernel
theorem d_law_1403 : decode code 1403 = .ok (.iload 4, 2) := by decide +kernel
theorem d_law_1405 : decode code 1405 = .ok (.iconst 3, 1) := by decide +kernel
theorem d_law_1406 : decode code 1406 = .ok (.iadd, 1) := by decide +kernel
theorem d_law_1407 : decode code 1407 = .ok (.iaload, 1) := by decide +kernel
theorem d_law_1408 : decode code 1408 = .ok (.aload_n 0, 1) := by decide +kernel
theorem d_law_1409 : decode code 1409 = .ok (.iload 4, 2) := by decide +kernel
theorem d_law_1411 : decode code 1411 = .ok (.iconst 4, 1) := by decide +kernel
theorem d_law_1412 : decode code 1412 = .ok (.iadd, 1) := by decide +kernel
theorem d_law_1413 : decode code 1413 = .ok (.iaload, 1) := by decide +kernel
theorem d_law_1414 : decode code 1414 = .ok (.invokevirtual 187, 3) := by decide +kernel
theorem d_law_1417 : decode code 1417 = .ok (.pop, 1) := by decide +kernel
theorem d_law_1418 : decode code 1418 = .ok (.aload_n 2, 1) := by decide +kernel
theorem d_law_1419 : decode code 1419 = .ok (.aload_n 0, 1) := by decide +kernel
theorem d_law_1420 : decode code 1420 = .ok (.iload 4, 2) := by decide +kernel
theorem d_law_1422 : decode code 1422 = .ok (.iconst 1, 1) := by decide +kernel
theorem d_law_1423 : decode code 1423 = .ok (.iadd, 1) := by decide +kernel
theorem d_law_1424 : decode code 1424 = .ok (.iaload, 1) := by decide +kernel
theorem d_law_1425 : decode code 1425 = .ok (.aload_n 0, 1) := by decide +kernel
theorem d_law_1426 : decode code 1426 = .ok (.iload 4, 2) := by decide +kernel
theorem d_law_1428 : decode code 1428 = .ok (.iconst 2, 1) := by decide +kernel
theorem d_law_1429 : decode code 1429 = .ok (.iadd, 1) := by decide +kernel
theorem d_law_1430 : decode code 1430 = .ok (.iaload, 1) := by decide +kernel
theorem d_law_1431 : decode code 1431 = .ok (.aload_n 0, 1) := by decide +kernel
theorem d_law_1432 : decode code 1432 = .ok (.iload 4, 2) := by decide +kernel
theorem d_law_1434 : decode code 1434 = .ok (.iconst 3, 1) := by decide +kernel
theorem d_law_1435 : decode code 1435 = .ok (.iadd, 1) := by decide +kernel
theorem d_law_1436 : decode code 1436 = .ok (.iaload, 1) := by decide +kernel
theorem d_law_1437 : decode code 1437 = .ok (.aload_n 0, 1) := by decide +kernel
theorem d_law_1438 : decode code 1438 = .ok (.iload 4, 2) := by decide +kernel
theorem d_law_1440 : decode code 1440 = .ok (.iconst 4, 1) := by decide +kernel
theorem d_law_1441 : decode code 1441 = .ok (.iadd, 1) := by decide +kernel
theorem d_law_1442 : decode code 1442 = .ok (.iaload, 1) := by decide +kernel
theorem d_law_1443 : decode code 1443 = .ok (.invokevirtual 190, 3) := by decide +kernel
theorem d_law_1446 : decode code 1446 = .ok (.pop, 1) := by decide +kernel
theorem d_law_1447 : decode code 1447 = .ok (.goto 106, 3) := by decide +kernel
theorem d_law_1450 : decode code 1450 = .ok (.aload_n 1, 1) := by decide +kernel
theorem d_law_1451 : decode code 1451 = .ok (.aload_n 0, 1) := by decide +kernel
theorem d_law_1452 : decode code 1452 = .ok (.iload 4, 2) := by decide +kernel
theorem d_law_1454 : decode code 1454 = .ok (.iconst 1, 1) := by decide +kernel
theorem d_law_1455 : decode code 1455 = .ok (.iadd, 1) := by decide +kernel
theorem d_law_1456 : decode code 1456 = .ok (.iaload, 1) := by decide +kernel
theorem d_law_1457 : decode code 1457 = .ok (.invokevirtual 191, 3) := by decide +kernel
theorem d_law_1460 : decode code 1460 = .ok (.pop, 1) := by decide +kernel
theorem d_law_1461 : decode code 1461 = .ok (.aload_n 2, 1) := by decide +kernel
theorem d_law_1462 : decode code 1462 = .ok (.aload_n 0, 1) := by decide +kernel
theorem d_law_1463 : decode code 1463 = .ok (.iload 4, 2) := by decide +kernel
theorem d_law_1465 : decode code 1465 = .ok (.iconst 1, 1) := by decide +kernel
theorem d_law_1466 : decode code 1466 = .ok (.iadd, 1) := by decide +kernel
theorem d_law_1467 : decode code 1467 = .ok (.iaload, 1) := by decide +kernel
theorem d_law_1468 : decode code 1468 = .ok (.invokevirtual 194, 3) := by decide +kernel
theorem d_law_1471 : decode code 1471 = .ok (.pop, 1) := by decide +kernel
theorem d_law_1472 : decode code 1472 = .ok (.goto 81, 3) := by decide +kernel
theorem d_law_1475 : decode code 1475 = .ok (.aload_n 1, 1) := by decide +kernel
theorem d_law_1476 : decode code 1476 = .ok (.aload_n 0, 1) := by decide +kernel
theorem d_law_1477 : decode code 1477 = .ok (.iload 4, 2) := by decide +kernel
theorem d_law_1479 : decode code 1479 = .ok (.iconst 1, 1) := by decide +kernel
theorem d_law_1480 : decode code 1480 = .ok (.iadd, 1) := by decide +kernel
theorem d_law_1481 : decode code 1481 = .ok (.iaload, 1) := by decide +kernel
theorem d_law_1482 : decode code 1482 = .ok (.invokevirtual 195, 3) := by decide +kernel
theorem d_law_1485 : decode code 1485 = .ok (.pop, 1) := by decide +kernel
theorem d_law_1486 : decode code 1486 = .ok (.aload_n 2, 1) := by decide +kernel
theorem d_law_1487 : decode code 1487 = .ok (.aload_n 0, 1) := by decide +kernel
theorem d_law_1488 : decode code 1488 = .ok (.iload 4, 2) := by decide +kernel
theorem d_law_1490 : decode code 1490 = .ok (.iconst 1, 1) := by decide +kernel
theorem d_law_1491 : decode code 1491 = .ok (.iadd, 1) := by decide +kernel
theorem d_law_1492 : decode code 1492 = .ok (.iaload, 1) := by decide +kernel
theorem d_law_1493 : decode code 1493 = .ok (.invokevirtual 198, 3) := by decide +kernel
theorem d_law_1496 : decode code 1496 = .ok (.pop, 1) := by decide +kernel
theorem d_law_1497 : decode code 1497 = .ok (.goto 56, 3) := by decide +kernel
theorem d_law_1500 : decode code 1500 = .ok (.aload_n 1, 1) := by decide +kernel
theorem d_law_1501 : decode code 1501 = .ok (.aload_n 0, 1) := by decide +kernel
theorem d_law_1502 : decode code 1502 = .ok (.iload 4, 2) := by decide +kernel
theorem d_law_1504 : decode code 1504 = .ok (.iconst 1, 1) := by decide +kernel
theorem d_law_1505 : decode code 1505 = .ok (.iadd, 1) := by decide +kernel
theorem d_law_1506 : decode code 1506 = .ok (.iaload, 1) := by decide +kernel
theorem d_law_1507 : decode code 1507 = .ok (.invokevirtual 199, 3) := by decide +kernel
theorem d_law_1510 : decode code 1510 = .ok (.pop, 1) := by decide +kernel
theorem d_law_1511 : decode code 1511 = .ok (.aload_n 2, 1) := by decide +kernel
theorem d_law_1512 : decode code 1512 = .ok (.aload_n 0, 1) := by decide +kernel
theorem d_law_1513 : decode code 1513 = .ok (.iload 4, 2) := by decide +kernel
theorem d_law_1515 : decode code 1515 = .ok (.iconst 1, 1) := by decide +kernel
theorem d_law_1516 : decode code 1516 = .ok (.iadd, 1) := by decide +kernel
theorem d_law_1517 : decode code 1517 = .ok (.iaload, 1) := by decide +kernel
theorem d_law_1518 : decode code 1518 = .ok (.invokevirtual 202, 3) := by decide +kernel
theorem d_law_1521 : decode code 1521 = .ok (.pop, 1) := by decide +kernel
theorem d_law_1522 : decode code 1522 = .ok (.goto 31, 3) := by decide +kernel
theorem d_law_1525 : decode code 1525 = .ok (.aload_n 1, 1) := by decide +kernel
theorem d_law_1526 : decode code 1526 = .ok (.aload_n 0, 1) := by decide +kernel
theorem d_law_1527 : decode code 1527 = .ok (.iload 4, 2) := by decide +kernel
theorem d_law_1529 : decode code 1529 = .ok (.iconst 1, 1) := by decide +kernel
theorem d_law_1530 : decode code 1530 = .ok (.iadd, 1) := by decide +kernel
theorem d_law_1531 : decode code 1531 = .ok (.iaload, 1) := by decide +kernel
theorem d_law_1532 : decode code 1532 = .ok (.aload_n 3, 1) := by decide +kernel
theorem d_law_1533 : decode code 1533 = .ok (.invokestatic 203, 3) := by decide +kernel
theorem d_law_1536 : decode code 1536 = .ok (.istore 5, 2) := by decide +kernel
theorem d_law_1538 : decode code 1538 = .ok (.aload_n 2, 1) := by decide +kernel
theorem d_law_1539 : decode code 1539 = .ok (.aload_n 0, 1) := by decide +kernel
theorem d_law_1540 : decode code 1540 = .ok (.iload 4, 2) := by decide +kernel
theorem d_law_1542 : decode code 1542 = .ok (.iconst 1, 1) := by decide +kernel
theorem d_law_1543 : decode code 1543 = .ok (.iadd, 1) := by decide +kernel
theorem d_law_1544 : decode code 1544 = .ok (.iaload, 1) := by decide +kernel
theorem d_law_1545 : decode code 1545 = .ok (.invokevirtual 206, 3) := by decide +kernel
theorem d_law_1548 : decode code 1548 = .ok (.istore 6, 2) := by decide +kernel
theorem d_law_1550 : decode code 1550 = .ok (.goto 3, 3) := by decide +kernel
theorem d_law_1553 : decode code 1553 = .ok (.iinc 4 5, 3) := by decide +kernel
theorem d_law_1556 : decode code 1556 = .ok (.goto (-1533), 3) := by decide +kernel
theorem d_law_1559 : decode code 1559 = .ok (.iconst 1, 1) := by decide +kernel
theorem d_law_1560 : decode code 1560 = .ok (.ireturn, 1) := by decide +kernel
