theorem d_law_0 : decode code 0 = .ok (.new 8, 3) := by decide +kernel
theorem d_law_3 : decode code 3 = .ok (.dup, 1) := by decide +kernel
theorem d_law_4 : decode code 4 = .ok (.invokespecial 22, 3) := by decide +kernel
theorem d_law_7 : decode code 7 = .ok (.astore_n 1, 1) := by decide +kernel
theorem d_law_8 : decode code 8 = .ok (.new 23, 3) := by decide +kernel
theorem d_law_11 : decode code 11 = .ok (.dup, 1) := by decide +kernel
theorem d_law_12 : decode code 12 = .ok (.invokespecial 25, 3) := by decide +kernel
theorem d_law_15 : decode code 15 = .ok (.astore_n 2, 1) := by decide +kernel
theorem d_law_16 : decode code 16 = .ok (.iconst 1, 1) := by decide +kernel
theorem d_law_17 : decode code 17 = .ok (.newarray .long, 2) := by decide +kernel
theorem d_law_19 : decode code 19 = .ok (.astore_n 3, 1) := by decide +kernel
theorem d_law_20 : decode code 20 = .ok (.iconst 0, 1) := by decide +kernel
theorem d_law_21 : decode code 21 = .ok (.istore 4, 2) := by decide +kernel
theorem d_law_23 : decode code 23 = .ok (.iload 4, 2) := by decide +kernel
theorem d_law_25 : decode code 25 = .ok (.aload_n 0, 1) := by decide +kernel
theorem d_law_26 : decode code 26 = .ok (.arraylength, 1) := by decide +kernel
theorem d_law_27 : decode code 27 = .ok (.iconst 5, 1) := by decide +kernel
theorem d_law_28 : decode code 28 = .ok (.isub, 1) := by decide +kernel
theorem d_law_29 : decode code 29 = .ok (.if_icmp .gt 1614, 3) := by decide +kernel
theorem d_law_32 : decode code 32 = .ok (.aload_n 0, 1) := by decide +kernel
theorem d_law_33 : decode code 33 = .ok (.iload 4, 2) := by decide +kernel
theorem d_law_35 : decode code 35 = .ok (.iaload, 1) := by decide +kernel
theorem d_law_36 : decode code 36 = .ok (.bipush 63, 2) := by decide +kernel
theorem d_law_38 : decode code 38 = .ok (.iand, 1) := by decide +kernel
theorem d_law_39 : decode code 39 = .ok (.tableswitch 1598 0 43 #[189, 214, 239, 252, 265, 278, 303, 371, 439, 476, 513, 526, 587, 612, 637, 650, 675, 688, 701, 738, 763, 800, 813, 838, 863, 900, 949, 1010, 1047, 1084, 1121, 1158, 1195, 1220, 1245, 1258, 1295, 1344, 1369, 1406, 1467, 1492, 1517, 1542], 189) := by decide +kernel
theorem d_law_228 : decode code 228 = .ok (.aload_n 1, 1) := by decide +kernel
theorem d_law_229 : decode code 229 = .ok (.aload_n 0, 1) := by decide +kernel
theorem d_law_230 : decode code 230 = .ok (.iload 4, 2) := by decide +kernel
theorem d_law_232 : decode code 232 = .ok (.iconst 1, 1) := by decide +kernel
theorem d_law_233 : decode code 233 = .ok (.iadd, 1) := by decide +kernel
theorem d_law_234 : decode code 234 = .ok (.iaload, 1) := by decide +kernel
theorem d_law_235 : decode code 235 = .ok (.invokevirtual 26, 3) := by decide +kernel
theorem d_law_238 : decode code 238 = .ok (.aload_n 2, 1) := by decide +kernel
theorem d_law_239 : decode code 239 = .ok (.aload_n 0, 1) := by decide +kernel
theorem d_law_240 : decode code 240 = .ok (.iload 4, 2) := by decide +kernel
theorem d_law_242 : decode code 242 = .ok (.iconst 1, 1) := by decide +kernel
theorem d_law_243 : decode code 243 = .ok (.iadd, 1) := by decide +kernel
theorem d_law_244 : decode code 244 = .ok (.iaload, 1) := by decide +kernel
theorem d_law_245 : decode code 245 = .ok (.invokevirtual 29, 3) := by decide +kernel
theorem d_law_248 : decode code 248 = .ok (.if_icmp .eq 1389, 3) := by decide +kernel
theorem d_law_251 : decode code 251 = .ok (.iconst 0, 1) := by decide +kernel
theorem d_law_252 : decode code 252 = .ok (.ireturn, 1) := by decide +kernel
theorem d_law_253 : decode code 253 = .ok (.aload_n 1, 1) := by decide +kernel
theorem d_law_254 : decode code 254 = .ok (.aload_n 0, 1) := by decide +kernel
theorem d_law_255 : decode code 255 = .ok (.iload 4, 2) := by decide +kernel
theorem d_law_257 : decode code 257 = .ok (.iconst 1, 1) := by decide +kernel
theorem d_law_258 : decode code 258 = .ok (.iadd, 1) := by decide +kernel
theorem d_law_259 : decode code 259 = .ok (.iaload, 1) := by decide +kernel
theorem d_law_260 : decode code 260 = .ok (.invokevirtual 30, 3) := by decide +kernel
theorem d_law_263 : decode code 263 = .ok (.aload_n 2, 1) := by decide +kernel
theorem d_law_264 : decode code 264 = .ok (.aload_n 0, 1) := by decide +kernel
theorem d_law_265 : decode code 265 = .ok (.iload 4, 2) := by decide +kernel
theorem d_law_267 : decode code 267 = .ok (.iconst 1, 1) := by decide +kernel
theorem d_law_268 : decode code 268 = .ok (.iadd, 1) := by decide +kernel
theorem d_law_269 : decode code 269 = .ok (.iaload, 1) := by decide +kernel
theorem d_law_270 : decode code 270 = .ok (.invokevirtual 34, 3) := by decide +kernel
theorem d_law_273 : decode code 273 = .ok (.if_icmp .eq 1364, 3) := by decide +kernel
theorem d_law_276 : decode code 276 = .ok (.iconst 0, 1) := by decide +kernel
theorem d_law_277 : decode code 277 = .ok (.ireturn, 1) := by decide +kernel
theorem d_law_278 : decode code 278 = .ok (.aload_n 1, 1) := by decide +kernel
theorem d_law_279 : decode code 279 = .ok (.invokevirtual 35, 3) := by decide +kernel
theorem d_law_282 : decode code 282 = .ok (.aload_n 2, 1) := by decide +kernel
theorem d_law_283 : decode code 283 = .ok (.invokevirtual 39, 3) := by decide +kernel
theorem d_law_286 : decode code 286 = .ok (.if_icmp .eq 1351, 3) := by decide +kernel
theorem d_law_289 : decode code 289 = .ok (.iconst 0, 1) := by decide +kernel
theorem d_law_290 : decode code 290 = .ok (.ireturn, 1) := by decide +kernel
theorem d_law_291 : decode code 291 = .ok (.aload_n 1, 1) := by decide +kernel
theorem d_law_292 : decode code 292 = .ok (.invokevirtual 40, 3) := by decide +kernel
theorem d_law_295 : decode code 295 = .ok (.aload_n 2, 1) := by decide +kernel
theorem d_law_296 : decode code 296 = .ok (.invokevirtual 43, 3) := by decide +kernel
theorem d_law_299 : decode code 299 = .ok (.if_icmp .eq 1338, 3) := by decide +kernel
theorem d_law_302 : decode code 302 = .ok (.iconst 0, 1) := by decide +kernel
theorem d_law_303 : decode code 303 = .ok (.ireturn, 1) := by decide +kernel
theorem d_law_304 : decode code 304 = .ok (.aload_n 1, 1) := by decide +kernel
theorem d_law_305 : decode code 305 = .ok (.invokevirtual 44, 3) := by decide +kernel
theorem d_law_308 : decode code 308 = .ok (.aload_n 2, 1) := by decide +kernel
theorem d_law_309 : decode code 309 = .ok (.invokevirtual 47, 3) := by decide +kernel
theorem d_law_312 : decode code 312 = .ok (.if_icmp .eq 1325, 3) := by decide +kernel
theorem d_law_315 : decode code 315 = .ok (.iconst 0, 1) := by decide +kernel
theorem d_law_316 : decode code 316 = .ok (.ireturn, 1) := by decide +kernel
theorem d_law_317 : decode code 317 = .ok (.aload_n 1, 1) := by decide +kernel
theorem d_law_318 : decode code 318 = .ok (.aload_n 0, 1) := by decide +kernel
theorem d_law_319 : decode code 319 = .ok (.iload 4, 2) := by decide +kernel
theorem d_law_321 : decode code 321 = .ok (.iconst 1, 1) := by decide +kernel
theorem d_law_322 : decode code 322 = .ok (.iadd, 1) := by decide +kernel
theorem d_law_323 : decode code 323 = .ok (.iaload, 1) := by decide +kernel
theorem d_law_324 : decode code 324 = .ok (.invokevirtual 48, 3) := by decide +kernel
theorem d_law_327 : decode code 327 = .ok (.aload_n 2, 1) := by decide +kernel
theorem d_law_328 : decode code 328 = .ok (.aload_n 0, 1) := by decide +kernel
theorem d_law_329 : decode code 329 = .ok (.iload 4, 2) := by decide +kernel
theorem d_law_331 : decode code 331 = .ok (.iconst 1, 1) := by decide +kernel
theorem d_law_332 : decode code 332 = .ok (.iadd, 1) := by decide +kernel
theorem d_law_333 : decode code 333 = .ok (.iaload, 1) := by decide +kernel
theorem d_law_334 : decode code 334 = .ok (.invokevirtual 51, 3) := by decide +kernel
theorem d_law_337 : decode code 337 = .ok (.if_icmp .eq 1300, 3) := by decide +kernel
theorem d_law_340 : decode code 340 = .ok (.iconst 0, 1) := by decide +kernel
theorem d_law_341 : decode code 341 = .ok (.ireturn, 1) := by decide +kernel
theorem d_law_342 : decode code 342 = .ok (.aload_n 1, 1) := by decide +kernel
theorem d_law_343 : decode code 343 = .ok (.aload_n 0, 1) := by decide +kernel
theorem d_law_344 : decode code 344 = .ok (.iload 4, 2) := by decide +kernel
theorem d_law_346 : decode code 346 = .ok (.iconst 1, 1) := by decide +kernel
theorem d_law_347 : decode code 347 = .ok (.iadd, 1) := by decide +kernel
theorem d_law_348 : decode code 348 = .ok (.iaload, 1) := by decide +kernel
theorem d_law_349 : decode code 349 = .ok (.aload_n 0, 1) := by decide +kernel
theorem d_law_350 : decode code 350 = .ok (.iload 4, 2) := by decide +kernel
theorem d_law_352 : decode code 352 = .ok (.iconst 2, 1) := by decide +kernel
theorem d_law_353 : decode code 353 = .ok (.iadd, 1) := by decide +kernel
theorem d_law_354 : decode code 354 = .ok (.iaload, 1) := by decide +kernel
theorem d_law_355 : decode code 355 = .ok (.aload_n 3, 1) := by decide +kernel
theorem d_law_356 : decode code 356 = .ok (.invokestatic 52, 3) := by decide +kernel
theorem d_law_359 : decode code 359 = .ok (.istore 5, 2) := by decide +kernel
theorem d_law_361 : decode code 361 = .ok (.aload_n 2, 1) := by decide +kernel
theorem d_law_362 : decode code 362 = .ok (.aload_n 0, 1) := by decide +kernel
theorem d_law_363 : decode code 363 = .ok (.iload 4, 2) := by decide +kernel
theorem d_law_365 : decode code 365 = .ok (.iconst 1, 1) := by decide +kernel
theorem d_law_366 : decode code 366 = .ok (.iadd, 1) := by decide +kernel
theorem d_law_367 : decode code 367 = .ok (.iaload, 1) := by decide +kernel
theorem d_law_368 : decode code 368 = .ok (.aload_n 0, 1) := by decide +kernel
theorem d_law_369 : decode code 369 = .ok (.iload 4, 2) := by decide +kernel
theorem d_law_371 : decode code 371 = .ok (.iconst 2, 1) := by decide +kernel
theorem d_law_372 : decode code 372 = .ok (.iadd, 1) := by decide +kernel
theorem d_law_373 : decode code 373 = .ok (.iaload, 1) := by decide +kernel
theorem d_law_374 : decode code 374 = .ok (.invokevirtual 57, 3) := by decide +kernel
theorem d_law_377 : decode code 377 = .ok (.istore 6, 2) := by decide +kernel
theorem d_law_379 : decode code 379 = .ok (.aload_n 2, 1) := by decide +kernel
theorem d_law_380 : decode code 380 = .ok (.invokevirtual 58, 3) := by decide +kernel
theorem d_law_383 : decode code 383 = .ok (.iload 5, 2) := by decide +kernel
theorem d_law_385 : decode code 385 = .ok (.if_icmp .eq 5, 3) := by decide +kernel
theorem d_law_388 : decode code 388 = .ok (.iconst 0, 1) := by decide +kernel
theorem d_law_389 : decode code 389 = .ok (.ireturn, 1) := by decide +kernel
theorem d_law_390 : decode code 390 = .ok (.iload 5, 2) := by decide +kernel
theorem d_law_392 : decode code 392 = .ok (.ifCond .ne 15, 3) := by decide +kernel
theorem d_law_395 : decode code 395 = .ok (.aload_n 3, 1) := by decide +kernel
theorem d_law_396 : decode code 396 = .ok (.iconst 0, 1) := by decide +kernel
theorem d_law_397 : decode code 397 = .ok (.laload, 1) := by decide +kernel
theorem d_law_398 : decode code 398 = .ok (.iload 6, 2) := by decide +kernel
theorem d_law_400 : decode code 400 = .ok (.i2l, 1) := by decide +kernel
theorem d_law_401 : decode code 401 = .ok (.lcmp, 1) := by decide +kernel
theorem d_law_402 : decode code 402 = .ok (.ifCond .eq 5, 3) := by decide +kernel
theorem d_law_405 : decode code 405 = .ok (.iconst 0, 1) := by decide +kernel
theorem d_law_406 : decode code 406 = .ok (.ireturn, 1) := by decide +kernel
theorem d_law_407 : decode code 407 = .ok (.goto 1230, 3) := by decide +kernel
theorem d_law_410 : decode code 410 = .ok (.aload_n 1, 1) := by decide +kernel
theorem d_law_411 : decode code 411 = .ok (.aload_n 0, 1) := by decide +kernel
theorem d_law_412 : decode code 412 = .ok (.iload 4, 2) := by decide +kernel
theorem d_law_414 : decode code 414 = .ok (.iconst 1, 1) := by decide +kernel
theorem d_law_415 : decode code 415 = .ok (.iadd, 1) := by decide +kernel
theorem d_law_416 : decode code 416 = .ok (.iaload, 1) := by decide +kernel
theorem d_law_417 : decode code 417 = .ok (.aload_n 0, 1) := by decide +kernel
theorem d_law_418 : decode code 418 = .ok (.iload 4, 2) := by decide +kernel
theorem d_law_420 : decode code 420 = .ok (.iconst 2, 1) := by decide +kernel
theorem d_law_421 : decode code 421 = .ok (.iadd, 1) := by decide +kernel
theorem d_law_422 : decode code 422 = .ok (.iaload, 1) := by decide +kernel
theorem d_law_423 : decode code 423 = .ok (.aload_n 3, 1) := by decide +kernel
theorem d_law_424 : decode code 424 = .ok (.invokestatic 61, 3) := by decide +kernel
theorem d_law_427 : decode code 427 = .ok (.istore 5, 2) := by decide +kernel
theorem d_law_429 : decode code 429 = .ok (.aload_n 2, 1) := by decide +kernel
theorem d_law_430 : decode code 430 = .ok (.aload_n 0, 1) := by decide +kernel
theorem d_law_431 : decode code 431 = .ok (.iload 4, 2) := by decide +kernel
theorem d_law_433 : decode code 433 = .ok (.iconst 1, 1) := by decide +kernel
theorem d_law_434 : decode code 434 = .ok (.iadd, 1) := by decide +kernel
theorem d_law_435 : decode code 435 = .ok (.iaload, 1) := by decide +kernel
theorem d_law_436 : decode code 436 = .ok (.aload_n 0, 1) := by decide +kernel
theorem d_law_437 : decode code 437 = .ok (.iload 4, 2) := by decide +kernel
theorem d_law_439 : decode code 439 = .ok (.iconst 2, 1) := by decide +kernel
theorem d_law_440 : decode code 440 = .ok (.iadd, 1) := by decide +kernel
theorem d_law_441 : decode code 441 = .ok (.iaload, 1) := by decide +kernel
theorem d_law_442 : decode code 442 = .ok (.invokevirtual 63, 3) := by decide +kernel
theorem d_law_445 : decode code 445 = .ok (.istore 6, 2) := by decide +kernel
theorem d_law_447 : decode code 447 = .ok (.aload_n 2, 1) := by decide +kernel
theorem d_law_448 : decode code 448 = .ok (.invokevirtual 58, 3) := by decide +kernel
theorem d_law_451 : decode code 451 = .ok (.iload 5, 2) := by decide +kernel
theorem d_law_453 : decode code 453 = .ok (.if_icmp .eq 5, 3) := by decide +kernel
theorem d_law_456 : decode code 456 = .ok (.iconst 0, 1) := by decide +kernel
theorem d_law_457 : decode code 457 = .ok (.ireturn, 1) := by decide +kernel
theorem d_law_458 : decode code 458 = .ok (.iload 5, 2) := by decide +kernel
theorem d_law_460 : decode code 460 = .ok (.ifCond .ne 15, 3) := by decide +kernel
theorem d_law_463 : decode code 463 = .ok (.aload_n 3, 1) := by decide +kernel
theorem d_law_464 : decode code 464 = .ok (.iconst 0, 1) := by decide +kernel
theorem d_law_465 : decode code 465 = .ok (.laload, 1) := by decide +kernel
theorem d_law_466 : decode code 466 = .ok (.iload 6, 2) := by decide +kernel
theorem d_law_468 : decode code 468 = .ok (.i2l, 1) := by decide +kernel
theorem d_law_469 : decode code 469 = .ok (.lcmp, 1) := by decide +kernel
theorem d_law_470 : decode code 470 = .ok (.ifCond .eq 5, 3) := by decide +kernel
theorem d_law_473 : decode code 473 = .ok (.iconst 0, 1) := by decide +kernel
theorem d_law_474 : decode code 474 = .ok (.ireturn, 1) := by decide +kernel
theorem d_law_475 : decode code 475 = .ok (.goto 1162, 3) := by decide +kernel
theorem d_law_478 : decode code 478 = .ok (.aload_n 1, 1) := by decide +kernel
theorem d_law_479 : decode code 479 = .ok (.aload_n 0, 1) := by decide +kernel
theorem d_law_480 : decode code 480 = .ok (.iload 4, 2) := by decide +kernel
theorem d_law_482 : decode code 482 = .ok (.iconst 1, 1) := by decide +kernel
theorem d_law_483 : decode code 483 = .ok (.iadd, 1) := by decide +kernel
theorem d_law_484 : decode code 484 = .ok (.iaload, 1) := by decide +kernel
theorem d_law_485 : decode code 485 = .ok (.aload_n 0, 1) := by decide +kernel
theorem d_law_486 : decode code 486 = .ok (.iload 4, 2) := by decide +kernel
theorem d_law_488 : decode code 488 = .ok (.iconst 2, 1) := by decide +kernel
theorem d_law_489 : decode code 489 = .ok (.iadd, 1) := by decide +kernel
theorem d_law_490 : decode code 490 = .ok (.iaload, 1) := by decide +kernel
theorem d_law_491 : decode code 491 = .ok (.invokevirtual 64, 3) := by decide +kernel
theorem d_law_494 : decode code 494 = .ok (.aload_n 2, 1) := by decide +kernel
theorem d_law_495 : decode code 495 = .ok (.aload_n 0, 1) := by decide +kernel
theorem d_law_496 : decode code 496 = .ok (.iload 4, 2) := by decide +kernel
theorem d_law_498 : decode code 498 = .ok (.iconst 1, 1) := by decide +kernel
theorem d_law_499 : decode code 499 = .ok (.iadd, 1) := by decide +kernel
theorem d_law_500 : decode code 500 = .ok (.iaload, 1) := by decide +kernel
theorem d_law_501 : decode code 501 = .ok (.aload_n 0, 1) := by decide +kernel
theorem d_law_502 : decode code 502 = .ok (.iload 4, 2) := by decide +kernel
theorem d_law_504 : decode code 504 = .ok (.iconst 2, 1) := by decide +kernel
theorem d_law_505 : decode code 505 = .ok (.iadd, 1) := by decide +kernel
theorem d_law_506 : decode code 506 = .ok (.iaload, 1) := by decide +kernel
theorem d_law_507 : decode code 507 = .ok (.invokevirtual 67, 3) := by decide +kernel
theorem d_law_510 : decode code 510 = .ok (.if_icmp .eq 1127, 3) := by decide +kernel
theorem d_law_513 : decode code 513 = .ok (.iconst 0, 1) := by decide +kernel
theorem d_law_514 : decode code 514 = .ok (.ireturn, 1) := by decide +kernel
theorem d_law_515 : decode code 515 = .ok (.aload_n 1, 1) := by decide +kernel
theorem d_law_516 : decode code 516 = .ok (.aload_n 0, 1) := by decide +kernel
theorem d_law_517 : decode code 517 = .ok (.iload 4, 2) := by decide +kernel
theorem d_law_519 : decode code 519 = .ok (.iconst 1, 1) := by decide +kernel
theorem d_law_520 : decode code 520 = .ok (.iadd, 1) := by decide +kernel
theorem d_law_521 : decode code 521 = .ok (.iaload, 1) := by decide +kernel
theorem d_law_522 : decode code 522 = .ok (.aload_n 0, 1) := by decide +kernel
theorem d_law_523 : decode code 523 = .ok (.iload 4, 2) := by decide +kernel
theorem d_law_525 : decode code 525 = .ok (.iconst 2, 1) := by decide +kernel
theorem d_law_526 : decode code 526 = .ok (.iadd, 1) := by decide +kernel
theorem d_law_527 : decode code 527 = .ok (.iaload, 1) := by decide +kernel
theorem d_law_528 : decode code 528 = .ok (.invokevirtual 68, 3) := by decide +kernel
theorem d_law_531 : decode code 531 = .ok (.aload_n 2, 1) := by decide +kernel
theorem d_law_532 : decode code 532 = .ok (.aload_n 0, 1) := by decide +kernel
theorem d_law_533 : decode code 533 = .ok (.iload 4, 2) := by decide +kernel
theorem d_law_535 : decode code 535 = .ok (.iconst 1, 1) := by decide +kernel
theorem d_law_536 : decode code 536 = .ok (.iadd, 1) := by decide +kernel
theorem d_law_537 : decode code 537 = .ok (.iaload, 1) := by decide +kernel
theorem d_law_538 : decode code 538 = .ok (.aload_n 0, 1) := by decide +kernel
theorem d_law_539 : decode code 539 = .ok (.iload 4, 2) := by decide +kernel
theorem d_law_541 : decode code 541 = .ok (.iconst 2, 1) := by decide +kernel
theorem d_law_542 : decode code 542 = .ok (.iadd, 1) := by decide +kernel
theorem d_law_543 : decode code 543 = .ok (.iaload, 1) := by decide +kernel
theorem d_law_544 : decode code 544 = .ok (.invokevirtual 71, 3) := by decide +kernel
theorem d_law_547 : decode code 547 = .ok (.if_icmp .eq 1090, 3) := by decide +kernel
theorem d_law_550 : decode code 550 = .ok (.iconst 0, 1) := by decide +kernel
theorem d_law_551 : decode code 551 = .ok (.ireturn, 1) := by decide +kernel
theorem d_law_552 : decode code 552 = .ok (.aload_n 1, 1) := by decide +kernel
theorem d_law_553 : decode code 553 = .ok (.invokevirtual 72, 3) := by decide +kernel
theorem d_law_556 : decode code 556 = .ok (.aload_n 2, 1) := by decide +kernel
theorem d_law_557 : decode code 557 = .ok (.invokevirtual 75, 3) := by decide +kernel
theorem d_law_560 : decode code 560 = .ok (.if_icmp .eq 1077, 3) := by decide +kernel
theorem d_law_563 : decode code 563 = .ok (.iconst 0, 1) := by decide +kernel
theorem d_law_564 : decode code 564 = .ok (.ireturn, 1) := by decide +kernel
theorem d_law_565 : decode code 565 = .ok (.aload_n 1, 1) := by decide +kernel
theorem d_law_566 : decode code 566 = .ok (.aload_n 0, 1) := by decide +kernel
theorem d_law_567 : decode code 567 = .ok (.iload 4, 2) := by decide +kernel
theorem d_law_569 : decode code 569 = .ok (.iconst 1, 1) := by decide +kernel
theorem d_law_570 : decode code 570 = .ok (.iadd, 1) := by decide +kernel
theorem d_law_571 : decode code 571 = .ok (.iaload, 1) := by decide +kernel
theorem d_law_572 : decode code 572 = .ok (.aload_n 0, 1) := by decide +kernel
theorem d_law_573 : decode code 573 = .ok (.iload 4, 2) := by decide +kernel
theorem d_law_575 : decode code 575 = .ok (.iconst 2, 1) := by decide +kernel
theorem d_law_576 : decode code 576 = .ok (.iadd, 1) := by decide +kernel
theorem d_law_577 : decode code 577 = .ok (.iaload, 1) := by decide +kernel
theorem d_law_578 : decode code 578 = .ok (.aload_n 0, 1) := by decide +kernel
theorem d_law_579 : decode code 579 = .ok (.iload 4, 2) := by decide +kernel
theorem d_law_581 : decode code 581 = .ok (.iconst 3, 1) := by decide +kernel
theorem d_law_582 : decode code 582 = .ok (.iadd, 1) := by decide +kernel
theorem d_law_583 : decode code 583 = .ok (.iaload, 1) := by decide +kernel
theorem d_law_584 : decode code 584 = .ok (.aload_n 0, 1) := by decide +kernel
theorem d_law_585 : decode code 585 = .ok (.iload 4, 2) := by decide +kernel
theorem d_law_587 : decode code 587 = .ok (.iconst 4, 1) := by decide +kernel
theorem d_law_588 : decode code 588 = .ok (.iadd, 1) := by decide +kernel
theorem d_law_589 : decode code 589 = .ok (.iaload, 1) := by decide +kernel
theorem d_law_590 : decode code 590 = .ok (.invokevirtual 76, 3) := by decide +kernel
theorem d_law_593 : decode code 593 = .ok (.aload_n 2, 1) := by decide +kernel
theorem d_law_594 : decode code 594 = .ok (.aload_n 0, 1) := by decide +kernel
theorem d_law_595 : decode code 595 = .ok (.iload 4, 2) := by decide +kernel
theorem d_law_597 : decode code 597 = .ok (.iconst 1, 1) := by decide +kernel
theorem d_law_598 : decode code 598 = .ok (.iadd, 1) := by decide +kernel
theorem d_law_599 : decode code 599 = .ok (.iaload, 1) := by decide +kernel
theorem d_law_600 : decode code 600 = .ok (.aload_n 0, 1) := by decide +kernel
theorem d_law_601 : decode code 601 = .ok (.iload 4, 2) := by decide +kernel
theorem d_law_603 : decode code 603 = .ok (.iconst 2, 1) := by decide +kernel
theorem d_law_604 : decode code 604 = .ok (.iadd, 1) := by decide +kernel
theorem d_law_605 : decode code 605 = .ok (.iaload, 1) := by decide +kernel
theorem d_law_606 : decode code 606 = .ok (.aload_n 0, 1) := by decide +kernel
theorem d_law_607 : decode code 607 = .ok (.iload 4, 2) := by decide +kernel
theorem d_law_609 : decode code 609 = .ok (.iconst 3, 1) := by decide +kernel
theorem d_law_610 : decode code 610 = .ok (.iadd, 1) := by decide +kernel
theorem d_law_611 : decode code 611 = .ok (.iaload, 1) := by decide +kernel
theorem d_law_612 : decode code 612 = .ok (.aload_n 0, 1) := by decide +kernel
theorem d_law_613 : decode code 613 = .ok (.iload 4, 2) := by decide +kernel
theorem d_law_615 : decode code 615 = .ok (.iconst 4, 1) := by decide +kernel
theorem d_law_616 : decode code 616 = .ok (.iadd, 1) := by decide +kernel
theorem d_law_617 : decode code 617 = .ok (.iaload, 1) := by decide +kernel
theorem d_law_618 : decode code 618 = .ok (.invokevirtual 80, 3) := by decide +kernel
theorem d_law_621 : decode code 621 = .ok (.if_icmp .eq 1016, 3) := by decide +kernel
theorem d_law_624 : decode code 624 = .ok (.iconst 0, 1) := by decide +kernel
theorem d_law_625 : decode code 625 = .ok (.ireturn, 1) := by decide +kernel
theorem d_law_626 : decode code 626 = .ok (.aload_n 1, 1) := by decide +kernel
theorem d_law_627 : decode code 627 = .ok (.aload_n 0, 1) := by decide +kernel
theorem d_law_628 : decode code 628 = .ok (.iload 4, 2) := by decide +kernel
theorem d_law_630 : decode code 630 = .ok (.iconst 1, 1) := by decide +kernel
theorem d_law_631 : decode code 631 = .ok (.iadd, 1) := by decide +kernel
theorem d_law_632 : decode code 632 = .ok (.iaload, 1) := by decide +kernel
theorem d_law_633 : decode code 633 = .ok (.invokevirtual 81, 3) := by decide +kernel
theorem d_law_636 : decode code 636 = .ok (.aload_n 2, 1) := by decide +kernel
theorem d_law_637 : decode code 637 = .ok (.aload_n 0, 1) := by decide +kernel
theorem d_law_638 : decode code 638 = .ok (.iload 4, 2) := by decide +kernel
theorem d_law_640 : decode code 640 = .ok (.iconst 1, 1) := by decide +kernel
theorem d_law_641 : decode code 641 = .ok (.iadd, 1) := by decide +kernel
theorem d_law_642 : decode code 642 = .ok (.iaload, 1) := by decide +kernel
theorem d_law_643 : decode code 643 = .ok (.invokevirtual 84, 3) := by decide +kernel
theorem d_law_646 : decode code 646 = .ok (.if_icmp .eq 991, 3) := by decide +kernel
theorem d_law_649 : decode code 649 = .ok (.iconst 0, 1) := by decide +kernel
theorem d_law_650 : decode code 650 = .ok (.ireturn, 1) := by decide +kernel
theorem d_law_651 : decode code 651 = .ok (.aload_n 1, 1) := by decide +kernel
theorem d_law_652 : decode code 652 = .ok (.aload_n 0, 1) := by decide +kernel
theorem d_law_653 : decode code 653 = .ok (.iload 4, 2) := by decide +kernel
theorem d_law_655 : decode code 655 = .ok (.iconst 1, 1) := by decide +kernel
theorem d_law_656 : decode code 656 = .ok (.iadd, 1) := by decide +kernel
theorem d_law_657 : decode code 657 = .ok (.iaload, 1) := by decide +kernel
theorem d_law_658 : decode code 658 = .ok (.invokevirtual 85, 3) := by decide +kernel
theorem d_law_661 : decode code 661 = .ok (.aload_n 2, 1) := by decide +kernel
theorem d_law_662 : decode code 662 = .ok (.aload_n 0, 1) := by decide +kernel
theorem d_law_663 : decode code 663 = .ok (.iload 4, 2) := by decide +kernel
theorem d_law_665 : decode code 665 = .ok (.iconst 1, 1) := by decide +kernel
theorem d_law_666 : decode code 666 = .ok (.iadd, 1) := by decide +kernel
theorem d_law_667 : decode code 667 = .ok (.iaload, 1) := by decide +kernel
theorem d_law_668 : decode code 668 = .ok (.invokevirtual 88, 3) := by decide +kernel
theorem d_law_671 : decode code 671 = .ok (.if_icmp .eq 966, 3) := by decide +kernel
theorem d_law_674 : decode code 674 = .ok (.iconst 0, 1) := by decide +kernel
theorem d_law_675 : decode code 675 = .ok (.ireturn, 1) := by decide +kernel
theorem d_law_676 : decode code 676 = .ok (.aload_n 1, 1) := by decide +kernel
theorem d_law_677 : decode code 677 = .ok (.invokevirtual 89, 3) := by decide +kernel
theorem d_law_680 : decode code 680 = .ok (.aload_n 2, 1) := by decide +kernel
theorem d_law_681 : decode code 681 = .ok (.invokevirtual 92, 3) := by decide +kernel
theorem d_law_684 : decode code 684 = .ok (.if_icmp .eq 953, 3) := by decide +kernel
theorem d_law_687 : decode code 687 = .ok (.iconst 0, 1) := by decide +kernel
theorem d_law_688 : decode code 688 = .ok (.ireturn, 1) := by decide +kernel
theorem d_law_689 : decode code 689 = .ok (.aload_n 1, 1) := by decide +kernel
theorem d_law_690 : decode code 690 = .ok (.aload_n 0, 1) := by decide +kernel
theorem d_law_691 : decode code 691 = .ok (.iload 4, 2) := by decide +kernel
theorem d_law_693 : decode code 693 = .ok (.iconst 1, 1) := by decide +kernel
theorem d_law_694 : decode code 694 = .ok (.iadd, 1) := by decide +kernel
theorem d_law_695 : decode code 695 = .ok (.iaload, 1) := by decide +kernel
theorem d_law_696 : decode code 696 = .ok (.invokevirtual 93, 3) := by decide +kernel
theorem d_law_699 : decode code 699 = .ok (.aload_n 2, 1) := by decide +kernel
theorem d_law_700 : decode code 700 = .ok (.aload_n 0, 1) := by decide +kernel
theorem d_law_701 : decode code 701 = .ok (.iload 4, 2) := by decide +kernel
theorem d_law_703 : decode code 703 = .ok (.iconst 1, 1) := by decide +kernel
theorem d_law_704 : decode code 704 = .ok (.iadd, 1) := by decide +kernel
theorem d_law_705 : decode code 705 = .ok (.iaload, 1) := by decide +kernel
theorem d_law_706 : decode code 706 = .ok (.invokevirtual 96, 3) := by decide +kernel
theorem d_law_709 : decode code 709 = .ok (.if_icmp .eq 928, 3) := by decide +kernel
theorem d_law_712 : decode code 712 = .ok (.iconst 0, 1) := by decide +kernel
theorem d_law_713 : decode code 713 = .ok (.ireturn, 1) := by decide +kernel
theorem d_law_714 : decode code 714 = .ok (.aload_n 1, 1) := by decide +kernel
theorem d_law_715 : decode code 715 = .ok (.invokevirtual 97, 3) := by decide +kernel
theorem d_law_718 : decode code 718 = .ok (.aload_n 2, 1) := by decide +kernel
theorem d_law_719 : decode code 719 = .ok (.invokevirtual 100, 3) := by decide +kernel
theorem d_law_722 : decode code 722 = .ok (.if_icmp .eq 915, 3) := by decide +kernel
theorem d_law_725 : decode code 725 = .ok (.iconst 0, 1) := by decide +kernel
theorem d_law_726 : decode code 726 = .ok (.ireturn, 1) := by decide +kernel
theorem d_law_727 : decode code 727 = .ok (.aload_n 1, 1) := by decide +kernel
theorem d_law_728 : decode code 728 = .ok (.invokevirtual 101, 3) := by decide +kernel
theorem d_law_731 : decode code 731 = .ok (.aload_n 2, 1) := by decide +kernel
theorem d_law_732 : decode code 732 = .ok (.invokevirtual 104, 3) := by decide +kernel
theorem d_law_735 : decode code 735 = .ok (.if_icmp .eq 902, 3) := by decide +kernel
theorem d_law_738 : decode code 738 = .ok (.iconst 0, 1) := by decide +kernel
theorem d_law_739 : decode code 739 = .ok (.ireturn, 1) := by decide +kernel
theorem d_law_740 : decode code 740 = .ok (.aload_n 1, 1) := by decide +kernel
theorem d_law_741 : decode code 741 = .ok (.aload_n 0, 1) := by decide +kernel
theorem d_law_742 : decode code 742 = .ok (.iload 4, 2) := by decide +kernel
theorem d_law_744 : decode code 744 = .ok (.iconst 1, 1) := by decide +kernel
theorem d_law_745 : decode code 745 = .ok (.iadd, 1) := by decide +kernel
theorem d_law_746 : decode code 746 = .ok (.iaload, 1) := by decide +kernel
theorem d_law_747 : decode code 747 = .ok (.aload_n 0, 1) := by decide +kernel
theorem d_law_748 : decode code 748 = .ok (.iload 4, 2) := by decide +kernel
theorem d_law_750 : decode code 750 = .ok (.iconst 2, 1) := by decide +kernel
theorem d_law_751 : decode code 751 = .ok (.iadd, 1) := by decide +kernel
theorem d_law_752 : decode code 752 = .ok (.iaload, 1) := by decide +kernel
theorem d_law_753 : decode code 753 = .ok (.invokevirtual 105, 3) := by decide +kernel
theorem d_law_756 : decode code 756 = .ok (.aload_n 2, 1) := by decide +kernel
theorem d_law_757 : decode code 757 = .ok (.aload_n 0, 1) := by decide +kernel
theorem d_law_758 : decode code 758 = .ok (.iload 4, 2) := by decide +kernel
theorem d_law_760 : decode code 760 = .ok (.iconst 1, 1) := by decide +kernel
theorem d_law_761 : decode code 761 = .ok (.iadd, 1) := by decide +kernel
theorem d_law_762 : decode code 762 = .ok (.iaload, 1) := by decide +kernel
theorem d_law_763 : decode code 763 = .ok (.aload_n 0, 1) := by decide +kernel
theorem d_law_764 : decode code 764 = .ok (.iload 4, 2) := by decide +kernel
theorem d_law_766 : decode code 766 = .ok (.iconst 2, 1) := by decide +kernel
theorem d_law_767 : decode code 767 = .ok (.iadd, 1) := by decide +kernel
theorem d_law_768 : decode code 768 = .ok (.iaload, 1) := by decide +kernel
theorem d_law_769 : decode code 769 = .ok (.invokevirtual 108, 3) := by decide +kernel
theorem d_law_772 : decode code 772 = .ok (.if_icmp .eq 865, 3) := by decide +kernel
theorem d_law_775 : decode code 775 = .ok (.iconst 0, 1) := by decide +kernel
theorem d_law_776 : decode code 776 = .ok (.ireturn, 1) := by decide +kernel
theorem d_law_777 : decode code 777 = .ok (.aload_n 1, 1) := by decide +kernel
theorem d_law_778 : decode code 778 = .ok (.aload_n 0, 1) := by decide +kernel
theorem d_law_779 : decode code 779 = .ok (.iload 4, 2) := by decide +kernel
theorem d_law_781 : decode code 781 = .ok (.iconst 1, 1) := by decide +kernel
theorem d_law_782 : decode code 782 = .ok (.iadd, 1) := by decide +kernel
theorem d_law_783 : decode code 783 = .ok (.iaload, 1) := by decide +kernel
theorem d_law_784 : decode code 784 = .ok (.invokevirtual 109, 3) := by decide +kernel
theorem d_law_787 : decode code 787 = .ok (.aload_n 2, 1) := by decide +kernel
theorem d_law_788 : decode code 788 = .ok (.aload_n 0, 1) := by decide +kernel
theorem d_law_789 : decode code 789 = .ok (.iload 4, 2) := by decide +kernel
theorem d_law_791 : decode code 791 = .ok (.iconst 1, 1) := by decide +kernel
theorem d_law_792 : decode code 792 = .ok (.iadd, 1) := by decide +kernel
theorem d_law_793 : decode code 793 = .ok (.iaload, 1) := by decide +kernel
theorem d_law_794 : decode code 794 = .ok (.invokevirtual 112, 3) := by decide +kernel
theorem d_law_797 : decode code 797 = .ok (.if_icmp .eq 840, 3) := by decide +kernel
theorem d_law_800 : decode code 800 = .ok (.iconst 0, 1) := by decide +kernel
theorem d_law_801 : decode code 801 = .ok (.ireturn, 1) := by decide +kernel
theorem d_law_802 : decode code 802 = .ok (.aload_n 1, 1) := by decide +kernel
theorem d_law_803 : decode code 803 = .ok (.aload_n 0, 1) := by decide +kernel
theorem d_law_804 : decode code 804 = .ok (.iload 4, 2) := by decide +kernel
theorem d_law_806 : decode code 806 = .ok (.iconst 1, 1) := by decide +kernel
theorem d_law_807 : decode code 807 = .ok (.iadd, 1) := by decide +kernel
theorem d_law_808 : decode code 808 = .ok (.iaload, 1) := by decide +kernel
theorem d_law_809 : decode code 809 = .ok (.aload_n 0, 1) := by decide +kernel
theorem d_law_810 : decode code 810 = .ok (.iload 4, 2) := by decide +kernel
theorem d_law_812 : decode code 812 = .ok (.iconst 2, 1) := by decide +kernel
theorem d_law_813 : decode code 813 = .ok (.iadd, 1) := by decide +kernel
theorem d_law_814 : decode code 814 = .ok (.iaload, 1) := by decide +kernel
theorem d_law_815 : decode code 815 = .ok (.invokevirtual 113, 3) := by decide +kernel
theorem d_law_818 : decode code 818 = .ok (.aload_n 2, 1) := by decide +kernel
theorem d_law_819 : decode code 819 = .ok (.aload_n 0, 1) := by decide +kernel
theorem d_law_820 : decode code 820 = .ok (.iload 4, 2) := by decide +kernel
theorem d_law_822 : decode code 822 = .ok (.iconst 1, 1) := by decide +kernel
theorem d_law_823 : decode code 823 = .ok (.iadd, 1) := by decide +kernel
theorem d_law_824 : decode code 824 = .ok (.iaload, 1) := by decide +kernel
theorem d_law_825 : decode code 825 = .ok (.aload_n 0, 1) := by decide +kernel
theorem d_law_826 : decode code 826 = .ok (.iload 4, 2) := by decide +kernel
theorem d_law_828 : decode code 828 = .ok (.iconst 2, 1) := by decide +kernel
theorem d_law_829 : decode code 829 = .ok (.iadd, 1) := by decide +kernel
theorem d_law_830 : decode code 830 = .ok (.iaload, 1) := by decide +kernel
theorem d_law_831 : decode code 831 = .ok (.invokevirtual 116, 3) := by decide +kernel
theorem d_law_834 : decode code 834 = .ok (.if_icmp .eq 803, 3) := by decide +kernel
theorem d_law_837 : decode code 837 = .ok (.iconst 0, 1) := by decide +kernel
theorem d_law_838 : decode code 838 = .ok (.ireturn, 1) := by decide +kernel
theorem d_law_839 : decode code 839 = .ok (.aload_n 1, 1) := by decide +kernel
theorem d_law_840 : decode code 840 = .ok (.invokevirtual 117, 3) := by decide +kernel
theorem d_law_843 : decode code 843 = .ok (.aload_n 2, 1) := by decide +kernel
theorem d_law_844 : decode code 844 = .ok (.invokevirtual 120, 3) := by decide +kernel
theorem d_law_847 : decode code 847 = .ok (.if_icmp .eq 790, 3) := by decide +kernel
theorem d_law_850 : decode code 850 = .ok (.iconst 0, 1) := by decide +kernel
theorem d_law_851 : decode code 851 = .ok (.ireturn, 1) := by decide +kernel
theorem d_law_852 : decode code 852 = .ok (.aload_n 1, 1) := by decide +kernel
theorem d_law_853 : decode code 853 = .ok (.aload_n 0, 1) := by decide +kernel
theorem d_law_854 : decode code 854 = .ok (.iload 4, 2) := by decide +kernel
theorem d_law_856 : decode code 856 = .ok (.iconst 1, 1) := by decide +kernel
theorem d_law_857 : decode code 857 = .ok (.iadd, 1) := by decide +kernel
theorem d_law_858 : decode code 858 = .ok (.iaload, 1) := by decide +kernel
theorem d_law_859 : decode code 859 = .ok (.invokevirtual 121, 3) := by decide +kernel
theorem d_law_862 : decode code 862 = .ok (.aload_n 2, 1) := by decide +kernel
theorem d_law_863 : decode code 863 = .ok (.aload_n 0, 1) := by decide +kernel
theorem d_law_864 : decode code 864 = .ok (.iload 4, 2) := by decide +kernel
theorem d_law_866 : decode code 866 = .ok (.iconst 1, 1) := by decide +kernel
theorem d_law_867 : decode code 867 = .ok (.iadd, 1) := by decide +kernel
theorem d_law_868 : decode code 868 = .ok (.iaload, 1) := by decide +kernel
theorem d_law_869 : decode code 869 = .ok (.invokevirtual 124, 3) := by decide +kernel
theorem d_law_872 : decode code 872 = .ok (.if_icmp .eq 765, 3) := by decide +kernel
theorem d_law_875 : decode code 875 = .ok (.iconst 0, 1) := by decide +kernel
theorem d_law_876 : decode code 876 = .ok (.ireturn, 1) := by decide +kernel
theorem d_law_877 : decode code 877 = .ok (.aload_n 1, 1) := by decide +kernel
theorem d_law_878 : decode code 878 = .ok (.aload_n 0, 1) := by decide +kernel
theorem d_law_879 : decode code 879 = .ok (.iload 4, 2) := by decide +kernel
theorem d_law_881 : decode code 881 = .ok (.iconst 1, 1) := by decide +kernel
theorem d_law_882 : decode code 882 = .ok (.iadd, 1) := by decide +kernel
theorem d_law_883 : decode code 883 = .ok (.iaload, 1) := by decide +kernel
theorem d_law_884 : decode code 884 = .ok (.invokevirtual 125, 3) := by decide +kernel
theorem d_law_887 : decode code 887 = .ok (.aload_n 2, 1) := by decide +kernel
theorem d_law_888 : decode code 888 = .ok (.aload_n 0, 1) := by decide +kernel
theorem d_law_889 : decode code 889 = .ok (.iload 4, 2) := by decide +kernel
theorem d_law_891 : decode code 891 = .ok (.iconst 1, 1) := by decide +kernel
theorem d_law_892 : decode code 892 = .ok (.iadd, 1) := by decide +kernel
theorem d_law_893 : decode code 893 = .ok (.iaload, 1) := by decide +kernel
theorem d_law_894 : decode code 894 = .ok (.invokevirtual 128, 3) := by decide +kernel
theorem d_law_897 : decode code 897 = .ok (.if_icmp .eq 740, 3) := by decide +kernel
theorem d_law_900 : decode code 900 = .ok (.iconst 0, 1) := by decide +kernel
theorem d_law_901 : decode code 901 = .ok (.ireturn, 1) := by decide +kernel
theorem d_law_902 : decode code 902 = .ok (.aload_n 1, 1) := by decide +kernel
theorem d_law_903 : decode code 903 = .ok (.aload_n 0, 1) := by decide +kernel
theorem d_law_904 : decode code 904 = .ok (.iload 4, 2) := by decide +kernel
theorem d_law_906 : decode code 906 = .ok (.iconst 1, 1) := by decide +kernel
theorem d_law_907 : decode code 907 = .ok (.iadd, 1) := by decide +kernel
theorem d_law_908 : decode code 908 = .ok (.iaload, 1) := by decide +kernel
theorem d_law_909 : decode code 909 = .ok (.aload_n 0, 1) := by decide +kernel
theorem d_law_910 : decode code 910 = .ok (.iload 4, 2) := by decide +kernel
theorem d_law_912 : decode code 912 = .ok (.iconst 2, 1) := by decide +kernel
theorem d_law_913 : decode code 913 = .ok (.iadd, 1) := by decide +kernel
theorem d_law_914 : decode code 914 = .ok (.iaload, 1) := by decide +kernel
theorem d_law_915 : decode code 915 = .ok (.invokevirtual 129, 3) := by decide +kernel
theorem d_law_918 : decode code 918 = .ok (.aload_n 2, 1) := by decide +kernel
theorem d_law_919 : decode code 919 = .ok (.aload_n 0, 1) := by decide +kernel
theorem d_law_920 : decode code 920 = .ok (.iload 4, 2) := by decide +kernel
theorem d_law_922 : decode code 922 = .ok (.iconst 1, 1) := by decide +kernel
theorem d_law_923 : decode code 923 = .ok (.iadd, 1) := by decide +kernel
theorem d_law_924 : decode code 924 = .ok (.iaload, 1) := by decide +kernel
theorem d_law_925 : decode code 925 = .ok (.aload_n 0, 1) := by decide +kernel
theorem d_law_926 : decode code 926 = .ok (.iload 4, 2) := by decide +kernel
theorem d_law_928 : decode code 928 = .ok (.iconst 2, 1) := by decide +kernel
theorem d_law_929 : decode code 929 = .ok (.iadd, 1) := by decide +kernel
theorem d_law_930 : decode code 930 = .ok (.iaload, 1) := by decide +kernel
theorem d_law_931 : decode code 931 = .ok (.invokevirtual 132, 3) := by decide +kernel
theorem d_law_934 : decode code 934 = .ok (.if_icmp .eq 703, 3) := by decide +kernel
theorem d_law_937 : decode code 937 = .ok (.iconst 0, 1) := by decide +kernel
theorem d_law_938 : decode code 938 = .ok (.ireturn, 1) := by decide +kernel
theorem d_law_939 : decode code 939 = .ok (.aload_n 1, 1) := by decide +kernel
theorem d_law_940 : decode code 940 = .ok (.aload_n 0, 1) := by decide +kernel
theorem d_law_941 : decode code 941 = .ok (.iload 4, 2) := by decide +kernel
theorem d_law_943 : decode code 943 = .ok (.iconst 1, 1) := by decide +kernel
theorem d_law_944 : decode code 944 = .ok (.iadd, 1) := by decide +kernel
theorem d_law_945 : decode code 945 = .ok (.iaload, 1) := by decide +kernel
theorem d_law_946 : decode code 946 = .ok (.aload_n 0, 1) := by decide +kernel
theorem d_law_947 : decode code 947 = .ok (.iload 4, 2) := by decide +kernel
theorem d_law_949 : decode code 949 = .ok (.iconst 2, 1) := by decide +kernel
theorem d_law_950 : decode code 950 = .ok (.iadd, 1) := by decide +kernel
theorem d_law_951 : decode code 951 = .ok (.iaload, 1) := by decide +kernel
theorem d_law_952 : decode code 952 = .ok (.aload_n 0, 1) := by decide +kernel
theorem d_law_953 : decode code 953 = .ok (.iload 4, 2) := by decide +kernel
theorem d_law_955 : decode code 955 = .ok (.iconst 3, 1) := by decide +kernel
theorem d_law_956 : decode code 956 = .ok (.iadd, 1) := by decide +kernel
theorem d_law_957 : decode code 957 = .ok (.iaload, 1) := by decide +kernel
theorem d_law_958 : decode code 958 = .ok (.invokevirtual 133, 3) := by decide +kernel
theorem d_law_961 : decode code 961 = .ok (.aload_n 2, 1) := by decide +kernel
theorem d_law_962 : decode code 962 = .ok (.aload_n 0, 1) := by decide +kernel
theorem d_law_963 : decode code 963 = .ok (.iload 4, 2) := by decide +kernel
theorem d_law_965 : decode code 965 = .ok (.iconst 1, 1) := by decide +kernel
theorem d_law_966 : decode code 966 = .ok (.iadd, 1) := by decide +kernel
theorem d_law_967 : decode code 967 = .ok (.iaload, 1) := by decide +kernel
theorem d_law_968 : decode code 968 = .ok (.aload_n 0, 1) := by decide +kernel
theorem d_law_969 : decode code 969 = .ok (.iload 4, 2) := by decide +kernel
theorem d_law_971 : decode code 971 = .ok (.iconst 2, 1) := by decide +kernel
theorem d_law_972 : decode code 972 = .ok (.iadd, 1) := by decide +kernel
theorem d_law_973 : decode code 973 = .ok (.iaload, 1) := by decide +kernel
theorem d_law_974 : decode code 974 = .ok (.aload_n 0, 1) := by decide +kernel
theorem d_law_975 : decode code 975 = .ok (.iload 4, 2) := by decide +kernel
theorem d_law_977 : decode code 977 = .ok (.iconst 3, 1) := by decide +kernel
theorem d_law_978 : decode code 978 = .ok (.iadd, 1) := by decide +kernel
theorem d_law_979 : decode code 979 = .ok (.iaload, 1) := by decide +kernel
theorem d_law_980 : decode code 980 = .ok (.invokevirtual 137, 3) := by decide +kernel
theorem d_law_983 : decode code 983 = .ok (.if_icmp .eq 654, 3) := by decide +kernel
theorem d_law_986 : decode code 986 = .ok (.iconst 0, 1) := by decide +kernel
theorem d_law_987 : decode code 987 = .ok (.ireturn, 1) := by decide +kernel
theorem d_law_988 : decode code 988 = .ok (.aload_n 1, 1) := by decide +kernel
theorem d_law_989 : decode code 989 = .ok (.aload_n 0, 1) := by decide +kernel
theorem d_law_990 : decode code 990 = .ok (.iload 4, 2) := by decide +kernel
theorem d_law_992 : decode code 992 = .ok (.iconst 1, 1) := by decide +kernel
theorem d_law_993 : decode code 993 = .ok (.iadd, 1) := by decide +kernel
theorem d_law_994 : decode code 994 = .ok (.iaload, 1) := by decide +kernel
theorem d_law_995 : decode code 995 = .ok (.aload_n 0, 1) := by decide +kernel
theorem d_law_996 : decode code 996 = .ok (.iload 4, 2) := by decide +kernel
theorem d_law_998 : decode code 998 = .ok (.iconst 2, 1) := by decide +kernel
theorem d_law_999 : decode code 999 = .ok (.iadd, 1) := by decide +kernel
theorem d_law_1000 : decode code 1000 = .ok (.iaload, 1) := by decide +kernel
theorem d_law_1001 : decode code 1001 = .ok (.aload_n 0, 1) := by decide +kernel
theorem d_law_1002 : decode code 1002 = .ok (.iload 4, 2) := by decide +kernel
theorem d_law_1004 : decode code 1004 = .ok (.iconst 3, 1) := by decide +kernel
theorem d_law_1005 : decode code 1005 = .ok (.iadd, 1) := by decide +kernel
theorem d_law_1006 : decode code 1006 = .ok (.iaload, 1) := by decide +kernel
theorem d_law_1007 : decode code 1007 = .ok (.aload_n 0, 1) := by decide +kernel
theorem d_law_1008 : decode code 1008 = .ok (.iload 4, 2) := by decide +kernel
theorem d_law_1010 : decode code 1010 = .ok (.iconst 4, 1) := by decide +kernel
theorem d_law_1011 : decode code 1011 = .ok (.iadd, 1) := by decide +kernel
theorem d_law_1012 : decode code 1012 = .ok (.iaload, 1) := by decide +kernel
theorem d_law_1013 : decode code 1013 = .ok (.invokevirtual 138, 3) := by decide +kernel
theorem d_law_1016 : decode code 1016 = .ok (.aload_n 2, 1) := by decide +kernel
theorem d_law_1017 : decode code 1017 = .ok (.aload_n 0, 1) := by decide +kernel
theorem d_law_1018 : decode code 1018 = .ok (.iload 4, 2) := by decide +kernel
theorem d_law_1020 : decode code 1020 = .ok (.iconst 1, 1) := by decide +kernel
theorem d_law_1021 : decode code 1021 = .ok (.iadd, 1) := by decide +kernel
theorem d_law_1022 : decode code 1022 = .ok (.iaload, 1) := by decide +kernel
theorem d_law_1023 : decode code 1023 = .ok (.aload_n 0, 1) := by decide +kernel
theorem d_law_1024 : decode code 1024 = .ok (.iload 4, 2) := by decide +kernel
theorem d_law_1026 : decode code 1026 = .ok (.iconst 2, 1) := by decide +kernel
theorem d_law_1027 : decode code 1027 = .ok (.iadd, 1) := by decide +kernel
theorem d_law_1028 : decode code 1028 = .ok (.iaload, 1) := by decide +kernel
theorem d_law_1029 : decode code 1029 = .ok (.aload_n 0, 1) := by decide +kernel
theorem d_law_1030 : decode code 1030 = .ok (.iload 4, 2) := by decide +kernel
theorem d_law_1032 : decode code 1032 = .ok (.iconst 3, 1) := by decide +kernel
theorem d_law_1033 : decode code 1033 = .ok (.iadd, 1) := by decide +kernel
theorem d_law_1034 : decode code 1034 = .ok (.iaload, 1) := by decide +kernel
theorem d_law_1035 : decode code 1035 = .ok (.aload_n 0, 1) := by decide +kernel
theorem d_law_1036 : decode code 1036 = .ok (.iload 4, 2) := by decide +kernel
theorem d_law_1038 : decode code 1038 = .ok (.iconst 4, 1) := by decide +kernel
theorem d_law_1039 : decode code 1039 = .ok (.iadd, 1) := by decide +kernel
theorem d_law_1040 : decode code 1040 = .ok (.iaload, 1) := by decide +kernel
theorem d_law_1041 : decode code 1041 = .ok (.invokevirtual 141, 3) := by decide +kernel
theorem d_law_1044 : decode code 1044 = .ok (.if_icmp .eq 593, 3) := by decide +kernel
theorem d_law_1047 : decode code 1047 = .ok (.iconst 0, 1) := by decide +kernel
theorem d_law_1048 : decode code 1048 = .ok (.ireturn, 1) := by decide +kernel
theorem d_law_1049 : decode code 1049 = .ok (.aload_n 1, 1) := by decide +kernel
theorem d_law_1050 : decode code 1050 = .ok (.aload_n 0, 1) := by decide +kernel
theorem d_law_1051 : decode code 1051 = .ok (.iload 4, 2) := by decide +kernel
theorem d_law_1053 : decode code 1053 = .ok (.iconst 1, 1) := by decide +kernel
theorem d_law_1054 : decode code 1054 = .ok (.iadd, 1) := by decide +kernel
theorem d_law_1055 : decode code 1055 = .ok (.iaload, 1) := by decide +kernel
theorem d_law_1056 : decode code 1056 = .ok (.aload_n 0, 1) := by decide +kernel
theorem d_law_1057 : decode code 1057 = .ok (.iload 4, 2) := by decide +kernel
theorem d_law_1059 : decode code 1059 = .ok (.iconst 2, 1) := by decide +kernel
theorem d_law_1060 : decode code 1060 = .ok (.iadd, 1) := by decide +kernel
theorem d_law_1061 : decode code 1061 = .ok (.iaload, 1) := by decide +kernel
theorem d_law_1062 : decode code 1062 = .ok (.invokevirtual 142, 3) := by decide +kernel
theorem d_law_1065 : decode code 1065 = .ok (.aload_n 2, 1) := by decide +kernel
theorem d_law_1066 : decode code 1066 = .ok (.aload_n 0, 1) := by decide +kernel
theorem d_law_1067 : decode code 1067 = .ok (.iload 4, 2) := by decide +kernel
theorem d_law_1069 : decode code 1069 = .ok (.iconst 1, 1) := by decide +kernel
theorem d_law_1070 : decode code 1070 = .ok (.iadd, 1) := by decide +kernel
theorem d_law_1071 : decode code 1071 = .ok (.iaload, 1) := by decide +kernel
theorem d_law_1072 : decode code 1072 = .ok (.aload_n 0, 1) := by decide +kernel
theorem d_law_1073 : decode code 1073 = .ok (.iload 4, 2) := by decide +kernel
theorem d_law_1075 : decode code 1075 = .ok (.iconst 2, 1) := by decide +kernel
theorem d_law_1076 : decode code 1076 = .ok (.iadd, 1) := by decide +kernel
theorem d_law_1077 : decode code 1077 = .ok (.iaload, 1) := by decide +kernel
theorem d_law_1078 : decode code 1078 = .ok (.invokevirtual 145, 3) := by decide +kernel
theorem d_law_1081 : decode code 1081 = .ok (.if_icmp .eq 556, 3) := by decide +kernel
theorem d_law_1084 : decode code 1084 = .ok (.iconst 0, 1) := by decide +kernel
theorem d_law_1085 : decode code 1085 = .ok (.ireturn, 1) := by decide +kernel
theorem d_law_1086 : decode code 1086 = .ok (.aload_n 1, 1) := by decide +kernel
theorem d_law_1087 : decode code 1087 = .ok (.aload_n 0, 1) := by decide +kernel
theorem d_law_1088 : decode code 1088 = .ok (.iload 4, 2) := by decide +kernel
theorem d_law_1090 : decode code 1090 = .ok (.iconst 1, 1) := by decide +kernel
theorem d_law_1091 : decode code 1091 = .ok (.iadd, 1) := by decide +kernel
theorem d_law_1092 : decode code 1092 = .ok (.iaload, 1) := by decide +kernel
theorem d_law_1093 : decode code 1093 = .ok (.aload_n 0, 1) := by decide +kernel
theorem d_law_1094 : decode code 1094 = .ok (.iload 4, 2) := by decide +kernel
theorem d_law_1096 : decode code 1096 = .ok (.iconst 2, 1) := by decide +kernel
theorem d_law_1097 : decode code 1097 = .ok (.iadd, 1) := by decide +kernel
theorem d_law_1098 : decode code 1098 = .ok (.iaload, 1) := by decide +kernel
theorem d_law_1099 : decode code 1099 = .ok (.invokevirtual 146, 3) := by decide +kernel
theorem d_law_1102 : decode code 1102 = .ok (.aload_n 2, 1) := by decide +kernel
theorem d_law_1103 : decode code 1103 = .ok (.aload_n 0, 1) := by decide +kernel
theorem d_law_1104 : decode code 1104 = .ok (.iload 4, 2) := by decide +kernel
theorem d_law_1106 : decode code 1106 = .ok (.iconst 1, 1) := by decide +kernel
theorem d_law_1107 : decode code 1107 = .ok (.iadd, 1) := by decide +kernel
theorem d_law_1108 : decode code 1108 = .ok (.iaload, 1) := by decide +kernel
theorem d_law_1109 : decode code 1109 = .ok (.aload_n 0, 1) := by decide +kernel
theorem d_law_1110 : decode code 1110 = .ok (.iload 4, 2) := by decide +kernel
theorem d_law_1112 : decode code 1112 = .ok (.iconst 2, 1) := by decide +kernel
theorem d_law_1113 : decode code 1113 = .ok (.iadd, 1) := by decide +kernel
theorem d_law_1114 : decode code 1114 = .ok (.iaload, 1) := by decide +kernel
theorem d_law_1115 : decode code 1115 = .ok (.invokevirtual 149, 3) := by decide +kernel
theorem d_law_1118 : decode code 1118 = .ok (.if_icmp .eq 519, 3) := by decide +kernel
theorem d_law_1121 : decode code 1121 = .ok (.iconst 0, 1) := by decide +kernel
theorem d_law_1122 : decode code 1122 = .ok (.ireturn, 1) := by decide +kernel
theorem d_law_1123 : decode code 1123 = .ok (.aload_n 1, 1) := by decide +kernel
theorem d_law_1124 : decode code 1124 = .ok (.aload_n 0, 1) := by decide +kernel
theorem d_law_1125 : decode code 1125 = .ok (.iload 4, 2) := by decide +kernel
theorem d_law_1127 : decode code 1127 = .ok (.iconst 1, 1) := by decide +kernel
theorem d_law_1128 : decode code 1128 = .ok (.iadd, 1) := by decide +kernel
theorem d_law_1129 : decode code 1129 = .ok (.iaload, 1) := by decide +kernel
theorem d_law_1130 : decode code 1130 = .ok (.aload_n 0, 1) := by decide +kernel
theorem d_law_1131 : decode code 1131 = .ok (.iload 4, 2) := by decide +kernel
theorem d_law_1133 : decode code 1133 = .ok (.iconst 2, 1) := by decide +kernel
theorem d_law_1134 : decode code 1134 = .ok (.iadd, 1) := by decide +kernel
theorem d_law_1135 : decode code 1135 = .ok (.iaload, 1) := by decide +kernel
theorem d_law_1136 : decode code 1136 = .ok (.invokevirtual 150, 3) := by decide +kernel
theorem d_law_1139 : decode code 1139 = .ok (.aload_n 2, 1) := by decide +kernel
theorem d_law_1140 : decode code 1140 = .ok (.aload_n 0, 1) := by decide +kernel
theorem d_law_1141 : decode code 1141 = .ok (.iload 4, 2) := by decide +kernel
theorem d_law_1143 : decode code 1143 = .ok (.iconst 1, 1) := by decide +kernel
theorem d_law_1144 : decode code 1144 = .ok (.iadd, 1) := by decide +kernel
theorem d_law_1145 : decode code 1145 = .ok (.iaload, 1) := by decide +kernel
theorem d_law_1146 : decode code 1146 = .ok (.aload_n 0, 1) := by decide +kernel
theorem d_law_1147 : decode code 1147 = .ok (.iload 4, 2) := by decide +kernel
theorem d_law_1149 : decode code 1149 = .ok (.iconst 2, 1) := by decide +kernel
theorem d_law_1150 : decode code 1150 = .ok (.iadd, 1) := by decide +kernel
theorem d_law_1151 : decode code 1151 = .ok (.iaload, 1) := by decide +kernel
theorem d_law_1152 : decode code 1152 = .ok (.invokevirtual 153, 3) := by decide +kernel
theorem d_law_1155 : decode code 1155 = .ok (.if_icmp .eq 482, 3) := by decide +kernel
theorem d_law_1158 : decode code 1158 = .ok (.iconst 0, 1) := by decide +kernel
theorem d_law_1159 : decode code 1159 = .ok (.ireturn, 1) := by decide +kernel
theorem d_law_1160 : decode code 1160 = .ok (.aload_n 1, 1) := by decide +kernel
theorem d_law_1161 : decode code 1161 = .ok (.aload_n 0, 1) := by decide +kernel
theorem d_law_1162 : decode code 1162 = .ok (.iload 4, 2) := by decide +kernel
theorem d_law_1164 : decode code 1164 = .ok (.iconst 1, 1) := by decide +kernel
theorem d_law_1165 : decode code 1165 = .ok (.iadd, 1) := by decide +kernel
theorem d_law_1166 : decode code 1166 = .ok (.iaload, 1) := by decide +kernel
theorem d_law_1167 : decode code 1167 = .ok (.aload_n 0, 1) := by decide +kernel
theorem d_law_1168 : decode code 1168 = .ok (.iload 4, 2) := by decide +kernel
theorem d_law_1170 : decode code 1170 = .ok (.iconst 2, 1) := by decide +kernel
theorem d_law_1171 : decode code 1171 = .ok (.iadd, 1) := by decide +kernel
theorem d_law_1172 : decode code 1172 = .ok (.iaload, 1) := by decide +kernel
theorem d_law_1173 : decode code 1173 = .ok (.invokevirtual 154, 3) := by decide +kernel
theorem d_law_1176 : decode code 1176 = .ok (.aload_n 2, 1) := by decide +kernel
theorem d_law_1177 : decode code 1177 = .ok (.aload_n 0, 1) := by decide +kernel
theorem d_law_1178 : decode code 1178 = .ok (.iload 4, 2) := by decide +kernel
theorem d_law_1180 : decode code 1180 = .ok (.iconst 1, 1) := by decide +kernel
theorem d_law_1181 : decode code 1181 = .ok (.iadd, 1) := by decide +kernel
theorem d_law_1182 : decode code 1182 = .ok (.iaload, 1) := by decide +kernel
theorem d_law_1183 : decode code 1183 = .ok (.aload_n 0, 1) := by decide +kernel
theorem d_law_1184 : decode code 1184 = .ok (.iload 4, 2) := by decide +kernel
theorem d_law_1186 : decode code 1186 = .ok (.iconst 2, 1) := by decide +kernel
theorem d_law_1187 : decode code 1187 = .ok (.iadd, 1) := by decide +kernel
theorem d_law_1188 : decode code 1188 = .ok (.iaload, 1) := by decide +kernel
theorem d_law_1189 : decode code 1189 = .ok (.invokevirtual 157, 3) := by decide +kernel
theorem d_law_1192 : decode code 1192 = .ok (.if_icmp .eq 445, 3) := by decide +kernel
theorem d_law_1195 : decode code 1195 = .ok (.iconst 0, 1) := by decide +kernel
theorem d_law_1196 : decode code 1196 = .ok (.ireturn, 1) := by decide +kernel
theorem d_law_1197 : decode code 1197 = .ok (.aload_n 1, 1) := by decide +kernel
theorem d_law_1198 : decode code 1198 = .ok (.aload_n 0, 1) := by decide +kernel
theorem d_law_1199 : decode code 1199 = .ok (.iload 4, 2) := by decide +kernel
theorem d_law_1201 : decode code 1201 = .ok (.iconst 1, 1) := by decide +kernel
theorem d_law_1202 : decode code 1202 = .ok (.iadd, 1) := by decide +kernel
theorem d_law_1203 : decode code 1203 = .ok (.iaload, 1) := by decide +kernel
theorem d_law_1204 : decode code 1204 = .ok (.aload_n 0, 1) := by decide +kernel
theorem d_law_1205 : decode code 1205 = .ok (.iload 4, 2) := by decide +kernel
theorem d_law_1207 : decode code 1207 = .ok (.iconst 2, 1) := by decide +kernel
theorem d_law_1208 : decode code 1208 = .ok (.iadd, 1) := by decide +kernel
theorem d_law_1209 : decode code 1209 = .ok (.iaload, 1) := by decide +kernel
theorem d_law_1210 : decode code 1210 = .ok (.invokevirtual 158, 3) := by decide +kernel
theorem d_law_1213 : decode code 1213 = .ok (.aload_n 2, 1) := by decide +kernel
theorem d_law_1214 : decode code 1214 = .ok (.aload_n 0, 1) := by decide +kernel
theorem d_law_1215 : decode code 1215 = .ok (.iload 4, 2) := by decide +kernel
theorem d_law_1217 : decode code 1217 = .ok (.iconst 1, 1) := by decide +kernel
theorem d_law_1218 : decode code 1218 = .ok (.iadd, 1) := by decide +kernel
theorem d_law_1219 : decode code 1219 = .ok (.iaload, 1) := by decide +kernel
theorem d_law_1220 : decode code 1220 = .ok (.aload_n 0, 1) := by decide +kernel
theorem d_law_1221 : decode code 1221 = .ok (.iload 4, 2) := by decide +kernel
theorem d_law_1223 : decode code 1223 = .ok (.iconst 2, 1) := by decide +kernel
theorem d_law_1224 : decode code 1224 = .ok (.iadd, 1) := by decide +kernel
theorem d_law_1225 : decode code 1225 = .ok (.iaload, 1) := by decide +kernel
theorem d_law_1226 : decode code 1226 = .ok (.invokevirtual 161, 3) := by decide +kernel
theorem d_law_1229 : decode code 1229 = .ok (.if_icmp .eq 408, 3) := by decide +kernel
theorem d_law_1232 : decode code 1232 = .ok (.iconst 0, 1) := by decide +kernel
theorem d_law_1233 : decode code 1233 = .ok (.ireturn, 1) := by decide +kernel
theorem d_law_1234 : decode code 1234 = .ok (.aload_n 1, 1) := by decide +kernel
theorem d_law_1235 : decode code 1235 = .ok (.aload_n 0, 1) := by decide +kernel
theorem d_law_1236 : decode code 1236 = .ok (.iload 4, 2) := by decide +kernel
theorem d_law_1238 : decode code 1238 = .ok (.iconst 1, 1) := by decide +kernel
theorem d_law_1239 : decode code 1239 = .ok (.iadd, 1) := by decide +kernel
theorem d_law_1240 : decode code 1240 = .ok (.iaload, 1) := by decide +kernel
theorem d_law_1241 : decode code 1241 = .ok (.invokevirtual 162, 3) := by decide +kernel
theorem d_law_1244 : decode code 1244 = .ok (.aload_n 2, 1) := by decide +kernel
theorem d_law_1245 : decode code 1245 = .ok (.aload_n 0, 1) := by decide +kernel
theorem d_law_1246 : decode code 1246 = .ok (.iload 4, 2) := by decide +kernel
theorem d_law_1248 : decode code 1248 = .ok (.iconst 1, 1) := by decide +kernel
theorem d_law_1249 : decode code 1249 = .ok (.iadd, 1) := by decide +kernel
theorem d_law_1250 : decode code 1250 = .ok (.iaload, 1) := by decide +kernel
theorem d_law_1251 : decode code 1251 = .ok (.invokevirtual 165, 3) := by decide +kernel
theorem d_law_1254 : decode code 1254 = .ok (.if_icmp .eq 383, 3) := by decide +kernel
theorem d_law_1257 : decode code 1257 = .ok (.iconst 0, 1) := by decide +kernel
theorem d_law_1258 : decode code 1258 = .ok (.ireturn, 1) := by decide +kernel
theorem d_law_1259 : decode code 1259 = .ok (.aload_n 1, 1) := by decide +kernel
theorem d_law_1260 : decode code 1260 = .ok (.aload_n 0, 1) := by decide +kernel
theorem d_law_1261 : decode code 1261 = .ok (.iload 4, 2) := by decide +kernel
theorem d_law_1263 : decode code 1263 = .ok (.iconst 1, 1) := by decide +kernel
theorem d_law_1264 : decode code 1264 = .ok (.iadd, 1) := by decide +kernel
theorem d_law_1265 : decode code 1265 = .ok (.iaload, 1) := by decide +kernel
theorem d_law_1266 : decode code 1266 = .ok (.invokevirtual 166, 3) := by decide +kernel
theorem d_law_1269 : decode code 1269 = .ok (.aload_n 2, 1) := by decide +kernel
theorem d_law_1270 : decode code 1270 = .ok (.aload_n 0, 1) := by decide +kernel
theorem d_law_1271 : decode code 1271 = .ok (.iload 4, 2) := by decide +kernel
theorem d_law_1273 : decode code 1273 = .ok (.iconst 1, 1) := by decide +kernel
theorem d_law_1274 : decode code 1274 = .ok (.iadd, 1) := by decide +kernel
theorem d_law_1275 : decode code 1275 = .ok (.iaload, 1) := by decide +kernel
theorem d_law_1276 : decode code 1276 = .ok (.invokevirtual 169, 3) := by decide +kernel
theorem d_law_1279 : decode code 1279 = .ok (.if_icmp .eq 358, 3) := by decide +kernel
theorem d_law_1282 : decode code 1282 = .ok (.iconst 0, 1) := by decide +kernel
theorem d_law_1283 : decode code 1283 = .ok (.ireturn, 1) := by decide +kernel
theorem d_law_1284 : decode code 1284 = .ok (.aload_n 1, 1) := by decide +kernel
theorem d_law_1285 : decode code 1285 = .ok (.invokevirtual 170, 3) := by decide +kernel
theorem d_law_1288 : decode code 1288 = .ok (.aload_n 2, 1) := by decide +kernel
theorem d_law_1289 : decode code 1289 = .ok (.invokevirtual 173, 3) := by decide +kernel
theorem d_law_1292 : decode code 1292 = .ok (.if_icmp .eq 345, 3) := by decide +kernel
theorem d_law_1295 : decode code 1295 = .ok (.iconst 0, 1) := by decide +kernel
theorem d_law_1296 : decode code 1296 = .ok (.ireturn, 1) := by decide +kernel
theorem d_law_1297 : decode code 1297 = .ok (.aload_n 1, 1) := by decide +kernel
theorem d_law_1298 : decode code 1298 = .ok (.aload_n 0, 1) := by decide +kernel
theorem d_law_1299 : decode code 1299 = .ok (.iload 4, 2) := by decide +kernel
theorem d_law_1301 : decode code 1301 = .ok (.iconst 1, 1) := by decide +kernel
theorem d_law_1302 : decode code 1302 = .ok (.iadd, 1) := by decide +kernel
theorem d_law_1303 : decode code 1303 = .ok (.iaload, 1) := by decide +kernel
theorem d_law_1304 : decode code 1304 = .ok (.aload_n 0, 1) := by decide +kernel
theorem d_law_1305 : decode code 1305 = .ok (.iload 4, 2) := by decide +kernel
theorem d_law_1307 : decode code 1307 = .ok (.iconst 2, 1) := by decide +kernel
theorem d_law_1308 : decode code 1308 = .ok (.iadd, 1) := by decide +kernel
theorem d_law_1309 : decode code 1309 = .ok (.iaload, 1) := by decide +kernel
theorem d_law_1310 : decode code 1310 = .ok (.invokevirtual 174, 3) := by decide +kernel
theorem d_law_1313 : decode code 1313 = .ok (.aload_n 2, 1) := by decide +kernel
theorem d_law_1314 : decode code 1314 = .ok (.aload_n 0, 1) := by decide +kernel
theorem d_law_1315 : decode code 1315 = .ok (.iload 4, 2) := by decide +kernel
theorem d_law_1317 : decode code 1317 = .ok (.iconst 1, 1) := by decide +kernel
theorem d_law_1318 : decode code 1318 = .ok (.iadd, 1) := by decide +kernel
theorem d_law_1319 : decode code 1319 = .ok (.iaload, 1) := by decide +kernel
theorem d_law_1320 : decode code 1320 = .ok (.aload_n 0, 1) := by decide +kernel
theorem d_law_1321 : decode code 1321 = .ok (.iload 4, 2) := by decide +kernel
theorem d_law_1323 : decode code 1323 = .ok (.iconst 2, 1) := by decide +kernel
theorem d_law_1324 : decode code 1324 = .ok (.iadd, 1) := by decide +kernel
theorem d_law_1325 : decode code 1325 = .ok (.iaload, 1) := by decide +kernel
theorem d_law_1326 : decode code 1326 = .ok (.invokevirtual 177, 3) := by decide +kernel
theorem d_law_1329 : decode code 1329 = .ok (.if_icmp .eq 308, 3) := by decide +kernel
theorem d_law_1332 : decode code 1332 = .ok (.iconst 0, 1) := by decide +kernel
theorem d_law_1333 : decode code 1333 = .ok (.ireturn, 1) := by decide +kernel
theorem d_law_1334 : decode code 1334 = .ok (.aload_n 1, 1) := by decide +kernel
theorem d_law_1335 : decode code 1335 = .ok (.aload_n 0, 1) := by decide +kernel
theorem d_law_1336 : decode code 1336 = .ok (.iload 4, 2) := by decide +kernel
theorem d_law_1338 : decode code 1338 = .ok (.iconst 1, 1) := by decide +kernel
theorem d_law_1339 : decode code 1339 = .ok (.iadd, 1) := by decide +kernel
theorem d_law_1340 : decode code 1340 = .ok (.iaload, 1) := by decide +kernel
theorem d_law_1341 : decode code 1341 = .ok (.aload_n 0, 1) := by decide +kernel
theorem d_law_1342 : decode code 1342 = .ok (.iload 4, 2) := by decide +kernel
theorem d_law_1344 : decode code 1344 = .ok (.iconst 2, 1) := by decide +kernel
theorem d_law_1345 : decode code 1345 = .ok (.iadd, 1) := by decide +kernel
theorem d_law_1346 : decode code 1346 = .ok (.iaload, 1) := by decide +kernel
theorem d_law_1347 : decode code 1347 = .ok (.aload_n 0, 1) := by decide +kernel
theorem d_law_1348 : decode code 1348 = .ok (.iload 4, 2) := by decide +kernel
theorem d_law_1350 : decode code 1350 = .ok (.iconst 3, 1) := by decide +kernel
theorem d_law_1351 : decode code 1351 = .ok (.iadd, 1) := by decide +kernel
theorem d_law_1352 : decode code 1352 = .ok (.iaload, 1) := by decide +kernel
theorem d_law_1353 : decode code 1353 = .ok (.invokevirtual 178, 3) := by decide +kernel
theorem d_law_1356 : decode code 1356 = .ok (.aload_n 2, 1) := by decide +kernel
theorem d_law_1357 : decode code 1357 = .ok (.aload_n 0, 1) := by decide +kernel
theorem d_law_1358 : decode code 1358 = .ok (.iload 4, 2) := by decide +kernel
theorem d_law_1360 : decode code 1360 = .ok (.iconst 1, 1) := by decide +kernel
theorem d_law_1361 : decode code 1361 = .ok (.iadd, 1) := by decide +kernel
theorem d_law_1362 : decode code 1362 = .ok (.iaload, 1) := by decide +kernel
theorem d_law_1363 : decode code 1363 = .ok (.aload_n 0, 1) := by decide +kernel
theorem d_law_1364 : decode code 1364 = .ok (.iload 4, 2) := by decide +kernel
theorem d_law_1366 : decode code 1366 = .ok (.iconst 2, 1) := by decide +kernel
theorem d_law_1367 : decode code 1367 = .ok (.iadd, 1) := by decide +kernel
theorem d_law_1368 : decode code 1368 = .ok (.iaload, 1) := by decide +kernel
theorem d_law_1369 : decode code 1369 = .ok (.aload_n 0, 1) := by decide +kernel
theorem d_law_1370 : decode code 1370 = .ok (.iload 4, 2) := by decide +kernel
theorem d_law_1372 : decode code 1372 = .ok (.iconst 3, 1) := by decide +kernel
theorem d_law_1373 : decode code 1373 = .ok (.iadd, 1) := by decide +kernel
theorem d_law_1374 : decode code 1374 = .ok (.iaload, 1) := by decide +kernel
theorem d_law_1375 : decode code 1375 = .ok (.invokevirtual 181, 3) := by decide +kernel
theorem d_law_1378 : decode code 1378 = .ok (.if_icmp .eq 259, 3) := by decide +kernel
theorem d_law_1381 : decode code 1381 = .ok (.iconst 0, 1) := by decide +kernel
theorem d_law_1382 : decode code 1382 = .ok (.ireturn, 1) := by decide +kernel
theorem d_law_1383 : decode code 1383 = .ok (.aload_n 1, 1) := by decide +kernel
theorem d_law_1384 : decode code 1384 = .ok (.aload_n 0, 1) := by decide +kernel
theorem d_law_1385 : decode code 1385 = .ok (.iload 4, 2) := by decide +kernel
theorem d_law_1387 : decode code 1387 = .ok (.iconst 1, 1) := by decide +kernel
theorem d_law_1388 : decode code 1388 = .ok (.iadd, 1) := by decide +kernel
theorem d_law_1389 : decode code 1389 = .ok (.iaload, 1) := by decide +kernel
theorem d_law_1390 : decode code 1390 = .ok (.invokevirtual 182, 3) := by decide +kernel
theorem d_law_1393 : decode code 1393 = .ok (.aload_n 2, 1) := by decide +kernel
theorem d_law_1394 : decode code 1394 = .ok (.aload_n 0, 1) := by decide +kernel
theorem d_law_1395 : decode code 1395 = .ok (.iload 4, 2) := by decide +kernel
theorem d_law_1397 : decode code 1397 = .ok (.iconst 1, 1) := by decide +kernel
theorem d_law_1398 : decode code 1398 = .ok (.iadd, 1) := by decide +kernel
theorem d_law_1399 : decode code 1399 = .ok (.iaload, 1) := by decide +kernel
theorem d_law_1400 : decode code 1400 = .ok (.invokevirtual 185, 3) := by decide +kernel
theorem d_law_1403 : decode code 1403 = .ok (.if_icmp .eq 234, 3) := by decide +kernel
theorem d_law_1406 : decode code 1406 = .ok (.iconst 0, 1) := by decide +kernel
theorem d_law_1407 : decode code 1407 = .ok (.ireturn, 1) := by decide +kernel
theorem d_law_1408 : decode code 1408 = .ok (.aload_n 1, 1) := by decide +kernel
theorem d_law_1409 : decode code 1409 = .ok (.aload_n 0, 1) := by decide +kernel
theorem d_law_1410 : decode code 1410 = .ok (.iload 4, 2) := by decide +kernel
theorem d_law_1412 : decode code 1412 = .ok (.iconst 1, 1) := by decide +kernel
theorem d_law_1413 : decode code 1413 = .ok (.iadd, 1) := by decide +kernel
theorem d_law_1414 : decode code 1414 = .ok (.iaload, 1) := by decide +kernel
theorem d_law_1415 : decode code 1415 = .ok (.aload_n 0, 1) := by decide +kernel
theorem d_law_1416 : decode code 1416 = .ok (.iload 4, 2) := by decide +kernel
theorem d_law_1418 : decode code 1418 = .ok (.iconst 2, 1) := by decide +kernel
theorem d_law_1419 : decode code 1419 = .ok (.iadd, 1) := by decide +kernel
theorem d_law_1420 : decode code 1420 = .ok (.iaload, 1) := by decide +kernel
theorem d_law_1421 : decode code 1421 = .ok (.invokevirtual 186, 3) := by decide +kernel
theorem d_law_1424 : decode code 1424 = .ok (.aload_n 2, 1) := by decide +kernel
theorem d_law_1425 : decode code 1425 = .ok (.aload_n 0, 1) := by decide +kernel
theorem d_law_1426 : decode code 1426 = .ok (.iload 4, 2) := by decide +kernel
theorem d_law_1428 : decode code 1428 = .ok (.iconst 1, 1) := by decide +kernel
theorem d_law_1429 : decode code 1429 = .ok (.iadd, 1) := by decide +kernel
theorem d_law_1430 : decode code 1430 = .ok (.iaload, 1) := by decide +kernel
theorem d_law_1431 : decode code 1431 = .ok (.aload_n 0, 1) := by decide +kernel
theorem d_law_1432 : decode code 1432 = .ok (.iload 4, 2) := by decide +kernel
theorem d_law_1434 : decode code 1434 = .ok (.iconst 2, 1) := by decide +kernel
theorem d_law_1435 : decode code 1435 = .ok (.iadd, 1) := by decide +kernel
theorem d_law_1436 : decode code 1436 = .ok (.iaload, 1) := by decide +kernel
theorem d_law_1437 : decode code 1437 = .ok (.invokevirtual 189, 3) := by decide +kernel
theorem d_law_1440 : decode code 1440 = .ok (.if_icmp .eq 197, 3) := by decide +kernel
theorem d_law_1443 : decode code 1443 = .ok (.iconst 0, 1) := by decide +kernel
theorem d_law_1444 : decode code 1444 = .ok (.ireturn, 1) := by decide +kernel
theorem d_law_1445 : decode code 1445 = .ok (.aload_n 1, 1) := by decide +kernel
theorem d_law_1446 : decode code 1446 = .ok (.aload_n 0, 1) := by decide +kernel
theorem d_law_1447 : decode code 1447 = .ok (.iload 4, 2) := by decide +kernel
theorem d_law_1449 : decode code 1449 = .ok (.iconst 1, 1) := by decide +kernel
theorem d_law_1450 : decode code 1450 = .ok (.iadd, 1) := by decide +kernel
theorem d_law_1451 : decode code 1451 = .ok (.iaload, 1) := by decide +kernel
theorem d_law_1452 : decode code 1452 = .ok (.aload_n 0, 1) := by decide +kernel
theorem d_law_1453 : decode code 1453 = .ok (.iload 4, 2) := by decide +kernel
theorem d_law_1455 : decode code 1455 = .ok (.iconst 2, 1) := by decide +kernel
theorem d_law_1456 : decode code 1456 = .ok (.iadd, 1) := by decide +kernel
theorem d_law_1457 : decode code 1457 = .ok (.iaload, 1) := by decide +kernel
theorem d_law_1458 : decode code 1458 = .ok (.aload_n 0, 1) := by decide +kernel
theorem d_law_1459 : decode code 1459 = .ok (.iload 4, 2) := by decide +kernel
theorem d_law_1461 : decode code 1461 = .ok (.iconst 3, 1) := by decide +kernel
theorem d_law_1462 : decode code 1462 = .ok (.iadd, 1) := by decide +kernel
theorem d_law_1463 : decode code 1463 = .ok (.iaload, 1) := by decide +kernel
theorem d_law_1464 : decode code 1464 = .ok (.aload_n 0, 1) := by decide +kernel
theorem d_law_1465 : decode code 1465 = .ok (.iload 4, 2) := by decide +kernel
theorem d_law_1467 : decode code 1467 = .ok (.iconst 4, 1) := by decide +kernel
theorem d_law_1468 : decode code 1468 = .ok (.iadd, 1) := by decide +kernel
theorem d_law_1469 : decode code 1469 = .ok (.iaload, 1) := by decide +kernel
theorem d_law_1470 : decode code 1470 = .ok (.invokevirtual 190, 3) := by decide +kernel
theorem d_law_1473 : decode code 1473 = .ok (.aload_n 2, 1) := by decide +kernel
theorem d_law_1474 : decode code 1474 = .ok (.aload_n 0, 1) := by decide +kernel
theorem d_law_1475 : decode code 1475 = .ok (.iload 4, 2) := by decide +kernel
theorem d_law_1477 : decode code 1477 = .ok (.iconst 1, 1) := by decide +kernel
theorem d_law_1478 : decode code 1478 = .ok (.iadd, 1) := by decide +kernel
theorem d_law_1479 : decode code 1479 = .ok (.iaload, 1) := by decide +kernel
theorem d_law_1480 : decode code 1480 = .ok (.aload_n 0, 1) := by decide +kernel
theorem d_law_1481 : decode code 1481 = .ok (.iload 4, 2) := by decide +kernel
theorem d_law_1483 : decode code 1483 = .ok (.iconst 2, 1) := by decide +kernel
theorem d_law_1484 : decode code 1484 = .ok (.iadd, 1) := by decide +kernel
theorem d_law_1485 : decode code 1485 = .ok (.iaload, 1) := by decide +kernel
theorem d_law_1486 : decode code 1486 = .ok (.aload_n 0, 1) := by decide +kernel
theorem d_law_1487 : decode code 1487 = .ok (.iload 4, 2) := by decide +kernel
theorem d_law_1489 : decode code 1489 = .ok (.iconst 3, 1) := by decide +kernel
theorem d_law_1490 : decode code 1490 = .ok (.iadd, 1) := by decide +kernel
theorem d_law_1491 : decode code 1491 = .ok (.iaload, 1) := by decide +kernel
theorem d_law_1492 : decode code 1492 = .ok (.aload_n 0, 1) := by decide +kernel
theorem d_law_1493 : decode code 1493 = .ok (.iload 4, 2) := by decide +kernel
theorem d_law_1495 : decode code 1495 = .ok (.iconst 4, 1) := by decide +kernel
theorem d_law_1496 : decode code 1496 = .ok (.iadd, 1) := by decide +kernel
theorem d_law_1497 : decode code 1497 = .ok (.iaload, 1) := by decide +kernel
theorem d_law_1498 : decode code 1498 = .ok (.invokevirtual 193, 3) := by decide +kernel
theorem d_law_1501 : decode code 1501 = .ok (.if_icmp .eq 136, 3) := by decide +kernel
theorem d_law_1504 : decode code 1504 = .ok (.iconst 0, 1) := by decide +kernel
theorem d_law_1505 : decode code 1505 = .ok (.ireturn, 1) := by decide +kernel
theorem d_law_1506 : decode code 1506 = .ok (.aload_n 1, 1) := by decide +kernel
theorem d_law_1507 : decode code 1507 = .ok (.aload_n 0, 1) := by decide +kernel
theorem d_law_1508 : decode code 1508 = .ok (.iload 4, 2) := by decide +kernel
theorem d_law_1510 : decode code 1510 = .ok (.iconst 1, 1) := by decide +kernel
theorem d_law_1511 : decode code 1511 = .ok (.iadd, 1) := by decide +kernel
theorem d_law_1512 : decode code 1512 = .ok (.iaload, 1) := by decide +kernel
theorem d_law_1513 : decode code 1513 = .ok (.invokevirtual 194, 3) := by decide +kernel
theorem d_law_1516 : decode code 1516 = .ok (.aload_n 2, 1) := by decide +kernel
theorem d_law_1517 : decode code 1517 = .ok (.aload_n 0, 1) := by decide +kernel
theorem d_law_1518 : decode code 1518 = .ok (.iload 4, 2) := by decide +kernel
theorem d_law_1520 : decode code 1520 = .ok (.iconst 1, 1) := by decide +kernel
theorem d_law_1521 : decode code 1521 = .ok (.iadd, 1) := by decide +kernel
theorem d_law_1522 : decode code 1522 = .ok (.iaload, 1) := by decide +kernel
theorem d_law_1523 : decode code 1523 = .ok (.invokevirtual 197, 3) := by decide +kernel
theorem d_law_1526 : decode code 1526 = .ok (.if_icmp .eq 111, 3) := by decide +kernel
theorem d_law_1529 : decode code 1529 = .ok (.iconst 0, 1) := by decide +kernel
theorem d_law_1530 : decode code 1530 = .ok (.ireturn, 1) := by decide +kernel
theorem d_law_1531 : decode code 1531 = .ok (.aload_n 1, 1) := by decide +kernel
theorem d_law_1532 : decode code 1532 = .ok (.aload_n 0, 1) := by decide +kernel
theorem d_law_1533 : decode code 1533 = .ok (.iload 4, 2) := by decide +kernel
theorem d_law_1535 : decode code 1535 = .ok (.iconst 1, 1) := by decide +kernel
theorem d_law_1536 : decode code 1536 = .ok (.iadd, 1) := by decide +kernel
theorem d_law_1537 : decode code 1537 = .ok (.iaload, 1) := by decide +kernel
theorem d_law_1538 : decode code 1538 = .ok (.invokevirtual 198, 3) := by decide +kernel
theorem d_law_1541 : decode code 1541 = .ok (.aload_n 2, 1) := by decide +kernel
theorem d_law_1542 : decode code 1542 = .ok (.aload_n 0, 1) := by decide +kernel
theorem d_law_1543 : decode code 1543 = .ok (.iload 4, 2) := by decide +kernel
theorem d_law_1545 : decode code 1545 = .ok (.iconst 1, 1) := by decide +kernel
theorem d_law_1546 : decode code 1546 = .ok (.iadd, 1) := by decide +kernel
theorem d_law_1547 : decode code 1547 = .ok (.iaload, 1) := by decide +kernel
theorem d_law_1548 : decode code 1548 = .ok (.invokevirtual 201, 3) := by decide +kernel
theorem d_law_1551 : decode code 1551 = .ok (.if_icmp .eq 86, 3) := by decide +kernel
theorem d_law_1554 : decode code 1554 = .ok (.iconst 0, 1) := by decide +kernel
theorem d_law_1555 : decode code 1555 = .ok (.ireturn, 1) := by decide +kernel
theorem d_law_1556 : decode code 1556 = .ok (.aload_n 1, 1) := by decide +kernel
theorem d_law_1557 : decode code 1557 = .ok (.aload_n 0, 1) := by decide +kernel
theorem d_law_1558 : decode code 1558 = .ok (.iload 4, 2) := by decide +kernel
theorem d_law_1560 : decode code 1560 = .ok (.iconst 1, 1) := by decide +kernel
theorem d_law_1561 : decode code 1561 = .ok (.iadd, 1) := by decide +kernel
theorem d_law_1562 : decode code 1562 = .ok (.iaload, 1) := by decide +kernel
theorem d_law_1563 : decode code 1563 = .ok (.invokevirtual 202, 3) := by decide +kernel
theorem d_law_1566 : decode code 1566 = .ok (.aload_n 2, 1) := by decide +kernel
theorem d_law_1567 : decode code 1567 = .ok (.aload_n 0, 1) := by decide +kernel
theorem d_law_1568 : decode code 1568 = .ok (.iload 4, 2) := by decide +kernel
theorem d_law_1570 : decode code 1570 = .ok (.iconst 1, 1) := by decide +kernel
theorem d_law_1571 : decode code 1571 = .ok (.iadd, 1) := by decide +kernel
theorem d_law_1572 : decode code 1572 = .ok (.iaload, 1) := by decide +kernel
theorem d_law_1573 : decode code 1573 = .ok (.invokevirtual 205, 3) := by decide +kernel
theorem d_law_1576 : decode code 1576 = .ok (.if_icmp .eq 61, 3) := by decide +kernel
theorem d_law_1579 : decode code 1579 = .ok (.iconst 0, 1) := by decide +kernel
theorem d_law_1580 : decode code 1580 = .ok (.ireturn, 1) := by decide +kernel
theorem d_law_1581 : decode code 1581 = .ok (.aload_n 1, 1) := by decide +kernel
theorem d_law_1582 : decode code 1582 = .ok (.aload_n 0, 1) := by decide +kernel
theorem d_law_1583 : decode code 1583 = .ok (.iload 4, 2) := by decide +kernel
theorem d_law_1585 : decode code 1585 = .ok (.iconst 1, 1) := by decide +kernel
theorem d_law_1586 : decode code 1586 = .ok (.iadd, 1) := by decide +kernel
theorem d_law_1587 : decode code 1587 = .ok (.iaload, 1) := by decide +kernel
theorem d_law_1588 : decode code 1588 = .ok (.aload_n 3, 1) := by decide +kernel
theorem d_law_1589 : decode code 1589 = .ok (.invokestatic 206, 3) := by decide +kernel
theorem d_law_1592 : decode code 1592 = .ok (.istore 5, 2) := by decide +kernel
theorem d_law_1594 : decode code 1594 = .ok (.aload_n 2, 1) := by decide +kernel
theorem d_law_1595 : decode code 1595 = .ok (.aload_n 0, 1) := by decide +kernel
theorem d_law_1596 : decode code 1596 = .ok (.iload 4, 2) := by decide +kernel
theorem d_law_1598 : decode code 1598 = .ok (.iconst 1, 1) := by decide +kernel
theorem d_law_1599 : decode code 1599 = .ok (.iadd, 1) := by decide +kernel
theorem d_law_1600 : decode code 1600 = .ok (.iaload, 1) := by decide +kernel
theorem d_law_1601 : decode code 1601 = .ok (.invokevirtual 209, 3) := by decide +kernel
theorem d_law_1604 : decode code 1604 = .ok (.istore 6, 2) := by decide +kernel
theorem d_law_1606 : decode code 1606 = .ok (.aload_n 2, 1) := by decide +kernel
theorem d_law_1607 : decode code 1607 = .ok (.invokevirtual 58, 3) := by decide +kernel
theorem d_law_1610 : decode code 1610 = .ok (.iload 5, 2) := by decide +kernel
theorem d_law_1612 : decode code 1612 = .ok (.if_icmp .eq 5, 3) := by decide +kernel
theorem d_law_1615 : decode code 1615 = .ok (.iconst 0, 1) := by decide +kernel
theorem d_law_1616 : decode code 1616 = .ok (.ireturn, 1) := by decide +kernel
theorem d_law_1617 : decode code 1617 = .ok (.iload 5, 2) := by decide +kernel
theorem d_law_1619 : decode code 1619 = .ok (.ifCond .ne 15, 3) := by decide +kernel
theorem d_law_1622 : decode code 1622 = .ok (.aload_n 3, 1) := by decide +kernel
theorem d_law_1623 : decode code 1623 = .ok (.iconst 0, 1) := by decide +kernel
theorem d_law_1624 : decode code 1624 = .ok (.laload, 1) := by decide +kernel
theorem d_law_1625 : decode code 1625 = .ok (.iload 6, 2) := by decide +kernel
theorem d_law_1627 : decode code 1627 = .ok (.i2l, 1) := by decide +kernel
theorem d_law_1628 : decode code 1628 = .ok (.lcmp, 1) := by decide +kernel
theorem d_law_1629 : decode code 1629 = .ok (.ifCond .eq 5, 3) := by decide +kernel
theorem d_law_1632 : decode code 1632 = .ok (.iconst 0, 1) := by decide +kernel
theorem d_law_1633 : decode code 1633 = .ok (.ireturn, 1) := by decide +kernel
theorem d_law_1634 : decode code 1634 = .ok (.goto 3, 3) := by decide +kernel
theorem d_law_1637 : decode code 1637 = .ok (.iinc 4 5, 3) := by decide +kernel
theorem d_law_1640 : decode code 1640 = .ok (.goto (-1617), 3) := by decide +kernel
theorem d_law_1643 : decode code 1643 = .ok (.iconst 1, 1) := by decide +kernel
theorem d_law_1644 : decode code 1644 = .ok (.ireturn, 1) := by decide +kernel
