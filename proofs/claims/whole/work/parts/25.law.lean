theorem dL_law_0 : decode cL_law 0 = .ok (.new 8, 3) := by decide +kernel
theorem dL_law_3 : decode cL_law 3 = .ok (.dup, 1) := by decide +kernel
theorem dL_law_4 : decode cL_law 4 = .ok (.invokespecial 33, 3) := by decide +kernel
theorem dL_law_7 : decode cL_law 7 = .ok (.astore_n 1, 1) := by decide +kernel
theorem dL_law_8 : decode cL_law 8 = .ok (.new 34, 3) := by decide +kernel
theorem dL_law_11 : decode cL_law 11 = .ok (.dup, 1) := by decide +kernel
theorem dL_law_12 : decode cL_law 12 = .ok (.invokespecial 36, 3) := by decide +kernel
theorem dL_law_15 : decode cL_law 15 = .ok (.astore_n 2, 1) := by decide +kernel
theorem dL_law_16 : decode cL_law 16 = .ok (.iconst 1, 1) := by decide +kernel
theorem dL_law_17 : decode cL_law 17 = .ok (.newarray .long, 2) := by decide +kernel
theorem dL_law_19 : decode cL_law 19 = .ok (.astore_n 3, 1) := by decide +kernel
theorem dL_law_20 : decode cL_law 20 = .ok (.iconst 0, 1) := by decide +kernel
theorem dL_law_21 : decode cL_law 21 = .ok (.istore 4, 2) := by decide +kernel
theorem dL_law_23 : decode cL_law 23 = .ok (.iload 4, 2) := by decide +kernel
theorem dL_law_25 : decode cL_law 25 = .ok (.aload_n 0, 1) := by decide +kernel
theorem dL_law_26 : decode cL_law 26 = .ok (.arraylength, 1) := by decide +kernel
theorem dL_law_27 : decode cL_law 27 = .ok (.bipush 6, 2) := by decide +kernel
theorem dL_law_29 : decode cL_law 29 = .ok (.isub, 1) := by decide +kernel
theorem dL_law_30 : decode cL_law 30 = .ok (.if_icmp .gt 1816, 3) := by decide +kernel
theorem dL_law_33 : decode cL_law 33 = .ok (.aload_n 0, 1) := by decide +kernel
theorem dL_law_34 : decode cL_law 34 = .ok (.iload 4, 2) := by decide +kernel
theorem dL_law_36 : decode cL_law 36 = .ok (.iaload, 1) := by decide +kernel
theorem dL_law_37 : decode cL_law 37 = .ok (.bipush 63, 2) := by decide +kernel
theorem dL_law_39 : decode cL_law 39 = .ok (.iand, 1) := by decide +kernel
theorem dL_law_40 : decode cL_law 40 = .ok (.tableswitch 1800 0 49 #[216, 289, 314, 327, 340, 353, 366, 379, 404, 429, 497, 522, 547, 572, 597, 634, 647, 672, 697, 746, 771, 839, 907, 982, 1007, 1063, 1088, 1113, 1138, 1175, 1212, 1249, 1286, 1311, 1360, 1385, 1446, 1471, 1496, 1521, 1546, 1571, 1596, 1621, 1646, 1671, 1724, 1737, 1750, 1775], 216) := by decide +kernel
theorem dL_law_256 : decode cL_law 256 = .ok (.aload_n 1, 1) := by decide +kernel
theorem dL_law_257 : decode cL_law 257 = .ok (.aload_n 0, 1) := by decide +kernel
theorem dL_law_258 : decode cL_law 258 = .ok (.iload 4, 2) := by decide +kernel
theorem dL_law_260 : decode cL_law 260 = .ok (.iconst 1, 1) := by decide +kernel
theorem dL_law_261 : decode cL_law 261 = .ok (.iadd, 1) := by decide +kernel
theorem dL_law_262 : decode cL_law 262 = .ok (.iaload, 1) := by decide +kernel
theorem dL_law_263 : decode cL_law 263 = .ok (.aload_n 0, 1) := by decide +kernel
theorem dL_law_264 : decode cL_law 264 = .ok (.iload 4, 2) := by decide +kernel
theorem dL_law_266 : decode cL_law 266 = .ok (.iconst 2, 1) := by decide +kernel
theorem dL_law_267 : decode cL_law 267 = .ok (.iadd, 1) := by decide +kernel
theorem dL_law_268 : decode cL_law 268 = .ok (.iaload, 1) := by decide +kernel
theorem dL_law_269 : decode cL_law 269 = .ok (.aload_n 0, 1) := by decide +kernel
theorem dL_law_270 : decode cL_law 270 = .ok (.iload 4, 2) := by decide +kernel
theorem dL_law_272 : decode cL_law 272 = .ok (.iconst 3, 1) := by decide +kernel
theorem dL_law_273 : decode cL_law 273 = .ok (.iadd, 1) := by decide +kernel
theorem dL_law_274 : decode cL_law 274 = .ok (.iaload, 1) := by decide +kernel
theorem dL_law_275 : decode cL_law 275 = .ok (.aload_n 0, 1) := by decide +kernel
theorem dL_law_276 : decode cL_law 276 = .ok (.iload 4, 2) := by decide +kernel
theorem dL_law_278 : decode cL_law 278 = .ok (.iconst 4, 1) := by decide +kernel
theorem dL_law_279 : decode cL_law 279 = .ok (.iadd, 1) := by decide +kernel
theorem dL_law_280 : decode cL_law 280 = .ok (.iaload, 1) := by decide +kernel
theorem dL_law_281 : decode cL_law 281 = .ok (.aload_n 0, 1) := by decide +kernel
theorem dL_law_282 : decode cL_law 282 = .ok (.iload 4, 2) := by decide +kernel
theorem dL_law_284 : decode cL_law 284 = .ok (.iconst 5, 1) := by decide +kernel
theorem dL_law_285 : decode cL_law 285 = .ok (.iadd, 1) := by decide +kernel
theorem dL_law_286 : decode cL_law 286 = .ok (.iaload, 1) := by decide +kernel
theorem dL_law_287 : decode cL_law 287 = .ok (.invokevirtual 37, 3) := by decide +kernel
theorem dL_law_290 : decode cL_law 290 = .ok (.aload_n 2, 1) := by decide +kernel
theorem dL_law_291 : decode cL_law 291 = .ok (.aload_n 0, 1) := by decide +kernel
theorem dL_law_292 : decode cL_law 292 = .ok (.iload 4, 2) := by decide +kernel
theorem dL_law_294 : decode cL_law 294 = .ok (.iconst 1, 1) := by decide +kernel
theorem dL_law_295 : decode cL_law 295 = .ok (.iadd, 1) := by decide +kernel
theorem dL_law_296 : decode cL_law 296 = .ok (.iaload, 1) := by decide +kernel
theorem dL_law_297 : decode cL_law 297 = .ok (.aload_n 0, 1) := by decide +kernel
theorem dL_law_298 : decode cL_law 298 = .ok (.iload 4, 2) := by decide +kernel
theorem dL_law_300 : decode cL_law 300 = .ok (.iconst 2, 1) := by decide +kernel
theorem dL_law_301 : decode cL_law 301 = .ok (.iadd, 1) := by decide +kernel
theorem dL_law_302 : decode cL_law 302 = .ok (.iaload, 1) := by decide +kernel
theorem dL_law_303 : decode cL_law 303 = .ok (.aload_n 0, 1) := by decide +kernel
theorem dL_law_304 : decode cL_law 304 = .ok (.iload 4, 2) := by decide +kernel
theorem dL_law_306 : decode cL_law 306 = .ok (.iconst 3, 1) := by decide +kernel
theorem dL_law_307 : decode cL_law 307 = .ok (.iadd, 1) := by decide +kernel
theorem dL_law_308 : decode cL_law 308 = .ok (.iaload, 1) := by decide +kernel
theorem dL_law_309 : decode cL_law 309 = .ok (.aload_n 0, 1) := by decide +kernel
theorem dL_law_310 : decode cL_law 310 = .ok (.iload 4, 2) := by decide +kernel
theorem dL_law_312 : decode cL_law 312 = .ok (.iconst 4, 1) := by decide +kernel
theorem dL_law_313 : decode cL_law 313 = .ok (.iadd, 1) := by decide +kernel
theorem dL_law_314 : decode cL_law 314 = .ok (.iaload, 1) := by decide +kernel
theorem dL_law_315 : decode cL_law 315 = .ok (.aload_n 0, 1) := by decide +kernel
theorem dL_law_316 : decode cL_law 316 = .ok (.iload 4, 2) := by decide +kernel
theorem dL_law_318 : decode cL_law 318 = .ok (.iconst 5, 1) := by decide +kernel
theorem dL_law_319 : decode cL_law 319 = .ok (.iadd, 1) := by decide +kernel
theorem dL_law_320 : decode cL_law 320 = .ok (.iaload, 1) := by decide +kernel
theorem dL_law_321 : decode cL_law 321 = .ok (.invokevirtual 41, 3) := by decide +kernel
theorem dL_law_324 : decode cL_law 324 = .ok (.if_icmp .eq 1516, 3) := by decide +kernel
theorem dL_law_327 : decode cL_law 327 = .ok (.iconst 0, 1) := by decide +kernel
theorem dL_law_328 : decode cL_law 328 = .ok (.ireturn, 1) := by decide +kernel
theorem dL_law_329 : decode cL_law 329 = .ok (.aload_n 1, 1) := by decide +kernel
theorem dL_law_330 : decode cL_law 330 = .ok (.aload_n 0, 1) := by decide +kernel
theorem dL_law_331 : decode cL_law 331 = .ok (.iload 4, 2) := by decide +kernel
theorem dL_law_333 : decode cL_law 333 = .ok (.iconst 1, 1) := by decide +kernel
theorem dL_law_334 : decode cL_law 334 = .ok (.iadd, 1) := by decide +kernel
theorem dL_law_335 : decode cL_law 335 = .ok (.iaload, 1) := by decide +kernel
theorem dL_law_336 : decode cL_law 336 = .ok (.invokevirtual 42, 3) := by decide +kernel
theorem dL_law_339 : decode cL_law 339 = .ok (.aload_n 2, 1) := by decide +kernel
theorem dL_law_340 : decode cL_law 340 = .ok (.aload_n 0, 1) := by decide +kernel
theorem dL_law_341 : decode cL_law 341 = .ok (.iload 4, 2) := by decide +kernel
theorem dL_law_343 : decode cL_law 343 = .ok (.iconst 1, 1) := by decide +kernel
theorem dL_law_344 : decode cL_law 344 = .ok (.iadd, 1) := by decide +kernel
theorem dL_law_345 : decode cL_law 345 = .ok (.iaload, 1) := by decide +kernel
theorem dL_law_346 : decode cL_law 346 = .ok (.invokevirtual 45, 3) := by decide +kernel
theorem dL_law_349 : decode cL_law 349 = .ok (.if_icmp .eq 1491, 3) := by decide +kernel
theorem dL_law_352 : decode cL_law 352 = .ok (.iconst 0, 1) := by decide +kernel
theorem dL_law_353 : decode cL_law 353 = .ok (.ireturn, 1) := by decide +kernel
theorem dL_law_354 : decode cL_law 354 = .ok (.aload_n 1, 1) := by decide +kernel
theorem dL_law_355 : decode cL_law 355 = .ok (.invokevirtual 46, 3) := by decide +kernel
theorem dL_law_358 : decode cL_law 358 = .ok (.aload_n 2, 1) := by decide +kernel
theorem dL_law_359 : decode cL_law 359 = .ok (.invokevirtual 50, 3) := by decide +kernel
theorem dL_law_362 : decode cL_law 362 = .ok (.if_icmp .eq 1478, 3) := by decide +kernel
theorem dL_law_365 : decode cL_law 365 = .ok (.iconst 0, 1) := by decide +kernel
theorem dL_law_366 : decode cL_law 366 = .ok (.ireturn, 1) := by decide +kernel
theorem dL_law_367 : decode cL_law 367 = .ok (.aload_n 1, 1) := by decide +kernel
theorem dL_law_368 : decode cL_law 368 = .ok (.invokevirtual 51, 3) := by decide +kernel
theorem dL_law_371 : decode cL_law 371 = .ok (.aload_n 2, 1) := by decide +kernel
theorem dL_law_372 : decode cL_law 372 = .ok (.invokevirtual 54, 3) := by decide +kernel
theorem dL_law_375 : decode cL_law 375 = .ok (.if_icmp .eq 1465, 3) := by decide +kernel
theorem dL_law_378 : decode cL_law 378 = .ok (.iconst 0, 1) := by decide +kernel
theorem dL_law_379 : decode cL_law 379 = .ok (.ireturn, 1) := by decide +kernel
theorem dL_law_380 : decode cL_law 380 = .ok (.aload_n 1, 1) := by decide +kernel
theorem dL_law_381 : decode cL_law 381 = .ok (.invokevirtual 55, 3) := by decide +kernel
theorem dL_law_384 : decode cL_law 384 = .ok (.aload_n 2, 1) := by decide +kernel
theorem dL_law_385 : decode cL_law 385 = .ok (.invokevirtual 58, 3) := by decide +kernel
theorem dL_law_388 : decode cL_law 388 = .ok (.if_icmp .eq 1452, 3) := by decide +kernel
theorem dL_law_391 : decode cL_law 391 = .ok (.iconst 0, 1) := by decide +kernel
theorem dL_law_392 : decode cL_law 392 = .ok (.ireturn, 1) := by decide +kernel
theorem dL_law_393 : decode cL_law 393 = .ok (.aload_n 1, 1) := by decide +kernel
theorem dL_law_394 : decode cL_law 394 = .ok (.invokevirtual 59, 3) := by decide +kernel
theorem dL_law_397 : decode cL_law 397 = .ok (.aload_n 2, 1) := by decide +kernel
theorem dL_law_398 : decode cL_law 398 = .ok (.invokevirtual 62, 3) := by decide +kernel
theorem dL_law_401 : decode cL_law 401 = .ok (.if_icmp .eq 1439, 3) := by decide +kernel
theorem dL_law_404 : decode cL_law 404 = .ok (.iconst 0, 1) := by decide +kernel
theorem dL_law_405 : decode cL_law 405 = .ok (.ireturn, 1) := by decide +kernel
theorem dL_law_406 : decode cL_law 406 = .ok (.aload_n 1, 1) := by decide +kernel
theorem dL_law_407 : decode cL_law 407 = .ok (.invokevirtual 63, 3) := by decide +kernel
theorem dL_law_410 : decode cL_law 410 = .ok (.aload_n 2, 1) := by decide +kernel
theorem dL_law_411 : decode cL_law 411 = .ok (.invokevirtual 66, 3) := by decide +kernel
theorem dL_law_414 : decode cL_law 414 = .ok (.if_icmp .eq 1426, 3) := by decide +kernel
theorem dL_law_417 : decode cL_law 417 = .ok (.iconst 0, 1) := by decide +kernel
theorem dL_law_418 : decode cL_law 418 = .ok (.ireturn, 1) := by decide +kernel
theorem dL_law_419 : decode cL_law 419 = .ok (.aload_n 1, 1) := by decide +kernel
theorem dL_law_420 : decode cL_law 420 = .ok (.aload_n 0, 1) := by decide +kernel
theorem dL_law_421 : decode cL_law 421 = .ok (.iload 4, 2) := by decide +kernel
theorem dL_law_423 : decode cL_law 423 = .ok (.iconst 1, 1) := by decide +kernel
theorem dL_law_424 : decode cL_law 424 = .ok (.iadd, 1) := by decide +kernel
theorem dL_law_425 : decode cL_law 425 = .ok (.iaload, 1) := by decide +kernel
theorem dL_law_426 : decode cL_law 426 = .ok (.invokevirtual 67, 3) := by decide +kernel
theorem dL_law_429 : decode cL_law 429 = .ok (.aload_n 2, 1) := by decide +kernel
theorem dL_law_430 : decode cL_law 430 = .ok (.aload_n 0, 1) := by decide +kernel
theorem dL_law_431 : decode cL_law 431 = .ok (.iload 4, 2) := by decide +kernel
theorem dL_law_433 : decode cL_law 433 = .ok (.iconst 1, 1) := by decide +kernel
theorem dL_law_434 : decode cL_law 434 = .ok (.iadd, 1) := by decide +kernel
theorem dL_law_435 : decode cL_law 435 = .ok (.iaload, 1) := by decide +kernel
theorem dL_law_436 : decode cL_law 436 = .ok (.invokevirtual 70, 3) := by decide +kernel
theorem dL_law_439 : decode cL_law 439 = .ok (.if_icmp .eq 1401, 3) := by decide +kernel
theorem dL_law_442 : decode cL_law 442 = .ok (.iconst 0, 1) := by decide +kernel
theorem dL_law_443 : decode cL_law 443 = .ok (.ireturn, 1) := by decide +kernel
theorem dL_law_444 : decode cL_law 444 = .ok (.aload_n 1, 1) := by decide +kernel
theorem dL_law_445 : decode cL_law 445 = .ok (.aload_n 0, 1) := by decide +kernel
theorem dL_law_446 : decode cL_law 446 = .ok (.iload 4, 2) := by decide +kernel
theorem dL_law_448 : decode cL_law 448 = .ok (.iconst 1, 1) := by decide +kernel
theorem dL_law_449 : decode cL_law 449 = .ok (.iadd, 1) := by decide +kernel
theorem dL_law_450 : decode cL_law 450 = .ok (.iaload, 1) := by decide +kernel
theorem dL_law_451 : decode cL_law 451 = .ok (.invokevirtual 71, 3) := by decide +kernel
theorem dL_law_454 : decode cL_law 454 = .ok (.aload_n 2, 1) := by decide +kernel
theorem dL_law_455 : decode cL_law 455 = .ok (.aload_n 0, 1) := by decide +kernel
theorem dL_law_456 : decode cL_law 456 = .ok (.iload 4, 2) := by decide +kernel
theorem dL_law_458 : decode cL_law 458 = .ok (.iconst 1, 1) := by decide +kernel
theorem dL_law_459 : decode cL_law 459 = .ok (.iadd, 1) := by decide +kernel
theorem dL_law_460 : decode cL_law 460 = .ok (.iaload, 1) := by decide +kernel
theorem dL_law_461 : decode cL_law 461 = .ok (.invokevirtual 74, 3) := by decide +kernel
theorem dL_law_464 : decode cL_law 464 = .ok (.if_icmp .eq 1376, 3) := by decide +kernel
theorem dL_law_467 : decode cL_law 467 = .ok (.iconst 0, 1) := by decide +kernel
theorem dL_law_468 : decode cL_law 468 = .ok (.ireturn, 1) := by decide +kernel
theorem dL_law_469 : decode cL_law 469 = .ok (.aload_n 1, 1) := by decide +kernel
theorem dL_law_470 : decode cL_law 470 = .ok (.aload_n 0, 1) := by decide +kernel
theorem dL_law_471 : decode cL_law 471 = .ok (.iload 4, 2) := by decide +kernel
theorem dL_law_473 : decode cL_law 473 = .ok (.iconst 1, 1) := by decide +kernel
theorem dL_law_474 : decode cL_law 474 = .ok (.iadd, 1) := by decide +kernel
theorem dL_law_475 : decode cL_law 475 = .ok (.iaload, 1) := by decide +kernel
theorem dL_law_476 : decode cL_law 476 = .ok (.aload_n 0, 1) := by decide +kernel
theorem dL_law_477 : decode cL_law 477 = .ok (.iload 4, 2) := by decide +kernel
theorem dL_law_479 : decode cL_law 479 = .ok (.iconst 2, 1) := by decide +kernel
theorem dL_law_480 : decode cL_law 480 = .ok (.iadd, 1) := by decide +kernel
theorem dL_law_481 : decode cL_law 481 = .ok (.iaload, 1) := by decide +kernel
theorem dL_law_482 : decode cL_law 482 = .ok (.aload_n 3, 1) := by decide +kernel
theorem dL_law_483 : decode cL_law 483 = .ok (.invokestatic 75, 3) := by decide +kernel
theorem dL_law_486 : decode cL_law 486 = .ok (.istore 5, 2) := by decide +kernel
theorem dL_law_488 : decode cL_law 488 = .ok (.aload_n 2, 1) := by decide +kernel
theorem dL_law_489 : decode cL_law 489 = .ok (.aload_n 0, 1) := by decide +kernel
theorem dL_law_490 : decode cL_law 490 = .ok (.iload 4, 2) := by decide +kernel
theorem dL_law_492 : decode cL_law 492 = .ok (.iconst 1, 1) := by decide +kernel
theorem dL_law_493 : decode cL_law 493 = .ok (.iadd, 1) := by decide +kernel
theorem dL_law_494 : decode cL_law 494 = .ok (.iaload, 1) := by decide +kernel
theorem dL_law_495 : decode cL_law 495 = .ok (.aload_n 0, 1) := by decide +kernel
theorem dL_law_496 : decode cL_law 496 = .ok (.iload 4, 2) := by decide +kernel
theorem dL_law_498 : decode cL_law 498 = .ok (.iconst 2, 1) := by decide +kernel
theorem dL_law_499 : decode cL_law 499 = .ok (.iadd, 1) := by decide +kernel
theorem dL_law_500 : decode cL_law 500 = .ok (.iaload, 1) := by decide +kernel
theorem dL_law_501 : decode cL_law 501 = .ok (.invokevirtual 80, 3) := by decide +kernel
theorem dL_law_504 : decode cL_law 504 = .ok (.istore 6, 2) := by decide +kernel
theorem dL_law_506 : decode cL_law 506 = .ok (.aload_n 2, 1) := by decide +kernel
theorem dL_law_507 : decode cL_law 507 = .ok (.invokevirtual 81, 3) := by decide +kernel
theorem dL_law_510 : decode cL_law 510 = .ok (.iload 5, 2) := by decide +kernel
theorem dL_law_512 : decode cL_law 512 = .ok (.if_icmp .eq 5, 3) := by decide +kernel
theorem dL_law_515 : decode cL_law 515 = .ok (.iconst 0, 1) := by decide +kernel
theorem dL_law_516 : decode cL_law 516 = .ok (.ireturn, 1) := by decide +kernel
theorem dL_law_517 : decode cL_law 517 = .ok (.iload 5, 2) := by decide +kernel
theorem dL_law_519 : decode cL_law 519 = .ok (.ifCond .ne 15, 3) := by decide +kernel
theorem dL_law_522 : decode cL_law 522 = .ok (.aload_n 3, 1) := by decide +kernel
theorem dL_law_523 : decode cL_law 523 = .ok (.iconst 0, 1) := by decide +kernel
theorem dL_law_524 : decode cL_law 524 = .ok (.laload, 1) := by decide +kernel
theorem dL_law_525 : decode cL_law 525 = .ok (.iload 6, 2) := by decide +kernel
theorem dL_law_527 : decode cL_law 527 = .ok (.i2l, 1) := by decide +kernel
theorem dL_law_528 : decode cL_law 528 = .ok (.lcmp, 1) := by decide +kernel
theorem dL_law_529 : decode cL_law 529 = .ok (.ifCond .eq 5, 3) := by decide +kernel
theorem dL_law_532 : decode cL_law 532 = .ok (.iconst 0, 1) := by decide +kernel
theorem dL_law_533 : decode cL_law 533 = .ok (.ireturn, 1) := by decide +kernel
theorem dL_law_534 : decode cL_law 534 = .ok (.goto 1306, 3) := by decide +kernel
theorem dL_law_537 : decode cL_law 537 = .ok (.aload_n 1, 1) := by decide +kernel
theorem dL_law_538 : decode cL_law 538 = .ok (.aload_n 0, 1) := by decide +kernel
theorem dL_law_539 : decode cL_law 539 = .ok (.iload 4, 2) := by decide +kernel
theorem dL_law_541 : decode cL_law 541 = .ok (.iconst 1, 1) := by decide +kernel
theorem dL_law_542 : decode cL_law 542 = .ok (.iadd, 1) := by decide +kernel
theorem dL_law_543 : decode cL_law 543 = .ok (.iaload, 1) := by decide +kernel
theorem dL_law_544 : decode cL_law 544 = .ok (.invokevirtual 84, 3) := by decide +kernel
theorem dL_law_547 : decode cL_law 547 = .ok (.aload_n 2, 1) := by decide +kernel
theorem dL_law_548 : decode cL_law 548 = .ok (.aload_n 0, 1) := by decide +kernel
theorem dL_law_549 : decode cL_law 549 = .ok (.iload 4, 2) := by decide +kernel
theorem dL_law_551 : decode cL_law 551 = .ok (.iconst 1, 1) := by decide +kernel
theorem dL_law_552 : decode cL_law 552 = .ok (.iadd, 1) := by decide +kernel
theorem dL_law_553 : decode cL_law 553 = .ok (.iaload, 1) := by decide +kernel
theorem dL_law_554 : decode cL_law 554 = .ok (.invokevirtual 87, 3) := by decide +kernel
theorem dL_law_557 : decode cL_law 557 = .ok (.if_icmp .eq 1283, 3) := by decide +kernel
theorem dL_law_560 : decode cL_law 560 = .ok (.iconst 0, 1) := by decide +kernel
theorem dL_law_561 : decode cL_law 561 = .ok (.ireturn, 1) := by decide +kernel
theorem dL_law_562 : decode cL_law 562 = .ok (.aload_n 1, 1) := by decide +kernel
theorem dL_law_563 : decode cL_law 563 = .ok (.aload_n 0, 1) := by decide +kernel
theorem dL_law_564 : decode cL_law 564 = .ok (.iload 4, 2) := by decide +kernel
theorem dL_law_566 : decode cL_law 566 = .ok (.iconst 1, 1) := by decide +kernel
theorem dL_law_567 : decode cL_law 567 = .ok (.iadd, 1) := by decide +kernel
theorem dL_law_568 : decode cL_law 568 = .ok (.iaload, 1) := by decide +kernel
theorem dL_law_569 : decode cL_law 569 = .ok (.invokevirtual 88, 3) := by decide +kernel
theorem dL_law_572 : decode cL_law 572 = .ok (.aload_n 2, 1) := by decide +kernel
theorem dL_law_573 : decode cL_law 573 = .ok (.aload_n 0, 1) := by decide +kernel
theorem dL_law_574 : decode cL_law 574 = .ok (.iload 4, 2) := by decide +kernel
theorem dL_law_576 : decode cL_law 576 = .ok (.iconst 1, 1) := by decide +kernel
theorem dL_law_577 : decode cL_law 577 = .ok (.iadd, 1) := by decide +kernel
theorem dL_law_578 : decode cL_law 578 = .ok (.iaload, 1) := by decide +kernel
theorem dL_law_579 : decode cL_law 579 = .ok (.invokevirtual 91, 3) := by decide +kernel
theorem dL_law_582 : decode cL_law 582 = .ok (.if_icmp .eq 1258, 3) := by decide +kernel
theorem dL_law_585 : decode cL_law 585 = .ok (.iconst 0, 1) := by decide +kernel
theorem dL_law_586 : decode cL_law 586 = .ok (.ireturn, 1) := by decide +kernel
theorem dL_law_587 : decode cL_law 587 = .ok (.aload_n 1, 1) := by decide +kernel
theorem dL_law_588 : decode cL_law 588 = .ok (.aload_n 0, 1) := by decide +kernel
theorem dL_law_589 : decode cL_law 589 = .ok (.iload 4, 2) := by decide +kernel
theorem dL_law_591 : decode cL_law 591 = .ok (.iconst 1, 1) := by decide +kernel
theorem dL_law_592 : decode cL_law 592 = .ok (.iadd, 1) := by decide +kernel
theorem dL_law_593 : decode cL_law 593 = .ok (.iaload, 1) := by decide +kernel
theorem dL_law_594 : decode cL_law 594 = .ok (.invokevirtual 92, 3) := by decide +kernel
theorem dL_law_597 : decode cL_law 597 = .ok (.aload_n 2, 1) := by decide +kernel
theorem dL_law_598 : decode cL_law 598 = .ok (.aload_n 0, 1) := by decide +kernel
theorem dL_law_599 : decode cL_law 599 = .ok (.iload 4, 2) := by decide +kernel
theorem dL_law_601 : decode cL_law 601 = .ok (.iconst 1, 1) := by decide +kernel
theorem dL_law_602 : decode cL_law 602 = .ok (.iadd, 1) := by decide +kernel
theorem dL_law_603 : decode cL_law 603 = .ok (.iaload, 1) := by decide +kernel
theorem dL_law_604 : decode cL_law 604 = .ok (.invokevirtual 95, 3) := by decide +kernel
theorem dL_law_607 : decode cL_law 607 = .ok (.if_icmp .eq 1233, 3) := by decide +kernel
theorem dL_law_610 : decode cL_law 610 = .ok (.iconst 0, 1) := by decide +kernel
theorem dL_law_611 : decode cL_law 611 = .ok (.ireturn, 1) := by decide +kernel
theorem dL_law_612 : decode cL_law 612 = .ok (.aload_n 1, 1) := by decide +kernel
theorem dL_law_613 : decode cL_law 613 = .ok (.aload_n 0, 1) := by decide +kernel
theorem dL_law_614 : decode cL_law 614 = .ok (.iload 4, 2) := by decide +kernel
theorem dL_law_616 : decode cL_law 616 = .ok (.iconst 1, 1) := by decide +kernel
theorem dL_law_617 : decode cL_law 617 = .ok (.iadd, 1) := by decide +kernel
theorem dL_law_618 : decode cL_law 618 = .ok (.iaload, 1) := by decide +kernel
theorem dL_law_619 : decode cL_law 619 = .ok (.invokevirtual 96, 3) := by decide +kernel
theorem dL_law_622 : decode cL_law 622 = .ok (.aload_n 2, 1) := by decide +kernel
theorem dL_law_623 : decode cL_law 623 = .ok (.aload_n 0, 1) := by decide +kernel
theorem dL_law_624 : decode cL_law 624 = .ok (.iload 4, 2) := by decide +kernel
theorem dL_law_626 : decode cL_law 626 = .ok (.iconst 1, 1) := by decide +kernel
theorem dL_law_627 : decode cL_law 627 = .ok (.iadd, 1) := by decide +kernel
theorem dL_law_628 : decode cL_law 628 = .ok (.iaload, 1) := by decide +kernel
theorem dL_law_629 : decode cL_law 629 = .ok (.invokevirtual 99, 3) := by decide +kernel
theorem dL_law_632 : decode cL_law 632 = .ok (.if_icmp .eq 1208, 3) := by decide +kernel
theorem dL_law_635 : decode cL_law 635 = .ok (.iconst 0, 1) := by decide +kernel
theorem dL_law_636 : decode cL_law 636 = .ok (.ireturn, 1) := by decide +kernel
theorem dL_law_637 : decode cL_law 637 = .ok (.aload_n 1, 1) := by decide +kernel
theorem dL_law_638 : decode cL_law 638 = .ok (.aload_n 0, 1) := by decide +kernel
theorem dL_law_639 : decode cL_law 639 = .ok (.iload 4, 2) := by decide +kernel
theorem dL_law_641 : decode cL_law 641 = .ok (.iconst 1, 1) := by decide +kernel
theorem dL_law_642 : decode cL_law 642 = .ok (.iadd, 1) := by decide +kernel
theorem dL_law_643 : decode cL_law 643 = .ok (.iaload, 1) := by decide +kernel
theorem dL_law_644 : decode cL_law 644 = .ok (.aload_n 0, 1) := by decide +kernel
theorem dL_law_645 : decode cL_law 645 = .ok (.iload 4, 2) := by decide +kernel
theorem dL_law_647 : decode cL_law 647 = .ok (.iconst 2, 1) := by decide +kernel
theorem dL_law_648 : decode cL_law 648 = .ok (.iadd, 1) := by decide +kernel
theorem dL_law_649 : decode cL_law 649 = .ok (.iaload, 1) := by decide +kernel
theorem dL_law_650 : decode cL_law 650 = .ok (.invokevirtual 100, 3) := by decide +kernel
theorem dL_law_653 : decode cL_law 653 = .ok (.aload_n 2, 1) := by decide +kernel
theorem dL_law_654 : decode cL_law 654 = .ok (.aload_n 0, 1) := by decide +kernel
theorem dL_law_655 : decode cL_law 655 = .ok (.iload 4, 2) := by decide +kernel
theorem dL_law_657 : decode cL_law 657 = .ok (.iconst 1, 1) := by decide +kernel
theorem dL_law_658 : decode cL_law 658 = .ok (.iadd, 1) := by decide +kernel
theorem dL_law_659 : decode cL_law 659 = .ok (.iaload, 1) := by decide +kernel
theorem dL_law_660 : decode cL_law 660 = .ok (.aload_n 0, 1) := by decide +kernel
theorem dL_law_661 : decode cL_law 661 = .ok (.iload 4, 2) := by decide +kernel
theorem dL_law_663 : decode cL_law 663 = .ok (.iconst 2, 1) := by decide +kernel
theorem dL_law_664 : decode cL_law 664 = .ok (.iadd, 1) := by decide +kernel
theorem dL_law_665 : decode cL_law 665 = .ok (.iaload, 1) := by decide +kernel
theorem dL_law_666 : decode cL_law 666 = .ok (.invokevirtual 103, 3) := by decide +kernel
theorem dL_law_669 : decode cL_law 669 = .ok (.if_icmp .eq 1171, 3) := by decide +kernel
theorem dL_law_672 : decode cL_law 672 = .ok (.iconst 0, 1) := by decide +kernel
theorem dL_law_673 : decode cL_law 673 = .ok (.ireturn, 1) := by decide +kernel
theorem dL_law_674 : decode cL_law 674 = .ok (.aload_n 1, 1) := by decide +kernel
theorem dL_law_675 : decode cL_law 675 = .ok (.invokevirtual 104, 3) := by decide +kernel
theorem dL_law_678 : decode cL_law 678 = .ok (.aload_n 2, 1) := by decide +kernel
theorem dL_law_679 : decode cL_law 679 = .ok (.invokevirtual 107, 3) := by decide +kernel
theorem dL_law_682 : decode cL_law 682 = .ok (.if_icmp .eq 1158, 3) := by decide +kernel
theorem dL_law_685 : decode cL_law 685 = .ok (.iconst 0, 1) := by decide +kernel
theorem dL_law_686 : decode cL_law 686 = .ok (.ireturn, 1) := by decide +kernel
theorem dL_law_687 : decode cL_law 687 = .ok (.aload_n 1, 1) := by decide +kernel
theorem dL_law_688 : decode cL_law 688 = .ok (.aload_n 0, 1) := by decide +kernel
theorem dL_law_689 : decode cL_law 689 = .ok (.iload 4, 2) := by decide +kernel
theorem dL_law_691 : decode cL_law 691 = .ok (.iconst 1, 1) := by decide +kernel
theorem dL_law_692 : decode cL_law 692 = .ok (.iadd, 1) := by decide +kernel
theorem dL_law_693 : decode cL_law 693 = .ok (.iaload, 1) := by decide +kernel
theorem dL_law_694 : decode cL_law 694 = .ok (.invokevirtual 108, 3) := by decide +kernel
theorem dL_law_697 : decode cL_law 697 = .ok (.aload_n 2, 1) := by decide +kernel
theorem dL_law_698 : decode cL_law 698 = .ok (.aload_n 0, 1) := by decide +kernel
theorem dL_law_699 : decode cL_law 699 = .ok (.iload 4, 2) := by decide +kernel
theorem dL_law_701 : decode cL_law 701 = .ok (.iconst 1, 1) := by decide +kernel
theorem dL_law_702 : decode cL_law 702 = .ok (.iadd, 1) := by decide +kernel
theorem dL_law_703 : decode cL_law 703 = .ok (.iaload, 1) := by decide +kernel
theorem dL_law_704 : decode cL_law 704 = .ok (.invokevirtual 111, 3) := by decide +kernel
theorem dL_law_707 : decode cL_law 707 = .ok (.if_icmp .eq 1133, 3) := by decide +kernel
theorem dL_law_710 : decode cL_law 710 = .ok (.iconst 0, 1) := by decide +kernel
theorem dL_law_711 : decode cL_law 711 = .ok (.ireturn, 1) := by decide +kernel
theorem dL_law_712 : decode cL_law 712 = .ok (.aload_n 1, 1) := by decide +kernel
theorem dL_law_713 : decode cL_law 713 = .ok (.aload_n 0, 1) := by decide +kernel
theorem dL_law_714 : decode cL_law 714 = .ok (.iload 4, 2) := by decide +kernel
theorem dL_law_716 : decode cL_law 716 = .ok (.iconst 1, 1) := by decide +kernel
theorem dL_law_717 : decode cL_law 717 = .ok (.iadd, 1) := by decide +kernel
theorem dL_law_718 : decode cL_law 718 = .ok (.iaload, 1) := by decide +kernel
theorem dL_law_719 : decode cL_law 719 = .ok (.invokevirtual 112, 3) := by decide +kernel
theorem dL_law_722 : decode cL_law 722 = .ok (.aload_n 2, 1) := by decide +kernel
theorem dL_law_723 : decode cL_law 723 = .ok (.aload_n 0, 1) := by decide +kernel
theorem dL_law_724 : decode cL_law 724 = .ok (.iload 4, 2) := by decide +kernel
theorem dL_law_726 : decode cL_law 726 = .ok (.iconst 1, 1) := by decide +kernel
theorem dL_law_727 : decode cL_law 727 = .ok (.iadd, 1) := by decide +kernel
theorem dL_law_728 : decode cL_law 728 = .ok (.iaload, 1) := by decide +kernel
theorem dL_law_729 : decode cL_law 729 = .ok (.invokevirtual 115, 3) := by decide +kernel
theorem dL_law_732 : decode cL_law 732 = .ok (.if_icmp .eq 1108, 3) := by decide +kernel
theorem dL_law_735 : decode cL_law 735 = .ok (.iconst 0, 1) := by decide +kernel
theorem dL_law_736 : decode cL_law 736 = .ok (.ireturn, 1) := by decide +kernel
theorem dL_law_737 : decode cL_law 737 = .ok (.aload_n 1, 1) := by decide +kernel
theorem dL_law_738 : decode cL_law 738 = .ok (.aload_n 0, 1) := by decide +kernel
theorem dL_law_739 : decode cL_law 739 = .ok (.iload 4, 2) := by decide +kernel
theorem dL_law_741 : decode cL_law 741 = .ok (.iconst 1, 1) := by decide +kernel
theorem dL_law_742 : decode cL_law 742 = .ok (.iadd, 1) := by decide +kernel
theorem dL_law_743 : decode cL_law 743 = .ok (.iaload, 1) := by decide +kernel
theorem dL_law_744 : decode cL_law 744 = .ok (.aload_n 0, 1) := by decide +kernel
theorem dL_law_745 : decode cL_law 745 = .ok (.iload 4, 2) := by decide +kernel
theorem dL_law_747 : decode cL_law 747 = .ok (.iconst 2, 1) := by decide +kernel
theorem dL_law_748 : decode cL_law 748 = .ok (.iadd, 1) := by decide +kernel
theorem dL_law_749 : decode cL_law 749 = .ok (.iaload, 1) := by decide +kernel
theorem dL_law_750 : decode cL_law 750 = .ok (.aload_n 0, 1) := by decide +kernel
theorem dL_law_751 : decode cL_law 751 = .ok (.iload 4, 2) := by decide +kernel
theorem dL_law_753 : decode cL_law 753 = .ok (.iconst 3, 1) := by decide +kernel
theorem dL_law_754 : decode cL_law 754 = .ok (.iadd, 1) := by decide +kernel
theorem dL_law_755 : decode cL_law 755 = .ok (.iaload, 1) := by decide +kernel
theorem dL_law_756 : decode cL_law 756 = .ok (.invokevirtual 116, 3) := by decide +kernel
theorem dL_law_759 : decode cL_law 759 = .ok (.aload_n 2, 1) := by decide +kernel
theorem dL_law_760 : decode cL_law 760 = .ok (.aload_n 0, 1) := by decide +kernel
theorem dL_law_761 : decode cL_law 761 = .ok (.iload 4, 2) := by decide +kernel
theorem dL_law_763 : decode cL_law 763 = .ok (.iconst 1, 1) := by decide +kernel
theorem dL_law_764 : decode cL_law 764 = .ok (.iadd, 1) := by decide +kernel
theorem dL_law_765 : decode cL_law 765 = .ok (.iaload, 1) := by decide +kernel
theorem dL_law_766 : decode cL_law 766 = .ok (.aload_n 0, 1) := by decide +kernel
theorem dL_law_767 : decode cL_law 767 = .ok (.iload 4, 2) := by decide +kernel
theorem dL_law_769 : decode cL_law 769 = .ok (.iconst 2, 1) := by decide +kernel
theorem dL_law_770 : decode cL_law 770 = .ok (.iadd, 1) := by decide +kernel
theorem dL_law_771 : decode cL_law 771 = .ok (.iaload, 1) := by decide +kernel
theorem dL_law_772 : decode cL_law 772 = .ok (.aload_n 0, 1) := by decide +kernel
theorem dL_law_773 : decode cL_law 773 = .ok (.iload 4, 2) := by decide +kernel
theorem dL_law_775 : decode cL_law 775 = .ok (.iconst 3, 1) := by decide +kernel
theorem dL_law_776 : decode cL_law 776 = .ok (.iadd, 1) := by decide +kernel
theorem dL_law_777 : decode cL_law 777 = .ok (.iaload, 1) := by decide +kernel
theorem dL_law_778 : decode cL_law 778 = .ok (.invokevirtual 120, 3) := by decide +kernel
theorem dL_law_781 : decode cL_law 781 = .ok (.if_icmp .eq 1059, 3) := by decide +kernel
theorem dL_law_784 : decode cL_law 784 = .ok (.iconst 0, 1) := by decide +kernel
theorem dL_law_785 : decode cL_law 785 = .ok (.ireturn, 1) := by decide +kernel
theorem dL_law_786 : decode cL_law 786 = .ok (.aload_n 1, 1) := by decide +kernel
theorem dL_law_787 : decode cL_law 787 = .ok (.aload_n 0, 1) := by decide +kernel
theorem dL_law_788 : decode cL_law 788 = .ok (.iload 4, 2) := by decide +kernel
theorem dL_law_790 : decode cL_law 790 = .ok (.iconst 1, 1) := by decide +kernel
theorem dL_law_791 : decode cL_law 791 = .ok (.iadd, 1) := by decide +kernel
theorem dL_law_792 : decode cL_law 792 = .ok (.iaload, 1) := by decide +kernel
theorem dL_law_793 : decode cL_law 793 = .ok (.invokevirtual 121, 3) := by decide +kernel
theorem dL_law_796 : decode cL_law 796 = .ok (.aload_n 2, 1) := by decide +kernel
theorem dL_law_797 : decode cL_law 797 = .ok (.aload_n 0, 1) := by decide +kernel
theorem dL_law_798 : decode cL_law 798 = .ok (.iload 4, 2) := by decide +kernel
theorem dL_law_800 : decode cL_law 800 = .ok (.iconst 1, 1) := by decide +kernel
theorem dL_law_801 : decode cL_law 801 = .ok (.iadd, 1) := by decide +kernel
theorem dL_law_802 : decode cL_law 802 = .ok (.iaload, 1) := by decide +kernel
theorem dL_law_803 : decode cL_law 803 = .ok (.invokevirtual 124, 3) := by decide +kernel
theorem dL_law_806 : decode cL_law 806 = .ok (.if_icmp .eq 1034, 3) := by decide +kernel
theorem dL_law_809 : decode cL_law 809 = .ok (.iconst 0, 1) := by decide +kernel
theorem dL_law_810 : decode cL_law 810 = .ok (.ireturn, 1) := by decide +kernel
theorem dL_law_811 : decode cL_law 811 = .ok (.aload_n 1, 1) := by decide +kernel
theorem dL_law_812 : decode cL_law 812 = .ok (.aload_n 0, 1) := by decide +kernel
theorem dL_law_813 : decode cL_law 813 = .ok (.iload 4, 2) := by decide +kernel
theorem dL_law_815 : decode cL_law 815 = .ok (.iconst 1, 1) := by decide +kernel
theorem dL_law_816 : decode cL_law 816 = .ok (.iadd, 1) := by decide +kernel
theorem dL_law_817 : decode cL_law 817 = .ok (.iaload, 1) := by decide +kernel
theorem dL_law_818 : decode cL_law 818 = .ok (.aload_n 0, 1) := by decide +kernel
theorem dL_law_819 : decode cL_law 819 = .ok (.iload 4, 2) := by decide +kernel
theorem dL_law_821 : decode cL_law 821 = .ok (.iconst 2, 1) := by decide +kernel
theorem dL_law_822 : decode cL_law 822 = .ok (.iadd, 1) := by decide +kernel
theorem dL_law_823 : decode cL_law 823 = .ok (.iaload, 1) := by decide +kernel
theorem dL_law_824 : decode cL_law 824 = .ok (.aload_n 3, 1) := by decide +kernel
theorem dL_law_825 : decode cL_law 825 = .ok (.invokestatic 125, 3) := by decide +kernel
theorem dL_law_828 : decode cL_law 828 = .ok (.istore 5, 2) := by decide +kernel
theorem dL_law_830 : decode cL_law 830 = .ok (.aload_n 2, 1) := by decide +kernel
theorem dL_law_831 : decode cL_law 831 = .ok (.aload_n 0, 1) := by decide +kernel
theorem dL_law_832 : decode cL_law 832 = .ok (.iload 4, 2) := by decide +kernel
theorem dL_law_834 : decode cL_law 834 = .ok (.iconst 1, 1) := by decide +kernel
theorem dL_law_835 : decode cL_law 835 = .ok (.iadd, 1) := by decide +kernel
theorem dL_law_836 : decode cL_law 836 = .ok (.iaload, 1) := by decide +kernel
theorem dL_law_837 : decode cL_law 837 = .ok (.aload_n 0, 1) := by decide +kernel
theorem dL_law_838 : decode cL_law 838 = .ok (.iload 4, 2) := by decide +kernel
theorem dL_law_840 : decode cL_law 840 = .ok (.iconst 2, 1) := by decide +kernel
theorem dL_law_841 : decode cL_law 841 = .ok (.iadd, 1) := by decide +kernel
theorem dL_law_842 : decode cL_law 842 = .ok (.iaload, 1) := by decide +kernel
theorem dL_law_843 : decode cL_law 843 = .ok (.invokevirtual 127, 3) := by decide +kernel
theorem dL_law_846 : decode cL_law 846 = .ok (.istore 6, 2) := by decide +kernel
theorem dL_law_848 : decode cL_law 848 = .ok (.aload_n 2, 1) := by decide +kernel
theorem dL_law_849 : decode cL_law 849 = .ok (.invokevirtual 81, 3) := by decide +kernel
theorem dL_law_852 : decode cL_law 852 = .ok (.iload 5, 2) := by decide +kernel
theorem dL_law_854 : decode cL_law 854 = .ok (.if_icmp .eq 5, 3) := by decide +kernel
theorem dL_law_857 : decode cL_law 857 = .ok (.iconst 0, 1) := by decide +kernel
theorem dL_law_858 : decode cL_law 858 = .ok (.ireturn, 1) := by decide +kernel
theorem dL_law_859 : decode cL_law 859 = .ok (.iload 5, 2) := by decide +kernel
theorem dL_law_861 : decode cL_law 861 = .ok (.ifCond .ne 15, 3) := by decide +kernel
theorem dL_law_864 : decode cL_law 864 = .ok (.aload_n 3, 1) := by decide +kernel
theorem dL_law_865 : decode cL_law 865 = .ok (.iconst 0, 1) := by decide +kernel
theorem dL_law_866 : decode cL_law 866 = .ok (.laload, 1) := by decide +kernel
theorem dL_law_867 : decode cL_law 867 = .ok (.iload 6, 2) := by decide +kernel
theorem dL_law_869 : decode cL_law 869 = .ok (.i2l, 1) := by decide +kernel
theorem dL_law_870 : decode cL_law 870 = .ok (.lcmp, 1) := by decide +kernel
theorem dL_law_871 : decode cL_law 871 = .ok (.ifCond .eq 5, 3) := by decide +kernel
theorem dL_law_874 : decode cL_law 874 = .ok (.iconst 0, 1) := by decide +kernel
theorem dL_law_875 : decode cL_law 875 = .ok (.ireturn, 1) := by decide +kernel
theorem dL_law_876 : decode cL_law 876 = .ok (.goto 964, 3) := by decide +kernel
theorem dL_law_879 : decode cL_law 879 = .ok (.aload_n 1, 1) := by decide +kernel
theorem dL_law_880 : decode cL_law 880 = .ok (.aload_n 0, 1) := by decide +kernel
theorem dL_law_881 : decode cL_law 881 = .ok (.iload 4, 2) := by decide +kernel
theorem dL_law_883 : decode cL_law 883 = .ok (.iconst 1, 1) := by decide +kernel
theorem dL_law_884 : decode cL_law 884 = .ok (.iadd, 1) := by decide +kernel
theorem dL_law_885 : decode cL_law 885 = .ok (.iaload, 1) := by decide +kernel
theorem dL_law_886 : decode cL_law 886 = .ok (.aload_n 0, 1) := by decide +kernel
theorem dL_law_887 : decode cL_law 887 = .ok (.iload 4, 2) := by decide +kernel
theorem dL_law_889 : decode cL_law 889 = .ok (.iconst 2, 1) := by decide +kernel
theorem dL_law_890 : decode cL_law 890 = .ok (.iadd, 1) := by decide +kernel
theorem dL_law_891 : decode cL_law 891 = .ok (.iaload, 1) := by decide +kernel
theorem dL_law_892 : decode cL_law 892 = .ok (.aload_n 3, 1) := by decide +kernel
theorem dL_law_893 : decode cL_law 893 = .ok (.invokestatic 128, 3) := by decide +kernel
theorem dL_law_896 : decode cL_law 896 = .ok (.istore 5, 2) := by decide +kernel
theorem dL_law_898 : decode cL_law 898 = .ok (.aload_n 2, 1) := by decide +kernel
theorem dL_law_899 : decode cL_law 899 = .ok (.aload_n 0, 1) := by decide +kernel
theorem dL_law_900 : decode cL_law 900 = .ok (.iload 4, 2) := by decide +kernel
theorem dL_law_902 : decode cL_law 902 = .ok (.iconst 1, 1) := by decide +kernel
theorem dL_law_903 : decode cL_law 903 = .ok (.iadd, 1) := by decide +kernel
theorem dL_law_904 : decode cL_law 904 = .ok (.iaload, 1) := by decide +kernel
theorem dL_law_905 : decode cL_law 905 = .ok (.aload_n 0, 1) := by decide +kernel
theorem dL_law_906 : decode cL_law 906 = .ok (.iload 4, 2) := by decide +kernel
theorem dL_law_908 : decode cL_law 908 = .ok (.iconst 2, 1) := by decide +kernel
theorem dL_law_909 : decode cL_law 909 = .ok (.iadd, 1) := by decide +kernel
theorem dL_law_910 : decode cL_law 910 = .ok (.iaload, 1) := by decide +kernel
theorem dL_law_911 : decode cL_law 911 = .ok (.invokevirtual 130, 3) := by decide +kernel
theorem dL_law_914 : decode cL_law 914 = .ok (.istore 6, 2) := by decide +kernel
theorem dL_law_916 : decode cL_law 916 = .ok (.aload_n 2, 1) := by decide +kernel
theorem dL_law_917 : decode cL_law 917 = .ok (.invokevirtual 81, 3) := by decide +kernel
theorem dL_law_920 : decode cL_law 920 = .ok (.iload 5, 2) := by decide +kernel
theorem dL_law_922 : decode cL_law 922 = .ok (.if_icmp .eq 5, 3) := by decide +kernel
theorem dL_law_925 : decode cL_law 925 = .ok (.iconst 0, 1) := by decide +kernel
theorem dL_law_926 : decode cL_law 926 = .ok (.ireturn, 1) := by decide +kernel
theorem dL_law_927 : decode cL_law 927 = .ok (.iload 5, 2) := by decide +kernel
theorem dL_law_929 : decode cL_law 929 = .ok (.ifCond .ne 15, 3) := by decide +kernel
theorem dL_law_932 : decode cL_law 932 = .ok (.aload_n 3, 1) := by decide +kernel
theorem dL_law_933 : decode cL_law 933 = .ok (.iconst 0, 1) := by decide +kernel
theorem dL_law_934 : decode cL_law 934 = .ok (.laload, 1) := by decide +kernel
theorem dL_law_935 : decode cL_law 935 = .ok (.iload 6, 2) := by decide +kernel
theorem dL_law_937 : decode cL_law 937 = .ok (.i2l, 1) := by decide +kernel
theorem dL_law_938 : decode cL_law 938 = .ok (.lcmp, 1) := by decide +kernel
theorem dL_law_939 : decode cL_law 939 = .ok (.ifCond .eq 5, 3) := by decide +kernel
theorem dL_law_942 : decode cL_law 942 = .ok (.iconst 0, 1) := by decide +kernel
theorem dL_law_943 : decode cL_law 943 = .ok (.ireturn, 1) := by decide +kernel
theorem dL_law_944 : decode cL_law 944 = .ok (.goto 896, 3) := by decide +kernel
theorem dL_law_947 : decode cL_law 947 = .ok (.aload_n 1, 1) := by decide +kernel
theorem dL_law_948 : decode cL_law 948 = .ok (.aload_n 0, 1) := by decide +kernel
theorem dL_law_949 : decode cL_law 949 = .ok (.iload 4, 2) := by decide +kernel
theorem dL_law_951 : decode cL_law 951 = .ok (.iconst 1, 1) := by decide +kernel
theorem dL_law_952 : decode cL_law 952 = .ok (.iadd, 1) := by decide +kernel
theorem dL_law_953 : decode cL_law 953 = .ok (.iaload, 1) := by decide +kernel
theorem dL_law_954 : decode cL_law 954 = .ok (.aload_n 0, 1) := by decide +kernel
theorem dL_law_955 : decode cL_law 955 = .ok (.iload 4, 2) := by decide +kernel
theorem dL_law_957 : decode cL_law 957 = .ok (.iconst 2, 1) := by decide +kernel
theorem dL_law_958 : decode cL_law 958 = .ok (.iadd, 1) := by decide +kernel
theorem dL_law_959 : decode cL_law 959 = .ok (.iaload, 1) := by decide +kernel
theorem dL_law_960 : decode cL_law 960 = .ok (.aload_n 3, 1) := by decide +kernel
theorem dL_law_961 : decode cL_law 961 = .ok (.invokestatic 131, 3) := by decide +kernel
theorem dL_law_964 : decode cL_law 964 = .ok (.istore 5, 2) := by decide +kernel
theorem dL_law_966 : decode cL_law 966 = .ok (.aload_n 2, 1) := by decide +kernel
theorem dL_law_967 : decode cL_law 967 = .ok (.aload_n 0, 1) := by decide +kernel
theorem dL_law_968 : decode cL_law 968 = .ok (.iload 4, 2) := by decide +kernel
theorem dL_law_970 : decode cL_law 970 = .ok (.iconst 1, 1) := by decide +kernel
theorem dL_law_971 : decode cL_law 971 = .ok (.iadd, 1) := by decide +kernel
theorem dL_law_972 : decode cL_law 972 = .ok (.iaload, 1) := by decide +kernel
theorem dL_law_973 : decode cL_law 973 = .ok (.aload_n 0, 1) := by decide +kernel
theorem dL_law_974 : decode cL_law 974 = .ok (.iload 4, 2) := by decide +kernel
theorem dL_law_976 : decode cL_law 976 = .ok (.iconst 2, 1) := by decide +kernel
theorem dL_law_977 : decode cL_law 977 = .ok (.iadd, 1) := by decide +kernel
theorem dL_law_978 : decode cL_law 978 = .ok (.iaload, 1) := by decide +kernel
theorem dL_law_979 : decode cL_law 979 = .ok (.invokevirtual 133, 3) := by decide +kernel
theorem dL_law_982 : decode cL_law 982 = .ok (.istore 6, 2) := by decide +kernel
theorem dL_law_984 : decode cL_law 984 = .ok (.aload_n 2, 1) := by decide +kernel
theorem dL_law_985 : decode cL_law 985 = .ok (.invokevirtual 81, 3) := by decide +kernel
theorem dL_law_988 : decode cL_law 988 = .ok (.iload 5, 2) := by decide +kernel
theorem dL_law_990 : decode cL_law 990 = .ok (.if_icmp .eq 5, 3) := by decide +kernel
theorem dL_law_993 : decode cL_law 993 = .ok (.iconst 0, 1) := by decide +kernel
theorem dL_law_994 : decode cL_law 994 = .ok (.ireturn, 1) := by decide +kernel
theorem dL_law_995 : decode cL_law 995 = .ok (.iload 5, 2) := by decide +kernel
theorem dL_law_997 : decode cL_law 997 = .ok (.ifCond .ne 22, 3) := by decide +kernel
theorem dL_law_1000 : decode cL_law 1000 = .ok (.aload_n 3, 1) := by decide +kernel
theorem dL_law_1001 : decode cL_law 1001 = .ok (.iconst 0, 1) := by decide +kernel
theorem dL_law_1002 : decode cL_law 1002 = .ok (.laload, 1) := by decide +kernel
theorem dL_law_1003 : decode cL_law 1003 = .ok (.iload 6, 2) := by decide +kernel
theorem dL_law_1005 : decode cL_law 1005 = .ok (.ifCond .eq 7, 3) := by decide +kernel
theorem dL_law_1008 : decode cL_law 1008 = .ok (.lconst 1, 1) := by decide +kernel
theorem dL_law_1009 : decode cL_law 1009 = .ok (.goto 4, 3) := by decide +kernel
theorem dL_law_1012 : decode cL_law 1012 = .ok (.lconst 0, 1) := by decide +kernel
theorem dL_law_1013 : decode cL_law 1013 = .ok (.lcmp, 1) := by decide +kernel
theorem dL_law_1014 : decode cL_law 1014 = .ok (.ifCond .eq 5, 3) := by decide +kernel
theorem dL_law_1017 : decode cL_law 1017 = .ok (.iconst 0, 1) := by decide +kernel
theorem dL_law_1018 : decode cL_law 1018 = .ok (.ireturn, 1) := by decide +kernel
theorem dL_law_1019 : decode cL_law 1019 = .ok (.goto 821, 3) := by decide +kernel
theorem dL_law_1022 : decode cL_law 1022 = .ok (.aload_n 1, 1) := by decide +kernel
theorem dL_law_1023 : decode cL_law 1023 = .ok (.aload_n 0, 1) := by decide +kernel
theorem dL_law_1024 : decode cL_law 1024 = .ok (.iload 4, 2) := by decide +kernel
theorem dL_law_1026 : decode cL_law 1026 = .ok (.iconst 1, 1) := by decide +kernel
theorem dL_law_1027 : decode cL_law 1027 = .ok (.iadd, 1) := by decide +kernel
theorem dL_law_1028 : decode cL_law 1028 = .ok (.iaload, 1) := by decide +kernel
theorem dL_law_1029 : decode cL_law 1029 = .ok (.invokevirtual 134, 3) := by decide +kernel
theorem dL_law_1032 : decode cL_law 1032 = .ok (.aload_n 2, 1) := by decide +kernel
theorem dL_law_1033 : decode cL_law 1033 = .ok (.aload_n 0, 1) := by decide +kernel
theorem dL_law_1034 : decode cL_law 1034 = .ok (.iload 4, 2) := by decide +kernel
theorem dL_law_1036 : decode cL_law 1036 = .ok (.iconst 1, 1) := by decide +kernel
theorem dL_law_1037 : decode cL_law 1037 = .ok (.iadd, 1) := by decide +kernel
theorem dL_law_1038 : decode cL_law 1038 = .ok (.iaload, 1) := by decide +kernel
theorem dL_law_1039 : decode cL_law 1039 = .ok (.invokevirtual 137, 3) := by decide +kernel
theorem dL_law_1042 : decode cL_law 1042 = .ok (.if_icmp .eq 798, 3) := by decide +kernel
theorem dL_law_1045 : decode cL_law 1045 = .ok (.iconst 0, 1) := by decide +kernel
theorem dL_law_1046 : decode cL_law 1046 = .ok (.ireturn, 1) := by decide +kernel
theorem dL_law_1047 : decode cL_law 1047 = .ok (.aload_n 1, 1) := by decide +kernel
theorem dL_law_1048 : decode cL_law 1048 = .ok (.aload_n 0, 1) := by decide +kernel
theorem dL_law_1049 : decode cL_law 1049 = .ok (.iload 4, 2) := by decide +kernel
theorem dL_law_1051 : decode cL_law 1051 = .ok (.iconst 1, 1) := by decide +kernel
theorem dL_law_1052 : decode cL_law 1052 = .ok (.iadd, 1) := by decide +kernel
theorem dL_law_1053 : decode cL_law 1053 = .ok (.iaload, 1) := by decide +kernel
theorem dL_law_1054 : decode cL_law 1054 = .ok (.aload_n 3, 1) := by decide +kernel
theorem dL_law_1055 : decode cL_law 1055 = .ok (.invokestatic 138, 3) := by decide +kernel
theorem dL_law_1058 : decode cL_law 1058 = .ok (.istore 5, 2) := by decide +kernel
theorem dL_law_1060 : decode cL_law 1060 = .ok (.aload_n 2, 1) := by decide +kernel
theorem dL_law_1061 : decode cL_law 1061 = .ok (.aload_n 0, 1) := by decide +kernel
theorem dL_law_1062 : decode cL_law 1062 = .ok (.iload 4, 2) := by decide +kernel
theorem dL_law_1064 : decode cL_law 1064 = .ok (.iconst 1, 1) := by decide +kernel
theorem dL_law_1065 : decode cL_law 1065 = .ok (.iadd, 1) := by decide +kernel
theorem dL_law_1066 : decode cL_law 1066 = .ok (.iaload, 1) := by decide +kernel
theorem dL_law_1067 : decode cL_law 1067 = .ok (.invokevirtual 141, 3) := by decide +kernel
theorem dL_law_1070 : decode cL_law 1070 = .ok (.istore 6, 2) := by decide +kernel
theorem dL_law_1072 : decode cL_law 1072 = .ok (.aload_n 2, 1) := by decide +kernel
theorem dL_law_1073 : decode cL_law 1073 = .ok (.invokevirtual 81, 3) := by decide +kernel
theorem dL_law_1076 : decode cL_law 1076 = .ok (.iload 5, 2) := by decide +kernel
theorem dL_law_1078 : decode cL_law 1078 = .ok (.if_icmp .eq 5, 3) := by decide +kernel
theorem dL_law_1081 : decode cL_law 1081 = .ok (.iconst 0, 1) := by decide +kernel
theorem dL_law_1082 : decode cL_law 1082 = .ok (.ireturn, 1) := by decide +kernel
theorem dL_law_1083 : decode cL_law 1083 = .ok (.iload 5, 2) := by decide +kernel
theorem dL_law_1085 : decode cL_law 1085 = .ok (.ifCond .ne 15, 3) := by decide +kernel
theorem dL_law_1088 : decode cL_law 1088 = .ok (.aload_n 3, 1) := by decide +kernel
theorem dL_law_1089 : decode cL_law 1089 = .ok (.iconst 0, 1) := by decide +kernel
theorem dL_law_1090 : decode cL_law 1090 = .ok (.laload, 1) := by decide +kernel
theorem dL_law_1091 : decode cL_law 1091 = .ok (.iload 6, 2) := by decide +kernel
theorem dL_law_1093 : decode cL_law 1093 = .ok (.i2l, 1) := by decide +kernel
theorem dL_law_1094 : decode cL_law 1094 = .ok (.lcmp, 1) := by decide +kernel
theorem dL_law_1095 : decode cL_law 1095 = .ok (.ifCond .eq 5, 3) := by decide +kernel
theorem dL_law_1098 : decode cL_law 1098 = .ok (.iconst 0, 1) := by decide +kernel
theorem dL_law_1099 : decode cL_law 1099 = .ok (.ireturn, 1) := by decide +kernel
theorem dL_law_1100 : decode cL_law 1100 = .ok (.goto 740, 3) := by decide +kernel
theorem dL_law_1103 : decode cL_law 1103 = .ok (.aload_n 1, 1) := by decide +kernel
theorem dL_law_1104 : decode cL_law 1104 = .ok (.aload_n 0, 1) := by decide +kernel
theorem dL_law_1105 : decode cL_law 1105 = .ok (.iload 4, 2) := by decide +kernel
theorem dL_law_1107 : decode cL_law 1107 = .ok (.iconst 1, 1) := by decide +kernel
theorem dL_law_1108 : decode cL_law 1108 = .ok (.iadd, 1) := by decide +kernel
theorem dL_law_1109 : decode cL_law 1109 = .ok (.iaload, 1) := by decide +kernel
theorem dL_law_1110 : decode cL_law 1110 = .ok (.invokevirtual 142, 3) := by decide +kernel
theorem dL_law_1113 : decode cL_law 1113 = .ok (.aload_n 2, 1) := by decide +kernel
theorem dL_law_1114 : decode cL_law 1114 = .ok (.aload_n 0, 1) := by decide +kernel
theorem dL_law_1115 : decode cL_law 1115 = .ok (.iload 4, 2) := by decide +kernel
theorem dL_law_1117 : decode cL_law 1117 = .ok (.iconst 1, 1) := by decide +kernel
theorem dL_law_1118 : decode cL_law 1118 = .ok (.iadd, 1) := by decide +kernel
theorem dL_law_1119 : decode cL_law 1119 = .ok (.iaload, 1) := by decide +kernel
theorem dL_law_1120 : decode cL_law 1120 = .ok (.invokevirtual 145, 3) := by decide +kernel
theorem dL_law_1123 : decode cL_law 1123 = .ok (.if_icmp .eq 717, 3) := by decide +kernel
theorem dL_law_1126 : decode cL_law 1126 = .ok (.iconst 0, 1) := by decide +kernel
theorem dL_law_1127 : decode cL_law 1127 = .ok (.ireturn, 1) := by decide +kernel
theorem dL_law_1128 : decode cL_law 1128 = .ok (.aload_n 1, 1) := by decide +kernel
theorem dL_law_1129 : decode cL_law 1129 = .ok (.aload_n 0, 1) := by decide +kernel
theorem dL_law_1130 : decode cL_law 1130 = .ok (.iload 4, 2) := by decide +kernel
theorem dL_law_1132 : decode cL_law 1132 = .ok (.iconst 1, 1) := by decide +kernel
theorem dL_law_1133 : decode cL_law 1133 = .ok (.iadd, 1) := by decide +kernel
theorem dL_law_1134 : decode cL_law 1134 = .ok (.iaload, 1) := by decide +kernel
theorem dL_law_1135 : decode cL_law 1135 = .ok (.invokevirtual 146, 3) := by decide +kernel
theorem dL_law_1138 : decode cL_law 1138 = .ok (.aload_n 2, 1) := by decide +kernel
theorem dL_law_1139 : decode cL_law 1139 = .ok (.aload_n 0, 1) := by decide +kernel
theorem dL_law_1140 : decode cL_law 1140 = .ok (.iload 4, 2) := by decide +kernel
theorem dL_law_1142 : decode cL_law 1142 = .ok (.iconst 1, 1) := by decide +kernel
theorem dL_law_1143 : decode cL_law 1143 = .ok (.iadd, 1) := by decide +kernel
theorem dL_law_1144 : decode cL_law 1144 = .ok (.iaload, 1) := by decide +kernel
theorem dL_law_1145 : decode cL_law 1145 = .ok (.invokevirtual 149, 3) := by decide +kernel
theorem dL_law_1148 : decode cL_law 1148 = .ok (.if_icmp .eq 692, 3) := by decide +kernel
theorem dL_law_1151 : decode cL_law 1151 = .ok (.iconst 0, 1) := by decide +kernel
theorem dL_law_1152 : decode cL_law 1152 = .ok (.ireturn, 1) := by decide +kernel
theorem dL_law_1153 : decode cL_law 1153 = .ok (.aload_n 1, 1) := by decide +kernel
theorem dL_law_1154 : decode cL_law 1154 = .ok (.aload_n 0, 1) := by decide +kernel
theorem dL_law_1155 : decode cL_law 1155 = .ok (.iload 4, 2) := by decide +kernel
theorem dL_law_1157 : decode cL_law 1157 = .ok (.iconst 1, 1) := by decide +kernel
theorem dL_law_1158 : decode cL_law 1158 = .ok (.iadd, 1) := by decide +kernel
theorem dL_law_1159 : decode cL_law 1159 = .ok (.iaload, 1) := by decide +kernel
theorem dL_law_1160 : decode cL_law 1160 = .ok (.invokevirtual 150, 3) := by decide +kernel
theorem dL_law_1163 : decode cL_law 1163 = .ok (.aload_n 2, 1) := by decide +kernel
theorem dL_law_1164 : decode cL_law 1164 = .ok (.aload_n 0, 1) := by decide +kernel
theorem dL_law_1165 : decode cL_law 1165 = .ok (.iload 4, 2) := by decide +kernel
theorem dL_law_1167 : decode cL_law 1167 = .ok (.iconst 1, 1) := by decide +kernel
theorem dL_law_1168 : decode cL_law 1168 = .ok (.iadd, 1) := by decide +kernel
theorem dL_law_1169 : decode cL_law 1169 = .ok (.iaload, 1) := by decide +kernel
theorem dL_law_1170 : decode cL_law 1170 = .ok (.invokevirtual 153, 3) := by decide +kernel
theorem dL_law_1173 : decode cL_law 1173 = .ok (.if_icmp .eq 667, 3) := by decide +kernel
theorem dL_law_1176 : decode cL_law 1176 = .ok (.iconst 0, 1) := by decide +kernel
theorem dL_law_1177 : decode cL_law 1177 = .ok (.ireturn, 1) := by decide +kernel
theorem dL_law_1178 : decode cL_law 1178 = .ok (.aload_n 1, 1) := by decide +kernel
theorem dL_law_1179 : decode cL_law 1179 = .ok (.aload_n 0, 1) := by decide +kernel
theorem dL_law_1180 : decode cL_law 1180 = .ok (.iload 4, 2) := by decide +kernel
theorem dL_law_1182 : decode cL_law 1182 = .ok (.iconst 1, 1) := by decide +kernel
theorem dL_law_1183 : decode cL_law 1183 = .ok (.iadd, 1) := by decide +kernel
theorem dL_law_1184 : decode cL_law 1184 = .ok (.iaload, 1) := by decide +kernel
theorem dL_law_1185 : decode cL_law 1185 = .ok (.aload_n 0, 1) := by decide +kernel
theorem dL_law_1186 : decode cL_law 1186 = .ok (.iload 4, 2) := by decide +kernel
theorem dL_law_1188 : decode cL_law 1188 = .ok (.iconst 2, 1) := by decide +kernel
theorem dL_law_1189 : decode cL_law 1189 = .ok (.iadd, 1) := by decide +kernel
theorem dL_law_1190 : decode cL_law 1190 = .ok (.iaload, 1) := by decide +kernel
theorem dL_law_1191 : decode cL_law 1191 = .ok (.invokevirtual 154, 3) := by decide +kernel
theorem dL_law_1194 : decode cL_law 1194 = .ok (.aload_n 2, 1) := by decide +kernel
theorem dL_law_1195 : decode cL_law 1195 = .ok (.aload_n 0, 1) := by decide +kernel
theorem dL_law_1196 : decode cL_law 1196 = .ok (.iload 4, 2) := by decide +kernel
theorem dL_law_1198 : decode cL_law 1198 = .ok (.iconst 1, 1) := by decide +kernel
theorem dL_law_1199 : decode cL_law 1199 = .ok (.iadd, 1) := by decide +kernel
theorem dL_law_1200 : decode cL_law 1200 = .ok (.iaload, 1) := by decide +kernel
theorem dL_law_1201 : decode cL_law 1201 = .ok (.aload_n 0, 1) := by decide +kernel
theorem dL_law_1202 : decode cL_law 1202 = .ok (.iload 4, 2) := by decide +kernel
theorem dL_law_1204 : decode cL_law 1204 = .ok (.iconst 2, 1) := by decide +kernel
theorem dL_law_1205 : decode cL_law 1205 = .ok (.iadd, 1) := by decide +kernel
theorem dL_law_1206 : decode cL_law 1206 = .ok (.iaload, 1) := by decide +kernel
theorem dL_law_1207 : decode cL_law 1207 = .ok (.invokevirtual 157, 3) := by decide +kernel
theorem dL_law_1210 : decode cL_law 1210 = .ok (.if_icmp .eq 630, 3) := by decide +kernel
theorem dL_law_1213 : decode cL_law 1213 = .ok (.iconst 0, 1) := by decide +kernel
theorem dL_law_1214 : decode cL_law 1214 = .ok (.ireturn, 1) := by decide +kernel
theorem dL_law_1215 : decode cL_law 1215 = .ok (.aload_n 1, 1) := by decide +kernel
theorem dL_law_1216 : decode cL_law 1216 = .ok (.aload_n 0, 1) := by decide +kernel
theorem dL_law_1217 : decode cL_law 1217 = .ok (.iload 4, 2) := by decide +kernel
theorem dL_law_1219 : decode cL_law 1219 = .ok (.iconst 1, 1) := by decide +kernel
theorem dL_law_1220 : decode cL_law 1220 = .ok (.iadd, 1) := by decide +kernel
theorem dL_law_1221 : decode cL_law 1221 = .ok (.iaload, 1) := by decide +kernel
theorem dL_law_1222 : decode cL_law 1222 = .ok (.aload_n 0, 1) := by decide +kernel
theorem dL_law_1223 : decode cL_law 1223 = .ok (.iload 4, 2) := by decide +kernel
theorem dL_law_1225 : decode cL_law 1225 = .ok (.iconst 2, 1) := by decide +kernel
theorem dL_law_1226 : decode cL_law 1226 = .ok (.iadd, 1) := by decide +kernel
theorem dL_law_1227 : decode cL_law 1227 = .ok (.iaload, 1) := by decide +kernel
theorem dL_law_1228 : decode cL_law 1228 = .ok (.invokevirtual 158, 3) := by decide +kernel
theorem dL_law_1231 : decode cL_law 1231 = .ok (.aload_n 2, 1) := by decide +kernel
theorem dL_law_1232 : decode cL_law 1232 = .ok (.aload_n 0, 1) := by decide +kernel
theorem dL_law_1233 : decode cL_law 1233 = .ok (.iload 4, 2) := by decide +kernel
theorem dL_law_1235 : decode cL_law 1235 = .ok (.iconst 1, 1) := by decide +kernel
theorem dL_law_1236 : decode cL_law 1236 = .ok (.iadd, 1) := by decide +kernel
theorem dL_law_1237 : decode cL_law 1237 = .ok (.iaload, 1) := by decide +kernel
theorem dL_law_1238 : decode cL_law 1238 = .ok (.aload_n 0, 1) := by decide +kernel
theorem dL_law_1239 : decode cL_law 1239 = .ok (.iload 4, 2) := by decide +kernel
theorem dL_law_1241 : decode cL_law 1241 = .ok (.iconst 2, 1) := by decide +kernel
theorem dL_law_1242 : decode cL_law 1242 = .ok (.iadd, 1) := by decide +kernel
theorem dL_law_1243 : decode cL_law 1243 = .ok (.iaload, 1) := by decide +kernel
theorem dL_law_1244 : decode cL_law 1244 = .ok (.invokevirtual 161, 3) := by decide +kernel
theorem dL_law_1247 : decode cL_law 1247 = .ok (.if_icmp .eq 593, 3) := by decide +kernel
theorem dL_law_1250 : decode cL_law 1250 = .ok (.iconst 0, 1) := by decide +kernel
theorem dL_law_1251 : decode cL_law 1251 = .ok (.ireturn, 1) := by decide +kernel
theorem dL_law_1252 : decode cL_law 1252 = .ok (.aload_n 1, 1) := by decide +kernel
theorem dL_law_1253 : decode cL_law 1253 = .ok (.aload_n 0, 1) := by decide +kernel
theorem dL_law_1254 : decode cL_law 1254 = .ok (.iload 4, 2) := by decide +kernel
theorem dL_law_1256 : decode cL_law 1256 = .ok (.iconst 1, 1) := by decide +kernel
theorem dL_law_1257 : decode cL_law 1257 = .ok (.iadd, 1) := by decide +kernel
theorem dL_law_1258 : decode cL_law 1258 = .ok (.iaload, 1) := by decide +kernel
theorem dL_law_1259 : decode cL_law 1259 = .ok (.aload_n 0, 1) := by decide +kernel
theorem dL_law_1260 : decode cL_law 1260 = .ok (.iload 4, 2) := by decide +kernel
theorem dL_law_1262 : decode cL_law 1262 = .ok (.iconst 2, 1) := by decide +kernel
theorem dL_law_1263 : decode cL_law 1263 = .ok (.iadd, 1) := by decide +kernel
theorem dL_law_1264 : decode cL_law 1264 = .ok (.iaload, 1) := by decide +kernel
theorem dL_law_1265 : decode cL_law 1265 = .ok (.invokevirtual 162, 3) := by decide +kernel
theorem dL_law_1268 : decode cL_law 1268 = .ok (.aload_n 2, 1) := by decide +kernel
theorem dL_law_1269 : decode cL_law 1269 = .ok (.aload_n 0, 1) := by decide +kernel
theorem dL_law_1270 : decode cL_law 1270 = .ok (.iload 4, 2) := by decide +kernel
theorem dL_law_1272 : decode cL_law 1272 = .ok (.iconst 1, 1) := by decide +kernel
theorem dL_law_1273 : decode cL_law 1273 = .ok (.iadd, 1) := by decide +kernel
theorem dL_law_1274 : decode cL_law 1274 = .ok (.iaload, 1) := by decide +kernel
theorem dL_law_1275 : decode cL_law 1275 = .ok (.aload_n 0, 1) := by decide +kernel
theorem dL_law_1276 : decode cL_law 1276 = .ok (.iload 4, 2) := by decide +kernel
theorem dL_law_1278 : decode cL_law 1278 = .ok (.iconst 2, 1) := by decide +kernel
theorem dL_law_1279 : decode cL_law 1279 = .ok (.iadd, 1) := by decide +kernel
theorem dL_law_1280 : decode cL_law 1280 = .ok (.iaload, 1) := by decide +kernel
theorem dL_law_1281 : decode cL_law 1281 = .ok (.invokevirtual 165, 3) := by decide +kernel
theorem dL_law_1284 : decode cL_law 1284 = .ok (.if_icmp .eq 556, 3) := by decide +kernel
theorem dL_law_1287 : decode cL_law 1287 = .ok (.iconst 0, 1) := by decide +kernel
theorem dL_law_1288 : decode cL_law 1288 = .ok (.ireturn, 1) := by decide +kernel
theorem dL_law_1289 : decode cL_law 1289 = .ok (.aload_n 1, 1) := by decide +kernel
theorem dL_law_1290 : decode cL_law 1290 = .ok (.aload_n 0, 1) := by decide +kernel
theorem dL_law_1291 : decode cL_law 1291 = .ok (.iload 4, 2) := by decide +kernel
theorem dL_law_1293 : decode cL_law 1293 = .ok (.iconst 1, 1) := by decide +kernel
theorem dL_law_1294 : decode cL_law 1294 = .ok (.iadd, 1) := by decide +kernel
theorem dL_law_1295 : decode cL_law 1295 = .ok (.iaload, 1) := by decide +kernel
theorem dL_law_1296 : decode cL_law 1296 = .ok (.aload_n 0, 1) := by decide +kernel
theorem dL_law_1297 : decode cL_law 1297 = .ok (.iload 4, 2) := by decide +kernel
theorem dL_law_1299 : decode cL_law 1299 = .ok (.iconst 2, 1) := by decide +kernel
theorem dL_law_1300 : decode cL_law 1300 = .ok (.iadd, 1) := by decide +kernel
theorem dL_law_1301 : decode cL_law 1301 = .ok (.iaload, 1) := by decide +kernel
theorem dL_law_1302 : decode cL_law 1302 = .ok (.invokevirtual 166, 3) := by decide +kernel
theorem dL_law_1305 : decode cL_law 1305 = .ok (.aload_n 2, 1) := by decide +kernel
theorem dL_law_1306 : decode cL_law 1306 = .ok (.aload_n 0, 1) := by decide +kernel
theorem dL_law_1307 : decode cL_law 1307 = .ok (.iload 4, 2) := by decide +kernel
theorem dL_law_1309 : decode cL_law 1309 = .ok (.iconst 1, 1) := by decide +kernel
theorem dL_law_1310 : decode cL_law 1310 = .ok (.iadd, 1) := by decide +kernel
theorem dL_law_1311 : decode cL_law 1311 = .ok (.iaload, 1) := by decide +kernel
theorem dL_law_1312 : decode cL_law 1312 = .ok (.aload_n 0, 1) := by decide +kernel
theorem dL_law_1313 : decode cL_law 1313 = .ok (.iload 4, 2) := by decide +kernel
theorem dL_law_1315 : decode cL_law 1315 = .ok (.iconst 2, 1) := by decide +kernel
theorem dL_law_1316 : decode cL_law 1316 = .ok (.iadd, 1) := by decide +kernel
theorem dL_law_1317 : decode cL_law 1317 = .ok (.iaload, 1) := by decide +kernel
theorem dL_law_1318 : decode cL_law 1318 = .ok (.invokevirtual 169, 3) := by decide +kernel
theorem dL_law_1321 : decode cL_law 1321 = .ok (.if_icmp .eq 519, 3) := by decide +kernel
theorem dL_law_1324 : decode cL_law 1324 = .ok (.iconst 0, 1) := by decide +kernel
theorem dL_law_1325 : decode cL_law 1325 = .ok (.ireturn, 1) := by decide +kernel
theorem dL_law_1326 : decode cL_law 1326 = .ok (.aload_n 1, 1) := by decide +kernel
theorem dL_law_1327 : decode cL_law 1327 = .ok (.aload_n 0, 1) := by decide +kernel
theorem dL_law_1328 : decode cL_law 1328 = .ok (.iload 4, 2) := by decide +kernel
theorem dL_law_1330 : decode cL_law 1330 = .ok (.iconst 1, 1) := by decide +kernel
theorem dL_law_1331 : decode cL_law 1331 = .ok (.iadd, 1) := by decide +kernel
theorem dL_law_1332 : decode cL_law 1332 = .ok (.iaload, 1) := by decide +kernel
theorem dL_law_1333 : decode cL_law 1333 = .ok (.invokevirtual 170, 3) := by decide +kernel
theorem dL_law_1336 : decode cL_law 1336 = .ok (.aload_n 2, 1) := by decide +kernel
theorem dL_law_1337 : decode cL_law 1337 = .ok (.aload_n 0, 1) := by decide +kernel
theorem dL_law_1338 : decode cL_law 1338 = .ok (.iload 4, 2) := by decide +kernel
theorem dL_law_1340 : decode cL_law 1340 = .ok (.iconst 1, 1) := by decide +kernel
theorem dL_law_1341 : decode cL_law 1341 = .ok (.iadd, 1) := by decide +kernel
theorem dL_law_1342 : decode cL_law 1342 = .ok (.iaload, 1) := by decide +kernel
theorem dL_law_1343 : decode cL_law 1343 = .ok (.invokevirtual 173, 3) := by decide +kernel
theorem dL_law_1346 : decode cL_law 1346 = .ok (.if_icmp .eq 494, 3) := by decide +kernel
theorem dL_law_1349 : decode cL_law 1349 = .ok (.iconst 0, 1) := by decide +kernel
theorem dL_law_1350 : decode cL_law 1350 = .ok (.ireturn, 1) := by decide +kernel
theorem dL_law_1351 : decode cL_law 1351 = .ok (.aload_n 1, 1) := by decide +kernel
theorem dL_law_1352 : decode cL_law 1352 = .ok (.aload_n 0, 1) := by decide +kernel
theorem dL_law_1353 : decode cL_law 1353 = .ok (.iload 4, 2) := by decide +kernel
theorem dL_law_1355 : decode cL_law 1355 = .ok (.iconst 1, 1) := by decide +kernel
theorem dL_law_1356 : decode cL_law 1356 = .ok (.iadd, 1) := by decide +kernel
theorem dL_law_1357 : decode cL_law 1357 = .ok (.iaload, 1) := by decide +kernel
theorem dL_law_1358 : decode cL_law 1358 = .ok (.aload_n 0, 1) := by decide +kernel
theorem dL_law_1359 : decode cL_law 1359 = .ok (.iload 4, 2) := by decide +kernel
theorem dL_law_1361 : decode cL_law 1361 = .ok (.iconst 2, 1) := by decide +kernel
theorem dL_law_1362 : decode cL_law 1362 = .ok (.iadd, 1) := by decide +kernel
theorem dL_law_1363 : decode cL_law 1363 = .ok (.iaload, 1) := by decide +kernel
theorem dL_law_1364 : decode cL_law 1364 = .ok (.aload_n 0, 1) := by decide +kernel
theorem dL_law_1365 : decode cL_law 1365 = .ok (.iload 4, 2) := by decide +kernel
theorem dL_law_1367 : decode cL_law 1367 = .ok (.iconst 3, 1) := by decide +kernel
theorem dL_law_1368 : decode cL_law 1368 = .ok (.iadd, 1) := by decide +kernel
theorem dL_law_1369 : decode cL_law 1369 = .ok (.iaload, 1) := by decide +kernel
theorem dL_law_1370 : decode cL_law 1370 = .ok (.invokevirtual 174, 3) := by decide +kernel
theorem dL_law_1373 : decode cL_law 1373 = .ok (.aload_n 2, 1) := by decide +kernel
theorem dL_law_1374 : decode cL_law 1374 = .ok (.aload_n 0, 1) := by decide +kernel
theorem dL_law_1375 : decode cL_law 1375 = .ok (.iload 4, 2) := by decide +kernel
theorem dL_law_1377 : decode cL_law 1377 = .ok (.iconst 1, 1) := by decide +kernel
theorem dL_law_1378 : decode cL_law 1378 = .ok (.iadd, 1) := by decide +kernel
theorem dL_law_1379 : decode cL_law 1379 = .ok (.iaload, 1) := by decide +kernel
theorem dL_law_1380 : decode cL_law 1380 = .ok (.aload_n 0, 1) := by decide +kernel
theorem dL_law_1381 : decode cL_law 1381 = .ok (.iload 4, 2) := by decide +kernel
theorem dL_law_1383 : decode cL_law 1383 = .ok (.iconst 2, 1) := by decide +kernel
theorem dL_law_1384 : decode cL_law 1384 = .ok (.iadd, 1) := by decide +kernel
theorem dL_law_1385 : decode cL_law 1385 = .ok (.iaload, 1) := by decide +kernel
theorem dL_law_1386 : decode cL_law 1386 = .ok (.aload_n 0, 1) := by decide +kernel
theorem dL_law_1387 : decode cL_law 1387 = .ok (.iload 4, 2) := by decide +kernel
theorem dL_law_1389 : decode cL_law 1389 = .ok (.iconst 3, 1) := by decide +kernel
theorem dL_law_1390 : decode cL_law 1390 = .ok (.iadd, 1) := by decide +kernel
theorem dL_law_1391 : decode cL_law 1391 = .ok (.iaload, 1) := by decide +kernel
theorem dL_law_1392 : decode cL_law 1392 = .ok (.invokevirtual 177, 3) := by decide +kernel
theorem dL_law_1395 : decode cL_law 1395 = .ok (.if_icmp .eq 445, 3) := by decide +kernel
theorem dL_law_1398 : decode cL_law 1398 = .ok (.iconst 0, 1) := by decide +kernel
theorem dL_law_1399 : decode cL_law 1399 = .ok (.ireturn, 1) := by decide +kernel
theorem dL_law_1400 : decode cL_law 1400 = .ok (.aload_n 1, 1) := by decide +kernel
theorem dL_law_1401 : decode cL_law 1401 = .ok (.aload_n 0, 1) := by decide +kernel
theorem dL_law_1402 : decode cL_law 1402 = .ok (.iload 4, 2) := by decide +kernel
theorem dL_law_1404 : decode cL_law 1404 = .ok (.iconst 1, 1) := by decide +kernel
theorem dL_law_1405 : decode cL_law 1405 = .ok (.iadd, 1) := by decide +kernel
theorem dL_law_1406 : decode cL_law 1406 = .ok (.iaload, 1) := by decide +kernel
theorem dL_law_1407 : decode cL_law 1407 = .ok (.invokevirtual 178, 3) := by decide +kernel
theorem dL_law_1410 : decode cL_law 1410 = .ok (.aload_n 2, 1) := by decide +kernel
theorem dL_law_1411 : decode cL_law 1411 = .ok (.aload_n 0, 1) := by decide +kernel
theorem dL_law_1412 : decode cL_law 1412 = .ok (.iload 4, 2) := by decide +kernel
theorem dL_law_1414 : decode cL_law 1414 = .ok (.iconst 1, 1) := by decide +kernel
theorem dL_law_1415 : decode cL_law 1415 = .ok (.iadd, 1) := by decide +kernel
theorem dL_law_1416 : decode cL_law 1416 = .ok (.iaload, 1) := by decide +kernel
theorem dL_law_1417 : decode cL_law 1417 = .ok (.invokevirtual 181, 3) := by decide +kernel
theorem dL_law_1420 : decode cL_law 1420 = .ok (.if_icmp .eq 420, 3) := by decide +kernel
theorem dL_law_1423 : decode cL_law 1423 = .ok (.iconst 0, 1) := by decide +kernel
theorem dL_law_1424 : decode cL_law 1424 = .ok (.ireturn, 1) := by decide +kernel
theorem dL_law_1425 : decode cL_law 1425 = .ok (.aload_n 1, 1) := by decide +kernel
theorem dL_law_1426 : decode cL_law 1426 = .ok (.aload_n 0, 1) := by decide +kernel
theorem dL_law_1427 : decode cL_law 1427 = .ok (.iload 4, 2) := by decide +kernel
theorem dL_law_1429 : decode cL_law 1429 = .ok (.iconst 1, 1) := by decide +kernel
theorem dL_law_1430 : decode cL_law 1430 = .ok (.iadd, 1) := by decide +kernel
theorem dL_law_1431 : decode cL_law 1431 = .ok (.iaload, 1) := by decide +kernel
theorem dL_law_1432 : decode cL_law 1432 = .ok (.aload_n 0, 1) := by decide +kernel
theorem dL_law_1433 : decode cL_law 1433 = .ok (.iload 4, 2) := by decide +kernel
theorem dL_law_1435 : decode cL_law 1435 = .ok (.iconst 2, 1) := by decide +kernel
theorem dL_law_1436 : decode cL_law 1436 = .ok (.iadd, 1) := by decide +kernel
theorem dL_law_1437 : decode cL_law 1437 = .ok (.iaload, 1) := by decide +kernel
theorem dL_law_1438 : decode cL_law 1438 = .ok (.aload_n 0, 1) := by decide +kernel
theorem dL_law_1439 : decode cL_law 1439 = .ok (.iload 4, 2) := by decide +kernel
theorem dL_law_1441 : decode cL_law 1441 = .ok (.iconst 3, 1) := by decide +kernel
theorem dL_law_1442 : decode cL_law 1442 = .ok (.iadd, 1) := by decide +kernel
theorem dL_law_1443 : decode cL_law 1443 = .ok (.iaload, 1) := by decide +kernel
theorem dL_law_1444 : decode cL_law 1444 = .ok (.aload_n 0, 1) := by decide +kernel
theorem dL_law_1445 : decode cL_law 1445 = .ok (.iload 4, 2) := by decide +kernel
theorem dL_law_1447 : decode cL_law 1447 = .ok (.iconst 4, 1) := by decide +kernel
theorem dL_law_1448 : decode cL_law 1448 = .ok (.iadd, 1) := by decide +kernel
theorem dL_law_1449 : decode cL_law 1449 = .ok (.iaload, 1) := by decide +kernel
theorem dL_law_1450 : decode cL_law 1450 = .ok (.invokevirtual 182, 3) := by decide +kernel
theorem dL_law_1453 : decode cL_law 1453 = .ok (.aload_n 2, 1) := by decide +kernel
theorem dL_law_1454 : decode cL_law 1454 = .ok (.aload_n 0, 1) := by decide +kernel
theorem dL_law_1455 : decode cL_law 1455 = .ok (.iload 4, 2) := by decide +kernel
theorem dL_law_1457 : decode cL_law 1457 = .ok (.iconst 1, 1) := by decide +kernel
theorem dL_law_1458 : decode cL_law 1458 = .ok (.iadd, 1) := by decide +kernel
theorem dL_law_1459 : decode cL_law 1459 = .ok (.iaload, 1) := by decide +kernel
theorem dL_law_1460 : decode cL_law 1460 = .ok (.aload_n 0, 1) := by decide +kernel
theorem dL_law_1461 : decode cL_law 1461 = .ok (.iload 4, 2) := by decide +kernel
theorem dL_law_1463 : decode cL_law 1463 = .ok (.iconst 2, 1) := by decide +kernel
theorem dL_law_1464 : decode cL_law 1464 = .ok (.iadd, 1) := by decide +kernel
theorem dL_law_1465 : decode cL_law 1465 = .ok (.iaload, 1) := by decide +kernel
theorem dL_law_1466 : decode cL_law 1466 = .ok (.aload_n 0, 1) := by decide +kernel
theorem dL_law_1467 : decode cL_law 1467 = .ok (.iload 4, 2) := by decide +kernel
theorem dL_law_1469 : decode cL_law 1469 = .ok (.iconst 3, 1) := by decide +kernel
theorem dL_law_1470 : decode cL_law 1470 = .ok (.iadd, 1) := by decide +kernel
theorem dL_law_1471 : decode cL_law 1471 = .ok (.iaload, 1) := by decide +kernel
theorem dL_law_1472 : decode cL_law 1472 = .ok (.aload_n 0, 1) := by decide +kernel
theorem dL_law_1473 : decode cL_law 1473 = .ok (.iload 4, 2) := by decide +kernel
theorem dL_law_1475 : decode cL_law 1475 = .ok (.iconst 4, 1) := by decide +kernel
theorem dL_law_1476 : decode cL_law 1476 = .ok (.iadd, 1) := by decide +kernel
theorem dL_law_1477 : decode cL_law 1477 = .ok (.iaload, 1) := by decide +kernel
theorem dL_law_1478 : decode cL_law 1478 = .ok (.invokevirtual 186, 3) := by decide +kernel
theorem dL_law_1481 : decode cL_law 1481 = .ok (.if_icmp .eq 359, 3) := by decide +kernel
theorem dL_law_1484 : decode cL_law 1484 = .ok (.iconst 0, 1) := by decide +kernel
theorem dL_law_1485 : decode cL_law 1485 = .ok (.ireturn, 1) := by decide +kernel
theorem dL_law_1486 : decode cL_law 1486 = .ok (.aload_n 1, 1) := by decide +kernel
theorem dL_law_1487 : decode cL_law 1487 = .ok (.aload_n 0, 1) := by decide +kernel
theorem dL_law_1488 : decode cL_law 1488 = .ok (.iload 4, 2) := by decide +kernel
theorem dL_law_1490 : decode cL_law 1490 = .ok (.iconst 1, 1) := by decide +kernel
theorem dL_law_1491 : decode cL_law 1491 = .ok (.iadd, 1) := by decide +kernel
theorem dL_law_1492 : decode cL_law 1492 = .ok (.iaload, 1) := by decide +kernel
theorem dL_law_1493 : decode cL_law 1493 = .ok (.invokevirtual 187, 3) := by decide +kernel
theorem dL_law_1496 : decode cL_law 1496 = .ok (.aload_n 2, 1) := by decide +kernel
theorem dL_law_1497 : decode cL_law 1497 = .ok (.aload_n 0, 1) := by decide +kernel
theorem dL_law_1498 : decode cL_law 1498 = .ok (.iload 4, 2) := by decide +kernel
theorem dL_law_1500 : decode cL_law 1500 = .ok (.iconst 1, 1) := by decide +kernel
theorem dL_law_1501 : decode cL_law 1501 = .ok (.iadd, 1) := by decide +kernel
theorem dL_law_1502 : decode cL_law 1502 = .ok (.iaload, 1) := by decide +kernel
theorem dL_law_1503 : decode cL_law 1503 = .ok (.invokevirtual 190, 3) := by decide +kernel
theorem dL_law_1506 : decode cL_law 1506 = .ok (.if_icmp .eq 334, 3) := by decide +kernel
theorem dL_law_1509 : decode cL_law 1509 = .ok (.iconst 0, 1) := by decide +kernel
theorem dL_law_1510 : decode cL_law 1510 = .ok (.ireturn, 1) := by decide +kernel
theorem dL_law_1511 : decode cL_law 1511 = .ok (.aload_n 1, 1) := by decide +kernel
theorem dL_law_1512 : decode cL_law 1512 = .ok (.aload_n 0, 1) := by decide +kernel
theorem dL_law_1513 : decode cL_law 1513 = .ok (.iload 4, 2) := by decide +kernel
theorem dL_law_1515 : decode cL_law 1515 = .ok (.iconst 1, 1) := by decide +kernel
theorem dL_law_1516 : decode cL_law 1516 = .ok (.iadd, 1) := by decide +kernel
theorem dL_law_1517 : decode cL_law 1517 = .ok (.iaload, 1) := by decide +kernel
theorem dL_law_1518 : decode cL_law 1518 = .ok (.invokevirtual 191, 3) := by decide +kernel
theorem dL_law_1521 : decode cL_law 1521 = .ok (.aload_n 2, 1) := by decide +kernel
theorem dL_law_1522 : decode cL_law 1522 = .ok (.aload_n 0, 1) := by decide +kernel
theorem dL_law_1523 : decode cL_law 1523 = .ok (.iload 4, 2) := by decide +kernel
theorem dL_law_1525 : decode cL_law 1525 = .ok (.iconst 1, 1) := by decide +kernel
theorem dL_law_1526 : decode cL_law 1526 = .ok (.iadd, 1) := by decide +kernel
theorem dL_law_1527 : decode cL_law 1527 = .ok (.iaload, 1) := by decide +kernel
theorem dL_law_1528 : decode cL_law 1528 = .ok (.invokevirtual 194, 3) := by decide +kernel
theorem dL_law_1531 : decode cL_law 1531 = .ok (.if_icmp .eq 309, 3) := by decide +kernel
theorem dL_law_1534 : decode cL_law 1534 = .ok (.iconst 0, 1) := by decide +kernel
theorem dL_law_1535 : decode cL_law 1535 = .ok (.ireturn, 1) := by decide +kernel
theorem dL_law_1536 : decode cL_law 1536 = .ok (.aload_n 1, 1) := by decide +kernel
theorem dL_law_1537 : decode cL_law 1537 = .ok (.aload_n 0, 1) := by decide +kernel
theorem dL_law_1538 : decode cL_law 1538 = .ok (.iload 4, 2) := by decide +kernel
theorem dL_law_1540 : decode cL_law 1540 = .ok (.iconst 1, 1) := by decide +kernel
theorem dL_law_1541 : decode cL_law 1541 = .ok (.iadd, 1) := by decide +kernel
theorem dL_law_1542 : decode cL_law 1542 = .ok (.iaload, 1) := by decide +kernel
theorem dL_law_1543 : decode cL_law 1543 = .ok (.invokevirtual 195, 3) := by decide +kernel
theorem dL_law_1546 : decode cL_law 1546 = .ok (.aload_n 2, 1) := by decide +kernel
theorem dL_law_1547 : decode cL_law 1547 = .ok (.aload_n 0, 1) := by decide +kernel
theorem dL_law_1548 : decode cL_law 1548 = .ok (.iload 4, 2) := by decide +kernel
theorem dL_law_1550 : decode cL_law 1550 = .ok (.iconst 1, 1) := by decide +kernel
theorem dL_law_1551 : decode cL_law 1551 = .ok (.iadd, 1) := by decide +kernel
theorem dL_law_1552 : decode cL_law 1552 = .ok (.iaload, 1) := by decide +kernel
theorem dL_law_1553 : decode cL_law 1553 = .ok (.invokevirtual 198, 3) := by decide +kernel
theorem dL_law_1556 : decode cL_law 1556 = .ok (.if_icmp .eq 284, 3) := by decide +kernel
theorem dL_law_1559 : decode cL_law 1559 = .ok (.iconst 0, 1) := by decide +kernel
theorem dL_law_1560 : decode cL_law 1560 = .ok (.ireturn, 1) := by decide +kernel
theorem dL_law_1561 : decode cL_law 1561 = .ok (.aload_n 1, 1) := by decide +kernel
theorem dL_law_1562 : decode cL_law 1562 = .ok (.aload_n 0, 1) := by decide +kernel
theorem dL_law_1563 : decode cL_law 1563 = .ok (.iload 4, 2) := by decide +kernel
theorem dL_law_1565 : decode cL_law 1565 = .ok (.iconst 1, 1) := by decide +kernel
theorem dL_law_1566 : decode cL_law 1566 = .ok (.iadd, 1) := by decide +kernel
theorem dL_law_1567 : decode cL_law 1567 = .ok (.iaload, 1) := by decide +kernel
theorem dL_law_1568 : decode cL_law 1568 = .ok (.invokevirtual 199, 3) := by decide +kernel
theorem dL_law_1571 : decode cL_law 1571 = .ok (.aload_n 2, 1) := by decide +kernel
theorem dL_law_1572 : decode cL_law 1572 = .ok (.aload_n 0, 1) := by decide +kernel
theorem dL_law_1573 : decode cL_law 1573 = .ok (.iload 4, 2) := by decide +kernel
theorem dL_law_1575 : decode cL_law 1575 = .ok (.iconst 1, 1) := by decide +kernel
theorem dL_law_1576 : decode cL_law 1576 = .ok (.iadd, 1) := by decide +kernel
theorem dL_law_1577 : decode cL_law 1577 = .ok (.iaload, 1) := by decide +kernel
theorem dL_law_1578 : decode cL_law 1578 = .ok (.invokevirtual 202, 3) := by decide +kernel
theorem dL_law_1581 : decode cL_law 1581 = .ok (.if_icmp .eq 259, 3) := by decide +kernel
theorem dL_law_1584 : decode cL_law 1584 = .ok (.iconst 0, 1) := by decide +kernel
theorem dL_law_1585 : decode cL_law 1585 = .ok (.ireturn, 1) := by decide +kernel
theorem dL_law_1586 : decode cL_law 1586 = .ok (.aload_n 1, 1) := by decide +kernel
theorem dL_law_1587 : decode cL_law 1587 = .ok (.aload_n 0, 1) := by decide +kernel
theorem dL_law_1588 : decode cL_law 1588 = .ok (.iload 4, 2) := by decide +kernel
theorem dL_law_1590 : decode cL_law 1590 = .ok (.iconst 1, 1) := by decide +kernel
theorem dL_law_1591 : decode cL_law 1591 = .ok (.iadd, 1) := by decide +kernel
theorem dL_law_1592 : decode cL_law 1592 = .ok (.iaload, 1) := by decide +kernel
theorem dL_law_1593 : decode cL_law 1593 = .ok (.invokevirtual 203, 3) := by decide +kernel
theorem dL_law_1596 : decode cL_law 1596 = .ok (.aload_n 2, 1) := by decide +kernel
theorem dL_law_1597 : decode cL_law 1597 = .ok (.aload_n 0, 1) := by decide +kernel
theorem dL_law_1598 : decode cL_law 1598 = .ok (.iload 4, 2) := by decide +kernel
theorem dL_law_1600 : decode cL_law 1600 = .ok (.iconst 1, 1) := by decide +kernel
theorem dL_law_1601 : decode cL_law 1601 = .ok (.iadd, 1) := by decide +kernel
theorem dL_law_1602 : decode cL_law 1602 = .ok (.iaload, 1) := by decide +kernel
theorem dL_law_1603 : decode cL_law 1603 = .ok (.invokevirtual 206, 3) := by decide +kernel
theorem dL_law_1606 : decode cL_law 1606 = .ok (.if_icmp .eq 234, 3) := by decide +kernel
theorem dL_law_1609 : decode cL_law 1609 = .ok (.iconst 0, 1) := by decide +kernel
theorem dL_law_1610 : decode cL_law 1610 = .ok (.ireturn, 1) := by decide +kernel
theorem dL_law_1611 : decode cL_law 1611 = .ok (.aload_n 1, 1) := by decide +kernel
theorem dL_law_1612 : decode cL_law 1612 = .ok (.aload_n 0, 1) := by decide +kernel
theorem dL_law_1613 : decode cL_law 1613 = .ok (.iload 4, 2) := by decide +kernel
theorem dL_law_1615 : decode cL_law 1615 = .ok (.iconst 1, 1) := by decide +kernel
theorem dL_law_1616 : decode cL_law 1616 = .ok (.iadd, 1) := by decide +kernel
theorem dL_law_1617 : decode cL_law 1617 = .ok (.iaload, 1) := by decide +kernel
theorem dL_law_1618 : decode cL_law 1618 = .ok (.invokevirtual 207, 3) := by decide +kernel
theorem dL_law_1621 : decode cL_law 1621 = .ok (.aload_n 2, 1) := by decide +kernel
theorem dL_law_1622 : decode cL_law 1622 = .ok (.aload_n 0, 1) := by decide +kernel
theorem dL_law_1623 : decode cL_law 1623 = .ok (.iload 4, 2) := by decide +kernel
theorem dL_law_1625 : decode cL_law 1625 = .ok (.iconst 1, 1) := by decide +kernel
theorem dL_law_1626 : decode cL_law 1626 = .ok (.iadd, 1) := by decide +kernel
theorem dL_law_1627 : decode cL_law 1627 = .ok (.iaload, 1) := by decide +kernel
theorem dL_law_1628 : decode cL_law 1628 = .ok (.invokevirtual 210, 3) := by decide +kernel
theorem dL_law_1631 : decode cL_law 1631 = .ok (.if_icmp .eq 209, 3) := by decide +kernel
theorem dL_law_1634 : decode cL_law 1634 = .ok (.iconst 0, 1) := by decide +kernel
theorem dL_law_1635 : decode cL_law 1635 = .ok (.ireturn, 1) := by decide +kernel
theorem dL_law_1636 : decode cL_law 1636 = .ok (.aload_n 1, 1) := by decide +kernel
theorem dL_law_1637 : decode cL_law 1637 = .ok (.aload_n 0, 1) := by decide +kernel
theorem dL_law_1638 : decode cL_law 1638 = .ok (.iload 4, 2) := by decide +kernel
theorem dL_law_1640 : decode cL_law 1640 = .ok (.iconst 1, 1) := by decide +kernel
theorem dL_law_1641 : decode cL_law 1641 = .ok (.iadd, 1) := by decide +kernel
theorem dL_law_1642 : decode cL_law 1642 = .ok (.iaload, 1) := by decide +kernel
theorem dL_law_1643 : decode cL_law 1643 = .ok (.invokevirtual 211, 3) := by decide +kernel
theorem dL_law_1646 : decode cL_law 1646 = .ok (.aload_n 2, 1) := by decide +kernel
theorem dL_law_1647 : decode cL_law 1647 = .ok (.aload_n 0, 1) := by decide +kernel
theorem dL_law_1648 : decode cL_law 1648 = .ok (.iload 4, 2) := by decide +kernel
theorem dL_law_1650 : decode cL_law 1650 = .ok (.iconst 1, 1) := by decide +kernel
theorem dL_law_1651 : decode cL_law 1651 = .ok (.iadd, 1) := by decide +kernel
theorem dL_law_1652 : decode cL_law 1652 = .ok (.iaload, 1) := by decide +kernel
theorem dL_law_1653 : decode cL_law 1653 = .ok (.invokevirtual 214, 3) := by decide +kernel
theorem dL_law_1656 : decode cL_law 1656 = .ok (.if_icmp .eq 184, 3) := by decide +kernel
theorem dL_law_1659 : decode cL_law 1659 = .ok (.iconst 0, 1) := by decide +kernel
theorem dL_law_1660 : decode cL_law 1660 = .ok (.ireturn, 1) := by decide +kernel
theorem dL_law_1661 : decode cL_law 1661 = .ok (.aload_n 1, 1) := by decide +kernel
theorem dL_law_1662 : decode cL_law 1662 = .ok (.aload_n 0, 1) := by decide +kernel
theorem dL_law_1663 : decode cL_law 1663 = .ok (.iload 4, 2) := by decide +kernel
theorem dL_law_1665 : decode cL_law 1665 = .ok (.iconst 1, 1) := by decide +kernel
theorem dL_law_1666 : decode cL_law 1666 = .ok (.iadd, 1) := by decide +kernel
theorem dL_law_1667 : decode cL_law 1667 = .ok (.iaload, 1) := by decide +kernel
theorem dL_law_1668 : decode cL_law 1668 = .ok (.invokevirtual 215, 3) := by decide +kernel
theorem dL_law_1671 : decode cL_law 1671 = .ok (.aload_n 2, 1) := by decide +kernel
theorem dL_law_1672 : decode cL_law 1672 = .ok (.aload_n 0, 1) := by decide +kernel
theorem dL_law_1673 : decode cL_law 1673 = .ok (.iload 4, 2) := by decide +kernel
theorem dL_law_1675 : decode cL_law 1675 = .ok (.iconst 1, 1) := by decide +kernel
theorem dL_law_1676 : decode cL_law 1676 = .ok (.iadd, 1) := by decide +kernel
theorem dL_law_1677 : decode cL_law 1677 = .ok (.iaload, 1) := by decide +kernel
theorem dL_law_1678 : decode cL_law 1678 = .ok (.invokevirtual 218, 3) := by decide +kernel
theorem dL_law_1681 : decode cL_law 1681 = .ok (.if_icmp .eq 159, 3) := by decide +kernel
theorem dL_law_1684 : decode cL_law 1684 = .ok (.iconst 0, 1) := by decide +kernel
theorem dL_law_1685 : decode cL_law 1685 = .ok (.ireturn, 1) := by decide +kernel
theorem dL_law_1686 : decode cL_law 1686 = .ok (.aload_n 1, 1) := by decide +kernel
theorem dL_law_1687 : decode cL_law 1687 = .ok (.aload_n 0, 1) := by decide +kernel
theorem dL_law_1688 : decode cL_law 1688 = .ok (.iload 4, 2) := by decide +kernel
theorem dL_law_1690 : decode cL_law 1690 = .ok (.iconst 1, 1) := by decide +kernel
theorem dL_law_1691 : decode cL_law 1691 = .ok (.iadd, 1) := by decide +kernel
theorem dL_law_1692 : decode cL_law 1692 = .ok (.iaload, 1) := by decide +kernel
theorem dL_law_1693 : decode cL_law 1693 = .ok (.invokevirtual 219, 3) := by decide +kernel
theorem dL_law_1696 : decode cL_law 1696 = .ok (.aload_n 2, 1) := by decide +kernel
theorem dL_law_1697 : decode cL_law 1697 = .ok (.aload_n 0, 1) := by decide +kernel
theorem dL_law_1698 : decode cL_law 1698 = .ok (.iload 4, 2) := by decide +kernel
theorem dL_law_1700 : decode cL_law 1700 = .ok (.iconst 1, 1) := by decide +kernel
theorem dL_law_1701 : decode cL_law 1701 = .ok (.iadd, 1) := by decide +kernel
theorem dL_law_1702 : decode cL_law 1702 = .ok (.iaload, 1) := by decide +kernel
theorem dL_law_1703 : decode cL_law 1703 = .ok (.invokevirtual 222, 3) := by decide +kernel
theorem dL_law_1706 : decode cL_law 1706 = .ok (.if_icmp .eq 134, 3) := by decide +kernel
theorem dL_law_1709 : decode cL_law 1709 = .ok (.iconst 0, 1) := by decide +kernel
theorem dL_law_1710 : decode cL_law 1710 = .ok (.ireturn, 1) := by decide +kernel
theorem dL_law_1711 : decode cL_law 1711 = .ok (.aload_n 1, 1) := by decide +kernel
theorem dL_law_1712 : decode cL_law 1712 = .ok (.aload_n 0, 1) := by decide +kernel
theorem dL_law_1713 : decode cL_law 1713 = .ok (.iload 4, 2) := by decide +kernel
theorem dL_law_1715 : decode cL_law 1715 = .ok (.iconst 1, 1) := by decide +kernel
theorem dL_law_1716 : decode cL_law 1716 = .ok (.iadd, 1) := by decide +kernel
theorem dL_law_1717 : decode cL_law 1717 = .ok (.iaload, 1) := by decide +kernel
theorem dL_law_1718 : decode cL_law 1718 = .ok (.aload_n 0, 1) := by decide +kernel
theorem dL_law_1719 : decode cL_law 1719 = .ok (.iload 4, 2) := by decide +kernel
theorem dL_law_1721 : decode cL_law 1721 = .ok (.iconst 2, 1) := by decide +kernel
theorem dL_law_1722 : decode cL_law 1722 = .ok (.iadd, 1) := by decide +kernel
theorem dL_law_1723 : decode cL_law 1723 = .ok (.iaload, 1) := by decide +kernel
theorem dL_law_1724 : decode cL_law 1724 = .ok (.ifCond .eq 7, 3) := by decide +kernel
theorem dL_law_1727 : decode cL_law 1727 = .ok (.iconst 1, 1) := by decide +kernel
theorem dL_law_1728 : decode cL_law 1728 = .ok (.goto 4, 3) := by decide +kernel
theorem dL_law_1731 : decode cL_law 1731 = .ok (.iconst 0, 1) := by decide +kernel
theorem dL_law_1732 : decode cL_law 1732 = .ok (.invokevirtual 223, 3) := by decide +kernel
theorem dL_law_1735 : decode cL_law 1735 = .ok (.aload_n 2, 1) := by decide +kernel
theorem dL_law_1736 : decode cL_law 1736 = .ok (.aload_n 0, 1) := by decide +kernel
theorem dL_law_1737 : decode cL_law 1737 = .ok (.iload 4, 2) := by decide +kernel
theorem dL_law_1739 : decode cL_law 1739 = .ok (.iconst 1, 1) := by decide +kernel
theorem dL_law_1740 : decode cL_law 1740 = .ok (.iadd, 1) := by decide +kernel
theorem dL_law_1741 : decode cL_law 1741 = .ok (.iaload, 1) := by decide +kernel
theorem dL_law_1742 : decode cL_law 1742 = .ok (.aload_n 0, 1) := by decide +kernel
theorem dL_law_1743 : decode cL_law 1743 = .ok (.iload 4, 2) := by decide +kernel
theorem dL_law_1745 : decode cL_law 1745 = .ok (.iconst 2, 1) := by decide +kernel
theorem dL_law_1746 : decode cL_law 1746 = .ok (.iadd, 1) := by decide +kernel
theorem dL_law_1747 : decode cL_law 1747 = .ok (.iaload, 1) := by decide +kernel
theorem dL_law_1748 : decode cL_law 1748 = .ok (.ifCond .eq 7, 3) := by decide +kernel
theorem dL_law_1751 : decode cL_law 1751 = .ok (.iconst 1, 1) := by decide +kernel
theorem dL_law_1752 : decode cL_law 1752 = .ok (.goto 4, 3) := by decide +kernel
theorem dL_law_1755 : decode cL_law 1755 = .ok (.iconst 0, 1) := by decide +kernel
theorem dL_law_1756 : decode cL_law 1756 = .ok (.invokevirtual 227, 3) := by decide +kernel
theorem dL_law_1759 : decode cL_law 1759 = .ok (.if_icmp .eq 81, 3) := by decide +kernel
theorem dL_law_1762 : decode cL_law 1762 = .ok (.iconst 0, 1) := by decide +kernel
theorem dL_law_1763 : decode cL_law 1763 = .ok (.ireturn, 1) := by decide +kernel
theorem dL_law_1764 : decode cL_law 1764 = .ok (.aload_n 1, 1) := by decide +kernel
theorem dL_law_1765 : decode cL_law 1765 = .ok (.invokevirtual 228, 3) := by decide +kernel
theorem dL_law_1768 : decode cL_law 1768 = .ok (.aload_n 2, 1) := by decide +kernel
theorem dL_law_1769 : decode cL_law 1769 = .ok (.invokevirtual 232, 3) := by decide +kernel
theorem dL_law_1772 : decode cL_law 1772 = .ok (.if_icmp .eq 68, 3) := by decide +kernel
theorem dL_law_1775 : decode cL_law 1775 = .ok (.iconst 0, 1) := by decide +kernel
theorem dL_law_1776 : decode cL_law 1776 = .ok (.ireturn, 1) := by decide +kernel
theorem dL_law_1777 : decode cL_law 1777 = .ok (.aload_n 1, 1) := by decide +kernel
theorem dL_law_1778 : decode cL_law 1778 = .ok (.invokevirtual 233, 3) := by decide +kernel
theorem dL_law_1781 : decode cL_law 1781 = .ok (.aload_n 2, 1) := by decide +kernel
theorem dL_law_1782 : decode cL_law 1782 = .ok (.invokevirtual 236, 3) := by decide +kernel
theorem dL_law_1785 : decode cL_law 1785 = .ok (.if_icmp .eq 55, 3) := by decide +kernel
theorem dL_law_1788 : decode cL_law 1788 = .ok (.iconst 0, 1) := by decide +kernel
theorem dL_law_1789 : decode cL_law 1789 = .ok (.ireturn, 1) := by decide +kernel
theorem dL_law_1790 : decode cL_law 1790 = .ok (.aload_n 1, 1) := by decide +kernel
theorem dL_law_1791 : decode cL_law 1791 = .ok (.aload_n 0, 1) := by decide +kernel
theorem dL_law_1792 : decode cL_law 1792 = .ok (.iload 4, 2) := by decide +kernel
theorem dL_law_1794 : decode cL_law 1794 = .ok (.iconst 1, 1) := by decide +kernel
theorem dL_law_1795 : decode cL_law 1795 = .ok (.iadd, 1) := by decide +kernel
theorem dL_law_1796 : decode cL_law 1796 = .ok (.iaload, 1) := by decide +kernel
theorem dL_law_1797 : decode cL_law 1797 = .ok (.invokevirtual 237, 3) := by decide +kernel
theorem dL_law_1800 : decode cL_law 1800 = .ok (.aload_n 2, 1) := by decide +kernel
theorem dL_law_1801 : decode cL_law 1801 = .ok (.aload_n 0, 1) := by decide +kernel
theorem dL_law_1802 : decode cL_law 1802 = .ok (.iload 4, 2) := by decide +kernel
theorem dL_law_1804 : decode cL_law 1804 = .ok (.iconst 1, 1) := by decide +kernel
theorem dL_law_1805 : decode cL_law 1805 = .ok (.iadd, 1) := by decide +kernel
theorem dL_law_1806 : decode cL_law 1806 = .ok (.iaload, 1) := by decide +kernel
theorem dL_law_1807 : decode cL_law 1807 = .ok (.invokevirtual 241, 3) := by decide +kernel
theorem dL_law_1810 : decode cL_law 1810 = .ok (.if_icmp .eq 30, 3) := by decide +kernel
theorem dL_law_1813 : decode cL_law 1813 = .ok (.iconst 0, 1) := by decide +kernel
theorem dL_law_1814 : decode cL_law 1814 = .ok (.ireturn, 1) := by decide +kernel
theorem dL_law_1815 : decode cL_law 1815 = .ok (.aload_n 1, 1) := by decide +kernel
theorem dL_law_1816 : decode cL_law 1816 = .ok (.aload_n 0, 1) := by decide +kernel
theorem dL_law_1817 : decode cL_law 1817 = .ok (.iload 4, 2) := by decide +kernel
theorem dL_law_1819 : decode cL_law 1819 = .ok (.iconst 1, 1) := by decide +kernel
theorem dL_law_1820 : decode cL_law 1820 = .ok (.iadd, 1) := by decide +kernel
theorem dL_law_1821 : decode cL_law 1821 = .ok (.iaload, 1) := by decide +kernel
theorem dL_law_1822 : decode cL_law 1822 = .ok (.invokevirtual 242, 3) := by decide +kernel
theorem dL_law_1825 : decode cL_law 1825 = .ok (.aload_n 2, 1) := by decide +kernel
theorem dL_law_1826 : decode cL_law 1826 = .ok (.aload_n 0, 1) := by decide +kernel
theorem dL_law_1827 : decode cL_law 1827 = .ok (.iload 4, 2) := by decide +kernel
theorem dL_law_1829 : decode cL_law 1829 = .ok (.iconst 1, 1) := by decide +kernel
theorem dL_law_1830 : decode cL_law 1830 = .ok (.iadd, 1) := by decide +kernel
theorem dL_law_1831 : decode cL_law 1831 = .ok (.iaload, 1) := by decide +kernel
theorem dL_law_1832 : decode cL_law 1832 = .ok (.invokevirtual 245, 3) := by decide +kernel
theorem dL_law_1835 : decode cL_law 1835 = .ok (.if_icmp .eq 5, 3) := by decide +kernel
theorem dL_law_1838 : decode cL_law 1838 = .ok (.iconst 0, 1) := by decide +kernel
theorem dL_law_1839 : decode cL_law 1839 = .ok (.ireturn, 1) := by decide +kernel
theorem dL_law_1840 : decode cL_law 1840 = .ok (.iinc 4 6, 3) := by decide +kernel
theorem dL_law_1843 : decode cL_law 1843 = .ok (.goto (-1820), 3) := by decide +kernel
theorem dL_law_1846 : decode cL_law 1846 = .ok (.iconst 1, 1) := by decide +kernel
theorem dL_law_1847 : decode cL_law 1847 = .ok (.ireturn, 1) := by decide +kernel
def f_L_law_h1840 (F : Nat) (L : Nat) (xs : Nat → Int32) (r23 : Int32 → si_St → Option (Int32 × si_St)) (x4 : Int32) (S : si_St) : Option (Int32 × si_St) :=
  Option.bind (some (x4 + 6)) fun v1 => r23 v1 S
def f_L_law_h534 (F : Nat) (L : Nat) (xs : Nat → Int32) (r23 : Int32 → si_St → Option (Int32 × si_St)) (x4 : Int32) (S : si_St) : Option (Int32 × si_St) :=
  f_L_law_h1840 F L xs r23 x4 S
def f_L_law_h876 (F : Nat) (L : Nat) (xs : Nat → Int32) (r23 : Int32 → si_St → Option (Int32 × si_St)) (x4 : Int32) (S : si_St) : Option (Int32 × si_St) :=
  f_L_law_h1840 F L xs r23 x4 S
def f_L_law_h944 (F : Nat) (L : Nat) (xs : Nat → Int32) (r23 : Int32 → si_St → Option (Int32 × si_St)) (x4 : Int32) (S : si_St) : Option (Int32 × si_St) :=
  f_L_law_h1840 F L xs r23 x4 S
def f_L_law_h1019 (F : Nat) (L : Nat) (xs : Nat → Int32) (r23 : Int32 → si_St → Option (Int32 × si_St)) (x4 : Int32) (S : si_St) : Option (Int32 × si_St) :=
  f_L_law_h1840 F L xs r23 x4 S
def f_L_law_h1013 (F : Nat) (L : Nat) (xs : Nat → Int32) (r23 : Int32 → si_St → Option (Int32 × si_St)) (x4 : Int32) (t0 : Int64) (t1 : Int64) (S : si_St) : Option (Int32 × si_St) :=
  if (lg_cmp t1 t0) = 0 then (f_L_law_h1019 F L xs r23 x4 S) else (some (0, S))
def f_L_law_h1100 (F : Nat) (L : Nat) (xs : Nat → Int32) (r23 : Int32 → si_St → Option (Int32 × si_St)) (x4 : Int32) (S : si_St) : Option (Int32 × si_St) :=
  f_L_law_h1840 F L xs r23 x4 S
def f_L_law_h1756 (F : Nat) (L : Nat) (xs : Nat → Int32) (r23 : Int32 → si_St → Option (Int32 × si_St)) (x4 : Int32) (t0 : Int32) (t1 : Int32) (t3 : Int32) (S : si_St) : Option (Int32 × si_St) :=
  Option.bind (f_X10_fewestWeighings F t1 t0 S) fun q2 => if t3 = q2.1 then (f_L_law_h1840 F L xs r23 x4 q2.2) else (some (0, q2.2))
def f_L_law_h1732 (F : Nat) (L : Nat) (xs : Nat → Int32) (r23 : Int32 → si_St → Option (Int32 × si_St)) (x4 : Int32) (t0 : Int32) (t1 : Int32) (S : si_St) : Option (Int32 × si_St) :=
  Option.bind (f_X9_fewestWeighings F t1 t0 S) fun q3 => Option.bind (si_xs L xs (x4 + 1)) fun v4 => Option.bind (si_xs L xs (x4 + 2)) fun v5 => if v5 = 0 then (f_L_law_h1756 F L xs r23 x4 0 v4 q3.1 q3.2) else (f_L_law_h1756 F L xs r23 x4 1 v4 q3.1 q3.2)
def f_L_law_h23 (F : Nat) (L : Nat) (xs : Nat → Int32) (r23 : Int32 → si_St → Option (Int32 × si_St)) (x4 : Int32) (S : si_St) : Option (Int32 × si_St) :=
  if ((Int32.ofNat L) - 6) < x4 then (some (1, S)) else (Option.bind (si_xs L xs x4) fun v6 => if (v6 &&& 63) = 0 then (Option.bind (si_xs L xs (x4 + 1)) fun v7 => Option.bind (si_xs L xs (x4 + 2)) fun v8 => Option.bind (si_xs L xs (x4 + 3)) fun v9 => Option.bind (si_xs L xs (x4 + 4)) fun v10 => Option.bind (si_xs L xs (x4 + 5)) fun v11 => Option.bind (f_X9_append F v7 v8 v9 v10 v11 S) fun q12 => Option.bind (si_xs L xs (x4 + 1)) fun v13 => Option.bind (si_xs L xs (x4 + 2)) fun v14 => Option.bind (si_xs L xs (x4 + 3)) fun v15 => Option.bind (si_xs L xs (x4 + 4)) fun v16 => Option.bind (si_xs L xs (x4 + 5)) fun v17 => Option.bind (f_X10_append F v13 v14 v15 v16 v17 q12.2) fun q18 => if q12.1 = q18.1 then (f_L_law_h1840 F L xs r23 x4 q18.2) else (some (0, q18.2))) else (if (v6 &&& 63) = 1 then (Option.bind (si_xs L xs (x4 + 1)) fun v19 => Option.bind (f_X9_parse F v19 S) fun q20 => Option.bind (si_xs L xs (x4 + 1)) fun v21 => Option.bind (f_X10_parse F v21 q20.2) fun q22 => if q20.1 = q22.1 then (f_L_law_h1840 F L xs r23 x4 q22.2) else (some (0, q22.2))) else (if (v6 &&& 63) = 2 then (Option.bind (f_X9_errorPosition F S) fun q23 => Option.bind (f_X10_errorPosition F q23.2) fun q24 => if q23.1 = q24.1 then (f_L_law_h1840 F L xs r23 x4 q24.2) else (some (0, q24.2))) else (if (v6 &&& 63) = 3 then (Option.bind (f_X9_traderCount F S) fun q25 => Option.bind (f_X10_traderCount F q25.2) fun q26 => if q25.1 = q26.1 then (f_L_law_h1840 F L xs r23 x4 q26.2) else (some (0, q26.2))) else (if (v6 &&& 63) = 4 then (Option.bind (f_X9_scaleCount F S) fun q27 => Option.bind (f_X10_scaleCount F q27.2) fun q28 => if q27.1 = q28.1 then (f_L_law_h1840 F L xs r23 x4 q28.2) else (some (0, q28.2))) else (if (v6 &&& 63) = 5 then (Option.bind (f_X9_massCount F S) fun q29 => Option.bind (f_X10_massCount F q29.2) fun q30 => if q29.1 = q30.1 then (f_L_law_h1840 F L xs r23 x4 q30.2) else (some (0, q30.2))) else (if (v6 &&& 63) = 6 then (Option.bind (f_X9_setCount F S) fun q31 => Option.bind (f_X10_setCount F q31.2) fun q32 => if q31.1 = q32.1 then (f_L_law_h1840 F L xs r23 x4 q32.2) else (some (0, q32.2))) else (if (v6 &&& 63) = 7 then (Option.bind (si_xs L xs (x4 + 1)) fun v33 => Option.bind (f_X9_trader F v33 S) fun q34 => Option.bind (si_xs L xs (x4 + 1)) fun v35 => Option.bind (f_X10_trader F v35 q34.2) fun q36 => if q34.1 = q36.1 then (f_L_law_h1840 F L xs r23 x4 q36.2) else (some (0, q36.2))) else (if (v6 &&& 63) = 8 then (Option.bind (si_xs L xs (x4 + 1)) fun v37 => Option.bind (f_X9_capacity F v37 S) fun q38 => Option.bind (si_xs L xs (x4 + 1)) fun v39 => Option.bind (f_X10_capacity F v39 q38.2) fun q40 => if q38.1 = q40.1 then (f_L_law_h1840 F L xs r23 x4 q40.2) else (some (0, q40.2))) else (if (v6 &&& 63) = 9 then (Option.bind (si_xs L xs (x4 + 1)) fun v41 => Option.bind (si_xs L xs (x4 + 2)) fun v42 => Option.bind (f_L_baseTolerance F v41 v42 S) fun q43 => Option.bind (si_xs L xs (x4 + 1)) fun v44 => Option.bind (si_xs L xs (x4 + 2)) fun v45 => Option.bind (f_X10_baseTolerance F v44 v45 q43.2) fun q46 => Option.bind (f_X10_thrown F q46.2) fun q47 => if q47.1 = q43.1 then (if q43.1 = 0 then (Option.bind (si_rl q47.2 113 0) fun v48 => if (lg_cmp v48 (Int32.toInt64 q46.1)) = 0 then (f_L_law_h534 F L xs r23 x4 q47.2) else (some (0, q47.2))) else (f_L_law_h534 F L xs r23 x4 q47.2)) else (some (0, q47.2))) else (if (v6 &&& 63) = 10 then (Option.bind (si_xs L xs (x4 + 1)) fun v49 => Option.bind (f_X9_massValue F v49 S) fun q50 => Option.bind (si_xs L xs (x4 + 1)) fun v51 => Option.bind (f_X10_massValue F v51 q50.2) fun q52 => if q50.1 = q52.1 then (f_L_law_h1840 F L xs r23 x4 q52.2) else (some (0, q52.2))) else (if (v6 &&& 63) = 11 then (Option.bind (si_xs L xs (x4 + 1)) fun v53 => Option.bind (f_X9_fewestMasses F v53 S) fun q54 => Option.bind (si_xs L xs (x4 + 1)) fun v55 => Option.bind (f_X10_fewestMasses F v55 q54.2) fun q56 => if q54.1 = q56.1 then (f_L_law_h1840 F L xs r23 x4 q56.2) else (some (0, q56.2))) else (if (v6 &&& 63) = 12 then (Option.bind (si_xs L xs (x4 + 1)) fun v57 => Option.bind (f_X9_closestLoad F v57 S) fun q58 => Option.bind (si_xs L xs (x4 + 1)) fun v59 => Option.bind (f_X10_closestLoad F v59 q58.2) fun q60 => if q58.1 = q60.1 then (f_L_law_h1840 F L xs r23 x4 q60.2) else (some (0, q60.2))) else (if (v6 &&& 63) = 13 then (Option.bind (si_xs L xs (x4 + 1)) fun v61 => Option.bind (f_X9_twoPans F v61 S) fun q62 => Option.bind (si_xs L xs (x4 + 1)) fun v63 => Option.bind (f_X10_twoPans F v63 q62.2) fun q64 => if q62.1 = q64.1 then (f_L_law_h1840 F L xs r23 x4 q64.2) else (some (0, q64.2))) else (if (v6 &&& 63) = 14 then (Option.bind (si_xs L xs (x4 + 1)) fun v65 => Option.bind (si_xs L xs (x4 + 2)) fun v66 => Option.bind (f_X9_startVisit F v65 v66 S) fun q67 => Option.bind (si_xs L xs (x4 + 1)) fun v68 => Option.bind (si_xs L xs (x4 + 2)) fun v69 => Option.bind (f_X10_startVisit F v68 v69 q67.2) fun q70 => if q67.1 = q70.1 then (f_L_law_h1840 F L xs r23 x4 q70.2) else (some (0, q70.2))) else (if (v6 &&& 63) = 15 then (Option.bind (f_X9_visitCount F S) fun q71 => Option.bind (f_X10_visitCount F q71.2) fun q72 => if q71.1 = q72.1 then (f_L_law_h1840 F L xs r23 x4 q72.2) else (some (0, q72.2))) else (if (v6 &&& 63) = 16 then (Option.bind (si_xs L xs (x4 + 1)) fun v73 => Option.bind (f_X9_visitScale F v73 S) fun q74 => Option.bind (si_xs L xs (x4 + 1)) fun v75 => Option.bind (f_X10_visitScale F v75 q74.2) fun q76 => if q74.1 = q76.1 then (f_L_law_h1840 F L xs r23 x4 q76.2) else (some (0, q76.2))) else (if (v6 &&& 63) = 17 then (Option.bind (si_xs L xs (x4 + 1)) fun v77 => Option.bind (f_X9_isInService F v77 S) fun q78 => Option.bind (si_xs L xs (x4 + 1)) fun v79 => Option.bind (f_X10_isInService F v79 q78.2) fun q80 => if q78.1 = q80.1 then (f_L_law_h1840 F L xs r23 x4 q80.2) else (some (0, q80.2))) else (if (v6 &&& 63) = 18 then (Option.bind (si_xs L xs (x4 + 1)) fun v81 => Option.bind (si_xs L xs (x4 + 2)) fun v82 => Option.bind (si_xs L xs (x4 + 3)) fun v83 => Option.bind (f_X9_record F v81 v82 v83 S) fun q84 => Option.bind (si_xs L xs (x4 + 1)) fun v85 => Option.bind (si_xs L xs (x4 + 2)) fun v86 => Option.bind (si_xs L xs (x4 + 3)) fun v87 => Option.bind (f_X10_record F v85 v86 v87 q84.2) fun q88 => if q84.1 = q88.1 then (f_L_law_h1840 F L xs r23 x4 q88.2) else (some (0, q88.2))) else (if (v6 &&& 63) = 19 then (Option.bind (si_xs L xs (x4 + 1)) fun v89 => Option.bind (f_X9_testCount F v89 S) fun q90 => Option.bind (si_xs L xs (x4 + 1)) fun v91 => Option.bind (f_X10_testCount F v91 q90.2) fun q92 => if q90.1 = q92.1 then (f_L_law_h1840 F L xs r23 x4 q92.2) else (some (0, q92.2))) else (if (v6 &&& 63) = 20 then (Option.bind (si_xs L xs (x4 + 1)) fun v93 => Option.bind (si_xs L xs (x4 + 2)) fun v94 => Option.bind (f_L_testLoad F v93 v94 S) fun q95 => Option.bind (si_xs L xs (x4 + 1)) fun v96 => Option.bind (si_xs L xs (x4 + 2)) fun v97 => Option.bind (f_X10_testLoad F v96 v97 q95.2) fun q98 => Option.bind (f_X10_thrown F q98.2) fun q99 => if q99.1 = q95.1 then (if q95.1 = 0 then (Option.bind (si_rl q99.2 113 0) fun v100 => if (lg_cmp v100 (Int32.toInt64 q98.1)) = 0 then (f_L_law_h876 F L xs r23 x4 q99.2) else (some (0, q99.2))) else (f_L_law_h876 F L xs r23 x4 q99.2)) else (some (0, q99.2))) else (if (v6 &&& 63) = 21 then (Option.bind (si_xs L xs (x4 + 1)) fun v101 => Option.bind (si_xs L xs (x4 + 2)) fun v102 => Option.bind (f_L_testError F v101 v102 S) fun q103 => Option.bind (si_xs L xs (x4 + 1)) fun v104 => Option.bind (si_xs L xs (x4 + 2)) fun v105 => Option.bind (f_X10_testError F v104 v105 q103.2) fun q106 => Option.bind (f_X10_thrown F q106.2) fun q107 => if q107.1 = q103.1 then (if q103.1 = 0 then (Option.bind (si_rl q107.2 113 0) fun v108 => if (lg_cmp v108 (Int32.toInt64 q106.1)) = 0 then (f_L_law_h944 F L xs r23 x4 q107.2) else (some (0, q107.2))) else (f_L_law_h944 F L xs r23 x4 q107.2)) else (some (0, q107.2))) else (if (v6 &&& 63) = 22 then (Option.bind (si_xs L xs (x4 + 1)) fun v109 => Option.bind (si_xs L xs (x4 + 2)) fun v110 => Option.bind (f_L_testPasses F v109 v110 S) fun q111 => Option.bind (si_xs L xs (x4 + 1)) fun v112 => Option.bind (si_xs L xs (x4 + 2)) fun v113 => Option.bind (f_X10_testPasses F v112 v113 q111.2) fun q114 => Option.bind (f_X10_thrown F q114.2) fun q115 => if q115.1 = q111.1 then (if q111.1 = 0 then (Option.bind (si_rl q115.2 113 0) fun v116 => if q114.1 = 0 then (f_L_law_h1013 F L xs r23 x4 (0 : Int64) v116 q115.2) else (f_L_law_h1013 F L xs r23 x4 (1 : Int64) v116 q115.2)) else (f_L_law_h1019 F L xs r23 x4 q115.2)) else (some (0, q115.2))) else (if (v6 &&& 63) = 23 then (Option.bind (si_xs L xs (x4 + 1)) fun v117 => Option.bind (f_X9_verdict F v117 S) fun q118 => Option.bind (si_xs L xs (x4 + 1)) fun v119 => Option.bind (f_X10_verdict F v119 q118.2) fun q120 => if q118.1 = q120.1 then (f_L_law_h1840 F L xs r23 x4 q120.2) else (some (0, q120.2))) else (if (v6 &&& 63) = 24 then (Option.bind (si_xs L xs (x4 + 1)) fun v121 => Option.bind (f_L_adjustment F v121 S) fun q122 => Option.bind (si_xs L xs (x4 + 1)) fun v123 => Option.bind (f_X10_adjustment F v123 q122.2) fun q124 => Option.bind (f_X10_thrown F q124.2) fun q125 => if q125.1 = q122.1 then (if q122.1 = 0 then (Option.bind (si_rl q125.2 113 0) fun v126 => if (lg_cmp v126 (Int32.toInt64 q124.1)) = 0 then (f_L_law_h1100 F L xs r23 x4 q125.2) else (some (0, q125.2))) else (f_L_law_h1100 F L xs r23 x4 q125.2)) else (some (0, q125.2))) else (if (v6 &&& 63) = 25 then (Option.bind (si_xs L xs (x4 + 1)) fun v127 => Option.bind (f_X9_adjustedVerdict F v127 S) fun q128 => Option.bind (si_xs L xs (x4 + 1)) fun v129 => Option.bind (f_X10_adjustedVerdict F v129 q128.2) fun q130 => if q128.1 = q130.1 then (f_L_law_h1840 F L xs r23 x4 q130.2) else (some (0, q130.2))) else (if (v6 &&& 63) = 26 then (Option.bind (si_xs L xs (x4 + 1)) fun v131 => Option.bind (f_X9_closeVisit F v131 S) fun q132 => Option.bind (si_xs L xs (x4 + 1)) fun v133 => Option.bind (f_X10_closeVisit F v133 q132.2) fun q134 => if q132.1 = q134.1 then (f_L_law_h1840 F L xs r23 x4 q134.2) else (some (0, q134.2))) else (if (v6 &&& 63) = 27 then (Option.bind (si_xs L xs (x4 + 1)) fun v135 => Option.bind (f_X9_isClosed F v135 S) fun q136 => Option.bind (si_xs L xs (x4 + 1)) fun v137 => Option.bind (f_X10_isClosed F v137 q136.2) fun q138 => if q136.1 = q138.1 then (f_L_law_h1840 F L xs r23 x4 q138.2) else (some (0, q138.2))) else (if (v6 &&& 63) = 28 then (Option.bind (si_xs L xs (x4 + 1)) fun v139 => Option.bind (si_xs L xs (x4 + 2)) fun v140 => Option.bind (f_X9_sealState F v139 v140 S) fun q141 => Option.bind (si_xs L xs (x4 + 1)) fun v142 => Option.bind (si_xs L xs (x4 + 2)) fun v143 => Option.bind (f_X10_sealState F v142 v143 q141.2) fun q144 => if q141.1 = q144.1 then (f_L_law_h1840 F L xs r23 x4 q144.2) else (some (0, q144.2))) else (if (v6 &&& 63) = 29 then (Option.bind (si_xs L xs (x4 + 1)) fun v145 => Option.bind (si_xs L xs (x4 + 2)) fun v146 => Option.bind (f_X9_expiryDay F v145 v146 S) fun q147 => Option.bind (si_xs L xs (x4 + 1)) fun v148 => Option.bind (si_xs L xs (x4 + 2)) fun v149 => Option.bind (f_X10_expiryDay F v148 v149 q147.2) fun q150 => if q147.1 = q150.1 then (f_L_law_h1840 F L xs r23 x4 q150.2) else (some (0, q150.2))) else (if (v6 &&& 63) = 30 then (Option.bind (si_xs L xs (x4 + 1)) fun v151 => Option.bind (si_xs L xs (x4 + 2)) fun v152 => Option.bind (f_X9_scalesWith F v151 v152 S) fun q153 => Option.bind (si_xs L xs (x4 + 1)) fun v154 => Option.bind (si_xs L xs (x4 + 2)) fun v155 => Option.bind (f_X10_scalesWith F v154 v155 q153.2) fun q156 => if q153.1 = q156.1 then (f_L_law_h1840 F L xs r23 x4 q156.2) else (some (0, q156.2))) else (if (v6 &&& 63) = 31 then (Option.bind (si_xs L xs (x4 + 1)) fun v157 => Option.bind (si_xs L xs (x4 + 2)) fun v158 => Option.bind (f_X9_risk F v157 v158 S) fun q159 => Option.bind (si_xs L xs (x4 + 1)) fun v160 => Option.bind (si_xs L xs (x4 + 2)) fun v161 => Option.bind (f_X10_risk F v160 v161 q159.2) fun q162 => if q159.1 = q162.1 then (f_L_law_h1840 F L xs r23 x4 q162.2) else (some (0, q162.2))) else (if (v6 &&& 63) = 32 then (Option.bind (si_xs L xs (x4 + 1)) fun v163 => Option.bind (f_X9_riskiestTrader F v163 S) fun q164 => Option.bind (si_xs L xs (x4 + 1)) fun v165 => Option.bind (f_X10_riskiestTrader F v165 q164.2) fun q166 => if q164.1 = q166.1 then (f_L_law_h1840 F L xs r23 x4 q166.2) else (some (0, q166.2))) else (if (v6 &&& 63) = 33 then (Option.bind (si_xs L xs (x4 + 1)) fun v167 => Option.bind (si_xs L xs (x4 + 2)) fun v168 => Option.bind (si_xs L xs (x4 + 3)) fun v169 => Option.bind (f_X9_lot F v167 v168 v169 S) fun q170 => Option.bind (si_xs L xs (x4 + 1)) fun v171 => Option.bind (si_xs L xs (x4 + 2)) fun v172 => Option.bind (si_xs L xs (x4 + 3)) fun v173 => Option.bind (f_X10_lot F v171 v172 v173 q170.2) fun q174 => if q170.1 = q174.1 then (f_L_law_h1840 F L xs r23 x4 q174.2) else (some (0, q174.2))) else (if (v6 &&& 63) = 34 then (Option.bind (si_xs L xs (x4 + 1)) fun v175 => Option.bind (f_X9_weightCount F v175 S) fun q176 => Option.bind (si_xs L xs (x4 + 1)) fun v177 => Option.bind (f_X10_weightCount F v177 q176.2) fun q178 => if q176.1 = q178.1 then (f_L_law_h1840 F L xs r23 x4 q178.2) else (some (0, q178.2))) else (if (v6 &&& 63) = 35 then (Option.bind (si_xs L xs (x4 + 1)) fun v179 => Option.bind (si_xs L xs (x4 + 2)) fun v180 => Option.bind (si_xs L xs (x4 + 3)) fun v181 => Option.bind (si_xs L xs (x4 + 4)) fun v182 => Option.bind (f_X9_weigh F v179 v180 v181 v182 S) fun q183 => Option.bind (si_xs L xs (x4 + 1)) fun v184 => Option.bind (si_xs L xs (x4 + 2)) fun v185 => Option.bind (si_xs L xs (x4 + 3)) fun v186 => Option.bind (si_xs L xs (x4 + 4)) fun v187 => Option.bind (f_X10_weigh F v184 v185 v186 v187 q183.2) fun q188 => if q183.1 = q188.1 then (f_L_law_h1840 F L xs r23 x4 q188.2) else (some (0, q188.2))) else (if (v6 &&& 63) = 36 then (Option.bind (si_xs L xs (x4 + 1)) fun v189 => Option.bind (f_X9_weighingCount F v189 S) fun q190 => Option.bind (si_xs L xs (x4 + 1)) fun v191 => Option.bind (f_X10_weighingCount F v191 q190.2) fun q192 => if q190.1 = q192.1 then (f_L_law_h1840 F L xs r23 x4 q192.2) else (some (0, q192.2))) else (if (v6 &&& 63) = 37 then (Option.bind (si_xs L xs (x4 + 1)) fun v193 => Option.bind (f_X9_hypothesisCount F v193 S) fun q194 => Option.bind (si_xs L xs (x4 + 1)) fun v195 => Option.bind (f_X10_hypothesisCount F v195 q194.2) fun q196 => if q194.1 = q196.1 then (f_L_law_h1840 F L xs r23 x4 q196.2) else (some (0, q196.2))) else (if (v6 &&& 63) = 38 then (Option.bind (si_xs L xs (x4 + 1)) fun v197 => Option.bind (f_X9_heavySuspects F v197 S) fun q198 => Option.bind (si_xs L xs (x4 + 1)) fun v199 => Option.bind (f_X10_heavySuspects F v199 q198.2) fun q200 => if q198.1 = q200.1 then (f_L_law_h1840 F L xs r23 x4 q200.2) else (some (0, q200.2))) else (if (v6 &&& 63) = 39 then (Option.bind (si_xs L xs (x4 + 1)) fun v201 => Option.bind (f_X9_lightSuspects F v201 S) fun q202 => Option.bind (si_xs L xs (x4 + 1)) fun v203 => Option.bind (f_X10_lightSuspects F v203 q202.2) fun q204 => if q202.1 = q204.1 then (f_L_law_h1840 F L xs r23 x4 q204.2) else (some (0, q204.2))) else (if (v6 &&& 63) = 40 then (Option.bind (si_xs L xs (x4 + 1)) fun v205 => Option.bind (f_X9_canBeGenuine F v205 S) fun q206 => Option.bind (si_xs L xs (x4 + 1)) fun v207 => Option.bind (f_X10_canBeGenuine F v207 q206.2) fun q208 => if q206.1 = q208.1 then (f_L_law_h1840 F L xs r23 x4 q208.2) else (some (0, q208.2))) else (if (v6 &&& 63) = 41 then (Option.bind (si_xs L xs (x4 + 1)) fun v209 => Option.bind (f_X9_finding F v209 S) fun q210 => Option.bind (si_xs L xs (x4 + 1)) fun v211 => Option.bind (f_X10_finding F v211 q210.2) fun q212 => if q210.1 = q212.1 then (f_L_law_h1840 F L xs r23 x4 q212.2) else (some (0, q212.2))) else (if (v6 &&& 63) = 42 then (Option.bind (si_xs L xs (x4 + 1)) fun v213 => Option.bind (f_X9_weighingsNeeded F v213 S) fun q214 => Option.bind (si_xs L xs (x4 + 1)) fun v215 => Option.bind (f_X10_weighingsNeeded F v215 q214.2) fun q216 => if q214.1 = q216.1 then (f_L_law_h1840 F L xs r23 x4 q216.2) else (some (0, q216.2))) else (if (v6 &&& 63) = 43 then (Option.bind (si_xs L xs (x4 + 1)) fun v217 => Option.bind (f_X9_bestLeft F v217 S) fun q218 => Option.bind (si_xs L xs (x4 + 1)) fun v219 => Option.bind (f_X10_bestLeft F v219 q218.2) fun q220 => if q218.1 = q220.1 then (f_L_law_h1840 F L xs r23 x4 q220.2) else (some (0, q220.2))) else (if (v6 &&& 63) = 44 then (Option.bind (si_xs L xs (x4 + 1)) fun v221 => Option.bind (f_X9_bestRight F v221 S) fun q222 => Option.bind (si_xs L xs (x4 + 1)) fun v223 => Option.bind (f_X10_bestRight F v223 q222.2) fun q224 => if q222.1 = q224.1 then (f_L_law_h1840 F L xs r23 x4 q224.2) else (some (0, q224.2))) else (if (v6 &&& 63) = 45 then (Option.bind (si_xs L xs (x4 + 1)) fun v225 => Option.bind (si_xs L xs (x4 + 2)) fun v226 => if v226 = 0 then (f_L_law_h1732 F L xs r23 x4 0 v225 S) else (f_L_law_h1732 F L xs r23 x4 1 v225 S)) else (if (v6 &&& 63) = 46 then (Option.bind (f_X9_undo F S) fun q227 => Option.bind (f_X10_undo F q227.2) fun q228 => if q227.1 = q228.1 then (f_L_law_h1840 F L xs r23 x4 q228.2) else (some (0, q228.2))) else (if (v6 &&& 63) = 47 then (Option.bind (f_X9_undoDepth F S) fun q229 => Option.bind (f_X10_undoDepth F q229.2) fun q230 => if q229.1 = q230.1 then (f_L_law_h1840 F L xs r23 x4 q230.2) else (some (0, q230.2))) else (if (v6 &&& 63) = 48 then (Option.bind (si_xs L xs (x4 + 1)) fun v231 => Option.bind (f_X9_saveSnapshot F v231 S) fun q232 => Option.bind (si_xs L xs (x4 + 1)) fun v233 => Option.bind (f_X10_saveSnapshot F v233 q232.2) fun q234 => if q232.1 = q234.1 then (f_L_law_h1840 F L xs r23 x4 q234.2) else (some (0, q234.2))) else (if (v6 &&& 63) = 49 then (Option.bind (si_xs L xs (x4 + 1)) fun v235 => Option.bind (f_X9_restoreSnapshot F v235 S) fun q236 => Option.bind (si_xs L xs (x4 + 1)) fun v237 => Option.bind (f_X10_restoreSnapshot F v237 q236.2) fun q238 => if q236.1 = q238.1 then (f_L_law_h1840 F L xs r23 x4 q238.2) else (some (0, q238.2))) else (f_L_law_h1840 F L xs r23 x4 S)))))))))))))))))))))))))))))))))))))))))))))))))))
def f_L_law_l23 (F : Nat) (L : Nat) (xs : Nat → Int32) : Nat → Int32 → si_St → Option (Int32 × si_St)
 | 0 => fun _ _ => none
 | n + 1 => fun x4 S => f_L_law_h23 F L xs (f_L_law_l23 F L xs n) x4 S
set_option maxHeartbeats 40000000 in
set_option maxRecDepth 100000 in
theorem law_walk {p : Program} {l : Launch} {e : Env} {s : State} {m : MethodId} {args : Array Value} {below : List Frame} {meth : Method} {c : Code} {E : si_Ev} {A : Nat → Prop} {b L : Nat} {xs : Nat → Int32} {Q : State → Prop} (hl0 : l.stackTraces = false) (X : si_Cx p s m args c cL_law 7 RL E A) (hA : ∀ q, s.heap.size ≤ q → A q) (hX : va_X b L xs s s.heap) (hbl : b < s.heap.size) (hbA : ¬ A b) (F : Nat) (o : Int32 × si_St) (hret : ∀ (r0 : Int32) (S0 : si_St) (H : Heap) (locs : List Loc) (cs ss pc : Nat) (ls : Array Slot), some (r0, S0) = some o → si_Ws E A s.heap S0 H locs → cs ≤ 1145 → ss ≤ 28780 → decode cL_law pc = .ok (.ireturn, 1) → W p l e room_1 s m args below meth c H locs cs ss Q (F0 m pc ls [.int r0])) : ∀ (n23 : Nat) (x4 : Int32) (S : si_St) (H : Heap) (locs : List Loc) (ls : Array Slot) (cs ss : Nat) (hcn : cs + n23 ≤ 1100) (hsn : ss + 6 * n23 ≤ 28000), f_L_law_l23 F L xs n23 x4 S = some o → si_Ws E A s.heap S H locs → lv_has ls 7 [(0, .ref b), (1, .ref (E.2.1 0)), (2, .ref (E.2.1 87)), (3, .ref (E.2.1 113)), (4, .int x4)] → W p l e room_1 s m args below meth c H locs cs ss Q (F0 m 23 ls []) := by
  have B23 : ∀ (n23 : Nat) (x4 : Int32) (S : si_St) (H : Heap) (locs : List Loc) (ls : Array Slot) (cs ss : Nat) (hcn : cs + n23 ≤ 1100) (hsn : ss + 6 * n23 ≤ 28000), f_L_law_l23 F L xs n23 x4 S = some o → si_Ws E A s.heap S H locs → lv_has ls 7 [(0, .ref b), (1, .ref (E.2.1 0)), (2, .ref (E.2.1 87)), (3, .ref (E.2.1 113)), (4, .int x4)] → W p l e room_1 s m args below meth c H locs cs ss Q (F0 m 23 ls []) := by
    intro n23
    induction n23 with
    | zero => intro x4  S H locs ls cs ss hcn hsn hf; cases hf
    | succ n23 ih23 =>
      have B1840 : ∀ (x4 : Int32) (S : si_St) (H : Heap) (locs : List Loc) (ls : Array Slot) (cs ss : Nat) (hcn : cs + n23 ≤ 1100) (hsn : ss + 6 * n23 ≤ 28000), f_L_law_h1840 F L xs (f_L_law_l23 F L xs n23) x4 S = some o → si_Ws E A s.heap S H locs → lv_has ls 7 [(0, .ref b), (1, .ref (E.2.1 0)), (2, .ref (E.2.1 87)), (3, .ref (E.2.1 113)), (4, .int x4)] → W p l e room_1 s m args below meth c H locs cs ss Q (F0 m 1840 ls []) := by
        intro x4  S H locs ls cs ss hcn hsn hf hw hl
        have hcs0 : cs ≤ room_1.cells ∧ ss ≤ room_1.slots := ⟨by show cs ≤ 1145; omega, by show ss ≤ 28780; omega⟩
        unfold f_L_law_h1840 at hf
        obtain ⟨v1, ev1, hf⟩ := si_ob hf
        refine lv_iinc (v := v1) (lv' := [(4, .int v1), (0, .ref b), (1, .ref (E.2.1 0)), (2, .ref (E.2.1 87)), (3, .ref (E.2.1 113))]) X.1 X.2.1 dL_law_1840 hl (k := 4) rfl (Option.some.inj ev1) (by decide) rfl (fun ls hl => ?_)
        refine lv_goto (tgt := 23) X.1 X.2.1 dL_law_1843 (by decide) ?_
        exact ih23 _ _ _ _ _ cs ss hcn hsn hf hw (lv_sub hl [1, 2, 3, 4, 0] rfl)
      have B534 : ∀ (x4 : Int32) (S : si_St) (H : Heap) (locs : List Loc) (ls : Array Slot) (cs ss : Nat) (hcn : cs + n23 ≤ 1100) (hsn : ss + 6 * n23 ≤ 28000), f_L_law_h534 F L xs (f_L_law_l23 F L xs n23) x4 S = some o → si_Ws E A s.heap S H locs → lv_has ls 7 [(0, .ref b), (1, .ref (E.2.1 0)), (2, .ref (E.2.1 87)), (3, .ref (E.2.1 113)), (4, .int x4)] → W p l e room_1 s m args below meth c H locs cs ss Q (F0 m 534 ls []) := by
        intro x4  S H locs ls cs ss hcn hsn hf hw hl
        have hcs0 : cs ≤ room_1.cells ∧ ss ≤ room_1.slots := ⟨by show cs ≤ 1145; omega, by show ss ≤ 28780; omega⟩
        unfold f_L_law_h534 at hf
        refine lv_goto (tgt := 1840) X.1 X.2.1 dL_law_534 (by decide) ?_
        exact B1840 _ _ _ _ _ cs ss hcn hsn hf hw (lv_sub hl [0, 1, 2, 3, 4] rfl)
      have B876 : ∀ (x4 : Int32) (S : si_St) (H : Heap) (locs : List Loc) (ls : Array Slot) (cs ss : Nat) (hcn : cs + n23 ≤ 1100) (hsn : ss + 6 * n23 ≤ 28000), f_L_law_h876 F L xs (f_L_law_l23 F L xs n23) x4 S = some o → si_Ws E A s.heap S H locs → lv_has ls 7 [(0, .ref b), (1, .ref (E.2.1 0)), (2, .ref (E.2.1 87)), (3, .ref (E.2.1 113)), (4, .int x4)] → W p l e room_1 s m args below meth c H locs cs ss Q (F0 m 876 ls []) := by
        intro x4  S H locs ls cs ss hcn hsn hf hw hl
        have hcs0 : cs ≤ room_1.cells ∧ ss ≤ room_1.slots := ⟨by show cs ≤ 1145; omega, by show ss ≤ 28780; omega⟩
        unfold f_L_law_h876 at hf
        refine lv_goto (tgt := 1840) X.1 X.2.1 dL_law_876 (by decide) ?_
        exact B1840 _ _ _ _ _ cs ss hcn hsn hf hw (lv_sub hl [0, 1, 2, 3, 4] rfl)
      have B944 : ∀ (x4 : Int32) (S : si_St) (H : Heap) (locs : List Loc) (ls : Array Slot) (cs ss : Nat) (hcn : cs + n23 ≤ 1100) (hsn : ss + 6 * n23 ≤ 28000), f_L_law_h944 F L xs (f_L_law_l23 F L xs n23) x4 S = some o → si_Ws E A s.heap S H locs → lv_has ls 7 [(0, .ref b), (1, .ref (E.2.1 0)), (2, .ref (E.2.1 87)), (3, .ref (E.2.1 113)), (4, .int x4)] → W p l e room_1 s m args below meth c H locs cs ss Q (F0 m 944 ls []) := by
        intro x4  S H locs ls cs ss hcn hsn hf hw hl
        have hcs0 : cs ≤ room_1.cells ∧ ss ≤ room_1.slots := ⟨by show cs ≤ 1145; omega, by show ss ≤ 28780; omega⟩
        unfold f_L_law_h944 at hf
        refine lv_goto (tgt := 1840) X.1 X.2.1 dL_law_944 (by decide) ?_
        exact B1840 _ _ _ _ _ cs ss hcn hsn hf hw (lv_sub hl [0, 1, 2, 3, 4] rfl)
      have B1019 : ∀ (x4 : Int32) (S : si_St) (H : Heap) (locs : List Loc) (ls : Array Slot) (cs ss : Nat) (hcn : cs + n23 ≤ 1100) (hsn : ss + 6 * n23 ≤ 28000), f_L_law_h1019 F L xs (f_L_law_l23 F L xs n23) x4 S = some o → si_Ws E A s.heap S H locs → lv_has ls 7 [(0, .ref b), (1, .ref (E.2.1 0)), (2, .ref (E.2.1 87)), (3, .ref (E.2.1 113)), (4, .int x4)] → W p l e room_1 s m args below meth c H locs cs ss Q (F0 m 1019 ls []) := by
        intro x4  S H locs ls cs ss hcn hsn hf hw hl
        have hcs0 : cs ≤ room_1.cells ∧ ss ≤ room_1.slots := ⟨by show cs ≤ 1145; omega, by show ss ≤ 28780; omega⟩
        unfold f_L_law_h1019 at hf
        refine lv_goto (tgt := 1840) X.1 X.2.1 dL_law_1019 (by decide) ?_
        exact B1840 _ _ _ _ _ cs ss hcn hsn hf hw (lv_sub hl [0, 1, 2, 3, 4] rfl)
      have B1013 : ∀ (x4 : Int32) (t0 : Int64) (t1 : Int64) (S : si_St) (H : Heap) (locs : List Loc) (ls : Array Slot) (cs ss : Nat) (hcn : cs + n23 ≤ 1100) (hsn : ss + 6 * n23 ≤ 28000), f_L_law_h1013 F L xs (f_L_law_l23 F L xs n23) x4 t0 t1 S = some o → si_Ws E A s.heap S H locs → lv_has ls 7 [(0, .ref b), (1, .ref (E.2.1 0)), (2, .ref (E.2.1 87)), (3, .ref (E.2.1 113)), (4, .int x4)] → W p l e room_1 s m args below meth c H locs cs ss Q (F0 m 1013 ls [.long t0, .long t1]) := by
        intro x4 t0 t1  S H locs ls cs ss hcn hsn hf hw hl
        have hcs0 : cs ≤ room_1.cells ∧ ss ≤ room_1.slots := ⟨by show cs ≤ 1145; omega, by show ss ≤ 28780; omega⟩
        unfold f_L_law_h1013 at hf
        refine W.lcmp X.1 X.2.1 dL_law_1013 ?_
        refine lv_if_eq (tgt := 1019) X.1 X.2.1 dL_law_1014 (by decide) (fun c1014 => ?_) (fun c1014 => ?_)
        · have hf := si_ip c1014 hf
          exact B1019 _ _ _ _ _ cs ss hcn hsn hf hw (lv_sub hl [0, 1, 2, 3, 4] rfl)
        · have hf := si_in c1014 hf
          refine lv_iconst (v := 0) X.1 X.2.1 dL_law_1017 (by decide) ?_
          exact hret _ _ _ _ _ _ _ _ hf hw (by omega) (by omega) dL_law_1018
      have B1100 : ∀ (x4 : Int32) (S : si_St) (H : Heap) (locs : List Loc) (ls : Array Slot) (cs ss : Nat) (hcn : cs + n23 ≤ 1100) (hsn : ss + 6 * n23 ≤ 28000), f_L_law_h1100 F L xs (f_L_law_l23 F L xs n23) x4 S = some o → si_Ws E A s.heap S H locs → lv_has ls 7 [(0, .ref b), (1, .ref (E.2.1 0)), (2, .ref (E.2.1 87)), (3, .ref (E.2.1 113)), (4, .int x4)] → W p l e room_1 s m args below meth c H locs cs ss Q (F0 m 1100 ls []) := by
        intro x4  S H locs ls cs ss hcn hsn hf hw hl
        have hcs0 : cs ≤ room_1.cells ∧ ss ≤ room_1.slots := ⟨by show cs ≤ 1145; omega, by show ss ≤ 28780; omega⟩
        unfold f_L_law_h1100 at hf
        refine lv_goto (tgt := 1840) X.1 X.2.1 dL_law_1100 (by decide) ?_
        exact B1840 _ _ _ _ _ cs ss hcn hsn hf hw (lv_sub hl [0, 1, 2, 3, 4] rfl)
      have B1756 : ∀ (x4 : Int32) (t0 : Int32) (t1 : Int32) (t3 : Int32) (S : si_St) (H : Heap) (locs : List Loc) (ls : Array Slot) (cs ss : Nat) (hcn : cs + n23 ≤ 1100) (hsn : ss + 6 * n23 ≤ 28000), f_L_law_h1756 F L xs (f_L_law_l23 F L xs n23) x4 t0 t1 t3 S = some o → si_Ws E A s.heap S H locs → lv_has ls 7 [(0, .ref b), (1, .ref (E.2.1 0)), (2, .ref (E.2.1 87)), (3, .ref (E.2.1 113)), (4, .int x4)] → W p l e room_1 s m args below meth c H locs cs ss Q (F0 m 1756 ls [.int t0, .int t1, .ref (E.2.1 87), .int t3]) := by
        intro x4 t0 t1 t3  S H locs ls cs ss hcn hsn hf hw hl
        have hcs0 : cs ≤ room_1.cells ∧ ss ≤ room_1.slots := ⟨by show cs ≤ 1145; omega, by show ss ≤ 28780; omega⟩
        unfold f_L_law_h1756 at hf
        obtain ⟨q2, eq2, hf⟩ := si_ob hf
        refine si_cVi [.int t1, .int t0] cal_X10_fewestWeighings gm_RL_227 X hw hA hl.1 (c_X10_fewestWeighings l E F t1 t0 S q2 eq2) si_cl10 rfl ⟨⟨rfl, rfl⟩, Nat.le_of_ble_eq_true rfl, Nat.le_of_ble_eq_true rfl⟩ rfl rfl (Nat.le_of_ble_eq_true rfl) hcs0 dL_law_1756 (fun H locs hw => ?_)
        refine lv_icmp_eq (tgt := 1840) X.1 X.2.1 dL_law_1759 (by decide) (fun c1759 => ?_) (fun c1759 => ?_)
        · have hf := si_ip c1759 hf
          exact B1840 _ _ _ _ _ cs ss hcn hsn hf hw (lv_sub hl [0, 1, 2, 3, 4] rfl)
        · have hf := si_in c1759 hf
          refine lv_iconst (v := 0) X.1 X.2.1 dL_law_1762 (by decide) ?_
          exact hret _ _ _ _ _ _ _ _ hf hw (by omega) (by omega) dL_law_1763
      have B1732 : ∀ (x4 : Int32) (t0 : Int32) (t1 : Int32) (S : si_St) (H : Heap) (locs : List Loc) (ls : Array Slot) (cs ss : Nat) (hcn : cs + n23 ≤ 1100) (hsn : ss + 6 * n23 ≤ 28000), f_L_law_h1732 F L xs (f_L_law_l23 F L xs n23) x4 t0 t1 S = some o → si_Ws E A s.heap S H locs → lv_has ls 7 [(0, .ref b), (1, .ref (E.2.1 0)), (2, .ref (E.2.1 87)), (3, .ref (E.2.1 113)), (4, .int x4)] → W p l e room_1 s m args below meth c H locs cs ss Q (F0 m 1732 ls [.int t0, .int t1, .ref (E.2.1 0)]) := by
        intro x4 t0 t1  S H locs ls cs ss hcn hsn hf hw hl
        have hcs0 : cs ≤ room_1.cells ∧ ss ≤ room_1.slots := ⟨by show cs ≤ 1145; omega, by show ss ≤ 28780; omega⟩
        unfold f_L_law_h1732 at hf
        obtain ⟨q3, eq3, hf⟩ := si_ob hf
        refine si_cVi [.int t1, .int t0] cal_X9_fewestWeighings gm_RL_223 X hw hA hl.1 (c_X9_fewestWeighings l E F t1 t0 S q3 eq3) si_cl9 rfl ⟨⟨rfl, rfl⟩, Nat.le_of_ble_eq_true rfl, Nat.le_of_ble_eq_true rfl⟩ rfl rfl (Nat.le_of_ble_eq_true rfl) hcs0 dL_law_1732 (fun H locs hw => ?_)
        refine lv_aload_n X.1 X.2.1 dL_law_1735 rfl (lv_at hl 2 rfl) ?_
        refine lv_aload_n X.1 X.2.1 dL_law_1736 rfl (lv_at hl 0 rfl) ?_
        refine lv_iload X.1 X.2.1 dL_law_1737 (lv_at hl 4 rfl) ?_
        refine lv_iconst (v := 1) X.1 X.2.1 dL_law_1739 (by decide) ?_
        refine lv_iadd X.1 X.2.1 dL_law_1740 ?_
        obtain ⟨v4, ev4, hf⟩ := si_ob hf
        refine si_sld X hX hbl hbA hw.2.2 ev4 dL_law_1741 ?_
        refine lv_aload_n X.1 X.2.1 dL_law_1742 rfl (lv_at hl 0 rfl) ?_
        refine lv_iload X.1 X.2.1 dL_law_1743 (lv_at hl 4 rfl) ?_
        refine lv_iconst (v := 2) X.1 X.2.1 dL_law_1745 (by decide) ?_
        refine lv_iadd X.1 X.2.1 dL_law_1746 ?_
        obtain ⟨v5, ev5, hf⟩ := si_ob hf
        refine si_sld X hX hbl hbA hw.2.2 ev5 dL_law_1747 ?_
        refine lv_if_eq (tgt := 1755) X.1 X.2.1 dL_law_1748 (by decide) (fun c1748 => ?_) (fun c1748 => ?_)
        · have hf := si_ip c1748 hf
          refine lv_iconst (v := 0) X.1 X.2.1 dL_law_1755 (by decide) ?_
          exact B1756 _ _ _ _ _ _ _ _ cs ss hcn hsn hf hw (lv_sub hl [0, 1, 2, 3, 4] rfl)
        · have hf := si_in c1748 hf
          refine lv_iconst (v := 1) X.1 X.2.1 dL_law_1751 (by decide) ?_
          refine lv_goto (tgt := 1756) X.1 X.2.1 dL_law_1752 (by decide) ?_
          exact B1756 _ _ _ _ _ _ _ _ cs ss hcn hsn hf hw (lv_sub hl [0, 1, 2, 3, 4] rfl)
      intro x4  S H locs ls cs ss hcn hsn hf hw hl
      have hcs0 : cs ≤ room_1.cells ∧ ss ≤ room_1.slots := ⟨by show cs ≤ 1145; omega, by show ss ≤ 28780; omega⟩
      have hcs1 : cs + 1 ≤ room_1.cells ∧ ss + 6 ≤ room_1.slots := ⟨by show cs + 1 ≤ 1145; omega, by show ss + 6 ≤ 28780; omega⟩
      have hf : f_L_law_h23 F L xs (f_L_law_l23 F L xs n23) x4 S = some o := hf
      unfold f_L_law_h23 at hf
      refine lv_iload X.1 X.2.1 dL_law_23 (lv_at hl 4 rfl) ?_
      refine lv_aload_n X.1 X.2.1 dL_law_25 rfl (lv_at hl 0 rfl) ?_
      refine va_slen X.1 X.2.1 hX hbl hbA hw.2.2 dL_law_26 ?_
      refine lv_bipush (v := 6) X.1 X.2.1 dL_law_27 (by decide) ?_
      refine lv_isub X.1 X.2.1 dL_law_29 ?_
      refine lv_icmp_gt (tgt := 1846) X.1 X.2.1 dL_law_30 (by decide) (fun c30 => ?_) (fun c30 => ?_)
      · have hf := si_ip c30 hf
        refine lv_iconst (v := 1) X.1 X.2.1 dL_law_1846 (by decide) ?_
        exact hret _ _ _ _ _ _ _ _ hf hw (by omega) (by omega) dL_law_1847
      · have hf := si_in c30 hf
        refine lv_aload_n X.1 X.2.1 dL_law_33 rfl (lv_at hl 0 rfl) ?_
        refine lv_iload X.1 X.2.1 dL_law_34 (lv_at hl 4 rfl) ?_
        obtain ⟨v6, ev6, hf⟩ := si_ob hf
        refine si_sld X hX hbl hbA hw.2.2 ev6 dL_law_36 ?_
        refine lv_bipush (v := 63) X.1 X.2.1 dL_law_37 (by decide) ?_
        refine lv_iand X.1 X.2.1 dL_law_39 ?_
        rcases Decidable.em ((v6 &&& 63) = 0) with c40_0 | c40_0
        · have hf := si_ip c40_0 hf
          refine lv_tableIn (tgt := 256) X.1 X.2.1 dL_law_40 (by rw [c40_0]; decide) (by rw [c40_0]; decide) (off := 216) (by rw [c40_0]; rfl) (by decide) ?_
          refine lv_aload_n X.1 X.2.1 dL_law_256 rfl (lv_at hl 1 rfl) ?_
          refine lv_aload_n X.1 X.2.1 dL_law_257 rfl (lv_at hl 0 rfl) ?_
          refine lv_iload X.1 X.2.1 dL_law_258 (lv_at hl 4 rfl) ?_
          refine lv_iconst (v := 1) X.1 X.2.1 dL_law_260 (by decide) ?_
          refine lv_iadd X.1 X.2.1 dL_law_261 ?_
          obtain ⟨v7, ev7, hf⟩ := si_ob hf
          refine si_sld X hX hbl hbA hw.2.2 ev7 dL_law_262 ?_
          refine lv_aload_n X.1 X.2.1 dL_law_263 rfl (lv_at hl 0 rfl) ?_
          refine lv_iload X.1 X.2.1 dL_law_264 (lv_at hl 4 rfl) ?_
          refine lv_iconst (v := 2) X.1 X.2.1 dL_law_266 (by decide) ?_
          refine lv_iadd X.1 X.2.1 dL_law_267 ?_
          obtain ⟨v8, ev8, hf⟩ := si_ob hf
          refine si_sld X hX hbl hbA hw.2.2 ev8 dL_law_268 ?_
          refine lv_aload_n X.1 X.2.1 dL_law_269 rfl (lv_at hl 0 rfl) ?_
          refine lv_iload X.1 X.2.1 dL_law_270 (lv_at hl 4 rfl) ?_
          refine lv_iconst (v := 3) X.1 X.2.1 dL_law_272 (by decide) ?_
          refine lv_iadd X.1 X.2.1 dL_law_273 ?_
          obtain ⟨v9, ev9, hf⟩ := si_ob hf
          refine si_sld X hX hbl hbA hw.2.2 ev9 dL_law_274 ?_
          refine lv_aload_n X.1 X.2.1 dL_law_275 rfl (lv_at hl 0 rfl) ?_
          refine lv_iload X.1 X.2.1 dL_law_276 (lv_at hl 4 rfl) ?_
          refine lv_iconst (v := 4) X.1 X.2.1 dL_law_278 (by decide) ?_
          refine lv_iadd X.1 X.2.1 dL_law_279 ?_
          obtain ⟨v10, ev10, hf⟩ := si_ob hf
          refine si_sld X hX hbl hbA hw.2.2 ev10 dL_law_280 ?_
          refine lv_aload_n X.1 X.2.1 dL_law_281 rfl (lv_at hl 0 rfl) ?_
          refine lv_iload X.1 X.2.1 dL_law_282 (lv_at hl 4 rfl) ?_
          refine lv_iconst (v := 5) X.1 X.2.1 dL_law_284 (by decide) ?_
          refine lv_iadd X.1 X.2.1 dL_law_285 ?_
          obtain ⟨v11, ev11, hf⟩ := si_ob hf
          refine si_sld X hX hbl hbA hw.2.2 ev11 dL_law_286 ?_
          obtain ⟨q12, eq12, hf⟩ := si_ob hf
          refine si_cVi [.int v7, .int v8, .int v9, .int v10, .int v11] cal_X9_append gm_RL_37 X hw hA hl.1 (c_X9_append l E F v7 v8 v9 v10 v11 S q12 eq12) si_cl9 rfl ⟨⟨rfl, rfl⟩, Nat.le_of_ble_eq_true rfl, Nat.le_of_ble_eq_true rfl⟩ rfl rfl (Nat.le_of_ble_eq_true rfl) hcs0 dL_law_287 (fun H locs hw => ?_)
          refine lv_aload_n X.1 X.2.1 dL_law_290 rfl (lv_at hl 2 rfl) ?_
          refine lv_aload_n X.1 X.2.1 dL_law_291 rfl (lv_at hl 0 rfl) ?_
          refine lv_iload X.1 X.2.1 dL_law_292 (lv_at hl 4 rfl) ?_
          refine lv_iconst (v := 1) X.1 X.2.1 dL_law_294 (by decide) ?_
          refine lv_iadd X.1 X.2.1 dL_law_295 ?_
          obtain ⟨v13, ev13, hf⟩ := si_ob hf
          refine si_sld X hX hbl hbA hw.2.2 ev13 dL_law_296 ?_
          refine lv_aload_n X.1 X.2.1 dL_law_297 rfl (lv_at hl 0 rfl) ?_
          refine lv_iload X.1 X.2.1 dL_law_298 (lv_at hl 4 rfl) ?_
          refine lv_iconst (v := 2) X.1 X.2.1 dL_law_300 (by decide) ?_
          refine lv_iadd X.1 X.2.1 dL_law_301 ?_
          obtain ⟨v14, ev14, hf⟩ := si_ob hf
          refine si_sld X hX hbl hbA hw.2.2 ev14 dL_law_302 ?_
          refine lv_aload_n X.1 X.2.1 dL_law_303 rfl (lv_at hl 0 rfl) ?_
          refine lv_iload X.1 X.2.1 dL_law_304 (lv_at hl 4 rfl) ?_
          refine lv_iconst (v := 3) X.1 X.2.1 dL_law_306 (by decide) ?_
          refine lv_iadd X.1 X.2.1 dL_law_307 ?_
          obtain ⟨v15, ev15, hf⟩ := si_ob hf
          refine si_sld X hX hbl hbA hw.2.2 ev15 dL_law_308 ?_
          refine lv_aload_n X.1 X.2.1 dL_law_309 rfl (lv_at hl 0 rfl) ?_
          refine lv_iload X.1 X.2.1 dL_law_310 (lv_at hl 4 rfl) ?_
          refine lv_iconst (v := 4) X.1 X.2.1 dL_law_312 (by decide) ?_
          refine lv_iadd X.1 X.2.1 dL_law_313 ?_
          obtain ⟨v16, ev16, hf⟩ := si_ob hf
          refine si_sld X hX hbl hbA hw.2.2 ev16 dL_law_314 ?_
          refine lv_aload_n X.1 X.2.1 dL_law_315 rfl (lv_at hl 0 rfl) ?_
          refine lv_iload X.1 X.2.1 dL_law_316 (lv_at hl 4 rfl) ?_
          refine lv_iconst (v := 5) X.1 X.2.1 dL_law_318 (by decide) ?_
          refine lv_iadd X.1 X.2.1 dL_law_319 ?_
          obtain ⟨v17, ev17, hf⟩ := si_ob hf
          refine si_sld X hX hbl hbA hw.2.2 ev17 dL_law_320 ?_
          obtain ⟨q18, eq18, hf⟩ := si_ob hf
          refine si_cVi [.int v13, .int v14, .int v15, .int v16, .int v17] cal_X10_append gm_RL_41 X hw hA hl.1 (c_X10_append l E F v13 v14 v15 v16 v17 q12.2 q18 eq18) si_cl10 rfl ⟨⟨rfl, rfl⟩, Nat.le_of_ble_eq_true rfl, Nat.le_of_ble_eq_true rfl⟩ rfl rfl (Nat.le_of_ble_eq_true rfl) hcs0 dL_law_321 (fun H locs hw => ?_)
          refine lv_icmp_eq (tgt := 1840) X.1 X.2.1 dL_law_324 (by decide) (fun c324 => ?_) (fun c324 => ?_)
          · have hf := si_ip c324 hf
            refine W.widen (k := cs + 1) (n := ss + 6) (by omega) (by omega) ?_
            exact B1840 _ _ _ _ _ (cs + 1) (ss + 6) (by omega) (by omega) hf hw (lv_sub hl [0, 1, 2, 3, 4] rfl)
          · have hf := si_in c324 hf
            refine lv_iconst (v := 0) X.1 X.2.1 dL_law_327 (by decide) ?_
            exact hret _ _ _ _ _ _ _ _ hf hw (by omega) (by omega) dL_law_328
        · have hf := si_in c40_0 hf
          rcases Decidable.em ((v6 &&& 63) = 1) with c40_1 | c40_1
          · have hf := si_ip c40_1 hf
            refine lv_tableIn (tgt := 329) X.1 X.2.1 dL_law_40 (by rw [c40_1]; decide) (by rw [c40_1]; decide) (off := 289) (by rw [c40_1]; rfl) (by decide) ?_
            refine lv_aload_n X.1 X.2.1 dL_law_329 rfl (lv_at hl 1 rfl) ?_
            refine lv_aload_n X.1 X.2.1 dL_law_330 rfl (lv_at hl 0 rfl) ?_
            refine lv_iload X.1 X.2.1 dL_law_331 (lv_at hl 4 rfl) ?_
            refine lv_iconst (v := 1) X.1 X.2.1 dL_law_333 (by decide) ?_
            refine lv_iadd X.1 X.2.1 dL_law_334 ?_
            obtain ⟨v19, ev19, hf⟩ := si_ob hf
            refine si_sld X hX hbl hbA hw.2.2 ev19 dL_law_335 ?_
            obtain ⟨q20, eq20, hf⟩ := si_ob hf
            refine si_cVi [.int v19] cal_X9_parse gm_RL_42 X hw hA hl.1 (c_X9_parse l E F v19 S q20 eq20) si_cl9 rfl ⟨⟨rfl, rfl⟩, Nat.le_of_ble_eq_true rfl, Nat.le_of_ble_eq_true rfl⟩ rfl rfl (Nat.le_of_ble_eq_true rfl) hcs0 dL_law_336 (fun H locs hw => ?_)
            refine lv_aload_n X.1 X.2.1 dL_law_339 rfl (lv_at hl 2 rfl) ?_
            refine lv_aload_n X.1 X.2.1 dL_law_340 rfl (lv_at hl 0 rfl) ?_
            refine lv_iload X.1 X.2.1 dL_law_341 (lv_at hl 4 rfl) ?_
            refine lv_iconst (v := 1) X.1 X.2.1 dL_law_343 (by decide) ?_
            refine lv_iadd X.1 X.2.1 dL_law_344 ?_
            obtain ⟨v21, ev21, hf⟩ := si_ob hf
            refine si_sld X hX hbl hbA hw.2.2 ev21 dL_law_345 ?_
            obtain ⟨q22, eq22, hf⟩ := si_ob hf
            refine si_cVi [.int v21] cal_X10_parse gm_RL_45 X hw hA hl.1 (c_X10_parse l E F v21 q20.2 q22 eq22) si_cl10 rfl ⟨⟨rfl, rfl⟩, Nat.le_of_ble_eq_true rfl, Nat.le_of_ble_eq_true rfl⟩ rfl rfl (Nat.le_of_ble_eq_true rfl) hcs0 dL_law_346 (fun H locs hw => ?_)
            refine lv_icmp_eq (tgt := 1840) X.1 X.2.1 dL_law_349 (by decide) (fun c349 => ?_) (fun c349 => ?_)
            · have hf := si_ip c349 hf
              refine W.widen (k := cs + 1) (n := ss + 6) (by omega) (by omega) ?_
              exact B1840 _ _ _ _ _ (cs + 1) (ss + 6) (by omega) (by omega) hf hw (lv_sub hl [0, 1, 2, 3, 4] rfl)
            · have hf := si_in c349 hf
              refine lv_iconst (v := 0) X.1 X.2.1 dL_law_352 (by decide) ?_
              exact hret _ _ _ _ _ _ _ _ hf hw (by omega) (by omega) dL_law_353
          · have hf := si_in c40_1 hf
            rcases Decidable.em ((v6 &&& 63) = 2) with c40_2 | c40_2
            · have hf := si_ip c40_2 hf
              refine lv_tableIn (tgt := 354) X.1 X.2.1 dL_law_40 (by rw [c40_2]; decide) (by rw [c40_2]; decide) (off := 314) (by rw [c40_2]; rfl) (by decide) ?_
              refine lv_aload_n X.1 X.2.1 dL_law_354 rfl (lv_at hl 1 rfl) ?_
              obtain ⟨q23, eq23, hf⟩ := si_ob hf
              refine si_cVi [] cal_X9_errorPosition gm_RL_46 X hw hA hl.1 (c_X9_errorPosition l E F S q23 eq23) si_cl9 rfl ⟨⟨rfl, rfl⟩, Nat.le_of_ble_eq_true rfl, Nat.le_of_ble_eq_true rfl⟩ rfl rfl (Nat.le_of_ble_eq_true rfl) hcs0 dL_law_355 (fun H locs hw => ?_)
              refine lv_aload_n X.1 X.2.1 dL_law_358 rfl (lv_at hl 2 rfl) ?_
              obtain ⟨q24, eq24, hf⟩ := si_ob hf
              refine si_cVi [] cal_X10_errorPosition gm_RL_50 X hw hA hl.1 (c_X10_errorPosition l E F q23.2 q24 eq24) si_cl10 rfl ⟨⟨rfl, rfl⟩, Nat.le_of_ble_eq_true rfl, Nat.le_of_ble_eq_true rfl⟩ rfl rfl (Nat.le_of_ble_eq_true rfl) hcs0 dL_law_359 (fun H locs hw => ?_)
              refine lv_icmp_eq (tgt := 1840) X.1 X.2.1 dL_law_362 (by decide) (fun c362 => ?_) (fun c362 => ?_)
              · have hf := si_ip c362 hf
                refine W.widen (k := cs + 1) (n := ss + 6) (by omega) (by omega) ?_
                exact B1840 _ _ _ _ _ (cs + 1) (ss + 6) (by omega) (by omega) hf hw (lv_sub hl [0, 1, 2, 3, 4] rfl)
              · have hf := si_in c362 hf
                refine lv_iconst (v := 0) X.1 X.2.1 dL_law_365 (by decide) ?_
                exact hret _ _ _ _ _ _ _ _ hf hw (by omega) (by omega) dL_law_366
            · have hf := si_in c40_2 hf
              rcases Decidable.em ((v6 &&& 63) = 3) with c40_3 | c40_3
              · have hf := si_ip c40_3 hf
                refine lv_tableIn (tgt := 367) X.1 X.2.1 dL_law_40 (by rw [c40_3]; decide) (by rw [c40_3]; decide) (off := 327) (by rw [c40_3]; rfl) (by decide) ?_
                refine lv_aload_n X.1 X.2.1 dL_law_367 rfl (lv_at hl 1 rfl) ?_
                obtain ⟨q25, eq25, hf⟩ := si_ob hf
                refine si_cVi [] cal_X9_traderCount gm_RL_51 X hw hA hl.1 (c_X9_traderCount l E F S q25 eq25) si_cl9 rfl ⟨⟨rfl, rfl⟩, Nat.le_of_ble_eq_true rfl, Nat.le_of_ble_eq_true rfl⟩ rfl rfl (Nat.le_of_ble_eq_true rfl) hcs0 dL_law_368 (fun H locs hw => ?_)
                refine lv_aload_n X.1 X.2.1 dL_law_371 rfl (lv_at hl 2 rfl) ?_
                obtain ⟨q26, eq26, hf⟩ := si_ob hf
                refine si_cVi [] cal_X10_traderCount gm_RL_54 X hw hA hl.1 (c_X10_traderCount l E F q25.2 q26 eq26) si_cl10 rfl ⟨⟨rfl, rfl⟩, Nat.le_of_ble_eq_true rfl, Nat.le_of_ble_eq_true rfl⟩ rfl rfl (Nat.le_of_ble_eq_true rfl) hcs0 dL_law_372 (fun H locs hw => ?_)
                refine lv_icmp_eq (tgt := 1840) X.1 X.2.1 dL_law_375 (by decide) (fun c375 => ?_) (fun c375 => ?_)
                · have hf := si_ip c375 hf
                  refine W.widen (k := cs + 1) (n := ss + 6) (by omega) (by omega) ?_
                  exact B1840 _ _ _ _ _ (cs + 1) (ss + 6) (by omega) (by omega) hf hw (lv_sub hl [0, 1, 2, 3, 4] rfl)
                · have hf := si_in c375 hf
                  refine lv_iconst (v := 0) X.1 X.2.1 dL_law_378 (by decide) ?_
                  exact hret _ _ _ _ _ _ _ _ hf hw (by omega) (by omega) dL_law_379
              · have hf := si_in c40_3 hf
                rcases Decidable.em ((v6 &&& 63) = 4) with c40_4 | c40_4
                · have hf := si_ip c40_4 hf
                  refine lv_tableIn (tgt := 380) X.1 X.2.1 dL_law_40 (by rw [c40_4]; decide) (by rw [c40_4]; decide) (off := 340) (by rw [c40_4]; rfl) (by decide) ?_
                  refine lv_aload_n X.1 X.2.1 dL_law_380 rfl (lv_at hl 1 rfl) ?_
                  obtain ⟨q27, eq27, hf⟩ := si_ob hf
                  refine si_cVi [] cal_X9_scaleCount gm_RL_55 X hw hA hl.1 (c_X9_scaleCount l E F S q27 eq27) si_cl9 rfl ⟨⟨rfl, rfl⟩, Nat.le_of_ble_eq_true rfl, Nat.le_of_ble_eq_true rfl⟩ rfl rfl (Nat.le_of_ble_eq_true rfl) hcs0 dL_law_381 (fun H locs hw => ?_)
                  refine lv_aload_n X.1 X.2.1 dL_law_384 rfl (lv_at hl 2 rfl) ?_
                  obtain ⟨q28, eq28, hf⟩ := si_ob hf
                  refine si_cVi [] cal_X10_scaleCount gm_RL_58 X hw hA hl.1 (c_X10_scaleCount l E F q27.2 q28 eq28) si_cl10 rfl ⟨⟨rfl, rfl⟩, Nat.le_of_ble_eq_true rfl, Nat.le_of_ble_eq_true rfl⟩ rfl rfl (Nat.le_of_ble_eq_true rfl) hcs0 dL_law_385 (fun H locs hw => ?_)
                  refine lv_icmp_eq (tgt := 1840) X.1 X.2.1 dL_law_388 (by decide) (fun c388 => ?_) (fun c388 => ?_)
                  · have hf := si_ip c388 hf
                    refine W.widen (k := cs + 1) (n := ss + 6) (by omega) (by omega) ?_
                    exact B1840 _ _ _ _ _ (cs + 1) (ss + 6) (by omega) (by omega) hf hw (lv_sub hl [0, 1, 2, 3, 4] rfl)
                  · have hf := si_in c388 hf
                    refine lv_iconst (v := 0) X.1 X.2.1 dL_law_391 (by decide) ?_
                    exact hret _ _ _ _ _ _ _ _ hf hw (by omega) (by omega) dL_law_392
                · have hf := si_in c40_4 hf
                  rcases Decidable.em ((v6 &&& 63) = 5) with c40_5 | c40_5
                  · have hf := si_ip c40_5 hf
                    refine lv_tableIn (tgt := 393) X.1 X.2.1 dL_law_40 (by rw [c40_5]; decide) (by rw [c40_5]; decide) (off := 353) (by rw [c40_5]; rfl) (by decide) ?_
                    refine lv_aload_n X.1 X.2.1 dL_law_393 rfl (lv_at hl 1 rfl) ?_
                    obtain ⟨q29, eq29, hf⟩ := si_ob hf
                    refine si_cVi [] cal_X9_massCount gm_RL_59 X hw hA hl.1 (c_X9_massCount l E F S q29 eq29) si_cl9 rfl ⟨⟨rfl, rfl⟩, Nat.le_of_ble_eq_true rfl, Nat.le_of_ble_eq_true rfl⟩ rfl rfl (Nat.le_of_ble_eq_true rfl) hcs0 dL_law_394 (fun H locs hw => ?_)
                    refine lv_aload_n X.1 X.2.1 dL_law_397 rfl (lv_at hl 2 rfl) ?_
                    obtain ⟨q30, eq30, hf⟩ := si_ob hf
                    refine si_cVi [] cal_X10_massCount gm_RL_62 X hw hA hl.1 (c_X10_massCount l E F q29.2 q30 eq30) si_cl10 rfl ⟨⟨rfl, rfl⟩, Nat.le_of_ble_eq_true rfl, Nat.le_of_ble_eq_true rfl⟩ rfl rfl (Nat.le_of_ble_eq_true rfl) hcs0 dL_law_398 (fun H locs hw => ?_)
                    refine lv_icmp_eq (tgt := 1840) X.1 X.2.1 dL_law_401 (by decide) (fun c401 => ?_) (fun c401 => ?_)
                    · have hf := si_ip c401 hf
                      refine W.widen (k := cs + 1) (n := ss + 6) (by omega) (by omega) ?_
                      exact B1840 _ _ _ _ _ (cs + 1) (ss + 6) (by omega) (by omega) hf hw (lv_sub hl [0, 1, 2, 3, 4] rfl)
                    · have hf := si_in c401 hf
                      refine lv_iconst (v := 0) X.1 X.2.1 dL_law_404 (by decide) ?_
                      exact hret _ _ _ _ _ _ _ _ hf hw (by omega) (by omega) dL_law_405
                  · have hf := si_in c40_5 hf
                    rcases Decidable.em ((v6 &&& 63) = 6) with c40_6 | c40_6
                    · have hf := si_ip c40_6 hf
                      refine lv_tableIn (tgt := 406) X.1 X.2.1 dL_law_40 (by rw [c40_6]; decide) (by rw [c40_6]; decide) (off := 366) (by rw [c40_6]; rfl) (by decide) ?_
                      refine lv_aload_n X.1 X.2.1 dL_law_406 rfl (lv_at hl 1 rfl) ?_
                      obtain ⟨q31, eq31, hf⟩ := si_ob hf
                      refine si_cVi [] cal_X9_setCount gm_RL_63 X hw hA hl.1 (c_X9_setCount l E F S q31 eq31) si_cl9 rfl ⟨⟨rfl, rfl⟩, Nat.le_of_ble_eq_true rfl, Nat.le_of_ble_eq_true rfl⟩ rfl rfl (Nat.le_of_ble_eq_true rfl) hcs0 dL_law_407 (fun H locs hw => ?_)
                      refine lv_aload_n X.1 X.2.1 dL_law_410 rfl (lv_at hl 2 rfl) ?_
                      obtain ⟨q32, eq32, hf⟩ := si_ob hf
                      refine si_cVi [] cal_X10_setCount gm_RL_66 X hw hA hl.1 (c_X10_setCount l E F q31.2 q32 eq32) si_cl10 rfl ⟨⟨rfl, rfl⟩, Nat.le_of_ble_eq_true rfl, Nat.le_of_ble_eq_true rfl⟩ rfl rfl (Nat.le_of_ble_eq_true rfl) hcs0 dL_law_411 (fun H locs hw => ?_)
                      refine lv_icmp_eq (tgt := 1840) X.1 X.2.1 dL_law_414 (by decide) (fun c414 => ?_) (fun c414 => ?_)
                      · have hf := si_ip c414 hf
                        refine W.widen (k := cs + 1) (n := ss + 6) (by omega) (by omega) ?_
                        exact B1840 _ _ _ _ _ (cs + 1) (ss + 6) (by omega) (by omega) hf hw (lv_sub hl [0, 1, 2, 3, 4] rfl)
                      · have hf := si_in c414 hf
                        refine lv_iconst (v := 0) X.1 X.2.1 dL_law_417 (by decide) ?_
                        exact hret _ _ _ _ _ _ _ _ hf hw (by omega) (by omega) dL_law_418
                    · have hf := si_in c40_6 hf
                      rcases Decidable.em ((v6 &&& 63) = 7) with c40_7 | c40_7
                      · have hf := si_ip c40_7 hf
                        refine lv_tableIn (tgt := 419) X.1 X.2.1 dL_law_40 (by rw [c40_7]; decide) (by rw [c40_7]; decide) (off := 379) (by rw [c40_7]; rfl) (by decide) ?_
                        refine lv_aload_n X.1 X.2.1 dL_law_419 rfl (lv_at hl 1 rfl) ?_
                        refine lv_aload_n X.1 X.2.1 dL_law_420 rfl (lv_at hl 0 rfl) ?_
                        refine lv_iload X.1 X.2.1 dL_law_421 (lv_at hl 4 rfl) ?_
                        refine lv_iconst (v := 1) X.1 X.2.1 dL_law_423 (by decide) ?_
                        refine lv_iadd X.1 X.2.1 dL_law_424 ?_
                        obtain ⟨v33, ev33, hf⟩ := si_ob hf
                        refine si_sld X hX hbl hbA hw.2.2 ev33 dL_law_425 ?_
                        obtain ⟨q34, eq34, hf⟩ := si_ob hf
                        refine si_cVi [.int v33] cal_X9_trader gm_RL_67 X hw hA hl.1 (c_X9_trader l E F v33 S q34 eq34) si_cl9 rfl ⟨⟨rfl, rfl⟩, Nat.le_of_ble_eq_true rfl, Nat.le_of_ble_eq_true rfl⟩ rfl rfl (Nat.le_of_ble_eq_true rfl) hcs0 dL_law_426 (fun H locs hw => ?_)
                        refine lv_aload_n X.1 X.2.1 dL_law_429 rfl (lv_at hl 2 rfl) ?_
                        refine lv_aload_n X.1 X.2.1 dL_law_430 rfl (lv_at hl 0 rfl) ?_
                        refine lv_iload X.1 X.2.1 dL_law_431 (lv_at hl 4 rfl) ?_
                        refine lv_iconst (v := 1) X.1 X.2.1 dL_law_433 (by decide) ?_
                        refine lv_iadd X.1 X.2.1 dL_law_434 ?_
                        obtain ⟨v35, ev35, hf⟩ := si_ob hf
                        refine si_sld X hX hbl hbA hw.2.2 ev35 dL_law_435 ?_
                        obtain ⟨q36, eq36, hf⟩ := si_ob hf
                        refine si_cVi [.int v35] cal_X10_trader gm_RL_70 X hw hA hl.1 (c_X10_trader l E F v35 q34.2 q36 eq36) si_cl10 rfl ⟨⟨rfl, rfl⟩, Nat.le_of_ble_eq_true rfl, Nat.le_of_ble_eq_true rfl⟩ rfl rfl (Nat.le_of_ble_eq_true rfl) hcs0 dL_law_436 (fun H locs hw => ?_)
                        refine lv_icmp_eq (tgt := 1840) X.1 X.2.1 dL_law_439 (by decide) (fun c439 => ?_) (fun c439 => ?_)
                        · have hf := si_ip c439 hf
                          refine W.widen (k := cs + 1) (n := ss + 6) (by omega) (by omega) ?_
                          exact B1840 _ _ _ _ _ (cs + 1) (ss + 6) (by omega) (by omega) hf hw (lv_sub hl [0, 1, 2, 3, 4] rfl)
                        · have hf := si_in c439 hf
                          refine lv_iconst (v := 0) X.1 X.2.1 dL_law_442 (by decide) ?_
                          exact hret _ _ _ _ _ _ _ _ hf hw (by omega) (by omega) dL_law_443
                      · have hf := si_in c40_7 hf
                        rcases Decidable.em ((v6 &&& 63) = 8) with c40_8 | c40_8
                        · have hf := si_ip c40_8 hf
                          refine lv_tableIn (tgt := 444) X.1 X.2.1 dL_law_40 (by rw [c40_8]; decide) (by rw [c40_8]; decide) (off := 404) (by rw [c40_8]; rfl) (by decide) ?_
                          refine lv_aload_n X.1 X.2.1 dL_law_444 rfl (lv_at hl 1 rfl) ?_
                          refine lv_aload_n X.1 X.2.1 dL_law_445 rfl (lv_at hl 0 rfl) ?_
                          refine lv_iload X.1 X.2.1 dL_law_446 (lv_at hl 4 rfl) ?_
                          refine lv_iconst (v := 1) X.1 X.2.1 dL_law_448 (by decide) ?_
                          refine lv_iadd X.1 X.2.1 dL_law_449 ?_
                          obtain ⟨v37, ev37, hf⟩ := si_ob hf
                          refine si_sld X hX hbl hbA hw.2.2 ev37 dL_law_450 ?_
                          obtain ⟨q38, eq38, hf⟩ := si_ob hf
                          refine si_cVi [.int v37] cal_X9_capacity gm_RL_71 X hw hA hl.1 (c_X9_capacity l E F v37 S q38 eq38) si_cl9 rfl ⟨⟨rfl, rfl⟩, Nat.le_of_ble_eq_true rfl, Nat.le_of_ble_eq_true rfl⟩ rfl rfl (Nat.le_of_ble_eq_true rfl) hcs0 dL_law_451 (fun H locs hw => ?_)
                          refine lv_aload_n X.1 X.2.1 dL_law_454 rfl (lv_at hl 2 rfl) ?_
                          refine lv_aload_n X.1 X.2.1 dL_law_455 rfl (lv_at hl 0 rfl) ?_
                          refine lv_iload X.1 X.2.1 dL_law_456 (lv_at hl 4 rfl) ?_
                          refine lv_iconst (v := 1) X.1 X.2.1 dL_law_458 (by decide) ?_
                          refine lv_iadd X.1 X.2.1 dL_law_459 ?_
                          obtain ⟨v39, ev39, hf⟩ := si_ob hf
                          refine si_sld X hX hbl hbA hw.2.2 ev39 dL_law_460 ?_
                          obtain ⟨q40, eq40, hf⟩ := si_ob hf
                          refine si_cVi [.int v39] cal_X10_capacity gm_RL_74 X hw hA hl.1 (c_X10_capacity l E F v39 q38.2 q40 eq40) si_cl10 rfl ⟨⟨rfl, rfl⟩, Nat.le_of_ble_eq_true rfl, Nat.le_of_ble_eq_true rfl⟩ rfl rfl (Nat.le_of_ble_eq_true rfl) hcs0 dL_law_461 (fun H locs hw => ?_)
                          refine lv_icmp_eq (tgt := 1840) X.1 X.2.1 dL_law_464 (by decide) (fun c464 => ?_) (fun c464 => ?_)
                          · have hf := si_ip c464 hf
                            refine W.widen (k := cs + 1) (n := ss + 6) (by omega) (by omega) ?_
                            exact B1840 _ _ _ _ _ (cs + 1) (ss + 6) (by omega) (by omega) hf hw (lv_sub hl [0, 1, 2, 3, 4] rfl)
                          · have hf := si_in c464 hf
                            refine lv_iconst (v := 0) X.1 X.2.1 dL_law_467 (by decide) ?_
                            exact hret _ _ _ _ _ _ _ _ hf hw (by omega) (by omega) dL_law_468
                        · have hf := si_in c40_8 hf
                          rcases Decidable.em ((v6 &&& 63) = 9) with c40_9 | c40_9
                          · have hf := si_ip c40_9 hf
                            refine lv_tableIn (tgt := 469) X.1 X.2.1 dL_law_40 (by rw [c40_9]; decide) (by rw [c40_9]; decide) (off := 429) (by rw [c40_9]; rfl) (by decide) ?_
                            refine lv_aload_n X.1 X.2.1 dL_law_469 rfl (lv_at hl 1 rfl) ?_
                            refine lv_aload_n X.1 X.2.1 dL_law_470 rfl (lv_at hl 0 rfl) ?_
                            refine lv_iload X.1 X.2.1 dL_law_471 (lv_at hl 4 rfl) ?_
                            refine lv_iconst (v := 1) X.1 X.2.1 dL_law_473 (by decide) ?_
                            refine lv_iadd X.1 X.2.1 dL_law_474 ?_
                            obtain ⟨v41, ev41, hf⟩ := si_ob hf
                            refine si_sld X hX hbl hbA hw.2.2 ev41 dL_law_475 ?_
                            refine lv_aload_n X.1 X.2.1 dL_law_476 rfl (lv_at hl 0 rfl) ?_
                            refine lv_iload X.1 X.2.1 dL_law_477 (lv_at hl 4 rfl) ?_
                            refine lv_iconst (v := 2) X.1 X.2.1 dL_law_479 (by decide) ?_
                            refine lv_iadd X.1 X.2.1 dL_law_480 ?_
                            obtain ⟨v42, ev42, hf⟩ := si_ob hf
                            refine si_sld X hX hbl hbA hw.2.2 ev42 dL_law_481 ?_
                            refine lv_aload_n X.1 X.2.1 dL_law_482 rfl (lv_at hl 3 rfl) ?_
                            obtain ⟨q43, eq43, hf⟩ := si_ob hf
                            refine si_cS1 (n := 4) [.ref (E.2.1 0), .int v41, .int v42, .ref (E.2.1 113)] gc_L_baseTolerance gi_RL (by decide +kernel) gs_L_baseTolerance gm_RL_75 X hw hA hl.1 (c_L_baseTolerance l hl0 E F v41 v42 S q43 eq43) ⟨⟨rfl, rfl⟩, Nat.le_of_ble_eq_true rfl, Nat.le_of_ble_eq_true rfl⟩ rfl rfl (Nat.le_of_ble_eq_true rfl) hcs1 dL_law_483 (fun H locs hw => ?_)
                            refine lv_istore (lv' := [(5, .int q43.1), (0, .ref b), (1, .ref (E.2.1 0)), (2, .ref (E.2.1 87)), (3, .ref (E.2.1 113)), (4, .int x4)]) X.1 X.2.1 dL_law_486 hl (by decide) rfl (fun ls hl => ?_)
                            refine lv_aload_n X.1 X.2.1 dL_law_488 rfl (lv_at hl 3 rfl) ?_
                            refine lv_aload_n X.1 X.2.1 dL_law_489 rfl (lv_at hl 1 rfl) ?_
                            refine lv_iload X.1 X.2.1 dL_law_490 (lv_at hl 5 rfl) ?_
                            refine lv_iconst (v := 1) X.1 X.2.1 dL_law_492 (by decide) ?_
                            refine lv_iadd X.1 X.2.1 dL_law_493 ?_
                            obtain ⟨v44, ev44, hf⟩ := si_ob hf
                            refine si_sld X hX hbl hbA hw.2.2 ev44 dL_law_494 ?_
                            refine lv_aload_n X.1 X.2.1 dL_law_495 rfl (lv_at hl 1 rfl) ?_
                            refine lv_iload X.1 X.2.1 dL_law_496 (lv_at hl 5 rfl) ?_
                            refine lv_iconst (v := 2) X.1 X.2.1 dL_law_498 (by decide) ?_
                            refine lv_iadd X.1 X.2.1 dL_law_499 ?_
                            obtain ⟨v45, ev45, hf⟩ := si_ob hf
                            refine si_sld X hX hbl hbA hw.2.2 ev45 dL_law_500 ?_
                            obtain ⟨q46, eq46, hf⟩ := si_ob hf
                            refine si_cVi [.int v44, .int v45] cal_X10_baseTolerance gm_RL_80 X hw hA hl.1 (c_X10_baseTolerance l E F v44 v45 q43.2 q46 eq46) si_cl10 rfl ⟨⟨rfl, rfl⟩, Nat.le_of_ble_eq_true rfl, Nat.le_of_ble_eq_true rfl⟩ rfl rfl (Nat.le_of_ble_eq_true rfl) hcs1 dL_law_501 (fun H locs hw => ?_)
                            refine lv_istore (lv' := [(6, .int q46.1), (5, .int q43.1), (0, .ref b), (1, .ref (E.2.1 0)), (2, .ref (E.2.1 87)), (3, .ref (E.2.1 113)), (4, .int x4)]) X.1 X.2.1 dL_law_504 hl (by decide) rfl (fun ls hl => ?_)
                            refine lv_aload_n X.1 X.2.1 dL_law_506 rfl (lv_at hl 4 rfl) ?_
                            obtain ⟨q47, eq47, hf⟩ := si_ob hf
                            refine si_cVi [] cal_X10_thrown gm_RL_81 X hw hA hl.1 (c_X10_thrown l E F q46.2 q47 eq47) si_cl10 rfl ⟨⟨rfl, rfl⟩, Nat.le_of_ble_eq_true rfl, Nat.le_of_ble_eq_true rfl⟩ rfl rfl (Nat.le_of_ble_eq_true rfl) hcs1 dL_law_507 (fun H locs hw => ?_)
                            refine lv_iload X.1 X.2.1 dL_law_510 (lv_at hl 1 rfl) ?_
                            refine lv_icmp_eq (tgt := 517) X.1 X.2.1 dL_law_512 (by decide) (fun c512 => ?_) (fun c512 => ?_)
                            · have hf := si_ip c512 hf
                              refine lv_iload X.1 X.2.1 dL_law_517 (lv_at hl 1 rfl) ?_
                              refine lv_if_ne (tgt := 534) X.1 X.2.1 dL_law_519 (by decide) (fun c519 => ?_) (fun c519 => ?_)
                              · have hf := si_in c519 hf
                                refine W.widen (k := cs + 1) (n := ss + 6) (by omega) (by omega) ?_
                                exact B534 _ _ _ _ _ (cs + 1) (ss + 6) (by omega) (by omega) hf hw (lv_sub hl [2, 3, 4, 5, 6] rfl)
                              · have hf := si_ip c519 hf
                                refine lv_aload_n X.1 X.2.1 dL_law_522 rfl (lv_at hl 5 rfl) ?_
                                refine lv_iconst (v := 0) X.1 X.2.1 dL_law_523 (by decide) ?_
                                obtain ⟨v48, ev48, hf⟩ := si_ob hf
                                refine si_lald X hw rfl ev48 dL_law_524 ?_
                                refine lv_iload X.1 X.2.1 dL_law_525 (lv_at hl 0 rfl) ?_
                                refine lv_i2l (v := (Int32.toInt64 q46.1)) X.1 X.2.1 dL_law_527 rfl ?_
                                refine W.lcmp X.1 X.2.1 dL_law_528 ?_
                                refine lv_if_eq (tgt := 534) X.1 X.2.1 dL_law_529 (by decide) (fun c529 => ?_) (fun c529 => ?_)
                                · have hf := si_ip c529 hf
                                  refine W.widen (k := cs + 1) (n := ss + 6) (by omega) (by omega) ?_
                                  exact B534 _ _ _ _ _ (cs + 1) (ss + 6) (by omega) (by omega) hf hw (lv_sub hl [2, 3, 4, 5, 6] rfl)
                                · have hf := si_in c529 hf
                                  refine lv_iconst (v := 0) X.1 X.2.1 dL_law_532 (by decide) ?_
                                  exact hret _ _ _ _ _ _ _ _ hf hw (by omega) (by omega) dL_law_533
                            · have hf := si_in c512 hf
                              refine lv_iconst (v := 0) X.1 X.2.1 dL_law_515 (by decide) ?_
                              exact hret _ _ _ _ _ _ _ _ hf hw (by omega) (by omega) dL_law_516
                          · have hf := si_in c40_9 hf
                            rcases Decidable.em ((v6 &&& 63) = 10) with c40_10 | c40_10
                            · have hf := si_ip c40_10 hf
                              refine lv_tableIn (tgt := 537) X.1 X.2.1 dL_law_40 (by rw [c40_10]; decide) (by rw [c40_10]; decide) (off := 497) (by rw [c40_10]; rfl) (by decide) ?_
                              refine lv_aload_n X.1 X.2.1 dL_law_537 rfl (lv_at hl 1 rfl) ?_
                              refine lv_aload_n X.1 X.2.1 dL_law_538 rfl (lv_at hl 0 rfl) ?_
                              refine lv_iload X.1 X.2.1 dL_law_539 (lv_at hl 4 rfl) ?_
                              refine lv_iconst (v := 1) X.1 X.2.1 dL_law_541 (by decide) ?_
                              refine lv_iadd X.1 X.2.1 dL_law_542 ?_
                              obtain ⟨v49, ev49, hf⟩ := si_ob hf
                              refine si_sld X hX hbl hbA hw.2.2 ev49 dL_law_543 ?_
                              obtain ⟨q50, eq50, hf⟩ := si_ob hf
                              refine si_cVi [.int v49] cal_X9_massValue gm_RL_84 X hw hA hl.1 (c_X9_massValue l E F v49 S q50 eq50) si_cl9 rfl ⟨⟨rfl, rfl⟩, Nat.le_of_ble_eq_true rfl, Nat.le_of_ble_eq_true rfl⟩ rfl rfl (Nat.le_of_ble_eq_true rfl) hcs0 dL_law_544 (fun H locs hw => ?_)
                              refine lv_aload_n X.1 X.2.1 dL_law_547 rfl (lv_at hl 2 rfl) ?_
                              refine lv_aload_n X.1 X.2.1 dL_law_548 rfl (lv_at hl 0 rfl) ?_
                              refine lv_iload X.1 X.2.1 dL_law_549 (lv_at hl 4 rfl) ?_
                              refine lv_iconst (v := 1) X.1 X.2.1 dL_law_551 (by decide) ?_
                              refine lv_iadd X.1 X.2.1 dL_law_552 ?_
                              obtain ⟨v51, ev51, hf⟩ := si_ob hf
                              refine si_sld X hX hbl hbA hw.2.2 ev51 dL_law_553 ?_
                              obtain ⟨q52, eq52, hf⟩ := si_ob hf
                              refine si_cVi [.int v51] cal_X10_massValue gm_RL_87 X hw hA hl.1 (c_X10_massValue l E F v51 q50.2 q52 eq52) si_cl10 rfl ⟨⟨rfl, rfl⟩, Nat.le_of_ble_eq_true rfl, Nat.le_of_ble_eq_true rfl⟩ rfl rfl (Nat.le_of_ble_eq_true rfl) hcs0 dL_law_554 (fun H locs hw => ?_)
                              refine lv_icmp_eq (tgt := 1840) X.1 X.2.1 dL_law_557 (by decide) (fun c557 => ?_) (fun c557 => ?_)
                              · have hf := si_ip c557 hf
                                refine W.widen (k := cs + 1) (n := ss + 6) (by omega) (by omega) ?_
                                exact B1840 _ _ _ _ _ (cs + 1) (ss + 6) (by omega) (by omega) hf hw (lv_sub hl [0, 1, 2, 3, 4] rfl)
                              · have hf := si_in c557 hf
                                refine lv_iconst (v := 0) X.1 X.2.1 dL_law_560 (by decide) ?_
                                exact hret _ _ _ _ _ _ _ _ hf hw (by omega) (by omega) dL_law_561
                            · have hf := si_in c40_10 hf
                              rcases Decidable.em ((v6 &&& 63) = 11) with c40_11 | c40_11
                              · have hf := si_ip c40_11 hf
                                refine lv_tableIn (tgt := 562) X.1 X.2.1 dL_law_40 (by rw [c40_11]; decide) (by rw [c40_11]; decide) (off := 522) (by rw [c40_11]; rfl) (by decide) ?_
                                refine lv_aload_n X.1 X.2.1 dL_law_562 rfl (lv_at hl 1 rfl) ?_
                                refine lv_aload_n X.1 X.2.1 dL_law_563 rfl (lv_at hl 0 rfl) ?_
                                refine lv_iload X.1 X.2.1 dL_law_564 (lv_at hl 4 rfl) ?_
                                refine lv_iconst (v := 1) X.1 X.2.1 dL_law_566 (by decide) ?_
                                refine lv_iadd X.1 X.2.1 dL_law_567 ?_
                                obtain ⟨v53, ev53, hf⟩ := si_ob hf
                                refine si_sld X hX hbl hbA hw.2.2 ev53 dL_law_568 ?_
                                obtain ⟨q54, eq54, hf⟩ := si_ob hf
                                refine si_cVi [.int v53] cal_X9_fewestMasses gm_RL_88 X hw hA hl.1 (c_X9_fewestMasses l E F v53 S q54 eq54) si_cl9 rfl ⟨⟨rfl, rfl⟩, Nat.le_of_ble_eq_true rfl, Nat.le_of_ble_eq_true rfl⟩ rfl rfl (Nat.le_of_ble_eq_true rfl) hcs0 dL_law_569 (fun H locs hw => ?_)
                                refine lv_aload_n X.1 X.2.1 dL_law_572 rfl (lv_at hl 2 rfl) ?_
                                refine lv_aload_n X.1 X.2.1 dL_law_573 rfl (lv_at hl 0 rfl) ?_
                                refine lv_iload X.1 X.2.1 dL_law_574 (lv_at hl 4 rfl) ?_
                                refine lv_iconst (v := 1) X.1 X.2.1 dL_law_576 (by decide) ?_
                                refine lv_iadd X.1 X.2.1 dL_law_577 ?_
                                obtain ⟨v55, ev55, hf⟩ := si_ob hf
                                refine si_sld X hX hbl hbA hw.2.2 ev55 dL_law_578 ?_
                                obtain ⟨q56, eq56, hf⟩ := si_ob hf
                                refine si_cVi [.int v55] cal_X10_fewestMasses gm_RL_91 X hw hA hl.1 (c_X10_fewestMasses l E F v55 q54.2 q56 eq56) si_cl10 rfl ⟨⟨rfl, rfl⟩, Nat.le_of_ble_eq_true rfl, Nat.le_of_ble_eq_true rfl⟩ rfl rfl (Nat.le_of_ble_eq_true rfl) hcs0 dL_law_579 (fun H locs hw => ?_)
                                refine lv_icmp_eq (tgt := 1840) X.1 X.2.1 dL_law_582 (by decide) (fun c582 => ?_) (fun c582 => ?_)
                                · have hf := si_ip c582 hf
                                  refine W.widen (k := cs + 1) (n := ss + 6) (by omega) (by omega) ?_
                                  exact B1840 _ _ _ _ _ (cs + 1) (ss + 6) (by omega) (by omega) hf hw (lv_sub hl [0, 1, 2, 3, 4] rfl)
                                · have hf := si_in c582 hf
                                  refine lv_iconst (v := 0) X.1 X.2.1 dL_law_585 (by decide) ?_
                                  exact hret _ _ _ _ _ _ _ _ hf hw (by omega) (by omega) dL_law_586
                              · have hf := si_in c40_11 hf
                                rcases Decidable.em ((v6 &&& 63) = 12) with c40_12 | c40_12
                                · have hf := si_ip c40_12 hf
                                  refine lv_tableIn (tgt := 587) X.1 X.2.1 dL_law_40 (by rw [c40_12]; decide) (by rw [c40_12]; decide) (off := 547) (by rw [c40_12]; rfl) (by decide) ?_
                                  refine lv_aload_n X.1 X.2.1 dL_law_587 rfl (lv_at hl 1 rfl) ?_
                                  refine lv_aload_n X.1 X.2.1 dL_law_588 rfl (lv_at hl 0 rfl) ?_
                                  refine lv_iload X.1 X.2.1 dL_law_589 (lv_at hl 4 rfl) ?_
                                  refine lv_iconst (v := 1) X.1 X.2.1 dL_law_591 (by decide) ?_
                                  refine lv_iadd X.1 X.2.1 dL_law_592 ?_
                                  obtain ⟨v57, ev57, hf⟩ := si_ob hf
                                  refine si_sld X hX hbl hbA hw.2.2 ev57 dL_law_593 ?_
                                  obtain ⟨q58, eq58, hf⟩ := si_ob hf
                                  refine si_cVi [.int v57] cal_X9_closestLoad gm_RL_92 X hw hA hl.1 (c_X9_closestLoad l E F v57 S q58 eq58) si_cl9 rfl ⟨⟨rfl, rfl⟩, Nat.le_of_ble_eq_true rfl, Nat.le_of_ble_eq_true rfl⟩ rfl rfl (Nat.le_of_ble_eq_true rfl) hcs0 dL_law_594 (fun H locs hw => ?_)
                                  refine lv_aload_n X.1 X.2.1 dL_law_597 rfl (lv_at hl 2 rfl) ?_
                                  refine lv_aload_n X.1 X.2.1 dL_law_598 rfl (lv_at hl 0 rfl) ?_
                                  refine lv_iload X.1 X.2.1 dL_law_599 (lv_at hl 4 rfl) ?_
                                  refine lv_iconst (v := 1) X.1 X.2.1 dL_law_601 (by decide) ?_
                                  refine lv_iadd X.1 X.2.1 dL_law_602 ?_
                                  obtain ⟨v59, ev59, hf⟩ := si_ob hf
                                  refine si_sld X hX hbl hbA hw.2.2 ev59 dL_law_603 ?_
                                  obtain ⟨q60, eq60, hf⟩ := si_ob hf
                                  refine si_cVi [.int v59] cal_X10_closestLoad gm_RL_95 X hw hA hl.1 (c_X10_closestLoad l E F v59 q58.2 q60 eq60) si_cl10 rfl ⟨⟨rfl, rfl⟩, Nat.le_of_ble_eq_true rfl, Nat.le_of_ble_eq_true rfl⟩ rfl rfl (Nat.le_of_ble_eq_true rfl) hcs0 dL_law_604 (fun H locs hw => ?_)
                                  refine lv_icmp_eq (tgt := 1840) X.1 X.2.1 dL_law_607 (by decide) (fun c607 => ?_) (fun c607 => ?_)
                                  · have hf := si_ip c607 hf
                                    refine W.widen (k := cs + 1) (n := ss + 6) (by omega) (by omega) ?_
                                    exact B1840 _ _ _ _ _ (cs + 1) (ss + 6) (by omega) (by omega) hf hw (lv_sub hl [0, 1, 2, 3, 4] rfl)
                                  · have hf := si_in c607 hf
                                    refine lv_iconst (v := 0) X.1 X.2.1 dL_law_610 (by decide) ?_
                                    exact hret _ _ _ _ _ _ _ _ hf hw (by omega) (by omega) dL_law_611
                                · have hf := si_in c40_12 hf
                                  rcases Decidable.em ((v6 &&& 63) = 13) with c40_13 | c40_13
                                  · have hf := si_ip c40_13 hf
                                    refine lv_tableIn (tgt := 612) X.1 X.2.1 dL_law_40 (by rw [c40_13]; decide) (by rw [c40_13]; decide) (off := 572) (by rw [c40_13]; rfl) (by decide) ?_
                                    refine lv_aload_n X.1 X.2.1 dL_law_612 rfl (lv_at hl 1 rfl) ?_
                                    refine lv_aload_n X.1 X.2.1 dL_law_613 rfl (lv_at hl 0 rfl) ?_
                                    refine lv_iload X.1 X.2.1 dL_law_614 (lv_at hl 4 rfl) ?_
                                    refine lv_iconst (v := 1) X.1 X.2.1 dL_law_616 (by decide) ?_
                                    refine lv_iadd X.1 X.2.1 dL_law_617 ?_
                                    obtain ⟨v61, ev61, hf⟩ := si_ob hf
                                    refine si_sld X hX hbl hbA hw.2.2 ev61 dL_law_618 ?_
                                    obtain ⟨q62, eq62, hf⟩ := si_ob hf
                                    refine si_cVi [.int v61] cal_X9_twoPans gm_RL_96 X hw hA hl.1 (c_X9_twoPans l E F v61 S q62 eq62) si_cl9 rfl ⟨⟨rfl, rfl⟩, Nat.le_of_ble_eq_true rfl, Nat.le_of_ble_eq_true rfl⟩ rfl rfl (Nat.le_of_ble_eq_true rfl) hcs0 dL_law_619 (fun H locs hw => ?_)
                                    refine lv_aload_n X.1 X.2.1 dL_law_622 rfl (lv_at hl 2 rfl) ?_
                                    refine lv_aload_n X.1 X.2.1 dL_law_623 rfl (lv_at hl 0 rfl) ?_
                                    refine lv_iload X.1 X.2.1 dL_law_624 (lv_at hl 4 rfl) ?_
                                    refine lv_iconst (v := 1) X.1 X.2.1 dL_law_626 (by decide) ?_
                                    refine lv_iadd X.1 X.2.1 dL_law_627 ?_
                                    obtain ⟨v63, ev63, hf⟩ := si_ob hf
                                    refine si_sld X hX hbl hbA hw.2.2 ev63 dL_law_628 ?_
                                    obtain ⟨q64, eq64, hf⟩ := si_ob hf
                                    refine si_cVi [.int v63] cal_X10_twoPans gm_RL_99 X hw hA hl.1 (c_X10_twoPans l E F v63 q62.2 q64 eq64) si_cl10 rfl ⟨⟨rfl, rfl⟩, Nat.le_of_ble_eq_true rfl, Nat.le_of_ble_eq_true rfl⟩ rfl rfl (Nat.le_of_ble_eq_true rfl) hcs0 dL_law_629 (fun H locs hw => ?_)
                                    refine lv_icmp_eq (tgt := 1840) X.1 X.2.1 dL_law_632 (by decide) (fun c632 => ?_) (fun c632 => ?_)
                                    · have hf := si_ip c632 hf
                                      refine W.widen (k := cs + 1) (n := ss + 6) (by omega) (by omega) ?_
                                      exact B1840 _ _ _ _ _ (cs + 1) (ss + 6) (by omega) (by omega) hf hw (lv_sub hl [0, 1, 2, 3, 4] rfl)
                                    · have hf := si_in c632 hf
                                      refine lv_iconst (v := 0) X.1 X.2.1 dL_law_635 (by decide) ?_
                                      exact hret _ _ _ _ _ _ _ _ hf hw (by omega) (by omega) dL_law_636
                                  · have hf := si_in c40_13 hf
                                    rcases Decidable.em ((v6 &&& 63) = 14) with c40_14 | c40_14
                                    · have hf := si_ip c40_14 hf
                                      refine lv_tableIn (tgt := 637) X.1 X.2.1 dL_law_40 (by rw [c40_14]; decide) (by rw [c40_14]; decide) (off := 597) (by rw [c40_14]; rfl) (by decide) ?_
                                      refine lv_aload_n X.1 X.2.1 dL_law_637 rfl (lv_at hl 1 rfl) ?_
                                      refine lv_aload_n X.1 X.2.1 dL_law_638 rfl (lv_at hl 0 rfl) ?_
                                      refine lv_iload X.1 X.2.1 dL_law_639 (lv_at hl 4 rfl) ?_
                                      refine lv_iconst (v := 1) X.1 X.2.1 dL_law_641 (by decide) ?_
                                      refine lv_iadd X.1 X.2.1 dL_law_642 ?_
                                      obtain ⟨v65, ev65, hf⟩ := si_ob hf
                                      refine si_sld X hX hbl hbA hw.2.2 ev65 dL_law_643 ?_
                                      refine lv_aload_n X.1 X.2.1 dL_law_644 rfl (lv_at hl 0 rfl) ?_
                                      refine lv_iload X.1 X.2.1 dL_law_645 (lv_at hl 4 rfl) ?_
                                      refine lv_iconst (v := 2) X.1 X.2.1 dL_law_647 (by decide) ?_
                                      refine lv_iadd X.1 X.2.1 dL_law_648 ?_
                                      obtain ⟨v66, ev66, hf⟩ := si_ob hf
                                      refine si_sld X hX hbl hbA hw.2.2 ev66 dL_law_649 ?_
                                      obtain ⟨q67, eq67, hf⟩ := si_ob hf
                                      refine si_cVi [.int v65, .int v66] cal_X9_startVisit gm_RL_100 X hw hA hl.1 (c_X9_startVisit l E F v65 v66 S q67 eq67) si_cl9 rfl ⟨⟨rfl, rfl⟩, Nat.le_of_ble_eq_true rfl, Nat.le_of_ble_eq_true rfl⟩ rfl rfl (Nat.le_of_ble_eq_true rfl) hcs0 dL_law_650 (fun H locs hw => ?_)
                                      refine lv_aload_n X.1 X.2.1 dL_law_653 rfl (lv_at hl 2 rfl) ?_
                                      refine lv_aload_n X.1 X.2.1 dL_law_654 rfl (lv_at hl 0 rfl) ?_
                                      refine lv_iload X.1 X.2.1 dL_law_655 (lv_at hl 4 rfl) ?_
                                      refine lv_iconst (v := 1) X.1 X.2.1 dL_law_657 (by decide) ?_
                                      refine lv_iadd X.1 X.2.1 dL_law_658 ?_
                                      obtain ⟨v68, ev68, hf⟩ := si_ob hf
                                      refine si_sld X hX hbl hbA hw.2.2 ev68 dL_law_659 ?_
                                      refine lv_aload_n X.1 X.2.1 dL_law_660 rfl (lv_at hl 0 rfl) ?_
                                      refine lv_iload X.1 X.2.1 dL_law_661 (lv_at hl 4 rfl) ?_
                                      refine lv_iconst (v := 2) X.1 X.2.1 dL_law_663 (by decide) ?_
                                      refine lv_iadd X.1 X.2.1 dL_law_664 ?_
                                      obtain ⟨v69, ev69, hf⟩ := si_ob hf
                                      refine si_sld X hX hbl hbA hw.2.2 ev69 dL_law_665 ?_
                                      obtain ⟨q70, eq70, hf⟩ := si_ob hf
                                      refine si_cVi [.int v68, .int v69] cal_X10_startVisit gm_RL_103 X hw hA hl.1 (c_X10_startVisit l E F v68 v69 q67.2 q70 eq70) si_cl10 rfl ⟨⟨rfl, rfl⟩, Nat.le_of_ble_eq_true rfl, Nat.le_of_ble_eq_true rfl⟩ rfl rfl (Nat.le_of_ble_eq_true rfl) hcs0 dL_law_666 (fun H locs hw => ?_)
                                      refine lv_icmp_eq (tgt := 1840) X.1 X.2.1 dL_law_669 (by decide) (fun c669 => ?_) (fun c669 => ?_)
                                      · have hf := si_ip c669 hf
                                        refine W.widen (k := cs + 1) (n := ss + 6) (by omega) (by omega) ?_
                                        exact B1840 _ _ _ _ _ (cs + 1) (ss + 6) (by omega) (by omega) hf hw (lv_sub hl [0, 1, 2, 3, 4] rfl)
                                      · have hf := si_in c669 hf
                                        refine lv_iconst (v := 0) X.1 X.2.1 dL_law_672 (by decide) ?_
                                        exact hret _ _ _ _ _ _ _ _ hf hw (by omega) (by omega) dL_law_673
                                    · have hf := si_in c40_14 hf
                                      rcases Decidable.em ((v6 &&& 63) = 15) with c40_15 | c40_15
                                      · have hf := si_ip c40_15 hf
                                        refine lv_tableIn (tgt := 674) X.1 X.2.1 dL_law_40 (by rw [c40_15]; decide) (by rw [c40_15]; decide) (off := 634) (by rw [c40_15]; rfl) (by decide) ?_
                                        refine lv_aload_n X.1 X.2.1 dL_law_674 rfl (lv_at hl 1 rfl) ?_
                                        obtain ⟨q71, eq71, hf⟩ := si_ob hf
                                        refine si_cVi [] cal_X9_visitCount gm_RL_104 X hw hA hl.1 (c_X9_visitCount l E F S q71 eq71) si_cl9 rfl ⟨⟨rfl, rfl⟩, Nat.le_of_ble_eq_true rfl, Nat.le_of_ble_eq_true rfl⟩ rfl rfl (Nat.le_of_ble_eq_true rfl) hcs0 dL_law_675 (fun H locs hw => ?_)
                                        refine lv_aload_n X.1 X.2.1 dL_law_678 rfl (lv_at hl 2 rfl) ?_
                                        obtain ⟨q72, eq72, hf⟩ := si_ob hf
                                        refine si_cVi [] cal_X10_visitCount gm_RL_107 X hw hA hl.1 (c_X10_visitCount l E F q71.2 q72 eq72) si_cl10 rfl ⟨⟨rfl, rfl⟩, Nat.le_of_ble_eq_true rfl, Nat.le_of_ble_eq_true rfl⟩ rfl rfl (Nat.le_of_ble_eq_true rfl) hcs0 dL_law_679 (fun H locs hw => ?_)
                                        refine lv_icmp_eq (tgt := 1840) X.1 X.2.1 dL_law_682 (by decide) (fun c682 => ?_) (fun c682 => ?_)
                                        · have hf := si_ip c682 hf
                                          refine W.widen (k := cs + 1) (n := ss + 6) (by omega) (by omega) ?_
                                          exact B1840 _ _ _ _ _ (cs + 1) (ss + 6) (by omega) (by omega) hf hw (lv_sub hl [0, 1, 2, 3, 4] rfl)
                                        · have hf := si_in c682 hf
                                          refine lv_iconst (v := 0) X.1 X.2.1 dL_law_685 (by decide) ?_
                                          exact hret _ _ _ _ _ _ _ _ hf hw (by omega) (by omega) dL_law_686
                                      · have hf := si_in c40_15 hf
                                        rcases Decidable.em ((v6 &&& 63) = 16) with c40_16 | c40_16
                                        · have hf := si_ip c40_16 hf
                                          refine lv_tableIn (tgt := 687) X.1 X.2.1 dL_law_40 (by rw [c40_16]; decide) (by rw [c40_16]; decide) (off := 647) (by rw [c40_16]; rfl) (by decide) ?_
                                          refine lv_aload_n X.1 X.2.1 dL_law_687 rfl (lv_at hl 1 rfl) ?_
                                          refine lv_aload_n X.1 X.2.1 dL_law_688 rfl (lv_at hl 0 rfl) ?_
                                          refine lv_iload X.1 X.2.1 dL_law_689 (lv_at hl 4 rfl) ?_
                                          refine lv_iconst (v := 1) X.1 X.2.1 dL_law_691 (by decide) ?_
                                          refine lv_iadd X.1 X.2.1 dL_law_692 ?_
                                          obtain ⟨v73, ev73, hf⟩ := si_ob hf
                                          refine si_sld X hX hbl hbA hw.2.2 ev73 dL_law_693 ?_
                                          obtain ⟨q74, eq74, hf⟩ := si_ob hf
                                          refine si_cVi [.int v73] cal_X9_visitScale gm_RL_108 X hw hA hl.1 (c_X9_visitScale l E F v73 S q74 eq74) si_cl9 rfl ⟨⟨rfl, rfl⟩, Nat.le_of_ble_eq_true rfl, Nat.le_of_ble_eq_true rfl⟩ rfl rfl (Nat.le_of_ble_eq_true rfl) hcs0 dL_law_694 (fun H locs hw => ?_)
                                          refine lv_aload_n X.1 X.2.1 dL_law_697 rfl (lv_at hl 2 rfl) ?_
                                          refine lv_aload_n X.1 X.2.1 dL_law_698 rfl (lv_at hl 0 rfl) ?_
                                          refine lv_iload X.1 X.2.1 dL_law_699 (lv_at hl 4 rfl) ?_
                                          refine lv_iconst (v := 1) X.1 X.2.1 dL_law_701 (by decide) ?_
                                          refine lv_iadd X.1 X.2.1 dL_law_702 ?_
                                          obtain ⟨v75, ev75, hf⟩ := si_ob hf
                                          refine si_sld X hX hbl hbA hw.2.2 ev75 dL_law_703 ?_
                                          obtain ⟨q76, eq76, hf⟩ := si_ob hf
                                          refine si_cVi [.int v75] cal_X10_visitScale gm_RL_111 X hw hA hl.1 (c_X10_visitScale l E F v75 q74.2 q76 eq76) si_cl10 rfl ⟨⟨rfl, rfl⟩, Nat.le_of_ble_eq_true rfl, Nat.le_of_ble_eq_true rfl⟩ rfl rfl (Nat.le_of_ble_eq_true rfl) hcs0 dL_law_704 (fun H locs hw => ?_)
                                          refine lv_icmp_eq (tgt := 1840) X.1 X.2.1 dL_law_707 (by decide) (fun c707 => ?_) (fun c707 => ?_)
                                          · have hf := si_ip c707 hf
                                            refine W.widen (k := cs + 1) (n := ss + 6) (by omega) (by omega) ?_
                                            exact B1840 _ _ _ _ _ (cs + 1) (ss + 6) (by omega) (by omega) hf hw (lv_sub hl [0, 1, 2, 3, 4] rfl)
                                          · have hf := si_in c707 hf
                                            refine lv_iconst (v := 0) X.1 X.2.1 dL_law_710 (by decide) ?_
                                            exact hret _ _ _ _ _ _ _ _ hf hw (by omega) (by omega) dL_law_711
                                        · have hf := si_in c40_16 hf
                                          rcases Decidable.em ((v6 &&& 63) = 17) with c40_17 | c40_17
                                          · have hf := si_ip c40_17 hf
                                            refine lv_tableIn (tgt := 712) X.1 X.2.1 dL_law_40 (by rw [c40_17]; decide) (by rw [c40_17]; decide) (off := 672) (by rw [c40_17]; rfl) (by decide) ?_
                                            refine lv_aload_n X.1 X.2.1 dL_law_712 rfl (lv_at hl 1 rfl) ?_
                                            refine lv_aload_n X.1 X.2.1 dL_law_713 rfl (lv_at hl 0 rfl) ?_
                                            refine lv_iload X.1 X.2.1 dL_law_714 (lv_at hl 4 rfl) ?_
                                            refine lv_iconst (v := 1) X.1 X.2.1 dL_law_716 (by decide) ?_
                                            refine lv_iadd X.1 X.2.1 dL_law_717 ?_
                                            obtain ⟨v77, ev77, hf⟩ := si_ob hf
                                            refine si_sld X hX hbl hbA hw.2.2 ev77 dL_law_718 ?_
                                            obtain ⟨q78, eq78, hf⟩ := si_ob hf
                                            refine si_cVi [.int v77] cal_X9_isInService gm_RL_112 X hw hA hl.1 (c_X9_isInService l E F v77 S q78 eq78) si_cl9 rfl ⟨⟨rfl, rfl⟩, Nat.le_of_ble_eq_true rfl, Nat.le_of_ble_eq_true rfl⟩ rfl rfl (Nat.le_of_ble_eq_true rfl) hcs0 dL_law_719 (fun H locs hw => ?_)
                                            refine lv_aload_n X.1 X.2.1 dL_law_722 rfl (lv_at hl 2 rfl) ?_
                                            refine lv_aload_n X.1 X.2.1 dL_law_723 rfl (lv_at hl 0 rfl) ?_
                                            refine lv_iload X.1 X.2.1 dL_law_724 (lv_at hl 4 rfl) ?_
                                            refine lv_iconst (v := 1) X.1 X.2.1 dL_law_726 (by decide) ?_
                                            refine lv_iadd X.1 X.2.1 dL_law_727 ?_
                                            obtain ⟨v79, ev79, hf⟩ := si_ob hf
                                            refine si_sld X hX hbl hbA hw.2.2 ev79 dL_law_728 ?_
                                            obtain ⟨q80, eq80, hf⟩ := si_ob hf
                                            refine si_cVi [.int v79] cal_X10_isInService gm_RL_115 X hw hA hl.1 (c_X10_isInService l E F v79 q78.2 q80 eq80) si_cl10 rfl ⟨⟨rfl, rfl⟩, Nat.le_of_ble_eq_true rfl, Nat.le_of_ble_eq_true rfl⟩ rfl rfl (Nat.le_of_ble_eq_true rfl) hcs0 dL_law_729 (fun H locs hw => ?_)
                                            refine lv_icmp_eq (tgt := 1840) X.1 X.2.1 dL_law_732 (by decide) (fun c732 => ?_) (fun c732 => ?_)
                                            · have hf := si_ip c732 hf
                                              refine W.widen (k := cs + 1) (n := ss + 6) (by omega) (by omega) ?_
                                              exact B1840 _ _ _ _ _ (cs + 1) (ss + 6) (by omega) (by omega) hf hw (lv_sub hl [0, 1, 2, 3, 4] rfl)
                                            · have hf := si_in c732 hf
                                              refine lv_iconst (v := 0) X.1 X.2.1 dL_law_735 (by decide) ?_
                                              exact hret _ _ _ _ _ _ _ _ hf hw (by omega) (by omega) dL_law_736
                                          · have hf := si_in c40_17 hf
                                            rcases Decidable.em ((v6 &&& 63) = 18) with c40_18 | c40_18
                                            · have hf := si_ip c40_18 hf
                                              refine lv_tableIn (tgt := 737) X.1 X.2.1 dL_law_40 (by rw [c40_18]; decide) (by rw [c40_18]; decide) (off := 697) (by rw [c40_18]; rfl) (by decide) ?_
                                              refine lv_aload_n X.1 X.2.1 dL_law_737 rfl (lv_at hl 1 rfl) ?_
                                              refine lv_aload_n X.1 X.2.1 dL_law_738 rfl (lv_at hl 0 rfl) ?_
                                              refine lv_iload X.1 X.2.1 dL_law_739 (lv_at hl 4 rfl) ?_
                                              refine lv_iconst (v := 1) X.1 X.2.1 dL_law_741 (by decide) ?_
                                              refine lv_iadd X.1 X.2.1 dL_law_742 ?_
                                              obtain ⟨v81, ev81, hf⟩ := si_ob hf
                                              refine si_sld X hX hbl hbA hw.2.2 ev81 dL_law_743 ?_
                                              refine lv_aload_n X.1 X.2.1 dL_law_744 rfl (lv_at hl 0 rfl) ?_
                                              refine lv_iload X.1 X.2.1 dL_law_745 (lv_at hl 4 rfl) ?_
                                              refine lv_iconst (v := 2) X.1 X.2.1 dL_law_747 (by decide) ?_
                                              refine lv_iadd X.1 X.2.1 dL_law_748 ?_
                                              obtain ⟨v82, ev82, hf⟩ := si_ob hf
                                              refine si_sld X hX hbl hbA hw.2.2 ev82 dL_law_749 ?_
                                              refine lv_aload_n X.1 X.2.1 dL_law_750 rfl (lv_at hl 0 rfl) ?_
                                              refine lv_iload X.1 X.2.1 dL_law_751 (lv_at hl 4 rfl) ?_
                                              refine lv_iconst (v := 3) X.1 X.2.1 dL_law_753 (by decide) ?_
                                              refine lv_iadd X.1 X.2.1 dL_law_754 ?_
                                              obtain ⟨v83, ev83, hf⟩ := si_ob hf
                                              refine si_sld X hX hbl hbA hw.2.2 ev83 dL_law_755 ?_
                                              obtain ⟨q84, eq84, hf⟩ := si_ob hf
                                              refine si_cVi [.int v81, .int v82, .int v83] cal_X9_record gm_RL_116 X hw hA hl.1 (c_X9_record l E F v81 v82 v83 S q84 eq84) si_cl9 rfl ⟨⟨rfl, rfl⟩, Nat.le_of_ble_eq_true rfl, Nat.le_of_ble_eq_true rfl⟩ rfl rfl (Nat.le_of_ble_eq_true rfl) hcs0 dL_law_756 (fun H locs hw => ?_)
                                              refine lv_aload_n X.1 X.2.1 dL_law_759 rfl (lv_at hl 2 rfl) ?_
                                              refine lv_aload_n X.1 X.2.1 dL_law_760 rfl (lv_at hl 0 rfl) ?_
                                              refine lv_iload X.1 X.2.1 dL_law_761 (lv_at hl 4 rfl) ?_
                                              refine lv_iconst (v := 1) X.1 X.2.1 dL_law_763 (by decide) ?_
                                              refine lv_iadd X.1 X.2.1 dL_law_764 ?_
                                              obtain ⟨v85, ev85, hf⟩ := si_ob hf
                                              refine si_sld X hX hbl hbA hw.2.2 ev85 dL_law_765 ?_
                                              refine lv_aload_n X.1 X.2.1 dL_law_766 rfl (lv_at hl 0 rfl) ?_
                                              refine lv_iload X.1 X.2.1 dL_law_767 (lv_at hl 4 rfl) ?_
                                              refine lv_iconst (v := 2) X.1 X.2.1 dL_law_769 (by decide) ?_
                                              refine lv_iadd X.1 X.2.1 dL_law_770 ?_
                                              obtain ⟨v86, ev86, hf⟩ := si_ob hf
                                              refine si_sld X hX hbl hbA hw.2.2 ev86 dL_law_771 ?_
                                              refine lv_aload_n X.1 X.2.1 dL_law_772 rfl (lv_at hl 0 rfl) ?_
                                              refine lv_iload X.1 X.2.1 dL_law_773 (lv_at hl 4 rfl) ?_
                                              refine lv_iconst (v := 3) X.1 X.2.1 dL_law_775 (by decide) ?_
                                              refine lv_iadd X.1 X.2.1 dL_law_776 ?_
                                              obtain ⟨v87, ev87, hf⟩ := si_ob hf
                                              refine si_sld X hX hbl hbA hw.2.2 ev87 dL_law_777 ?_
                                              obtain ⟨q88, eq88, hf⟩ := si_ob hf
                                              refine si_cVi [.int v85, .int v86, .int v87] cal_X10_record gm_RL_120 X hw hA hl.1 (c_X10_record l E F v85 v86 v87 q84.2 q88 eq88) si_cl10 rfl ⟨⟨rfl, rfl⟩, Nat.le_of_ble_eq_true rfl, Nat.le_of_ble_eq_true rfl⟩ rfl rfl (Nat.le_of_ble_eq_true rfl) hcs0 dL_law_778 (fun H locs hw => ?_)
                                              refine lv_icmp_eq (tgt := 1840) X.1 X.2.1 dL_law_781 (by decide) (fun c781 => ?_) (fun c781 => ?_)
                                              · have hf := si_ip c781 hf
                                                refine W.widen (k := cs + 1) (n := ss + 6) (by omega) (by omega) ?_
                                                exact B1840 _ _ _ _ _ (cs + 1) (ss + 6) (by omega) (by omega) hf hw (lv_sub hl [0, 1, 2, 3, 4] rfl)
                                              · have hf := si_in c781 hf
                                                refine lv_iconst (v := 0) X.1 X.2.1 dL_law_784 (by decide) ?_
                                                exact hret _ _ _ _ _ _ _ _ hf hw (by omega) (by omega) dL_law_785
                                            · have hf := si_in c40_18 hf
                                              rcases Decidable.em ((v6 &&& 63) = 19) with c40_19 | c40_19
                                              · have hf := si_ip c40_19 hf
                                                refine lv_tableIn (tgt := 786) X.1 X.2.1 dL_law_40 (by rw [c40_19]; decide) (by rw [c40_19]; decide) (off := 746) (by rw [c40_19]; rfl) (by decide) ?_
                                                refine lv_aload_n X.1 X.2.1 dL_law_786 rfl (lv_at hl 1 rfl) ?_
                                                refine lv_aload_n X.1 X.2.1 dL_law_787 rfl (lv_at hl 0 rfl) ?_
                                                refine lv_iload X.1 X.2.1 dL_law_788 (lv_at hl 4 rfl) ?_
                                                refine lv_iconst (v := 1) X.1 X.2.1 dL_law_790 (by decide) ?_
                                                refine lv_iadd X.1 X.2.1 dL_law_791 ?_
                                                obtain ⟨v89, ev89, hf⟩ := si_ob hf
                                                refine si_sld X hX hbl hbA hw.2.2 ev89 dL_law_792 ?_
                                                obtain ⟨q90, eq90, hf⟩ := si_ob hf
                                                refine si_cVi [.int v89] cal_X9_testCount gm_RL_121 X hw hA hl.1 (c_X9_testCount l E F v89 S q90 eq90) si_cl9 rfl ⟨⟨rfl, rfl⟩, Nat.le_of_ble_eq_true rfl, Nat.le_of_ble_eq_true rfl⟩ rfl rfl (Nat.le_of_ble_eq_true rfl) hcs0 dL_law_793 (fun H locs hw => ?_)
                                                refine lv_aload_n X.1 X.2.1 dL_law_796 rfl (lv_at hl 2 rfl) ?_
                                                refine lv_aload_n X.1 X.2.1 dL_law_797 rfl (lv_at hl 0 rfl) ?_
                                                refine lv_iload X.1 X.2.1 dL_law_798 (lv_at hl 4 rfl) ?_
                                                refine lv_iconst (v := 1) X.1 X.2.1 dL_law_800 (by decide) ?_
                                                refine lv_iadd X.1 X.2.1 dL_law_801 ?_
                                                obtain ⟨v91, ev91, hf⟩ := si_ob hf
                                                refine si_sld X hX hbl hbA hw.2.2 ev91 dL_law_802 ?_
                                                obtain ⟨q92, eq92, hf⟩ := si_ob hf
                                                refine si_cVi [.int v91] cal_X10_testCount gm_RL_124 X hw hA hl.1 (c_X10_testCount l E F v91 q90.2 q92 eq92) si_cl10 rfl ⟨⟨rfl, rfl⟩, Nat.le_of_ble_eq_true rfl, Nat.le_of_ble_eq_true rfl⟩ rfl rfl (Nat.le_of_ble_eq_true rfl) hcs0 dL_law_803 (fun H locs hw => ?_)
                                                refine lv_icmp_eq (tgt := 1840) X.1 X.2.1 dL_law_806 (by decide) (fun c806 => ?_) (fun c806 => ?_)
                                                · have hf := si_ip c806 hf
                                                  refine W.widen (k := cs + 1) (n := ss + 6) (by omega) (by omega) ?_
                                                  exact B1840 _ _ _ _ _ (cs + 1) (ss + 6) (by omega) (by omega) hf hw (lv_sub hl [0, 1, 2, 3, 4] rfl)
                                                · have hf := si_in c806 hf
                                                  refine lv_iconst (v := 0) X.1 X.2.1 dL_law_809 (by decide) ?_
                                                  exact hret _ _ _ _ _ _ _ _ hf hw (by omega) (by omega) dL_law_810
                                              · have hf := si_in c40_19 hf
                                                rcases Decidable.em ((v6 &&& 63) = 20) with c40_20 | c40_20
                                                · have hf := si_ip c40_20 hf
                                                  refine lv_tableIn (tgt := 811) X.1 X.2.1 dL_law_40 (by rw [c40_20]; decide) (by rw [c40_20]; decide) (off := 771) (by rw [c40_20]; rfl) (by decide) ?_
                                                  refine lv_aload_n X.1 X.2.1 dL_law_811 rfl (lv_at hl 1 rfl) ?_
                                                  refine lv_aload_n X.1 X.2.1 dL_law_812 rfl (lv_at hl 0 rfl) ?_
                                                  refine lv_iload X.1 X.2.1 dL_law_813 (lv_at hl 4 rfl) ?_
                                                  refine lv_iconst (v := 1) X.1 X.2.1 dL_law_815 (by decide) ?_
                                                  refine lv_iadd X.1 X.2.1 dL_law_816 ?_
                                                  obtain ⟨v93, ev93, hf⟩ := si_ob hf
                                                  refine si_sld X hX hbl hbA hw.2.2 ev93 dL_law_817 ?_
                                                  refine lv_aload_n X.1 X.2.1 dL_law_818 rfl (lv_at hl 0 rfl) ?_
                                                  refine lv_iload X.1 X.2.1 dL_law_819 (lv_at hl 4 rfl) ?_
                                                  refine lv_iconst (v := 2) X.1 X.2.1 dL_law_821 (by decide) ?_
                                                  refine lv_iadd X.1 X.2.1 dL_law_822 ?_
                                                  obtain ⟨v94, ev94, hf⟩ := si_ob hf
                                                  refine si_sld X hX hbl hbA hw.2.2 ev94 dL_law_823 ?_
                                                  refine lv_aload_n X.1 X.2.1 dL_law_824 rfl (lv_at hl 3 rfl) ?_
                                                  obtain ⟨q95, eq95, hf⟩ := si_ob hf
                                                  refine si_cS1 (n := 4) [.ref (E.2.1 0), .int v93, .int v94, .ref (E.2.1 113)] gc_L_testLoad gi_RL (by decide +kernel) gs_L_testLoad gm_RL_125 X hw hA hl.1 (c_L_testLoad l hl0 E F v93 v94 S q95 eq95) ⟨⟨rfl, rfl⟩, Nat.le_of_ble_eq_true rfl, Nat.le_of_ble_eq_true rfl⟩ rfl rfl (Nat.le_of_ble_eq_true rfl) hcs1 dL_law_825 (fun H locs hw => ?_)
                                                  refine lv_istore (lv' := [(5, .int q95.1), (0, .ref b), (1, .ref (E.2.1 0)), (2, .ref (E.2.1 87)), (3, .ref (E.2.1 113)), (4, .int x4)]) X.1 X.2.1 dL_law_828 hl (by decide) rfl (fun ls hl => ?_)
                                                  refine lv_aload_n X.1 X.2.1 dL_law_830 rfl (lv_at hl 3 rfl) ?_
                                                  refine lv_aload_n X.1 X.2.1 dL_law_831 rfl (lv_at hl 1 rfl) ?_
                                                  refine lv_iload X.1 X.2.1 dL_law_832 (lv_at hl 5 rfl) ?_
                                                  refine lv_iconst (v := 1) X.1 X.2.1 dL_law_834 (by decide) ?_
                                                  refine lv_iadd X.1 X.2.1 dL_law_835 ?_
                                                  obtain ⟨v96, ev96, hf⟩ := si_ob hf
                                                  refine si_sld X hX hbl hbA hw.2.2 ev96 dL_law_836 ?_
                                                  refine lv_aload_n X.1 X.2.1 dL_law_837 rfl (lv_at hl 1 rfl) ?_
                                                  refine lv_iload X.1 X.2.1 dL_law_838 (lv_at hl 5 rfl) ?_
                                                  refine lv_iconst (v := 2) X.1 X.2.1 dL_law_840 (by decide) ?_
                                                  refine lv_iadd X.1 X.2.1 dL_law_841 ?_
                                                  obtain ⟨v97, ev97, hf⟩ := si_ob hf
                                                  refine si_sld X hX hbl hbA hw.2.2 ev97 dL_law_842 ?_
                                                  obtain ⟨q98, eq98, hf⟩ := si_ob hf
                                                  refine si_cVi [.int v96, .int v97] cal_X10_testLoad gm_RL_127 X hw hA hl.1 (c_X10_testLoad l E F v96 v97 q95.2 q98 eq98) si_cl10 rfl ⟨⟨rfl, rfl⟩, Nat.le_of_ble_eq_true rfl, Nat.le_of_ble_eq_true rfl⟩ rfl rfl (Nat.le_of_ble_eq_true rfl) hcs1 dL_law_843 (fun H locs hw => ?_)
                                                  refine lv_istore (lv' := [(6, .int q98.1), (5, .int q95.1), (0, .ref b), (1, .ref (E.2.1 0)), (2, .ref (E.2.1 87)), (3, .ref (E.2.1 113)), (4, .int x4)]) X.1 X.2.1 dL_law_846 hl (by decide) rfl (fun ls hl => ?_)
                                                  refine lv_aload_n X.1 X.2.1 dL_law_848 rfl (lv_at hl 4 rfl) ?_
                                                  obtain ⟨q99, eq99, hf⟩ := si_ob hf
                                                  refine si_cVi [] cal_X10_thrown gm_RL_81 X hw hA hl.1 (c_X10_thrown l E F q98.2 q99 eq99) si_cl10 rfl ⟨⟨rfl, rfl⟩, Nat.le_of_ble_eq_true rfl, Nat.le_of_ble_eq_true rfl⟩ rfl rfl (Nat.le_of_ble_eq_true rfl) hcs1 dL_law_849 (fun H locs hw => ?_)
                                                  refine lv_iload X.1 X.2.1 dL_law_852 (lv_at hl 1 rfl) ?_
                                                  refine lv_icmp_eq (tgt := 859) X.1 X.2.1 dL_law_854 (by decide) (fun c854 => ?_) (fun c854 => ?_)
                                                  · have hf := si_ip c854 hf
                                                    refine lv_iload X.1 X.2.1 dL_law_859 (lv_at hl 1 rfl) ?_
                                                    refine lv_if_ne (tgt := 876) X.1 X.2.1 dL_law_861 (by decide) (fun c861 => ?_) (fun c861 => ?_)
                                                    · have hf := si_in c861 hf
                                                      refine W.widen (k := cs + 1) (n := ss + 6) (by omega) (by omega) ?_
                                                      exact B876 _ _ _ _ _ (cs + 1) (ss + 6) (by omega) (by omega) hf hw (lv_sub hl [2, 3, 4, 5, 6] rfl)
                                                    · have hf := si_ip c861 hf
                                                      refine lv_aload_n X.1 X.2.1 dL_law_864 rfl (lv_at hl 5 rfl) ?_
                                                      refine lv_iconst (v := 0) X.1 X.2.1 dL_law_865 (by decide) ?_
                                                      obtain ⟨v100, ev100, hf⟩ := si_ob hf
                                                      refine si_lald X hw rfl ev100 dL_law_866 ?_
                                                      refine lv_iload X.1 X.2.1 dL_law_867 (lv_at hl 0 rfl) ?_
                                                      refine lv_i2l (v := (Int32.toInt64 q98.1)) X.1 X.2.1 dL_law_869 rfl ?_
                                                      refine W.lcmp X.1 X.2.1 dL_law_870 ?_
                                                      refine lv_if_eq (tgt := 876) X.1 X.2.1 dL_law_871 (by decide) (fun c871 => ?_) (fun c871 => ?_)
                                                      · have hf := si_ip c871 hf
                                                        refine W.widen (k := cs + 1) (n := ss + 6) (by omega) (by omega) ?_
                                                        exact B876 _ _ _ _ _ (cs + 1) (ss + 6) (by omega) (by omega) hf hw (lv_sub hl [2, 3, 4, 5, 6] rfl)
                                                      · have hf := si_in c871 hf
                                                        refine lv_iconst (v := 0) X.1 X.2.1 dL_law_874 (by decide) ?_
                                                        exact hret _ _ _ _ _ _ _ _ hf hw (by omega) (by omega) dL_law_875
                                                  · have hf := si_in c854 hf
                                                    refine lv_iconst (v := 0) X.1 X.2.1 dL_law_857 (by decide) ?_
                                                    exact hret _ _ _ _ _ _ _ _ hf hw (by omega) (by omega) dL_law_858
                                                · have hf := si_in c40_20 hf
                                                  rcases Decidable.em ((v6 &&& 63) = 21) with c40_21 | c40_21
                                                  · have hf := si_ip c40_21 hf
                                                    refine lv_tableIn (tgt := 879) X.1 X.2.1 dL_law_40 (by rw [c40_21]; decide) (by rw [c40_21]; decide) (off := 839) (by rw [c40_21]; rfl) (by decide) ?_
                                                    refine lv_aload_n X.1 X.2.1 dL_law_879 rfl (lv_at hl 1 rfl) ?_
                                                    refine lv_aload_n X.1 X.2.1 dL_law_880 rfl (lv_at hl 0 rfl) ?_
                                                    refine lv_iload X.1 X.2.1 dL_law_881 (lv_at hl 4 rfl) ?_
                                                    refine lv_iconst (v := 1) X.1 X.2.1 dL_law_883 (by decide) ?_
                                                    refine lv_iadd X.1 X.2.1 dL_law_884 ?_
                                                    obtain ⟨v101, ev101, hf⟩ := si_ob hf
                                                    refine si_sld X hX hbl hbA hw.2.2 ev101 dL_law_885 ?_
                                                    refine lv_aload_n X.1 X.2.1 dL_law_886 rfl (lv_at hl 0 rfl) ?_
                                                    refine lv_iload X.1 X.2.1 dL_law_887 (lv_at hl 4 rfl) ?_
                                                    refine lv_iconst (v := 2) X.1 X.2.1 dL_law_889 (by decide) ?_
                                                    refine lv_iadd X.1 X.2.1 dL_law_890 ?_
                                                    obtain ⟨v102, ev102, hf⟩ := si_ob hf
                                                    refine si_sld X hX hbl hbA hw.2.2 ev102 dL_law_891 ?_
                                                    refine lv_aload_n X.1 X.2.1 dL_law_892 rfl (lv_at hl 3 rfl) ?_
                                                    obtain ⟨q103, eq103, hf⟩ := si_ob hf
                                                    refine si_cS1 (n := 4) [.ref (E.2.1 0), .int v101, .int v102, .ref (E.2.1 113)] gc_L_testError gi_RL (by decide +kernel) gs_L_testError gm_RL_128 X hw hA hl.1 (c_L_testError l hl0 E F v101 v102 S q103 eq103) ⟨⟨rfl, rfl⟩, Nat.le_of_ble_eq_true rfl, Nat.le_of_ble_eq_true rfl⟩ rfl rfl (Nat.le_of_ble_eq_true rfl) hcs1 dL_law_893 (fun H locs hw => ?_)
                                                    refine lv_istore (lv' := [(5, .int q103.1), (0, .ref b), (1, .ref (E.2.1 0)), (2, .ref (E.2.1 87)), (3, .ref (E.2.1 113)), (4, .int x4)]) X.1 X.2.1 dL_law_896 hl (by decide) rfl (fun ls hl => ?_)
                                                    refine lv_aload_n X.1 X.2.1 dL_law_898 rfl (lv_at hl 3 rfl) ?_
                                                    refine lv_aload_n X.1 X.2.1 dL_law_899 rfl (lv_at hl 1 rfl) ?_
                                                    refine lv_iload X.1 X.2.1 dL_law_900 (lv_at hl 5 rfl) ?_
                                                    refine lv_iconst (v := 1) X.1 X.2.1 dL_law_902 (by decide) ?_
                                                    refine lv_iadd X.1 X.2.1 dL_law_903 ?_
                                                    obtain ⟨v104, ev104, hf⟩ := si_ob hf
                                                    refine si_sld X hX hbl hbA hw.2.2 ev104 dL_law_904 ?_
                                                    refine lv_aload_n X.1 X.2.1 dL_law_905 rfl (lv_at hl 1 rfl) ?_
                                                    refine lv_iload X.1 X.2.1 dL_law_906 (lv_at hl 5 rfl) ?_
                                                    refine lv_iconst (v := 2) X.1 X.2.1 dL_law_908 (by decide) ?_
                                                    refine lv_iadd X.1 X.2.1 dL_law_909 ?_
                                                    obtain ⟨v105, ev105, hf⟩ := si_ob hf
                                                    refine si_sld X hX hbl hbA hw.2.2 ev105 dL_law_910 ?_
                                                    obtain ⟨q106, eq106, hf⟩ := si_ob hf
                                                    refine si_cVi [.int v104, .int v105] cal_X10_testError gm_RL_130 X hw hA hl.1 (c_X10_testError l E F v104 v105 q103.2 q106 eq106) si_cl10 rfl ⟨⟨rfl, rfl⟩, Nat.le_of_ble_eq_true rfl, Nat.le_of_ble_eq_true rfl⟩ rfl rfl (Nat.le_of_ble_eq_true rfl) hcs1 dL_law_911 (fun H locs hw => ?_)
                                                    refine lv_istore (lv' := [(6, .int q106.1), (5, .int q103.1), (0, .ref b), (1, .ref (E.2.1 0)), (2, .ref (E.2.1 87)), (3, .ref (E.2.1 113)), (4, .int x4)]) X.1 X.2.1 dL_law_914 hl (by decide) rfl (fun ls hl => ?_)
                                                    refine lv_aload_n X.1 X.2.1 dL_law_916 rfl (lv_at hl 4 rfl) ?_
                                                    obtain ⟨q107, eq107, hf⟩ := si_ob hf
                                                    refine si_cVi [] cal_X10_thrown gm_RL_81 X hw hA hl.1 (c_X10_thrown l E F q106.2 q107 eq107) si_cl10 rfl ⟨⟨rfl, rfl⟩, Nat.le_of_ble_eq_true rfl, Nat.le_of_ble_eq_true rfl⟩ rfl rfl (Nat.le_of_ble_eq_true rfl) hcs1 dL_law_917 (fun H locs hw => ?_)
                                                    refine lv_iload X.1 X.2.1 dL_law_920 (lv_at hl 1 rfl) ?_
                                                    refine lv_icmp_eq (tgt := 927) X.1 X.2.1 dL_law_922 (by decide) (fun c922 => ?_) (fun c922 => ?_)
                                                    · have hf := si_ip c922 hf
                                                      refine lv_iload X.1 X.2.1 dL_law_927 (lv_at hl 1 rfl) ?_
                                                      refine lv_if_ne (tgt := 944) X.1 X.2.1 dL_law_929 (by decide) (fun c929 => ?_) (fun c929 => ?_)
                                                      · have hf := si_in c929 hf
                                                        refine W.widen (k := cs + 1) (n := ss + 6) (by omega) (by omega) ?_
                                                        exact B944 _ _ _ _ _ (cs + 1) (ss + 6) (by omega) (by omega) hf hw (lv_sub hl [2, 3, 4, 5, 6] rfl)
                                                      · have hf := si_ip c929 hf
                                                        refine lv_aload_n X.1 X.2.1 dL_law_932 rfl (lv_at hl 5 rfl) ?_
                                                        refine lv_iconst (v := 0) X.1 X.2.1 dL_law_933 (by decide) ?_
                                                        obtain ⟨v108, ev108, hf⟩ := si_ob hf
                                                        refine si_lald X hw rfl ev108 dL_law_934 ?_
                                                        refine lv_iload X.1 X.2.1 dL_law_935 (lv_at hl 0 rfl) ?_
                                                        refine lv_i2l (v := (Int32.toInt64 q106.1)) X.1 X.2.1 dL_law_937 rfl ?_
                                                        refine W.lcmp X.1 X.2.1 dL_law_938 ?_
                                                        refine lv_if_eq (tgt := 944) X.1 X.2.1 dL_law_939 (by decide) (fun c939 => ?_) (fun c939 => ?_)
                                                        · have hf := si_ip c939 hf
                                                          refine W.widen (k := cs + 1) (n := ss + 6) (by omega) (by omega) ?_
                                                          exact B944 _ _ _ _ _ (cs + 1) (ss + 6) (by omega) (by omega) hf hw (lv_sub hl [2, 3, 4, 5, 6] rfl)
                                                        · have hf := si_in c939 hf
                                                          refine lv_iconst (v := 0) X.1 X.2.1 dL_law_942 (by decide) ?_
                                                          exact hret _ _ _ _ _ _ _ _ hf hw (by omega) (by omega) dL_law_943
                                                    · have hf := si_in c922 hf
                                                      refine lv_iconst (v := 0) X.1 X.2.1 dL_law_925 (by decide) ?_
                                                      exact hret _ _ _ _ _ _ _ _ hf hw (by omega) (by omega) dL_law_926
                                                  · have hf := si_in c40_21 hf
                                                    rcases Decidable.em ((v6 &&& 63) = 22) with c40_22 | c40_22
                                                    · have hf := si_ip c40_22 hf
                                                      refine lv_tableIn (tgt := 947) X.1 X.2.1 dL_law_40 (by rw [c40_22]; decide) (by rw [c40_22]; decide) (off := 907) (by rw [c40_22]; rfl) (by decide) ?_
                                                      refine lv_aload_n X.1 X.2.1 dL_law_947 rfl (lv_at hl 1 rfl) ?_
                                                      refine lv_aload_n X.1 X.2.1 dL_law_948 rfl (lv_at hl 0 rfl) ?_
                                                      refine lv_iload X.1 X.2.1 dL_law_949 (lv_at hl 4 rfl) ?_
                                                      refine lv_iconst (v := 1) X.1 X.2.1 dL_law_951 (by decide) ?_
                                                      refine lv_iadd X.1 X.2.1 dL_law_952 ?_
                                                      obtain ⟨v109, ev109, hf⟩ := si_ob hf
                                                      refine si_sld X hX hbl hbA hw.2.2 ev109 dL_law_953 ?_
                                                      refine lv_aload_n X.1 X.2.1 dL_law_954 rfl (lv_at hl 0 rfl) ?_
                                                      refine lv_iload X.1 X.2.1 dL_law_955 (lv_at hl 4 rfl) ?_
                                                      refine lv_iconst (v := 2) X.1 X.2.1 dL_law_957 (by decide) ?_
                                                      refine lv_iadd X.1 X.2.1 dL_law_958 ?_
                                                      obtain ⟨v110, ev110, hf⟩ := si_ob hf
                                                      refine si_sld X hX hbl hbA hw.2.2 ev110 dL_law_959 ?_
                                                      refine lv_aload_n X.1 X.2.1 dL_law_960 rfl (lv_at hl 3 rfl) ?_
                                                      obtain ⟨q111, eq111, hf⟩ := si_ob hf
                                                      refine si_cS1 (n := 4) [.ref (E.2.1 0), .int v109, .int v110, .ref (E.2.1 113)] gc_L_testPasses gi_RL (by decide +kernel) gs_L_testPasses gm_RL_131 X hw hA hl.1 (c_L_testPasses l hl0 E F v109 v110 S q111 eq111) ⟨⟨rfl, rfl⟩, Nat.le_of_ble_eq_true rfl, Nat.le_of_ble_eq_true rfl⟩ rfl rfl (Nat.le_of_ble_eq_true rfl) hcs1 dL_law_961 (fun H locs hw => ?_)
                                                      refine lv_istore (lv' := [(5, .int q111.1), (0, .ref b), (1, .ref (E.2.1 0)), (2, .ref (E.2.1 87)), (3, .ref (E.2.1 113)), (4, .int x4)]) X.1 X.2.1 dL_law_964 hl (by decide) rfl (fun ls hl => ?_)
                                                      refine lv_aload_n X.1 X.2.1 dL_law_966 rfl (lv_at hl 3 rfl) ?_
                                                      refine lv_aload_n X.1 X.2.1 dL_law_967 rfl (lv_at hl 1 rfl) ?_
                                                      refine lv_iload X.1 X.2.1 dL_law_968 (lv_at hl 5 rfl) ?_
                                                      refine lv_iconst (v := 1) X.1 X.2.1 dL_law_970 (by decide) ?_
                                                      refine lv_iadd X.1 X.2.1 dL_law_971 ?_
                                                      obtain ⟨v112, ev112, hf⟩ := si_ob hf
                                                      refine si_sld X hX hbl hbA hw.2.2 ev112 dL_law_972 ?_
                                                      refine lv_aload_n X.1 X.2.1 dL_law_973 rfl (lv_at hl 1 rfl) ?_
                                                      refine lv_iload X.1 X.2.1 dL_law_974 (lv_at hl 5 rfl) ?_
                                                      refine lv_iconst (v := 2) X.1 X.2.1 dL_law_976 (by decide) ?_
                                                      refine lv_iadd X.1 X.2.1 dL_law_977 ?_
                                                      obtain ⟨v113, ev113, hf⟩ := si_ob hf
                                                      refine si_sld X hX hbl hbA hw.2.2 ev113 dL_law_978 ?_
                                                      obtain ⟨q114, eq114, hf⟩ := si_ob hf
                                                      refine si_cVi [.int v112, .int v113] cal_X10_testPasses gm_RL_133 X hw hA hl.1 (c_X10_testPasses l E F v112 v113 q111.2 q114 eq114) si_cl10 rfl ⟨⟨rfl, rfl⟩, Nat.le_of_ble_eq_true rfl, Nat.le_of_ble_eq_true rfl⟩ rfl rfl (Nat.le_of_ble_eq_true rfl) hcs1 dL_law_979 (fun H locs hw => ?_)
                                                      refine lv_istore (lv' := [(6, .int q114.1), (5, .int q111.1), (0, .ref b), (1, .ref (E.2.1 0)), (2, .ref (E.2.1 87)), (3, .ref (E.2.1 113)), (4, .int x4)]) X.1 X.2.1 dL_law_982 hl (by decide) rfl (fun ls hl => ?_)
                                                      refine lv_aload_n X.1 X.2.1 dL_law_984 rfl (lv_at hl 4 rfl) ?_
                                                      obtain ⟨q115, eq115, hf⟩ := si_ob hf
                                                      refine si_cVi [] cal_X10_thrown gm_RL_81 X hw hA hl.1 (c_X10_thrown l E F q114.2 q115 eq115) si_cl10 rfl ⟨⟨rfl, rfl⟩, Nat.le_of_ble_eq_true rfl, Nat.le_of_ble_eq_true rfl⟩ rfl rfl (Nat.le_of_ble_eq_true rfl) hcs1 dL_law_985 (fun H locs hw => ?_)
                                                      refine lv_iload X.1 X.2.1 dL_law_988 (lv_at hl 1 rfl) ?_
                                                      refine lv_icmp_eq (tgt := 995) X.1 X.2.1 dL_law_990 (by decide) (fun c990 => ?_) (fun c990 => ?_)
                                                      · have hf := si_ip c990 hf
                                                        refine lv_iload X.1 X.2.1 dL_law_995 (lv_at hl 1 rfl) ?_
                                                        refine lv_if_ne (tgt := 1019) X.1 X.2.1 dL_law_997 (by decide) (fun c997 => ?_) (fun c997 => ?_)
                                                        · have hf := si_in c997 hf
                                                          refine W.widen (k := cs + 1) (n := ss + 6) (by omega) (by omega) ?_
                                                          exact B1019 _ _ _ _ _ (cs + 1) (ss + 6) (by omega) (by omega) hf hw (lv_sub hl [2, 3, 4, 5, 6] rfl)
                                                        · have hf := si_ip c997 hf
                                                          refine lv_aload_n X.1 X.2.1 dL_law_1000 rfl (lv_at hl 5 rfl) ?_
                                                          refine lv_iconst (v := 0) X.1 X.2.1 dL_law_1001 (by decide) ?_
                                                          obtain ⟨v116, ev116, hf⟩ := si_ob hf
                                                          refine si_lald X hw rfl ev116 dL_law_1002 ?_
                                                          refine lv_iload X.1 X.2.1 dL_law_1003 (lv_at hl 0 rfl) ?_
                                                          refine lv_if_eq (tgt := 1012) X.1 X.2.1 dL_law_1005 (by decide) (fun c1005 => ?_) (fun c1005 => ?_)
                                                          · have hf := si_ip c1005 hf
                                                            refine lv_lconst (v := (0 : Int64)) X.1 X.2.1 dL_law_1012 (by decide) ?_
                                                            refine W.widen (k := cs + 1) (n := ss + 6) (by omega) (by omega) ?_
                                                            exact B1013 _ _ _ _ _ _ _ (cs + 1) (ss + 6) (by omega) (by omega) hf hw (lv_sub hl [2, 3, 4, 5, 6] rfl)
                                                          · have hf := si_in c1005 hf
                                                            refine lv_lconst (v := (1 : Int64)) X.1 X.2.1 dL_law_1008 (by decide) ?_
                                                            refine lv_goto (tgt := 1013) X.1 X.2.1 dL_law_1009 (by decide) ?_
                                                            refine W.widen (k := cs + 1) (n := ss + 6) (by omega) (by omega) ?_
                                                            exact B1013 _ _ _ _ _ _ _ (cs + 1) (ss + 6) (by omega) (by omega) hf hw (lv_sub hl [2, 3, 4, 5, 6] rfl)
                                                      · have hf := si_in c990 hf
                                                        refine lv_iconst (v := 0) X.1 X.2.1 dL_law_993 (by decide) ?_
                                                        exact hret _ _ _ _ _ _ _ _ hf hw (by omega) (by omega) dL_law_994
                                                    · have hf := si_in c40_22 hf
                                                      rcases Decidable.em ((v6 &&& 63) = 23) with c40_23 | c40_23
                                                      · have hf := si_ip c40_23 hf
                                                        refine lv_tableIn (tgt := 1022) X.1 X.2.1 dL_law_40 (by rw [c40_23]; decide) (by rw [c40_23]; decide) (off := 982) (by rw [c40_23]; rfl) (by decide) ?_
                                                        refine lv_aload_n X.1 X.2.1 dL_law_1022 rfl (lv_at hl 1 rfl) ?_
                                                        refine lv_aload_n X.1 X.2.1 dL_law_1023 rfl (lv_at hl 0 rfl) ?_
                                                        refine lv_iload X.1 X.2.1 dL_law_1024 (lv_at hl 4 rfl) ?_
                                                        refine lv_iconst (v := 1) X.1 X.2.1 dL_law_1026 (by decide) ?_
                                                        refine lv_iadd X.1 X.2.1 dL_law_1027 ?_
                                                        obtain ⟨v117, ev117, hf⟩ := si_ob hf
                                                        refine si_sld X hX hbl hbA hw.2.2 ev117 dL_law_1028 ?_
                                                        obtain ⟨q118, eq118, hf⟩ := si_ob hf
                                                        refine si_cVi [.int v117] cal_X9_verdict gm_RL_134 X hw hA hl.1 (c_X9_verdict l E F v117 S q118 eq118) si_cl9 rfl ⟨⟨rfl, rfl⟩, Nat.le_of_ble_eq_true rfl, Nat.le_of_ble_eq_true rfl⟩ rfl rfl (Nat.le_of_ble_eq_true rfl) hcs0 dL_law_1029 (fun H locs hw => ?_)
                                                        refine lv_aload_n X.1 X.2.1 dL_law_1032 rfl (lv_at hl 2 rfl) ?_
                                                        refine lv_aload_n X.1 X.2.1 dL_law_1033 rfl (lv_at hl 0 rfl) ?_
                                                        refine lv_iload X.1 X.2.1 dL_law_1034 (lv_at hl 4 rfl) ?_
                                                        refine lv_iconst (v := 1) X.1 X.2.1 dL_law_1036 (by decide) ?_
                                                        refine lv_iadd X.1 X.2.1 dL_law_1037 ?_
                                                        obtain ⟨v119, ev119, hf⟩ := si_ob hf
                                                        refine si_sld X hX hbl hbA hw.2.2 ev119 dL_law_1038 ?_
                                                        obtain ⟨q120, eq120, hf⟩ := si_ob hf
                                                        refine si_cVi [.int v119] cal_X10_verdict gm_RL_137 X hw hA hl.1 (c_X10_verdict l E F v119 q118.2 q120 eq120) si_cl10 rfl ⟨⟨rfl, rfl⟩, Nat.le_of_ble_eq_true rfl, Nat.le_of_ble_eq_true rfl⟩ rfl rfl (Nat.le_of_ble_eq_true rfl) hcs0 dL_law_1039 (fun H locs hw => ?_)
                                                        refine lv_icmp_eq (tgt := 1840) X.1 X.2.1 dL_law_1042 (by decide) (fun c1042 => ?_) (fun c1042 => ?_)
                                                        · have hf := si_ip c1042 hf
                                                          refine W.widen (k := cs + 1) (n := ss + 6) (by omega) (by omega) ?_
                                                          exact B1840 _ _ _ _ _ (cs + 1) (ss + 6) (by omega) (by omega) hf hw (lv_sub hl [0, 1, 2, 3, 4] rfl)
                                                        · have hf := si_in c1042 hf
                                                          refine lv_iconst (v := 0) X.1 X.2.1 dL_law_1045 (by decide) ?_
                                                          exact hret _ _ _ _ _ _ _ _ hf hw (by omega) (by omega) dL_law_1046
                                                      · have hf := si_in c40_23 hf
                                                        rcases Decidable.em ((v6 &&& 63) = 24) with c40_24 | c40_24
                                                        · have hf := si_ip c40_24 hf
                                                          refine lv_tableIn (tgt := 1047) X.1 X.2.1 dL_law_40 (by rw [c40_24]; decide) (by rw [c40_24]; decide) (off := 1007) (by rw [c40_24]; rfl) (by decide) ?_
                                                          refine lv_aload_n X.1 X.2.1 dL_law_1047 rfl (lv_at hl 1 rfl) ?_
                                                          refine lv_aload_n X.1 X.2.1 dL_law_1048 rfl (lv_at hl 0 rfl) ?_
                                                          refine lv_iload X.1 X.2.1 dL_law_1049 (lv_at hl 4 rfl) ?_
                                                          refine lv_iconst (v := 1) X.1 X.2.1 dL_law_1051 (by decide) ?_
                                                          refine lv_iadd X.1 X.2.1 dL_law_1052 ?_
                                                          obtain ⟨v121, ev121, hf⟩ := si_ob hf
                                                          refine si_sld X hX hbl hbA hw.2.2 ev121 dL_law_1053 ?_
                                                          refine lv_aload_n X.1 X.2.1 dL_law_1054 rfl (lv_at hl 3 rfl) ?_
                                                          obtain ⟨q122, eq122, hf⟩ := si_ob hf
                                                          refine si_cS1 (n := 3) [.ref (E.2.1 0), .int v121, .ref (E.2.1 113)] gc_L_adjustment gi_RL (by decide +kernel) gs_L_adjustment gm_RL_138 X hw hA hl.1 (c_L_adjustment l hl0 E F v121 S q122 eq122) ⟨⟨rfl, rfl⟩, Nat.le_of_ble_eq_true rfl, Nat.le_of_ble_eq_true rfl⟩ rfl rfl (Nat.le_of_ble_eq_true rfl) hcs1 dL_law_1055 (fun H locs hw => ?_)
                                                          refine lv_istore (lv' := [(5, .int q122.1), (0, .ref b), (1, .ref (E.2.1 0)), (2, .ref (E.2.1 87)), (3, .ref (E.2.1 113)), (4, .int x4)]) X.1 X.2.1 dL_law_1058 hl (by decide) rfl (fun ls hl => ?_)
                                                          refine lv_aload_n X.1 X.2.1 dL_law_1060 rfl (lv_at hl 3 rfl) ?_
                                                          refine lv_aload_n X.1 X.2.1 dL_law_1061 rfl (lv_at hl 1 rfl) ?_
                                                          refine lv_iload X.1 X.2.1 dL_law_1062 (lv_at hl 5 rfl) ?_
                                                          refine lv_iconst (v := 1) X.1 X.2.1 dL_law_1064 (by decide) ?_
                                                          refine lv_iadd X.1 X.2.1 dL_law_1065 ?_
                                                          obtain ⟨v123, ev123, hf⟩ := si_ob hf
                                                          refine si_sld X hX hbl hbA hw.2.2 ev123 dL_law_1066 ?_
                                                          obtain ⟨q124, eq124, hf⟩ := si_ob hf
                                                          refine si_cVi [.int v123] cal_X10_adjustment gm_RL_141 X hw hA hl.1 (c_X10_adjustment l E F v123 q122.2 q124 eq124) si_cl10 rfl ⟨⟨rfl, rfl⟩, Nat.le_of_ble_eq_true rfl, Nat.le_of_ble_eq_true rfl⟩ rfl rfl (Nat.le_of_ble_eq_true rfl) hcs1 dL_law_1067 (fun H locs hw => ?_)
                                                          refine lv_istore (lv' := [(6, .int q124.1), (5, .int q122.1), (0, .ref b), (1, .ref (E.2.1 0)), (2, .ref (E.2.1 87)), (3, .ref (E.2.1 113)), (4, .int x4)]) X.1 X.2.1 dL_law_1070 hl (by decide) rfl (fun ls hl => ?_)
                                                          refine lv_aload_n X.1 X.2.1 dL_law_1072 rfl (lv_at hl 4 rfl) ?_
                                                          obtain ⟨q125, eq125, hf⟩ := si_ob hf
                                                          refine si_cVi [] cal_X10_thrown gm_RL_81 X hw hA hl.1 (c_X10_thrown l E F q124.2 q125 eq125) si_cl10 rfl ⟨⟨rfl, rfl⟩, Nat.le_of_ble_eq_true rfl, Nat.le_of_ble_eq_true rfl⟩ rfl rfl (Nat.le_of_ble_eq_true rfl) hcs1 dL_law_1073 (fun H locs hw => ?_)
                                                          refine lv_iload X.1 X.2.1 dL_law_1076 (lv_at hl 1 rfl) ?_
                                                          refine lv_icmp_eq (tgt := 1083) X.1 X.2.1 dL_law_1078 (by decide) (fun c1078 => ?_) (fun c1078 => ?_)
                                                          · have hf := si_ip c1078 hf
                                                            refine lv_iload X.1 X.2.1 dL_law_1083 (lv_at hl 1 rfl) ?_
                                                            refine lv_if_ne (tgt := 1100) X.1 X.2.1 dL_law_1085 (by decide) (fun c1085 => ?_) (fun c1085 => ?_)
                                                            · have hf := si_in c1085 hf
                                                              refine W.widen (k := cs + 1) (n := ss + 6) (by omega) (by omega) ?_
                                                              exact B1100 _ _ _ _ _ (cs + 1) (ss + 6) (by omega) (by omega) hf hw (lv_sub hl [2, 3, 4, 5, 6] rfl)
                                                            · have hf := si_ip c1085 hf
                                                              refine lv_aload_n X.1 X.2.1 dL_law_1088 rfl (lv_at hl 5 rfl) ?_
                                                              refine lv_iconst (v := 0) X.1 X.2.1 dL_law_1089 (by decide) ?_
                                                              obtain ⟨v126, ev126, hf⟩ := si_ob hf
                                                              refine si_lald X hw rfl ev126 dL_law_1090 ?_
                                                              refine lv_iload X.1 X.2.1 dL_law_1091 (lv_at hl 0 rfl) ?_
                                                              refine lv_i2l (v := (Int32.toInt64 q124.1)) X.1 X.2.1 dL_law_1093 rfl ?_
                                                              refine W.lcmp X.1 X.2.1 dL_law_1094 ?_
                                                              refine lv_if_eq (tgt := 1100) X.1 X.2.1 dL_law_1095 (by decide) (fun c1095 => ?_) (fun c1095 => ?_)
                                                              · have hf := si_ip c1095 hf
                                                                refine W.widen (k := cs + 1) (n := ss + 6) (by omega) (by omega) ?_
                                                                exact B1100 _ _ _ _ _ (cs + 1) (ss + 6) (by omega) (by omega) hf hw (lv_sub hl [2, 3, 4, 5, 6] rfl)
                                                              · have hf := si_in c1095 hf
                                                                refine lv_iconst (v := 0) X.1 X.2.1 dL_law_1098 (by decide) ?_
                                                                exact hret _ _ _ _ _ _ _ _ hf hw (by omega) (by omega) dL_law_1099
                                                          · have hf := si_in c1078 hf
                                                            refine lv_iconst (v := 0) X.1 X.2.1 dL_law_1081 (by decide) ?_
                                                            exact hret _ _ _ _ _ _ _ _ hf hw (by omega) (by omega) dL_law_1082
                                                        · have hf := si_in c40_24 hf
                                                          rcases Decidable.em ((v6 &&& 63) = 25) with c40_25 | c40_25
                                                          · have hf := si_ip c40_25 hf
                                                            refine lv_tableIn (tgt := 1103) X.1 X.2.1 dL_law_40 (by rw [c40_25]; decide) (by rw [c40_25]; decide) (off := 1063) (by rw [c40_25]; rfl) (by decide) ?_
                                                            refine lv_aload_n X.1 X.2.1 dL_law_1103 rfl (lv_at hl 1 rfl) ?_
                                                            refine lv_aload_n X.1 X.2.1 dL_law_1104 rfl (lv_at hl 0 rfl) ?_
                                                            refine lv_iload X.1 X.2.1 dL_law_1105 (lv_at hl 4 rfl) ?_
                                                            refine lv_iconst (v := 1) X.1 X.2.1 dL_law_1107 (by decide) ?_
                                                            refine lv_iadd X.1 X.2.1 dL_law_1108 ?_
                                                            obtain ⟨v127, ev127, hf⟩ := si_ob hf
                                                            refine si_sld X hX hbl hbA hw.2.2 ev127 dL_law_1109 ?_
                                                            obtain ⟨q128, eq128, hf⟩ := si_ob hf
                                                            refine si_cVi [.int v127] cal_X9_adjustedVerdict gm_RL_142 X hw hA hl.1 (c_X9_adjustedVerdict l E F v127 S q128 eq128) si_cl9 rfl ⟨⟨rfl, rfl⟩, Nat.le_of_ble_eq_true rfl, Nat.le_of_ble_eq_true rfl⟩ rfl rfl (Nat.le_of_ble_eq_true rfl) hcs0 dL_law_1110 (fun H locs hw => ?_)
                                                            refine lv_aload_n X.1 X.2.1 dL_law_1113 rfl (lv_at hl 2 rfl) ?_
                                                            refine lv_aload_n X.1 X.2.1 dL_law_1114 rfl (lv_at hl 0 rfl) ?_
                                                            refine lv_iload X.1 X.2.1 dL_law_1115 (lv_at hl 4 rfl) ?_
                                                            refine lv_iconst (v := 1) X.1 X.2.1 dL_law_1117 (by decide) ?_
                                                            refine lv_iadd X.1 X.2.1 dL_law_1118 ?_
                                                            obtain ⟨v129, ev129, hf⟩ := si_ob hf
                                                            refine si_sld X hX hbl hbA hw.2.2 ev129 dL_law_1119 ?_
                                                            obtain ⟨q130, eq130, hf⟩ := si_ob hf
                                                            refine si_cVi [.int v129] cal_X10_adjustedVerdict gm_RL_145 X hw hA hl.1 (c_X10_adjustedVerdict l E F v129 q128.2 q130 eq130) si_cl10 rfl ⟨⟨rfl, rfl⟩, Nat.le_of_ble_eq_true rfl, Nat.le_of_ble_eq_true rfl⟩ rfl rfl (Nat.le_of_ble_eq_true rfl) hcs0 dL_law_1120 (fun H locs hw => ?_)
                                                            refine lv_icmp_eq (tgt := 1840) X.1 X.2.1 dL_law_1123 (by decide) (fun c1123 => ?_) (fun c1123 => ?_)
                                                            · have hf := si_ip c1123 hf
                                                              refine W.widen (k := cs + 1) (n := ss + 6) (by omega) (by omega) ?_
                                                              exact B1840 _ _ _ _ _ (cs + 1) (ss + 6) (by omega) (by omega) hf hw (lv_sub hl [0, 1, 2, 3, 4] rfl)
                                                            · have hf := si_in c1123 hf
                                                              refine lv_iconst (v := 0) X.1 X.2.1 dL_law_1126 (by decide) ?_
                                                              exact hret _ _ _ _ _ _ _ _ hf hw (by omega) (by omega) dL_law_1127
                                                          · have hf := si_in c40_25 hf
                                                            rcases Decidable.em ((v6 &&& 63) = 26) with c40_26 | c40_26
                                                            · have hf := si_ip c40_26 hf
                                                              refine lv_tableIn (tgt := 1128) X.1 X.2.1 dL_law_40 (by rw [c40_26]; decide) (by rw [c40_26]; decide) (off := 1088) (by rw [c40_26]; rfl) (by decide) ?_
                                                              refine lv_aload_n X.1 X.2.1 dL_law_1128 rfl (lv_at hl 1 rfl) ?_
                                                              refine lv_aload_n X.1 X.2.1 dL_law_1129 rfl (lv_at hl 0 rfl) ?_
                                                              refine lv_iload X.1 X.2.1 dL_law_1130 (lv_at hl 4 rfl) ?_
                                                              refine lv_iconst (v := 1) X.1 X.2.1 dL_law_1132 (by decide) ?_
                                                              refine lv_iadd X.1 X.2.1 dL_law_1133 ?_
                                                              obtain ⟨v131, ev131, hf⟩ := si_ob hf
                                                              refine si_sld X hX hbl hbA hw.2.2 ev131 dL_law_1134 ?_
                                                              obtain ⟨q132, eq132, hf⟩ := si_ob hf
                                                              refine si_cVi [.int v131] cal_X9_closeVisit gm_RL_146 X hw hA hl.1 (c_X9_closeVisit l E F v131 S q132 eq132) si_cl9 rfl ⟨⟨rfl, rfl⟩, Nat.le_of_ble_eq_true rfl, Nat.le_of_ble_eq_true rfl⟩ rfl rfl (Nat.le_of_ble_eq_true rfl) hcs0 dL_law_1135 (fun H locs hw => ?_)
                                                              refine lv_aload_n X.1 X.2.1 dL_law_1138 rfl (lv_at hl 2 rfl) ?_
                                                              refine lv_aload_n X.1 X.2.1 dL_law_1139 rfl (lv_at hl 0 rfl) ?_
                                                              refine lv_iload X.1 X.2.1 dL_law_1140 (lv_at hl 4 rfl) ?_
                                                              refine lv_iconst (v := 1) X.1 X.2.1 dL_law_1142 (by decide) ?_
                                                              refine lv_iadd X.1 X.2.1 dL_law_1143 ?_
                                                              obtain ⟨v133, ev133, hf⟩ := si_ob hf
                                                              refine si_sld X hX hbl hbA hw.2.2 ev133 dL_law_1144 ?_
                                                              obtain ⟨q134, eq134, hf⟩ := si_ob hf
                                                              refine si_cVi [.int v133] cal_X10_closeVisit gm_RL_149 X hw hA hl.1 (c_X10_closeVisit l E F v133 q132.2 q134 eq134) si_cl10 rfl ⟨⟨rfl, rfl⟩, Nat.le_of_ble_eq_true rfl, Nat.le_of_ble_eq_true rfl⟩ rfl rfl (Nat.le_of_ble_eq_true rfl) hcs0 dL_law_1145 (fun H locs hw => ?_)
                                                              refine lv_icmp_eq (tgt := 1840) X.1 X.2.1 dL_law_1148 (by decide) (fun c1148 => ?_) (fun c1148 => ?_)
                                                              · have hf := si_ip c1148 hf
                                                                refine W.widen (k := cs + 1) (n := ss + 6) (by omega) (by omega) ?_
                                                                exact B1840 _ _ _ _ _ (cs + 1) (ss + 6) (by omega) (by omega) hf hw (lv_sub hl [0, 1, 2, 3, 4] rfl)
                                                              · have hf := si_in c1148 hf
                                                                refine lv_iconst (v := 0) X.1 X.2.1 dL_law_1151 (by decide) ?_
                                                                exact hret _ _ _ _ _ _ _ _ hf hw (by omega) (by omega) dL_law_1152
                                                            · have hf := si_in c40_26 hf
                                                              rcases Decidable.em ((v6 &&& 63) = 27) with c40_27 | c40_27
                                                              · have hf := si_ip c40_27 hf
                                                                refine lv_tableIn (tgt := 1153) X.1 X.2.1 dL_law_40 (by rw [c40_27]; decide) (by rw [c40_27]; decide) (off := 1113) (by rw [c40_27]; rfl) (by decide) ?_
                                                                refine lv_aload_n X.1 X.2.1 dL_law_1153 rfl (lv_at hl 1 rfl) ?_
                                                                refine lv_aload_n X.1 X.2.1 dL_law_1154 rfl (lv_at hl 0 rfl) ?_
                                                                refine lv_iload X.1 X.2.1 dL_law_1155 (lv_at hl 4 rfl) ?_
                                                                refine lv_iconst (v := 1) X.1 X.2.1 dL_law_1157 (by decide) ?_
                                                                refine lv_iadd X.1 X.2.1 dL_law_1158 ?_
                                                                obtain ⟨v135, ev135, hf⟩ := si_ob hf
                                                                refine si_sld X hX hbl hbA hw.2.2 ev135 dL_law_1159 ?_
                                                                obtain ⟨q136, eq136, hf⟩ := si_ob hf
                                                                refine si_cVi [.int v135] cal_X9_isClosed gm_RL_150 X hw hA hl.1 (c_X9_isClosed l E F v135 S q136 eq136) si_cl9 rfl ⟨⟨rfl, rfl⟩, Nat.le_of_ble_eq_true rfl, Nat.le_of_ble_eq_true rfl⟩ rfl rfl (Nat.le_of_ble_eq_true rfl) hcs0 dL_law_1160 (fun H locs hw => ?_)
                                                                refine lv_aload_n X.1 X.2.1 dL_law_1163 rfl (lv_at hl 2 rfl) ?_
                                                                refine lv_aload_n X.1 X.2.1 dL_law_1164 rfl (lv_at hl 0 rfl) ?_
                                                                refine lv_iload X.1 X.2.1 dL_law_1165 (lv_at hl 4 rfl) ?_
                                                                refine lv_iconst (v := 1) X.1 X.2.1 dL_law_1167 (by decide) ?_
                                                                refine lv_iadd X.1 X.2.1 dL_law_1168 ?_
                                                                obtain ⟨v137, ev137, hf⟩ := si_ob hf
                                                                refine si_sld X hX hbl hbA hw.2.2 ev137 dL_law_1169 ?_
                                                                obtain ⟨q138, eq138, hf⟩ := si_ob hf
                                                                refine si_cVi [.int v137] cal_X10_isClosed gm_RL_153 X hw hA hl.1 (c_X10_isClosed l E F v137 q136.2 q138 eq138) si_cl10 rfl ⟨⟨rfl, rfl⟩, Nat.le_of_ble_eq_true rfl, Nat.le_of_ble_eq_true rfl⟩ rfl rfl (Nat.le_of_ble_eq_true rfl) hcs0 dL_law_1170 (fun H locs hw => ?_)
                                                                refine lv_icmp_eq (tgt := 1840) X.1 X.2.1 dL_law_1173 (by decide) (fun c1173 => ?_) (fun c1173 => ?_)
                                                                · have hf := si_ip c1173 hf
                                                                  refine W.widen (k := cs + 1) (n := ss + 6) (by omega) (by omega) ?_
                                                                  exact B1840 _ _ _ _ _ (cs + 1) (ss + 6) (by omega) (by omega) hf hw (lv_sub hl [0, 1, 2, 3, 4] rfl)
                                                                · have hf := si_in c1173 hf
                                                                  refine lv_iconst (v := 0) X.1 X.2.1 dL_law_1176 (by decide) ?_
                                                                  exact hret _ _ _ _ _ _ _ _ hf hw (by omega) (by omega) dL_law_1177
                                                              · have hf := si_in c40_27 hf
                                                                rcases Decidable.em ((v6 &&& 63) = 28) with c40_28 | c40_28
                                                                · have hf := si_ip c40_28 hf
                                                                  refine lv_tableIn (tgt := 1178) X.1 X.2.1 dL_law_40 (by rw [c40_28]; decide) (by rw [c40_28]; decide) (off := 1138) (by rw [c40_28]; rfl) (by decide) ?_
                                                                  refine lv_aload_n X.1 X.2.1 dL_law_1178 rfl (lv_at hl 1 rfl) ?_
                                                                  refine lv_aload_n X.1 X.2.1 dL_law_1179 rfl (lv_at hl 0 rfl) ?_
                                                                  refine lv_iload X.1 X.2.1 dL_law_1180 (lv_at hl 4 rfl) ?_
                                                                  refine lv_iconst (v := 1) X.1 X.2.1 dL_law_1182 (by decide) ?_
                                                                  refine lv_iadd X.1 X.2.1 dL_law_1183 ?_
                                                                  obtain ⟨v139, ev139, hf⟩ := si_ob hf
                                                                  refine si_sld X hX hbl hbA hw.2.2 ev139 dL_law_1184 ?_
                                                                  refine lv_aload_n X.1 X.2.1 dL_law_1185 rfl (lv_at hl 0 rfl) ?_
                                                                  refine lv_iload X.1 X.2.1 dL_law_1186 (lv_at hl 4 rfl) ?_
                                                                  refine lv_iconst (v := 2) X.1 X.2.1 dL_law_1188 (by decide) ?_
                                                                  refine lv_iadd X.1 X.2.1 dL_law_1189 ?_
                                                                  obtain ⟨v140, ev140, hf⟩ := si_ob hf
                                                                  refine si_sld X hX hbl hbA hw.2.2 ev140 dL_law_1190 ?_
                                                                  obtain ⟨q141, eq141, hf⟩ := si_ob hf
                                                                  refine si_cVi [.int v139, .int v140] cal_X9_sealState gm_RL_154 X hw hA hl.1 (c_X9_sealState l E F v139 v140 S q141 eq141) si_cl9 rfl ⟨⟨rfl, rfl⟩, Nat.le_of_ble_eq_true rfl, Nat.le_of_ble_eq_true rfl⟩ rfl rfl (Nat.le_of_ble_eq_true rfl) hcs0 dL_law_1191 (fun H locs hw => ?_)
                                                                  refine lv_aload_n X.1 X.2.1 dL_law_1194 rfl (lv_at hl 2 rfl) ?_
                                                                  refine lv_aload_n X.1 X.2.1 dL_law_1195 rfl (lv_at hl 0 rfl) ?_
                                                                  refine lv_iload X.1 X.2.1 dL_law_1196 (lv_at hl 4 rfl) ?_
                                                                  refine lv_iconst (v := 1) X.1 X.2.1 dL_law_1198 (by decide) ?_
                                                                  refine lv_iadd X.1 X.2.1 dL_law_1199 ?_
                                                                  obtain ⟨v142, ev142, hf⟩ := si_ob hf
                                                                  refine si_sld X hX hbl hbA hw.2.2 ev142 dL_law_1200 ?_
                                                                  refine lv_aload_n X.1 X.2.1 dL_law_1201 rfl (lv_at hl 0 rfl) ?_
                                                                  refine lv_iload X.1 X.2.1 dL_law_1202 (lv_at hl 4 rfl) ?_
                                                                  refine lv_iconst (v := 2) X.1 X.2.1 dL_law_1204 (by decide) ?_
                                                                  refine lv_iadd X.1 X.2.1 dL_law_1205 ?_
                                                                  obtain ⟨v143, ev143, hf⟩ := si_ob hf
                                                                  refine si_sld X hX hbl hbA hw.2.2 ev143 dL_law_1206 ?_
                                                                  obtain ⟨q144, eq144, hf⟩ := si_ob hf
                                                                  refine si_cVi [.int v142, .int v143] cal_X10_sealState gm_RL_157 X hw hA hl.1 (c_X10_sealState l E F v142 v143 q141.2 q144 eq144) si_cl10 rfl ⟨⟨rfl, rfl⟩, Nat.le_of_ble_eq_true rfl, Nat.le_of_ble_eq_true rfl⟩ rfl rfl (Nat.le_of_ble_eq_true rfl) hcs0 dL_law_1207 (fun H locs hw => ?_)
                                                                  refine lv_icmp_eq (tgt := 1840) X.1 X.2.1 dL_law_1210 (by decide) (fun c1210 => ?_) (fun c1210 => ?_)
                                                                  · have hf := si_ip c1210 hf
                                                                    refine W.widen (k := cs + 1) (n := ss + 6) (by omega) (by omega) ?_
                                                                    exact B1840 _ _ _ _ _ (cs + 1) (ss + 6) (by omega) (by omega) hf hw (lv_sub hl [0, 1, 2, 3, 4] rfl)
                                                                  · have hf := si_in c1210 hf
                                                                    refine lv_iconst (v := 0) X.1 X.2.1 dL_law_1213 (by decide) ?_
                                                                    exact hret _ _ _ _ _ _ _ _ hf hw (by omega) (by omega) dL_law_1214
                                                                · have hf := si_in c40_28 hf
                                                                  rcases Decidable.em ((v6 &&& 63) = 29) with c40_29 | c40_29
                                                                  · have hf := si_ip c40_29 hf
                                                                    refine lv_tableIn (tgt := 1215) X.1 X.2.1 dL_law_40 (by rw [c40_29]; decide) (by rw [c40_29]; decide) (off := 1175) (by rw [c40_29]; rfl) (by decide) ?_
                                                                    refine lv_aload_n X.1 X.2.1 dL_law_1215 rfl (lv_at hl 1 rfl) ?_
                                                                    refine lv_aload_n X.1 X.2.1 dL_law_1216 rfl (lv_at hl 0 rfl) ?_
                                                                    refine lv_iload X.1 X.2.1 dL_law_1217 (lv_at hl 4 rfl) ?_
                                                                    refine lv_iconst (v := 1) X.1 X.2.1 dL_law_1219 (by decide) ?_
                                                                    refine lv_iadd X.1 X.2.1 dL_law_1220 ?_
                                                                    obtain ⟨v145, ev145, hf⟩ := si_ob hf
                                                                    refine si_sld X hX hbl hbA hw.2.2 ev145 dL_law_1221 ?_
                                                                    refine lv_aload_n X.1 X.2.1 dL_law_1222 rfl (lv_at hl 0 rfl) ?_
                                                                    refine lv_iload X.1 X.2.1 dL_law_1223 (lv_at hl 4 rfl) ?_
                                                                    refine lv_iconst (v := 2) X.1 X.2.1 dL_law_1225 (by decide) ?_
                                                                    refine lv_iadd X.1 X.2.1 dL_law_1226 ?_
                                                                    obtain ⟨v146, ev146, hf⟩ := si_ob hf
                                                                    refine si_sld X hX hbl hbA hw.2.2 ev146 dL_law_1227 ?_
                                                                    obtain ⟨q147, eq147, hf⟩ := si_ob hf
                                                                    refine si_cVi [.int v145, .int v146] cal_X9_expiryDay gm_RL_158 X hw hA hl.1 (c_X9_expiryDay l E F v145 v146 S q147 eq147) si_cl9 rfl ⟨⟨rfl, rfl⟩, Nat.le_of_ble_eq_true rfl, Nat.le_of_ble_eq_true rfl⟩ rfl rfl (Nat.le_of_ble_eq_true rfl) hcs0 dL_law_1228 (fun H locs hw => ?_)
                                                                    refine lv_aload_n X.1 X.2.1 dL_law_1231 rfl (lv_at hl 2 rfl) ?_
                                                                    refine lv_aload_n X.1 X.2.1 dL_law_1232 rfl (lv_at hl 0 rfl) ?_
                                                                    refine lv_iload X.1 X.2.1 dL_law_1233 (lv_at hl 4 rfl) ?_
                                                                    refine lv_iconst (v := 1) X.1 X.2.1 dL_law_1235 (by decide) ?_
                                                                    refine lv_iadd X.1 X.2.1 dL_law_1236 ?_
                                                                    obtain ⟨v148, ev148, hf⟩ := si_ob hf
                                                                    refine si_sld X hX hbl hbA hw.2.2 ev148 dL_law_1237 ?_
                                                                    refine lv_aload_n X.1 X.2.1 dL_law_1238 rfl (lv_at hl 0 rfl) ?_
                                                                    refine lv_iload X.1 X.2.1 dL_law_1239 (lv_at hl 4 rfl) ?_
                                                                    refine lv_iconst (v := 2) X.1 X.2.1 dL_law_1241 (by decide) ?_
                                                                    refine lv_iadd X.1 X.2.1 dL_law_1242 ?_
                                                                    obtain ⟨v149, ev149, hf⟩ := si_ob hf
                                                                    refine si_sld X hX hbl hbA hw.2.2 ev149 dL_law_1243 ?_
                                                                    obtain ⟨q150, eq150, hf⟩ := si_ob hf
                                                                    refine si_cVi [.int v148, .int v149] cal_X10_expiryDay gm_RL_161 X hw hA hl.1 (c_X10_expiryDay l E F v148 v149 q147.2 q150 eq150) si_cl10 rfl ⟨⟨rfl, rfl⟩, Nat.le_of_ble_eq_true rfl, Nat.le_of_ble_eq_true rfl⟩ rfl rfl (Nat.le_of_ble_eq_true rfl) hcs0 dL_law_1244 (fun H locs hw => ?_)
                                                                    refine lv_icmp_eq (tgt := 1840) X.1 X.2.1 dL_law_1247 (by decide) (fun c1247 => ?_) (fun c1247 => ?_)
                                                                    · have hf := si_ip c1247 hf
                                                                      refine W.widen (k := cs + 1) (n := ss + 6) (by omega) (by omega) ?_
                                                                      exact B1840 _ _ _ _ _ (cs + 1) (ss + 6) (by omega) (by omega) hf hw (lv_sub hl [0, 1, 2, 3, 4] rfl)
                                                                    · have hf := si_in c1247 hf
                                                                      refine lv_iconst (v := 0) X.1 X.2.1 dL_law_1250 (by decide) ?_
                                                                      exact hret _ _ _ _ _ _ _ _ hf hw (by omega) (by omega) dL_law_1251
                                                                  · have hf := si_in c40_29 hf
                                                                    rcases Decidable.em ((v6 &&& 63) = 30) with c40_30 | c40_30
                                                                    · have hf := si_ip c40_30 hf
                                                                      refine lv_tableIn (tgt := 1252) X.1 X.2.1 dL_law_40 (by rw [c40_30]; decide) (by rw [c40_30]; decide) (off := 1212) (by rw [c40_30]; rfl) (by decide) ?_
                                                                      refine lv_aload_n X.1 X.2.1 dL_law_1252 rfl (lv_at hl 1 rfl) ?_
                                                                      refine lv_aload_n X.1 X.2.1 dL_law_1253 rfl (lv_at hl 0 rfl) ?_
                                                                      refine lv_iload X.1 X.2.1 dL_law_1254 (lv_at hl 4 rfl) ?_
                                                                      refine lv_iconst (v := 1) X.1 X.2.1 dL_law_1256 (by decide) ?_
                                                                      refine lv_iadd X.1 X.2.1 dL_law_1257 ?_
                                                                      obtain ⟨v151, ev151, hf⟩ := si_ob hf
                                                                      refine si_sld X hX hbl hbA hw.2.2 ev151 dL_law_1258 ?_
                                                                      refine lv_aload_n X.1 X.2.1 dL_law_1259 rfl (lv_at hl 0 rfl) ?_
                                                                      refine lv_iload X.1 X.2.1 dL_law_1260 (lv_at hl 4 rfl) ?_
                                                                      refine lv_iconst (v := 2) X.1 X.2.1 dL_law_1262 (by decide) ?_
                                                                      refine lv_iadd X.1 X.2.1 dL_law_1263 ?_
                                                                      obtain ⟨v152, ev152, hf⟩ := si_ob hf
                                                                      refine si_sld X hX hbl hbA hw.2.2 ev152 dL_law_1264 ?_
                                                                      obtain ⟨q153, eq153, hf⟩ := si_ob hf
                                                                      refine si_cVi [.int v151, .int v152] cal_X9_scalesWith gm_RL_162 X hw hA hl.1 (c_X9_scalesWith l E F v151 v152 S q153 eq153) si_cl9 rfl ⟨⟨rfl, rfl⟩, Nat.le_of_ble_eq_true rfl, Nat.le_of_ble_eq_true rfl⟩ rfl rfl (Nat.le_of_ble_eq_true rfl) hcs0 dL_law_1265 (fun H locs hw => ?_)
                                                                      refine lv_aload_n X.1 X.2.1 dL_law_1268 rfl (lv_at hl 2 rfl) ?_
                                                                      refine lv_aload_n X.1 X.2.1 dL_law_1269 rfl (lv_at hl 0 rfl) ?_
                                                                      refine lv_iload X.1 X.2.1 dL_law_1270 (lv_at hl 4 rfl) ?_
                                                                      refine lv_iconst (v := 1) X.1 X.2.1 dL_law_1272 (by decide) ?_
                                                                      refine lv_iadd X.1 X.2.1 dL_law_1273 ?_
                                                                      obtain ⟨v154, ev154, hf⟩ := si_ob hf
                                                                      refine si_sld X hX hbl hbA hw.2.2 ev154 dL_law_1274 ?_
                                                                      refine lv_aload_n X.1 X.2.1 dL_law_1275 rfl (lv_at hl 0 rfl) ?_
                                                                      refine lv_iload X.1 X.2.1 dL_law_1276 (lv_at hl 4 rfl) ?_
                                                                      refine lv_iconst (v := 2) X.1 X.2.1 dL_law_1278 (by decide) ?_
                                                                      refine lv_iadd X.1 X.2.1 dL_law_1279 ?_
                                                                      obtain ⟨v155, ev155, hf⟩ := si_ob hf
                                                                      refine si_sld X hX hbl hbA hw.2.2 ev155 dL_law_1280 ?_
                                                                      obtain ⟨q156, eq156, hf⟩ := si_ob hf
                                                                      refine si_cVi [.int v154, .int v155] cal_X10_scalesWith gm_RL_165 X hw hA hl.1 (c_X10_scalesWith l E F v154 v155 q153.2 q156 eq156) si_cl10 rfl ⟨⟨rfl, rfl⟩, Nat.le_of_ble_eq_true rfl, Nat.le_of_ble_eq_true rfl⟩ rfl rfl (Nat.le_of_ble_eq_true rfl) hcs0 dL_law_1281 (fun H locs hw => ?_)
                                                                      refine lv_icmp_eq (tgt := 1840) X.1 X.2.1 dL_law_1284 (by decide) (fun c1284 => ?_) (fun c1284 => ?_)
                                                                      · have hf := si_ip c1284 hf
                                                                        refine W.widen (k := cs + 1) (n := ss + 6) (by omega) (by omega) ?_
                                                                        exact B1840 _ _ _ _ _ (cs + 1) (ss + 6) (by omega) (by omega) hf hw (lv_sub hl [0, 1, 2, 3, 4] rfl)
                                                                      · have hf := si_in c1284 hf
                                                                        refine lv_iconst (v := 0) X.1 X.2.1 dL_law_1287 (by decide) ?_
                                                                        exact hret _ _ _ _ _ _ _ _ hf hw (by omega) (by omega) dL_law_1288
                                                                    · have hf := si_in c40_30 hf
                                                                      rcases Decidable.em ((v6 &&& 63) = 31) with c40_31 | c40_31
                                                                      · have hf := si_ip c40_31 hf
                                                                        refine lv_tableIn (tgt := 1289) X.1 X.2.1 dL_law_40 (by rw [c40_31]; decide) (by rw [c40_31]; decide) (off := 1249) (by rw [c40_31]; rfl) (by decide) ?_
                                                                        refine lv_aload_n X.1 X.2.1 dL_law_1289 rfl (lv_at hl 1 rfl) ?_
                                                                        refine lv_aload_n X.1 X.2.1 dL_law_1290 rfl (lv_at hl 0 rfl) ?_
                                                                        refine lv_iload X.1 X.2.1 dL_law_1291 (lv_at hl 4 rfl) ?_
                                                                        refine lv_iconst (v := 1) X.1 X.2.1 dL_law_1293 (by decide) ?_
                                                                        refine lv_iadd X.1 X.2.1 dL_law_1294 ?_
                                                                        obtain ⟨v157, ev157, hf⟩ := si_ob hf
                                                                        refine si_sld X hX hbl hbA hw.2.2 ev157 dL_law_1295 ?_
                                                                        refine lv_aload_n X.1 X.2.1 dL_law_1296 rfl (lv_at hl 0 rfl) ?_
                                                                        refine lv_iload X.1 X.2.1 dL_law_1297 (lv_at hl 4 rfl) ?_
                                                                        refine lv_iconst (v := 2) X.1 X.2.1 dL_law_1299 (by decide) ?_
                                                                        refine lv_iadd X.1 X.2.1 dL_law_1300 ?_
                                                                        obtain ⟨v158, ev158, hf⟩ := si_ob hf
                                                                        refine si_sld X hX hbl hbA hw.2.2 ev158 dL_law_1301 ?_
                                                                        obtain ⟨q159, eq159, hf⟩ := si_ob hf
                                                                        refine si_cVi [.int v157, .int v158] cal_X9_risk gm_RL_166 X hw hA hl.1 (c_X9_risk l E F v157 v158 S q159 eq159) si_cl9 rfl ⟨⟨rfl, rfl⟩, Nat.le_of_ble_eq_true rfl, Nat.le_of_ble_eq_true rfl⟩ rfl rfl (Nat.le_of_ble_eq_true rfl) hcs0 dL_law_1302 (fun H locs hw => ?_)
                                                                        refine lv_aload_n X.1 X.2.1 dL_law_1305 rfl (lv_at hl 2 rfl) ?_
                                                                        refine lv_aload_n X.1 X.2.1 dL_law_1306 rfl (lv_at hl 0 rfl) ?_
                                                                        refine lv_iload X.1 X.2.1 dL_law_1307 (lv_at hl 4 rfl) ?_
                                                                        refine lv_iconst (v := 1) X.1 X.2.1 dL_law_1309 (by decide) ?_
                                                                        refine lv_iadd X.1 X.2.1 dL_law_1310 ?_
                                                                        obtain ⟨v160, ev160, hf⟩ := si_ob hf
                                                                        refine si_sld X hX hbl hbA hw.2.2 ev160 dL_law_1311 ?_
                                                                        refine lv_aload_n X.1 X.2.1 dL_law_1312 rfl (lv_at hl 0 rfl) ?_
                                                                        refine lv_iload X.1 X.2.1 dL_law_1313 (lv_at hl 4 rfl) ?_
                                                                        refine lv_iconst (v := 2) X.1 X.2.1 dL_law_1315 (by decide) ?_
                                                                        refine lv_iadd X.1 X.2.1 dL_law_1316 ?_
                                                                        obtain ⟨v161, ev161, hf⟩ := si_ob hf
                                                                        refine si_sld X hX hbl hbA hw.2.2 ev161 dL_law_1317 ?_
                                                                        obtain ⟨q162, eq162, hf⟩ := si_ob hf
                                                                        refine si_cVi [.int v160, .int v161] cal_X10_risk gm_RL_169 X hw hA hl.1 (c_X10_risk l E F v160 v161 q159.2 q162 eq162) si_cl10 rfl ⟨⟨rfl, rfl⟩, Nat.le_of_ble_eq_true rfl, Nat.le_of_ble_eq_true rfl⟩ rfl rfl (Nat.le_of_ble_eq_true rfl) hcs0 dL_law_1318 (fun H locs hw => ?_)
                                                                        refine lv_icmp_eq (tgt := 1840) X.1 X.2.1 dL_law_1321 (by decide) (fun c1321 => ?_) (fun c1321 => ?_)
                                                                        · have hf := si_ip c1321 hf
                                                                          refine W.widen (k := cs + 1) (n := ss + 6) (by omega) (by omega) ?_
                                                                          exact B1840 _ _ _ _ _ (cs + 1) (ss + 6) (by omega) (by omega) hf hw (lv_sub hl [0, 1, 2, 3, 4] rfl)
                                                                        · have hf := si_in c1321 hf
                                                                          refine lv_iconst (v := 0) X.1 X.2.1 dL_law_1324 (by decide) ?_
                                                                          exact hret _ _ _ _ _ _ _ _ hf hw (by omega) (by omega) dL_law_1325
                                                                      · have hf := si_in c40_31 hf
                                                                        rcases Decidable.em ((v6 &&& 63) = 32) with c40_32 | c40_32
                                                                        · have hf := si_ip c40_32 hf
                                                                          refine lv_tableIn (tgt := 1326) X.1 X.2.1 dL_law_40 (by rw [c40_32]; decide) (by rw [c40_32]; decide) (off := 1286) (by rw [c40_32]; rfl) (by decide) ?_
                                                                          refine lv_aload_n X.1 X.2.1 dL_law_1326 rfl (lv_at hl 1 rfl) ?_
                                                                          refine lv_aload_n X.1 X.2.1 dL_law_1327 rfl (lv_at hl 0 rfl) ?_
                                                                          refine lv_iload X.1 X.2.1 dL_law_1328 (lv_at hl 4 rfl) ?_
                                                                          refine lv_iconst (v := 1) X.1 X.2.1 dL_law_1330 (by decide) ?_
                                                                          refine lv_iadd X.1 X.2.1 dL_law_1331 ?_
                                                                          obtain ⟨v163, ev163, hf⟩ := si_ob hf
                                                                          refine si_sld X hX hbl hbA hw.2.2 ev163 dL_law_1332 ?_
                                                                          obtain ⟨q164, eq164, hf⟩ := si_ob hf
                                                                          refine si_cVi [.int v163] cal_X9_riskiestTrader gm_RL_170 X hw hA hl.1 (c_X9_riskiestTrader l E F v163 S q164 eq164) si_cl9 rfl ⟨⟨rfl, rfl⟩, Nat.le_of_ble_eq_true rfl, Nat.le_of_ble_eq_true rfl⟩ rfl rfl (Nat.le_of_ble_eq_true rfl) hcs0 dL_law_1333 (fun H locs hw => ?_)
                                                                          refine lv_aload_n X.1 X.2.1 dL_law_1336 rfl (lv_at hl 2 rfl) ?_
                                                                          refine lv_aload_n X.1 X.2.1 dL_law_1337 rfl (lv_at hl 0 rfl) ?_
                                                                          refine lv_iload X.1 X.2.1 dL_law_1338 (lv_at hl 4 rfl) ?_
                                                                          refine lv_iconst (v := 1) X.1 X.2.1 dL_law_1340 (by decide) ?_
                                                                          refine lv_iadd X.1 X.2.1 dL_law_1341 ?_
                                                                          obtain ⟨v165, ev165, hf⟩ := si_ob hf
                                                                          refine si_sld X hX hbl hbA hw.2.2 ev165 dL_law_1342 ?_
                                                                          obtain ⟨q166, eq166, hf⟩ := si_ob hf
                                                                          refine si_cVi [.int v165] cal_X10_riskiestTrader gm_RL_173 X hw hA hl.1 (c_X10_riskiestTrader l E F v165 q164.2 q166 eq166) si_cl10 rfl ⟨⟨rfl, rfl⟩, Nat.le_of_ble_eq_true rfl, Nat.le_of_ble_eq_true rfl⟩ rfl rfl (Nat.le_of_ble_eq_true rfl) hcs0 dL_law_1343 (fun H locs hw => ?_)
                                                                          refine lv_icmp_eq (tgt := 1840) X.1 X.2.1 dL_law_1346 (by decide) (fun c1346 => ?_) (fun c1346 => ?_)
                                                                          · have hf := si_ip c1346 hf
                                                                            refine W.widen (k := cs + 1) (n := ss + 6) (by omega) (by omega) ?_
                                                                            exact B1840 _ _ _ _ _ (cs + 1) (ss + 6) (by omega) (by omega) hf hw (lv_sub hl [0, 1, 2, 3, 4] rfl)
                                                                          · have hf := si_in c1346 hf
                                                                            refine lv_iconst (v := 0) X.1 X.2.1 dL_law_1349 (by decide) ?_
                                                                            exact hret _ _ _ _ _ _ _ _ hf hw (by omega) (by omega) dL_law_1350
                                                                        · have hf := si_in c40_32 hf
                                                                          rcases Decidable.em ((v6 &&& 63) = 33) with c40_33 | c40_33
                                                                          · have hf := si_ip c40_33 hf
                                                                            refine lv_tableIn (tgt := 1351) X.1 X.2.1 dL_law_40 (by rw [c40_33]; decide) (by rw [c40_33]; decide) (off := 1311) (by rw [c40_33]; rfl) (by decide) ?_
                                                                            refine lv_aload_n X.1 X.2.1 dL_law_1351 rfl (lv_at hl 1 rfl) ?_
                                                                            refine lv_aload_n X.1 X.2.1 dL_law_1352 rfl (lv_at hl 0 rfl) ?_
                                                                            refine lv_iload X.1 X.2.1 dL_law_1353 (lv_at hl 4 rfl) ?_
                                                                            refine lv_iconst (v := 1) X.1 X.2.1 dL_law_1355 (by decide) ?_
                                                                            refine lv_iadd X.1 X.2.1 dL_law_1356 ?_
                                                                            obtain ⟨v167, ev167, hf⟩ := si_ob hf
                                                                            refine si_sld X hX hbl hbA hw.2.2 ev167 dL_law_1357 ?_
                                                                            refine lv_aload_n X.1 X.2.1 dL_law_1358 rfl (lv_at hl 0 rfl) ?_
                                                                            refine lv_iload X.1 X.2.1 dL_law_1359 (lv_at hl 4 rfl) ?_
                                                                            refine lv_iconst (v := 2) X.1 X.2.1 dL_law_1361 (by decide) ?_
                                                                            refine lv_iadd X.1 X.2.1 dL_law_1362 ?_
                                                                            obtain ⟨v168, ev168, hf⟩ := si_ob hf
                                                                            refine si_sld X hX hbl hbA hw.2.2 ev168 dL_law_1363 ?_
                                                                            refine lv_aload_n X.1 X.2.1 dL_law_1364 rfl (lv_at hl 0 rfl) ?_
                                                                            refine lv_iload X.1 X.2.1 dL_law_1365 (lv_at hl 4 rfl) ?_
                                                                            refine lv_iconst (v := 3) X.1 X.2.1 dL_law_1367 (by decide) ?_
                                                                            refine lv_iadd X.1 X.2.1 dL_law_1368 ?_
                                                                            obtain ⟨v169, ev169, hf⟩ := si_ob hf
                                                                            refine si_sld X hX hbl hbA hw.2.2 ev169 dL_law_1369 ?_
                                                                            obtain ⟨q170, eq170, hf⟩ := si_ob hf
                                                                            refine si_cVi [.int v167, .int v168, .int v169] cal_X9_lot gm_RL_174 X hw hA hl.1 (c_X9_lot l E F v167 v168 v169 S q170 eq170) si_cl9 rfl ⟨⟨rfl, rfl⟩, Nat.le_of_ble_eq_true rfl, Nat.le_of_ble_eq_true rfl⟩ rfl rfl (Nat.le_of_ble_eq_true rfl) hcs0 dL_law_1370 (fun H locs hw => ?_)
                                                                            refine lv_aload_n X.1 X.2.1 dL_law_1373 rfl (lv_at hl 2 rfl) ?_
                                                                            refine lv_aload_n X.1 X.2.1 dL_law_1374 rfl (lv_at hl 0 rfl) ?_
                                                                            refine lv_iload X.1 X.2.1 dL_law_1375 (lv_at hl 4 rfl) ?_
                                                                            refine lv_iconst (v := 1) X.1 X.2.1 dL_law_1377 (by decide) ?_
                                                                            refine lv_iadd X.1 X.2.1 dL_law_1378 ?_
                                                                            obtain ⟨v171, ev171, hf⟩ := si_ob hf
                                                                            refine si_sld X hX hbl hbA hw.2.2 ev171 dL_law_1379 ?_
                                                                            refine lv_aload_n X.1 X.2.1 dL_law_1380 rfl (lv_at hl 0 rfl) ?_
                                                                            refine lv_iload X.1 X.2.1 dL_law_1381 (lv_at hl 4 rfl) ?_
                                                                            refine lv_iconst (v := 2) X.1 X.2.1 dL_law_1383 (by decide) ?_
                                                                            refine lv_iadd X.1 X.2.1 dL_law_1384 ?_
                                                                            obtain ⟨v172, ev172, hf⟩ := si_ob hf
                                                                            refine si_sld X hX hbl hbA hw.2.2 ev172 dL_law_1385 ?_
                                                                            refine lv_aload_n X.1 X.2.1 dL_law_1386 rfl (lv_at hl 0 rfl) ?_
                                                                            refine lv_iload X.1 X.2.1 dL_law_1387 (lv_at hl 4 rfl) ?_
                                                                            refine lv_iconst (v := 3) X.1 X.2.1 dL_law_1389 (by decide) ?_
                                                                            refine lv_iadd X.1 X.2.1 dL_law_1390 ?_
                                                                            obtain ⟨v173, ev173, hf⟩ := si_ob hf
                                                                            refine si_sld X hX hbl hbA hw.2.2 ev173 dL_law_1391 ?_
                                                                            obtain ⟨q174, eq174, hf⟩ := si_ob hf
                                                                            refine si_cVi [.int v171, .int v172, .int v173] cal_X10_lot gm_RL_177 X hw hA hl.1 (c_X10_lot l E F v171 v172 v173 q170.2 q174 eq174) si_cl10 rfl ⟨⟨rfl, rfl⟩, Nat.le_of_ble_eq_true rfl, Nat.le_of_ble_eq_true rfl⟩ rfl rfl (Nat.le_of_ble_eq_true rfl) hcs0 dL_law_1392 (fun H locs hw => ?_)
                                                                            refine lv_icmp_eq (tgt := 1840) X.1 X.2.1 dL_law_1395 (by decide) (fun c1395 => ?_) (fun c1395 => ?_)
                                                                            · have hf := si_ip c1395 hf
                                                                              refine W.widen (k := cs + 1) (n := ss + 6) (by omega) (by omega) ?_
                                                                              exact B1840 _ _ _ _ _ (cs + 1) (ss + 6) (by omega) (by omega) hf hw (lv_sub hl [0, 1, 2, 3, 4] rfl)
                                                                            · have hf := si_in c1395 hf
                                                                              refine lv_iconst (v := 0) X.1 X.2.1 dL_law_1398 (by decide) ?_
                                                                              exact hret _ _ _ _ _ _ _ _ hf hw (by omega) (by omega) dL_law_1399
                                                                          · have hf := si_in c40_33 hf
                                                                            rcases Decidable.em ((v6 &&& 63) = 34) with c40_34 | c40_34
                                                                            · have hf := si_ip c40_34 hf
                                                                              refine lv_tableIn (tgt := 1400) X.1 X.2.1 dL_law_40 (by rw [c40_34]; decide) (by rw [c40_34]; decide) (off := 1360) (by rw [c40_34]; rfl) (by decide) ?_
                                                                              refine lv_aload_n X.1 X.2.1 dL_law_1400 rfl (lv_at hl 1 rfl) ?_
                                                                              refine lv_aload_n X.1 X.2.1 dL_law_1401 rfl (lv_at hl 0 rfl) ?_
                                                                              refine lv_iload X.1 X.2.1 dL_law_1402 (lv_at hl 4 rfl) ?_
                                                                              refine lv_iconst (v := 1) X.1 X.2.1 dL_law_1404 (by decide) ?_
                                                                              refine lv_iadd X.1 X.2.1 dL_law_1405 ?_
                                                                              obtain ⟨v175, ev175, hf⟩ := si_ob hf
                                                                              refine si_sld X hX hbl hbA hw.2.2 ev175 dL_law_1406 ?_
                                                                              obtain ⟨q176, eq176, hf⟩ := si_ob hf
                                                                              refine si_cVi [.int v175] cal_X9_weightCount gm_RL_178 X hw hA hl.1 (c_X9_weightCount l E F v175 S q176 eq176) si_cl9 rfl ⟨⟨rfl, rfl⟩, Nat.le_of_ble_eq_true rfl, Nat.le_of_ble_eq_true rfl⟩ rfl rfl (Nat.le_of_ble_eq_true rfl) hcs0 dL_law_1407 (fun H locs hw => ?_)
                                                                              refine lv_aload_n X.1 X.2.1 dL_law_1410 rfl (lv_at hl 2 rfl) ?_
                                                                              refine lv_aload_n X.1 X.2.1 dL_law_1411 rfl (lv_at hl 0 rfl) ?_
                                                                              refine lv_iload X.1 X.2.1 dL_law_1412 (lv_at hl 4 rfl) ?_
                                                                              refine lv_iconst (v := 1) X.1 X.2.1 dL_law_1414 (by decide) ?_
                                                                              refine lv_iadd X.1 X.2.1 dL_law_1415 ?_
                                                                              obtain ⟨v177, ev177, hf⟩ := si_ob hf
                                                                              refine si_sld X hX hbl hbA hw.2.2 ev177 dL_law_1416 ?_
                                                                              obtain ⟨q178, eq178, hf⟩ := si_ob hf
                                                                              refine si_cVi [.int v177] cal_X10_weightCount gm_RL_181 X hw hA hl.1 (c_X10_weightCount l E F v177 q176.2 q178 eq178) si_cl10 rfl ⟨⟨rfl, rfl⟩, Nat.le_of_ble_eq_true rfl, Nat.le_of_ble_eq_true rfl⟩ rfl rfl (Nat.le_of_ble_eq_true rfl) hcs0 dL_law_1417 (fun H locs hw => ?_)
                                                                              refine lv_icmp_eq (tgt := 1840) X.1 X.2.1 dL_law_1420 (by decide) (fun c1420 => ?_) (fun c1420 => ?_)
                                                                              · have hf := si_ip c1420 hf
                                                                                refine W.widen (k := cs + 1) (n := ss + 6) (by omega) (by omega) ?_
                                                                                exact B1840 _ _ _ _ _ (cs + 1) (ss + 6) (by omega) (by omega) hf hw (lv_sub hl [0, 1, 2, 3, 4] rfl)
                                                                              · have hf := si_in c1420 hf
                                                                                refine lv_iconst (v := 0) X.1 X.2.1 dL_law_1423 (by decide) ?_
                                                                                exact hret _ _ _ _ _ _ _ _ hf hw (by omega) (by omega) dL_law_1424
                                                                            · have hf := si_in c40_34 hf
                                                                              rcases Decidable.em ((v6 &&& 63) = 35) with c40_35 | c40_35
                                                                              · have hf := si_ip c40_35 hf
                                                                                refine lv_tableIn (tgt := 1425) X.1 X.2.1 dL_law_40 (by rw [c40_35]; decide) (by rw [c40_35]; decide) (off := 1385) (by rw [c40_35]; rfl) (by decide) ?_
                                                                                refine lv_aload_n X.1 X.2.1 dL_law_1425 rfl (lv_at hl 1 rfl) ?_
                                                                                refine lv_aload_n X.1 X.2.1 dL_law_1426 rfl (lv_at hl 0 rfl) ?_
                                                                                refine lv_iload X.1 X.2.1 dL_law_1427 (lv_at hl 4 rfl) ?_
                                                                                refine lv_iconst (v := 1) X.1 X.2.1 dL_law_1429 (by decide) ?_
                                                                                refine lv_iadd X.1 X.2.1 dL_law_1430 ?_
                                                                                obtain ⟨v179, ev179, hf⟩ := si_ob hf
                                                                                refine si_sld X hX hbl hbA hw.2.2 ev179 dL_law_1431 ?_
                                                                                refine lv_aload_n X.1 X.2.1 dL_law_1432 rfl (lv_at hl 0 rfl) ?_
                                                                                refine lv_iload X.1 X.2.1 dL_law_1433 (lv_at hl 4 rfl) ?_
                                                                                refine lv_iconst (v := 2) X.1 X.2.1 dL_law_1435 (by decide) ?_
                                                                                refine lv_iadd X.1 X.2.1 dL_law_1436 ?_
                                                                                obtain ⟨v180, ev180, hf⟩ := si_ob hf
                                                                                refine si_sld X hX hbl hbA hw.2.2 ev180 dL_law_1437 ?_
                                                                                refine lv_aload_n X.1 X.2.1 dL_law_1438 rfl (lv_at hl 0 rfl) ?_
                                                                                refine lv_iload X.1 X.2.1 dL_law_1439 (lv_at hl 4 rfl) ?_
                                                                                refine lv_iconst (v := 3) X.1 X.2.1 dL_law_1441 (by decide) ?_
                                                                                refine lv_iadd X.1 X.2.1 dL_law_1442 ?_
                                                                                obtain ⟨v181, ev181, hf⟩ := si_ob hf
                                                                                refine si_sld X hX hbl hbA hw.2.2 ev181 dL_law_1443 ?_
                                                                                refine lv_aload_n X.1 X.2.1 dL_law_1444 rfl (lv_at hl 0 rfl) ?_
                                                                                refine lv_iload X.1 X.2.1 dL_law_1445 (lv_at hl 4 rfl) ?_
                                                                                refine lv_iconst (v := 4) X.1 X.2.1 dL_law_1447 (by decide) ?_
                                                                                refine lv_iadd X.1 X.2.1 dL_law_1448 ?_
                                                                                obtain ⟨v182, ev182, hf⟩ := si_ob hf
                                                                                refine si_sld X hX hbl hbA hw.2.2 ev182 dL_law_1449 ?_
                                                                                obtain ⟨q183, eq183, hf⟩ := si_ob hf
                                                                                refine si_cVi [.int v179, .int v180, .int v181, .int v182] cal_X9_weigh gm_RL_182 X hw hA hl.1 (c_X9_weigh l E F v179 v180 v181 v182 S q183 eq183) si_cl9 rfl ⟨⟨rfl, rfl⟩, Nat.le_of_ble_eq_true rfl, Nat.le_of_ble_eq_true rfl⟩ rfl rfl (Nat.le_of_ble_eq_true rfl) hcs0 dL_law_1450 (fun H locs hw => ?_)
                                                                                refine lv_aload_n X.1 X.2.1 dL_law_1453 rfl (lv_at hl 2 rfl) ?_
                                                                                refine lv_aload_n X.1 X.2.1 dL_law_1454 rfl (lv_at hl 0 rfl) ?_
                                                                                refine lv_iload X.1 X.2.1 dL_law_1455 (lv_at hl 4 rfl) ?_
                                                                                refine lv_iconst (v := 1) X.1 X.2.1 dL_law_1457 (by decide) ?_
                                                                                refine lv_iadd X.1 X.2.1 dL_law_1458 ?_
                                                                                obtain ⟨v184, ev184, hf⟩ := si_ob hf
                                                                                refine si_sld X hX hbl hbA hw.2.2 ev184 dL_law_1459 ?_
                                                                                refine lv_aload_n X.1 X.2.1 dL_law_1460 rfl (lv_at hl 0 rfl) ?_
                                                                                refine lv_iload X.1 X.2.1 dL_law_1461 (lv_at hl 4 rfl) ?_
                                                                                refine lv_iconst (v := 2) X.1 X.2.1 dL_law_1463 (by decide) ?_
                                                                                refine lv_iadd X.1 X.2.1 dL_law_1464 ?_
                                                                                obtain ⟨v185, ev185, hf⟩ := si_ob hf
                                                                                refine si_sld X hX hbl hbA hw.2.2 ev185 dL_law_1465 ?_
                                                                                refine lv_aload_n X.1 X.2.1 dL_law_1466 rfl (lv_at hl 0 rfl) ?_
                                                                                refine lv_iload X.1 X.2.1 dL_law_1467 (lv_at hl 4 rfl) ?_
                                                                                refine lv_iconst (v := 3) X.1 X.2.1 dL_law_1469 (by decide) ?_
                                                                                refine lv_iadd X.1 X.2.1 dL_law_1470 ?_
                                                                                obtain ⟨v186, ev186, hf⟩ := si_ob hf
                                                                                refine si_sld X hX hbl hbA hw.2.2 ev186 dL_law_1471 ?_
                                                                                refine lv_aload_n X.1 X.2.1 dL_law_1472 rfl (lv_at hl 0 rfl) ?_
                                                                                refine lv_iload X.1 X.2.1 dL_law_1473 (lv_at hl 4 rfl) ?_
                                                                                refine lv_iconst (v := 4) X.1 X.2.1 dL_law_1475 (by decide) ?_
                                                                                refine lv_iadd X.1 X.2.1 dL_law_1476 ?_
                                                                                obtain ⟨v187, ev187, hf⟩ := si_ob hf
                                                                                refine si_sld X hX hbl hbA hw.2.2 ev187 dL_law_1477 ?_
                                                                                obtain ⟨q188, eq188, hf⟩ := si_ob hf
                                                                                refine si_cVi [.int v184, .int v185, .int v186, .int v187] cal_X10_weigh gm_RL_186 X hw hA hl.1 (c_X10_weigh l E F v184 v185 v186 v187 q183.2 q188 eq188) si_cl10 rfl ⟨⟨rfl, rfl⟩, Nat.le_of_ble_eq_true rfl, Nat.le_of_ble_eq_true rfl⟩ rfl rfl (Nat.le_of_ble_eq_true rfl) hcs0 dL_law_1478 (fun H locs hw => ?_)
                                                                                refine lv_icmp_eq (tgt := 1840) X.1 X.2.1 dL_law_1481 (by decide) (fun c1481 => ?_) (fun c1481 => ?_)
                                                                                · have hf := si_ip c1481 hf
                                                                                  refine W.widen (k := cs + 1) (n := ss + 6) (by omega) (by omega) ?_
                                                                                  exact B1840 _ _ _ _ _ (cs + 1) (ss + 6) (by omega) (by omega) hf hw (lv_sub hl [0, 1, 2, 3, 4] rfl)
                                                                                · have hf := si_in c1481 hf
                                                                                  refine lv_iconst (v := 0) X.1 X.2.1 dL_law_1484 (by decide) ?_
                                                                                  exact hret _ _ _ _ _ _ _ _ hf hw (by omega) (by omega) dL_law_1485
                                                                              · have hf := si_in c40_35 hf
                                                                                rcases Decidable.em ((v6 &&& 63) = 36) with c40_36 | c40_36
                                                                                · have hf := si_ip c40_36 hf
                                                                                  refine lv_tableIn (tgt := 1486) X.1 X.2.1 dL_law_40 (by rw [c40_36]; decide) (by rw [c40_36]; decide) (off := 1446) (by rw [c40_36]; rfl) (by decide) ?_
                                                                                  refine lv_aload_n X.1 X.2.1 dL_law_1486 rfl (lv_at hl 1 rfl) ?_
                                                                                  refine lv_aload_n X.1 X.2.1 dL_law_1487 rfl (lv_at hl 0 rfl) ?_
                                                                                  refine lv_iload X.1 X.2.1 dL_law_1488 (lv_at hl 4 rfl) ?_
                                                                                  refine lv_iconst (v := 1) X.1 X.2.1 dL_law_1490 (by decide) ?_
                                                                                  refine lv_iadd X.1 X.2.1 dL_law_1491 ?_
                                                                                  obtain ⟨v189, ev189, hf⟩ := si_ob hf
                                                                                  refine si_sld X hX hbl hbA hw.2.2 ev189 dL_law_1492 ?_
                                                                                  obtain ⟨q190, eq190, hf⟩ := si_ob hf
                                                                                  refine si_cVi [.int v189] cal_X9_weighingCount gm_RL_187 X hw hA hl.1 (c_X9_weighingCount l E F v189 S q190 eq190) si_cl9 rfl ⟨⟨rfl, rfl⟩, Nat.le_of_ble_eq_true rfl, Nat.le_of_ble_eq_true rfl⟩ rfl rfl (Nat.le_of_ble_eq_true rfl) hcs0 dL_law_1493 (fun H locs hw => ?_)
                                                                                  refine lv_aload_n X.1 X.2.1 dL_law_1496 rfl (lv_at hl 2 rfl) ?_
                                                                                  refine lv_aload_n X.1 X.2.1 dL_law_1497 rfl (lv_at hl 0 rfl) ?_
                                                                                  refine lv_iload X.1 X.2.1 dL_law_1498 (lv_at hl 4 rfl) ?_
                                                                                  refine lv_iconst (v := 1) X.1 X.2.1 dL_law_1500 (by decide) ?_
                                                                                  refine lv_iadd X.1 X.2.1 dL_law_1501 ?_
                                                                                  obtain ⟨v191, ev191, hf⟩ := si_ob hf
                                                                                  refine si_sld X hX hbl hbA hw.2.2 ev191 dL_law_1502 ?_
                                                                                  obtain ⟨q192, eq192, hf⟩ := si_ob hf
                                                                                  refine si_cVi [.int v191] cal_X10_weighingCount gm_RL_190 X hw hA hl.1 (c_X10_weighingCount l E F v191 q190.2 q192 eq192) si_cl10 rfl ⟨⟨rfl, rfl⟩, Nat.le_of_ble_eq_true rfl, Nat.le_of_ble_eq_true rfl⟩ rfl rfl (Nat.le_of_ble_eq_true rfl) hcs0 dL_law_1503 (fun H locs hw => ?_)
                                                                                  refine lv_icmp_eq (tgt := 1840) X.1 X.2.1 dL_law_1506 (by decide) (fun c1506 => ?_) (fun c1506 => ?_)
                                                                                  · have hf := si_ip c1506 hf
                                                                                    refine W.widen (k := cs + 1) (n := ss + 6) (by omega) (by omega) ?_
                                                                                    exact B1840 _ _ _ _ _ (cs + 1) (ss + 6) (by omega) (by omega) hf hw (lv_sub hl [0, 1, 2, 3, 4] rfl)
                                                                                  · have hf := si_in c1506 hf
                                                                                    refine lv_iconst (v := 0) X.1 X.2.1 dL_law_1509 (by decide) ?_
                                                                                    exact hret _ _ _ _ _ _ _ _ hf hw (by omega) (by omega) dL_law_1510
                                                                                · have hf := si_in c40_36 hf
                                                                                  rcases Decidable.em ((v6 &&& 63) = 37) with c40_37 | c40_37
                                                                                  · have hf := si_ip c40_37 hf
                                                                                    refine lv_tableIn (tgt := 1511) X.1 X.2.1 dL_law_40 (by rw [c40_37]; decide) (by rw [c40_37]; decide) (off := 1471) (by rw [c40_37]; rfl) (by decide) ?_
                                                                                    refine lv_aload_n X.1 X.2.1 dL_law_1511 rfl (lv_at hl 1 rfl) ?_
                                                                                    refine lv_aload_n X.1 X.2.1 dL_law_1512 rfl (lv_at hl 0 rfl) ?_
                                                                                    refine lv_iload X.1 X.2.1 dL_law_1513 (lv_at hl 4 rfl) ?_
                                                                                    refine lv_iconst (v := 1) X.1 X.2.1 dL_law_1515 (by decide) ?_
                                                                                    refine lv_iadd X.1 X.2.1 dL_law_1516 ?_
                                                                                    obtain ⟨v193, ev193, hf⟩ := si_ob hf
                                                                                    refine si_sld X hX hbl hbA hw.2.2 ev193 dL_law_1517 ?_
                                                                                    obtain ⟨q194, eq194, hf⟩ := si_ob hf
                                                                                    refine si_cVi [.int v193] cal_X9_hypothesisCount gm_RL_191 X hw hA hl.1 (c_X9_hypothesisCount l E F v193 S q194 eq194) si_cl9 rfl ⟨⟨rfl, rfl⟩, Nat.le_of_ble_eq_true rfl, Nat.le_of_ble_eq_true rfl⟩ rfl rfl (Nat.le_of_ble_eq_true rfl) hcs0 dL_law_1518 (fun H locs hw => ?_)
                                                                                    refine lv_aload_n X.1 X.2.1 dL_law_1521 rfl (lv_at hl 2 rfl) ?_
                                                                                    refine lv_aload_n X.1 X.2.1 dL_law_1522 rfl (lv_at hl 0 rfl) ?_
                                                                                    refine lv_iload X.1 X.2.1 dL_law_1523 (lv_at hl 4 rfl) ?_
                                                                                    refine lv_iconst (v := 1) X.1 X.2.1 dL_law_1525 (by decide) ?_
                                                                                    refine lv_iadd X.1 X.2.1 dL_law_1526 ?_
                                                                                    obtain ⟨v195, ev195, hf⟩ := si_ob hf
                                                                                    refine si_sld X hX hbl hbA hw.2.2 ev195 dL_law_1527 ?_
                                                                                    obtain ⟨q196, eq196, hf⟩ := si_ob hf
                                                                                    refine si_cVi [.int v195] cal_X10_hypothesisCount gm_RL_194 X hw hA hl.1 (c_X10_hypothesisCount l E F v195 q194.2 q196 eq196) si_cl10 rfl ⟨⟨rfl, rfl⟩, Nat.le_of_ble_eq_true rfl, Nat.le_of_ble_eq_true rfl⟩ rfl rfl (Nat.le_of_ble_eq_true rfl) hcs0 dL_law_1528 (fun H locs hw => ?_)
                                                                                    refine lv_icmp_eq (tgt := 1840) X.1 X.2.1 dL_law_1531 (by decide) (fun c1531 => ?_) (fun c1531 => ?_)
                                                                                    · have hf := si_ip c1531 hf
                                                                                      refine W.widen (k := cs + 1) (n := ss + 6) (by omega) (by omega) ?_
                                                                                      exact B1840 _ _ _ _ _ (cs + 1) (ss + 6) (by omega) (by omega) hf hw (lv_sub hl [0, 1, 2, 3, 4] rfl)
                                                                                    · have hf := si_in c1531 hf
                                                                                      refine lv_iconst (v := 0) X.1 X.2.1 dL_law_1534 (by decide) ?_
                                                                                      exact hret _ _ _ _ _ _ _ _ hf hw (by omega) (by omega) dL_law_1535
                                                                                  · have hf := si_in c40_37 hf
                                                                                    rcases Decidable.em ((v6 &&& 63) = 38) with c40_38 | c40_38
                                                                                    · have hf := si_ip c40_38 hf
                                                                                      refine lv_tableIn (tgt := 1536) X.1 X.2.1 dL_law_40 (by rw [c40_38]; decide) (by rw [c40_38]; decide) (off := 1496) (by rw [c40_38]; rfl) (by decide) ?_
                                                                                      refine lv_aload_n X.1 X.2.1 dL_law_1536 rfl (lv_at hl 1 rfl) ?_
                                                                                      refine lv_aload_n X.1 X.2.1 dL_law_1537 rfl (lv_at hl 0 rfl) ?_
                                                                                      refine lv_iload X.1 X.2.1 dL_law_1538 (lv_at hl 4 rfl) ?_
                                                                                      refine lv_iconst (v := 1) X.1 X.2.1 dL_law_1540 (by decide) ?_
                                                                                      refine lv_iadd X.1 X.2.1 dL_law_1541 ?_
                                                                                      obtain ⟨v197, ev197, hf⟩ := si_ob hf
                                                                                      refine si_sld X hX hbl hbA hw.2.2 ev197 dL_law_1542 ?_
                                                                                      obtain ⟨q198, eq198, hf⟩ := si_ob hf
                                                                                      refine si_cVi [.int v197] cal_X9_heavySuspects gm_RL_195 X hw hA hl.1 (c_X9_heavySuspects l E F v197 S q198 eq198) si_cl9 rfl ⟨⟨rfl, rfl⟩, Nat.le_of_ble_eq_true rfl, Nat.le_of_ble_eq_true rfl⟩ rfl rfl (Nat.le_of_ble_eq_true rfl) hcs0 dL_law_1543 (fun H locs hw => ?_)
                                                                                      refine lv_aload_n X.1 X.2.1 dL_law_1546 rfl (lv_at hl 2 rfl) ?_
                                                                                      refine lv_aload_n X.1 X.2.1 dL_law_1547 rfl (lv_at hl 0 rfl) ?_
                                                                                      refine lv_iload X.1 X.2.1 dL_law_1548 (lv_at hl 4 rfl) ?_
                                                                                      refine lv_iconst (v := 1) X.1 X.2.1 dL_law_1550 (by decide) ?_
                                                                                      refine lv_iadd X.1 X.2.1 dL_law_1551 ?_
                                                                                      obtain ⟨v199, ev199, hf⟩ := si_ob hf
                                                                                      refine si_sld X hX hbl hbA hw.2.2 ev199 dL_law_1552 ?_
                                                                                      obtain ⟨q200, eq200, hf⟩ := si_ob hf
                                                                                      refine si_cVi [.int v199] cal_X10_heavySuspects gm_RL_198 X hw hA hl.1 (c_X10_heavySuspects l E F v199 q198.2 q200 eq200) si_cl10 rfl ⟨⟨rfl, rfl⟩, Nat.le_of_ble_eq_true rfl, Nat.le_of_ble_eq_true rfl⟩ rfl rfl (Nat.le_of_ble_eq_true rfl) hcs0 dL_law_1553 (fun H locs hw => ?_)
                                                                                      refine lv_icmp_eq (tgt := 1840) X.1 X.2.1 dL_law_1556 (by decide) (fun c1556 => ?_) (fun c1556 => ?_)
                                                                                      · have hf := si_ip c1556 hf
                                                                                        refine W.widen (k := cs + 1) (n := ss + 6) (by omega) (by omega) ?_
                                                                                        exact B1840 _ _ _ _ _ (cs + 1) (ss + 6) (by omega) (by omega) hf hw (lv_sub hl [0, 1, 2, 3, 4] rfl)
                                                                                      · have hf := si_in c1556 hf
                                                                                        refine lv_iconst (v := 0) X.1 X.2.1 dL_law_1559 (by decide) ?_
                                                                                        exact hret _ _ _ _ _ _ _ _ hf hw (by omega) (by omega) dL_law_1560
                                                                                    · have hf := si_in c40_38 hf
                                                                                      rcases Decidable.em ((v6 &&& 63) = 39) with c40_39 | c40_39
                                                                                      · have hf := si_ip c40_39 hf
                                                                                        refine lv_tableIn (tgt := 1561) X.1 X.2.1 dL_law_40 (by rw [c40_39]; decide) (by rw [c40_39]; decide) (off := 1521) (by rw [c40_39]; rfl) (by decide) ?_
                                                                                        refine lv_aload_n X.1 X.2.1 dL_law_1561 rfl (lv_at hl 1 rfl) ?_
                                                                                        refine lv_aload_n X.1 X.2.1 dL_law_1562 rfl (lv_at hl 0 rfl) ?_
                                                                                        refine lv_iload X.1 X.2.1 dL_law_1563 (lv_at hl 4 rfl) ?_
                                                                                        refine lv_iconst (v := 1) X.1 X.2.1 dL_law_1565 (by decide) ?_
                                                                                        refine lv_iadd X.1 X.2.1 dL_law_1566 ?_
                                                                                        obtain ⟨v201, ev201, hf⟩ := si_ob hf
                                                                                        refine si_sld X hX hbl hbA hw.2.2 ev201 dL_law_1567 ?_
                                                                                        obtain ⟨q202, eq202, hf⟩ := si_ob hf
                                                                                        refine si_cVi [.int v201] cal_X9_lightSuspects gm_RL_199 X hw hA hl.1 (c_X9_lightSuspects l E F v201 S q202 eq202) si_cl9 rfl ⟨⟨rfl, rfl⟩, Nat.le_of_ble_eq_true rfl, Nat.le_of_ble_eq_true rfl⟩ rfl rfl (Nat.le_of_ble_eq_true rfl) hcs0 dL_law_1568 (fun H locs hw => ?_)
                                                                                        refine lv_aload_n X.1 X.2.1 dL_law_1571 rfl (lv_at hl 2 rfl) ?_
                                                                                        refine lv_aload_n X.1 X.2.1 dL_law_1572 rfl (lv_at hl 0 rfl) ?_
                                                                                        refine lv_iload X.1 X.2.1 dL_law_1573 (lv_at hl 4 rfl) ?_
                                                                                        refine lv_iconst (v := 1) X.1 X.2.1 dL_law_1575 (by decide) ?_
                                                                                        refine lv_iadd X.1 X.2.1 dL_law_1576 ?_
                                                                                        obtain ⟨v203, ev203, hf⟩ := si_ob hf
                                                                                        refine si_sld X hX hbl hbA hw.2.2 ev203 dL_law_1577 ?_
                                                                                        obtain ⟨q204, eq204, hf⟩ := si_ob hf
                                                                                        refine si_cVi [.int v203] cal_X10_lightSuspects gm_RL_202 X hw hA hl.1 (c_X10_lightSuspects l E F v203 q202.2 q204 eq204) si_cl10 rfl ⟨⟨rfl, rfl⟩, Nat.le_of_ble_eq_true rfl, Nat.le_of_ble_eq_true rfl⟩ rfl rfl (Nat.le_of_ble_eq_true rfl) hcs0 dL_law_1578 (fun H locs hw => ?_)
                                                                                        refine lv_icmp_eq (tgt := 1840) X.1 X.2.1 dL_law_1581 (by decide) (fun c1581 => ?_) (fun c1581 => ?_)
                                                                                        · have hf := si_ip c1581 hf
                                                                                          refine W.widen (k := cs + 1) (n := ss + 6) (by omega) (by omega) ?_
                                                                                          exact B1840 _ _ _ _ _ (cs + 1) (ss + 6) (by omega) (by omega) hf hw (lv_sub hl [0, 1, 2, 3, 4] rfl)
                                                                                        · have hf := si_in c1581 hf
                                                                                          refine lv_iconst (v := 0) X.1 X.2.1 dL_law_1584 (by decide) ?_
                                                                                          exact hret _ _ _ _ _ _ _ _ hf hw (by omega) (by omega) dL_law_1585
                                                                                      · have hf := si_in c40_39 hf
                                                                                        rcases Decidable.em ((v6 &&& 63) = 40) with c40_40 | c40_40
                                                                                        · have hf := si_ip c40_40 hf
                                                                                          refine lv_tableIn (tgt := 1586) X.1 X.2.1 dL_law_40 (by rw [c40_40]; decide) (by rw [c40_40]; decide) (off := 1546) (by rw [c40_40]; rfl) (by decide) ?_
                                                                                          refine lv_aload_n X.1 X.2.1 dL_law_1586 rfl (lv_at hl 1 rfl) ?_
                                                                                          refine lv_aload_n X.1 X.2.1 dL_law_1587 rfl (lv_at hl 0 rfl) ?_
                                                                                          refine lv_iload X.1 X.2.1 dL_law_1588 (lv_at hl 4 rfl) ?_
                                                                                          refine lv_iconst (v := 1) X.1 X.2.1 dL_law_1590 (by decide) ?_
                                                                                          refine lv_iadd X.1 X.2.1 dL_law_1591 ?_
                                                                                          obtain ⟨v205, ev205, hf⟩ := si_ob hf
                                                                                          refine si_sld X hX hbl hbA hw.2.2 ev205 dL_law_1592 ?_
                                                                                          obtain ⟨q206, eq206, hf⟩ := si_ob hf
                                                                                          refine si_cVi [.int v205] cal_X9_canBeGenuine gm_RL_203 X hw hA hl.1 (c_X9_canBeGenuine l E F v205 S q206 eq206) si_cl9 rfl ⟨⟨rfl, rfl⟩, Nat.le_of_ble_eq_true rfl, Nat.le_of_ble_eq_true rfl⟩ rfl rfl (Nat.le_of_ble_eq_true rfl) hcs0 dL_law_1593 (fun H locs hw => ?_)
                                                                                          refine lv_aload_n X.1 X.2.1 dL_law_1596 rfl (lv_at hl 2 rfl) ?_
                                                                                          refine lv_aload_n X.1 X.2.1 dL_law_1597 rfl (lv_at hl 0 rfl) ?_
                                                                                          refine lv_iload X.1 X.2.1 dL_law_1598 (lv_at hl 4 rfl) ?_
                                                                                          refine lv_iconst (v := 1) X.1 X.2.1 dL_law_1600 (by decide) ?_
                                                                                          refine lv_iadd X.1 X.2.1 dL_law_1601 ?_
                                                                                          obtain ⟨v207, ev207, hf⟩ := si_ob hf
                                                                                          refine si_sld X hX hbl hbA hw.2.2 ev207 dL_law_1602 ?_
                                                                                          obtain ⟨q208, eq208, hf⟩ := si_ob hf
                                                                                          refine si_cVi [.int v207] cal_X10_canBeGenuine gm_RL_206 X hw hA hl.1 (c_X10_canBeGenuine l E F v207 q206.2 q208 eq208) si_cl10 rfl ⟨⟨rfl, rfl⟩, Nat.le_of_ble_eq_true rfl, Nat.le_of_ble_eq_true rfl⟩ rfl rfl (Nat.le_of_ble_eq_true rfl) hcs0 dL_law_1603 (fun H locs hw => ?_)
                                                                                          refine lv_icmp_eq (tgt := 1840) X.1 X.2.1 dL_law_1606 (by decide) (fun c1606 => ?_) (fun c1606 => ?_)
                                                                                          · have hf := si_ip c1606 hf
                                                                                            refine W.widen (k := cs + 1) (n := ss + 6) (by omega) (by omega) ?_
                                                                                            exact B1840 _ _ _ _ _ (cs + 1) (ss + 6) (by omega) (by omega) hf hw (lv_sub hl [0, 1, 2, 3, 4] rfl)
                                                                                          · have hf := si_in c1606 hf
                                                                                            refine lv_iconst (v := 0) X.1 X.2.1 dL_law_1609 (by decide) ?_
                                                                                            exact hret _ _ _ _ _ _ _ _ hf hw (by omega) (by omega) dL_law_1610
                                                                                        · have hf := si_in c40_40 hf
                                                                                          rcases Decidable.em ((v6 &&& 63) = 41) with c40_41 | c40_41
                                                                                          · have hf := si_ip c40_41 hf
                                                                                            refine lv_tableIn (tgt := 1611) X.1 X.2.1 dL_law_40 (by rw [c40_41]; decide) (by rw [c40_41]; decide) (off := 1571) (by rw [c40_41]; rfl) (by decide) ?_
                                                                                            refine lv_aload_n X.1 X.2.1 dL_law_1611 rfl (lv_at hl 1 rfl) ?_
                                                                                            refine lv_aload_n X.1 X.2.1 dL_law_1612 rfl (lv_at hl 0 rfl) ?_
                                                                                            refine lv_iload X.1 X.2.1 dL_law_1613 (lv_at hl 4 rfl) ?_
                                                                                            refine lv_iconst (v := 1) X.1 X.2.1 dL_law_1615 (by decide) ?_
                                                                                            refine lv_iadd X.1 X.2.1 dL_law_1616 ?_
                                                                                            obtain ⟨v209, ev209, hf⟩ := si_ob hf
                                                                                            refine si_sld X hX hbl hbA hw.2.2 ev209 dL_law_1617 ?_
                                                                                            obtain ⟨q210, eq210, hf⟩ := si_ob hf
                                                                                            refine si_cVi [.int v209] cal_X9_finding gm_RL_207 X hw hA hl.1 (c_X9_finding l E F v209 S q210 eq210) si_cl9 rfl ⟨⟨rfl, rfl⟩, Nat.le_of_ble_eq_true rfl, Nat.le_of_ble_eq_true rfl⟩ rfl rfl (Nat.le_of_ble_eq_true rfl) hcs0 dL_law_1618 (fun H locs hw => ?_)
                                                                                            refine lv_aload_n X.1 X.2.1 dL_law_1621 rfl (lv_at hl 2 rfl) ?_
                                                                                            refine lv_aload_n X.1 X.2.1 dL_law_1622 rfl (lv_at hl 0 rfl) ?_
                                                                                            refine lv_iload X.1 X.2.1 dL_law_1623 (lv_at hl 4 rfl) ?_
                                                                                            refine lv_iconst (v := 1) X.1 X.2.1 dL_law_1625 (by decide) ?_
                                                                                            refine lv_iadd X.1 X.2.1 dL_law_1626 ?_
                                                                                            obtain ⟨v211, ev211, hf⟩ := si_ob hf
                                                                                            refine si_sld X hX hbl hbA hw.2.2 ev211 dL_law_1627 ?_
                                                                                            obtain ⟨q212, eq212, hf⟩ := si_ob hf
                                                                                            refine si_cVi [.int v211] cal_X10_finding gm_RL_210 X hw hA hl.1 (c_X10_finding l E F v211 q210.2 q212 eq212) si_cl10 rfl ⟨⟨rfl, rfl⟩, Nat.le_of_ble_eq_true rfl, Nat.le_of_ble_eq_true rfl⟩ rfl rfl (Nat.le_of_ble_eq_true rfl) hcs0 dL_law_1628 (fun H locs hw => ?_)
                                                                                            refine lv_icmp_eq (tgt := 1840) X.1 X.2.1 dL_law_1631 (by decide) (fun c1631 => ?_) (fun c1631 => ?_)
                                                                                            · have hf := si_ip c1631 hf
                                                                                              refine W.widen (k := cs + 1) (n := ss + 6) (by omega) (by omega) ?_
                                                                                              exact B1840 _ _ _ _ _ (cs + 1) (ss + 6) (by omega) (by omega) hf hw (lv_sub hl [0, 1, 2, 3, 4] rfl)
                                                                                            · have hf := si_in c1631 hf
                                                                                              refine lv_iconst (v := 0) X.1 X.2.1 dL_law_1634 (by decide) ?_
                                                                                              exact hret _ _ _ _ _ _ _ _ hf hw (by omega) (by omega) dL_law_1635
                                                                                          · have hf := si_in c40_41 hf
                                                                                            rcases Decidable.em ((v6 &&& 63) = 42) with c40_42 | c40_42
                                                                                            · have hf := si_ip c40_42 hf
                                                                                              refine lv_tableIn (tgt := 1636) X.1 X.2.1 dL_law_40 (by rw [c40_42]; decide) (by rw [c40_42]; decide) (off := 1596) (by rw [c40_42]; rfl) (by decide) ?_
                                                                                              refine lv_aload_n X.1 X.2.1 dL_law_1636 rfl (lv_at hl 1 rfl) ?_
                                                                                              refine lv_aload_n X.1 X.2.1 dL_law_1637 rfl (lv_at hl 0 rfl) ?_
                                                                                              refine lv_iload X.1 X.2.1 dL_law_1638 (lv_at hl 4 rfl) ?_
                                                                                              refine lv_iconst (v := 1) X.1 X.2.1 dL_law_1640 (by decide) ?_
                                                                                              refine lv_iadd X.1 X.2.1 dL_law_1641 ?_
                                                                                              obtain ⟨v213, ev213, hf⟩ := si_ob hf
                                                                                              refine si_sld X hX hbl hbA hw.2.2 ev213 dL_law_1642 ?_
                                                                                              obtain ⟨q214, eq214, hf⟩ := si_ob hf
                                                                                              refine si_cVi [.int v213] cal_X9_weighingsNeeded gm_RL_211 X hw hA hl.1 (c_X9_weighingsNeeded l E F v213 S q214 eq214) si_cl9 rfl ⟨⟨rfl, rfl⟩, Nat.le_of_ble_eq_true rfl, Nat.le_of_ble_eq_true rfl⟩ rfl rfl (Nat.le_of_ble_eq_true rfl) hcs0 dL_law_1643 (fun H locs hw => ?_)
                                                                                              refine lv_aload_n X.1 X.2.1 dL_law_1646 rfl (lv_at hl 2 rfl) ?_
                                                                                              refine lv_aload_n X.1 X.2.1 dL_law_1647 rfl (lv_at hl 0 rfl) ?_
                                                                                              refine lv_iload X.1 X.2.1 dL_law_1648 (lv_at hl 4 rfl) ?_
                                                                                              refine lv_iconst (v := 1) X.1 X.2.1 dL_law_1650 (by decide) ?_
                                                                                              refine lv_iadd X.1 X.2.1 dL_law_1651 ?_
                                                                                              obtain ⟨v215, ev215, hf⟩ := si_ob hf
                                                                                              refine si_sld X hX hbl hbA hw.2.2 ev215 dL_law_1652 ?_
                                                                                              obtain ⟨q216, eq216, hf⟩ := si_ob hf
                                                                                              refine si_cVi [.int v215] cal_X10_weighingsNeeded gm_RL_214 X hw hA hl.1 (c_X10_weighingsNeeded l E F v215 q214.2 q216 eq216) si_cl10 rfl ⟨⟨rfl, rfl⟩, Nat.le_of_ble_eq_true rfl, Nat.le_of_ble_eq_true rfl⟩ rfl rfl (Nat.le_of_ble_eq_true rfl) hcs0 dL_law_1653 (fun H locs hw => ?_)
                                                                                              refine lv_icmp_eq (tgt := 1840) X.1 X.2.1 dL_law_1656 (by decide) (fun c1656 => ?_) (fun c1656 => ?_)
                                                                                              · have hf := si_ip c1656 hf
                                                                                                refine W.widen (k := cs + 1) (n := ss + 6) (by omega) (by omega) ?_
                                                                                                exact B1840 _ _ _ _ _ (cs + 1) (ss + 6) (by omega) (by omega) hf hw (lv_sub hl [0, 1, 2, 3, 4] rfl)
                                                                                              · have hf := si_in c1656 hf
                                                                                                refine lv_iconst (v := 0) X.1 X.2.1 dL_law_1659 (by decide) ?_
                                                                                                exact hret _ _ _ _ _ _ _ _ hf hw (by omega) (by omega) dL_law_1660
                                                                                            · have hf := si_in c40_42 hf
                                                                                              rcases Decidable.em ((v6 &&& 63) = 43) with c40_43 | c40_43
                                                                                              · have hf := si_ip c40_43 hf
                                                                                                refine lv_tableIn (tgt := 1661) X.1 X.2.1 dL_law_40 (by rw [c40_43]; decide) (by rw [c40_43]; decide) (off := 1621) (by rw [c40_43]; rfl) (by decide) ?_
                                                                                                refine lv_aload_n X.1 X.2.1 dL_law_1661 rfl (lv_at hl 1 rfl) ?_
                                                                                                refine lv_aload_n X.1 X.2.1 dL_law_1662 rfl (lv_at hl 0 rfl) ?_
                                                                                                refine lv_iload X.1 X.2.1 dL_law_1663 (lv_at hl 4 rfl) ?_
                                                                                                refine lv_iconst (v := 1) X.1 X.2.1 dL_law_1665 (by decide) ?_
                                                                                                refine lv_iadd X.1 X.2.1 dL_law_1666 ?_
                                                                                                obtain ⟨v217, ev217, hf⟩ := si_ob hf
                                                                                                refine si_sld X hX hbl hbA hw.2.2 ev217 dL_law_1667 ?_
                                                                                                obtain ⟨q218, eq218, hf⟩ := si_ob hf
                                                                                                refine si_cVi [.int v217] cal_X9_bestLeft gm_RL_215 X hw hA hl.1 (c_X9_bestLeft l E F v217 S q218 eq218) si_cl9 rfl ⟨⟨rfl, rfl⟩, Nat.le_of_ble_eq_true rfl, Nat.le_of_ble_eq_true rfl⟩ rfl rfl (Nat.le_of_ble_eq_true rfl) hcs0 dL_law_1668 (fun H locs hw => ?_)
                                                                                                refine lv_aload_n X.1 X.2.1 dL_law_1671 rfl (lv_at hl 2 rfl) ?_
                                                                                                refine lv_aload_n X.1 X.2.1 dL_law_1672 rfl (lv_at hl 0 rfl) ?_
                                                                                                refine lv_iload X.1 X.2.1 dL_law_1673 (lv_at hl 4 rfl) ?_
                                                                                                refine lv_iconst (v := 1) X.1 X.2.1 dL_law_1675 (by decide) ?_
                                                                                                refine lv_iadd X.1 X.2.1 dL_law_1676 ?_
                                                                                                obtain ⟨v219, ev219, hf⟩ := si_ob hf
                                                                                                refine si_sld X hX hbl hbA hw.2.2 ev219 dL_law_1677 ?_
                                                                                                obtain ⟨q220, eq220, hf⟩ := si_ob hf
                                                                                                refine si_cVi [.int v219] cal_X10_bestLeft gm_RL_218 X hw hA hl.1 (c_X10_bestLeft l E F v219 q218.2 q220 eq220) si_cl10 rfl ⟨⟨rfl, rfl⟩, Nat.le_of_ble_eq_true rfl, Nat.le_of_ble_eq_true rfl⟩ rfl rfl (Nat.le_of_ble_eq_true rfl) hcs0 dL_law_1678 (fun H locs hw => ?_)
                                                                                                refine lv_icmp_eq (tgt := 1840) X.1 X.2.1 dL_law_1681 (by decide) (fun c1681 => ?_) (fun c1681 => ?_)
                                                                                                · have hf := si_ip c1681 hf
                                                                                                  refine W.widen (k := cs + 1) (n := ss + 6) (by omega) (by omega) ?_
                                                                                                  exact B1840 _ _ _ _ _ (cs + 1) (ss + 6) (by omega) (by omega) hf hw (lv_sub hl [0, 1, 2, 3, 4] rfl)
                                                                                                · have hf := si_in c1681 hf
                                                                                                  refine lv_iconst (v := 0) X.1 X.2.1 dL_law_1684 (by decide) ?_
                                                                                                  exact hret _ _ _ _ _ _ _ _ hf hw (by omega) (by omega) dL_law_1685
                                                                                              · have hf := si_in c40_43 hf
                                                                                                rcases Decidable.em ((v6 &&& 63) = 44) with c40_44 | c40_44
                                                                                                · have hf := si_ip c40_44 hf
                                                                                                  refine lv_tableIn (tgt := 1686) X.1 X.2.1 dL_law_40 (by rw [c40_44]; decide) (by rw [c40_44]; decide) (off := 1646) (by rw [c40_44]; rfl) (by decide) ?_
                                                                                                  refine lv_aload_n X.1 X.2.1 dL_law_1686 rfl (lv_at hl 1 rfl) ?_
                                                                                                  refine lv_aload_n X.1 X.2.1 dL_law_1687 rfl (lv_at hl 0 rfl) ?_
                                                                                                  refine lv_iload X.1 X.2.1 dL_law_1688 (lv_at hl 4 rfl) ?_
                                                                                                  refine lv_iconst (v := 1) X.1 X.2.1 dL_law_1690 (by decide) ?_
                                                                                                  refine lv_iadd X.1 X.2.1 dL_law_1691 ?_
                                                                                                  obtain ⟨v221, ev221, hf⟩ := si_ob hf
                                                                                                  refine si_sld X hX hbl hbA hw.2.2 ev221 dL_law_1692 ?_
                                                                                                  obtain ⟨q222, eq222, hf⟩ := si_ob hf
                                                                                                  refine si_cVi [.int v221] cal_X9_bestRight gm_RL_219 X hw hA hl.1 (c_X9_bestRight l E F v221 S q222 eq222) si_cl9 rfl ⟨⟨rfl, rfl⟩, Nat.le_of_ble_eq_true rfl, Nat.le_of_ble_eq_true rfl⟩ rfl rfl (Nat.le_of_ble_eq_true rfl) hcs0 dL_law_1693 (fun H locs hw => ?_)
                                                                                                  refine lv_aload_n X.1 X.2.1 dL_law_1696 rfl (lv_at hl 2 rfl) ?_
                                                                                                  refine lv_aload_n X.1 X.2.1 dL_law_1697 rfl (lv_at hl 0 rfl) ?_
                                                                                                  refine lv_iload X.1 X.2.1 dL_law_1698 (lv_at hl 4 rfl) ?_
                                                                                                  refine lv_iconst (v := 1) X.1 X.2.1 dL_law_1700 (by decide) ?_
                                                                                                  refine lv_iadd X.1 X.2.1 dL_law_1701 ?_
                                                                                                  obtain ⟨v223, ev223, hf⟩ := si_ob hf
                                                                                                  refine si_sld X hX hbl hbA hw.2.2 ev223 dL_law_1702 ?_
                                                                                                  obtain ⟨q224, eq224, hf⟩ := si_ob hf
                                                                                                  refine si_cVi [.int v223] cal_X10_bestRight gm_RL_222 X hw hA hl.1 (c_X10_bestRight l E F v223 q222.2 q224 eq224) si_cl10 rfl ⟨⟨rfl, rfl⟩, Nat.le_of_ble_eq_true rfl, Nat.le_of_ble_eq_true rfl⟩ rfl rfl (Nat.le_of_ble_eq_true rfl) hcs0 dL_law_1703 (fun H locs hw => ?_)
                                                                                                  refine lv_icmp_eq (tgt := 1840) X.1 X.2.1 dL_law_1706 (by decide) (fun c1706 => ?_) (fun c1706 => ?_)
                                                                                                  · have hf := si_ip c1706 hf
                                                                                                    refine W.widen (k := cs + 1) (n := ss + 6) (by omega) (by omega) ?_
                                                                                                    exact B1840 _ _ _ _ _ (cs + 1) (ss + 6) (by omega) (by omega) hf hw (lv_sub hl [0, 1, 2, 3, 4] rfl)
                                                                                                  · have hf := si_in c1706 hf
                                                                                                    refine lv_iconst (v := 0) X.1 X.2.1 dL_law_1709 (by decide) ?_
                                                                                                    exact hret _ _ _ _ _ _ _ _ hf hw (by omega) (by omega) dL_law_1710
                                                                                                · have hf := si_in c40_44 hf
                                                                                                  rcases Decidable.em ((v6 &&& 63) = 45) with c40_45 | c40_45
                                                                                                  · have hf := si_ip c40_45 hf
                                                                                                    refine lv_tableIn (tgt := 1711) X.1 X.2.1 dL_law_40 (by rw [c40_45]; decide) (by rw [c40_45]; decide) (off := 1671) (by rw [c40_45]; rfl) (by decide) ?_
                                                                                                    refine lv_aload_n X.1 X.2.1 dL_law_1711 rfl (lv_at hl 1 rfl) ?_
                                                                                                    refine lv_aload_n X.1 X.2.1 dL_law_1712 rfl (lv_at hl 0 rfl) ?_
                                                                                                    refine lv_iload X.1 X.2.1 dL_law_1713 (lv_at hl 4 rfl) ?_
                                                                                                    refine lv_iconst (v := 1) X.1 X.2.1 dL_law_1715 (by decide) ?_
                                                                                                    refine lv_iadd X.1 X.2.1 dL_law_1716 ?_
                                                                                                    obtain ⟨v225, ev225, hf⟩ := si_ob hf
                                                                                                    refine si_sld X hX hbl hbA hw.2.2 ev225 dL_law_1717 ?_
                                                                                                    refine lv_aload_n X.1 X.2.1 dL_law_1718 rfl (lv_at hl 0 rfl) ?_
                                                                                                    refine lv_iload X.1 X.2.1 dL_law_1719 (lv_at hl 4 rfl) ?_
                                                                                                    refine lv_iconst (v := 2) X.1 X.2.1 dL_law_1721 (by decide) ?_
                                                                                                    refine lv_iadd X.1 X.2.1 dL_law_1722 ?_
                                                                                                    obtain ⟨v226, ev226, hf⟩ := si_ob hf
                                                                                                    refine si_sld X hX hbl hbA hw.2.2 ev226 dL_law_1723 ?_
                                                                                                    refine lv_if_eq (tgt := 1731) X.1 X.2.1 dL_law_1724 (by decide) (fun c1724 => ?_) (fun c1724 => ?_)
                                                                                                    · have hf := si_ip c1724 hf
                                                                                                      refine lv_iconst (v := 0) X.1 X.2.1 dL_law_1731 (by decide) ?_
                                                                                                      refine W.widen (k := cs + 1) (n := ss + 6) (by omega) (by omega) ?_
                                                                                                      exact B1732 _ _ _ _ _ _ _ (cs + 1) (ss + 6) (by omega) (by omega) hf hw (lv_sub hl [0, 1, 2, 3, 4] rfl)
                                                                                                    · have hf := si_in c1724 hf
                                                                                                      refine lv_iconst (v := 1) X.1 X.2.1 dL_law_1727 (by decide) ?_
                                                                                                      refine lv_goto (tgt := 1732) X.1 X.2.1 dL_law_1728 (by decide) ?_
                                                                                                      refine W.widen (k := cs + 1) (n := ss + 6) (by omega) (by omega) ?_
                                                                                                      exact B1732 _ _ _ _ _ _ _ (cs + 1) (ss + 6) (by omega) (by omega) hf hw (lv_sub hl [0, 1, 2, 3, 4] rfl)
                                                                                                  · have hf := si_in c40_45 hf
                                                                                                    rcases Decidable.em ((v6 &&& 63) = 46) with c40_46 | c40_46
                                                                                                    · have hf := si_ip c40_46 hf
                                                                                                      refine lv_tableIn (tgt := 1764) X.1 X.2.1 dL_law_40 (by rw [c40_46]; decide) (by rw [c40_46]; decide) (off := 1724) (by rw [c40_46]; rfl) (by decide) ?_
                                                                                                      refine lv_aload_n X.1 X.2.1 dL_law_1764 rfl (lv_at hl 1 rfl) ?_
                                                                                                      obtain ⟨q227, eq227, hf⟩ := si_ob hf
                                                                                                      refine si_cVi [] cal_X9_undo gm_RL_228 X hw hA hl.1 (c_X9_undo l E F S q227 eq227) si_cl9 rfl ⟨⟨rfl, rfl⟩, Nat.le_of_ble_eq_true rfl, Nat.le_of_ble_eq_true rfl⟩ rfl rfl (Nat.le_of_ble_eq_true rfl) hcs0 dL_law_1765 (fun H locs hw => ?_)
                                                                                                      refine lv_aload_n X.1 X.2.1 dL_law_1768 rfl (lv_at hl 2 rfl) ?_
                                                                                                      obtain ⟨q228, eq228, hf⟩ := si_ob hf
                                                                                                      refine si_cVi [] cal_X10_undo gm_RL_232 X hw hA hl.1 (c_X10_undo l E F q227.2 q228 eq228) si_cl10 rfl ⟨⟨rfl, rfl⟩, Nat.le_of_ble_eq_true rfl, Nat.le_of_ble_eq_true rfl⟩ rfl rfl (Nat.le_of_ble_eq_true rfl) hcs0 dL_law_1769 (fun H locs hw => ?_)
                                                                                                      refine lv_icmp_eq (tgt := 1840) X.1 X.2.1 dL_law_1772 (by decide) (fun c1772 => ?_) (fun c1772 => ?_)
                                                                                                      · have hf := si_ip c1772 hf
                                                                                                        refine W.widen (k := cs + 1) (n := ss + 6) (by omega) (by omega) ?_
                                                                                                        exact B1840 _ _ _ _ _ (cs + 1) (ss + 6) (by omega) (by omega) hf hw (lv_sub hl [0, 1, 2, 3, 4] rfl)
                                                                                                      · have hf := si_in c1772 hf
                                                                                                        refine lv_iconst (v := 0) X.1 X.2.1 dL_law_1775 (by decide) ?_
                                                                                                        exact hret _ _ _ _ _ _ _ _ hf hw (by omega) (by omega) dL_law_1776
                                                                                                    · have hf := si_in c40_46 hf
                                                                                                      rcases Decidable.em ((v6 &&& 63) = 47) with c40_47 | c40_47
                                                                                                      · have hf := si_ip c40_47 hf
                                                                                                        refine lv_tableIn (tgt := 1777) X.1 X.2.1 dL_law_40 (by rw [c40_47]; decide) (by rw [c40_47]; decide) (off := 1737) (by rw [c40_47]; rfl) (by decide) ?_
                                                                                                        refine lv_aload_n X.1 X.2.1 dL_law_1777 rfl (lv_at hl 1 rfl) ?_
                                                                                                        obtain ⟨q229, eq229, hf⟩ := si_ob hf
                                                                                                        refine si_cVi [] cal_X9_undoDepth gm_RL_233 X hw hA hl.1 (c_X9_undoDepth l E F S q229 eq229) si_cl9 rfl ⟨⟨rfl, rfl⟩, Nat.le_of_ble_eq_true rfl, Nat.le_of_ble_eq_true rfl⟩ rfl rfl (Nat.le_of_ble_eq_true rfl) hcs0 dL_law_1778 (fun H locs hw => ?_)
                                                                                                        refine lv_aload_n X.1 X.2.1 dL_law_1781 rfl (lv_at hl 2 rfl) ?_
                                                                                                        obtain ⟨q230, eq230, hf⟩ := si_ob hf
                                                                                                        refine si_cVi [] cal_X10_undoDepth gm_RL_236 X hw hA hl.1 (c_X10_undoDepth l E F q229.2 q230 eq230) si_cl10 rfl ⟨⟨rfl, rfl⟩, Nat.le_of_ble_eq_true rfl, Nat.le_of_ble_eq_true rfl⟩ rfl rfl (Nat.le_of_ble_eq_true rfl) hcs0 dL_law_1782 (fun H locs hw => ?_)
                                                                                                        refine lv_icmp_eq (tgt := 1840) X.1 X.2.1 dL_law_1785 (by decide) (fun c1785 => ?_) (fun c1785 => ?_)
                                                                                                        · have hf := si_ip c1785 hf
                                                                                                          refine W.widen (k := cs + 1) (n := ss + 6) (by omega) (by omega) ?_
                                                                                                          exact B1840 _ _ _ _ _ (cs + 1) (ss + 6) (by omega) (by omega) hf hw (lv_sub hl [0, 1, 2, 3, 4] rfl)
                                                                                                        · have hf := si_in c1785 hf
                                                                                                          refine lv_iconst (v := 0) X.1 X.2.1 dL_law_1788 (by decide) ?_
                                                                                                          exact hret _ _ _ _ _ _ _ _ hf hw (by omega) (by omega) dL_law_1789
                                                                                                      · have hf := si_in c40_47 hf
                                                                                                        rcases Decidable.em ((v6 &&& 63) = 48) with c40_48 | c40_48
                                                                                                        · have hf := si_ip c40_48 hf
                                                                                                          refine lv_tableIn (tgt := 1790) X.1 X.2.1 dL_law_40 (by rw [c40_48]; decide) (by rw [c40_48]; decide) (off := 1750) (by rw [c40_48]; rfl) (by decide) ?_
                                                                                                          refine lv_aload_n X.1 X.2.1 dL_law_1790 rfl (lv_at hl 1 rfl) ?_
                                                                                                          refine lv_aload_n X.1 X.2.1 dL_law_1791 rfl (lv_at hl 0 rfl) ?_
                                                                                                          refine lv_iload X.1 X.2.1 dL_law_1792 (lv_at hl 4 rfl) ?_
                                                                                                          refine lv_iconst (v := 1) X.1 X.2.1 dL_law_1794 (by decide) ?_
                                                                                                          refine lv_iadd X.1 X.2.1 dL_law_1795 ?_
                                                                                                          obtain ⟨v231, ev231, hf⟩ := si_ob hf
                                                                                                          refine si_sld X hX hbl hbA hw.2.2 ev231 dL_law_1796 ?_
                                                                                                          obtain ⟨q232, eq232, hf⟩ := si_ob hf
                                                                                                          refine si_cVi [.int v231] cal_X9_saveSnapshot gm_RL_237 X hw hA hl.1 (c_X9_saveSnapshot l E F v231 S q232 eq232) si_cl9 rfl ⟨⟨rfl, rfl⟩, Nat.le_of_ble_eq_true rfl, Nat.le_of_ble_eq_true rfl⟩ rfl rfl (Nat.le_of_ble_eq_true rfl) hcs0 dL_law_1797 (fun H locs hw => ?_)
                                                                                                          refine lv_aload_n X.1 X.2.1 dL_law_1800 rfl (lv_at hl 2 rfl) ?_
                                                                                                          refine lv_aload_n X.1 X.2.1 dL_law_1801 rfl (lv_at hl 0 rfl) ?_
                                                                                                          refine lv_iload X.1 X.2.1 dL_law_1802 (lv_at hl 4 rfl) ?_
                                                                                                          refine lv_iconst (v := 1) X.1 X.2.1 dL_law_1804 (by decide) ?_
                                                                                                          refine lv_iadd X.1 X.2.1 dL_law_1805 ?_
                                                                                                          obtain ⟨v233, ev233, hf⟩ := si_ob hf
                                                                                                          refine si_sld X hX hbl hbA hw.2.2 ev233 dL_law_1806 ?_
                                                                                                          obtain ⟨q234, eq234, hf⟩ := si_ob hf
                                                                                                          refine si_cVi [.int v233] cal_X10_saveSnapshot gm_RL_241 X hw hA hl.1 (c_X10_saveSnapshot l E F v233 q232.2 q234 eq234) si_cl10 rfl ⟨⟨rfl, rfl⟩, Nat.le_of_ble_eq_true rfl, Nat.le_of_ble_eq_true rfl⟩ rfl rfl (Nat.le_of_ble_eq_true rfl) hcs0 dL_law_1807 (fun H locs hw => ?_)
                                                                                                          refine lv_icmp_eq (tgt := 1840) X.1 X.2.1 dL_law_1810 (by decide) (fun c1810 => ?_) (fun c1810 => ?_)
                                                                                                          · have hf := si_ip c1810 hf
                                                                                                            refine W.widen (k := cs + 1) (n := ss + 6) (by omega) (by omega) ?_
                                                                                                            exact B1840 _ _ _ _ _ (cs + 1) (ss + 6) (by omega) (by omega) hf hw (lv_sub hl [0, 1, 2, 3, 4] rfl)
                                                                                                          · have hf := si_in c1810 hf
                                                                                                            refine lv_iconst (v := 0) X.1 X.2.1 dL_law_1813 (by decide) ?_
                                                                                                            exact hret _ _ _ _ _ _ _ _ hf hw (by omega) (by omega) dL_law_1814
                                                                                                        · have hf := si_in c40_48 hf
                                                                                                          rcases Decidable.em ((v6 &&& 63) = 49) with c40_49 | c40_49
                                                                                                          · have hf := si_ip c40_49 hf
                                                                                                            refine lv_tableIn (tgt := 1815) X.1 X.2.1 dL_law_40 (by rw [c40_49]; decide) (by rw [c40_49]; decide) (off := 1775) (by rw [c40_49]; rfl) (by decide) ?_
                                                                                                            refine lv_aload_n X.1 X.2.1 dL_law_1815 rfl (lv_at hl 1 rfl) ?_
                                                                                                            refine lv_aload_n X.1 X.2.1 dL_law_1816 rfl (lv_at hl 0 rfl) ?_
                                                                                                            refine lv_iload X.1 X.2.1 dL_law_1817 (lv_at hl 4 rfl) ?_
                                                                                                            refine lv_iconst (v := 1) X.1 X.2.1 dL_law_1819 (by decide) ?_
                                                                                                            refine lv_iadd X.1 X.2.1 dL_law_1820 ?_
                                                                                                            obtain ⟨v235, ev235, hf⟩ := si_ob hf
                                                                                                            refine si_sld X hX hbl hbA hw.2.2 ev235 dL_law_1821 ?_
                                                                                                            obtain ⟨q236, eq236, hf⟩ := si_ob hf
                                                                                                            refine si_cVi [.int v235] cal_X9_restoreSnapshot gm_RL_242 X hw hA hl.1 (c_X9_restoreSnapshot l E F v235 S q236 eq236) si_cl9 rfl ⟨⟨rfl, rfl⟩, Nat.le_of_ble_eq_true rfl, Nat.le_of_ble_eq_true rfl⟩ rfl rfl (Nat.le_of_ble_eq_true rfl) hcs0 dL_law_1822 (fun H locs hw => ?_)
                                                                                                            refine lv_aload_n X.1 X.2.1 dL_law_1825 rfl (lv_at hl 2 rfl) ?_
                                                                                                            refine lv_aload_n X.1 X.2.1 dL_law_1826 rfl (lv_at hl 0 rfl) ?_
                                                                                                            refine lv_iload X.1 X.2.1 dL_law_1827 (lv_at hl 4 rfl) ?_
                                                                                                            refine lv_iconst (v := 1) X.1 X.2.1 dL_law_1829 (by decide) ?_
                                                                                                            refine lv_iadd X.1 X.2.1 dL_law_1830 ?_
                                                                                                            obtain ⟨v237, ev237, hf⟩ := si_ob hf
                                                                                                            refine si_sld X hX hbl hbA hw.2.2 ev237 dL_law_1831 ?_
                                                                                                            obtain ⟨q238, eq238, hf⟩ := si_ob hf
                                                                                                            refine si_cVi [.int v237] cal_X10_restoreSnapshot gm_RL_245 X hw hA hl.1 (c_X10_restoreSnapshot l E F v237 q236.2 q238 eq238) si_cl10 rfl ⟨⟨rfl, rfl⟩, Nat.le_of_ble_eq_true rfl, Nat.le_of_ble_eq_true rfl⟩ rfl rfl (Nat.le_of_ble_eq_true rfl) hcs0 dL_law_1832 (fun H locs hw => ?_)
                                                                                                            refine lv_icmp_eq (tgt := 1840) X.1 X.2.1 dL_law_1835 (by decide) (fun c1835 => ?_) (fun c1835 => ?_)
                                                                                                            · have hf := si_ip c1835 hf
                                                                                                              refine W.widen (k := cs + 1) (n := ss + 6) (by omega) (by omega) ?_
                                                                                                              exact B1840 _ _ _ _ _ (cs + 1) (ss + 6) (by omega) (by omega) hf hw (lv_sub hl [0, 1, 2, 3, 4] rfl)
                                                                                                            · have hf := si_in c1835 hf
                                                                                                              refine lv_iconst (v := 0) X.1 X.2.1 dL_law_1838 (by decide) ?_
                                                                                                              exact hret _ _ _ _ _ _ _ _ hf hw (by omega) (by omega) dL_law_1839
                                                                                                          · have hf := si_in c40_49 hf
                                                                                                            have n0 : ¬ ((v6 &&& 63)).toInt = 0 := si_toInt_ne c40_0
                                                                                                            have n1 : ¬ ((v6 &&& 63)).toInt = 1 := si_toInt_ne c40_1
                                                                                                            have n2 : ¬ ((v6 &&& 63)).toInt = 2 := si_toInt_ne c40_2
                                                                                                            have n3 : ¬ ((v6 &&& 63)).toInt = 3 := si_toInt_ne c40_3
                                                                                                            have n4 : ¬ ((v6 &&& 63)).toInt = 4 := si_toInt_ne c40_4
                                                                                                            have n5 : ¬ ((v6 &&& 63)).toInt = 5 := si_toInt_ne c40_5
                                                                                                            have n6 : ¬ ((v6 &&& 63)).toInt = 6 := si_toInt_ne c40_6
                                                                                                            have n7 : ¬ ((v6 &&& 63)).toInt = 7 := si_toInt_ne c40_7
                                                                                                            have n8 : ¬ ((v6 &&& 63)).toInt = 8 := si_toInt_ne c40_8
                                                                                                            have n9 : ¬ ((v6 &&& 63)).toInt = 9 := si_toInt_ne c40_9
                                                                                                            have n10 : ¬ ((v6 &&& 63)).toInt = 10 := si_toInt_ne c40_10
                                                                                                            have n11 : ¬ ((v6 &&& 63)).toInt = 11 := si_toInt_ne c40_11
                                                                                                            have n12 : ¬ ((v6 &&& 63)).toInt = 12 := si_toInt_ne c40_12
                                                                                                            have n13 : ¬ ((v6 &&& 63)).toInt = 13 := si_toInt_ne c40_13
                                                                                                            have n14 : ¬ ((v6 &&& 63)).toInt = 14 := si_toInt_ne c40_14
                                                                                                            have n15 : ¬ ((v6 &&& 63)).toInt = 15 := si_toInt_ne c40_15
                                                                                                            have n16 : ¬ ((v6 &&& 63)).toInt = 16 := si_toInt_ne c40_16
                                                                                                            have n17 : ¬ ((v6 &&& 63)).toInt = 17 := si_toInt_ne c40_17
                                                                                                            have n18 : ¬ ((v6 &&& 63)).toInt = 18 := si_toInt_ne c40_18
                                                                                                            have n19 : ¬ ((v6 &&& 63)).toInt = 19 := si_toInt_ne c40_19
                                                                                                            have n20 : ¬ ((v6 &&& 63)).toInt = 20 := si_toInt_ne c40_20
                                                                                                            have n21 : ¬ ((v6 &&& 63)).toInt = 21 := si_toInt_ne c40_21
                                                                                                            have n22 : ¬ ((v6 &&& 63)).toInt = 22 := si_toInt_ne c40_22
                                                                                                            have n23 : ¬ ((v6 &&& 63)).toInt = 23 := si_toInt_ne c40_23
                                                                                                            have n24 : ¬ ((v6 &&& 63)).toInt = 24 := si_toInt_ne c40_24
                                                                                                            have n25 : ¬ ((v6 &&& 63)).toInt = 25 := si_toInt_ne c40_25
                                                                                                            have n26 : ¬ ((v6 &&& 63)).toInt = 26 := si_toInt_ne c40_26
                                                                                                            have n27 : ¬ ((v6 &&& 63)).toInt = 27 := si_toInt_ne c40_27
                                                                                                            have n28 : ¬ ((v6 &&& 63)).toInt = 28 := si_toInt_ne c40_28
                                                                                                            have n29 : ¬ ((v6 &&& 63)).toInt = 29 := si_toInt_ne c40_29
                                                                                                            have n30 : ¬ ((v6 &&& 63)).toInt = 30 := si_toInt_ne c40_30
                                                                                                            have n31 : ¬ ((v6 &&& 63)).toInt = 31 := si_toInt_ne c40_31
                                                                                                            have n32 : ¬ ((v6 &&& 63)).toInt = 32 := si_toInt_ne c40_32
                                                                                                            have n33 : ¬ ((v6 &&& 63)).toInt = 33 := si_toInt_ne c40_33
                                                                                                            have n34 : ¬ ((v6 &&& 63)).toInt = 34 := si_toInt_ne c40_34
                                                                                                            have n35 : ¬ ((v6 &&& 63)).toInt = 35 := si_toInt_ne c40_35
                                                                                                            have n36 : ¬ ((v6 &&& 63)).toInt = 36 := si_toInt_ne c40_36
                                                                                                            have n37 : ¬ ((v6 &&& 63)).toInt = 37 := si_toInt_ne c40_37
                                                                                                            have n38 : ¬ ((v6 &&& 63)).toInt = 38 := si_toInt_ne c40_38
                                                                                                            have n39 : ¬ ((v6 &&& 63)).toInt = 39 := si_toInt_ne c40_39
                                                                                                            have n40 : ¬ ((v6 &&& 63)).toInt = 40 := si_toInt_ne c40_40
                                                                                                            have n41 : ¬ ((v6 &&& 63)).toInt = 41 := si_toInt_ne c40_41
                                                                                                            have n42 : ¬ ((v6 &&& 63)).toInt = 42 := si_toInt_ne c40_42
                                                                                                            have n43 : ¬ ((v6 &&& 63)).toInt = 43 := si_toInt_ne c40_43
                                                                                                            have n44 : ¬ ((v6 &&& 63)).toInt = 44 := si_toInt_ne c40_44
                                                                                                            have n45 : ¬ ((v6 &&& 63)).toInt = 45 := si_toInt_ne c40_45
                                                                                                            have n46 : ¬ ((v6 &&& 63)).toInt = 46 := si_toInt_ne c40_46
                                                                                                            have n47 : ¬ ((v6 &&& 63)).toInt = 47 := si_toInt_ne c40_47
                                                                                                            have n48 : ¬ ((v6 &&& 63)).toInt = 48 := si_toInt_ne c40_48
                                                                                                            have n49 : ¬ ((v6 &&& 63)).toInt = 49 := si_toInt_ne c40_49
                                                                                                            refine lv_tableOut (tgt := 1840) X.1 X.2.1 dL_law_40 (by omega) (by decide) ?_
                                                                                                            refine W.widen (k := cs + 1) (n := ss + 6) (by omega) (by omega) ?_
                                                                                                            exact B1840 _ _ _ _ _ (cs + 1) (ss + 6) (by omega) (by omega) hf hw (lv_sub hl [0, 1, 2, 3, 4] rfl)
  exact B23
