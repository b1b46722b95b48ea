set_option maxRecDepth 20000
set_option maxHeartbeats 4000000
set_option linter.all false
/-! the rows of the law's own body -/
abbrev tL_law : MT := (RL, code, 7, 70, some .boolean)
theorem dL_law_0 : decode code 0 = .ok (.new 8, 3) := by decide +kernel
theorem dL_law_3 : decode code 3 = .ok (.dup, 1) := by decide +kernel
theorem dL_law_4 : decode code 4 = .ok (.invokespecial 15, 3) := by decide +kernel
theorem dL_law_7 : decode code 7 = .ok (.astore_n 1, 1) := by decide +kernel
theorem dL_law_8 : decode code 8 = .ok (.new 16, 3) := by decide +kernel
theorem dL_law_11 : decode code 11 = .ok (.dup, 1) := by decide +kernel
theorem dL_law_12 : decode code 12 = .ok (.invokespecial 18, 3) := by decide +kernel
theorem dL_law_15 : decode code 15 = .ok (.astore_n 2, 1) := by decide +kernel
theorem dL_law_16 : decode code 16 = .ok (.iconst 1, 1) := by decide +kernel
theorem dL_law_17 : decode code 17 = .ok (.newarray .long, 2) := by decide +kernel
theorem dL_law_19 : decode code 19 = .ok (.astore_n 3, 1) := by decide +kernel
theorem dL_law_20 : decode code 20 = .ok (.iconst 0, 1) := by decide +kernel
theorem dL_law_21 : decode code 21 = .ok (.istore 4, 2) := by decide +kernel
theorem dL_law_23 : decode code 23 = .ok (.iload 4, 2) := by decide +kernel
theorem dL_law_25 : decode code 25 = .ok (.aload_n 0, 1) := by decide +kernel
theorem dL_law_26 : decode code 26 = .ok (.arraylength, 1) := by decide +kernel
theorem dL_law_27 : decode code 27 = .ok (.bipush 7, 2) := by decide +kernel
theorem dL_law_29 : decode code 29 = .ok (.isub, 1) := by decide +kernel
theorem dL_law_30 : decode code 30 = .ok (.if_icmp .gt 1758, 3) := by decide +kernel
theorem dL_law_33 : decode code 33 = .ok (.aload_n 0, 1) := by decide +kernel
theorem dL_law_34 : decode code 34 = .ok (.iload 4, 2) := by decide +kernel
theorem dL_law_36 : decode code 36 = .ok (.iaload, 1) := by decide +kernel
theorem dL_law_37 : decode code 37 = .ok (.bipush 63, 2) := by decide +kernel
theorem dL_law_39 : decode code 39 = .ok (.iand, 1) := by decide +kernel
theorem dL_law_40 : decode code 40 = .ok (.tableswitch 1742 0 48 #[212, 359, 372, 385, 422, 459, 496, 533, 558, 583, 596, 621, 646, 671, 708, 733, 758, 771, 808, 833, 846, 859, 872, 909, 934, 959, 996, 1033, 1046, 1071, 1108, 1121, 1158, 1183, 1220, 1245, 1270, 1283, 1332, 1357, 1382, 1395, 1460, 1473, 1486, 1523, 1615, 1664, 1717], 212) := by decide +kernel
theorem dL_law_252 : decode code 252 = .ok (.aload_n 1, 1) := by decide +kernel
theorem dL_law_253 : decode code 253 = .ok (.aload_n 0, 1) := by decide +kernel
theorem dL_law_254 : decode code 254 = .ok (.iload 4, 2) := by decide +kernel
theorem dL_law_256 : decode code 256 = .ok (.iconst 1, 1) := by decide +kernel
theorem dL_law_257 : decode code 257 = .ok (.iadd, 1) := by decide +kernel
theorem dL_law_258 : decode code 258 = .ok (.iaload, 1) := by decide +kernel
theorem dL_law_259 : decode code 259 = .ok (.i2l, 1) := by decide +kernel
theorem dL_law_260 : decode code 260 = .ok (.bipush 32, 2) := by decide +kernel
theorem dL_law_262 : decode code 262 = .ok (.lshl, 1) := by decide +kernel
theorem dL_law_263 : decode code 263 = .ok (.aload_n 0, 1) := by decide +kernel
theorem dL_law_264 : decode code 264 = .ok (.iload 4, 2) := by decide +kernel
theorem dL_law_266 : decode code 266 = .ok (.iconst 2, 1) := by decide +kernel
theorem dL_law_267 : decode code 267 = .ok (.iadd, 1) := by decide +kernel
theorem dL_law_268 : decode code 268 = .ok (.iaload, 1) := by decide +kernel
theorem dL_law_269 : decode code 269 = .ok (.i2l, 1) := by decide +kernel
theorem dL_law_270 : decode code 270 = .ok (.ldc2_w 19, 3) := by decide +kernel
theorem dL_law_273 : decode code 273 = .ok (.land, 1) := by decide +kernel
theorem dL_law_274 : decode code 274 = .ok (.lor, 1) := by decide +kernel
theorem dL_law_275 : decode code 275 = .ok (.aload_n 0, 1) := by decide +kernel
theorem dL_law_276 : decode code 276 = .ok (.iload 4, 2) := by decide +kernel
theorem dL_law_278 : decode code 278 = .ok (.iconst 3, 1) := by decide +kernel
theorem dL_law_279 : decode code 279 = .ok (.iadd, 1) := by decide +kernel
theorem dL_law_280 : decode code 280 = .ok (.iaload, 1) := by decide +kernel
theorem dL_law_281 : decode code 281 = .ok (.i2l, 1) := by decide +kernel
theorem dL_law_282 : decode code 282 = .ok (.bipush 32, 2) := by decide +kernel
theorem dL_law_284 : decode code 284 = .ok (.lshl, 1) := by decide +kernel
theorem dL_law_285 : decode code 285 = .ok (.aload_n 0, 1) := by decide +kernel
theorem dL_law_286 : decode code 286 = .ok (.iload 4, 2) := by decide +kernel
theorem dL_law_288 : decode code 288 = .ok (.iconst 4, 1) := by decide +kernel
theorem dL_law_289 : decode code 289 = .ok (.iadd, 1) := by decide +kernel
theorem dL_law_290 : decode code 290 = .ok (.iaload, 1) := by decide +kernel
theorem dL_law_291 : decode code 291 = .ok (.i2l, 1) := by decide +kernel
theorem dL_law_292 : decode code 292 = .ok (.ldc2_w 19, 3) := by decide +kernel
theorem dL_law_295 : decode code 295 = .ok (.land, 1) := by decide +kernel
theorem dL_law_296 : decode code 296 = .ok (.lor, 1) := by decide +kernel
theorem dL_law_297 : decode code 297 = .ok (.aload_n 0, 1) := by decide +kernel
theorem dL_law_298 : decode code 298 = .ok (.iload 4, 2) := by decide +kernel
theorem dL_law_300 : decode code 300 = .ok (.iconst 5, 1) := by decide +kernel
theorem dL_law_301 : decode code 301 = .ok (.iadd, 1) := by decide +kernel
theorem dL_law_302 : decode code 302 = .ok (.iaload, 1) := by decide +kernel
theorem dL_law_303 : decode code 303 = .ok (.i2l, 1) := by decide +kernel
theorem dL_law_304 : decode code 304 = .ok (.bipush 32, 2) := by decide +kernel
theorem dL_law_306 : decode code 306 = .ok (.lshl, 1) := by decide +kernel
theorem dL_law_307 : decode code 307 = .ok (.aload_n 0, 1) := by decide +kernel
theorem dL_law_308 : decode code 308 = .ok (.iload 4, 2) := by decide +kernel
theorem dL_law_310 : decode code 310 = .ok (.bipush 6, 2) := by decide +kernel
theorem dL_law_312 : decode code 312 = .ok (.iadd, 1) := by decide +kernel
theorem dL_law_313 : decode code 313 = .ok (.iaload, 1) := by decide +kernel
theorem dL_law_314 : decode code 314 = .ok (.i2l, 1) := by decide +kernel
theorem dL_law_315 : decode code 315 = .ok (.ldc2_w 19, 3) := by decide +kernel
theorem dL_law_318 : decode code 318 = .ok (.land, 1) := by decide +kernel
theorem dL_law_319 : decode code 319 = .ok (.lor, 1) := by decide +kernel
theorem dL_law_320 : decode code 320 = .ok (.invokevirtual 21, 3) := by decide +kernel
theorem dL_law_323 : decode code 323 = .ok (.aload_n 2, 1) := by decide +kernel
theorem dL_law_324 : decode code 324 = .ok (.aload_n 0, 1) := by decide +kernel
theorem dL_law_325 : decode code 325 = .ok (.iload 4, 2) := by decide +kernel
theorem dL_law_327 : decode code 327 = .ok (.iconst 1, 1) := by decide +kernel
theorem dL_law_328 : decode code 328 = .ok (.iadd, 1) := by decide +kernel
theorem dL_law_329 : decode code 329 = .ok (.iaload, 1) := by decide +kernel
theorem dL_law_330 : decode code 330 = .ok (.i2l, 1) := by decide +kernel
theorem dL_law_331 : decode code 331 = .ok (.bipush 32, 2) := by decide +kernel
theorem dL_law_333 : decode code 333 = .ok (.lshl, 1) := by decide +kernel
theorem dL_law_334 : decode code 334 = .ok (.aload_n 0, 1) := by decide +kernel
theorem dL_law_335 : decode code 335 = .ok (.iload 4, 2) := by decide +kernel
theorem dL_law_337 : decode code 337 = .ok (.iconst 2, 1) := by decide +kernel
theorem dL_law_338 : decode code 338 = .ok (.iadd, 1) := by decide +kernel
theorem dL_law_339 : decode code 339 = .ok (.iaload, 1) := by decide +kernel
theorem dL_law_340 : decode code 340 = .ok (.i2l, 1) := by decide +kernel
theorem dL_law_341 : decode code 341 = .ok (.ldc2_w 19, 3) := by decide +kernel
theorem dL_law_344 : decode code 344 = .ok (.land, 1) := by decide +kernel
theorem dL_law_345 : decode code 345 = .ok (.lor, 1) := by decide +kernel
theorem dL_law_346 : decode code 346 = .ok (.aload_n 0, 1) := by decide +kernel
theorem dL_law_347 : decode code 347 = .ok (.iload 4, 2) := by decide +kernel
theorem dL_law_349 : decode code 349 = .ok (.iconst 3, 1) := by decide +kernel
theorem dL_law_350 : decode code 350 = .ok (.iadd, 1) := by decide +kernel
theorem dL_law_351 : decode code 351 = .ok (.iaload, 1) := by decide +kernel
theorem dL_law_352 : decode code 352 = .ok (.i2l, 1) := by decide +kernel
theorem dL_law_353 : decode code 353 = .ok (.bipush 32, 2) := by decide +kernel
theorem dL_law_355 : decode code 355 = .ok (.lshl, 1) := by decide +kernel
theorem dL_law_356 : decode code 356 = .ok (.aload_n 0, 1) := by decide +kernel
theorem dL_law_357 : decode code 357 = .ok (.iload 4, 2) := by decide +kernel
theorem dL_law_359 : decode code 359 = .ok (.iconst 4, 1) := by decide +kernel
theorem dL_law_360 : decode code 360 = .ok (.iadd, 1) := by decide +kernel
theorem dL_law_361 : decode code 361 = .ok (.iaload, 1) := by decide +kernel
theorem dL_law_362 : decode code 362 = .ok (.i2l, 1) := by decide +kernel
theorem dL_law_363 : decode code 363 = .ok (.ldc2_w 19, 3) := by decide +kernel
theorem dL_law_366 : decode code 366 = .ok (.land, 1) := by decide +kernel
theorem dL_law_367 : decode code 367 = .ok (.lor, 1) := by decide +kernel
theorem dL_law_368 : decode code 368 = .ok (.aload_n 0, 1) := by decide +kernel
theorem dL_law_369 : decode code 369 = .ok (.iload 4, 2) := by decide +kernel
theorem dL_law_371 : decode code 371 = .ok (.iconst 5, 1) := by decide +kernel
theorem dL_law_372 : decode code 372 = .ok (.iadd, 1) := by decide +kernel
theorem dL_law_373 : decode code 373 = .ok (.iaload, 1) := by decide +kernel
theorem dL_law_374 : decode code 374 = .ok (.i2l, 1) := by decide +kernel
theorem dL_law_375 : decode code 375 = .ok (.bipush 32, 2) := by decide +kernel
theorem dL_law_377 : decode code 377 = .ok (.lshl, 1) := by decide +kernel
theorem dL_law_378 : decode code 378 = .ok (.aload_n 0, 1) := by decide +kernel
theorem dL_law_379 : decode code 379 = .ok (.iload 4, 2) := by decide +kernel
theorem dL_law_381 : decode code 381 = .ok (.bipush 6, 2) := by decide +kernel
theorem dL_law_383 : decode code 383 = .ok (.iadd, 1) := by decide +kernel
theorem dL_law_384 : decode code 384 = .ok (.iaload, 1) := by decide +kernel
theorem dL_law_385 : decode code 385 = .ok (.i2l, 1) := by decide +kernel
theorem dL_law_386 : decode code 386 = .ok (.ldc2_w 19, 3) := by decide +kernel
theorem dL_law_389 : decode code 389 = .ok (.land, 1) := by decide +kernel
theorem dL_law_390 : decode code 390 = .ok (.lor, 1) := by decide +kernel
theorem dL_law_391 : decode code 391 = .ok (.invokevirtual 25, 3) := by decide +kernel
theorem dL_law_394 : decode code 394 = .ok (.if_icmp .eq 1388, 3) := by decide +kernel
theorem dL_law_397 : decode code 397 = .ok (.iconst 0, 1) := by decide +kernel
theorem dL_law_398 : decode code 398 = .ok (.ireturn, 1) := by decide +kernel
theorem dL_law_399 : decode code 399 = .ok (.aload_n 1, 1) := by decide +kernel
theorem dL_law_400 : decode code 400 = .ok (.invokevirtual 26, 3) := by decide +kernel
theorem dL_law_403 : decode code 403 = .ok (.aload_n 2, 1) := by decide +kernel
theorem dL_law_404 : decode code 404 = .ok (.invokevirtual 30, 3) := by decide +kernel
theorem dL_law_407 : decode code 407 = .ok (.if_icmp .eq 1375, 3) := by decide +kernel
theorem dL_law_410 : decode code 410 = .ok (.iconst 0, 1) := by decide +kernel
theorem dL_law_411 : decode code 411 = .ok (.ireturn, 1) := by decide +kernel
theorem dL_law_412 : decode code 412 = .ok (.aload_n 1, 1) := by decide +kernel
theorem dL_law_413 : decode code 413 = .ok (.invokevirtual 31, 3) := by decide +kernel
theorem dL_law_416 : decode code 416 = .ok (.aload_n 2, 1) := by decide +kernel
theorem dL_law_417 : decode code 417 = .ok (.invokevirtual 34, 3) := by decide +kernel
theorem dL_law_420 : decode code 420 = .ok (.if_icmp .eq 1362, 3) := by decide +kernel
theorem dL_law_423 : decode code 423 = .ok (.iconst 0, 1) := by decide +kernel
theorem dL_law_424 : decode code 424 = .ok (.ireturn, 1) := by decide +kernel
theorem dL_law_425 : decode code 425 = .ok (.aload_n 1, 1) := by decide +kernel
theorem dL_law_426 : decode code 426 = .ok (.aload_n 0, 1) := by decide +kernel
theorem dL_law_427 : decode code 427 = .ok (.iload 4, 2) := by decide +kernel
theorem dL_law_429 : decode code 429 = .ok (.iconst 1, 1) := by decide +kernel
theorem dL_law_430 : decode code 430 = .ok (.iadd, 1) := by decide +kernel
theorem dL_law_431 : decode code 431 = .ok (.iaload, 1) := by decide +kernel
theorem dL_law_432 : decode code 432 = .ok (.aload_n 0, 1) := by decide +kernel
theorem dL_law_433 : decode code 433 = .ok (.iload 4, 2) := by decide +kernel
theorem dL_law_435 : decode code 435 = .ok (.iconst 2, 1) := by decide +kernel
theorem dL_law_436 : decode code 436 = .ok (.iadd, 1) := by decide +kernel
theorem dL_law_437 : decode code 437 = .ok (.iaload, 1) := by decide +kernel
theorem dL_law_438 : decode code 438 = .ok (.invokevirtual 35, 3) := by decide +kernel
theorem dL_law_441 : decode code 441 = .ok (.aload_n 2, 1) := by decide +kernel
theorem dL_law_442 : decode code 442 = .ok (.aload_n 0, 1) := by decide +kernel
theorem dL_law_443 : decode code 443 = .ok (.iload 4, 2) := by decide +kernel
theorem dL_law_445 : decode code 445 = .ok (.iconst 1, 1) := by decide +kernel
theorem dL_law_446 : decode code 446 = .ok (.iadd, 1) := by decide +kernel
theorem dL_law_447 : decode code 447 = .ok (.iaload, 1) := by decide +kernel
theorem dL_law_448 : decode code 448 = .ok (.aload_n 0, 1) := by decide +kernel
theorem dL_law_449 : decode code 449 = .ok (.iload 4, 2) := by decide +kernel
theorem dL_law_451 : decode code 451 = .ok (.iconst 2, 1) := by decide +kernel
theorem dL_law_452 : decode code 452 = .ok (.iadd, 1) := by decide +kernel
theorem dL_law_453 : decode code 453 = .ok (.iaload, 1) := by decide +kernel
theorem dL_law_454 : decode code 454 = .ok (.invokevirtual 39, 3) := by decide +kernel
theorem dL_law_457 : decode code 457 = .ok (.if_icmp .eq 1325, 3) := by decide +kernel
theorem dL_law_460 : decode code 460 = .ok (.iconst 0, 1) := by decide +kernel
theorem dL_law_461 : decode code 461 = .ok (.ireturn, 1) := by decide +kernel
theorem dL_law_462 : decode code 462 = .ok (.aload_n 1, 1) := by decide +kernel
theorem dL_law_463 : decode code 463 = .ok (.aload_n 0, 1) := by decide +kernel
theorem dL_law_464 : decode code 464 = .ok (.iload 4, 2) := by decide +kernel
theorem dL_law_466 : decode code 466 = .ok (.iconst 1, 1) := by decide +kernel
theorem dL_law_467 : decode code 467 = .ok (.iadd, 1) := by decide +kernel
theorem dL_law_468 : decode code 468 = .ok (.iaload, 1) := by decide +kernel
theorem dL_law_469 : decode code 469 = .ok (.aload_n 0, 1) := by decide +kernel
theorem dL_law_470 : decode code 470 = .ok (.iload 4, 2) := by decide +kernel
theorem dL_law_472 : decode code 472 = .ok (.iconst 2, 1) := by decide +kernel
theorem dL_law_473 : decode code 473 = .ok (.iadd, 1) := by decide +kernel
theorem dL_law_474 : decode code 474 = .ok (.iaload, 1) := by decide +kernel
theorem dL_law_475 : decode code 475 = .ok (.invokevirtual 40, 3) := by decide +kernel
theorem dL_law_478 : decode code 478 = .ok (.aload_n 2, 1) := by decide +kernel
theorem dL_law_479 : decode code 479 = .ok (.aload_n 0, 1) := by decide +kernel
theorem dL_law_480 : decode code 480 = .ok (.iload 4, 2) := by decide +kernel
theorem dL_law_482 : decode code 482 = .ok (.iconst 1, 1) := by decide +kernel
theorem dL_law_483 : decode code 483 = .ok (.iadd, 1) := by decide +kernel
theorem dL_law_484 : decode code 484 = .ok (.iaload, 1) := by decide +kernel
theorem dL_law_485 : decode code 485 = .ok (.aload_n 0, 1) := by decide +kernel
theorem dL_law_486 : decode code 486 = .ok (.iload 4, 2) := by decide +kernel
theorem dL_law_488 : decode code 488 = .ok (.iconst 2, 1) := by decide +kernel
theorem dL_law_489 : decode code 489 = .ok (.iadd, 1) := by decide +kernel
theorem dL_law_490 : decode code 490 = .ok (.iaload, 1) := by decide +kernel
theorem dL_law_491 : decode code 491 = .ok (.invokevirtual 43, 3) := by decide +kernel
theorem dL_law_494 : decode code 494 = .ok (.if_icmp .eq 1288, 3) := by decide +kernel
theorem dL_law_497 : decode code 497 = .ok (.iconst 0, 1) := by decide +kernel
theorem dL_law_498 : decode code 498 = .ok (.ireturn, 1) := by decide +kernel
theorem dL_law_499 : decode code 499 = .ok (.aload_n 1, 1) := by decide +kernel
theorem dL_law_500 : decode code 500 = .ok (.aload_n 0, 1) := by decide +kernel
theorem dL_law_501 : decode code 501 = .ok (.iload 4, 2) := by decide +kernel
theorem dL_law_503 : decode code 503 = .ok (.iconst 1, 1) := by decide +kernel
theorem dL_law_504 : decode code 504 = .ok (.iadd, 1) := by decide +kernel
theorem dL_law_505 : decode code 505 = .ok (.iaload, 1) := by decide +kernel
theorem dL_law_506 : decode code 506 = .ok (.aload_n 0, 1) := by decide +kernel
theorem dL_law_507 : decode code 507 = .ok (.iload 4, 2) := by decide +kernel
theorem dL_law_509 : decode code 509 = .ok (.iconst 2, 1) := by decide +kernel
theorem dL_law_510 : decode code 510 = .ok (.iadd, 1) := by decide +kernel
theorem dL_law_511 : decode code 511 = .ok (.iaload, 1) := by decide +kernel
theorem dL_law_512 : decode code 512 = .ok (.invokevirtual 44, 3) := by decide +kernel
theorem dL_law_515 : decode code 515 = .ok (.aload_n 2, 1) := by decide +kernel
theorem dL_law_516 : decode code 516 = .ok (.aload_n 0, 1) := by decide +kernel
theorem dL_law_517 : decode code 517 = .ok (.iload 4, 2) := by decide +kernel
theorem dL_law_519 : decode code 519 = .ok (.iconst 1, 1) := by decide +kernel
theorem dL_law_520 : decode code 520 = .ok (.iadd, 1) := by decide +kernel
theorem dL_law_521 : decode code 521 = .ok (.iaload, 1) := by decide +kernel
theorem dL_law_522 : decode code 522 = .ok (.aload_n 0, 1) := by decide +kernel
theorem dL_law_523 : decode code 523 = .ok (.iload 4, 2) := by decide +kernel
theorem dL_law_525 : decode code 525 = .ok (.iconst 2, 1) := by decide +kernel
theorem dL_law_526 : decode code 526 = .ok (.iadd, 1) := by decide +kernel
theorem dL_law_527 : decode code 527 = .ok (.iaload, 1) := by decide +kernel
theorem dL_law_528 : decode code 528 = .ok (.invokevirtual 48, 3) := by decide +kernel
theorem dL_law_531 : decode code 531 = .ok (.if_icmp .eq 1251, 3) := by decide +kernel
theorem dL_law_534 : decode code 534 = .ok (.iconst 0, 1) := by decide +kernel
theorem dL_law_535 : decode code 535 = .ok (.ireturn, 1) := by decide +kernel
theorem dL_law_536 : decode code 536 = .ok (.aload_n 1, 1) := by decide +kernel
theorem dL_law_537 : decode code 537 = .ok (.aload_n 0, 1) := by decide +kernel
theorem dL_law_538 : decode code 538 = .ok (.iload 4, 2) := by decide +kernel
theorem dL_law_540 : decode code 540 = .ok (.iconst 1, 1) := by decide +kernel
theorem dL_law_541 : decode code 541 = .ok (.iadd, 1) := by decide +kernel
theorem dL_law_542 : decode code 542 = .ok (.iaload, 1) := by decide +kernel
theorem dL_law_543 : decode code 543 = .ok (.aload_n 0, 1) := by decide +kernel
theorem dL_law_544 : decode code 544 = .ok (.iload 4, 2) := by decide +kernel
theorem dL_law_546 : decode code 546 = .ok (.iconst 2, 1) := by decide +kernel
theorem dL_law_547 : decode code 547 = .ok (.iadd, 1) := by decide +kernel
theorem dL_law_548 : decode code 548 = .ok (.iaload, 1) := by decide +kernel
theorem dL_law_549 : decode code 549 = .ok (.invokevirtual 49, 3) := by decide +kernel
theorem dL_law_552 : decode code 552 = .ok (.aload_n 2, 1) := by decide +kernel
theorem dL_law_553 : decode code 553 = .ok (.aload_n 0, 1) := by decide +kernel
theorem dL_law_554 : decode code 554 = .ok (.iload 4, 2) := by decide +kernel
theorem dL_law_556 : decode code 556 = .ok (.iconst 1, 1) := by decide +kernel
theorem dL_law_557 : decode code 557 = .ok (.iadd, 1) := by decide +kernel
theorem dL_law_558 : decode code 558 = .ok (.iaload, 1) := by decide +kernel
theorem dL_law_559 : decode code 559 = .ok (.aload_n 0, 1) := by decide +kernel
theorem dL_law_560 : decode code 560 = .ok (.iload 4, 2) := by decide +kernel
theorem dL_law_562 : decode code 562 = .ok (.iconst 2, 1) := by decide +kernel
theorem dL_law_563 : decode code 563 = .ok (.iadd, 1) := by decide +kernel
theorem dL_law_564 : decode code 564 = .ok (.iaload, 1) := by decide +kernel
theorem dL_law_565 : decode code 565 = .ok (.invokevirtual 52, 3) := by decide +kernel
theorem dL_law_568 : decode code 568 = .ok (.if_icmp .eq 1214, 3) := by decide +kernel
theorem dL_law_571 : decode code 571 = .ok (.iconst 0, 1) := by decide +kernel
theorem dL_law_572 : decode code 572 = .ok (.ireturn, 1) := by decide +kernel
theorem dL_law_573 : decode code 573 = .ok (.aload_n 1, 1) := by decide +kernel
theorem dL_law_574 : decode code 574 = .ok (.aload_n 0, 1) := by decide +kernel
theorem dL_law_575 : decode code 575 = .ok (.iload 4, 2) := by decide +kernel
theorem dL_law_577 : decode code 577 = .ok (.iconst 1, 1) := by decide +kernel
theorem dL_law_578 : decode code 578 = .ok (.iadd, 1) := by decide +kernel
theorem dL_law_579 : decode code 579 = .ok (.iaload, 1) := by decide +kernel
theorem dL_law_580 : decode code 580 = .ok (.invokevirtual 53, 3) := by decide +kernel
theorem dL_law_583 : decode code 583 = .ok (.aload_n 2, 1) := by decide +kernel
theorem dL_law_584 : decode code 584 = .ok (.aload_n 0, 1) := by decide +kernel
theorem dL_law_585 : decode code 585 = .ok (.iload 4, 2) := by decide +kernel
theorem dL_law_587 : decode code 587 = .ok (.iconst 1, 1) := by decide +kernel
theorem dL_law_588 : decode code 588 = .ok (.iadd, 1) := by decide +kernel
theorem dL_law_589 : decode code 589 = .ok (.iaload, 1) := by decide +kernel
theorem dL_law_590 : decode code 590 = .ok (.invokevirtual 57, 3) := by decide +kernel
theorem dL_law_593 : decode code 593 = .ok (.if_icmp .eq 1189, 3) := by decide +kernel
theorem dL_law_596 : decode code 596 = .ok (.iconst 0, 1) := by decide +kernel
theorem dL_law_597 : decode code 597 = .ok (.ireturn, 1) := by decide +kernel
theorem dL_law_598 : decode code 598 = .ok (.aload_n 1, 1) := by decide +kernel
theorem dL_law_599 : decode code 599 = .ok (.aload_n 0, 1) := by decide +kernel
theorem dL_law_600 : decode code 600 = .ok (.iload 4, 2) := by decide +kernel
theorem dL_law_602 : decode code 602 = .ok (.iconst 1, 1) := by decide +kernel
theorem dL_law_603 : decode code 603 = .ok (.iadd, 1) := by decide +kernel
theorem dL_law_604 : decode code 604 = .ok (.iaload, 1) := by decide +kernel
theorem dL_law_605 : decode code 605 = .ok (.invokevirtual 58, 3) := by decide +kernel
theorem dL_law_608 : decode code 608 = .ok (.aload_n 2, 1) := by decide +kernel
theorem dL_law_609 : decode code 609 = .ok (.aload_n 0, 1) := by decide +kernel
theorem dL_law_610 : decode code 610 = .ok (.iload 4, 2) := by decide +kernel
theorem dL_law_612 : decode code 612 = .ok (.iconst 1, 1) := by decide +kernel
theorem dL_law_613 : decode code 613 = .ok (.iadd, 1) := by decide +kernel
theorem dL_law_614 : decode code 614 = .ok (.iaload, 1) := by decide +kernel
theorem dL_law_615 : decode code 615 = .ok (.invokevirtual 61, 3) := by decide +kernel
theorem dL_law_618 : decode code 618 = .ok (.if_icmp .eq 1164, 3) := by decide +kernel
theorem dL_law_621 : decode code 621 = .ok (.iconst 0, 1) := by decide +kernel
theorem dL_law_622 : decode code 622 = .ok (.ireturn, 1) := by decide +kernel
theorem dL_law_623 : decode code 623 = .ok (.aload_n 1, 1) := by decide +kernel
theorem dL_law_624 : decode code 624 = .ok (.invokevirtual 62, 3) := by decide +kernel
theorem dL_law_627 : decode code 627 = .ok (.aload_n 2, 1) := by decide +kernel
theorem dL_law_628 : decode code 628 = .ok (.invokevirtual 66, 3) := by decide +kernel
theorem dL_law_631 : decode code 631 = .ok (.if_icmp .eq 1151, 3) := by decide +kernel
theorem dL_law_634 : decode code 634 = .ok (.iconst 0, 1) := by decide +kernel
theorem dL_law_635 : decode code 635 = .ok (.ireturn, 1) := by decide +kernel
theorem dL_law_636 : decode code 636 = .ok (.aload_n 1, 1) := by decide +kernel
theorem dL_law_637 : decode code 637 = .ok (.aload_n 0, 1) := by decide +kernel
theorem dL_law_638 : decode code 638 = .ok (.iload 4, 2) := by decide +kernel
theorem dL_law_640 : decode code 640 = .ok (.iconst 1, 1) := by decide +kernel
theorem dL_law_641 : decode code 641 = .ok (.iadd, 1) := by decide +kernel
theorem dL_law_642 : decode code 642 = .ok (.iaload, 1) := by decide +kernel
theorem dL_law_643 : decode code 643 = .ok (.invokevirtual 67, 3) := by decide +kernel
theorem dL_law_646 : decode code 646 = .ok (.aload_n 2, 1) := by decide +kernel
theorem dL_law_647 : decode code 647 = .ok (.aload_n 0, 1) := by decide +kernel
theorem dL_law_648 : decode code 648 = .ok (.iload 4, 2) := by decide +kernel
theorem dL_law_650 : decode code 650 = .ok (.iconst 1, 1) := by decide +kernel
theorem dL_law_651 : decode code 651 = .ok (.iadd, 1) := by decide +kernel
theorem dL_law_652 : decode code 652 = .ok (.iaload, 1) := by decide +kernel
theorem dL_law_653 : decode code 653 = .ok (.invokevirtual 70, 3) := by decide +kernel
theorem dL_law_656 : decode code 656 = .ok (.if_icmp .eq 1126, 3) := by decide +kernel
theorem dL_law_659 : decode code 659 = .ok (.iconst 0, 1) := by decide +kernel
theorem dL_law_660 : decode code 660 = .ok (.ireturn, 1) := by decide +kernel
theorem dL_law_661 : decode code 661 = .ok (.aload_n 1, 1) := by decide +kernel
theorem dL_law_662 : decode code 662 = .ok (.aload_n 0, 1) := by decide +kernel
theorem dL_law_663 : decode code 663 = .ok (.iload 4, 2) := by decide +kernel
theorem dL_law_665 : decode code 665 = .ok (.iconst 1, 1) := by decide +kernel
theorem dL_law_666 : decode code 666 = .ok (.iadd, 1) := by decide +kernel
theorem dL_law_667 : decode code 667 = .ok (.iaload, 1) := by decide +kernel
theorem dL_law_668 : decode code 668 = .ok (.invokevirtual 71, 3) := by decide +kernel
theorem dL_law_671 : decode code 671 = .ok (.aload_n 2, 1) := by decide +kernel
theorem dL_law_672 : decode code 672 = .ok (.aload_n 0, 1) := by decide +kernel
theorem dL_law_673 : decode code 673 = .ok (.iload 4, 2) := by decide +kernel
theorem dL_law_675 : decode code 675 = .ok (.iconst 1, 1) := by decide +kernel
theorem dL_law_676 : decode code 676 = .ok (.iadd, 1) := by decide +kernel
theorem dL_law_677 : decode code 677 = .ok (.iaload, 1) := by decide +kernel
theorem dL_law_678 : decode code 678 = .ok (.invokevirtual 74, 3) := by decide +kernel
theorem dL_law_681 : decode code 681 = .ok (.if_icmp .eq 1101, 3) := by decide +kernel
theorem dL_law_684 : decode code 684 = .ok (.iconst 0, 1) := by decide +kernel
theorem dL_law_685 : decode code 685 = .ok (.ireturn, 1) := by decide +kernel
theorem dL_law_686 : decode code 686 = .ok (.aload_n 1, 1) := by decide +kernel
theorem dL_law_687 : decode code 687 = .ok (.aload_n 0, 1) := by decide +kernel
theorem dL_law_688 : decode code 688 = .ok (.iload 4, 2) := by decide +kernel
theorem dL_law_690 : decode code 690 = .ok (.iconst 1, 1) := by decide +kernel
theorem dL_law_691 : decode code 691 = .ok (.iadd, 1) := by decide +kernel
theorem dL_law_692 : decode code 692 = .ok (.iaload, 1) := by decide +kernel
theorem dL_law_693 : decode code 693 = .ok (.invokevirtual 75, 3) := by decide +kernel
theorem dL_law_696 : decode code 696 = .ok (.aload_n 2, 1) := by decide +kernel
theorem dL_law_697 : decode code 697 = .ok (.aload_n 0, 1) := by decide +kernel
theorem dL_law_698 : decode code 698 = .ok (.iload 4, 2) := by decide +kernel
theorem dL_law_700 : decode code 700 = .ok (.iconst 1, 1) := by decide +kernel
theorem dL_law_701 : decode code 701 = .ok (.iadd, 1) := by decide +kernel
theorem dL_law_702 : decode code 702 = .ok (.iaload, 1) := by decide +kernel
theorem dL_law_703 : decode code 703 = .ok (.invokevirtual 78, 3) := by decide +kernel
theorem dL_law_706 : decode code 706 = .ok (.if_icmp .eq 1076, 3) := by decide +kernel
theorem dL_law_709 : decode code 709 = .ok (.iconst 0, 1) := by decide +kernel
theorem dL_law_710 : decode code 710 = .ok (.ireturn, 1) := by decide +kernel
theorem dL_law_711 : decode code 711 = .ok (.aload_n 1, 1) := by decide +kernel
theorem dL_law_712 : decode code 712 = .ok (.aload_n 0, 1) := by decide +kernel
theorem dL_law_713 : decode code 713 = .ok (.iload 4, 2) := by decide +kernel
theorem dL_law_715 : decode code 715 = .ok (.iconst 1, 1) := by decide +kernel
theorem dL_law_716 : decode code 716 = .ok (.iadd, 1) := by decide +kernel
theorem dL_law_717 : decode code 717 = .ok (.iaload, 1) := by decide +kernel
theorem dL_law_718 : decode code 718 = .ok (.aload_n 0, 1) := by decide +kernel
theorem dL_law_719 : decode code 719 = .ok (.iload 4, 2) := by decide +kernel
theorem dL_law_721 : decode code 721 = .ok (.iconst 2, 1) := by decide +kernel
theorem dL_law_722 : decode code 722 = .ok (.iadd, 1) := by decide +kernel
theorem dL_law_723 : decode code 723 = .ok (.iaload, 1) := by decide +kernel
theorem dL_law_724 : decode code 724 = .ok (.invokevirtual 79, 3) := by decide +kernel
theorem dL_law_727 : decode code 727 = .ok (.aload_n 2, 1) := by decide +kernel
theorem dL_law_728 : decode code 728 = .ok (.aload_n 0, 1) := by decide +kernel
theorem dL_law_729 : decode code 729 = .ok (.iload 4, 2) := by decide +kernel
theorem dL_law_731 : decode code 731 = .ok (.iconst 1, 1) := by decide +kernel
theorem dL_law_732 : decode code 732 = .ok (.iadd, 1) := by decide +kernel
theorem dL_law_733 : decode code 733 = .ok (.iaload, 1) := by decide +kernel
theorem dL_law_734 : decode code 734 = .ok (.aload_n 0, 1) := by decide +kernel
theorem dL_law_735 : decode code 735 = .ok (.iload 4, 2) := by decide +kernel
theorem dL_law_737 : decode code 737 = .ok (.iconst 2, 1) := by decide +kernel
theorem dL_law_738 : decode code 738 = .ok (.iadd, 1) := by decide +kernel
theorem dL_law_739 : decode code 739 = .ok (.iaload, 1) := by decide +kernel
theorem dL_law_740 : decode code 740 = .ok (.invokevirtual 82, 3) := by decide +kernel
theorem dL_law_743 : decode code 743 = .ok (.if_icmp .eq 1039, 3) := by decide +kernel
theorem dL_law_746 : decode code 746 = .ok (.iconst 0, 1) := by decide +kernel
theorem dL_law_747 : decode code 747 = .ok (.ireturn, 1) := by decide +kernel
theorem dL_law_748 : decode code 748 = .ok (.aload_n 1, 1) := by decide +kernel
theorem dL_law_749 : decode code 749 = .ok (.aload_n 0, 1) := by decide +kernel
theorem dL_law_750 : decode code 750 = .ok (.iload 4, 2) := by decide +kernel
theorem dL_law_752 : decode code 752 = .ok (.iconst 1, 1) := by decide +kernel
theorem dL_law_753 : decode code 753 = .ok (.iadd, 1) := by decide +kernel
theorem dL_law_754 : decode code 754 = .ok (.iaload, 1) := by decide +kernel
theorem dL_law_755 : decode code 755 = .ok (.invokevirtual 83, 3) := by decide +kernel
theorem dL_law_758 : decode code 758 = .ok (.aload_n 2, 1) := by decide +kernel
theorem dL_law_759 : decode code 759 = .ok (.aload_n 0, 1) := by decide +kernel
theorem dL_law_760 : decode code 760 = .ok (.iload 4, 2) := by decide +kernel
theorem dL_law_762 : decode code 762 = .ok (.iconst 1, 1) := by decide +kernel
theorem dL_law_763 : decode code 763 = .ok (.iadd, 1) := by decide +kernel
theorem dL_law_764 : decode code 764 = .ok (.iaload, 1) := by decide +kernel
theorem dL_law_765 : decode code 765 = .ok (.invokevirtual 86, 3) := by decide +kernel
theorem dL_law_768 : decode code 768 = .ok (.if_icmp .eq 1014, 3) := by decide +kernel
theorem dL_law_771 : decode code 771 = .ok (.iconst 0, 1) := by decide +kernel
theorem dL_law_772 : decode code 772 = .ok (.ireturn, 1) := by decide +kernel
theorem dL_law_773 : decode code 773 = .ok (.aload_n 1, 1) := by decide +kernel
theorem dL_law_774 : decode code 774 = .ok (.aload_n 0, 1) := by decide +kernel
theorem dL_law_775 : decode code 775 = .ok (.iload 4, 2) := by decide +kernel
theorem dL_law_777 : decode code 777 = .ok (.iconst 1, 1) := by decide +kernel
theorem dL_law_778 : decode code 778 = .ok (.iadd, 1) := by decide +kernel
theorem dL_law_779 : decode code 779 = .ok (.iaload, 1) := by decide +kernel
theorem dL_law_780 : decode code 780 = .ok (.invokevirtual 87, 3) := by decide +kernel
theorem dL_law_783 : decode code 783 = .ok (.aload_n 2, 1) := by decide +kernel
theorem dL_law_784 : decode code 784 = .ok (.aload_n 0, 1) := by decide +kernel
theorem dL_law_785 : decode code 785 = .ok (.iload 4, 2) := by decide +kernel
theorem dL_law_787 : decode code 787 = .ok (.iconst 1, 1) := by decide +kernel
theorem dL_law_788 : decode code 788 = .ok (.iadd, 1) := by decide +kernel
theorem dL_law_789 : decode code 789 = .ok (.iaload, 1) := by decide +kernel
theorem dL_law_790 : decode code 790 = .ok (.invokevirtual 90, 3) := by decide +kernel
theorem dL_law_793 : decode code 793 = .ok (.if_icmp .eq 989, 3) := by decide +kernel
theorem dL_law_796 : decode code 796 = .ok (.iconst 0, 1) := by decide +kernel
theorem dL_law_797 : decode code 797 = .ok (.ireturn, 1) := by decide +kernel
theorem dL_law_798 : decode code 798 = .ok (.aload_n 1, 1) := by decide +kernel
theorem dL_law_799 : decode code 799 = .ok (.invokevirtual 91, 3) := by decide +kernel
theorem dL_law_802 : decode code 802 = .ok (.aload_n 2, 1) := by decide +kernel
theorem dL_law_803 : decode code 803 = .ok (.invokevirtual 94, 3) := by decide +kernel
theorem dL_law_806 : decode code 806 = .ok (.if_icmp .eq 976, 3) := by decide +kernel
theorem dL_law_809 : decode code 809 = .ok (.iconst 0, 1) := by decide +kernel
theorem dL_law_810 : decode code 810 = .ok (.ireturn, 1) := by decide +kernel
theorem dL_law_811 : decode code 811 = .ok (.aload_n 1, 1) := by decide +kernel
theorem dL_law_812 : decode code 812 = .ok (.aload_n 0, 1) := by decide +kernel
theorem dL_law_813 : decode code 813 = .ok (.iload 4, 2) := by decide +kernel
theorem dL_law_815 : decode code 815 = .ok (.iconst 1, 1) := by decide +kernel
theorem dL_law_816 : decode code 816 = .ok (.iadd, 1) := by decide +kernel
theorem dL_law_817 : decode code 817 = .ok (.iaload, 1) := by decide +kernel
theorem dL_law_818 : decode code 818 = .ok (.aload_n 0, 1) := by decide +kernel
theorem dL_law_819 : decode code 819 = .ok (.iload 4, 2) := by decide +kernel
theorem dL_law_821 : decode code 821 = .ok (.iconst 2, 1) := by decide +kernel
theorem dL_law_822 : decode code 822 = .ok (.iadd, 1) := by decide +kernel
theorem dL_law_823 : decode code 823 = .ok (.iaload, 1) := by decide +kernel
theorem dL_law_824 : decode code 824 = .ok (.invokevirtual 95, 3) := by decide +kernel
theorem dL_law_827 : decode code 827 = .ok (.aload_n 2, 1) := by decide +kernel
theorem dL_law_828 : decode code 828 = .ok (.aload_n 0, 1) := by decide +kernel
theorem dL_law_829 : decode code 829 = .ok (.iload 4, 2) := by decide +kernel
theorem dL_law_831 : decode code 831 = .ok (.iconst 1, 1) := by decide +kernel
theorem dL_law_832 : decode code 832 = .ok (.iadd, 1) := by decide +kernel
theorem dL_law_833 : decode code 833 = .ok (.iaload, 1) := by decide +kernel
theorem dL_law_834 : decode code 834 = .ok (.aload_n 0, 1) := by decide +kernel
theorem dL_law_835 : decode code 835 = .ok (.iload 4, 2) := by decide +kernel
theorem dL_law_837 : decode code 837 = .ok (.iconst 2, 1) := by decide +kernel
theorem dL_law_838 : decode code 838 = .ok (.iadd, 1) := by decide +kernel
theorem dL_law_839 : decode code 839 = .ok (.iaload, 1) := by decide +kernel
theorem dL_law_840 : decode code 840 = .ok (.invokevirtual 98, 3) := by decide +kernel
theorem dL_law_843 : decode code 843 = .ok (.if_icmp .eq 939, 3) := by decide +kernel
theorem dL_law_846 : decode code 846 = .ok (.iconst 0, 1) := by decide +kernel
theorem dL_law_847 : decode code 847 = .ok (.ireturn, 1) := by decide +kernel
theorem dL_law_848 : decode code 848 = .ok (.aload_n 1, 1) := by decide +kernel
theorem dL_law_849 : decode code 849 = .ok (.aload_n 0, 1) := by decide +kernel
theorem dL_law_850 : decode code 850 = .ok (.iload 4, 2) := by decide +kernel
theorem dL_law_852 : decode code 852 = .ok (.iconst 1, 1) := by decide +kernel
theorem dL_law_853 : decode code 853 = .ok (.iadd, 1) := by decide +kernel
theorem dL_law_854 : decode code 854 = .ok (.iaload, 1) := by decide +kernel
theorem dL_law_855 : decode code 855 = .ok (.invokevirtual 99, 3) := by decide +kernel
theorem dL_law_858 : decode code 858 = .ok (.aload_n 2, 1) := by decide +kernel
theorem dL_law_859 : decode code 859 = .ok (.aload_n 0, 1) := by decide +kernel
theorem dL_law_860 : decode code 860 = .ok (.iload 4, 2) := by decide +kernel
theorem dL_law_862 : decode code 862 = .ok (.iconst 1, 1) := by decide +kernel
theorem dL_law_863 : decode code 863 = .ok (.iadd, 1) := by decide +kernel
theorem dL_law_864 : decode code 864 = .ok (.iaload, 1) := by decide +kernel
theorem dL_law_865 : decode code 865 = .ok (.invokevirtual 102, 3) := by decide +kernel
theorem dL_law_868 : decode code 868 = .ok (.if_icmp .eq 914, 3) := by decide +kernel
theorem dL_law_871 : decode code 871 = .ok (.iconst 0, 1) := by decide +kernel
theorem dL_law_872 : decode code 872 = .ok (.ireturn, 1) := by decide +kernel
theorem dL_law_873 : decode code 873 = .ok (.aload_n 1, 1) := by decide +kernel
theorem dL_law_874 : decode code 874 = .ok (.invokevirtual 103, 3) := by decide +kernel
theorem dL_law_877 : decode code 877 = .ok (.aload_n 2, 1) := by decide +kernel
theorem dL_law_878 : decode code 878 = .ok (.invokevirtual 106, 3) := by decide +kernel
theorem dL_law_881 : decode code 881 = .ok (.if_icmp .eq 901, 3) := by decide +kernel
theorem dL_law_884 : decode code 884 = .ok (.iconst 0, 1) := by decide +kernel
theorem dL_law_885 : decode code 885 = .ok (.ireturn, 1) := by decide +kernel
theorem dL_law_886 : decode code 886 = .ok (.aload_n 1, 1) := by decide +kernel
theorem dL_law_887 : decode code 887 = .ok (.invokevirtual 107, 3) := by decide +kernel
theorem dL_law_890 : decode code 890 = .ok (.aload_n 2, 1) := by decide +kernel
theorem dL_law_891 : decode code 891 = .ok (.invokevirtual 110, 3) := by decide +kernel
theorem dL_law_894 : decode code 894 = .ok (.if_icmp .eq 888, 3) := by decide +kernel
theorem dL_law_897 : decode code 897 = .ok (.iconst 0, 1) := by decide +kernel
theorem dL_law_898 : decode code 898 = .ok (.ireturn, 1) := by decide +kernel
theorem dL_law_899 : decode code 899 = .ok (.aload_n 1, 1) := by decide +kernel
theorem dL_law_900 : decode code 900 = .ok (.invokevirtual 111, 3) := by decide +kernel
theorem dL_law_903 : decode code 903 = .ok (.aload_n 2, 1) := by decide +kernel
theorem dL_law_904 : decode code 904 = .ok (.invokevirtual 114, 3) := by decide +kernel
theorem dL_law_907 : decode code 907 = .ok (.if_icmp .eq 875, 3) := by decide +kernel
theorem dL_law_910 : decode code 910 = .ok (.iconst 0, 1) := by decide +kernel
theorem dL_law_911 : decode code 911 = .ok (.ireturn, 1) := by decide +kernel
theorem dL_law_912 : decode code 912 = .ok (.aload_n 1, 1) := by decide +kernel
theorem dL_law_913 : decode code 913 = .ok (.aload_n 0, 1) := by decide +kernel
theorem dL_law_914 : decode code 914 = .ok (.iload 4, 2) := by decide +kernel
theorem dL_law_916 : decode code 916 = .ok (.iconst 1, 1) := by decide +kernel
theorem dL_law_917 : decode code 917 = .ok (.iadd, 1) := by decide +kernel
theorem dL_law_918 : decode code 918 = .ok (.iaload, 1) := by decide +kernel
theorem dL_law_919 : decode code 919 = .ok (.aload_n 0, 1) := by decide +kernel
theorem dL_law_920 : decode code 920 = .ok (.iload 4, 2) := by decide +kernel
theorem dL_law_922 : decode code 922 = .ok (.iconst 2, 1) := by decide +kernel
theorem dL_law_923 : decode code 923 = .ok (.iadd, 1) := by decide +kernel
theorem dL_law_924 : decode code 924 = .ok (.iaload, 1) := by decide +kernel
theorem dL_law_925 : decode code 925 = .ok (.invokevirtual 115, 3) := by decide +kernel
theorem dL_law_928 : decode code 928 = .ok (.aload_n 2, 1) := by decide +kernel
theorem dL_law_929 : decode code 929 = .ok (.aload_n 0, 1) := by decide +kernel
theorem dL_law_930 : decode code 930 = .ok (.iload 4, 2) := by decide +kernel
theorem dL_law_932 : decode code 932 = .ok (.iconst 1, 1) := by decide +kernel
theorem dL_law_933 : decode code 933 = .ok (.iadd, 1) := by decide +kernel
theorem dL_law_934 : decode code 934 = .ok (.iaload, 1) := by decide +kernel
theorem dL_law_935 : decode code 935 = .ok (.aload_n 0, 1) := by decide +kernel
theorem dL_law_936 : decode code 936 = .ok (.iload 4, 2) := by decide +kernel
theorem dL_law_938 : decode code 938 = .ok (.iconst 2, 1) := by decide +kernel
theorem dL_law_939 : decode code 939 = .ok (.iadd, 1) := by decide +kernel
theorem dL_law_940 : decode code 940 = .ok (.iaload, 1) := by decide +kernel
theorem dL_law_941 : decode code 941 = .ok (.invokevirtual 118, 3) := by decide +kernel
theorem dL_law_944 : decode code 944 = .ok (.if_icmp .eq 838, 3) := by decide +kernel
theorem dL_law_947 : decode code 947 = .ok (.iconst 0, 1) := by decide +kernel
theorem dL_law_948 : decode code 948 = .ok (.ireturn, 1) := by decide +kernel
theorem dL_law_949 : decode code 949 = .ok (.aload_n 1, 1) := by decide +kernel
theorem dL_law_950 : decode code 950 = .ok (.aload_n 0, 1) := by decide +kernel
theorem dL_law_951 : decode code 951 = .ok (.iload 4, 2) := by decide +kernel
theorem dL_law_953 : decode code 953 = .ok (.iconst 1, 1) := by decide +kernel
theorem dL_law_954 : decode code 954 = .ok (.iadd, 1) := by decide +kernel
theorem dL_law_955 : decode code 955 = .ok (.iaload, 1) := by decide +kernel
theorem dL_law_956 : decode code 956 = .ok (.invokevirtual 119, 3) := by decide +kernel
theorem dL_law_959 : decode code 959 = .ok (.aload_n 2, 1) := by decide +kernel
theorem dL_law_960 : decode code 960 = .ok (.aload_n 0, 1) := by decide +kernel
theorem dL_law_961 : decode code 961 = .ok (.iload 4, 2) := by decide +kernel
theorem dL_law_963 : decode code 963 = .ok (.iconst 1, 1) := by decide +kernel
theorem dL_law_964 : decode code 964 = .ok (.iadd, 1) := by decide +kernel
theorem dL_law_965 : decode code 965 = .ok (.iaload, 1) := by decide +kernel
theorem dL_law_966 : decode code 966 = .ok (.invokevirtual 122, 3) := by decide +kernel
theorem dL_law_969 : decode code 969 = .ok (.if_icmp .eq 813, 3) := by decide +kernel
theorem dL_law_972 : decode code 972 = .ok (.iconst 0, 1) := by decide +kernel
theorem dL_law_973 : decode code 973 = .ok (.ireturn, 1) := by decide +kernel
theorem dL_law_974 : decode code 974 = .ok (.aload_n 1, 1) := by decide +kernel
theorem dL_law_975 : decode code 975 = .ok (.aload_n 0, 1) := by decide +kernel
theorem dL_law_976 : decode code 976 = .ok (.iload 4, 2) := by decide +kernel
theorem dL_law_978 : decode code 978 = .ok (.iconst 1, 1) := by decide +kernel
theorem dL_law_979 : decode code 979 = .ok (.iadd, 1) := by decide +kernel
theorem dL_law_980 : decode code 980 = .ok (.iaload, 1) := by decide +kernel
theorem dL_law_981 : decode code 981 = .ok (.invokevirtual 123, 3) := by decide +kernel
theorem dL_law_984 : decode code 984 = .ok (.aload_n 2, 1) := by decide +kernel
theorem dL_law_985 : decode code 985 = .ok (.aload_n 0, 1) := by decide +kernel
theorem dL_law_986 : decode code 986 = .ok (.iload 4, 2) := by decide +kernel
theorem dL_law_988 : decode code 988 = .ok (.iconst 1, 1) := by decide +kernel
theorem dL_law_989 : decode code 989 = .ok (.iadd, 1) := by decide +kernel
theorem dL_law_990 : decode code 990 = .ok (.iaload, 1) := by decide +kernel
theorem dL_law_991 : decode code 991 = .ok (.invokevirtual 126, 3) := by decide +kernel
theorem dL_law_994 : decode code 994 = .ok (.if_icmp .eq 788, 3) := by decide +kernel
theorem dL_law_997 : decode code 997 = .ok (.iconst 0, 1) := by decide +kernel
theorem dL_law_998 : decode code 998 = .ok (.ireturn, 1) := by decide +kernel
theorem dL_law_999 : decode code 999 = .ok (.aload_n 1, 1) := by decide +kernel
theorem dL_law_1000 : decode code 1000 = .ok (.aload_n 0, 1) := by decide +kernel
theorem dL_law_1001 : decode code 1001 = .ok (.iload 4, 2) := by decide +kernel
theorem dL_law_1003 : decode code 1003 = .ok (.iconst 1, 1) := by decide +kernel
theorem dL_law_1004 : decode code 1004 = .ok (.iadd, 1) := by decide +kernel
theorem dL_law_1005 : decode code 1005 = .ok (.iaload, 1) := by decide +kernel
theorem dL_law_1006 : decode code 1006 = .ok (.aload_n 0, 1) := by decide +kernel
theorem dL_law_1007 : decode code 1007 = .ok (.iload 4, 2) := by decide +kernel
theorem dL_law_1009 : decode code 1009 = .ok (.iconst 2, 1) := by decide +kernel
theorem dL_law_1010 : decode code 1010 = .ok (.iadd, 1) := by decide +kernel
theorem dL_law_1011 : decode code 1011 = .ok (.iaload, 1) := by decide +kernel
theorem dL_law_1012 : decode code 1012 = .ok (.invokevirtual 127, 3) := by decide +kernel
theorem dL_law_1015 : decode code 1015 = .ok (.aload_n 2, 1) := by decide +kernel
theorem dL_law_1016 : decode code 1016 = .ok (.aload_n 0, 1) := by decide +kernel
theorem dL_law_1017 : decode code 1017 = .ok (.iload 4, 2) := by decide +kernel
theorem dL_law_1019 : decode code 1019 = .ok (.iconst 1, 1) := by decide +kernel
theorem dL_law_1020 : decode code 1020 = .ok (.iadd, 1) := by decide +kernel
theorem dL_law_1021 : decode code 1021 = .ok (.iaload, 1) := by decide +kernel
theorem dL_law_1022 : decode code 1022 = .ok (.aload_n 0, 1) := by decide +kernel
theorem dL_law_1023 : decode code 1023 = .ok (.iload 4, 2) := by decide +kernel
theorem dL_law_1025 : decode code 1025 = .ok (.iconst 2, 1) := by decide +kernel
theorem dL_law_1026 : decode code 1026 = .ok (.iadd, 1) := by decide +kernel
theorem dL_law_1027 : decode code 1027 = .ok (.iaload, 1) := by decide +kernel
theorem dL_law_1028 : decode code 1028 = .ok (.invokevirtual 130, 3) := by decide +kernel
theorem dL_law_1031 : decode code 1031 = .ok (.if_icmp .eq 751, 3) := by decide +kernel
theorem dL_law_1034 : decode code 1034 = .ok (.iconst 0, 1) := by decide +kernel
theorem dL_law_1035 : decode code 1035 = .ok (.ireturn, 1) := by decide +kernel
theorem dL_law_1036 : decode code 1036 = .ok (.aload_n 1, 1) := by decide +kernel
theorem dL_law_1037 : decode code 1037 = .ok (.aload_n 0, 1) := by decide +kernel
theorem dL_law_1038 : decode code 1038 = .ok (.iload 4, 2) := by decide +kernel
theorem dL_law_1040 : decode code 1040 = .ok (.iconst 1, 1) := by decide +kernel
theorem dL_law_1041 : decode code 1041 = .ok (.iadd, 1) := by decide +kernel
theorem dL_law_1042 : decode code 1042 = .ok (.iaload, 1) := by decide +kernel
theorem dL_law_1043 : decode code 1043 = .ok (.aload_n 0, 1) := by decide +kernel
theorem dL_law_1044 : decode code 1044 = .ok (.iload 4, 2) := by decide +kernel
theorem dL_law_1046 : decode code 1046 = .ok (.iconst 2, 1) := by decide +kernel
theorem dL_law_1047 : decode code 1047 = .ok (.iadd, 1) := by decide +kernel
theorem dL_law_1048 : decode code 1048 = .ok (.iaload, 1) := by decide +kernel
theorem dL_law_1049 : decode code 1049 = .ok (.invokevirtual 131, 3) := by decide +kernel
theorem dL_law_1052 : decode code 1052 = .ok (.aload_n 2, 1) := by decide +kernel
theorem dL_law_1053 : decode code 1053 = .ok (.aload_n 0, 1) := by decide +kernel
theorem dL_law_1054 : decode code 1054 = .ok (.iload 4, 2) := by decide +kernel
theorem dL_law_1056 : decode code 1056 = .ok (.iconst 1, 1) := by decide +kernel
theorem dL_law_1057 : decode code 1057 = .ok (.iadd, 1) := by decide +kernel
theorem dL_law_1058 : decode code 1058 = .ok (.iaload, 1) := by decide +kernel
theorem dL_law_1059 : decode code 1059 = .ok (.aload_n 0, 1) := by decide +kernel
theorem dL_law_1060 : decode code 1060 = .ok (.iload 4, 2) := by decide +kernel
theorem dL_law_1062 : decode code 1062 = .ok (.iconst 2, 1) := by decide +kernel
theorem dL_law_1063 : decode code 1063 = .ok (.iadd, 1) := by decide +kernel
theorem dL_law_1064 : decode code 1064 = .ok (.iaload, 1) := by decide +kernel
theorem dL_law_1065 : decode code 1065 = .ok (.invokevirtual 134, 3) := by decide +kernel
theorem dL_law_1068 : decode code 1068 = .ok (.if_icmp .eq 714, 3) := by decide +kernel
theorem dL_law_1071 : decode code 1071 = .ok (.iconst 0, 1) := by decide +kernel
theorem dL_law_1072 : decode code 1072 = .ok (.ireturn, 1) := by decide +kernel
theorem dL_law_1073 : decode code 1073 = .ok (.aload_n 1, 1) := by decide +kernel
theorem dL_law_1074 : decode code 1074 = .ok (.invokevirtual 135, 3) := by decide +kernel
theorem dL_law_1077 : decode code 1077 = .ok (.aload_n 2, 1) := by decide +kernel
theorem dL_law_1078 : decode code 1078 = .ok (.invokevirtual 138, 3) := by decide +kernel
theorem dL_law_1081 : decode code 1081 = .ok (.if_icmp .eq 701, 3) := by decide +kernel
theorem dL_law_1084 : decode code 1084 = .ok (.iconst 0, 1) := by decide +kernel
theorem dL_law_1085 : decode code 1085 = .ok (.ireturn, 1) := by decide +kernel
theorem dL_law_1086 : decode code 1086 = .ok (.aload_n 1, 1) := by decide +kernel
theorem dL_law_1087 : decode code 1087 = .ok (.aload_n 0, 1) := by decide +kernel
theorem dL_law_1088 : decode code 1088 = .ok (.iload 4, 2) := by decide +kernel
theorem dL_law_1090 : decode code 1090 = .ok (.iconst 1, 1) := by decide +kernel
theorem dL_law_1091 : decode code 1091 = .ok (.iadd, 1) := by decide +kernel
theorem dL_law_1092 : decode code 1092 = .ok (.iaload, 1) := by decide +kernel
theorem dL_law_1093 : decode code 1093 = .ok (.invokevirtual 139, 3) := by decide +kernel
theorem dL_law_1096 : decode code 1096 = .ok (.aload_n 2, 1) := by decide +kernel
theorem dL_law_1097 : decode code 1097 = .ok (.aload_n 0, 1) := by decide +kernel
theorem dL_law_1098 : decode code 1098 = .ok (.iload 4, 2) := by decide +kernel
theorem dL_law_1100 : decode code 1100 = .ok (.iconst 1, 1) := by decide +kernel
theorem dL_law_1101 : decode code 1101 = .ok (.iadd, 1) := by decide +kernel
theorem dL_law_1102 : decode code 1102 = .ok (.iaload, 1) := by decide +kernel
theorem dL_law_1103 : decode code 1103 = .ok (.invokevirtual 142, 3) := by decide +kernel
theorem dL_law_1106 : decode code 1106 = .ok (.if_icmp .eq 676, 3) := by decide +kernel
theorem dL_law_1109 : decode code 1109 = .ok (.iconst 0, 1) := by decide +kernel
theorem dL_law_1110 : decode code 1110 = .ok (.ireturn, 1) := by decide +kernel
theorem dL_law_1111 : decode code 1111 = .ok (.aload_n 1, 1) := by decide +kernel
theorem dL_law_1112 : decode code 1112 = .ok (.aload_n 0, 1) := by decide +kernel
theorem dL_law_1113 : decode code 1113 = .ok (.iload 4, 2) := by decide +kernel
theorem dL_law_1115 : decode code 1115 = .ok (.iconst 1, 1) := by decide +kernel
theorem dL_law_1116 : decode code 1116 = .ok (.iadd, 1) := by decide +kernel
theorem dL_law_1117 : decode code 1117 = .ok (.iaload, 1) := by decide +kernel
theorem dL_law_1118 : decode code 1118 = .ok (.aload_n 0, 1) := by decide +kernel
theorem dL_law_1119 : decode code 1119 = .ok (.iload 4, 2) := by decide +kernel
theorem dL_law_1121 : decode code 1121 = .ok (.iconst 2, 1) := by decide +kernel
theorem dL_law_1122 : decode code 1122 = .ok (.iadd, 1) := by decide +kernel
theorem dL_law_1123 : decode code 1123 = .ok (.iaload, 1) := by decide +kernel
theorem dL_law_1124 : decode code 1124 = .ok (.invokevirtual 143, 3) := by decide +kernel
theorem dL_law_1127 : decode code 1127 = .ok (.aload_n 2, 1) := by decide +kernel
theorem dL_law_1128 : decode code 1128 = .ok (.aload_n 0, 1) := by decide +kernel
theorem dL_law_1129 : decode code 1129 = .ok (.iload 4, 2) := by decide +kernel
theorem dL_law_1131 : decode code 1131 = .ok (.iconst 1, 1) := by decide +kernel
theorem dL_law_1132 : decode code 1132 = .ok (.iadd, 1) := by decide +kernel
theorem dL_law_1133 : decode code 1133 = .ok (.iaload, 1) := by decide +kernel
theorem dL_law_1134 : decode code 1134 = .ok (.aload_n 0, 1) := by decide +kernel
theorem dL_law_1135 : decode code 1135 = .ok (.iload 4, 2) := by decide +kernel
theorem dL_law_1137 : decode code 1137 = .ok (.iconst 2, 1) := by decide +kernel
theorem dL_law_1138 : decode code 1138 = .ok (.iadd, 1) := by decide +kernel
theorem dL_law_1139 : decode code 1139 = .ok (.iaload, 1) := by decide +kernel
theorem dL_law_1140 : decode code 1140 = .ok (.invokevirtual 146, 3) := by decide +kernel
theorem dL_law_1143 : decode code 1143 = .ok (.if_icmp .eq 639, 3) := by decide +kernel
theorem dL_law_1146 : decode code 1146 = .ok (.iconst 0, 1) := by decide +kernel
theorem dL_law_1147 : decode code 1147 = .ok (.ireturn, 1) := by decide +kernel
theorem dL_law_1148 : decode code 1148 = .ok (.aload_n 1, 1) := by decide +kernel
theorem dL_law_1149 : decode code 1149 = .ok (.invokevirtual 147, 3) := by decide +kernel
theorem dL_law_1152 : decode code 1152 = .ok (.aload_n 2, 1) := by decide +kernel
theorem dL_law_1153 : decode code 1153 = .ok (.invokevirtual 150, 3) := by decide +kernel
theorem dL_law_1156 : decode code 1156 = .ok (.if_icmp .eq 626, 3) := by decide +kernel
theorem dL_law_1159 : decode code 1159 = .ok (.iconst 0, 1) := by decide +kernel
theorem dL_law_1160 : decode code 1160 = .ok (.ireturn, 1) := by decide +kernel
theorem dL_law_1161 : decode code 1161 = .ok (.aload_n 1, 1) := by decide +kernel
theorem dL_law_1162 : decode code 1162 = .ok (.aload_n 0, 1) := by decide +kernel
theorem dL_law_1163 : decode code 1163 = .ok (.iload 4, 2) := by decide +kernel
theorem dL_law_1165 : decode code 1165 = .ok (.iconst 1, 1) := by decide +kernel
theorem dL_law_1166 : decode code 1166 = .ok (.iadd, 1) := by decide +kernel
theorem dL_law_1167 : decode code 1167 = .ok (.iaload, 1) := by decide +kernel
theorem dL_law_1168 : decode code 1168 = .ok (.aload_n 0, 1) := by decide +kernel
theorem dL_law_1169 : decode code 1169 = .ok (.iload 4, 2) := by decide +kernel
theorem dL_law_1171 : decode code 1171 = .ok (.iconst 2, 1) := by decide +kernel
theorem dL_law_1172 : decode code 1172 = .ok (.iadd, 1) := by decide +kernel
theorem dL_law_1173 : decode code 1173 = .ok (.iaload, 1) := by decide +kernel
theorem dL_law_1174 : decode code 1174 = .ok (.invokevirtual 151, 3) := by decide +kernel
theorem dL_law_1177 : decode code 1177 = .ok (.aload_n 2, 1) := by decide +kernel
theorem dL_law_1178 : decode code 1178 = .ok (.aload_n 0, 1) := by decide +kernel
theorem dL_law_1179 : decode code 1179 = .ok (.iload 4, 2) := by decide +kernel
theorem dL_law_1181 : decode code 1181 = .ok (.iconst 1, 1) := by decide +kernel
theorem dL_law_1182 : decode code 1182 = .ok (.iadd, 1) := by decide +kernel
theorem dL_law_1183 : decode code 1183 = .ok (.iaload, 1) := by decide +kernel
theorem dL_law_1184 : decode code 1184 = .ok (.aload_n 0, 1) := by decide +kernel
theorem dL_law_1185 : decode code 1185 = .ok (.iload 4, 2) := by decide +kernel
theorem dL_law_1187 : decode code 1187 = .ok (.iconst 2, 1) := by decide +kernel
theorem dL_law_1188 : decode code 1188 = .ok (.iadd, 1) := by decide +kernel
theorem dL_law_1189 : decode code 1189 = .ok (.iaload, 1) := by decide +kernel
theorem dL_law_1190 : decode code 1190 = .ok (.invokevirtual 154, 3) := by decide +kernel
theorem dL_law_1193 : decode code 1193 = .ok (.if_icmp .eq 589, 3) := by decide +kernel
theorem dL_law_1196 : decode code 1196 = .ok (.iconst 0, 1) := by decide +kernel
theorem dL_law_1197 : decode code 1197 = .ok (.ireturn, 1) := by decide +kernel
theorem dL_law_1198 : decode code 1198 = .ok (.aload_n 1, 1) := by decide +kernel
theorem dL_law_1199 : decode code 1199 = .ok (.aload_n 0, 1) := by decide +kernel
theorem dL_law_1200 : decode code 1200 = .ok (.iload 4, 2) := by decide +kernel
theorem dL_law_1202 : decode code 1202 = .ok (.iconst 1, 1) := by decide +kernel
theorem dL_law_1203 : decode code 1203 = .ok (.iadd, 1) := by decide +kernel
theorem dL_law_1204 : decode code 1204 = .ok (.iaload, 1) := by decide +kernel
theorem dL_law_1205 : decode code 1205 = .ok (.invokevirtual 155, 3) := by decide +kernel
theorem dL_law_1208 : decode code 1208 = .ok (.aload_n 2, 1) := by decide +kernel
theorem dL_law_1209 : decode code 1209 = .ok (.aload_n 0, 1) := by decide +kernel
theorem dL_law_1210 : decode code 1210 = .ok (.iload 4, 2) := by decide +kernel
theorem dL_law_1212 : decode code 1212 = .ok (.iconst 1, 1) := by decide +kernel
theorem dL_law_1213 : decode code 1213 = .ok (.iadd, 1) := by decide +kernel
theorem dL_law_1214 : decode code 1214 = .ok (.iaload, 1) := by decide +kernel
theorem dL_law_1215 : decode code 1215 = .ok (.invokevirtual 158, 3) := by decide +kernel
theorem dL_law_1218 : decode code 1218 = .ok (.if_icmp .eq 564, 3) := by decide +kernel
theorem dL_law_1221 : decode code 1221 = .ok (.iconst 0, 1) := by decide +kernel
theorem dL_law_1222 : decode code 1222 = .ok (.ireturn, 1) := by decide +kernel
theorem dL_law_1223 : decode code 1223 = .ok (.aload_n 1, 1) := by decide +kernel
theorem dL_law_1224 : decode code 1224 = .ok (.aload_n 0, 1) := by decide +kernel
theorem dL_law_1225 : decode code 1225 = .ok (.iload 4, 2) := by decide +kernel
theorem dL_law_1227 : decode code 1227 = .ok (.iconst 1, 1) := by decide +kernel
theorem dL_law_1228 : decode code 1228 = .ok (.iadd, 1) := by decide +kernel
theorem dL_law_1229 : decode code 1229 = .ok (.iaload, 1) := by decide +kernel
theorem dL_law_1230 : decode code 1230 = .ok (.aload_n 0, 1) := by decide +kernel
theorem dL_law_1231 : decode code 1231 = .ok (.iload 4, 2) := by decide +kernel
theorem dL_law_1233 : decode code 1233 = .ok (.iconst 2, 1) := by decide +kernel
theorem dL_law_1234 : decode code 1234 = .ok (.iadd, 1) := by decide +kernel
theorem dL_law_1235 : decode code 1235 = .ok (.iaload, 1) := by decide +kernel
theorem dL_law_1236 : decode code 1236 = .ok (.invokevirtual 159, 3) := by decide +kernel
theorem dL_law_1239 : decode code 1239 = .ok (.aload_n 2, 1) := by decide +kernel
theorem dL_law_1240 : decode code 1240 = .ok (.aload_n 0, 1) := by decide +kernel
theorem dL_law_1241 : decode code 1241 = .ok (.iload 4, 2) := by decide +kernel
theorem dL_law_1243 : decode code 1243 = .ok (.iconst 1, 1) := by decide +kernel
theorem dL_law_1244 : decode code 1244 = .ok (.iadd, 1) := by decide +kernel
theorem dL_law_1245 : decode code 1245 = .ok (.iaload, 1) := by decide +kernel
theorem dL_law_1246 : decode code 1246 = .ok (.aload_n 0, 1) := by decide +kernel
theorem dL_law_1247 : decode code 1247 = .ok (.iload 4, 2) := by decide +kernel
theorem dL_law_1249 : decode code 1249 = .ok (.iconst 2, 1) := by decide +kernel
theorem dL_law_1250 : decode code 1250 = .ok (.iadd, 1) := by decide +kernel
theorem dL_law_1251 : decode code 1251 = .ok (.iaload, 1) := by decide +kernel
theorem dL_law_1252 : decode code 1252 = .ok (.invokevirtual 162, 3) := by decide +kernel
theorem dL_law_1255 : decode code 1255 = .ok (.if_icmp .eq 527, 3) := by decide +kernel
theorem dL_law_1258 : decode code 1258 = .ok (.iconst 0, 1) := by decide +kernel
theorem dL_law_1259 : decode code 1259 = .ok (.ireturn, 1) := by decide +kernel
theorem dL_law_1260 : decode code 1260 = .ok (.aload_n 1, 1) := by decide +kernel
theorem dL_law_1261 : decode code 1261 = .ok (.aload_n 0, 1) := by decide +kernel
theorem dL_law_1262 : decode code 1262 = .ok (.iload 4, 2) := by decide +kernel
theorem dL_law_1264 : decode code 1264 = .ok (.iconst 1, 1) := by decide +kernel
theorem dL_law_1265 : decode code 1265 = .ok (.iadd, 1) := by decide +kernel
theorem dL_law_1266 : decode code 1266 = .ok (.iaload, 1) := by decide +kernel
theorem dL_law_1267 : decode code 1267 = .ok (.invokevirtual 163, 3) := by decide +kernel
theorem dL_law_1270 : decode code 1270 = .ok (.aload_n 2, 1) := by decide +kernel
theorem dL_law_1271 : decode code 1271 = .ok (.aload_n 0, 1) := by decide +kernel
theorem dL_law_1272 : decode code 1272 = .ok (.iload 4, 2) := by decide +kernel
theorem dL_law_1274 : decode code 1274 = .ok (.iconst 1, 1) := by decide +kernel
theorem dL_law_1275 : decode code 1275 = .ok (.iadd, 1) := by decide +kernel
theorem dL_law_1276 : decode code 1276 = .ok (.iaload, 1) := by decide +kernel
theorem dL_law_1277 : decode code 1277 = .ok (.invokevirtual 166, 3) := by decide +kernel
theorem dL_law_1280 : decode code 1280 = .ok (.if_icmp .eq 502, 3) := by decide +kernel
theorem dL_law_1283 : decode code 1283 = .ok (.iconst 0, 1) := by decide +kernel
theorem dL_law_1284 : decode code 1284 = .ok (.ireturn, 1) := by decide +kernel
theorem dL_law_1285 : decode code 1285 = .ok (.aload_n 1, 1) := by decide +kernel
theorem dL_law_1286 : decode code 1286 = .ok (.aload_n 0, 1) := by decide +kernel
theorem dL_law_1287 : decode code 1287 = .ok (.iload 4, 2) := by decide +kernel
theorem dL_law_1289 : decode code 1289 = .ok (.iconst 1, 1) := by decide +kernel
theorem dL_law_1290 : decode code 1290 = .ok (.iadd, 1) := by decide +kernel
theorem dL_law_1291 : decode code 1291 = .ok (.iaload, 1) := by decide +kernel
theorem dL_law_1292 : decode code 1292 = .ok (.invokevirtual 167, 3) := by decide +kernel
theorem dL_law_1295 : decode code 1295 = .ok (.aload_n 2, 1) := by decide +kernel
theorem dL_law_1296 : decode code 1296 = .ok (.aload_n 0, 1) := by decide +kernel
theorem dL_law_1297 : decode code 1297 = .ok (.iload 4, 2) := by decide +kernel
theorem dL_law_1299 : decode code 1299 = .ok (.iconst 1, 1) := by decide +kernel
theorem dL_law_1300 : decode code 1300 = .ok (.iadd, 1) := by decide +kernel
theorem dL_law_1301 : decode code 1301 = .ok (.iaload, 1) := by decide +kernel
theorem dL_law_1302 : decode code 1302 = .ok (.invokevirtual 170, 3) := by decide +kernel
theorem dL_law_1305 : decode code 1305 = .ok (.if_icmp .eq 477, 3) := by decide +kernel
theorem dL_law_1308 : decode code 1308 = .ok (.iconst 0, 1) := by decide +kernel
theorem dL_law_1309 : decode code 1309 = .ok (.ireturn, 1) := by decide +kernel
theorem dL_law_1310 : decode code 1310 = .ok (.aload_n 1, 1) := by decide +kernel
theorem dL_law_1311 : decode code 1311 = .ok (.invokevirtual 171, 3) := by decide +kernel
theorem dL_law_1314 : decode code 1314 = .ok (.aload_n 2, 1) := by decide +kernel
theorem dL_law_1315 : decode code 1315 = .ok (.invokevirtual 174, 3) := by decide +kernel
theorem dL_law_1318 : decode code 1318 = .ok (.if_icmp .eq 464, 3) := by decide +kernel
theorem dL_law_1321 : decode code 1321 = .ok (.iconst 0, 1) := by decide +kernel
theorem dL_law_1322 : decode code 1322 = .ok (.ireturn, 1) := by decide +kernel
theorem dL_law_1323 : decode code 1323 = .ok (.aload_n 1, 1) := by decide +kernel
theorem dL_law_1324 : decode code 1324 = .ok (.aload_n 0, 1) := by decide +kernel
theorem dL_law_1325 : decode code 1325 = .ok (.iload 4, 2) := by decide +kernel
theorem dL_law_1327 : decode code 1327 = .ok (.iconst 1, 1) := by decide +kernel
theorem dL_law_1328 : decode code 1328 = .ok (.iadd, 1) := by decide +kernel
theorem dL_law_1329 : decode code 1329 = .ok (.iaload, 1) := by decide +kernel
theorem dL_law_1330 : decode code 1330 = .ok (.aload_n 0, 1) := by decide +kernel
theorem dL_law_1331 : decode code 1331 = .ok (.iload 4, 2) := by decide +kernel
theorem dL_law_1333 : decode code 1333 = .ok (.iconst 2, 1) := by decide +kernel
theorem dL_law_1334 : decode code 1334 = .ok (.iadd, 1) := by decide +kernel
theorem dL_law_1335 : decode code 1335 = .ok (.iaload, 1) := by decide +kernel
theorem dL_law_1336 : decode code 1336 = .ok (.aload_n 0, 1) := by decide +kernel
theorem dL_law_1337 : decode code 1337 = .ok (.iload 4, 2) := by decide +kernel
theorem dL_law_1339 : decode code 1339 = .ok (.iconst 3, 1) := by decide +kernel
theorem dL_law_1340 : decode code 1340 = .ok (.iadd, 1) := by decide +kernel
theorem dL_law_1341 : decode code 1341 = .ok (.iaload, 1) := by decide +kernel
theorem dL_law_1342 : decode code 1342 = .ok (.invokevirtual 175, 3) := by decide +kernel
theorem dL_law_1345 : decode code 1345 = .ok (.aload_n 2, 1) := by decide +kernel
theorem dL_law_1346 : decode code 1346 = .ok (.aload_n 0, 1) := by decide +kernel
theorem dL_law_1347 : decode code 1347 = .ok (.iload 4, 2) := by decide +kernel
theorem dL_law_1349 : decode code 1349 = .ok (.iconst 1, 1) := by decide +kernel
theorem dL_law_1350 : decode code 1350 = .ok (.iadd, 1) := by decide +kernel
theorem dL_law_1351 : decode code 1351 = .ok (.iaload, 1) := by decide +kernel
theorem dL_law_1352 : decode code 1352 = .ok (.aload_n 0, 1) := by decide +kernel
theorem dL_law_1353 : decode code 1353 = .ok (.iload 4, 2) := by decide +kernel
theorem dL_law_1355 : decode code 1355 = .ok (.iconst 2, 1) := by decide +kernel
theorem dL_law_1356 : decode code 1356 = .ok (.iadd, 1) := by decide +kernel
theorem dL_law_1357 : decode code 1357 = .ok (.iaload, 1) := by decide +kernel
theorem dL_law_1358 : decode code 1358 = .ok (.aload_n 0, 1) := by decide +kernel
theorem dL_law_1359 : decode code 1359 = .ok (.iload 4, 2) := by decide +kernel
theorem dL_law_1361 : decode code 1361 = .ok (.iconst 3, 1) := by decide +kernel
theorem dL_law_1362 : decode code 1362 = .ok (.iadd, 1) := by decide +kernel
theorem dL_law_1363 : decode code 1363 = .ok (.iaload, 1) := by decide +kernel
theorem dL_law_1364 : decode code 1364 = .ok (.invokevirtual 179, 3) := by decide +kernel
theorem dL_law_1367 : decode code 1367 = .ok (.if_icmp .eq 415, 3) := by decide +kernel
theorem dL_law_1370 : decode code 1370 = .ok (.iconst 0, 1) := by decide +kernel
theorem dL_law_1371 : decode code 1371 = .ok (.ireturn, 1) := by decide +kernel
theorem dL_law_1372 : decode code 1372 = .ok (.aload_n 1, 1) := by decide +kernel
theorem dL_law_1373 : decode code 1373 = .ok (.aload_n 0, 1) := by decide +kernel
theorem dL_law_1374 : decode code 1374 = .ok (.iload 4, 2) := by decide +kernel
theorem dL_law_1376 : decode code 1376 = .ok (.iconst 1, 1) := by decide +kernel
theorem dL_law_1377 : decode code 1377 = .ok (.iadd, 1) := by decide +kernel
theorem dL_law_1378 : decode code 1378 = .ok (.iaload, 1) := by decide +kernel
theorem dL_law_1379 : decode code 1379 = .ok (.invokevirtual 180, 3) := by decide +kernel
theorem dL_law_1382 : decode code 1382 = .ok (.aload_n 2, 1) := by decide +kernel
theorem dL_law_1383 : decode code 1383 = .ok (.aload_n 0, 1) := by decide +kernel
theorem dL_law_1384 : decode code 1384 = .ok (.iload 4, 2) := by decide +kernel
theorem dL_law_1386 : decode code 1386 = .ok (.iconst 1, 1) := by decide +kernel
theorem dL_law_1387 : decode code 1387 = .ok (.iadd, 1) := by decide +kernel
theorem dL_law_1388 : decode code 1388 = .ok (.iaload, 1) := by decide +kernel
theorem dL_law_1389 : decode code 1389 = .ok (.invokevirtual 183, 3) := by decide +kernel
theorem dL_law_1392 : decode code 1392 = .ok (.if_icmp .eq 390, 3) := by decide +kernel
theorem dL_law_1395 : decode code 1395 = .ok (.iconst 0, 1) := by decide +kernel
theorem dL_law_1396 : decode code 1396 = .ok (.ireturn, 1) := by decide +kernel
theorem dL_law_1397 : decode code 1397 = .ok (.aload_n 1, 1) := by decide +kernel
theorem dL_law_1398 : decode code 1398 = .ok (.aload_n 0, 1) := by decide +kernel
theorem dL_law_1399 : decode code 1399 = .ok (.iload 4, 2) := by decide +kernel
theorem dL_law_1401 : decode code 1401 = .ok (.iconst 1, 1) := by decide +kernel
theorem dL_law_1402 : decode code 1402 = .ok (.iadd, 1) := by decide +kernel
theorem dL_law_1403 : decode code 1403 = .ok (.iaload, 1) := by decide +kernel
theorem dL_law_1404 : decode code 1404 = .ok (.invokevirtual 184, 3) := by decide +kernel
theorem dL_law_1407 : decode code 1407 = .ok (.aload_n 2, 1) := by decide +kernel
theorem dL_law_1408 : decode code 1408 = .ok (.aload_n 0, 1) := by decide +kernel
theorem dL_law_1409 : decode code 1409 = .ok (.iload 4, 2) := by decide +kernel
theorem dL_law_1411 : decode code 1411 = .ok (.iconst 1, 1) := by decide +kernel
theorem dL_law_1412 : decode code 1412 = .ok (.iadd, 1) := by decide +kernel
theorem dL_law_1413 : decode code 1413 = .ok (.iaload, 1) := by decide +kernel
theorem dL_law_1414 : decode code 1414 = .ok (.invokevirtual 187, 3) := by decide +kernel
theorem dL_law_1417 : decode code 1417 = .ok (.if_icmp .eq 365, 3) := by decide +kernel
theorem dL_law_1420 : decode code 1420 = .ok (.iconst 0, 1) := by decide +kernel
theorem dL_law_1421 : decode code 1421 = .ok (.ireturn, 1) := by decide +kernel
theorem dL_law_1422 : decode code 1422 = .ok (.aload_n 1, 1) := by decide +kernel
theorem dL_law_1423 : decode code 1423 = .ok (.invokevirtual 188, 3) := by decide +kernel
theorem dL_law_1426 : decode code 1426 = .ok (.aload_n 2, 1) := by decide +kernel
theorem dL_law_1427 : decode code 1427 = .ok (.invokevirtual 191, 3) := by decide +kernel
theorem dL_law_1430 : decode code 1430 = .ok (.if_icmp .eq 352, 3) := by decide +kernel
theorem dL_law_1433 : decode code 1433 = .ok (.iconst 0, 1) := by decide +kernel
theorem dL_law_1434 : decode code 1434 = .ok (.ireturn, 1) := by decide +kernel
theorem dL_law_1435 : decode code 1435 = .ok (.aload_n 1, 1) := by decide +kernel
theorem dL_law_1436 : decode code 1436 = .ok (.aload_n 0, 1) := by decide +kernel
theorem dL_law_1437 : decode code 1437 = .ok (.iload 4, 2) := by decide +kernel
theorem dL_law_1439 : decode code 1439 = .ok (.iconst 1, 1) := by decide +kernel
theorem dL_law_1440 : decode code 1440 = .ok (.iadd, 1) := by decide +kernel
theorem dL_law_1441 : decode code 1441 = .ok (.iaload, 1) := by decide +kernel
theorem dL_law_1442 : decode code 1442 = .ok (.aload_n 0, 1) := by decide +kernel
theorem dL_law_1443 : decode code 1443 = .ok (.iload 4, 2) := by decide +kernel
theorem dL_law_1445 : decode code 1445 = .ok (.iconst 2, 1) := by decide +kernel
theorem dL_law_1446 : decode code 1446 = .ok (.iadd, 1) := by decide +kernel
theorem dL_law_1447 : decode code 1447 = .ok (.iaload, 1) := by decide +kernel
theorem dL_law_1448 : decode code 1448 = .ok (.aload_n 0, 1) := by decide +kernel
theorem dL_law_1449 : decode code 1449 = .ok (.iload 4, 2) := by decide +kernel
theorem dL_law_1451 : decode code 1451 = .ok (.iconst 3, 1) := by decide +kernel
theorem dL_law_1452 : decode code 1452 = .ok (.iadd, 1) := by decide +kernel
theorem dL_law_1453 : decode code 1453 = .ok (.iaload, 1) := by decide +kernel
theorem dL_law_1454 : decode code 1454 = .ok (.ifCond .eq 7, 3) := by decide +kernel
theorem dL_law_1457 : decode code 1457 = .ok (.iconst 1, 1) := by decide +kernel
theorem dL_law_1458 : decode code 1458 = .ok (.goto 4, 3) := by decide +kernel
theorem dL_law_1461 : decode code 1461 = .ok (.iconst 0, 1) := by decide +kernel
theorem dL_law_1462 : decode code 1462 = .ok (.invokevirtual 192, 3) := by decide +kernel
theorem dL_law_1465 : decode code 1465 = .ok (.aload_n 2, 1) := by decide +kernel
theorem dL_law_1466 : decode code 1466 = .ok (.aload_n 0, 1) := by decide +kernel
theorem dL_law_1467 : decode code 1467 = .ok (.iload 4, 2) := by decide +kernel
theorem dL_law_1469 : decode code 1469 = .ok (.iconst 1, 1) := by decide +kernel
theorem dL_law_1470 : decode code 1470 = .ok (.iadd, 1) := by decide +kernel
theorem dL_law_1471 : decode code 1471 = .ok (.iaload, 1) := by decide +kernel
theorem dL_law_1472 : decode code 1472 = .ok (.aload_n 0, 1) := by decide +kernel
theorem dL_law_1473 : decode code 1473 = .ok (.iload 4, 2) := by decide +kernel
theorem dL_law_1475 : decode code 1475 = .ok (.iconst 2, 1) := by decide +kernel
theorem dL_law_1476 : decode code 1476 = .ok (.iadd, 1) := by decide +kernel
theorem dL_law_1477 : decode code 1477 = .ok (.iaload, 1) := by decide +kernel
theorem dL_law_1478 : decode code 1478 = .ok (.aload_n 0, 1) := by decide +kernel
theorem dL_law_1479 : decode code 1479 = .ok (.iload 4, 2) := by decide +kernel
theorem dL_law_1481 : decode code 1481 = .ok (.iconst 3, 1) := by decide +kernel
theorem dL_law_1482 : decode code 1482 = .ok (.iadd, 1) := by decide +kernel
theorem dL_law_1483 : decode code 1483 = .ok (.iaload, 1) := by decide +kernel
theorem dL_law_1484 : decode code 1484 = .ok (.ifCond .eq 7, 3) := by decide +kernel
theorem dL_law_1487 : decode code 1487 = .ok (.iconst 1, 1) := by decide +kernel
theorem dL_law_1488 : decode code 1488 = .ok (.goto 4, 3) := by decide +kernel
theorem dL_law_1491 : decode code 1491 = .ok (.iconst 0, 1) := by decide +kernel
theorem dL_law_1492 : decode code 1492 = .ok (.invokevirtual 196, 3) := by decide +kernel
theorem dL_law_1495 : decode code 1495 = .ok (.if_icmp .eq 287, 3) := by decide +kernel
theorem dL_law_1498 : decode code 1498 = .ok (.iconst 0, 1) := by decide +kernel
theorem dL_law_1499 : decode code 1499 = .ok (.ireturn, 1) := by decide +kernel
theorem dL_law_1500 : decode code 1500 = .ok (.aload_n 1, 1) := by decide +kernel
theorem dL_law_1501 : decode code 1501 = .ok (.invokevirtual 197, 3) := by decide +kernel
theorem dL_law_1504 : decode code 1504 = .ok (.aload_n 2, 1) := by decide +kernel
theorem dL_law_1505 : decode code 1505 = .ok (.invokevirtual 200, 3) := by decide +kernel
theorem dL_law_1508 : decode code 1508 = .ok (.if_icmp .eq 274, 3) := by decide +kernel
theorem dL_law_1511 : decode code 1511 = .ok (.iconst 0, 1) := by decide +kernel
theorem dL_law_1512 : decode code 1512 = .ok (.ireturn, 1) := by decide +kernel
theorem dL_law_1513 : decode code 1513 = .ok (.aload_n 1, 1) := by decide +kernel
theorem dL_law_1514 : decode code 1514 = .ok (.invokevirtual 201, 3) := by decide +kernel
theorem dL_law_1517 : decode code 1517 = .ok (.aload_n 2, 1) := by decide +kernel
theorem dL_law_1518 : decode code 1518 = .ok (.invokevirtual 204, 3) := by decide +kernel
theorem dL_law_1521 : decode code 1521 = .ok (.if_icmp .eq 261, 3) := by decide +kernel
theorem dL_law_1524 : decode code 1524 = .ok (.iconst 0, 1) := by decide +kernel
theorem dL_law_1525 : decode code 1525 = .ok (.ireturn, 1) := by decide +kernel
theorem dL_law_1526 : decode code 1526 = .ok (.aload_n 1, 1) := by decide +kernel
theorem dL_law_1527 : decode code 1527 = .ok (.aload_n 0, 1) := by decide +kernel
theorem dL_law_1528 : decode code 1528 = .ok (.iload 4, 2) := by decide +kernel
theorem dL_law_1530 : decode code 1530 = .ok (.iconst 1, 1) := by decide +kernel
theorem dL_law_1531 : decode code 1531 = .ok (.iadd, 1) := by decide +kernel
theorem dL_law_1532 : decode code 1532 = .ok (.iaload, 1) := by decide +kernel
theorem dL_law_1533 : decode code 1533 = .ok (.aload_n 0, 1) := by decide +kernel
theorem dL_law_1534 : decode code 1534 = .ok (.iload 4, 2) := by decide +kernel
theorem dL_law_1536 : decode code 1536 = .ok (.iconst 2, 1) := by decide +kernel
theorem dL_law_1537 : decode code 1537 = .ok (.iadd, 1) := by decide +kernel
theorem dL_law_1538 : decode code 1538 = .ok (.iaload, 1) := by decide +kernel
theorem dL_law_1539 : decode code 1539 = .ok (.invokevirtual 205, 3) := by decide +kernel
theorem dL_law_1542 : decode code 1542 = .ok (.aload_n 2, 1) := by decide +kernel
theorem dL_law_1543 : decode code 1543 = .ok (.aload_n 0, 1) := by decide +kernel
theorem dL_law_1544 : decode code 1544 = .ok (.iload 4, 2) := by decide +kernel
theorem dL_law_1546 : decode code 1546 = .ok (.iconst 1, 1) := by decide +kernel
theorem dL_law_1547 : decode code 1547 = .ok (.iadd, 1) := by decide +kernel
theorem dL_law_1548 : decode code 1548 = .ok (.iaload, 1) := by decide +kernel
theorem dL_law_1549 : decode code 1549 = .ok (.aload_n 0, 1) := by decide +kernel
theorem dL_law_1550 : decode code 1550 = .ok (.iload 4, 2) := by decide +kernel
theorem dL_law_1552 : decode code 1552 = .ok (.iconst 2, 1) := by decide +kernel
theorem dL_law_1553 : decode code 1553 = .ok (.iadd, 1) := by decide +kernel
theorem dL_law_1554 : decode code 1554 = .ok (.iaload, 1) := by decide +kernel
theorem dL_law_1555 : decode code 1555 = .ok (.invokevirtual 208, 3) := by decide +kernel
theorem dL_law_1558 : decode code 1558 = .ok (.if_icmp .eq 224, 3) := by decide +kernel
theorem dL_law_1561 : decode code 1561 = .ok (.iconst 0, 1) := by decide +kernel
theorem dL_law_1562 : decode code 1562 = .ok (.ireturn, 1) := by decide +kernel
theorem dL_law_1563 : decode code 1563 = .ok (.aload_n 1, 1) := by decide +kernel
theorem dL_law_1564 : decode code 1564 = .ok (.aload_n 0, 1) := by decide +kernel
theorem dL_law_1565 : decode code 1565 = .ok (.iload 4, 2) := by decide +kernel
theorem dL_law_1567 : decode code 1567 = .ok (.iconst 1, 1) := by decide +kernel
theorem dL_law_1568 : decode code 1568 = .ok (.iadd, 1) := by decide +kernel
theorem dL_law_1569 : decode code 1569 = .ok (.iaload, 1) := by decide +kernel
theorem dL_law_1570 : decode code 1570 = .ok (.aload_n 0, 1) := by decide +kernel
theorem dL_law_1571 : decode code 1571 = .ok (.iload 4, 2) := by decide +kernel
theorem dL_law_1573 : decode code 1573 = .ok (.iconst 2, 1) := by decide +kernel
theorem dL_law_1574 : decode code 1574 = .ok (.iadd, 1) := by decide +kernel
theorem dL_law_1575 : decode code 1575 = .ok (.iaload, 1) := by decide +kernel
theorem dL_law_1576 : decode code 1576 = .ok (.aload_n 0, 1) := by decide +kernel
theorem dL_law_1577 : decode code 1577 = .ok (.iload 4, 2) := by decide +kernel
theorem dL_law_1579 : decode code 1579 = .ok (.iconst 3, 1) := by decide +kernel
theorem dL_law_1580 : decode code 1580 = .ok (.iadd, 1) := by decide +kernel
theorem dL_law_1581 : decode code 1581 = .ok (.iaload, 1) := by decide +kernel
theorem dL_law_1582 : decode code 1582 = .ok (.aload_n 0, 1) := by decide +kernel
theorem dL_law_1583 : decode code 1583 = .ok (.iload 4, 2) := by decide +kernel
theorem dL_law_1585 : decode code 1585 = .ok (.iconst 4, 1) := by decide +kernel
theorem dL_law_1586 : decode code 1586 = .ok (.iadd, 1) := by decide +kernel
theorem dL_law_1587 : decode code 1587 = .ok (.iaload, 1) := by decide +kernel
theorem dL_law_1588 : decode code 1588 = .ok (.aload_n 3, 1) := by decide +kernel
theorem dL_law_1589 : decode code 1589 = .ok (.invokestatic 209, 3) := by decide +kernel
theorem dL_law_1592 : decode code 1592 = .ok (.istore 5, 2) := by decide +kernel
theorem dL_law_1594 : decode code 1594 = .ok (.aload_n 2, 1) := by decide +kernel
theorem dL_law_1595 : decode code 1595 = .ok (.aload_n 0, 1) := by decide +kernel
theorem dL_law_1596 : decode code 1596 = .ok (.iload 4, 2) := by decide +kernel
theorem dL_law_1598 : decode code 1598 = .ok (.iconst 1, 1) := by decide +kernel
theorem dL_law_1599 : decode code 1599 = .ok (.iadd, 1) := by decide +kernel
theorem dL_law_1600 : decode code 1600 = .ok (.iaload, 1) := by decide +kernel
theorem dL_law_1601 : decode code 1601 = .ok (.aload_n 0, 1) := by decide +kernel
theorem dL_law_1602 : decode code 1602 = .ok (.iload 4, 2) := by decide +kernel
theorem dL_law_1604 : decode code 1604 = .ok (.iconst 2, 1) := by decide +kernel
theorem dL_law_1605 : decode code 1605 = .ok (.iadd, 1) := by decide +kernel
theorem dL_law_1606 : decode code 1606 = .ok (.iaload, 1) := by decide +kernel
theorem dL_law_1607 : decode code 1607 = .ok (.aload_n 0, 1) := by decide +kernel
theorem dL_law_1608 : decode code 1608 = .ok (.iload 4, 2) := by decide +kernel
theorem dL_law_1610 : decode code 1610 = .ok (.iconst 3, 1) := by decide +kernel
theorem dL_law_1611 : decode code 1611 = .ok (.iadd, 1) := by decide +kernel
theorem dL_law_1612 : decode code 1612 = .ok (.iaload, 1) := by decide +kernel
theorem dL_law_1613 : decode code 1613 = .ok (.aload_n 0, 1) := by decide +kernel
theorem dL_law_1614 : decode code 1614 = .ok (.iload 4, 2) := by decide +kernel
theorem dL_law_1616 : decode code 1616 = .ok (.iconst 4, 1) := by decide +kernel
theorem dL_law_1617 : decode code 1617 = .ok (.iadd, 1) := by decide +kernel
theorem dL_law_1618 : decode code 1618 = .ok (.iaload, 1) := by decide +kernel
theorem dL_law_1619 : decode code 1619 = .ok (.invokevirtual 214, 3) := by decide +kernel
theorem dL_law_1622 : decode code 1622 = .ok (.istore 6, 2) := by decide +kernel
theorem dL_law_1624 : decode code 1624 = .ok (.aload_n 2, 1) := by decide +kernel
theorem dL_law_1625 : decode code 1625 = .ok (.invokevirtual 215, 3) := by decide +kernel
theorem dL_law_1628 : decode code 1628 = .ok (.iload 5, 2) := by decide +kernel
theorem dL_law_1630 : decode code 1630 = .ok (.if_icmp .eq 5, 3) := by decide +kernel
theorem dL_law_1633 : decode code 1633 = .ok (.iconst 0, 1) := by decide +kernel
theorem dL_law_1634 : decode code 1634 = .ok (.ireturn, 1) := by decide +kernel
theorem dL_law_1635 : decode code 1635 = .ok (.iload 5, 2) := by decide +kernel
theorem dL_law_1637 : decode code 1637 = .ok (.ifCond .ne 15, 3) := by decide +kernel
theorem dL_law_1640 : decode code 1640 = .ok (.aload_n 3, 1) := by decide +kernel
theorem dL_law_1641 : decode code 1641 = .ok (.iconst 0, 1) := by decide +kernel
theorem dL_law_1642 : decode code 1642 = .ok (.laload, 1) := by decide +kernel
theorem dL_law_1643 : decode code 1643 = .ok (.iload 6, 2) := by decide +kernel
theorem dL_law_1645 : decode code 1645 = .ok (.i2l, 1) := by decide +kernel
theorem dL_law_1646 : decode code 1646 = .ok (.lcmp, 1) := by decide +kernel
theorem dL_law_1647 : decode code 1647 = .ok (.ifCond .eq 5, 3) := by decide +kernel
theorem dL_law_1650 : decode code 1650 = .ok (.iconst 0, 1) := by decide +kernel
theorem dL_law_1651 : decode code 1651 = .ok (.ireturn, 1) := by decide +kernel
theorem dL_law_1652 : decode code 1652 = .ok (.goto 130, 3) := by decide +kernel
theorem dL_law_1655 : decode code 1655 = .ok (.aload_n 1, 1) := by decide +kernel
theorem dL_law_1656 : decode code 1656 = .ok (.aload_n 0, 1) := by decide +kernel
theorem dL_law_1657 : decode code 1657 = .ok (.iload 4, 2) := by decide +kernel
theorem dL_law_1659 : decode code 1659 = .ok (.iconst 1, 1) := by decide +kernel
theorem dL_law_1660 : decode code 1660 = .ok (.iadd, 1) := by decide +kernel
theorem dL_law_1661 : decode code 1661 = .ok (.iaload, 1) := by decide +kernel
theorem dL_law_1662 : decode code 1662 = .ok (.aload_n 0, 1) := by decide +kernel
theorem dL_law_1663 : decode code 1663 = .ok (.iload 4, 2) := by decide +kernel
theorem dL_law_1665 : decode code 1665 = .ok (.iconst 2, 1) := by decide +kernel
theorem dL_law_1666 : decode code 1666 = .ok (.iadd, 1) := by decide +kernel
theorem dL_law_1667 : decode code 1667 = .ok (.iaload, 1) := by decide +kernel
theorem dL_law_1668 : decode code 1668 = .ok (.aload_n 0, 1) := by decide +kernel
theorem dL_law_1669 : decode code 1669 = .ok (.iload 4, 2) := by decide +kernel
theorem dL_law_1671 : decode code 1671 = .ok (.iconst 3, 1) := by decide +kernel
theorem dL_law_1672 : decode code 1672 = .ok (.iadd, 1) := by decide +kernel
theorem dL_law_1673 : decode code 1673 = .ok (.iaload, 1) := by decide +kernel
theorem dL_law_1674 : decode code 1674 = .ok (.invokevirtual 218, 3) := by decide +kernel
theorem dL_law_1677 : decode code 1677 = .ok (.aload_n 2, 1) := by decide +kernel
theorem dL_law_1678 : decode code 1678 = .ok (.aload_n 0, 1) := by decide +kernel
theorem dL_law_1679 : decode code 1679 = .ok (.iload 4, 2) := by decide +kernel
theorem dL_law_1681 : decode code 1681 = .ok (.iconst 1, 1) := by decide +kernel
theorem dL_law_1682 : decode code 1682 = .ok (.iadd, 1) := by decide +kernel
theorem dL_law_1683 : decode code 1683 = .ok (.iaload, 1) := by decide +kernel
theorem dL_law_1684 : decode code 1684 = .ok (.aload_n 0, 1) := by decide +kernel
theorem dL_law_1685 : decode code 1685 = .ok (.iload 4, 2) := by decide +kernel
theorem dL_law_1687 : decode code 1687 = .ok (.iconst 2, 1) := by decide +kernel
theorem dL_law_1688 : decode code 1688 = .ok (.iadd, 1) := by decide +kernel
theorem dL_law_1689 : decode code 1689 = .ok (.iaload, 1) := by decide +kernel
theorem dL_law_1690 : decode code 1690 = .ok (.aload_n 0, 1) := by decide +kernel
theorem dL_law_1691 : decode code 1691 = .ok (.iload 4, 2) := by decide +kernel
theorem dL_law_1693 : decode code 1693 = .ok (.iconst 3, 1) := by decide +kernel
theorem dL_law_1694 : decode code 1694 = .ok (.iadd, 1) := by decide +kernel
theorem dL_law_1695 : decode code 1695 = .ok (.iaload, 1) := by decide +kernel
theorem dL_law_1696 : decode code 1696 = .ok (.invokevirtual 221, 3) := by decide +kernel
theorem dL_law_1699 : decode code 1699 = .ok (.if_icmp .eq 83, 3) := by decide +kernel
theorem dL_law_1702 : decode code 1702 = .ok (.iconst 0, 1) := by decide +kernel
theorem dL_law_1703 : decode code 1703 = .ok (.ireturn, 1) := by decide +kernel
theorem dL_law_1704 : decode code 1704 = .ok (.aload_n 1, 1) := by decide +kernel
theorem dL_law_1705 : decode code 1705 = .ok (.aload_n 0, 1) := by decide +kernel
theorem dL_law_1706 : decode code 1706 = .ok (.iload 4, 2) := by decide +kernel
theorem dL_law_1708 : decode code 1708 = .ok (.iconst 1, 1) := by decide +kernel
theorem dL_law_1709 : decode code 1709 = .ok (.iadd, 1) := by decide +kernel
theorem dL_law_1710 : decode code 1710 = .ok (.iaload, 1) := by decide +kernel
theorem dL_law_1711 : decode code 1711 = .ok (.aload_n 0, 1) := by decide +kernel
theorem dL_law_1712 : decode code 1712 = .ok (.iload 4, 2) := by decide +kernel
theorem dL_law_1714 : decode code 1714 = .ok (.iconst 2, 1) := by decide +kernel
theorem dL_law_1715 : decode code 1715 = .ok (.iadd, 1) := by decide +kernel
theorem dL_law_1716 : decode code 1716 = .ok (.iaload, 1) := by decide +kernel
theorem dL_law_1717 : decode code 1717 = .ok (.ifCond .eq 7, 3) := by decide +kernel
theorem dL_law_1720 : decode code 1720 = .ok (.iconst 1, 1) := by decide +kernel
theorem dL_law_1721 : decode code 1721 = .ok (.goto 4, 3) := by decide +kernel
theorem dL_law_1724 : decode code 1724 = .ok (.iconst 0, 1) := by decide +kernel
theorem dL_law_1725 : decode code 1725 = .ok (.invokevirtual 222, 3) := by decide +kernel
theorem dL_law_1728 : decode code 1728 = .ok (.aload_n 2, 1) := by decide +kernel
theorem dL_law_1729 : decode code 1729 = .ok (.aload_n 0, 1) := by decide +kernel
theorem dL_law_1730 : decode code 1730 = .ok (.iload 4, 2) := by decide +kernel
theorem dL_law_1732 : decode code 1732 = .ok (.iconst 1, 1) := by decide +kernel
theorem dL_law_1733 : decode code 1733 = .ok (.iadd, 1) := by decide +kernel
theorem dL_law_1734 : decode code 1734 = .ok (.iaload, 1) := by decide +kernel
theorem dL_law_1735 : decode code 1735 = .ok (.aload_n 0, 1) := by decide +kernel
theorem dL_law_1736 : decode code 1736 = .ok (.iload 4, 2) := by decide +kernel
theorem dL_law_1738 : decode code 1738 = .ok (.iconst 2, 1) := by decide +kernel
theorem dL_law_1739 : decode code 1739 = .ok (.iadd, 1) := by decide +kernel
theorem dL_law_1740 : decode code 1740 = .ok (.iaload, 1) := by decide +kernel
theorem dL_law_1741 : decode code 1741 = .ok (.ifCond .eq 7, 3) := by decide +kernel
theorem dL_law_1744 : decode code 1744 = .ok (.iconst 1, 1) := by decide +kernel
theorem dL_law_1745 : decode code 1745 = .ok (.goto 4, 3) := by decide +kernel
theorem dL_law_1748 : decode code 1748 = .ok (.iconst 0, 1) := by decide +kernel
theorem dL_law_1749 : decode code 1749 = .ok (.invokevirtual 226, 3) := by decide +kernel
theorem dL_law_1752 : decode code 1752 = .ok (.if_icmp .eq 30, 3) := by decide +kernel
theorem dL_law_1755 : decode code 1755 = .ok (.iconst 0, 1) := by decide +kernel
theorem dL_law_1756 : decode code 1756 = .ok (.ireturn, 1) := by decide +kernel
theorem dL_law_1757 : decode code 1757 = .ok (.aload_n 1, 1) := by decide +kernel
theorem dL_law_1758 : decode code 1758 = .ok (.aload_n 0, 1) := by decide +kernel
theorem dL_law_1759 : decode code 1759 = .ok (.iload 4, 2) := by decide +kernel
theorem dL_law_1761 : decode code 1761 = .ok (.iconst 1, 1) := by decide +kernel
theorem dL_law_1762 : decode code 1762 = .ok (.iadd, 1) := by decide +kernel
theorem dL_law_1763 : decode code 1763 = .ok (.iaload, 1) := by decide +kernel
theorem dL_law_1764 : decode code 1764 = .ok (.invokevirtual 227, 3) := by decide +kernel
theorem dL_law_1767 : decode code 1767 = .ok (.aload_n 2, 1) := by decide +kernel
theorem dL_law_1768 : decode code 1768 = .ok (.aload_n 0, 1) := by decide +kernel
theorem dL_law_1769 : decode code 1769 = .ok (.iload 4, 2) := by decide +kernel
theorem dL_law_1771 : decode code 1771 = .ok (.iconst 1, 1) := by decide +kernel
theorem dL_law_1772 : decode code 1772 = .ok (.iadd, 1) := by decide +kernel
theorem dL_law_1773 : decode code 1773 = .ok (.iaload, 1) := by decide +kernel
theorem dL_law_1774 : decode code 1774 = .ok (.invokevirtual 230, 3) := by decide +kernel
theorem dL_law_1777 : decode code 1777 = .ok (.if_icmp .eq 5, 3) := by decide +kernel
theorem dL_law_1780 : decode code 1780 = .ok (.iconst 0, 1) := by decide +kernel
theorem dL_law_1781 : decode code 1781 = .ok (.ireturn, 1) := by decide +kernel
theorem dL_law_1782 : decode code 1782 = .ok (.iinc 4 7, 3) := by decide +kernel
theorem dL_law_1785 : decode code 1785 = .ok (.goto (-1762), 3) := by decide +kernel
theorem dL_law_1788 : decode code 1788 = .ok (.iconst 1, 1) := by decide +kernel
theorem dL_law_1789 : decode code 1789 = .ok (.ireturn, 1) := by decide +kernel
