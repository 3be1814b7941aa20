theorem d_Law_law_294 : decode code 294 = .ok (.iadd, 1) := by decide +kernel
theorem d_Law_law_295 : decode code 295 = .ok (.iaload, 1) := by decide +kernel
theorem d_Law_law_296 : decode code 296 = .ok (.i2l, 1) := by decide +kernel
theorem d_Law_law_297 : decode code 297 = .ok (.bipush 32, 2) := by decide +kernel
theorem d_Law_law_299 : decode code 299 = .ok (.lshl, 1) := by decide +kernel
theorem d_Law_law_300 : decode code 300 = .ok (.aload_n 0, 1) := by decide +kernel
theorem d_Law_law_301 : decode code 301 = .ok (.iload 4, 2) := by decide +kernel
theorem d_Law_law_303 : decode code 303 = .ok (.iconst 2, 1) := by decide +kernel
theorem d_Law_law_304 : decode code 304 = .ok (.iadd, 1) := by decide +kernel
theorem d_Law_law_305 : decode code 305 = .ok (.iaload, 1) := by decide +kernel
theorem d_Law_law_306 : decode code 306 = .ok (.i2l, 1) := by decide +kernel
theorem d_Law_law_307 : decode code 307 = .ok (.ldc2_w 77, 3) := by decide +kernel
theorem d_Law_law_310 : decode code 310 = .ok (.land, 1) := by decide +kernel
theorem d_Law_law_311 : decode code 311 = .ok (.lor, 1) := by decide +kernel
theorem d_Law_law_312 : decode code 312 = .ok (.invokevirtual 82, 3) := by decide +kernel
theorem d_Law_law_315 : decode code 315 = .ok (.istore 6, 2) := by decide +kernel
theorem d_Law_law_317 : decode code 317 = .ok (.aload_n 2, 1) := by decide +kernel
theorem d_Law_law_318 : decode code 318 = .ok (.invokevirtual 70, 3) := by decide +kernel
theorem d_Law_law_321 : decode code 321 = .ok (.iload 5, 2) := by decide +kernel
theorem d_Law_law_323 : decode code 323 = .ok (.if_icmp .eq 5, 3) := by decide +kernel
theorem d_Law_law_326 : decode code 326 = .ok (.iconst 0, 1) := by decide +kernel
theorem d_Law_law_327 : decode code 327 = .ok (.ireturn, 1) := by decide +kernel
theorem d_Law_law_328 : decode code 328 = .ok (.iload 5, 2) := by decide +kernel
theorem d_Law_law_330 : decode code 330 = .ok (.ifCond .ne 15, 3) := by decide +kernel
theorem d_Law_law_333 : decode code 333 = .ok (.aload_n 3, 1) := by decide +kernel
theorem d_Law_law_334 : decode code 334 = .ok (.iconst 0, 1) := by decide +kernel
theorem d_Law_law_335 : decode code 335 = .ok (.laload, 1) := by decide +kernel
theorem d_Law_law_336 : decode code 336 = .ok (.iload 6, 2) := by decide +kernel
theorem d_Law_law_338 : decode code 338 = .ok (.i2l, 1) := by decide +kernel
theorem d_Law_law_339 : decode code 339 = .ok (.lcmp, 1) := by decide +kernel
theorem d_Law_law_340 : decode code 340 = .ok (.ifCond .eq 5, 3) := by decide +kernel
theorem d_Law_law_343 : decode code 343 = .ok (.iconst 0, 1) := by decide +kernel
theorem d_Law_law_344 : decode code 344 = .ok (.ireturn, 1) := by decide +kernel
theorem d_Law_law_345 : decode code 345 = .ok (.goto 701, 3) := by decide +kernel
theorem d_Law_law_348 : decode code 348 = .ok (.aload_n 1, 1) := by decide +kernel
theorem d_Law_law_349 : decode code 349 = .ok (.aload_n 0, 1) := by decide +kernel
theorem d_Law_law_350 : decode code 350 = .ok (.iload 4, 2) := by decide +kernel
theorem d_Law_law_352 : decode code 352 = .ok (.iconst 1, 1) := by decide +kernel
theorem d_Law_law_353 : decode code 353 = .ok (.iadd, 1) := by decide +kernel
theorem d_Law_law_354 : decode code 354 = .ok (.iaload, 1) := by decide +kernel
theorem d_Law_law_355 : decode code 355 = .ok (.aload_n 3, 1) := by decide +kernel
theorem d_Law_law_356 : decode code 356 = .ok (.invokestatic 83, 3) := by decide +kernel
theorem d_Law_law_359 : decode code 359 = .ok (.istore 5, 2) := by decide +kernel
theorem d_Law_law_361 : decode code 361 = .ok (.aload_n 2, 1) := by decide +kernel
theorem d_Law_law_362 : decode code 362 = .ok (.aload_n 0, 1) := by decide +kernel
theorem d_Law_law_363 : decode code 363 = .ok (.iload 4, 2) := by decide +kernel
theorem d_Law_law_365 : decode code 365 = .ok (.iconst 1, 1) := by decide +kernel
theorem d_Law_law_366 : decode code 366 = .ok (.iadd, 1) := by decide +kernel
theorem d_Law_law_367 : decode code 367 = .ok (.iaload, 1) := by decide +kernel
theorem d_Law_law_368 : decode code 368 = .ok (.invokevirtual 86, 3) := by decide +kernel
theorem d_Law_law_371 : decode code 371 = .ok (.istore 6, 2) := by decide +kernel
theorem d_Law_law_373 : decode code 373 = .ok (.aload_n 2, 1) := by decide +kernel
theorem d_Law_law_374 : decode code 374 = .ok (.invokevirtual 70, 3) := by decide +kernel
theorem d_Law_law_377 : decode code 377 = .ok (.iload 5, 2) := by decide +kernel
theorem d_Law_law_379 : decode code 379 = .ok (.if_icmp .eq 5, 3) := by decide +kernel
theorem d_Law_law_382 : decode code 382 = .ok (.iconst 0, 1) := by decide +kernel
theorem d_Law_law_383 : decode code 383 = .ok (.ireturn, 1) := by decide +kernel
theorem d_Law_law_384 : decode code 384 = .ok (.iload 5, 2) := by decide +kernel
theorem d_Law_law_386 : decode code 386 = .ok (.ifCond .ne 15, 3) := by decide +kernel
theorem d_Law_law_389 : decode code 389 = .ok (.aload_n 3, 1) := by decide +kernel
theorem d_Law_law_390 : decode code 390 = .ok (.iconst 0, 1) := by decide +kernel
theorem d_Law_law_391 : decode code 391 = .ok (.laload, 1) := by decide +kernel
theorem d_Law_law_392 : decode code 392 = .ok (.iload 6, 2) := by decide +kernel
theorem d_Law_law_394 : decode code 394 = .ok (.i2l, 1) := by decide +kernel
theorem d_Law_law_395 : decode code 395 = .ok (.lcmp, 1) := by decide +kernel
theorem d_Law_law_396 : decode code 396 = .ok (.ifCond .eq 5, 3) := by decide +kernel
theorem d_Law_law_399 : decode code 399 = .ok (.iconst 0, 1) := by decide +kernel
theorem d_Law_law_400 : decode code 400 = .ok (.ireturn, 1) := by decide +kernel
theorem d_Law_law_401 : decode code 401 = .ok (.goto 645, 3) := by decide +kernel
theorem d_Law_law_404 : decode code 404 = .ok (.aload_n 1, 1) := by decide +kernel
theorem d_Law_law_405 : decode code 405 = .ok (.invokevirtual 87, 3) := by decide +kernel
theorem d_Law_law_408 : decode code 408 = .ok (.aload_n 2, 1) := by decide +kernel
theorem d_Law_law_409 : decode code 409 = .ok (.invokevirtual 90, 3) := by decide +kernel
theorem d_Law_law_412 : decode code 412 = .ok (.if_icmp .eq 634, 3) := by decide +kernel
theorem d_Law_law_415 : decode code 415 = .ok (.iconst 0, 1) := by decide +kernel
theorem d_Law_law_416 : decode code 416 = .ok (.ireturn, 1) := by decide +kernel
theorem d_Law_law_417 : decode code 417 = .ok (.aload_n 1, 1) := by decide +kernel
theorem d_Law_law_418 : decode code 418 = .ok (.aload_n 0, 1) := by decide +kernel
theorem d_Law_law_419 : decode code 419 = .ok (.iload 4, 2) := by decide +kernel
theorem d_Law_law_421 : decode code 421 = .ok (.iconst 1, 1) := by decide +kernel
theorem d_Law_law_422 : decode code 422 = .ok (.iadd, 1) := by decide +kernel
theorem d_Law_law_423 : decode code 423 = .ok (.iaload, 1) := by decide +kernel
theorem d_Law_law_424 : decode code 424 = .ok (.aload_n 0, 1) := by decide +kernel
theorem d_Law_law_425 : decode code 425 = .ok (.iload 4, 2) := by decide +kernel
theorem d_Law_law_427 : decode code 427 = .ok (.iconst 2, 1) := by decide +kernel
theorem d_Law_law_428 : decode code 428 = .ok (.iadd, 1) := by decide +kernel
theorem d_Law_law_429 : decode code 429 = .ok (.iaload, 1) := by decide +kernel
theorem d_Law_law_430 : decode code 430 = .ok (.aload_n 3, 1) := by decide +kernel
theorem d_Law_law_431 : decode code 431 = .ok (.invokestatic 91, 3) := by decide +kernel
theorem d_Law_law_434 : decode code 434 = .ok (.istore 5, 2) := by decide +kernel
theorem d_Law_law_436 : decode code 436 = .ok (.aload_n 2, 1) := by decide +kernel
theorem d_Law_law_437 : decode code 437 = .ok (.aload_n 0, 1) := by decide +kernel
theorem d_Law_law_438 : decode code 438 = .ok (.iload 4, 2) := by decide +kernel
theorem d_Law_law_440 : decode code 440 = .ok (.iconst 1, 1) := by decide +kernel
theorem d_Law_law_441 : decode code 441 = .ok (.iadd, 1) := by decide +kernel
theorem d_Law_law_442 : decode code 442 = .ok (.iaload, 1) := by decide +kernel
theorem d_Law_law_443 : decode code 443 = .ok (.aload_n 0, 1) := by decide +kernel
theorem d_Law_law_444 : decode code 444 = .ok (.iload 4, 2) := by decide +kernel
theorem d_Law_law_446 : decode code 446 = .ok (.iconst 2, 1) := by decide +kernel
theorem d_Law_law_447 : decode code 447 = .ok (.iadd, 1) := by decide +kernel
theorem d_Law_law_448 : decode code 448 = .ok (.iaload, 1) := by decide +kernel
theorem d_Law_law_449 : decode code 449 = .ok (.invokevirtual 93, 3) := by decide +kernel
theorem d_Law_law_452 : decode code 452 = .ok (.istore 6, 2) := by decide +kernel
theorem d_Law_law_454 : decode code 454 = .ok (.aload_n 2, 1) := by decide +kernel
theorem d_Law_law_455 : decode code 455 = .ok (.invokevirtual 70, 3) := by decide +kernel
theorem d_Law_law_458 : decode code 458 = .ok (.iload 5, 2) := by decide +kernel
theorem d_Law_law_460 : decode code 460 = .ok (.if_icmp .eq 5, 3) := by decide +kernel
theorem d_Law_law_463 : decode code 463 = .ok (.iconst 0, 1) := by decide +kernel
theorem d_Law_law_464 : decode code 464 = .ok (.ireturn, 1) := by decide +kernel
theorem d_Law_law_465 : decode code 465 = .ok (.iload 5, 2) := by decide +kernel
theorem d_Law_law_467 : decode code 467 = .ok (.ifCond .ne 15, 3) := by decide +kernel
theorem d_Law_law_470 : decode code 470 = .ok (.aload_n 3, 1) := by decide +kernel
theorem d_Law_law_471 : decode code 471 = .ok (.iconst 0, 1) := by decide +kernel
theorem d_Law_law_472 : decode code 472 = .ok (.laload, 1) := by decide +kernel
theorem d_Law_law_473 : decode code 473 = .ok (.iload 6, 2) := by decide +kernel
theorem d_Law_law_475 : decode code 475 = .ok (.i2l, 1) := by decide +kernel
theorem d_Law_law_476 : decode code 476 = .ok (.lcmp, 1) := by decide +kernel
theorem d_Law_law_477 : decode code 477 = .ok (.ifCond .eq 5, 3) := by decide +kernel
theorem d_Law_law_480 : decode code 480 = .ok (.iconst 0, 1) := by decide +kernel
theorem d_Law_law_481 : decode code 481 = .ok (.ireturn, 1) := by decide +kernel
theorem d_Law_law_482 : decode code 482 = .ok (.goto 564, 3) := by decide +kernel
theorem d_Law_law_485 : decode code 485 = .ok (.aload_n 1, 1) := by decide +kernel
theorem d_Law_law_486 : decode code 486 = .ok (.aload_n 0, 1) := by decide +kernel
theorem d_Law_law_487 : decode code 487 = .ok (.iload 4, 2) := by decide +kernel
theorem d_Law_law_489 : decode code 489 = .ok (.iconst 1, 1) := by decide +kernel
theorem d_Law_law_490 : decode code 490 = .ok (.iadd, 1) := by decide +kernel
theorem d_Law_law_491 : decode code 491 = .ok (.iaload, 1) := by decide +kernel
theorem d_Law_law_492 : decode code 492 = .ok (.aload_n 0, 1) := by decide +kernel
theorem d_Law_law_493 : decode code 493 = .ok (.iload 4, 2) := by decide +kernel
theorem d_Law_law_495 : decode code 495 = .ok (.iconst 2, 1) := by decide +kernel
theorem d_Law_law_496 : decode code 496 = .ok (.iadd, 1) := by decide +kernel
theorem d_Law_law_497 : decode code 497 = .ok (.iaload, 1) := by decide +kernel
theorem d_Law_law_498 : decode code 498 = .ok (.aload_n 3, 1) := by decide +kernel
theorem d_Law_law_499 : decode code 499 = .ok (.invokestatic 94, 3) := by decide +kernel
theorem d_Law_law_502 : decode code 502 = .ok (.istore 5, 2) := by decide +kernel
theorem d_Law_law_504 : decode code 504 = .ok (.aload_n 2, 1) := by decide +kernel
theorem d_Law_law_505 : decode code 505 = .ok (.aload_n 0, 1) := by decide +kernel
theorem d_Law_law_506 : decode code 506 = .ok (.iload 4, 2) := by decide +kernel
theorem d_Law_law_508 : decode code 508 = .ok (.iconst 1, 1) := by decide +kernel
theorem d_Law_law_509 : decode code 509 = .ok (.iadd, 1) := by decide +kernel
theorem d_Law_law_510 : decode code 510 = .ok (.iaload, 1) := by decide +kernel
theorem d_Law_law_511 : decode code 511 = .ok (.aload_n 0, 1) := by decide +kernel
theorem d_Law_law_512 : decode code 512 = .ok (.iload 4, 2) := by decide +kernel
theorem d_Law_law_514 : decode code 514 = .ok (.iconst 2, 1) := by decide +kernel
theorem d_Law_law_515 : decode code 515 = .ok (.iadd, 1) := by decide +kernel
theorem d_Law_law_516 : decode code 516 = .ok (.iaload, 1) := by decide +kernel
theorem d_Law_law_517 : decode code 517 = .ok (.invokevirtual 96, 3) := by decide +kernel
theorem d_Law_law_520 : decode code 520 = .ok (.istore 6, 2) := by decide +kernel
theorem d_Law_law_522 : decode code 522 = .ok (.aload_n 2, 1) := by decide +kernel
theorem d_Law_law_523 : decode code 523 = .ok (.invokevirtual 70, 3) := by decide +kernel
