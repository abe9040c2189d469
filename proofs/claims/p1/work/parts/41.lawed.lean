theorem el_312 : decode code 312 = .ok (.if_icmp .eq 5, 3) := by decide +kernel
theorem el_317 : decode code 317 = .ok (.iload 5, 2) := by decide +kernel
theorem el_319 : decode code 319 = .ok (.ifCond .ne 15, 3) := by decide +kernel
theorem el_334 : decode code 334 = .ok (.goto 584, 3) := by decide +kernel
theorem el_337 : decode code 337 = .ok (.aload_n 1, 1) := by decide +kernel
theorem el_338 : decode code 338 = .ok (.aload_n 0, 1) := by decide +kernel
theorem el_339 : decode code 339 = .ok (.iload 4, 2) := by decide +kernel
theorem el_341 : decode code 341 = .ok (.iconst 1, 1) := by decide +kernel
theorem el_342 : decode code 342 = .ok (.iadd, 1) := by decide +kernel
theorem el_343 : decode code 343 = .ok (.iaload, 1) := by decide +kernel
theorem el_344 : decode code 344 = .ok (.invokevirtual 55, 3) := by decide +kernel
theorem el_347 : decode code 347 = .ok (.aload_n 2, 1) := by decide +kernel
theorem el_348 : decode code 348 = .ok (.aload_n 0, 1) := by decide +kernel
theorem el_349 : decode code 349 = .ok (.iload 4, 2) := by decide +kernel
theorem el_351 : decode code 351 = .ok (.iconst 1, 1) := by decide +kernel
theorem el_352 : decode code 352 = .ok (.iadd, 1) := by decide +kernel
theorem el_353 : decode code 353 = .ok (.iaload, 1) := by decide +kernel
theorem el_354 : decode code 354 = .ok (.invokevirtual 58, 3) := by decide +kernel
theorem el_357 : decode code 357 = .ok (.if_icmp .eq 561, 3) := by decide +kernel
theorem el_362 : decode code 362 = .ok (.aload_n 1, 1) := by decide +kernel
theorem el_363 : decode code 363 = .ok (.invokevirtual 59, 3) := by decide +kernel
theorem el_366 : decode code 366 = .ok (.aload_n 2, 1) := by decide +kernel
theorem el_367 : decode code 367 = .ok (.invokevirtual 62, 3) := by decide +kernel
theorem el_370 : decode code 370 = .ok (.if_icmp .eq 548, 3) := by decide +kernel
theorem el_375 : decode code 375 = .ok (.aload_n 1, 1) := by decide +kernel
theorem el_376 : decode code 376 = .ok (.invokevirtual 63, 3) := by decide +kernel
theorem el_379 : decode code 379 = .ok (.aload_n 2, 1) := by decide +kernel
theorem el_380 : decode code 380 = .ok (.invokevirtual 66, 3) := by decide +kernel
theorem el_383 : decode code 383 = .ok (.if_icmp .eq 535, 3) := by decide +kernel
theorem el_388 : decode code 388 = .ok (.aload_n 1, 1) := by decide +kernel
theorem el_389 : decode code 389 = .ok (.invokevirtual 67, 3) := by decide +kernel
theorem el_392 : decode code 392 = .ok (.aload_n 2, 1) := by decide +kernel
theorem el_393 : decode code 393 = .ok (.invokevirtual 70, 3) := by decide +kernel
theorem el_396 : decode code 396 = .ok (.if_icmp .eq 522, 3) := by decide +kernel
theorem el_401 : decode code 401 = .ok (.aload_n 1, 1) := by decide +kernel
theorem el_402 : decode code 402 = .ok (.invokevirtual 71, 3) := by decide +kernel
theorem el_405 : decode code 405 = .ok (.aload_n 2, 1) := by decide +kernel
theorem el_406 : decode code 406 = .ok (.invokevirtual 74, 3) := by decide +kernel
theorem el_409 : decode code 409 = .ok (.if_icmp .eq 509, 3) := by decide +kernel
theorem el_414 : decode code 414 = .ok (.aload_n 1, 1) := by decide +kernel
theorem el_415 : decode code 415 = .ok (.aload_n 0, 1) := by decide +kernel
theorem el_416 : decode code 416 = .ok (.iload 4, 2) := by decide +kernel
theorem el_418 : decode code 418 = .ok (.iconst 1, 1) := by decide +kernel
theorem el_419 : decode code 419 = .ok (.iadd, 1) := by decide +kernel
theorem el_420 : decode code 420 = .ok (.iaload, 1) := by decide +kernel
theorem el_421 : decode code 421 = .ok (.aload_n 0, 1) := by decide +kernel
theorem el_422 : decode code 422 = .ok (.iload 4, 2) := by decide +kernel
theorem el_424 : decode code 424 = .ok (.iconst 2, 1) := by decide +kernel
theorem el_425 : decode code 425 = .ok (.iadd, 1) := by decide +kernel
theorem el_426 : decode code 426 = .ok (.iaload, 1) := by decide +kernel
theorem el_427 : decode code 427 = .ok (.invokevirtual 75, 3) := by decide +kernel
theorem el_430 : decode code 430 = .ok (.aload_n 2, 1) := by decide +kernel
theorem el_431 : decode code 431 = .ok (.aload_n 0, 1) := by decide +kernel
theorem el_432 : decode code 432 = .ok (.iload 4, 2) := by decide +kernel
theorem el_434 : decode code 434 = .ok (.iconst 1, 1) := by decide +kernel
theorem el_435 : decode code 435 = .ok (.iadd, 1) := by decide +kernel
theorem el_436 : decode code 436 = .ok (.iaload, 1) := by decide +kernel
theorem el_437 : decode code 437 = .ok (.aload_n 0, 1) := by decide +kernel
theorem el_438 : decode code 438 = .ok (.iload 4, 2) := by decide +kernel
theorem el_440 : decode code 440 = .ok (.iconst 2, 1) := by decide +kernel
theorem el_441 : decode code 441 = .ok (.iadd, 1) := by decide +kernel
theorem el_442 : decode code 442 = .ok (.iaload, 1) := by decide +kernel
theorem el_443 : decode code 443 = .ok (.invokevirtual 78, 3) := by decide +kernel
theorem el_446 : decode code 446 = .ok (.if_icmp .eq 472, 3) := by decide +kernel
theorem el_451 : decode code 451 = .ok (.aload_n 1, 1) := by decide +kernel
theorem el_452 : decode code 452 = .ok (.aload_n 0, 1) := by decide +kernel
theorem el_453 : decode code 453 = .ok (.iload 4, 2) := by decide +kernel
theorem el_455 : decode code 455 = .ok (.iconst 1, 1) := by decide +kernel
theorem el_456 : decode code 456 = .ok (.iadd, 1) := by decide +kernel
theorem el_457 : decode code 457 = .ok (.iaload, 1) := by decide +kernel
theorem el_458 : decode code 458 = .ok (.aload_n 0, 1) := by decide +kernel
theorem el_459 : decode code 459 = .ok (.iload 4, 2) := by decide +kernel
theorem el_461 : decode code 461 = .ok (.iconst 2, 1) := by decide +kernel
theorem el_462 : decode code 462 = .ok (.iadd, 1) := by decide +kernel
theorem el_463 : decode code 463 = .ok (.iaload, 1) := by decide +kernel
theorem el_464 : decode code 464 = .ok (.invokevirtual 79, 3) := by decide +kernel
theorem el_467 : decode code 467 = .ok (.aload_n 2, 1) := by decide +kernel
theorem el_468 : decode code 468 = .ok (.aload_n 0, 1) := by decide +kernel
theorem el_469 : decode code 469 = .ok (.iload 4, 2) := by decide +kernel
theorem el_471 : decode code 471 = .ok (.iconst 1, 1) := by decide +kernel
theorem el_472 : decode code 472 = .ok (.iadd, 1) := by decide +kernel
theorem el_473 : decode code 473 = .ok (.iaload, 1) := by decide +kernel
theorem el_474 : decode code 474 = .ok (.aload_n 0, 1) := by decide +kernel
theorem el_475 : decode code 475 = .ok (.iload 4, 2) := by decide +kernel
theorem el_477 : decode code 477 = .ok (.iconst 2, 1) := by decide +kernel
theorem el_478 : decode code 478 = .ok (.iadd, 1) := by decide +kernel
theorem el_479 : decode code 479 = .ok (.iaload, 1) := by decide +kernel
theorem el_480 : decode code 480 = .ok (.invokevirtual 82, 3) := by decide +kernel
theorem el_483 : decode code 483 = .ok (.if_icmp .eq 435, 3) := by decide +kernel
theorem el_488 : decode code 488 = .ok (.aload_n 1, 1) := by decide +kernel
theorem el_489 : decode code 489 = .ok (.aload_n 0, 1) := by decide +kernel
theorem el_490 : decode code 490 = .ok (.iload 4, 2) := by decide +kernel
theorem el_492 : decode code 492 = .ok (.iconst 1, 1) := by decide +kernel
theorem el_493 : decode code 493 = .ok (.iadd, 1) := by decide +kernel
theorem el_494 : decode code 494 = .ok (.iaload, 1) := by decide +kernel
theorem el_495 : decode code 495 = .ok (.aload_n 0, 1) := by decide +kernel
theorem el_496 : decode code 496 = .ok (.iload 4, 2) := by decide +kernel
theorem el_498 : decode code 498 = .ok (.iconst 2, 1) := by decide +kernel
theorem el_499 : decode code 499 = .ok (.iadd, 1) := by decide +kernel
theorem el_500 : decode code 500 = .ok (.iaload, 1) := by decide +kernel
theorem el_501 : decode code 501 = .ok (.invokevirtual 83, 3) := by decide +kernel
theorem el_504 : decode code 504 = .ok (.aload_n 2, 1) := by decide +kernel
theorem el_505 : decode code 505 = .ok (.aload_n 0, 1) := by decide +kernel
theorem el_506 : decode code 506 = .ok (.iload 4, 2) := by decide +kernel
theorem el_508 : decode code 508 = .ok (.iconst 1, 1) := by decide +kernel
theorem el_509 : decode code 509 = .ok (.iadd, 1) := by decide +kernel
theorem el_510 : decode code 510 = .ok (.iaload, 1) := by decide +kernel
theorem el_511 : decode code 511 = .ok (.aload_n 0, 1) := by decide +kernel
theorem el_512 : decode code 512 = .ok (.iload 4, 2) := by decide +kernel
theorem el_514 : decode code 514 = .ok (.iconst 2, 1) := by decide +kernel
