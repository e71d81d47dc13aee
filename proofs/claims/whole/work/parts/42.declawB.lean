theorem d_LW_law_351 : decode b_LW_law 351 = .ok (.iconst 2, 1) := by decide +kernel
theorem d_LW_law_352 : decode b_LW_law 352 = .ok (.iadd, 1) := by decide +kernel
theorem d_LW_law_353 : decode b_LW_law 353 = .ok (.iaload, 1) := by decide +kernel
theorem d_LW_law_354 : decode b_LW_law 354 = .ok (.aload_n 0, 1) := by decide +kernel
theorem d_LW_law_355 : decode b_LW_law 355 = .ok (.iload_n 3, 1) := by decide +kernel
theorem d_LW_law_356 : decode b_LW_law 356 = .ok (.iconst 3, 1) := by decide +kernel
theorem d_LW_law_357 : decode b_LW_law 357 = .ok (.iadd, 1) := by decide +kernel
theorem d_LW_law_358 : decode b_LW_law 358 = .ok (.iaload, 1) := by decide +kernel
theorem d_LW_law_359 : decode b_LW_law 359 = .ok (.aload_n 0, 1) := by decide +kernel
theorem d_LW_law_360 : decode b_LW_law 360 = .ok (.iload_n 3, 1) := by decide +kernel
theorem d_LW_law_361 : decode b_LW_law 361 = .ok (.iconst 4, 1) := by decide +kernel
theorem d_LW_law_362 : decode b_LW_law 362 = .ok (.iadd, 1) := by decide +kernel
theorem d_LW_law_363 : decode b_LW_law 363 = .ok (.iaload, 1) := by decide +kernel
theorem d_LW_law_364 : decode b_LW_law 364 = .ok (.invokevirtual 37, 3) := by decide +kernel
theorem d_LW_law_367 : decode b_LW_law 367 = .ok (.aload_n 2, 1) := by decide +kernel
theorem d_LW_law_368 : decode b_LW_law 368 = .ok (.aload_n 0, 1) := by decide +kernel
theorem d_LW_law_369 : decode b_LW_law 369 = .ok (.iload_n 3, 1) := by decide +kernel
theorem d_LW_law_370 : decode b_LW_law 370 = .ok (.iconst 1, 1) := by decide +kernel
theorem d_LW_law_371 : decode b_LW_law 371 = .ok (.iadd, 1) := by decide +kernel
theorem d_LW_law_372 : decode b_LW_law 372 = .ok (.iaload, 1) := by decide +kernel
theorem d_LW_law_373 : decode b_LW_law 373 = .ok (.aload_n 0, 1) := by decide +kernel
theorem d_LW_law_374 : decode b_LW_law 374 = .ok (.iload_n 3, 1) := by decide +kernel
theorem d_LW_law_375 : decode b_LW_law 375 = .ok (.iconst 2, 1) := by decide +kernel
theorem d_LW_law_376 : decode b_LW_law 376 = .ok (.iadd, 1) := by decide +kernel
theorem d_LW_law_377 : decode b_LW_law 377 = .ok (.iaload, 1) := by decide +kernel
theorem d_LW_law_378 : decode b_LW_law 378 = .ok (.aload_n 0, 1) := by decide +kernel
theorem d_LW_law_379 : decode b_LW_law 379 = .ok (.iload_n 3, 1) := by decide +kernel
theorem d_LW_law_380 : decode b_LW_law 380 = .ok (.iconst 3, 1) := by decide +kernel
theorem d_LW_law_381 : decode b_LW_law 381 = .ok (.iadd, 1) := by decide +kernel
theorem d_LW_law_382 : decode b_LW_law 382 = .ok (.iaload, 1) := by decide +kernel
theorem d_LW_law_383 : decode b_LW_law 383 = .ok (.aload_n 0, 1) := by decide +kernel
theorem d_LW_law_384 : decode b_LW_law 384 = .ok (.iload_n 3, 1) := by decide +kernel
theorem d_LW_law_385 : decode b_LW_law 385 = .ok (.iconst 4, 1) := by decide +kernel
theorem d_LW_law_386 : decode b_LW_law 386 = .ok (.iadd, 1) := by decide +kernel
theorem d_LW_law_387 : decode b_LW_law 387 = .ok (.iaload, 1) := by decide +kernel
theorem d_LW_law_388 : decode b_LW_law 388 = .ok (.invokevirtual 40, 3) := by decide +kernel
theorem d_LW_law_391 : decode b_LW_law 391 = .ok (.if_icmp .eq 257, 3) := by decide +kernel
theorem d_LW_law_394 : decode b_LW_law 394 = .ok (.iconst 0, 1) := by decide +kernel
theorem d_LW_law_395 : decode b_LW_law 395 = .ok (.ireturn, 1) := by decide +kernel
theorem d_LW_law_396 : decode b_LW_law 396 = .ok (.aload_n 1, 1) := by decide +kernel
theorem d_LW_law_397 : decode b_LW_law 397 = .ok (.aload_n 0, 1) := by decide +kernel
theorem d_LW_law_398 : decode b_LW_law 398 = .ok (.iload_n 3, 1) := by decide +kernel
theorem d_LW_law_399 : decode b_LW_law 399 = .ok (.iconst 1, 1) := by decide +kernel
theorem d_LW_law_400 : decode b_LW_law 400 = .ok (.iadd, 1) := by decide +kernel
theorem d_LW_law_401 : decode b_LW_law 401 = .ok (.iaload, 1) := by decide +kernel
theorem d_LW_law_402 : decode b_LW_law 402 = .ok (.aload_n 0, 1) := by decide +kernel
theorem d_LW_law_403 : decode b_LW_law 403 = .ok (.iload_n 3, 1) := by decide +kernel
theorem d_LW_law_404 : decode b_LW_law 404 = .ok (.iconst 2, 1) := by decide +kernel
theorem d_LW_law_405 : decode b_LW_law 405 = .ok (.iadd, 1) := by decide +kernel
theorem d_LW_law_406 : decode b_LW_law 406 = .ok (.iaload, 1) := by decide +kernel
theorem d_LW_law_407 : decode b_LW_law 407 = .ok (.invokevirtual 41, 3) := by decide +kernel
theorem d_LW_law_410 : decode b_LW_law 410 = .ok (.aload_n 2, 1) := by decide +kernel
theorem d_LW_law_411 : decode b_LW_law 411 = .ok (.aload_n 0, 1) := by decide +kernel
theorem d_LW_law_412 : decode b_LW_law 412 = .ok (.iload_n 3, 1) := by decide +kernel
theorem d_LW_law_413 : decode b_LW_law 413 = .ok (.iconst 1, 1) := by decide +kernel
theorem d_LW_law_414 : decode b_LW_law 414 = .ok (.iadd, 1) := by decide +kernel
theorem d_LW_law_415 : decode b_LW_law 415 = .ok (.iaload, 1) := by decide +kernel
theorem d_LW_law_416 : decode b_LW_law 416 = .ok (.aload_n 0, 1) := by decide +kernel
theorem d_LW_law_417 : decode b_LW_law 417 = .ok (.iload_n 3, 1) := by decide +kernel
theorem d_LW_law_418 : decode b_LW_law 418 = .ok (.iconst 2, 1) := by decide +kernel
theorem d_LW_law_419 : decode b_LW_law 419 = .ok (.iadd, 1) := by decide +kernel
theorem d_LW_law_420 : decode b_LW_law 420 = .ok (.iaload, 1) := by decide +kernel
theorem d_LW_law_421 : decode b_LW_law 421 = .ok (.invokevirtual 45, 3) := by decide +kernel
theorem d_LW_law_424 : decode b_LW_law 424 = .ok (.if_icmp .eq 224, 3) := by decide +kernel
theorem d_LW_law_427 : decode b_LW_law 427 = .ok (.iconst 0, 1) := by decide +kernel
theorem d_LW_law_428 : decode b_LW_law 428 = .ok (.ireturn, 1) := by decide +kernel
theorem d_LW_law_429 : decode b_LW_law 429 = .ok (.aload_n 1, 1) := by decide +kernel
theorem d_LW_law_430 : decode b_LW_law 430 = .ok (.invokevirtual 46, 3) := by decide +kernel
theorem d_LW_law_433 : decode b_LW_law 433 = .ok (.aload_n 2, 1) := by decide +kernel
theorem d_LW_law_434 : decode b_LW_law 434 = .ok (.invokevirtual 50, 3) := by decide +kernel
theorem d_LW_law_437 : decode b_LW_law 437 = .ok (.if_icmp .eq 211, 3) := by decide +kernel
theorem d_LW_law_440 : decode b_LW_law 440 = .ok (.iconst 0, 1) := by decide +kernel
theorem d_LW_law_441 : decode b_LW_law 441 = .ok (.ireturn, 1) := by decide +kernel
theorem d_LW_law_442 : decode b_LW_law 442 = .ok (.aload_n 1, 1) := by decide +kernel
theorem d_LW_law_443 : decode b_LW_law 443 = .ok (.invokevirtual 51, 3) := by decide +kernel
theorem d_LW_law_446 : decode b_LW_law 446 = .ok (.aload_n 2, 1) := by decide +kernel
theorem d_LW_law_447 : decode b_LW_law 447 = .ok (.invokevirtual 54, 3) := by decide +kernel
theorem d_LW_law_450 : decode b_LW_law 450 = .ok (.if_icmp .eq 198, 3) := by decide +kernel
theorem d_LW_law_453 : decode b_LW_law 453 = .ok (.iconst 0, 1) := by decide +kernel
theorem d_LW_law_454 : decode b_LW_law 454 = .ok (.ireturn, 1) := by decide +kernel
theorem d_LW_law_455 : decode b_LW_law 455 = .ok (.aload_n 1, 1) := by decide +kernel
theorem d_LW_law_456 : decode b_LW_law 456 = .ok (.invokevirtual 55, 3) := by decide +kernel
theorem d_LW_law_459 : decode b_LW_law 459 = .ok (.aload_n 2, 1) := by decide +kernel
theorem d_LW_law_460 : decode b_LW_law 460 = .ok (.invokevirtual 58, 3) := by decide +kernel
theorem d_LW_law_463 : decode b_LW_law 463 = .ok (.if_icmp .eq 185, 3) := by decide +kernel
theorem d_LW_law_466 : decode b_LW_law 466 = .ok (.iconst 0, 1) := by decide +kernel
theorem d_LW_law_467 : decode b_LW_law 467 = .ok (.ireturn, 1) := by decide +kernel
theorem d_LW_law_468 : decode b_LW_law 468 = .ok (.aload_n 1, 1) := by decide +kernel
theorem d_LW_law_469 : decode b_LW_law 469 = .ok (.invokevirtual 59, 3) := by decide +kernel
theorem d_LW_law_472 : decode b_LW_law 472 = .ok (.aload_n 2, 1) := by decide +kernel
theorem d_LW_law_473 : decode b_LW_law 473 = .ok (.invokevirtual 63, 3) := by decide +kernel
theorem d_LW_law_476 : decode b_LW_law 476 = .ok (.if_icmp .eq 172, 3) := by decide +kernel
theorem d_LW_law_479 : decode b_LW_law 479 = .ok (.iconst 0, 1) := by decide +kernel
theorem d_LW_law_480 : decode b_LW_law 480 = .ok (.ireturn, 1) := by decide +kernel
theorem d_LW_law_481 : decode b_LW_law 481 = .ok (.aload_n 1, 1) := by decide +kernel
theorem d_LW_law_482 : decode b_LW_law 482 = .ok (.aload_n 0, 1) := by decide +kernel
theorem d_LW_law_483 : decode b_LW_law 483 = .ok (.iload_n 3, 1) := by decide +kernel
theorem d_LW_law_484 : decode b_LW_law 484 = .ok (.iconst 1, 1) := by decide +kernel
theorem d_LW_law_485 : decode b_LW_law 485 = .ok (.iadd, 1) := by decide +kernel
theorem d_LW_law_486 : decode b_LW_law 486 = .ok (.iaload, 1) := by decide +kernel
theorem d_LW_law_487 : decode b_LW_law 487 = .ok (.invokevirtual 64, 3) := by decide +kernel
theorem d_LW_law_490 : decode b_LW_law 490 = .ok (.aload_n 2, 1) := by decide +kernel
theorem d_LW_law_491 : decode b_LW_law 491 = .ok (.aload_n 0, 1) := by decide +kernel
theorem d_LW_law_492 : decode b_LW_law 492 = .ok (.iload_n 3, 1) := by decide +kernel
theorem d_LW_law_493 : decode b_LW_law 493 = .ok (.iconst 1, 1) := by decide +kernel
theorem d_LW_law_494 : decode b_LW_law 494 = .ok (.iadd, 1) := by decide +kernel
theorem d_LW_law_495 : decode b_LW_law 495 = .ok (.iaload, 1) := by decide +kernel
theorem d_LW_law_496 : decode b_LW_law 496 = .ok (.invokevirtual 67, 3) := by decide +kernel
theorem d_LW_law_499 : decode b_LW_law 499 = .ok (.if_icmp .eq 149, 3) := by decide +kernel
theorem d_LW_law_502 : decode b_LW_law 502 = .ok (.iconst 0, 1) := by decide +kernel
theorem d_LW_law_503 : decode b_LW_law 503 = .ok (.ireturn, 1) := by decide +kernel
theorem d_LW_law_504 : decode b_LW_law 504 = .ok (.aload_n 1, 1) := by decide +kernel
theorem d_LW_law_505 : decode b_LW_law 505 = .ok (.invokevirtual 68, 3) := by decide +kernel
theorem d_LW_law_508 : decode b_LW_law 508 = .ok (.aload_n 2, 1) := by decide +kernel
theorem d_LW_law_509 : decode b_LW_law 509 = .ok (.invokevirtual 71, 3) := by decide +kernel
theorem d_LW_law_512 : decode b_LW_law 512 = .ok (.if_icmp .eq 136, 3) := by decide +kernel
theorem d_LW_law_515 : decode b_LW_law 515 = .ok (.iconst 0, 1) := by decide +kernel
theorem d_LW_law_516 : decode b_LW_law 516 = .ok (.ireturn, 1) := by decide +kernel
theorem d_LW_law_517 : decode b_LW_law 517 = .ok (.aload_n 1, 1) := by decide +kernel
theorem d_LW_law_518 : decode b_LW_law 518 = .ok (.aload_n 0, 1) := by decide +kernel
theorem d_LW_law_519 : decode b_LW_law 519 = .ok (.iload_n 3, 1) := by decide +kernel
theorem d_LW_law_520 : decode b_LW_law 520 = .ok (.iconst 1, 1) := by decide +kernel
theorem d_LW_law_521 : decode b_LW_law 521 = .ok (.iadd, 1) := by decide +kernel
theorem d_LW_law_522 : decode b_LW_law 522 = .ok (.iaload, 1) := by decide +kernel
theorem d_LW_law_523 : decode b_LW_law 523 = .ok (.invokevirtual 72, 3) := by decide +kernel
theorem d_LW_law_526 : decode b_LW_law 526 = .ok (.aload_n 2, 1) := by decide +kernel
theorem d_LW_law_527 : decode b_LW_law 527 = .ok (.aload_n 0, 1) := by decide +kernel
theorem d_LW_law_528 : decode b_LW_law 528 = .ok (.iload_n 3, 1) := by decide +kernel
theorem d_LW_law_529 : decode b_LW_law 529 = .ok (.iconst 1, 1) := by decide +kernel
theorem d_LW_law_530 : decode b_LW_law 530 = .ok (.iadd, 1) := by decide +kernel
theorem d_LW_law_531 : decode b_LW_law 531 = .ok (.iaload, 1) := by decide +kernel
theorem d_LW_law_532 : decode b_LW_law 532 = .ok (.invokevirtual 75, 3) := by decide +kernel
theorem d_LW_law_535 : decode b_LW_law 535 = .ok (.if_icmp .eq 113, 3) := by decide +kernel
theorem d_LW_law_538 : decode b_LW_law 538 = .ok (.iconst 0, 1) := by decide +kernel
theorem d_LW_law_539 : decode b_LW_law 539 = .ok (.ireturn, 1) := by decide +kernel
theorem d_LW_law_540 : decode b_LW_law 540 = .ok (.aload_n 1, 1) := by decide +kernel
theorem d_LW_law_541 : decode b_LW_law 541 = .ok (.aload_n 0, 1) := by decide +kernel
theorem d_LW_law_542 : decode b_LW_law 542 = .ok (.iload_n 3, 1) := by decide +kernel
theorem d_LW_law_543 : decode b_LW_law 543 = .ok (.iconst 1, 1) := by decide +kernel
theorem d_LW_law_544 : decode b_LW_law 544 = .ok (.iadd, 1) := by decide +kernel
theorem d_LW_law_545 : decode b_LW_law 545 = .ok (.iaload, 1) := by decide +kernel
theorem d_LW_law_546 : decode b_LW_law 546 = .ok (.aload_n 0, 1) := by decide +kernel
theorem d_LW_law_547 : decode b_LW_law 547 = .ok (.iload_n 3, 1) := by decide +kernel
theorem d_LW_law_548 : decode b_LW_law 548 = .ok (.iconst 2, 1) := by decide +kernel
theorem d_LW_law_549 : decode b_LW_law 549 = .ok (.iadd, 1) := by decide +kernel
theorem d_LW_law_550 : decode b_LW_law 550 = .ok (.iaload, 1) := by decide +kernel
theorem d_LW_law_551 : decode b_LW_law 551 = .ok (.aload_n 0, 1) := by decide +kernel
theorem d_LW_law_552 : decode b_LW_law 552 = .ok (.iload_n 3, 1) := by decide +kernel
theorem d_LW_law_553 : decode b_LW_law 553 = .ok (.iconst 3, 1) := by decide +kernel
theorem d_LW_law_554 : decode b_LW_law 554 = .ok (.iadd, 1) := by decide +kernel
theorem d_LW_law_555 : decode b_LW_law 555 = .ok (.iaload, 1) := by decide +kernel
theorem d_LW_law_556 : decode b_LW_law 556 = .ok (.invokevirtual 76, 3) := by decide +kernel
theorem d_LW_law_559 : decode b_LW_law 559 = .ok (.aload_n 2, 1) := by decide +kernel
theorem d_LW_law_560 : decode b_LW_law 560 = .ok (.aload_n 0, 1) := by decide +kernel
theorem d_LW_law_561 : decode b_LW_law 561 = .ok (.iload_n 3, 1) := by decide +kernel
theorem d_LW_law_562 : decode b_LW_law 562 = .ok (.iconst 1, 1) := by decide +kernel
theorem d_LW_law_563 : decode b_LW_law 563 = .ok (.iadd, 1) := by decide +kernel
theorem d_LW_law_564 : decode b_LW_law 564 = .ok (.iaload, 1) := by decide +kernel
theorem d_LW_law_565 : decode b_LW_law 565 = .ok (.aload_n 0, 1) := by decide +kernel
theorem d_LW_law_566 : decode b_LW_law 566 = .ok (.iload_n 3, 1) := by decide +kernel
theorem d_LW_law_567 : decode b_LW_law 567 = .ok (.iconst 2, 1) := by decide +kernel
theorem d_LW_law_568 : decode b_LW_law 568 = .ok (.iadd, 1) := by decide +kernel
theorem d_LW_law_569 : decode b_LW_law 569 = .ok (.iaload, 1) := by decide +kernel
theorem d_LW_law_570 : decode b_LW_law 570 = .ok (.aload_n 0, 1) := by decide +kernel
theorem d_LW_law_571 : decode b_LW_law 571 = .ok (.iload_n 3, 1) := by decide +kernel
theorem d_LW_law_572 : decode b_LW_law 572 = .ok (.iconst 3, 1) := by decide +kernel
theorem d_LW_law_573 : decode b_LW_law 573 = .ok (.iadd, 1) := by decide +kernel
theorem d_LW_law_574 : decode b_LW_law 574 = .ok (.iaload, 1) := by decide +kernel
theorem d_LW_law_575 : decode b_LW_law 575 = .ok (.invokevirtual 79, 3) := by decide +kernel
theorem d_LW_law_578 : decode b_LW_law 578 = .ok (.if_icmp .eq 70, 3) := by decide +kernel
theorem d_LW_law_581 : decode b_LW_law 581 = .ok (.iconst 0, 1) := by decide +kernel
theorem d_LW_law_582 : decode b_LW_law 582 = .ok (.ireturn, 1) := by decide +kernel
theorem d_LW_law_583 : decode b_LW_law 583 = .ok (.aload_n 1, 1) := by decide +kernel
theorem d_LW_law_584 : decode b_LW_law 584 = .ok (.invokevirtual 80, 3) := by decide +kernel
theorem d_LW_law_587 : decode b_LW_law 587 = .ok (.aload_n 2, 1) := by decide +kernel
theorem d_LW_law_588 : decode b_LW_law 588 = .ok (.invokevirtual 83, 3) := by decide +kernel
theorem d_LW_law_591 : decode b_LW_law 591 = .ok (.if_icmp .eq 57, 3) := by decide +kernel
theorem d_LW_law_594 : decode b_LW_law 594 = .ok (.iconst 0, 1) := by decide +kernel
theorem d_LW_law_595 : decode b_LW_law 595 = .ok (.ireturn, 1) := by decide +kernel
theorem d_LW_law_596 : decode b_LW_law 596 = .ok (.aload_n 1, 1) := by decide +kernel
theorem d_LW_law_597 : decode b_LW_law 597 = .ok (.invokevirtual 84, 3) := by decide +kernel
theorem d_LW_law_600 : decode b_LW_law 600 = .ok (.aload_n 2, 1) := by decide +kernel
theorem d_LW_law_601 : decode b_LW_law 601 = .ok (.invokevirtual 87, 3) := by decide +kernel
theorem d_LW_law_604 : decode b_LW_law 604 = .ok (.if_icmp .eq 44, 3) := by decide +kernel
theorem d_LW_law_607 : decode b_LW_law 607 = .ok (.iconst 0, 1) := by decide +kernel
theorem d_LW_law_608 : decode b_LW_law 608 = .ok (.ireturn, 1) := by decide +kernel
theorem d_LW_law_609 : decode b_LW_law 609 = .ok (.aload_n 1, 1) := by decide +kernel
theorem d_LW_law_610 : decode b_LW_law 610 = .ok (.invokevirtual 88, 3) := by decide +kernel
theorem d_LW_law_613 : decode b_LW_law 613 = .ok (.aload_n 2, 1) := by decide +kernel
theorem d_LW_law_614 : decode b_LW_law 614 = .ok (.invokevirtual 91, 3) := by decide +kernel
theorem d_LW_law_617 : decode b_LW_law 617 = .ok (.if_icmp .eq 31, 3) := by decide +kernel
theorem d_LW_law_620 : decode b_LW_law 620 = .ok (.iconst 0, 1) := by decide +kernel
theorem d_LW_law_621 : decode b_LW_law 621 = .ok (.ireturn, 1) := by decide +kernel
theorem d_LW_law_622 : decode b_LW_law 622 = .ok (.aload_n 1, 1) := by decide +kernel
theorem d_LW_law_623 : decode b_LW_law 623 = .ok (.invokevirtual 92, 3) := by decide +kernel
theorem d_LW_law_626 : decode b_LW_law 626 = .ok (.aload_n 2, 1) := by decide +kernel
theorem d_LW_law_627 : decode b_LW_law 627 = .ok (.invokevirtual 95, 3) := by decide +kernel
theorem d_LW_law_630 : decode b_LW_law 630 = .ok (.if_icmp .eq 18, 3) := by decide +kernel
theorem d_LW_law_633 : decode b_LW_law 633 = .ok (.iconst 0, 1) := by decide +kernel
theorem d_LW_law_634 : decode b_LW_law 634 = .ok (.ireturn, 1) := by decide +kernel
theorem d_LW_law_635 : decode b_LW_law 635 = .ok (.aload_n 1, 1) := by decide +kernel
theorem d_LW_law_636 : decode b_LW_law 636 = .ok (.invokevirtual 96, 3) := by decide +kernel
theorem d_LW_law_639 : decode b_LW_law 639 = .ok (.aload_n 2, 1) := by decide +kernel
theorem d_LW_law_640 : decode b_LW_law 640 = .ok (.invokevirtual 99, 3) := by decide +kernel
theorem d_LW_law_643 : decode b_LW_law 643 = .ok (.if_icmp .eq 5, 3) := by decide +kernel
theorem d_LW_law_646 : decode b_LW_law 646 = .ok (.iconst 0, 1) := by decide +kernel
theorem d_LW_law_647 : decode b_LW_law 647 = .ok (.ireturn, 1) := by decide +kernel
theorem d_LW_law_648 : decode b_LW_law 648 = .ok (.iinc 3 5, 3) := by decide +kernel
theorem d_LW_law_651 : decode b_LW_law 651 = .ok (.goto (-633), 3) := by decide +kernel
theorem d_LW_law_654 : decode b_LW_law 654 = .ok (.iconst 1, 1) := by decide +kernel
theorem d_LW_law_655 : decode b_LW_law 655 = .ok (.ireturn, 1) := by decide +kernel
