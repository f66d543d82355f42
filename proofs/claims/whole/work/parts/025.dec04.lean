theorem dX8_fly_300 : decode cX8_fly 300 = .ok (.sipush 400, 3) := by decide +kernel
theorem dX8_fly_303 : decode cX8_fly 303 = .ok (.iload 8, 2) := by decide +kernel
theorem dX8_fly_305 : decode cX8_fly 305 = .ok (.imul, 1) := by decide +kernel
theorem dX8_fly_306 : decode cX8_fly 306 = .ok (.if_icmp .lt 7, 3) := by decide +kernel
theorem dX8_fly_309 : decode cX8_fly 309 = .ok (.iconst 1, 1) := by decide +kernel
theorem dX8_fly_310 : decode cX8_fly 310 = .ok (.goto 4, 3) := by decide +kernel
theorem dX8_fly_313 : decode cX8_fly 313 = .ok (.iconst 0, 1) := by decide +kernel
theorem dX8_fly_314 : decode cX8_fly 314 = .ok (.istore 10, 2) := by decide +kernel
theorem dX8_fly_316 : decode cX8_fly 316 = .ok (.iload 10, 2) := by decide +kernel
theorem dX8_fly_318 : decode cX8_fly 318 = .ok (.ifCond .eq 20, 3) := by decide +kernel
theorem dX8_fly_321 : decode cX8_fly 321 = .ok (.iload 8, 2) := by decide +kernel
theorem dX8_fly_323 : decode cX8_fly 323 = .ok (.aload_n 0, 1) := by decide +kernel
theorem dX8_fly_324 : decode cX8_fly 324 = .ok (.getfield 7, 3) := by decide +kernel
theorem dX8_fly_327 : decode cX8_fly 327 = .ok (.sipush 133, 3) := by decide +kernel
theorem dX8_fly_330 : decode cX8_fly 330 = .ok (.iaload, 1) := by decide +kernel
theorem dX8_fly_331 : decode cX8_fly 331 = .ok (.if_icmp .ne 7, 3) := by decide +kernel
theorem dX8_fly_334 : decode cX8_fly 334 = .ok (.iconst 1, 1) := by decide +kernel
theorem dX8_fly_335 : decode cX8_fly 335 = .ok (.goto 4, 3) := by decide +kernel
theorem dX8_fly_338 : decode cX8_fly 338 = .ok (.iconst 0, 1) := by decide +kernel
theorem dX8_fly_339 : decode cX8_fly 339 = .ok (.istore 11, 2) := by decide +kernel
theorem dX8_fly_341 : decode cX8_fly 341 = .ok (.iload 10, 2) := by decide +kernel
theorem dX8_fly_343 : decode cX8_fly 343 = .ok (.ifCond .eq 25, 3) := by decide +kernel
theorem dX8_fly_346 : decode cX8_fly 346 = .ok (.iload 11, 2) := by decide +kernel
theorem dX8_fly_348 : decode cX8_fly 348 = .ok (.ifCond .ne 20, 3) := by decide +kernel
theorem dX8_fly_351 : decode cX8_fly 351 = .ok (.aload_n 0, 1) := by decide +kernel
theorem dX8_fly_352 : decode cX8_fly 352 = .ok (.getfield 7, 3) := by decide +kernel
theorem dX8_fly_355 : decode cX8_fly 355 = .ok (.iload_n 2, 1) := by decide +kernel
theorem dX8_fly_356 : decode cX8_fly 356 = .ok (.bipush 9, 2) := by decide +kernel
theorem dX8_fly_358 : decode cX8_fly 358 = .ok (.iadd, 1) := by decide +kernel
theorem dX8_fly_359 : decode cX8_fly 359 = .ok (.iaload, 1) := by decide +kernel
theorem dX8_fly_360 : decode cX8_fly 360 = .ok (.iconst 1, 1) := by decide +kernel
theorem dX8_fly_361 : decode cX8_fly 361 = .ok (.if_icmp .ne 7, 3) := by decide +kernel
theorem dX8_fly_364 : decode cX8_fly 364 = .ok (.iconst 1, 1) := by decide +kernel
theorem dX8_fly_365 : decode cX8_fly 365 = .ok (.goto 4, 3) := by decide +kernel
theorem dX8_fly_368 : decode cX8_fly 368 = .ok (.iconst 0, 1) := by decide +kernel
theorem dX8_fly_369 : decode cX8_fly 369 = .ok (.istore 12, 2) := by decide +kernel
theorem dX8_fly_371 : decode cX8_fly 371 = .ok (.iload 11, 2) := by decide +kernel
theorem dX8_fly_373 : decode cX8_fly 373 = .ok (.ifCond .ne 8, 3) := by decide +kernel
theorem dX8_fly_376 : decode cX8_fly 376 = .ok (.iload 12, 2) := by decide +kernel
theorem dX8_fly_378 : decode cX8_fly 378 = .ok (.ifCond .eq 12, 3) := by decide +kernel
theorem dX8_fly_381 : decode cX8_fly 381 = .ok (.sipush 400, 3) := by decide +kernel
theorem dX8_fly_384 : decode cX8_fly 384 = .ok (.iload 8, 2) := by decide +kernel
theorem dX8_fly_386 : decode cX8_fly 386 = .ok (.imul, 1) := by decide +kernel
theorem dX8_fly_387 : decode cX8_fly 387 = .ok (.goto 5, 3) := by decide +kernel
theorem dX8_fly_390 : decode cX8_fly 390 = .ok (.iload 9, 2) := by decide +kernel
theorem dX8_fly_392 : decode cX8_fly 392 = .ok (.istore 9, 2) := by decide +kernel
theorem dX8_fly_394 : decode cX8_fly 394 = .ok (.aload_n 0, 1) := by decide +kernel
theorem dX8_fly_395 : decode cX8_fly 395 = .ok (.getfield 7, 3) := by decide +kernel
theorem dX8_fly_398 : decode cX8_fly 398 = .ok (.iload_n 2, 1) := by decide +kernel
theorem dX8_fly_399 : decode cX8_fly 399 = .ok (.bipush 7, 2) := by decide +kernel
theorem dX8_fly_401 : decode cX8_fly 401 = .ok (.iadd, 1) := by decide +kernel
theorem dX8_fly_402 : decode cX8_fly 402 = .ok (.iload 9, 2) := by decide +kernel
theorem dX8_fly_404 : decode cX8_fly 404 = .ok (.iastore, 1) := by decide +kernel
theorem dX8_fly_405 : decode cX8_fly 405 = .ok (.aload_n 0, 1) := by decide +kernel
theorem dX8_fly_406 : decode cX8_fly 406 = .ok (.getfield 7, 3) := by decide +kernel
theorem dX8_fly_409 : decode cX8_fly 409 = .ok (.iload_n 2, 1) := by decide +kernel
theorem dX8_fly_410 : decode cX8_fly 410 = .ok (.bipush 8, 2) := by decide +kernel
theorem dX8_fly_412 : decode cX8_fly 412 = .ok (.iadd, 1) := by decide +kernel
theorem dX8_fly_413 : decode cX8_fly 413 = .ok (.iload 9, 2) := by decide +kernel
theorem dX8_fly_415 : decode cX8_fly 415 = .ok (.iload_n 3, 1) := by decide +kernel
theorem dX8_fly_416 : decode cX8_fly 416 = .ok (.isub, 1) := by decide +kernel
theorem dX8_fly_417 : decode cX8_fly 417 = .ok (.iastore, 1) := by decide +kernel
theorem dX8_fly_418 : decode cX8_fly 418 = .ok (.aload_n 0, 1) := by decide +kernel
theorem dX8_fly_419 : decode cX8_fly 419 = .ok (.getfield 7, 3) := by decide +kernel
theorem dX8_fly_422 : decode cX8_fly 422 = .ok (.sipush 144, 3) := by decide +kernel
theorem dX8_fly_425 : decode cX8_fly 425 = .ok (.dup2, 1) := by decide +kernel
theorem dX8_fly_426 : decode cX8_fly 426 = .ok (.iaload, 1) := by decide +kernel
theorem dX8_fly_427 : decode cX8_fly 427 = .ok (.iload 9, 2) := by decide +kernel
theorem dX8_fly_429 : decode cX8_fly 429 = .ok (.iload_n 3, 1) := by decide +kernel
theorem dX8_fly_430 : decode cX8_fly 430 = .ok (.isub, 1) := by decide +kernel
theorem dX8_fly_431 : decode cX8_fly 431 = .ok (.iadd, 1) := by decide +kernel
theorem dX8_fly_432 : decode cX8_fly 432 = .ok (.iastore, 1) := by decide +kernel
theorem dX8_fly_433 : decode cX8_fly 433 = .ok (.iload 12, 2) := by decide +kernel
theorem dX8_fly_435 : decode cX8_fly 435 = .ok (.ifCond .eq 99, 3) := by decide +kernel
theorem dX8_fly_438 : decode cX8_fly 438 = .ok (.aload_n 0, 1) := by decide +kernel
theorem dX8_fly_439 : decode cX8_fly 439 = .ok (.getfield 7, 3) := by decide +kernel
theorem dX8_fly_442 : decode cX8_fly 442 = .ok (.iload_n 2, 1) := by decide +kernel
theorem dX8_fly_443 : decode cX8_fly 443 = .ok (.bipush 6, 2) := by decide +kernel
theorem dX8_fly_445 : decode cX8_fly 445 = .ok (.iadd, 1) := by decide +kernel
theorem dX8_fly_446 : decode cX8_fly 446 = .ok (.iconst 2, 1) := by decide +kernel
theorem dX8_fly_447 : decode cX8_fly 447 = .ok (.iastore, 1) := by decide +kernel
theorem dX8_fly_448 : decode cX8_fly 448 = .ok (.aload_n 0, 1) := by decide +kernel
theorem dX8_fly_449 : decode cX8_fly 449 = .ok (.getfield 7, 3) := by decide +kernel
theorem dX8_fly_452 : decode cX8_fly 452 = .ok (.iload_n 2, 1) := by decide +kernel
theorem dX8_fly_453 : decode cX8_fly 453 = .ok (.bipush 12, 2) := by decide +kernel
theorem dX8_fly_455 : decode cX8_fly 455 = .ok (.iadd, 1) := by decide +kernel
theorem dX8_fly_456 : decode cX8_fly 456 = .ok (.bipush 12, 2) := by decide +kernel
theorem dX8_fly_458 : decode cX8_fly 458 = .ok (.iastore, 1) := by decide +kernel
theorem dX8_fly_459 : decode cX8_fly 459 = .ok (.aload_n 0, 1) := by decide +kernel
theorem dX8_fly_460 : decode cX8_fly 460 = .ok (.getfield 7, 3) := by decide +kernel
theorem dX8_fly_463 : decode cX8_fly 463 = .ok (.iload_n 2, 1) := by decide +kernel
theorem dX8_fly_464 : decode cX8_fly 464 = .ok (.bipush 9, 2) := by decide +kernel
theorem dX8_fly_466 : decode cX8_fly 466 = .ok (.iadd, 1) := by decide +kernel
theorem dX8_fly_467 : decode cX8_fly 467 = .ok (.iconst 0, 1) := by decide +kernel
theorem dX8_fly_468 : decode cX8_fly 468 = .ok (.iastore, 1) := by decide +kernel
theorem dX8_fly_469 : decode cX8_fly 469 = .ok (.aload_n 0, 1) := by decide +kernel
theorem dX8_fly_470 : decode cX8_fly 470 = .ok (.getfield 7, 3) := by decide +kernel
theorem dX8_fly_473 : decode cX8_fly 473 = .ok (.iload_n 2, 1) := by decide +kernel
theorem dX8_fly_474 : decode cX8_fly 474 = .ok (.iconst 4, 1) := by decide +kernel
theorem dX8_fly_475 : decode cX8_fly 475 = .ok (.iadd, 1) := by decide +kernel
theorem dX8_fly_476 : decode cX8_fly 476 = .ok (.iconst 0, 1) := by decide +kernel
theorem dX8_fly_477 : decode cX8_fly 477 = .ok (.iastore, 1) := by decide +kernel
theorem dX8_fly_478 : decode cX8_fly 478 = .ok (.aload_n 0, 1) := by decide +kernel
theorem dX8_fly_479 : decode cX8_fly 479 = .ok (.getfield 7, 3) := by decide +kernel
theorem dX8_fly_482 : decode cX8_fly 482 = .ok (.iload_n 2, 1) := by decide +kernel
theorem dX8_fly_483 : decode cX8_fly 483 = .ok (.iconst 3, 1) := by decide +kernel
theorem dX8_fly_484 : decode cX8_fly 484 = .ok (.iadd, 1) := by decide +kernel
theorem dX8_fly_485 : decode cX8_fly 485 = .ok (.aload_n 0, 1) := by decide +kernel
theorem dX8_fly_486 : decode cX8_fly 486 = .ok (.getfield 7, 3) := by decide +kernel
theorem dX8_fly_489 : decode cX8_fly 489 = .ok (.iload_n 2, 1) := by decide +kernel
theorem dX8_fly_490 : decode cX8_fly 490 = .ok (.iconst 3, 1) := by decide +kernel
theorem dX8_fly_491 : decode cX8_fly 491 = .ok (.iadd, 1) := by decide +kernel
theorem dX8_fly_492 : decode cX8_fly 492 = .ok (.iaload, 1) := by decide +kernel
theorem dX8_fly_493 : decode cX8_fly 493 = .ok (.sipush 300, 3) := by decide +kernel
theorem dX8_fly_496 : decode cX8_fly 496 = .ok (.iadd, 1) := by decide +kernel
theorem dX8_fly_497 : decode cX8_fly 497 = .ok (.sipush 999, 3) := by decide +kernel
theorem dX8_fly_500 : decode cX8_fly 500 = .ok (.if_icmp .le 9, 3) := by decide +kernel
theorem dX8_fly_503 : decode cX8_fly 503 = .ok (.sipush 999, 3) := by decide +kernel
theorem dX8_fly_506 : decode cX8_fly 506 = .ok (.goto 15, 3) := by decide +kernel
theorem dX8_fly_509 : decode cX8_fly 509 = .ok (.aload_n 0, 1) := by decide +kernel
theorem dX8_fly_510 : decode cX8_fly 510 = .ok (.getfield 7, 3) := by decide +kernel
theorem dX8_fly_513 : decode cX8_fly 513 = .ok (.iload_n 2, 1) := by decide +kernel
theorem dX8_fly_514 : decode cX8_fly 514 = .ok (.iconst 3, 1) := by decide +kernel
theorem dX8_fly_515 : decode cX8_fly 515 = .ok (.iadd, 1) := by decide +kernel
theorem dX8_fly_516 : decode cX8_fly 516 = .ok (.iaload, 1) := by decide +kernel
theorem dX8_fly_517 : decode cX8_fly 517 = .ok (.sipush 300, 3) := by decide +kernel
theorem dX8_fly_520 : decode cX8_fly 520 = .ok (.iadd, 1) := by decide +kernel
theorem dX8_fly_521 : decode cX8_fly 521 = .ok (.iastore, 1) := by decide +kernel
theorem dX8_fly_522 : decode cX8_fly 522 = .ok (.aload_n 0, 1) := by decide +kernel
theorem dX8_fly_523 : decode cX8_fly 523 = .ok (.getfield 7, 3) := by decide +kernel
theorem dX8_fly_526 : decode cX8_fly 526 = .ok (.sipush 147, 3) := by decide +kernel
theorem dX8_fly_529 : decode cX8_fly 529 = .ok (.dup2, 1) := by decide +kernel
theorem dX8_fly_530 : decode cX8_fly 530 = .ok (.iaload, 1) := by decide +kernel
theorem dX8_fly_531 : decode cX8_fly 531 = .ok (.iconst 1, 1) := by decide +kernel
theorem dX8_fly_532 : decode cX8_fly 532 = .ok (.iadd, 1) := by decide +kernel
theorem dX8_fly_533 : decode cX8_fly 533 = .ok (.iastore, 1) := by decide +kernel
theorem dX8_fly_534 : decode cX8_fly 534 = .ok (.iload 11, 2) := by decide +kernel
theorem dX8_fly_536 : decode cX8_fly 536 = .ok (.ifCond .eq 101, 3) := by decide +kernel
theorem dX8_fly_539 : decode cX8_fly 539 = .ok (.aload_n 0, 1) := by decide +kernel
theorem dX8_fly_540 : decode cX8_fly 540 = .ok (.getfield 7, 3) := by decide +kernel
theorem dX8_fly_543 : decode cX8_fly 543 = .ok (.iload_n 2, 1) := by decide +kernel
theorem dX8_fly_544 : decode cX8_fly 544 = .ok (.bipush 6, 2) := by decide +kernel
theorem dX8_fly_546 : decode cX8_fly 546 = .ok (.iadd, 1) := by decide +kernel
theorem dX8_fly_547 : decode cX8_fly 547 = .ok (.iconst 3, 1) := by decide +kernel
theorem dX8_fly_548 : decode cX8_fly 548 = .ok (.iastore, 1) := by decide +kernel
theorem dX8_fly_549 : decode cX8_fly 549 = .ok (.aload_n 0, 1) := by decide +kernel
theorem dX8_fly_550 : decode cX8_fly 550 = .ok (.getfield 7, 3) := by decide +kernel
theorem dX8_fly_553 : decode cX8_fly 553 = .ok (.iload_n 2, 1) := by decide +kernel
theorem dX8_fly_554 : decode cX8_fly 554 = .ok (.bipush 11, 2) := by decide +kernel
theorem dX8_fly_556 : decode cX8_fly 556 = .ok (.iadd, 1) := by decide +kernel
theorem dX8_fly_557 : decode cX8_fly 557 = .ok (.aload_n 0, 1) := by decide +kernel
theorem dX8_fly_558 : decode cX8_fly 558 = .ok (.getfield 7, 3) := by decide +kernel
theorem dX8_fly_561 : decode cX8_fly 561 = .ok (.sipush 134, 3) := by decide +kernel
theorem dX8_fly_564 : decode cX8_fly 564 = .ok (.iaload, 1) := by decide +kernel
theorem dX8_fly_565 : decode cX8_fly 565 = .ok (.iconst 1, 1) := by decide +kernel
theorem dX8_fly_566 : decode cX8_fly 566 = .ok (.iadd, 1) := by decide +kernel
theorem dX8_fly_567 : decode cX8_fly 567 = .ok (.iastore, 1) := by decide +kernel
theorem dX8_fly_568 : decode cX8_fly 568 = .ok (.aload_n 0, 1) := by decide +kernel
theorem dX8_fly_569 : decode cX8_fly 569 = .ok (.getfield 7, 3) := by decide +kernel
theorem dX8_fly_572 : decode cX8_fly 572 = .ok (.sipush 149, 3) := by decide +kernel
theorem dX8_fly_575 : decode cX8_fly 575 = .ok (.dup2, 1) := by decide +kernel
theorem dX8_fly_576 : decode cX8_fly 576 = .ok (.iaload, 1) := by decide +kernel
theorem dX8_fly_577 : decode cX8_fly 577 = .ok (.aload_n 0, 1) := by decide +kernel
theorem dX8_fly_578 : decode cX8_fly 578 = .ok (.getfield 7, 3) := by decide +kernel
theorem dX8_fly_581 : decode cX8_fly 581 = .ok (.sipush 135, 3) := by decide +kernel
theorem dX8_fly_584 : decode cX8_fly 584 = .ok (.iaload, 1) := by decide +kernel
theorem dX8_fly_585 : decode cX8_fly 585 = .ok (.ifCond .ne 19, 3) := by decide +kernel
theorem dX8_fly_588 : decode cX8_fly 588 = .ok (.aload_n 0, 1) := by decide +kernel
theorem dX8_fly_589 : decode cX8_fly 589 = .ok (.getfield 7, 3) := by decide +kernel
theorem dX8_fly_592 : decode cX8_fly 592 = .ok (.iload_n 2, 1) := by decide +kernel
theorem dX8_fly_593 : decode cX8_fly 593 = .ok (.bipush 10, 2) := by decide +kernel
theorem dX8_fly_595 : decode cX8_fly 595 = .ok (.iadd, 1) := by decide +kernel
theorem dX8_fly_596 : decode cX8_fly 596 = .ok (.iaload, 1) := by decide +kernel
theorem dX8_fly_597 : decode cX8_fly 597 = .ok (.ifCond .le 7, 3) := by decide +kernel
theorem dX8_fly_600 : decode cX8_fly 600 = .ok (.iconst 1, 1) := by decide +kernel
theorem dX8_fly_601 : decode cX8_fly 601 = .ok (.goto 4, 3) := by decide +kernel
theorem dX8_fly_604 : decode cX8_fly 604 = .ok (.iconst 0, 1) := by decide +kernel
theorem dX8_fly_605 : decode cX8_fly 605 = .ok (.iadd, 1) := by decide +kernel
theorem dX8_fly_606 : decode cX8_fly 606 = .ok (.iastore, 1) := by decide +kernel
theorem dX8_fly_607 : decode cX8_fly 607 = .ok (.aload_n 0, 1) := by decide +kernel
theorem dX8_fly_608 : decode cX8_fly 608 = .ok (.getfield 7, 3) := by decide +kernel
theorem dX8_fly_611 : decode cX8_fly 611 = .ok (.sipush 136, 3) := by decide +kernel
theorem dX8_fly_614 : decode cX8_fly 614 = .ok (.aload_n 0, 1) := by decide +kernel
theorem dX8_fly_615 : decode cX8_fly 615 = .ok (.getfield 7, 3) := by decide +kernel
theorem dX8_fly_618 : decode cX8_fly 618 = .ok (.sipush 135, 3) := by decide +kernel
theorem dX8_fly_621 : decode cX8_fly 621 = .ok (.iaload, 1) := by decide +kernel
theorem dX8_fly_622 : decode cX8_fly 622 = .ok (.iadd, 1) := by decide +kernel
theorem dX8_fly_623 : decode cX8_fly 623 = .ok (.iload_n 1, 1) := by decide +kernel
theorem dX8_fly_624 : decode cX8_fly 624 = .ok (.iastore, 1) := by decide +kernel
theorem dX8_fly_625 : decode cX8_fly 625 = .ok (.aload_n 0, 1) := by decide +kernel
theorem dX8_fly_626 : decode cX8_fly 626 = .ok (.getfield 7, 3) := by decide +kernel
theorem dX8_fly_629 : decode cX8_fly 629 = .ok (.sipush 135, 3) := by decide +kernel
theorem dX8_fly_632 : decode cX8_fly 632 = .ok (.dup2, 1) := by decide +kernel
theorem dX8_fly_633 : decode cX8_fly 633 = .ok (.iaload, 1) := by decide +kernel
theorem dX8_fly_634 : decode cX8_fly 634 = .ok (.iconst 1, 1) := by decide +kernel
theorem dX8_fly_635 : decode cX8_fly 635 = .ok (.iadd, 1) := by decide +kernel
theorem dX8_fly_636 : decode cX8_fly 636 = .ok (.iastore, 1) := by decide +kernel
theorem dX8_fly_637 : decode cX8_fly 637 = .ok (.iload 11, 2) := by decide +kernel
theorem dX8_fly_639 : decode cX8_fly 639 = .ok (.ireturn, 1) := by decide +kernel
theorem dX8_second_0 : decode cX8_second 0 = .ok (.aload_n 0, 1) := by decide +kernel
theorem dX8_second_1 : decode cX8_second 1 = .ok (.getfield 7, 3) := by decide +kernel
theorem dX8_second_4 : decode cX8_second 4 = .ok (.sipush 128, 3) := by decide +kernel
theorem dX8_second_7 : decode cX8_second 7 = .ok (.iaload, 1) := by decide +kernel
theorem dX8_second_8 : decode cX8_second 8 = .ok (.istore_n 1, 1) := by decide +kernel
theorem dX8_second_9 : decode cX8_second 9 = .ok (.iconst 0, 1) := by decide +kernel
theorem dX8_second_10 : decode cX8_second 10 = .ok (.istore_n 2, 1) := by decide +kernel
theorem dX8_second_11 : decode cX8_second 11 = .ok (.iconst 0, 1) := by decide +kernel
theorem dX8_second_12 : decode cX8_second 12 = .ok (.istore_n 3, 1) := by decide +kernel
theorem dX8_second_13 : decode cX8_second 13 = .ok (.iload_n 3, 1) := by decide +kernel
theorem dX8_second_14 : decode cX8_second 14 = .ok (.iload_n 1, 1) := by decide +kernel
theorem dX8_second_15 : decode cX8_second 15 = .ok (.if_icmp .ge 20, 3) := by decide +kernel
theorem dX8_second_18 : decode cX8_second 18 = .ok (.aload_n 0, 1) := by decide +kernel
theorem dX8_second_19 : decode cX8_second 19 = .ok (.getfield 29, 3) := by decide +kernel
theorem dX8_second_22 : decode cX8_second 22 = .ok (.aload_n 0, 1) := by decide +kernel
theorem dX8_second_23 : decode cX8_second 23 = .ok (.iload_n 3, 1) := by decide +kernel
theorem dX8_second_24 : decode cX8_second 24 = .ok (.invokevirtual 59, 3) := by decide +kernel
theorem dX8_second_27 : decode cX8_second 27 = .ok (.iload_n 3, 1) := by decide +kernel
theorem dX8_second_28 : decode cX8_second 28 = .ok (.iastore, 1) := by decide +kernel
theorem dX8_second_29 : decode cX8_second 29 = .ok (.iinc 3 1, 3) := by decide +kernel
theorem dX8_second_32 : decode cX8_second 32 = .ok (.goto (-19), 3) := by decide +kernel
theorem dX8_second_35 : decode cX8_second 35 = .ok (.iconst 0, 1) := by decide +kernel
theorem dX8_second_36 : decode cX8_second 36 = .ok (.istore_n 3, 1) := by decide +kernel
theorem dX8_second_37 : decode cX8_second 37 = .ok (.iload_n 3, 1) := by decide +kernel
theorem dX8_second_38 : decode cX8_second 38 = .ok (.iload_n 1, 1) := by decide +kernel
theorem dX8_second_39 : decode cX8_second 39 = .ok (.if_icmp .ge 118, 3) := by decide +kernel
theorem dX8_second_42 : decode cX8_second 42 = .ok (.aload_n 0, 1) := by decide +kernel
theorem dX8_second_43 : decode cX8_second 43 = .ok (.getfield 29, 3) := by decide +kernel
theorem dX8_second_46 : decode cX8_second 46 = .ok (.iload_n 3, 1) := by decide +kernel
theorem dX8_second_47 : decode cX8_second 47 = .ok (.iaload, 1) := by decide +kernel
theorem dX8_second_48 : decode cX8_second 48 = .ok (.istore 4, 2) := by decide +kernel
theorem dX8_second_50 : decode cX8_second 50 = .ok (.aload_n 0, 1) := by decide +kernel
theorem dX8_second_51 : decode cX8_second 51 = .ok (.getfield 7, 3) := by decide +kernel
theorem dX8_second_54 : decode cX8_second 54 = .ok (.bipush 16, 2) := by decide +kernel
theorem dX8_second_56 : decode cX8_second 56 = .ok (.iload 4, 2) := by decide +kernel
theorem dX8_second_58 : decode cX8_second 58 = .ok (.imul, 1) := by decide +kernel
theorem dX8_second_59 : decode cX8_second 59 = .ok (.bipush 8, 2) := by decide +kernel
theorem dX8_second_61 : decode cX8_second 61 = .ok (.iadd, 1) := by decide +kernel
theorem dX8_second_62 : decode cX8_second 62 = .ok (.iconst 0, 1) := by decide +kernel
theorem dX8_second_63 : decode cX8_second 63 = .ok (.iastore, 1) := by decide +kernel
theorem dX8_second_64 : decode cX8_second 64 = .ok (.aload_n 0, 1) := by decide +kernel
theorem dX8_second_65 : decode cX8_second 65 = .ok (.iload 4, 2) := by decide +kernel
theorem dX8_second_67 : decode cX8_second 67 = .ok (.bipush 6, 2) := by decide +kernel
theorem dX8_second_69 : decode cX8_second 69 = .ok (.invokevirtual 40, 3) := by decide +kernel
theorem dX8_second_72 : decode cX8_second 72 = .ok (.iconst 2, 1) := by decide +kernel
theorem dX8_second_73 : decode cX8_second 73 = .ok (.if_icmp .ne 52, 3) := by decide +kernel
theorem dX8_second_76 : decode cX8_second 76 = .ok (.aload_n 0, 1) := by decide +kernel
theorem dX8_second_77 : decode cX8_second 77 = .ok (.getfield 7, 3) := by decide +kernel
theorem dX8_second_80 : decode cX8_second 80 = .ok (.bipush 16, 2) := by decide +kernel
theorem dX8_second_82 : decode cX8_second 82 = .ok (.iload 4, 2) := by decide +kernel
theorem dX8_second_84 : decode cX8_second 84 = .ok (.imul, 1) := by decide +kernel
theorem dX8_second_85 : decode cX8_second 85 = .ok (.bipush 12, 2) := by decide +kernel
theorem dX8_second_87 : decode cX8_second 87 = .ok (.iadd, 1) := by decide +kernel
theorem dX8_second_88 : decode cX8_second 88 = .ok (.dup2, 1) := by decide +kernel
theorem dX8_second_89 : decode cX8_second 89 = .ok (.iaload, 1) := by decide +kernel
theorem dX8_second_90 : decode cX8_second 90 = .ok (.iconst 1, 1) := by decide +kernel
theorem dX8_second_91 : decode cX8_second 91 = .ok (.isub, 1) := by decide +kernel
theorem dX8_second_92 : decode cX8_second 92 = .ok (.iastore, 1) := by decide +kernel
theorem dX8_second_93 : decode cX8_second 93 = .ok (.aload_n 0, 1) := by decide +kernel
theorem dX8_second_94 : decode cX8_second 94 = .ok (.getfield 7, 3) := by decide +kernel
theorem dX8_second_97 : decode cX8_second 97 = .ok (.bipush 16, 2) := by decide +kernel
theorem dX8_second_99 : decode cX8_second 99 = .ok (.iload 4, 2) := by decide +kernel
theorem dX8_second_101 : decode cX8_second 101 = .ok (.imul, 1) := by decide +kernel
theorem dX8_second_102 : decode cX8_second 102 = .ok (.bipush 6, 2) := by decide +kernel
theorem dX8_second_104 : decode cX8_second 104 = .ok (.iadd, 1) := by decide +kernel
theorem dX8_second_105 : decode cX8_second 105 = .ok (.aload_n 0, 1) := by decide +kernel
theorem dX8_second_106 : decode cX8_second 106 = .ok (.iload 4, 2) := by decide +kernel
theorem dX8_second_108 : decode cX8_second 108 = .ok (.bipush 12, 2) := by decide +kernel
theorem dX8_second_110 : decode cX8_second 110 = .ok (.invokevirtual 40, 3) := by decide +kernel
theorem dX8_second_113 : decode cX8_second 113 = .ok (.ifCond .ne 7, 3) := by decide +kernel
theorem dX8_second_116 : decode cX8_second 116 = .ok (.iconst 1, 1) := by decide +kernel
theorem dX8_second_117 : decode cX8_second 117 = .ok (.goto 4, 3) := by decide +kernel
theorem dX8_second_120 : decode cX8_second 120 = .ok (.iconst 2, 1) := by decide +kernel
theorem dX8_second_121 : decode cX8_second 121 = .ok (.iastore, 1) := by decide +kernel
theorem dX8_second_122 : decode cX8_second 122 = .ok (.goto 29, 3) := by decide +kernel
theorem dX8_second_125 : decode cX8_second 125 = .ok (.aload_n 0, 1) := by decide +kernel
theorem dX8_second_126 : decode cX8_second 126 = .ok (.iload 4, 2) := by decide +kernel
theorem dX8_second_128 : decode cX8_second 128 = .ok (.invokevirtual 62, 3) := by decide +kernel
theorem dX8_second_131 : decode cX8_second 131 = .ok (.ifCond .eq 20, 3) := by decide +kernel
theorem dX8_second_134 : decode cX8_second 134 = .ok (.iload_n 2, 1) := by decide +kernel
theorem dX8_second_135 : decode cX8_second 135 = .ok (.aload_n 0, 1) := by decide +kernel
theorem dX8_second_136 : decode cX8_second 136 = .ok (.iload 4, 2) := by decide +kernel
theorem dX8_second_138 : decode cX8_second 138 = .ok (.invokevirtual 89, 3) := by decide +kernel
theorem dX8_second_141 : decode cX8_second 141 = .ok (.ifCond .eq 7, 3) := by decide +kernel
theorem dX8_second_144 : decode cX8_second 144 = .ok (.iconst 1, 1) := by decide +kernel
theorem dX8_second_145 : decode cX8_second 145 = .ok (.goto 4, 3) := by decide +kernel
theorem dX8_second_148 : decode cX8_second 148 = .ok (.iconst 0, 1) := by decide +kernel
theorem dX8_second_149 : decode cX8_second 149 = .ok (.iadd, 1) := by decide +kernel
theorem dX8_second_150 : decode cX8_second 150 = .ok (.istore_n 2, 1) := by decide +kernel
theorem dX8_second_151 : decode cX8_second 151 = .ok (.iinc 3 1, 3) := by decide +kernel
theorem dX8_second_154 : decode cX8_second 154 = .ok (.goto (-117), 3) := by decide +kernel
theorem dX8_second_157 : decode cX8_second 157 = .ok (.aload_n 0, 1) := by decide +kernel
theorem dX8_second_158 : decode cX8_second 158 = .ok (.getfield 7, 3) := by decide +kernel
theorem dX8_second_161 : decode cX8_second 161 = .ok (.sipush 134, 3) := by decide +kernel
theorem dX8_second_164 : decode cX8_second 164 = .ok (.dup2, 1) := by decide +kernel
theorem dX8_second_165 : decode cX8_second 165 = .ok (.iaload, 1) := by decide +kernel
theorem dX8_second_166 : decode cX8_second 166 = .ok (.iconst 1, 1) := by decide +kernel
theorem dX8_second_167 : decode cX8_second 167 = .ok (.iadd, 1) := by decide +kernel
theorem dX8_second_168 : decode cX8_second 168 = .ok (.iastore, 1) := by decide +kernel
theorem dX8_second_169 : decode cX8_second 169 = .ok (.aload_n 0, 1) := by decide +kernel
theorem dX8_second_170 : decode cX8_second 170 = .ok (.getfield 7, 3) := by decide +kernel
theorem dX8_second_173 : decode cX8_second 173 = .ok (.sipush 150, 3) := by decide +kernel
theorem dX8_second_176 : decode cX8_second 176 = .ok (.aload_n 0, 1) := by decide +kernel
theorem dX8_second_177 : decode cX8_second 177 = .ok (.getfield 7, 3) := by decide +kernel
theorem dX8_second_180 : decode cX8_second 180 = .ok (.sipush 135, 3) := by decide +kernel
theorem dX8_second_183 : decode cX8_second 183 = .ok (.iaload, 1) := by decide +kernel
theorem dX8_second_184 : decode cX8_second 184 = .ok (.iload_n 1, 1) := by decide +kernel
theorem dX8_second_185 : decode cX8_second 185 = .ok (.if_icmp .ne 7, 3) := by decide +kernel
theorem dX8_second_188 : decode cX8_second 188 = .ok (.iconst 0, 1) := by decide +kernel
theorem dX8_second_189 : decode cX8_second 189 = .ok (.goto 4, 3) := by decide +kernel
theorem dX8_second_192 : decode cX8_second 192 = .ok (.iconst 1, 1) := by decide +kernel
theorem dX8_second_193 : decode cX8_second 193 = .ok (.iastore, 1) := by decide +kernel
theorem dX8_second_194 : decode cX8_second 194 = .ok (.iload_n 2, 1) := by decide +kernel
theorem dX8_second_195 : decode cX8_second 195 = .ok (.ireturn, 1) := by decide +kernel
theorem dX8_passes_0 : decode cX8_passes 0 = .ok (.iconst 0, 1) := by decide +kernel
theorem dX8_passes_1 : decode cX8_passes 1 = .ok (.istore_n 2, 1) := by decide +kernel
theorem dX8_passes_2 : decode cX8_passes 2 = .ok (.iconst 0, 1) := by decide +kernel
theorem dX8_passes_3 : decode cX8_passes 3 = .ok (.istore_n 3, 1) := by decide +kernel
theorem dX8_passes_4 : decode cX8_passes 4 = .ok (.iload_n 3, 1) := by decide +kernel
theorem dX8_passes_5 : decode cX8_passes 5 = .ok (.iload_n 1, 1) := by decide +kernel
theorem dX8_passes_6 : decode cX8_passes 6 = .ok (.if_icmp .ge 28, 3) := by decide +kernel
theorem dX8_passes_9 : decode cX8_passes 9 = .ok (.aload_n 0, 1) := by decide +kernel
theorem dX8_passes_10 : decode cX8_passes 10 = .ok (.getfield 7, 3) := by decide +kernel
theorem dX8_passes_13 : decode cX8_passes 13 = .ok (.sipush 150, 3) := by decide +kernel
theorem dX8_passes_16 : decode cX8_passes 16 = .ok (.iaload, 1) := by decide +kernel
theorem dX8_passes_17 : decode cX8_passes 17 = .ok (.iconst 1, 1) := by decide +kernel
theorem dX8_passes_18 : decode cX8_passes 18 = .ok (.if_icmp .ne 16, 3) := by decide +kernel
theorem dX8_passes_21 : decode cX8_passes 21 = .ok (.iload_n 2, 1) := by decide +kernel
theorem dX8_passes_22 : decode cX8_passes 22 = .ok (.aload_n 0, 1) := by decide +kernel
theorem dX8_passes_23 : decode cX8_passes 23 = .ok (.invokevirtual 92, 3) := by decide +kernel
theorem dX8_passes_26 : decode cX8_passes 26 = .ok (.iadd, 1) := by decide +kernel
theorem dX8_passes_27 : decode cX8_passes 27 = .ok (.istore_n 2, 1) := by decide +kernel
theorem dX8_passes_28 : decode cX8_passes 28 = .ok (.iinc 3 1, 3) := by decide +kernel
theorem dX8_passes_31 : decode cX8_passes 31 = .ok (.goto (-27), 3) := by decide +kernel
theorem dX8_passes_34 : decode cX8_passes 34 = .ok (.iload_n 2, 1) := by decide +kernel
theorem dX8_passes_35 : decode cX8_passes 35 = .ok (.ireturn, 1) := by decide +kernel
theorem dX8_enter_0 : decode cX8_enter 0 = .ok (.aload_n 0, 1) := by decide +kernel
theorem dX8_enter_1 : decode cX8_enter 1 = .ok (.iload_n 1, 1) := by decide +kernel
theorem dX8_enter_2 : decode cX8_enter 2 = .ok (.bipush 10, 2) := by decide +kernel
theorem dX8_enter_4 : decode cX8_enter 4 = .ok (.bipush 40, 2) := by decide +kernel
theorem dX8_enter_6 : decode cX8_enter 6 = .ok (.invokestatic 36, 3) := by decide +kernel
theorem dX8_enter_9 : decode cX8_enter 9 = .ok (.ifCond .eq 24, 3) := by decide +kernel
theorem dX8_enter_12 : decode cX8_enter 12 = .ok (.iload_n 2, 1) := by decide +kernel
theorem dX8_enter_13 : decode cX8_enter 13 = .ok (.bipush 100, 2) := by decide +kernel
theorem dX8_enter_15 : decode cX8_enter 15 = .ok (.sipush 999, 3) := by decide +kernel
theorem dX8_enter_18 : decode cX8_enter 18 = .ok (.invokestatic 36, 3) := by decide +kernel
theorem dX8_enter_21 : decode cX8_enter 21 = .ok (.ifCond .eq 12, 3) := by decide +kernel
theorem dX8_enter_24 : decode cX8_enter 24 = .ok (.iload_n 3, 1) := by decide +kernel
theorem dX8_enter_25 : decode cX8_enter 25 = .ok (.iconst 0, 1) := by decide +kernel
theorem dX8_enter_26 : decode cX8_enter 26 = .ok (.iconst 1, 1) := by decide +kernel
theorem dX8_enter_27 : decode cX8_enter 27 = .ok (.invokestatic 36, 3) := by decide +kernel
theorem dX8_enter_30 : decode cX8_enter 30 = .ok (.ifCond .ne 7, 3) := by decide +kernel
theorem dX8_enter_33 : decode cX8_enter 33 = .ok (.iconst 1, 1) := by decide +kernel
theorem dX8_enter_34 : decode cX8_enter 34 = .ok (.goto 33, 3) := by decide +kernel
theorem dX8_enter_37 : decode cX8_enter 37 = .ok (.aload_n 0, 1) := by decide +kernel
theorem dX8_enter_38 : decode cX8_enter 38 = .ok (.getfield 7, 3) := by decide +kernel
theorem dX8_enter_41 : decode cX8_enter 41 = .ok (.sipush 128, 3) := by decide +kernel
theorem dX8_enter_44 : decode cX8_enter 44 = .ok (.iaload, 1) := by decide +kernel
theorem dX8_enter_45 : decode cX8_enter 45 = .ok (.bipush 8, 2) := by decide +kernel
theorem dX8_enter_47 : decode cX8_enter 47 = .ok (.if_icmp .eq 15, 3) := by decide +kernel
theorem dX8_enter_50 : decode cX8_enter 50 = .ok (.aload_n 0, 1) := by decide +kernel
theorem dX8_enter_51 : decode cX8_enter 51 = .ok (.getfield 7, 3) := by decide +kernel
theorem dX8_enter_54 : decode cX8_enter 54 = .ok (.sipush 150, 3) := by decide +kernel
theorem dX8_enter_57 : decode cX8_enter 57 = .ok (.iaload, 1) := by decide +kernel
theorem dX8_enter_58 : decode cX8_enter 58 = .ok (.iconst 1, 1) := by decide +kernel
theorem dX8_enter_59 : decode cX8_enter 59 = .ok (.if_icmp .ne 7, 3) := by decide +kernel
theorem dX8_enter_62 : decode cX8_enter 62 = .ok (.iconst 2, 1) := by decide +kernel
theorem dX8_enter_63 : decode cX8_enter 63 = .ok (.goto 4, 3) := by decide +kernel
theorem dX8_enter_66 : decode cX8_enter 66 = .ok (.iconst 0, 1) := by decide +kernel
theorem dX8_enter_67 : decode cX8_enter 67 = .ok (.invokevirtual 96, 3) := by decide +kernel
theorem dX8_enter_70 : decode cX8_enter 70 = .ok (.ifCond .eq 5, 3) := by decide +kernel
theorem dX8_enter_73 : decode cX8_enter 73 = .ok (.iconst 0, 1) := by decide +kernel
theorem dX8_enter_74 : decode cX8_enter 74 = .ok (.ireturn, 1) := by decide +kernel
theorem dX8_enter_75 : decode cX8_enter 75 = .ok (.aload_n 0, 1) := by decide +kernel
theorem dX8_enter_76 : decode cX8_enter 76 = .ok (.invokevirtual 99, 3) := by decide +kernel
theorem dX8_enter_79 : decode cX8_enter 79 = .ok (.bipush 16, 2) := by decide +kernel
theorem dX8_enter_81 : decode cX8_enter 81 = .ok (.aload_n 0, 1) := by decide +kernel
theorem dX8_enter_82 : decode cX8_enter 82 = .ok (.getfield 7, 3) := by decide +kernel
theorem dX8_enter_85 : decode cX8_enter 85 = .ok (.sipush 128, 3) := by decide +kernel
theorem dX8_enter_88 : decode cX8_enter 88 = .ok (.iaload, 1) := by decide +kernel
theorem dX8_enter_89 : decode cX8_enter 89 = .ok (.imul, 1) := by decide +kernel
theorem dX8_enter_90 : decode cX8_enter 90 = .ok (.istore 4, 2) := by decide +kernel
theorem dX8_enter_92 : decode cX8_enter 92 = .ok (.iconst 0, 1) := by decide +kernel
theorem dX8_enter_93 : decode cX8_enter 93 = .ok (.istore 5, 2) := by decide +kernel
theorem dX8_enter_95 : decode cX8_enter 95 = .ok (.iload 5, 2) := by decide +kernel
theorem dX8_enter_97 : decode cX8_enter 97 = .ok (.bipush 16, 2) := by decide +kernel
theorem dX8_enter_99 : decode cX8_enter 99 = .ok (.if_icmp .ge 20, 3) := by decide +kernel
theorem dX8_enter_102 : decode cX8_enter 102 = .ok (.aload_n 0, 1) := by decide +kernel
theorem dX8_enter_103 : decode cX8_enter 103 = .ok (.getfield 7, 3) := by decide +kernel
theorem dX8_enter_106 : decode cX8_enter 106 = .ok (.iload 4, 2) := by decide +kernel
theorem dX8_enter_108 : decode cX8_enter 108 = .ok (.iload 5, 2) := by decide +kernel
theorem dX8_enter_110 : decode cX8_enter 110 = .ok (.iadd, 1) := by decide +kernel
theorem dX8_enter_111 : decode cX8_enter 111 = .ok (.iconst 0, 1) := by decide +kernel
theorem dX8_enter_112 : decode cX8_enter 112 = .ok (.iastore, 1) := by decide +kernel
theorem dX8_enter_113 : decode cX8_enter 113 = .ok (.iinc 5 1, 3) := by decide +kernel
theorem dX8_enter_116 : decode cX8_enter 116 = .ok (.goto (-21), 3) := by decide +kernel
theorem dX8_enter_119 : decode cX8_enter 119 = .ok (.aload_n 0, 1) := by decide +kernel
theorem dX8_enter_120 : decode cX8_enter 120 = .ok (.getfield 7, 3) := by decide +kernel
theorem dX8_enter_123 : decode cX8_enter 123 = .ok (.iload 4, 2) := by decide +kernel
theorem dX8_enter_125 : decode cX8_enter 125 = .ok (.iload_n 1, 1) := by decide +kernel
theorem dX8_enter_126 : decode cX8_enter 126 = .ok (.iastore, 1) := by decide +kernel
theorem dX8_enter_127 : decode cX8_enter 127 = .ok (.aload_n 0, 1) := by decide +kernel
theorem dX8_enter_128 : decode cX8_enter 128 = .ok (.getfield 7, 3) := by decide +kernel
theorem dX8_enter_131 : decode cX8_enter 131 = .ok (.iload 4, 2) := by decide +kernel
theorem dX8_enter_133 : decode cX8_enter 133 = .ok (.iconst 1, 1) := by decide +kernel
theorem dX8_enter_134 : decode cX8_enter 134 = .ok (.iadd, 1) := by decide +kernel
theorem dX8_enter_135 : decode cX8_enter 135 = .ok (.iload_n 2, 1) := by decide +kernel
theorem dX8_enter_136 : decode cX8_enter 136 = .ok (.iastore, 1) := by decide +kernel
theorem dX8_enter_137 : decode cX8_enter 137 = .ok (.aload_n 0, 1) := by decide +kernel
theorem dX8_enter_138 : decode cX8_enter 138 = .ok (.getfield 7, 3) := by decide +kernel
theorem dX8_enter_141 : decode cX8_enter 141 = .ok (.iload 4, 2) := by decide +kernel
theorem dX8_enter_143 : decode cX8_enter 143 = .ok (.iconst 2, 1) := by decide +kernel
theorem dX8_enter_144 : decode cX8_enter 144 = .ok (.iadd, 1) := by decide +kernel
theorem dX8_enter_145 : decode cX8_enter 145 = .ok (.iload_n 3, 1) := by decide +kernel
theorem dX8_enter_146 : decode cX8_enter 146 = .ok (.iastore, 1) := by decide +kernel
theorem dX8_enter_147 : decode cX8_enter 147 = .ok (.aload_n 0, 1) := by decide +kernel
theorem dX8_enter_148 : decode cX8_enter 148 = .ok (.getfield 7, 3) := by decide +kernel
theorem dX8_enter_151 : decode cX8_enter 151 = .ok (.iload 4, 2) := by decide +kernel
theorem dX8_enter_153 : decode cX8_enter 153 = .ok (.iconst 3, 1) := by decide +kernel
theorem dX8_enter_154 : decode cX8_enter 154 = .ok (.iadd, 1) := by decide +kernel
theorem dX8_enter_155 : decode cX8_enter 155 = .ok (.iload_n 2, 1) := by decide +kernel
theorem dX8_enter_156 : decode cX8_enter 156 = .ok (.iastore, 1) := by decide +kernel
theorem dX8_enter_157 : decode cX8_enter 157 = .ok (.aload_n 0, 1) := by decide +kernel
theorem dX8_enter_158 : decode cX8_enter 158 = .ok (.getfield 7, 3) := by decide +kernel
theorem dX8_enter_161 : decode cX8_enter 161 = .ok (.iload 4, 2) := by decide +kernel
theorem dX8_enter_163 : decode cX8_enter 163 = .ok (.iconst 5, 1) := by decide +kernel
theorem dX8_enter_164 : decode cX8_enter 164 = .ok (.iadd, 1) := by decide +kernel
theorem dX8_enter_165 : decode cX8_enter 165 = .ok (.iload_n 3, 1) := by decide +kernel
theorem dX8_enter_166 : decode cX8_enter 166 = .ok (.iastore, 1) := by decide +kernel
theorem dX8_enter_167 : decode cX8_enter 167 = .ok (.aload_n 0, 1) := by decide +kernel
theorem dX8_enter_168 : decode cX8_enter 168 = .ok (.getfield 7, 3) := by decide +kernel
theorem dX8_enter_171 : decode cX8_enter 171 = .ok (.sipush 128, 3) := by decide +kernel
theorem dX8_enter_174 : decode cX8_enter 174 = .ok (.dup2, 1) := by decide +kernel
theorem dX8_enter_175 : decode cX8_enter 175 = .ok (.iaload, 1) := by decide +kernel
theorem dX8_enter_176 : decode cX8_enter 176 = .ok (.iconst 1, 1) := by decide +kernel
theorem dX8_enter_177 : decode cX8_enter 177 = .ok (.iadd, 1) := by decide +kernel
theorem dX8_enter_178 : decode cX8_enter 178 = .ok (.iastore, 1) := by decide +kernel
theorem dX8_enter_179 : decode cX8_enter 179 = .ok (.aload_n 0, 1) := by decide +kernel
theorem dX8_enter_180 : decode cX8_enter 180 = .ok (.getfield 7, 3) := by decide +kernel
theorem dX8_enter_183 : decode cX8_enter 183 = .ok (.sipush 128, 3) := by decide +kernel
theorem dX8_enter_186 : decode cX8_enter 186 = .ok (.iaload, 1) := by decide +kernel
theorem dX8_enter_187 : decode cX8_enter 187 = .ok (.iconst 1, 1) := by decide +kernel
theorem dX8_enter_188 : decode cX8_enter 188 = .ok (.isub, 1) := by decide +kernel
theorem dX8_enter_189 : decode cX8_enter 189 = .ok (.ireturn, 1) := by decide +kernel
theorem dX8_setsPace_0 : decode cX8_setsPace 0 = .ok (.aload_n 0, 1) := by decide +kernel
theorem dX8_setsPace_1 : decode cX8_setsPace 1 = .ok (.iload_n 1, 1) := by decide +kernel
theorem dX8_setsPace_2 : decode cX8_setsPace 2 = .ok (.iconst 0, 1) := by decide +kernel
theorem dX8_setsPace_3 : decode cX8_setsPace 3 = .ok (.invokevirtual 40, 3) := by decide +kernel
theorem dX8_setsPace_6 : decode cX8_setsPace 6 = .ok (.istore_n 3, 1) := by decide +kernel
theorem dX8_setsPace_7 : decode cX8_setsPace 7 = .ok (.aload_n 0, 1) := by decide +kernel
theorem dX8_setsPace_8 : decode cX8_setsPace 8 = .ok (.getfield 7, 3) := by decide +kernel
theorem dX8_setsPace_11 : decode cX8_setsPace 11 = .ok (.bipush 16, 2) := by decide +kernel
theorem dX8_setsPace_13 : decode cX8_setsPace 13 = .ok (.iload_n 1, 1) := by decide +kernel
theorem dX8_setsPace_14 : decode cX8_setsPace 14 = .ok (.imul, 1) := by decide +kernel
theorem dX8_setsPace_15 : decode cX8_setsPace 15 = .ok (.iload_n 2, 1) := by decide +kernel
theorem dX8_setsPace_16 : decode cX8_setsPace 16 = .ok (.iastore, 1) := by decide +kernel
theorem dX8_setsPace_17 : decode cX8_setsPace 17 = .ok (.iload_n 3, 1) := by decide +kernel
theorem dX8_setsPace_18 : decode cX8_setsPace 18 = .ok (.ireturn, 1) := by decide +kernel
theorem dX8_setPace_0 : decode cX8_setPace 0 = .ok (.aload_n 0, 1) := by decide +kernel
theorem dX8_setPace_1 : decode cX8_setPace 1 = .ok (.aload_n 0, 1) := by decide +kernel
theorem dX8_setPace_2 : decode cX8_setPace 2 = .ok (.iload_n 1, 1) := by decide +kernel
theorem dX8_setPace_3 : decode cX8_setPace 3 = .ok (.invokevirtual 102, 3) := by decide +kernel
theorem dX8_setPace_6 : decode cX8_setPace 6 = .ok (.ifCond .ne 7, 3) := by decide +kernel
theorem dX8_setPace_9 : decode cX8_setPace 9 = .ok (.iconst 1, 1) := by decide +kernel
theorem dX8_setPace_10 : decode cX8_setPace 10 = .ok (.goto 19, 3) := by decide +kernel
theorem dX8_setPace_13 : decode cX8_setPace 13 = .ok (.iload_n 2, 1) := by decide +kernel
theorem dX8_setPace_14 : decode cX8_setPace 14 = .ok (.bipush 10, 2) := by decide +kernel
theorem dX8_setPace_16 : decode cX8_setPace 16 = .ok (.bipush 40, 2) := by decide +kernel
theorem dX8_setPace_18 : decode cX8_setPace 18 = .ok (.invokestatic 36, 3) := by decide +kernel
theorem dX8_setPace_21 : decode cX8_setPace 21 = .ok (.ifCond .eq 7, 3) := by decide +kernel
theorem dX8_setPace_24 : decode cX8_setPace 24 = .ok (.iconst 0, 1) := by decide +kernel
theorem dX8_setPace_25 : decode cX8_setPace 25 = .ok (.goto 4, 3) := by decide +kernel
theorem dX8_setPace_28 : decode cX8_setPace 28 = .ok (.iconst 2, 1) := by decide +kernel
theorem dX8_setPace_29 : decode cX8_setPace 29 = .ok (.invokevirtual 96, 3) := by decide +kernel
theorem dX8_setPace_32 : decode cX8_setPace 32 = .ok (.ifCond .eq 5, 3) := by decide +kernel
theorem dX8_setPace_35 : decode cX8_setPace 35 = .ok (.iconst 0, 1) := by decide +kernel
theorem dX8_setPace_36 : decode cX8_setPace 36 = .ok (.ireturn, 1) := by decide +kernel
theorem dX8_setPace_37 : decode cX8_setPace 37 = .ok (.aload_n 0, 1) := by decide +kernel
theorem dX8_setPace_38 : decode cX8_setPace 38 = .ok (.invokevirtual 99, 3) := by decide +kernel
theorem dX8_setPace_41 : decode cX8_setPace 41 = .ok (.aload_n 0, 1) := by decide +kernel
theorem dX8_setPace_42 : decode cX8_setPace 42 = .ok (.iload_n 1, 1) := by decide +kernel
theorem dX8_setPace_43 : decode cX8_setPace 43 = .ok (.iload_n 2, 1) := by decide +kernel
theorem dX8_setPace_44 : decode cX8_setPace 44 = .ok (.invokevirtual 105, 3) := by decide +kernel
theorem dX8_setPace_47 : decode cX8_setPace 47 = .ok (.ireturn, 1) := by decide +kernel
theorem dX8_calls_0 : decode cX8_calls 0 = .ok (.aload_n 0, 1) := by decide +kernel
theorem dX8_calls_1 : decode cX8_calls 1 = .ok (.getfield 7, 3) := by decide +kernel
theorem dX8_calls_4 : decode cX8_calls 4 = .ok (.bipush 16, 2) := by decide +kernel
theorem dX8_calls_6 : decode cX8_calls 6 = .ok (.iload_n 1, 1) := by decide +kernel
theorem dX8_calls_7 : decode cX8_calls 7 = .ok (.imul, 1) := by decide +kernel
theorem dX8_calls_8 : decode cX8_calls 8 = .ok (.bipush 9, 2) := by decide +kernel
theorem dX8_calls_10 : decode cX8_calls 10 = .ok (.iadd, 1) := by decide +kernel
theorem dX8_calls_11 : decode cX8_calls 11 = .ok (.iconst 1, 1) := by decide +kernel
theorem dX8_calls_12 : decode cX8_calls 12 = .ok (.aload_n 0, 1) := by decide +kernel
theorem dX8_calls_13 : decode cX8_calls 13 = .ok (.iload_n 1, 1) := by decide +kernel
theorem dX8_calls_14 : decode cX8_calls 14 = .ok (.bipush 9, 2) := by decide +kernel
theorem dX8_calls_16 : decode cX8_calls 16 = .ok (.invokevirtual 40, 3) := by decide +kernel
theorem dX8_calls_19 : decode cX8_calls 19 = .ok (.isub, 1) := by decide +kernel
theorem dX8_calls_20 : decode cX8_calls 20 = .ok (.iastore, 1) := by decide +kernel
theorem dX8_calls_21 : decode cX8_calls 21 = .ok (.aload_n 0, 1) := by decide +kernel
theorem dX8_calls_22 : decode cX8_calls 22 = .ok (.iload_n 1, 1) := by decide +kernel
theorem dX8_calls_23 : decode cX8_calls 23 = .ok (.bipush 9, 2) := by decide +kernel
theorem dX8_calls_25 : decode cX8_calls 25 = .ok (.invokevirtual 40, 3) := by decide +kernel
theorem dX8_calls_28 : decode cX8_calls 28 = .ok (.ireturn, 1) := by decide +kernel
theorem dX8_callIn_0 : decode cX8_callIn 0 = .ok (.aload_n 0, 1) := by decide +kernel
theorem dX8_callIn_1 : decode cX8_callIn 1 = .ok (.aload_n 0, 1) := by decide +kernel
theorem dX8_callIn_2 : decode cX8_callIn 2 = .ok (.iload_n 1, 1) := by decide +kernel
theorem dX8_callIn_3 : decode cX8_callIn 3 = .ok (.invokevirtual 102, 3) := by decide +kernel
theorem dX8_callIn_6 : decode cX8_callIn 6 = .ok (.ifCond .ne 7, 3) := by decide +kernel
theorem dX8_callIn_9 : decode cX8_callIn 9 = .ok (.iconst 1, 1) := by decide +kernel
theorem dX8_callIn_10 : decode cX8_callIn 10 = .ok (.goto 16, 3) := by decide +kernel
theorem dX8_callIn_13 : decode cX8_callIn 13 = .ok (.aload_n 0, 1) := by decide +kernel
theorem dX8_callIn_14 : decode cX8_callIn 14 = .ok (.iload_n 1, 1) := by decide +kernel
theorem dX8_callIn_15 : decode cX8_callIn 15 = .ok (.invokevirtual 47, 3) := by decide +kernel
theorem dX8_callIn_18 : decode cX8_callIn 18 = .ok (.ifCond .eq 7, 3) := by decide +kernel
theorem dX8_callIn_21 : decode cX8_callIn 21 = .ok (.iconst 2, 1) := by decide +kernel
theorem dX8_callIn_22 : decode cX8_callIn 22 = .ok (.goto 4, 3) := by decide +kernel
theorem dX8_callIn_25 : decode cX8_callIn 25 = .ok (.iconst 0, 1) := by decide +kernel
theorem dX8_callIn_26 : decode cX8_callIn 26 = .ok (.invokevirtual 96, 3) := by decide +kernel
theorem dX8_callIn_29 : decode cX8_callIn 29 = .ok (.ifCond .eq 5, 3) := by decide +kernel
theorem dX8_callIn_32 : decode cX8_callIn 32 = .ok (.iconst 0, 1) := by decide +kernel
theorem dX8_callIn_33 : decode cX8_callIn 33 = .ok (.ireturn, 1) := by decide +kernel
theorem dX8_callIn_34 : decode cX8_callIn 34 = .ok (.aload_n 0, 1) := by decide +kernel
theorem dX8_callIn_35 : decode cX8_callIn 35 = .ok (.invokevirtual 99, 3) := by decide +kernel
theorem dX8_callIn_38 : decode cX8_callIn 38 = .ok (.aload_n 0, 1) := by decide +kernel
theorem dX8_callIn_39 : decode cX8_callIn 39 = .ok (.iload_n 1, 1) := by decide +kernel
theorem dX8_callIn_40 : decode cX8_callIn 40 = .ok (.invokevirtual 108, 3) := by decide +kernel
theorem dX8_callIn_43 : decode cX8_callIn 43 = .ok (.iconst 1, 1) := by decide +kernel
theorem dX8_callIn_44 : decode cX8_callIn 44 = .ok (.if_icmp .ne 7, 3) := by decide +kernel
theorem dX8_callIn_47 : decode cX8_callIn 47 = .ok (.iconst 1, 1) := by decide +kernel
theorem dX8_callIn_48 : decode cX8_callIn 48 = .ok (.goto 4, 3) := by decide +kernel
theorem dX8_callIn_51 : decode cX8_callIn 51 = .ok (.iconst 0, 1) := by decide +kernel
theorem dX8_callIn_52 : decode cX8_callIn 52 = .ok (.ireturn, 1) := by decide +kernel
theorem dX8_leaves_0 : decode cX8_leaves 0 = .ok (.aload_n 0, 1) := by decide +kernel
theorem dX8_leaves_1 : decode cX8_leaves 1 = .ok (.iload_n 1, 1) := by decide +kernel
theorem dX8_leaves_2 : decode cX8_leaves 2 = .ok (.bipush 10, 2) := by decide +kernel
theorem dX8_leaves_4 : decode cX8_leaves 4 = .ok (.invokevirtual 40, 3) := by decide +kernel
theorem dX8_leaves_7 : decode cX8_leaves 7 = .ok (.iconst 1, 1) := by decide +kernel
theorem dX8_leaves_8 : decode cX8_leaves 8 = .ok (.isub, 1) := by decide +kernel
theorem dX8_leaves_9 : decode cX8_leaves 9 = .ok (.istore_n 2, 1) := by decide +kernel
theorem dX8_leaves_10 : decode cX8_leaves 10 = .ok (.iload_n 2, 1) := by decide +kernel
theorem dX8_leaves_11 : decode cX8_leaves 11 = .ok (.ifCond .lt 16, 3) := by decide +kernel
theorem dX8_leaves_14 : decode cX8_leaves 14 = .ok (.aload_n 0, 1) := by decide +kernel
theorem dX8_leaves_15 : decode cX8_leaves 15 = .ok (.getfield 7, 3) := by decide +kernel
theorem dX8_leaves_18 : decode cX8_leaves 18 = .ok (.bipush 16, 2) := by decide +kernel
theorem dX8_leaves_20 : decode cX8_leaves 20 = .ok (.iload_n 2, 1) := by decide +kernel
theorem dX8_leaves_21 : decode cX8_leaves 21 = .ok (.imul, 1) := by decide +kernel
theorem dX8_leaves_22 : decode cX8_leaves 22 = .ok (.bipush 10, 2) := by decide +kernel
theorem dX8_leaves_24 : decode cX8_leaves 24 = .ok (.iadd, 1) := by decide +kernel
theorem dX8_leaves_25 : decode cX8_leaves 25 = .ok (.iconst 0, 1) := by decide +kernel
theorem dX8_leaves_26 : decode cX8_leaves 26 = .ok (.iastore, 1) := by decide +kernel
theorem dX8_leaves_27 : decode cX8_leaves 27 = .ok (.aload_n 0, 1) := by decide +kernel
theorem dX8_leaves_28 : decode cX8_leaves 28 = .ok (.getfield 7, 3) := by decide +kernel
theorem dX8_leaves_31 : decode cX8_leaves 31 = .ok (.bipush 16, 2) := by decide +kernel
theorem dX8_leaves_33 : decode cX8_leaves 33 = .ok (.iload_n 1, 1) := by decide +kernel
theorem dX8_leaves_34 : decode cX8_leaves 34 = .ok (.imul, 1) := by decide +kernel
theorem dX8_leaves_35 : decode cX8_leaves 35 = .ok (.bipush 10, 2) := by decide +kernel
theorem dX8_leaves_37 : decode cX8_leaves 37 = .ok (.iadd, 1) := by decide +kernel
theorem dX8_leaves_38 : decode cX8_leaves 38 = .ok (.iconst 0, 1) := by decide +kernel
theorem dX8_leaves_39 : decode cX8_leaves 39 = .ok (.iastore, 1) := by decide +kernel
theorem dX8_leaves_40 : decode cX8_leaves 40 = .ok (.return_, 1) := by decide +kernel
theorem dX8_pair_0 : decode cX8_pair 0 = .ok (.aload_n 0, 1) := by decide +kernel
theorem dX8_pair_1 : decode cX8_pair 1 = .ok (.aload_n 0, 1) := by decide +kernel
theorem dX8_pair_2 : decode cX8_pair 2 = .ok (.iload_n 1, 1) := by decide +kernel
theorem dX8_pair_3 : decode cX8_pair 3 = .ok (.invokevirtual 102, 3) := by decide +kernel
theorem dX8_pair_6 : decode cX8_pair 6 = .ok (.ifCond .eq 11, 3) := by decide +kernel
theorem dX8_pair_9 : decode cX8_pair 9 = .ok (.aload_n 0, 1) := by decide +kernel
theorem dX8_pair_10 : decode cX8_pair 10 = .ok (.iload_n 2, 1) := by decide +kernel
theorem dX8_pair_11 : decode cX8_pair 11 = .ok (.invokevirtual 102, 3) := by decide +kernel
theorem dX8_pair_14 : decode cX8_pair 14 = .ok (.ifCond .ne 7, 3) := by decide +kernel
theorem dX8_pair_17 : decode cX8_pair 17 = .ok (.iconst 1, 1) := by decide +kernel
theorem dX8_pair_18 : decode cX8_pair 18 = .ok (.goto 13, 3) := by decide +kernel
theorem dX8_pair_21 : decode cX8_pair 21 = .ok (.iload_n 1, 1) := by decide +kernel
theorem dX8_pair_22 : decode cX8_pair 22 = .ok (.iload_n 2, 1) := by decide +kernel
theorem dX8_pair_23 : decode cX8_pair 23 = .ok (.if_icmp .ne 7, 3) := by decide +kernel
theorem dX8_pair_26 : decode cX8_pair 26 = .ok (.iconst 2, 1) := by decide +kernel
theorem dX8_pair_27 : decode cX8_pair 27 = .ok (.goto 4, 3) := by decide +kernel
theorem dX8_pair_30 : decode cX8_pair 30 = .ok (.iconst 0, 1) := by decide +kernel
theorem dX8_pair_31 : decode cX8_pair 31 = .ok (.invokevirtual 96, 3) := by decide +kernel
theorem dX8_pair_34 : decode cX8_pair 34 = .ok (.ifCond .eq 5, 3) := by decide +kernel
theorem dX8_pair_37 : decode cX8_pair 37 = .ok (.iconst 0, 1) := by decide +kernel
theorem dX8_pair_38 : decode cX8_pair 38 = .ok (.ireturn, 1) := by decide +kernel
theorem dX8_pair_39 : decode cX8_pair 39 = .ok (.aload_n 0, 1) := by decide +kernel
theorem dX8_pair_40 : decode cX8_pair 40 = .ok (.invokevirtual 99, 3) := by decide +kernel
theorem dX8_pair_43 : decode cX8_pair 43 = .ok (.aload_n 0, 1) := by decide +kernel
theorem dX8_pair_44 : decode cX8_pair 44 = .ok (.iload_n 1, 1) := by decide +kernel
theorem dX8_pair_45 : decode cX8_pair 45 = .ok (.invokevirtual 111, 3) := by decide +kernel
theorem dX8_pair_48 : decode cX8_pair 48 = .ok (.aload_n 0, 1) := by decide +kernel
theorem dX8_pair_49 : decode cX8_pair 49 = .ok (.iload_n 2, 1) := by decide +kernel
theorem dX8_pair_50 : decode cX8_pair 50 = .ok (.invokevirtual 111, 3) := by decide +kernel
theorem dX8_pair_53 : decode cX8_pair 53 = .ok (.aload_n 0, 1) := by decide +kernel
theorem dX8_pair_54 : decode cX8_pair 54 = .ok (.getfield 7, 3) := by decide +kernel
theorem dX8_pair_57 : decode cX8_pair 57 = .ok (.bipush 16, 2) := by decide +kernel
theorem dX8_pair_59 : decode cX8_pair 59 = .ok (.iload_n 1, 1) := by decide +kernel
theorem dX8_pair_60 : decode cX8_pair 60 = .ok (.imul, 1) := by decide +kernel
theorem dX8_pair_61 : decode cX8_pair 61 = .ok (.bipush 10, 2) := by decide +kernel
theorem dX8_pair_63 : decode cX8_pair 63 = .ok (.iadd, 1) := by decide +kernel
theorem dX8_pair_64 : decode cX8_pair 64 = .ok (.iload_n 2, 1) := by decide +kernel
theorem dX8_pair_65 : decode cX8_pair 65 = .ok (.iconst 1, 1) := by decide +kernel
theorem dX8_pair_66 : decode cX8_pair 66 = .ok (.iadd, 1) := by decide +kernel
theorem dX8_pair_67 : decode cX8_pair 67 = .ok (.iastore, 1) := by decide +kernel
theorem dX8_pair_68 : decode cX8_pair 68 = .ok (.aload_n 0, 1) := by decide +kernel
theorem dX8_pair_69 : decode cX8_pair 69 = .ok (.getfield 7, 3) := by decide +kernel
theorem dX8_pair_72 : decode cX8_pair 72 = .ok (.bipush 16, 2) := by decide +kernel
theorem dX8_pair_74 : decode cX8_pair 74 = .ok (.iload_n 2, 1) := by decide +kernel
theorem dX8_pair_75 : decode cX8_pair 75 = .ok (.imul, 1) := by decide +kernel
theorem dX8_pair_76 : decode cX8_pair 76 = .ok (.bipush 10, 2) := by decide +kernel
theorem dX8_pair_78 : decode cX8_pair 78 = .ok (.iadd, 1) := by decide +kernel
theorem dX8_pair_79 : decode cX8_pair 79 = .ok (.iload_n 1, 1) := by decide +kernel
theorem dX8_pair_80 : decode cX8_pair 80 = .ok (.iconst 1, 1) := by decide +kernel
theorem dX8_pair_81 : decode cX8_pair 81 = .ok (.iadd, 1) := by decide +kernel
theorem dX8_pair_82 : decode cX8_pair 82 = .ok (.iastore, 1) := by decide +kernel
theorem dX8_pair_83 : decode cX8_pair 83 = .ok (.iconst 0, 1) := by decide +kernel
theorem dX8_pair_84 : decode cX8_pair 84 = .ok (.istore_n 3, 1) := by decide +kernel
theorem dX8_pair_85 : decode cX8_pair 85 = .ok (.iconst 0, 1) := by decide +kernel
theorem dX8_pair_86 : decode cX8_pair 86 = .ok (.istore 4, 2) := by decide +kernel
theorem dX8_pair_88 : decode cX8_pair 88 = .ok (.iload 4, 2) := by decide +kernel
theorem dX8_pair_90 : decode cX8_pair 90 = .ok (.aload_n 0, 1) := by decide +kernel
theorem dX8_pair_91 : decode cX8_pair 91 = .ok (.getfield 7, 3) := by decide +kernel
theorem dX8_pair_94 : decode cX8_pair 94 = .ok (.sipush 128, 3) := by decide +kernel
theorem dX8_pair_97 : decode cX8_pair 97 = .ok (.iaload, 1) := by decide +kernel
theorem dX8_pair_98 : decode cX8_pair 98 = .ok (.if_icmp .ge 28, 3) := by decide +kernel
theorem dX8_pair_101 : decode cX8_pair 101 = .ok (.iload_n 3, 1) := by decide +kernel
theorem dX8_pair_102 : decode cX8_pair 102 = .ok (.aload_n 0, 1) := by decide +kernel
theorem dX8_pair_103 : decode cX8_pair 103 = .ok (.iload 4, 2) := by decide +kernel
theorem dX8_pair_105 : decode cX8_pair 105 = .ok (.bipush 10, 2) := by decide +kernel
theorem dX8_pair_107 : decode cX8_pair 107 = .ok (.invokevirtual 40, 3) := by decide +kernel
theorem dX8_pair_110 : decode cX8_pair 110 = .ok (.ifCond .le 7, 3) := by decide +kernel
theorem dX8_pair_113 : decode cX8_pair 113 = .ok (.iconst 1, 1) := by decide +kernel
theorem dX8_pair_114 : decode cX8_pair 114 = .ok (.goto 4, 3) := by decide +kernel
theorem dX8_pair_117 : decode cX8_pair 117 = .ok (.iconst 0, 1) := by decide +kernel
theorem dX8_pair_118 : decode cX8_pair 118 = .ok (.iadd, 1) := by decide +kernel
theorem dX8_pair_119 : decode cX8_pair 119 = .ok (.istore_n 3, 1) := by decide +kernel
theorem dX8_pair_120 : decode cX8_pair 120 = .ok (.iinc 4 1, 3) := by decide +kernel
theorem dX8_pair_123 : decode cX8_pair 123 = .ok (.goto (-35), 3) := by decide +kernel
theorem dX8_pair_126 : decode cX8_pair 126 = .ok (.iload_n 3, 1) := by decide +kernel
theorem dX8_pair_127 : decode cX8_pair 127 = .ok (.iconst 2, 1) := by decide +kernel
theorem dX8_pair_128 : decode cX8_pair 128 = .ok (.idiv, 1) := by decide +kernel
theorem dX8_pair_129 : decode cX8_pair 129 = .ok (.ireturn, 1) := by decide +kernel
theorem dX8_sets_0 : decode cX8_sets 0 = .ok (.aload_n 0, 1) := by decide +kernel
theorem dX8_sets_1 : decode cX8_sets 1 = .ok (.getfield 7, 3) := by decide +kernel
theorem dX8_sets_4 : decode cX8_sets 4 = .ok (.iload_n 1, 1) := by decide +kernel
theorem dX8_sets_5 : decode cX8_sets 5 = .ok (.iaload, 1) := by decide +kernel
theorem dX8_sets_6 : decode cX8_sets 6 = .ok (.istore_n 3, 1) := by decide +kernel
theorem dX8_sets_7 : decode cX8_sets 7 = .ok (.aload_n 0, 1) := by decide +kernel
theorem dX8_sets_8 : decode cX8_sets 8 = .ok (.getfield 7, 3) := by decide +kernel
theorem dX8_sets_11 : decode cX8_sets 11 = .ok (.iload_n 1, 1) := by decide +kernel
theorem dX8_sets_12 : decode cX8_sets 12 = .ok (.iload_n 2, 1) := by decide +kernel
theorem dX8_sets_13 : decode cX8_sets 13 = .ok (.iastore, 1) := by decide +kernel
theorem dX8_sets_14 : decode cX8_sets 14 = .ok (.iload_n 3, 1) := by decide +kernel
theorem dX8_sets_15 : decode cX8_sets 15 = .ok (.ireturn, 1) := by decide +kernel
theorem dX8_setLimit_0 : decode cX8_setLimit 0 = .ok (.aload_n 0, 1) := by decide +kernel
theorem dX8_setLimit_1 : decode cX8_setLimit 1 = .ok (.iload_n 1, 1) := by decide +kernel
theorem dX8_setLimit_2 : decode cX8_setLimit 2 = .ok (.iconst 0, 1) := by decide +kernel
theorem dX8_setLimit_3 : decode cX8_setLimit 3 = .ok (.iconst 3, 1) := by decide +kernel
theorem dX8_setLimit_4 : decode cX8_setLimit 4 = .ok (.invokestatic 36, 3) := by decide +kernel
theorem dX8_setLimit_7 : decode cX8_setLimit 7 = .ok (.ifCond .ne 7, 3) := by decide +kernel
theorem dX8_setLimit_10 : decode cX8_setLimit 10 = .ok (.iconst 1, 1) := by decide +kernel
theorem dX8_setLimit_11 : decode cX8_setLimit 11 = .ok (.goto 19, 3) := by decide +kernel
theorem dX8_setLimit_14 : decode cX8_setLimit 14 = .ok (.iload_n 2, 1) := by decide +kernel
theorem dX8_setLimit_15 : decode cX8_setLimit 15 = .ok (.bipush 8, 2) := by decide +kernel
theorem dX8_setLimit_17 : decode cX8_setLimit 17 = .ok (.bipush 40, 2) := by decide +kernel
theorem dX8_setLimit_19 : decode cX8_setLimit 19 = .ok (.invokestatic 36, 3) := by decide +kernel
theorem dX8_setLimit_22 : decode cX8_setLimit 22 = .ok (.ifCond .eq 7, 3) := by decide +kernel
theorem dX8_setLimit_25 : decode cX8_setLimit 25 = .ok (.iconst 0, 1) := by decide +kernel
theorem dX8_setLimit_26 : decode cX8_setLimit 26 = .ok (.goto 4, 3) := by decide +kernel
theorem dX8_setLimit_29 : decode cX8_setLimit 29 = .ok (.iconst 2, 1) := by decide +kernel
theorem dX8_setLimit_30 : decode cX8_setLimit 30 = .ok (.invokevirtual 96, 3) := by decide +kernel
theorem dX8_setLimit_33 : decode cX8_setLimit 33 = .ok (.ifCond .eq 5, 3) := by decide +kernel
theorem dX8_setLimit_36 : decode cX8_setLimit 36 = .ok (.iconst 0, 1) := by decide +kernel
theorem dX8_setLimit_37 : decode cX8_setLimit 37 = .ok (.ireturn, 1) := by decide +kernel
theorem dX8_setLimit_38 : decode cX8_setLimit 38 = .ok (.aload_n 0, 1) := by decide +kernel
theorem dX8_setLimit_39 : decode cX8_setLimit 39 = .ok (.invokevirtual 99, 3) := by decide +kernel
theorem dX8_setLimit_42 : decode cX8_setLimit 42 = .ok (.aload_n 0, 1) := by decide +kernel
theorem dX8_setLimit_43 : decode cX8_setLimit 43 = .ok (.sipush 129, 3) := by decide +kernel
theorem dX8_setLimit_46 : decode cX8_setLimit 46 = .ok (.iload_n 1, 1) := by decide +kernel
theorem dX8_setLimit_47 : decode cX8_setLimit 47 = .ok (.iadd, 1) := by decide +kernel
theorem dX8_setLimit_48 : decode cX8_setLimit 48 = .ok (.iload_n 2, 1) := by decide +kernel
theorem dX8_setLimit_49 : decode cX8_setLimit 49 = .ok (.invokevirtual 115, 3) := by decide +kernel
theorem dX8_setLimit_52 : decode cX8_setLimit 52 = .ok (.ireturn, 1) := by decide +kernel
theorem dX8_setLaps_0 : decode cX8_setLaps 0 = .ok (.aload_n 0, 1) := by decide +kernel
theorem dX8_setLaps_1 : decode cX8_setLaps 1 = .ok (.iload_n 1, 1) := by decide +kernel
theorem dX8_setLaps_2 : decode cX8_setLaps 2 = .ok (.iconst 1, 1) := by decide +kernel
theorem dX8_setLaps_3 : decode cX8_setLaps 3 = .ok (.bipush 9, 2) := by decide +kernel
theorem dX8_setLaps_5 : decode cX8_setLaps 5 = .ok (.invokestatic 36, 3) := by decide +kernel
theorem dX8_setLaps_8 : decode cX8_setLaps 8 = .ok (.ifCond .ne 7, 3) := by decide +kernel
theorem dX8_setLaps_11 : decode cX8_setLaps 11 = .ok (.iconst 1, 1) := by decide +kernel
theorem dX8_setLaps_12 : decode cX8_setLaps 12 = .ok (.goto 20, 3) := by decide +kernel
theorem dX8_setLaps_15 : decode cX8_setLaps 15 = .ok (.aload_n 0, 1) := by decide +kernel
theorem dX8_setLaps_16 : decode cX8_setLaps 16 = .ok (.getfield 7, 3) := by decide +kernel
theorem dX8_setLaps_19 : decode cX8_setLaps 19 = .ok (.sipush 150, 3) := by decide +kernel
theorem dX8_setLaps_22 : decode cX8_setLaps 22 = .ok (.iaload, 1) := by decide +kernel
theorem dX8_setLaps_23 : decode cX8_setLaps 23 = .ok (.iconst 1, 1) := by decide +kernel
theorem dX8_setLaps_24 : decode cX8_setLaps 24 = .ok (.if_icmp .ne 7, 3) := by decide +kernel
theorem dX8_setLaps_27 : decode cX8_setLaps 27 = .ok (.iconst 2, 1) := by decide +kernel
theorem dX8_setLaps_28 : decode cX8_setLaps 28 = .ok (.goto 4, 3) := by decide +kernel
theorem dX8_setLaps_31 : decode cX8_setLaps 31 = .ok (.iconst 0, 1) := by decide +kernel
theorem dX8_setLaps_32 : decode cX8_setLaps 32 = .ok (.invokevirtual 96, 3) := by decide +kernel
theorem dX8_setLaps_35 : decode cX8_setLaps 35 = .ok (.ifCond .eq 5, 3) := by decide +kernel
theorem dX8_setLaps_38 : decode cX8_setLaps 38 = .ok (.iconst 0, 1) := by decide +kernel
theorem dX8_setLaps_39 : decode cX8_setLaps 39 = .ok (.ireturn, 1) := by decide +kernel
theorem dX8_setLaps_40 : decode cX8_setLaps 40 = .ok (.aload_n 0, 1) := by decide +kernel
theorem dX8_setLaps_41 : decode cX8_setLaps 41 = .ok (.invokevirtual 99, 3) := by decide +kernel
theorem dX8_setLaps_44 : decode cX8_setLaps 44 = .ok (.aload_n 0, 1) := by decide +kernel
theorem dX8_setLaps_45 : decode cX8_setLaps 45 = .ok (.sipush 133, 3) := by decide +kernel
theorem dX8_setLaps_48 : decode cX8_setLaps 48 = .ok (.iload_n 1, 1) := by decide +kernel
theorem dX8_setLaps_49 : decode cX8_setLaps 49 = .ok (.invokevirtual 115, 3) := by decide +kernel
theorem dX8_setLaps_52 : decode cX8_setLaps 52 = .ok (.ireturn, 1) := by decide +kernel
theorem dX8_begin_0 : decode cX8_begin 0 = .ok (.aload_n 0, 1) := by decide +kernel
theorem dX8_begin_1 : decode cX8_begin 1 = .ok (.aload_n 0, 1) := by decide +kernel
theorem dX8_begin_2 : decode cX8_begin 2 = .ok (.getfield 7, 3) := by decide +kernel
theorem dX8_begin_5 : decode cX8_begin 5 = .ok (.sipush 128, 3) := by decide +kernel
theorem dX8_begin_8 : decode cX8_begin 8 = .ok (.iaload, 1) := by decide +kernel
theorem dX8_begin_9 : decode cX8_begin 9 = .ok (.ifCond .ne 7, 3) := by decide +kernel
theorem dX8_begin_12 : decode cX8_begin 12 = .ok (.iconst 1, 1) := by decide +kernel
theorem dX8_begin_13 : decode cX8_begin 13 = .ok (.goto 4, 3) := by decide +kernel
theorem dX8_begin_16 : decode cX8_begin 16 = .ok (.iconst 0, 1) := by decide +kernel
theorem dX8_begin_17 : decode cX8_begin 17 = .ok (.invokevirtual 96, 3) := by decide +kernel
theorem dX8_begin_20 : decode cX8_begin 20 = .ok (.ifCond .eq 5, 3) := by decide +kernel
theorem dX8_begin_23 : decode cX8_begin 23 = .ok (.iconst 0, 1) := by decide +kernel
theorem dX8_begin_24 : decode cX8_begin 24 = .ok (.ireturn, 1) := by decide +kernel
theorem dX8_begin_25 : decode cX8_begin 25 = .ok (.aload_n 0, 1) := by decide +kernel
theorem dX8_begin_26 : decode cX8_begin 26 = .ok (.invokevirtual 99, 3) := by decide +kernel
theorem dX8_begin_29 : decode cX8_begin 29 = .ok (.iconst 0, 1) := by decide +kernel
theorem dX8_begin_30 : decode cX8_begin 30 = .ok (.istore_n 1, 1) := by decide +kernel
theorem dX8_begin_31 : decode cX8_begin 31 = .ok (.iload_n 1, 1) := by decide +kernel
theorem dX8_begin_32 : decode cX8_begin 32 = .ok (.aload_n 0, 1) := by decide +kernel
theorem dX8_begin_33 : decode cX8_begin 33 = .ok (.getfield 7, 3) := by decide +kernel
theorem dX8_begin_36 : decode cX8_begin 36 = .ok (.sipush 128, 3) := by decide +kernel
theorem dX8_begin_39 : decode cX8_begin 39 = .ok (.iaload, 1) := by decide +kernel
theorem dX8_begin_40 : decode cX8_begin 40 = .ok (.if_icmp .ge 115, 3) := by decide +kernel
theorem dX8_begin_43 : decode cX8_begin 43 = .ok (.bipush 16, 2) := by decide +kernel
theorem dX8_begin_45 : decode cX8_begin 45 = .ok (.iload_n 1, 1) := by decide +kernel
theorem dX8_begin_46 : decode cX8_begin 46 = .ok (.imul, 1) := by decide +kernel
theorem dX8_begin_47 : decode cX8_begin 47 = .ok (.istore_n 2, 1) := by decide +kernel
theorem dX8_begin_48 : decode cX8_begin 48 = .ok (.aload_n 0, 1) := by decide +kernel
theorem dX8_begin_49 : decode cX8_begin 49 = .ok (.getfield 7, 3) := by decide +kernel
theorem dX8_begin_52 : decode cX8_begin 52 = .ok (.iload_n 2, 1) := by decide +kernel
theorem dX8_begin_53 : decode cX8_begin 53 = .ok (.iconst 3, 1) := by decide +kernel
theorem dX8_begin_54 : decode cX8_begin 54 = .ok (.iadd, 1) := by decide +kernel
theorem dX8_begin_55 : decode cX8_begin 55 = .ok (.aload_n 0, 1) := by decide +kernel
theorem dX8_begin_56 : decode cX8_begin 56 = .ok (.getfield 7, 3) := by decide +kernel
theorem dX8_begin_59 : decode cX8_begin 59 = .ok (.iload_n 2, 1) := by decide +kernel
theorem dX8_begin_60 : decode cX8_begin 60 = .ok (.iconst 1, 1) := by decide +kernel
theorem dX8_begin_61 : decode cX8_begin 61 = .ok (.iadd, 1) := by decide +kernel
theorem dX8_begin_62 : decode cX8_begin 62 = .ok (.iaload, 1) := by decide +kernel
theorem dX8_begin_63 : decode cX8_begin 63 = .ok (.iastore, 1) := by decide +kernel
theorem dX8_begin_64 : decode cX8_begin 64 = .ok (.aload_n 0, 1) := by decide +kernel
theorem dX8_begin_65 : decode cX8_begin 65 = .ok (.getfield 7, 3) := by decide +kernel
theorem dX8_begin_68 : decode cX8_begin 68 = .ok (.iload_n 2, 1) := by decide +kernel
theorem dX8_begin_69 : decode cX8_begin 69 = .ok (.iconst 5, 1) := by decide +kernel
theorem dX8_begin_70 : decode cX8_begin 70 = .ok (.iadd, 1) := by decide +kernel
theorem dX8_begin_71 : decode cX8_begin 71 = .ok (.aload_n 0, 1) := by decide +kernel
theorem dX8_begin_72 : decode cX8_begin 72 = .ok (.getfield 7, 3) := by decide +kernel
theorem dX8_begin_75 : decode cX8_begin 75 = .ok (.iload_n 2, 1) := by decide +kernel
theorem dX8_begin_76 : decode cX8_begin 76 = .ok (.iconst 2, 1) := by decide +kernel
theorem dX8_begin_77 : decode cX8_begin 77 = .ok (.iadd, 1) := by decide +kernel
theorem dX8_begin_78 : decode cX8_begin 78 = .ok (.iaload, 1) := by decide +kernel
theorem dX8_begin_79 : decode cX8_begin 79 = .ok (.iastore, 1) := by decide +kernel
theorem dX8_begin_80 : decode cX8_begin 80 = .ok (.aload_n 0, 1) := by decide +kernel
theorem dX8_begin_81 : decode cX8_begin 81 = .ok (.getfield 7, 3) := by decide +kernel
theorem dX8_begin_84 : decode cX8_begin 84 = .ok (.iload_n 2, 1) := by decide +kernel
theorem dX8_begin_85 : decode cX8_begin 85 = .ok (.iconst 4, 1) := by decide +kernel
theorem dX8_begin_86 : decode cX8_begin 86 = .ok (.iadd, 1) := by decide +kernel
theorem dX8_begin_87 : decode cX8_begin 87 = .ok (.iconst 0, 1) := by decide +kernel
theorem dX8_begin_88 : decode cX8_begin 88 = .ok (.iastore, 1) := by decide +kernel
theorem dX8_begin_89 : decode cX8_begin 89 = .ok (.aload_n 0, 1) := by decide +kernel
theorem dX8_begin_90 : decode cX8_begin 90 = .ok (.getfield 7, 3) := by decide +kernel
theorem dX8_begin_93 : decode cX8_begin 93 = .ok (.iload_n 2, 1) := by decide +kernel
theorem dX8_begin_94 : decode cX8_begin 94 = .ok (.bipush 6, 2) := by decide +kernel
theorem dX8_begin_96 : decode cX8_begin 96 = .ok (.iadd, 1) := by decide +kernel
theorem dX8_begin_97 : decode cX8_begin 97 = .ok (.iconst 1, 1) := by decide +kernel
theorem dX8_begin_98 : decode cX8_begin 98 = .ok (.iastore, 1) := by decide +kernel
theorem dX8_begin_99 : decode cX8_begin 99 = .ok (.aload_n 0, 1) := by decide +kernel
theorem dX8_begin_100 : decode cX8_begin 100 = .ok (.getfield 7, 3) := by decide +kernel
theorem dX8_begin_103 : decode cX8_begin 103 = .ok (.iload_n 2, 1) := by decide +kernel
theorem dX8_begin_104 : decode cX8_begin 104 = .ok (.bipush 7, 2) := by decide +kernel
theorem dX8_begin_106 : decode cX8_begin 106 = .ok (.iadd, 1) := by decide +kernel
theorem dX8_begin_107 : decode cX8_begin 107 = .ok (.iconst 0, 1) := by decide +kernel
theorem dX8_begin_108 : decode cX8_begin 108 = .ok (.iastore, 1) := by decide +kernel
theorem dX8_begin_109 : decode cX8_begin 109 = .ok (.aload_n 0, 1) := by decide +kernel
theorem dX8_begin_110 : decode cX8_begin 110 = .ok (.getfield 7, 3) := by decide +kernel
theorem dX8_begin_113 : decode cX8_begin 113 = .ok (.iload_n 2, 1) := by decide +kernel
theorem dX8_begin_114 : decode cX8_begin 114 = .ok (.bipush 8, 2) := by decide +kernel
theorem dX8_begin_116 : decode cX8_begin 116 = .ok (.iadd, 1) := by decide +kernel
theorem dX8_begin_117 : decode cX8_begin 117 = .ok (.iconst 0, 1) := by decide +kernel
theorem dX8_begin_118 : decode cX8_begin 118 = .ok (.iastore, 1) := by decide +kernel
theorem dX8_begin_119 : decode cX8_begin 119 = .ok (.aload_n 0, 1) := by decide +kernel
theorem dX8_begin_120 : decode cX8_begin 120 = .ok (.getfield 7, 3) := by decide +kernel
theorem dX8_begin_123 : decode cX8_begin 123 = .ok (.iload_n 2, 1) := by decide +kernel
theorem dX8_begin_124 : decode cX8_begin 124 = .ok (.bipush 9, 2) := by decide +kernel
theorem dX8_begin_126 : decode cX8_begin 126 = .ok (.iadd, 1) := by decide +kernel
theorem dX8_begin_127 : decode cX8_begin 127 = .ok (.iconst 0, 1) := by decide +kernel
theorem dX8_begin_128 : decode cX8_begin 128 = .ok (.iastore, 1) := by decide +kernel
theorem dX8_begin_129 : decode cX8_begin 129 = .ok (.aload_n 0, 1) := by decide +kernel
theorem dX8_begin_130 : decode cX8_begin 130 = .ok (.getfield 7, 3) := by decide +kernel
theorem dX8_begin_133 : decode cX8_begin 133 = .ok (.iload_n 2, 1) := by decide +kernel
theorem dX8_begin_134 : decode cX8_begin 134 = .ok (.bipush 11, 2) := by decide +kernel
theorem dX8_begin_136 : decode cX8_begin 136 = .ok (.iadd, 1) := by decide +kernel
theorem dX8_begin_137 : decode cX8_begin 137 = .ok (.iconst 0, 1) := by decide +kernel
theorem dX8_begin_138 : decode cX8_begin 138 = .ok (.iastore, 1) := by decide +kernel
theorem dX8_begin_139 : decode cX8_begin 139 = .ok (.aload_n 0, 1) := by decide +kernel
theorem dX8_begin_140 : decode cX8_begin 140 = .ok (.getfield 7, 3) := by decide +kernel
theorem dX8_begin_143 : decode cX8_begin 143 = .ok (.iload_n 2, 1) := by decide +kernel
theorem dX8_begin_144 : decode cX8_begin 144 = .ok (.bipush 12, 2) := by decide +kernel
theorem dX8_begin_146 : decode cX8_begin 146 = .ok (.iadd, 1) := by decide +kernel
theorem dX8_begin_147 : decode cX8_begin 147 = .ok (.iconst 0, 1) := by decide +kernel
theorem dX8_begin_148 : decode cX8_begin 148 = .ok (.iastore, 1) := by decide +kernel
theorem dX8_begin_149 : decode cX8_begin 149 = .ok (.iinc 1 1, 3) := by decide +kernel
theorem dX8_begin_152 : decode cX8_begin 152 = .ok (.goto (-121), 3) := by decide +kernel
theorem dX8_begin_155 : decode cX8_begin 155 = .ok (.aload_n 0, 1) := by decide +kernel
theorem dX8_begin_156 : decode cX8_begin 156 = .ok (.getfield 7, 3) := by decide +kernel
theorem dX8_begin_159 : decode cX8_begin 159 = .ok (.sipush 134, 3) := by decide +kernel
theorem dX8_begin_162 : decode cX8_begin 162 = .ok (.iconst 0, 1) := by decide +kernel
theorem dX8_begin_163 : decode cX8_begin 163 = .ok (.iastore, 1) := by decide +kernel
theorem dX8_begin_164 : decode cX8_begin 164 = .ok (.aload_n 0, 1) := by decide +kernel
theorem dX8_begin_165 : decode cX8_begin 165 = .ok (.getfield 7, 3) := by decide +kernel
theorem dX8_begin_168 : decode cX8_begin 168 = .ok (.sipush 135, 3) := by decide +kernel
theorem dX8_begin_171 : decode cX8_begin 171 = .ok (.iconst 0, 1) := by decide +kernel
theorem dX8_begin_172 : decode cX8_begin 172 = .ok (.iastore, 1) := by decide +kernel
theorem dX8_begin_173 : decode cX8_begin 173 = .ok (.sipush 144, 3) := by decide +kernel
theorem dX8_begin_176 : decode cX8_begin 176 = .ok (.istore_n 1, 1) := by decide +kernel
theorem dX8_begin_177 : decode cX8_begin 177 = .ok (.iload_n 1, 1) := by decide +kernel
theorem dX8_begin_178 : decode cX8_begin 178 = .ok (.sipush 147, 3) := by decide +kernel
theorem dX8_begin_181 : decode cX8_begin 181 = .ok (.if_icmp .gt 16, 3) := by decide +kernel
theorem dX8_begin_184 : decode cX8_begin 184 = .ok (.aload_n 0, 1) := by decide +kernel
theorem dX8_begin_185 : decode cX8_begin 185 = .ok (.getfield 7, 3) := by decide +kernel
theorem dX8_begin_188 : decode cX8_begin 188 = .ok (.iload_n 1, 1) := by decide +kernel
theorem dX8_begin_189 : decode cX8_begin 189 = .ok (.iconst 0, 1) := by decide +kernel
theorem dX8_begin_190 : decode cX8_begin 190 = .ok (.iastore, 1) := by decide +kernel
theorem dX8_begin_191 : decode cX8_begin 191 = .ok (.iinc 1 1, 3) := by decide +kernel
theorem dX8_begin_194 : decode cX8_begin 194 = .ok (.goto (-17), 3) := by decide +kernel
theorem dX8_begin_197 : decode cX8_begin 197 = .ok (.aload_n 0, 1) := by decide +kernel
theorem dX8_begin_198 : decode cX8_begin 198 = .ok (.getfield 7, 3) := by decide +kernel
theorem dX8_begin_201 : decode cX8_begin 201 = .ok (.sipush 148, 3) := by decide +kernel
theorem dX8_begin_204 : decode cX8_begin 204 = .ok (.dup2, 1) := by decide +kernel
theorem dX8_begin_205 : decode cX8_begin 205 = .ok (.iaload, 1) := by decide +kernel
theorem dX8_begin_206 : decode cX8_begin 206 = .ok (.iconst 1, 1) := by decide +kernel
theorem dX8_begin_207 : decode cX8_begin 207 = .ok (.iadd, 1) := by decide +kernel
theorem dX8_begin_208 : decode cX8_begin 208 = .ok (.iastore, 1) := by decide +kernel
theorem dX8_begin_209 : decode cX8_begin 209 = .ok (.aload_n 0, 1) := by decide +kernel
theorem dX8_begin_210 : decode cX8_begin 210 = .ok (.getfield 7, 3) := by decide +kernel
theorem dX8_begin_213 : decode cX8_begin 213 = .ok (.sipush 150, 3) := by decide +kernel
theorem dX8_begin_216 : decode cX8_begin 216 = .ok (.iconst 1, 1) := by decide +kernel
theorem dX8_begin_217 : decode cX8_begin 217 = .ok (.iastore, 1) := by decide +kernel
theorem dX8_begin_218 : decode cX8_begin 218 = .ok (.aload_n 0, 1) := by decide +kernel
theorem dX8_begin_219 : decode cX8_begin 219 = .ok (.getfield 7, 3) := by decide +kernel
theorem dX8_begin_222 : decode cX8_begin 222 = .ok (.sipush 128, 3) := by decide +kernel
theorem dX8_begin_225 : decode cX8_begin 225 = .ok (.iaload, 1) := by decide +kernel
theorem dX8_begin_226 : decode cX8_begin 226 = .ok (.ireturn, 1) := by decide +kernel
theorem dX8_pass_0 : decode cX8_pass 0 = .ok (.aload_n 0, 1) := by decide +kernel
theorem dX8_pass_1 : decode cX8_pass 1 = .ok (.iload_n 1, 1) := by decide +kernel
theorem dX8_pass_2 : decode cX8_pass 2 = .ok (.iconst 1, 1) := by decide +kernel
theorem dX8_pass_3 : decode cX8_pass 3 = .ok (.sipush 200, 3) := by decide +kernel
theorem dX8_pass_6 : decode cX8_pass 6 = .ok (.invokestatic 36, 3) := by decide +kernel
theorem dX8_pass_9 : decode cX8_pass 9 = .ok (.ifCond .ne 7, 3) := by decide +kernel
theorem dX8_pass_12 : decode cX8_pass 12 = .ok (.iconst 1, 1) := by decide +kernel
theorem dX8_pass_13 : decode cX8_pass 13 = .ok (.goto 20, 3) := by decide +kernel
theorem dX8_pass_16 : decode cX8_pass 16 = .ok (.aload_n 0, 1) := by decide +kernel
theorem dX8_pass_17 : decode cX8_pass 17 = .ok (.getfield 7, 3) := by decide +kernel
theorem dX8_pass_20 : decode cX8_pass 20 = .ok (.sipush 150, 3) := by decide +kernel
theorem dX8_pass_23 : decode cX8_pass 23 = .ok (.iaload, 1) := by decide +kernel
theorem dX8_pass_24 : decode cX8_pass 24 = .ok (.iconst 1, 1) := by decide +kernel
theorem dX8_pass_25 : decode cX8_pass 25 = .ok (.if_icmp .ne 7, 3) := by decide +kernel
theorem dX8_pass_28 : decode cX8_pass 28 = .ok (.iconst 0, 1) := by decide +kernel
theorem dX8_pass_29 : decode cX8_pass 29 = .ok (.goto 4, 3) := by decide +kernel
theorem dX8_pass_32 : decode cX8_pass 32 = .ok (.iconst 2, 1) := by decide +kernel
theorem dX8_pass_33 : decode cX8_pass 33 = .ok (.invokevirtual 96, 3) := by decide +kernel
theorem dX8_pass_36 : decode cX8_pass 36 = .ok (.ifCond .eq 5, 3) := by decide +kernel
theorem dX8_pass_39 : decode cX8_pass 39 = .ok (.iconst 0, 1) := by decide +kernel
theorem dX8_pass_40 : decode cX8_pass 40 = .ok (.ireturn, 1) := by decide +kernel
theorem dX8_pass_41 : decode cX8_pass 41 = .ok (.aload_n 0, 1) := by decide +kernel
theorem dX8_pass_42 : decode cX8_pass 42 = .ok (.invokevirtual 99, 3) := by decide +kernel
theorem dX8_pass_45 : decode cX8_pass 45 = .ok (.aload_n 0, 1) := by decide +kernel
theorem dX8_pass_46 : decode cX8_pass 46 = .ok (.iload_n 1, 1) := by decide +kernel
theorem dX8_pass_47 : decode cX8_pass 47 = .ok (.invokevirtual 118, 3) := by decide +kernel
theorem dX8_pass_50 : decode cX8_pass 50 = .ok (.ireturn, 1) := by decide +kernel
theorem dX8_append_0 : decode cX8_append 0 = .ok (.aload_n 0, 1) := by decide +kernel
theorem dX8_append_1 : decode cX8_append 1 = .ok (.iload_n 1, 1) := by decide +kernel
theorem dX8_append_2 : decode cX8_append 2 = .ok (.bipush 33, 2) := by decide +kernel
theorem dX8_append_4 : decode cX8_append 4 = .ok (.bipush 126, 2) := by decide +kernel
theorem dX8_append_6 : decode cX8_append 6 = .ok (.invokestatic 36, 3) := by decide +kernel
theorem dX8_append_9 : decode cX8_append 9 = .ok (.ifCond .ne 7, 3) := by decide +kernel
theorem dX8_append_12 : decode cX8_append 12 = .ok (.iconst 1, 1) := by decide +kernel
theorem dX8_append_13 : decode cX8_append 13 = .ok (.goto 17, 3) := by decide +kernel
theorem dX8_append_16 : decode cX8_append 16 = .ok (.aload_n 0, 1) := by decide +kernel
theorem dX8_append_17 : decode cX8_append 17 = .ok (.getfield 121, 3) := by decide +kernel
theorem dX8_append_20 : decode cX8_append 20 = .ok (.bipush 60, 2) := by decide +kernel
theorem dX8_append_22 : decode cX8_append 22 = .ok (.if_icmp .ne 7, 3) := by decide +kernel
theorem dX8_append_25 : decode cX8_append 25 = .ok (.iconst 2, 1) := by decide +kernel
theorem dX8_append_26 : decode cX8_append 26 = .ok (.goto 4, 3) := by decide +kernel
theorem dX8_append_29 : decode cX8_append 29 = .ok (.iconst 0, 1) := by decide +kernel
theorem dX8_append_30 : decode cX8_append 30 = .ok (.invokevirtual 96, 3) := by decide +kernel
theorem dX8_append_33 : decode cX8_append 33 = .ok (.ifCond .eq 5, 3) := by decide +kernel
theorem dX8_append_36 : decode cX8_append 36 = .ok (.iconst 0, 1) := by decide +kernel
theorem dX8_append_37 : decode cX8_append 37 = .ok (.ireturn, 1) := by decide +kernel
theorem dX8_append_38 : decode cX8_append 38 = .ok (.aload_n 0, 1) := by decide +kernel
theorem dX8_append_39 : decode cX8_append 39 = .ok (.getfield 26, 3) := by decide +kernel
theorem dX8_append_42 : decode cX8_append 42 = .ok (.aload_n 0, 1) := by decide +kernel
theorem dX8_append_43 : decode cX8_append 43 = .ok (.getfield 121, 3) := by decide +kernel
theorem dX8_append_46 : decode cX8_append 46 = .ok (.iload_n 1, 1) := by decide +kernel
theorem dX8_append_47 : decode cX8_append 47 = .ok (.iastore, 1) := by decide +kernel
theorem dX8_append_48 : decode cX8_append 48 = .ok (.aload_n 0, 1) := by decide +kernel
theorem dX8_append_49 : decode cX8_append 49 = .ok (.dup, 1) := by decide +kernel
theorem dX8_append_50 : decode cX8_append 50 = .ok (.getfield 121, 3) := by decide +kernel
theorem dX8_append_53 : decode cX8_append 53 = .ok (.iconst 1, 1) := by decide +kernel
theorem dX8_append_54 : decode cX8_append 54 = .ok (.iadd, 1) := by decide +kernel
theorem dX8_append_55 : decode cX8_append 55 = .ok (.putfield 121, 3) := by decide +kernel
theorem dX8_append_58 : decode cX8_append 58 = .ok (.aload_n 0, 1) := by decide +kernel
theorem dX8_append_59 : decode cX8_append 59 = .ok (.getfield 121, 3) := by decide +kernel
theorem dX8_append_62 : decode cX8_append 62 = .ok (.ireturn, 1) := by decide +kernel
theorem dX8_clearBuffer_0 : decode cX8_clearBuffer 0 = .ok (.aload_n 0, 1) := by decide +kernel
theorem dX8_clearBuffer_1 : decode cX8_clearBuffer 1 = .ok (.iconst 0, 1) := by decide +kernel
theorem dX8_clearBuffer_2 : decode cX8_clearBuffer 2 = .ok (.putfield 32, 3) := by decide +kernel
theorem dX8_clearBuffer_5 : decode cX8_clearBuffer 5 = .ok (.aload_n 0, 1) := by decide +kernel
theorem dX8_clearBuffer_6 : decode cX8_clearBuffer 6 = .ok (.getfield 121, 3) := by decide +kernel
theorem dX8_clearBuffer_9 : decode cX8_clearBuffer 9 = .ok (.istore_n 1, 1) := by decide +kernel
theorem dX8_clearBuffer_10 : decode cX8_clearBuffer 10 = .ok (.aload_n 0, 1) := by decide +kernel
theorem dX8_clearBuffer_11 : decode cX8_clearBuffer 11 = .ok (.iconst 0, 1) := by decide +kernel
theorem dX8_clearBuffer_12 : decode cX8_clearBuffer 12 = .ok (.putfield 121, 3) := by decide +kernel
theorem dX8_clearBuffer_15 : decode cX8_clearBuffer 15 = .ok (.iload_n 1, 1) := by decide +kernel
theorem dX8_clearBuffer_16 : decode cX8_clearBuffer 16 = .ok (.ireturn, 1) := by decide +kernel
theorem dX8_next_0 : decode cX8_next 0 = .ok (.aload_n 0, 1) := by decide +kernel
theorem dX8_next_1 : decode cX8_next 1 = .ok (.getfield 124, 3) := by decide +kernel
theorem dX8_next_4 : decode cX8_next 4 = .ok (.aload_n 0, 1) := by decide +kernel
theorem dX8_next_5 : decode cX8_next 5 = .ok (.getfield 121, 3) := by decide +kernel
theorem dX8_next_8 : decode cX8_next 8 = .ok (.if_icmp .ge 15, 3) := by decide +kernel
theorem dX8_next_11 : decode cX8_next 11 = .ok (.aload_n 0, 1) := by decide +kernel
theorem dX8_next_12 : decode cX8_next 12 = .ok (.getfield 26, 3) := by decide +kernel
theorem dX8_next_15 : decode cX8_next 15 = .ok (.aload_n 0, 1) := by decide +kernel
theorem dX8_next_16 : decode cX8_next 16 = .ok (.getfield 124, 3) := by decide +kernel
theorem dX8_next_19 : decode cX8_next 19 = .ok (.iaload, 1) := by decide +kernel
theorem dX8_next_20 : decode cX8_next 20 = .ok (.goto 4, 3) := by decide +kernel
theorem dX8_next_23 : decode cX8_next 23 = .ok (.iconst 0, 1) := by decide +kernel
theorem dX8_next_24 : decode cX8_next 24 = .ok (.ireturn, 1) := by decide +kernel
theorem dX8_sign_0 : decode cX8_sign 0 = .ok (.aload_n 0, 1) := by decide +kernel
theorem dX8_sign_1 : decode cX8_sign 1 = .ok (.aload_n 0, 1) := by decide +kernel
theorem dX8_sign_2 : decode cX8_sign 2 = .ok (.getfield 127, 3) := by decide +kernel
theorem dX8_sign_5 : decode cX8_sign 5 = .ok (.ifCond .ne 7, 3) := by decide +kernel
theorem dX8_sign_8 : decode cX8_sign 8 = .ok (.iload_n 1, 1) := by decide +kernel
theorem dX8_sign_9 : decode cX8_sign 9 = .ok (.ifCond .ne 7, 3) := by decide +kernel
theorem dX8_sign_12 : decode cX8_sign 12 = .ok (.iconst 1, 1) := by decide +kernel
theorem dX8_sign_13 : decode cX8_sign 13 = .ok (.goto 4, 3) := by decide +kernel
theorem dX8_sign_16 : decode cX8_sign 16 = .ok (.iconst 0, 1) := by decide +kernel
theorem dX8_sign_17 : decode cX8_sign 17 = .ok (.putfield 127, 3) := by decide +kernel
theorem dX8_sign_20 : decode cX8_sign 20 = .ok (.aload_n 0, 1) := by decide +kernel
theorem dX8_sign_21 : decode cX8_sign 21 = .ok (.dup, 1) := by decide +kernel
theorem dX8_sign_22 : decode cX8_sign 22 = .ok (.getfield 124, 3) := by decide +kernel
theorem dX8_sign_25 : decode cX8_sign 25 = .ok (.aload_n 0, 1) := by decide +kernel
theorem dX8_sign_26 : decode cX8_sign 26 = .ok (.getfield 127, 3) := by decide +kernel
theorem dX8_sign_29 : decode cX8_sign 29 = .ok (.ifCond .eq 7, 3) := by decide +kernel
theorem dX8_sign_32 : decode cX8_sign 32 = .ok (.iconst 0, 1) := by decide +kernel
theorem dX8_sign_33 : decode cX8_sign 33 = .ok (.goto 4, 3) := by decide +kernel
theorem dX8_sign_36 : decode cX8_sign 36 = .ok (.iconst 1, 1) := by decide +kernel
theorem dX8_sign_37 : decode cX8_sign 37 = .ok (.iadd, 1) := by decide +kernel
theorem dX8_sign_38 : decode cX8_sign 38 = .ok (.putfield 124, 3) := by decide +kernel
theorem dX8_sign_41 : decode cX8_sign 41 = .ok (.return_, 1) := by decide +kernel
theorem dX8_digit_0 : decode cX8_digit 0 = .ok (.aload_n 0, 1) := by decide +kernel
theorem dX8_digit_1 : decode cX8_digit 1 = .ok (.invokevirtual 131, 3) := by decide +kernel
theorem dX8_digit_4 : decode cX8_digit 4 = .ok (.bipush 48, 2) := by decide +kernel
theorem dX8_digit_6 : decode cX8_digit 6 = .ok (.isub, 1) := by decide +kernel
theorem dX8_digit_7 : decode cX8_digit 7 = .ok (.istore_n 3, 1) := by decide +kernel
theorem dX8_digit_8 : decode cX8_digit 8 = .ok (.aload_n 0, 1) := by decide +kernel
theorem dX8_digit_9 : decode cX8_digit 9 = .ok (.iload_n 3, 1) := by decide +kernel
theorem dX8_digit_10 : decode cX8_digit 10 = .ok (.iload_n 1, 1) := by decide +kernel
theorem dX8_digit_11 : decode cX8_digit 11 = .ok (.iload_n 2, 1) := by decide +kernel
theorem dX8_digit_12 : decode cX8_digit 12 = .ok (.invokestatic 36, 3) := by decide +kernel
theorem dX8_digit_15 : decode cX8_digit 15 = .ok (.invokevirtual 134, 3) := by decide +kernel
theorem dX8_digit_18 : decode cX8_digit 18 = .ok (.iload_n 3, 1) := by decide +kernel
theorem dX8_digit_19 : decode cX8_digit 19 = .ok (.ireturn, 1) := by decide +kernel
theorem dX8_number_0 : decode cX8_number 0 = .ok (.aload_n 0, 1) := by decide +kernel
theorem dX8_number_1 : decode cX8_number 1 = .ok (.iconst 1, 1) := by decide +kernel
theorem dX8_number_2 : decode cX8_number 2 = .ok (.bipush 9, 2) := by decide +kernel
theorem dX8_number_4 : decode cX8_number 4 = .ok (.invokevirtual 138, 3) := by decide +kernel
theorem dX8_number_7 : decode cX8_number 7 = .ok (.istore_n 3, 1) := by decide +kernel
theorem dX8_number_8 : decode cX8_number 8 = .ok (.aload_n 0, 1) := by decide +kernel
theorem dX8_number_9 : decode cX8_number 9 = .ok (.getfield 127, 3) := by decide +kernel
theorem dX8_number_12 : decode cX8_number 12 = .ok (.ifCond .ne 7, 3) := by decide +kernel
theorem dX8_number_15 : decode cX8_number 15 = .ok (.iconst 1, 1) := by decide +kernel
theorem dX8_number_16 : decode cX8_number 16 = .ok (.goto 4, 3) := by decide +kernel
theorem dX8_number_19 : decode cX8_number 19 = .ok (.iconst 0, 1) := by decide +kernel
theorem dX8_number_20 : decode cX8_number 20 = .ok (.istore 4, 2) := by decide +kernel
theorem dX8_number_22 : decode cX8_number 22 = .ok (.aload_n 0, 1) := by decide +kernel
theorem dX8_number_23 : decode cX8_number 23 = .ok (.getfield 127, 3) := by decide +kernel
theorem dX8_number_26 : decode cX8_number 26 = .ok (.ifCond .ne 33, 3) := by decide +kernel
theorem dX8_number_29 : decode cX8_number 29 = .ok (.iload_n 3, 1) := by decide +kernel
theorem dX8_number_30 : decode cX8_number 30 = .ok (.iload_n 1, 1) := by decide +kernel
theorem dX8_number_31 : decode cX8_number 31 = .ok (.if_icmp .ge 28, 3) := by decide +kernel
theorem dX8_number_34 : decode cX8_number 34 = .ok (.bipush 10, 2) := by decide +kernel
theorem dX8_number_36 : decode cX8_number 36 = .ok (.iload_n 3, 1) := by decide +kernel
theorem dX8_number_37 : decode cX8_number 37 = .ok (.imul, 1) := by decide +kernel
theorem dX8_number_38 : decode cX8_number 38 = .ok (.iload_n 2, 1) := by decide +kernel
theorem dX8_number_39 : decode cX8_number 39 = .ok (.if_icmp .le 20, 3) := by decide +kernel
theorem dX8_number_42 : decode cX8_number 42 = .ok (.aload_n 0, 1) := by decide +kernel
theorem dX8_number_43 : decode cX8_number 43 = .ok (.iconst 1, 1) := by decide +kernel
theorem dX8_number_44 : decode cX8_number 44 = .ok (.putfield 127, 3) := by decide +kernel
theorem dX8_number_47 : decode cX8_number 47 = .ok (.aload_n 0, 1) := by decide +kernel
theorem dX8_number_48 : decode cX8_number 48 = .ok (.dup, 1) := by decide +kernel
theorem dX8_number_49 : decode cX8_number 49 = .ok (.getfield 124, 3) := by decide +kernel
theorem dX8_number_52 : decode cX8_number 52 = .ok (.iconst 1, 1) := by decide +kernel
theorem dX8_number_53 : decode cX8_number 53 = .ok (.isub, 1) := by decide +kernel
theorem dX8_number_54 : decode cX8_number 54 = .ok (.putfield 124, 3) := by decide +kernel
