theorem dX11_goesOn_400 : decode cX11_goesOn 400 = .ok (.iload_n 3, 1) := by decide +kernel
theorem dX11_goesOn_401 : decode cX11_goesOn 401 = .ok (.ifCond .eq 21, 3) := by decide +kernel
theorem dX11_goesOn_404 : decode cX11_goesOn 404 = .ok (.aload_n 0, 1) := by decide +kernel
theorem dX11_goesOn_405 : decode cX11_goesOn 405 = .ok (.getfield 101, 3) := by decide +kernel
theorem dX11_goesOn_408 : decode cX11_goesOn 408 = .ok (.iload_n 1, 1) := by decide +kernel
theorem dX11_goesOn_409 : decode cX11_goesOn 409 = .ok (.iaload, 1) := by decide +kernel
theorem dX11_goesOn_410 : decode cX11_goesOn 410 = .ok (.ifCond .ne 12, 3) := by decide +kernel
theorem dX11_goesOn_413 : decode cX11_goesOn 413 = .ok (.aload_n 0, 1) := by decide +kernel
theorem dX11_goesOn_414 : decode cX11_goesOn 414 = .ok (.iconst 1, 1) := by decide +kernel
theorem dX11_goesOn_415 : decode cX11_goesOn 415 = .ok (.aload_n 0, 1) := by decide +kernel
theorem dX11_goesOn_416 : decode cX11_goesOn 416 = .ok (.getfield 23, 3) := by decide +kernel
theorem dX11_goesOn_419 : decode cX11_goesOn 419 = .ok (.invokevirtual 221, 3) := by decide +kernel
theorem dX11_goesOn_422 : decode cX11_goesOn 422 = .ok (.iload_n 2, 1) := by decide +kernel
theorem dX11_goesOn_423 : decode cX11_goesOn 423 = .ok (.iconst 2, 1) := by decide +kernel
theorem dX11_goesOn_424 : decode cX11_goesOn 424 = .ok (.if_icmp .ge 17, 3) := by decide +kernel
theorem dX11_goesOn_427 : decode cX11_goesOn 427 = .ok (.aload_n 0, 1) := by decide +kernel
theorem dX11_goesOn_428 : decode cX11_goesOn 428 = .ok (.getfield 36, 3) := by decide +kernel
theorem dX11_goesOn_431 : decode cX11_goesOn 431 = .ok (.ifCond .ne 8, 3) := by decide +kernel
theorem dX11_goesOn_434 : decode cX11_goesOn 434 = .ok (.aload_n 0, 1) := by decide +kernel
theorem dX11_goesOn_435 : decode cX11_goesOn 435 = .ok (.iconst 1, 1) := by decide +kernel
theorem dX11_goesOn_436 : decode cX11_goesOn 436 = .ok (.invokevirtual 313, 3) := by decide +kernel
theorem dX11_goesOn_439 : decode cX11_goesOn 439 = .ok (.iconst 0, 1) := by decide +kernel
theorem dX11_goesOn_440 : decode cX11_goesOn 440 = .ok (.ireturn, 1) := by decide +kernel
theorem dX11_goesOn_441 : decode cX11_goesOn 441 = .ok (.iload_n 2, 1) := by decide +kernel
theorem dX11_goesOn_442 : decode cX11_goesOn 442 = .ok (.iconst 3, 1) := by decide +kernel
theorem dX11_goesOn_443 : decode cX11_goesOn 443 = .ok (.if_icmp .eq 9, 3) := by decide +kernel
theorem dX11_goesOn_446 : decode cX11_goesOn 446 = .ok (.iload_n 2, 1) := by decide +kernel
theorem dX11_goesOn_447 : decode cX11_goesOn 447 = .ok (.bipush 6, 2) := by decide +kernel
theorem dX11_goesOn_449 : decode cX11_goesOn 449 = .ok (.if_icmp .ne 69, 3) := by decide +kernel
theorem dX11_goesOn_452 : decode cX11_goesOn 452 = .ok (.aload_n 0, 1) := by decide +kernel
theorem dX11_goesOn_453 : decode cX11_goesOn 453 = .ok (.bipush 44, 2) := by decide +kernel
theorem dX11_goesOn_455 : decode cX11_goesOn 455 = .ok (.invokevirtual 235, 3) := by decide +kernel
theorem dX11_goesOn_458 : decode cX11_goesOn 458 = .ok (.ifCond .ne 12, 3) := by decide +kernel
theorem dX11_goesOn_461 : decode cX11_goesOn 461 = .ok (.aload_n 0, 1) := by decide +kernel
theorem dX11_goesOn_462 : decode cX11_goesOn 462 = .ok (.iconst 1, 1) := by decide +kernel
theorem dX11_goesOn_463 : decode cX11_goesOn 463 = .ok (.aload_n 0, 1) := by decide +kernel
theorem dX11_goesOn_464 : decode cX11_goesOn 464 = .ok (.getfield 23, 3) := by decide +kernel
theorem dX11_goesOn_467 : decode cX11_goesOn 467 = .ok (.invokevirtual 221, 3) := by decide +kernel
theorem dX11_goesOn_470 : decode cX11_goesOn 470 = .ok (.aload_n 0, 1) := by decide +kernel
theorem dX11_goesOn_471 : decode cX11_goesOn 471 = .ok (.getfield 36, 3) := by decide +kernel
theorem dX11_goesOn_474 : decode cX11_goesOn 474 = .ok (.ifCond .le 5, 3) := by decide +kernel
theorem dX11_goesOn_477 : decode cX11_goesOn 477 = .ok (.iconst 0, 1) := by decide +kernel
theorem dX11_goesOn_478 : decode cX11_goesOn 478 = .ok (.ireturn, 1) := by decide +kernel
theorem dX11_goesOn_479 : decode cX11_goesOn 479 = .ok (.aload_n 0, 1) := by decide +kernel
theorem dX11_goesOn_480 : decode cX11_goesOn 480 = .ok (.iconst 1, 1) := by decide +kernel
theorem dX11_goesOn_481 : decode cX11_goesOn 481 = .ok (.invokevirtual 313, 3) := by decide +kernel
theorem dX11_goesOn_484 : decode cX11_goesOn 484 = .ok (.aload_n 0, 1) := by decide +kernel
theorem dX11_goesOn_485 : decode cX11_goesOn 485 = .ok (.getfield 98, 3) := by decide +kernel
theorem dX11_goesOn_488 : decode cX11_goesOn 488 = .ok (.iload_n 1, 1) := by decide +kernel
theorem dX11_goesOn_489 : decode cX11_goesOn 489 = .ok (.iload_n 2, 1) := by decide +kernel
theorem dX11_goesOn_490 : decode cX11_goesOn 490 = .ok (.iconst 3, 1) := by decide +kernel
theorem dX11_goesOn_491 : decode cX11_goesOn 491 = .ok (.if_icmp .ne 7, 3) := by decide +kernel
theorem dX11_goesOn_494 : decode cX11_goesOn 494 = .ok (.iconst 4, 1) := by decide +kernel
theorem dX11_goesOn_495 : decode cX11_goesOn 495 = .ok (.goto 4, 3) := by decide +kernel
theorem dX11_goesOn_498 : decode cX11_goesOn 498 = .ok (.iconst 3, 1) := by decide +kernel
theorem dX11_goesOn_499 : decode cX11_goesOn 499 = .ok (.iastore, 1) := by decide +kernel
theorem dX11_goesOn_500 : decode cX11_goesOn 500 = .ok (.aload_n 0, 1) := by decide +kernel
theorem dX11_goesOn_501 : decode cX11_goesOn 501 = .ok (.getfield 101, 3) := by decide +kernel
theorem dX11_goesOn_504 : decode cX11_goesOn 504 = .ok (.iload_n 1, 1) := by decide +kernel
theorem dX11_goesOn_505 : decode cX11_goesOn 505 = .ok (.iconst 0, 1) := by decide +kernel
theorem dX11_goesOn_506 : decode cX11_goesOn 506 = .ok (.iastore, 1) := by decide +kernel
theorem dX11_goesOn_507 : decode cX11_goesOn 507 = .ok (.aload_n 0, 1) := by decide +kernel
theorem dX11_goesOn_508 : decode cX11_goesOn 508 = .ok (.invokevirtual 238, 3) := by decide +kernel
theorem dX11_goesOn_511 : decode cX11_goesOn 511 = .ok (.aload_n 0, 1) := by decide +kernel
theorem dX11_goesOn_512 : decode cX11_goesOn 512 = .ok (.iconst 0, 1) := by decide +kernel
theorem dX11_goesOn_513 : decode cX11_goesOn 513 = .ok (.putfield 126, 3) := by decide +kernel
theorem dX11_goesOn_516 : decode cX11_goesOn 516 = .ok (.iconst 1, 1) := by decide +kernel
theorem dX11_goesOn_517 : decode cX11_goesOn 517 = .ok (.ireturn, 1) := by decide +kernel
theorem dX11_goesOn_518 : decode cX11_goesOn 518 = .ok (.aload_n 0, 1) := by decide +kernel
theorem dX11_goesOn_519 : decode cX11_goesOn 519 = .ok (.iload_n 2, 1) := by decide +kernel
theorem dX11_goesOn_520 : decode cX11_goesOn 520 = .ok (.iconst 5, 1) := by decide +kernel
theorem dX11_goesOn_521 : decode cX11_goesOn 521 = .ok (.if_icmp .ne 8, 3) := by decide +kernel
theorem dX11_goesOn_524 : decode cX11_goesOn 524 = .ok (.bipush 93, 2) := by decide +kernel
theorem dX11_goesOn_526 : decode cX11_goesOn 526 = .ok (.goto 5, 3) := by decide +kernel
theorem dX11_goesOn_529 : decode cX11_goesOn 529 = .ok (.bipush 41, 2) := by decide +kernel
theorem dX11_goesOn_531 : decode cX11_goesOn 531 = .ok (.invokevirtual 235, 3) := by decide +kernel
theorem dX11_goesOn_534 : decode cX11_goesOn 534 = .ok (.ifCond .ne 12, 3) := by decide +kernel
theorem dX11_goesOn_537 : decode cX11_goesOn 537 = .ok (.aload_n 0, 1) := by decide +kernel
theorem dX11_goesOn_538 : decode cX11_goesOn 538 = .ok (.iconst 1, 1) := by decide +kernel
theorem dX11_goesOn_539 : decode cX11_goesOn 539 = .ok (.aload_n 0, 1) := by decide +kernel
theorem dX11_goesOn_540 : decode cX11_goesOn 540 = .ok (.getfield 23, 3) := by decide +kernel
theorem dX11_goesOn_543 : decode cX11_goesOn 543 = .ok (.invokevirtual 221, 3) := by decide +kernel
theorem dX11_goesOn_546 : decode cX11_goesOn 546 = .ok (.aload_n 0, 1) := by decide +kernel
theorem dX11_goesOn_547 : decode cX11_goesOn 547 = .ok (.getfield 36, 3) := by decide +kernel
theorem dX11_goesOn_550 : decode cX11_goesOn 550 = .ok (.ifCond .le 5, 3) := by decide +kernel
theorem dX11_goesOn_553 : decode cX11_goesOn 553 = .ok (.iconst 0, 1) := by decide +kernel
theorem dX11_goesOn_554 : decode cX11_goesOn 554 = .ok (.ireturn, 1) := by decide +kernel
theorem dX11_goesOn_555 : decode cX11_goesOn 555 = .ok (.aload_n 0, 1) := by decide +kernel
theorem dX11_goesOn_556 : decode cX11_goesOn 556 = .ok (.iconst 1, 1) := by decide +kernel
theorem dX11_goesOn_557 : decode cX11_goesOn 557 = .ok (.invokevirtual 313, 3) := by decide +kernel
theorem dX11_goesOn_560 : decode cX11_goesOn 560 = .ok (.aload_n 0, 1) := by decide +kernel
theorem dX11_goesOn_561 : decode cX11_goesOn 561 = .ok (.dup, 1) := by decide +kernel
theorem dX11_goesOn_562 : decode cX11_goesOn 562 = .ok (.getfield 114, 3) := by decide +kernel
theorem dX11_goesOn_565 : decode cX11_goesOn 565 = .ok (.iconst 1, 1) := by decide +kernel
theorem dX11_goesOn_566 : decode cX11_goesOn 566 = .ok (.isub, 1) := by decide +kernel
theorem dX11_goesOn_567 : decode cX11_goesOn 567 = .ok (.putfield 114, 3) := by decide +kernel
theorem dX11_goesOn_570 : decode cX11_goesOn 570 = .ok (.aload_n 0, 1) := by decide +kernel
theorem dX11_goesOn_571 : decode cX11_goesOn 571 = .ok (.dup, 1) := by decide +kernel
theorem dX11_goesOn_572 : decode cX11_goesOn 572 = .ok (.getfield 117, 3) := by decide +kernel
theorem dX11_goesOn_575 : decode cX11_goesOn 575 = .ok (.iconst 1, 1) := by decide +kernel
theorem dX11_goesOn_576 : decode cX11_goesOn 576 = .ok (.isub, 1) := by decide +kernel
theorem dX11_goesOn_577 : decode cX11_goesOn 577 = .ok (.putfield 117, 3) := by decide +kernel
theorem dX11_goesOn_580 : decode cX11_goesOn 580 = .ok (.iload_n 2, 1) := by decide +kernel
theorem dX11_goesOn_581 : decode cX11_goesOn 581 = .ok (.iconst 4, 1) := by decide +kernel
theorem dX11_goesOn_582 : decode cX11_goesOn 582 = .ok (.if_icmp .ne 14, 3) := by decide +kernel
theorem dX11_goesOn_585 : decode cX11_goesOn 585 = .ok (.aload_n 0, 1) := by decide +kernel
theorem dX11_goesOn_586 : decode cX11_goesOn 586 = .ok (.aload_n 0, 1) := by decide +kernel
theorem dX11_goesOn_587 : decode cX11_goesOn 587 = .ok (.getfield 108, 3) := by decide +kernel
theorem dX11_goesOn_590 : decode cX11_goesOn 590 = .ok (.iload_n 1, 1) := by decide +kernel
theorem dX11_goesOn_591 : decode cX11_goesOn 591 = .ok (.iaload, 1) := by decide +kernel
theorem dX11_goesOn_592 : decode cX11_goesOn 592 = .ok (.iconst 0, 1) := by decide +kernel
theorem dX11_goesOn_593 : decode cX11_goesOn 593 = .ok (.invokevirtual 294, 3) := by decide +kernel
theorem dX11_goesOn_596 : decode cX11_goesOn 596 = .ok (.iload_n 2, 1) := by decide +kernel
theorem dX11_goesOn_597 : decode cX11_goesOn 597 = .ok (.iconst 5, 1) := by decide +kernel
theorem dX11_goesOn_598 : decode cX11_goesOn 598 = .ok (.if_icmp .ne 15, 3) := by decide +kernel
theorem dX11_goesOn_601 : decode cX11_goesOn 601 = .ok (.aload_n 0, 1) := by decide +kernel
theorem dX11_goesOn_602 : decode cX11_goesOn 602 = .ok (.getfield 101, 3) := by decide +kernel
theorem dX11_goesOn_605 : decode cX11_goesOn 605 = .ok (.aload_n 0, 1) := by decide +kernel
theorem dX11_goesOn_606 : decode cX11_goesOn 606 = .ok (.getfield 114, 3) := by decide +kernel
theorem dX11_goesOn_609 : decode cX11_goesOn 609 = .ok (.iconst 1, 1) := by decide +kernel
theorem dX11_goesOn_610 : decode cX11_goesOn 610 = .ok (.isub, 1) := by decide +kernel
theorem dX11_goesOn_611 : decode cX11_goesOn 611 = .ok (.iconst 2, 1) := by decide +kernel
theorem dX11_goesOn_612 : decode cX11_goesOn 612 = .ok (.iastore, 1) := by decide +kernel
theorem dX11_goesOn_613 : decode cX11_goesOn 613 = .ok (.aload_n 0, 1) := by decide +kernel
theorem dX11_goesOn_614 : decode cX11_goesOn 614 = .ok (.invokevirtual 238, 3) := by decide +kernel
theorem dX11_goesOn_617 : decode cX11_goesOn 617 = .ok (.iconst 1, 1) := by decide +kernel
theorem dX11_goesOn_618 : decode cX11_goesOn 618 = .ok (.ireturn, 1) := by decide +kernel
theorem dX11_reads_0 : decode cX11_reads 0 = .ok (.aload_n 0, 1) := by decide +kernel
theorem dX11_reads_1 : decode cX11_reads 1 = .ok (.getfield 36, 3) := by decide +kernel
theorem dX11_reads_4 : decode cX11_reads 4 = .ok (.ifCond .le 4, 3) := by decide +kernel
theorem dX11_reads_7 : decode cX11_reads 7 = .ok (.return_, 1) := by decide +kernel
theorem dX11_reads_8 : decode cX11_reads 8 = .ok (.aload_n 0, 1) := by decide +kernel
theorem dX11_reads_9 : decode cX11_reads 9 = .ok (.iconst 0, 1) := by decide +kernel
theorem dX11_reads_10 : decode cX11_reads 10 = .ok (.putfield 114, 3) := by decide +kernel
theorem dX11_reads_13 : decode cX11_reads 13 = .ok (.aload_n 0, 1) := by decide +kernel
theorem dX11_reads_14 : decode cX11_reads 14 = .ok (.iconst 0, 1) := by decide +kernel
theorem dX11_reads_15 : decode cX11_reads 15 = .ok (.putfield 117, 3) := by decide +kernel
theorem dX11_reads_18 : decode cX11_reads 18 = .ok (.aload_n 0, 1) := by decide +kernel
theorem dX11_reads_19 : decode cX11_reads 19 = .ok (.iconst 0, 1) := by decide +kernel
theorem dX11_reads_20 : decode cX11_reads 20 = .ok (.putfield 123, 3) := by decide +kernel
theorem dX11_reads_23 : decode cX11_reads 23 = .ok (.aload_n 0, 1) := by decide +kernel
theorem dX11_reads_24 : decode cX11_reads 24 = .ok (.iconst 0, 1) := by decide +kernel
theorem dX11_reads_25 : decode cX11_reads 25 = .ok (.putfield 126, 3) := by decide +kernel
theorem dX11_reads_28 : decode cX11_reads 28 = .ok (.aload_n 0, 1) := by decide +kernel
theorem dX11_reads_29 : decode cX11_reads 29 = .ok (.iload_n 1, 1) := by decide +kernel
theorem dX11_reads_30 : decode cX11_reads 30 = .ok (.ifCond .eq 7, 3) := by decide +kernel
theorem dX11_reads_33 : decode cX11_reads 33 = .ok (.iconst 1, 1) := by decide +kernel
theorem dX11_reads_34 : decode cX11_reads 34 = .ok (.goto 4, 3) := by decide +kernel
theorem dX11_reads_37 : decode cX11_reads 37 = .ok (.iconst 0, 1) := by decide +kernel
theorem dX11_reads_38 : decode cX11_reads 38 = .ok (.invokevirtual 297, 3) := by decide +kernel
theorem dX11_reads_41 : decode cX11_reads 41 = .ok (.iconst 1, 1) := by decide +kernel
theorem dX11_reads_42 : decode cX11_reads 42 = .ok (.istore_n 2, 1) := by decide +kernel
theorem dX11_reads_43 : decode cX11_reads 43 = .ok (.iload_n 2, 1) := by decide +kernel
theorem dX11_reads_44 : decode cX11_reads 44 = .ok (.ifCond .eq 46, 3) := by decide +kernel
theorem dX11_reads_47 : decode cX11_reads 47 = .ok (.aload_n 0, 1) := by decide +kernel
theorem dX11_reads_48 : decode cX11_reads 48 = .ok (.getfield 126, 3) := by decide +kernel
theorem dX11_reads_51 : decode cX11_reads 51 = .ok (.ifCond .ne 14, 3) := by decide +kernel
theorem dX11_reads_54 : decode cX11_reads 54 = .ok (.aload_n 0, 1) := by decide +kernel
theorem dX11_reads_55 : decode cX11_reads 55 = .ok (.aload_n 0, 1) := by decide +kernel
theorem dX11_reads_56 : decode cX11_reads 56 = .ok (.invokevirtual 316, 3) := by decide +kernel
theorem dX11_reads_59 : decode cX11_reads 59 = .ok (.putfield 126, 3) := by decide +kernel
theorem dX11_reads_62 : decode cX11_reads 62 = .ok (.goto 8, 3) := by decide +kernel
theorem dX11_reads_65 : decode cX11_reads 65 = .ok (.aload_n 0, 1) := by decide +kernel
theorem dX11_reads_66 : decode cX11_reads 66 = .ok (.invokevirtual 319, 3) := by decide +kernel
theorem dX11_reads_69 : decode cX11_reads 69 = .ok (.istore_n 2, 1) := by decide +kernel
theorem dX11_reads_70 : decode cX11_reads 70 = .ok (.iload_n 2, 1) := by decide +kernel
theorem dX11_reads_71 : decode cX11_reads 71 = .ok (.ifCond .eq 14, 3) := by decide +kernel
theorem dX11_reads_74 : decode cX11_reads 74 = .ok (.aload_n 0, 1) := by decide +kernel
theorem dX11_reads_75 : decode cX11_reads 75 = .ok (.getfield 36, 3) := by decide +kernel
theorem dX11_reads_78 : decode cX11_reads 78 = .ok (.ifCond .ne 7, 3) := by decide +kernel
theorem dX11_reads_81 : decode cX11_reads 81 = .ok (.iconst 1, 1) := by decide +kernel
theorem dX11_reads_82 : decode cX11_reads 82 = .ok (.goto 4, 3) := by decide +kernel
theorem dX11_reads_85 : decode cX11_reads 85 = .ok (.iconst 0, 1) := by decide +kernel
theorem dX11_reads_86 : decode cX11_reads 86 = .ok (.istore_n 2, 1) := by decide +kernel
theorem dX11_reads_87 : decode cX11_reads 87 = .ok (.goto (-44), 3) := by decide +kernel
theorem dX11_reads_90 : decode cX11_reads 90 = .ok (.return_, 1) := by decide +kernel
theorem dX11_counts_0 : decode cX11_counts 0 = .ok (.aload_n 0, 1) := by decide +kernel
theorem dX11_counts_1 : decode cX11_counts 1 = .ok (.getfield 36, 3) := by decide +kernel
theorem dX11_counts_4 : decode cX11_counts 4 = .ok (.ifCond .ne 17, 3) := by decide +kernel
theorem dX11_counts_7 : decode cX11_counts 7 = .ok (.iload_n 1, 1) := by decide +kernel
theorem dX11_counts_8 : decode cX11_counts 8 = .ok (.ifCond .eq 13, 3) := by decide +kernel
theorem dX11_counts_11 : decode cX11_counts 11 = .ok (.aload_n 0, 1) := by decide +kernel
theorem dX11_counts_12 : decode cX11_counts 12 = .ok (.bipush 6, 2) := by decide +kernel
theorem dX11_counts_14 : decode cX11_counts 14 = .ok (.aload_n 0, 1) := by decide +kernel
theorem dX11_counts_15 : decode cX11_counts 15 = .ok (.getfield 23, 3) := by decide +kernel
theorem dX11_counts_18 : decode cX11_counts 18 = .ok (.invokevirtual 221, 3) := by decide +kernel
theorem dX11_counts_21 : decode cX11_counts 21 = .ok (.aload_n 0, 1) := by decide +kernel
theorem dX11_counts_22 : decode cX11_counts 22 = .ok (.getfield 36, 3) := by decide +kernel
theorem dX11_counts_25 : decode cX11_counts 25 = .ok (.ifCond .ne 7, 3) := by decide +kernel
theorem dX11_counts_28 : decode cX11_counts 28 = .ok (.aload_n 0, 1) := by decide +kernel
theorem dX11_counts_29 : decode cX11_counts 29 = .ok (.invokevirtual 238, 3) := by decide +kernel
theorem dX11_counts_32 : decode cX11_counts 32 = .ok (.aload_n 0, 1) := by decide +kernel
theorem dX11_counts_33 : decode cX11_counts 33 = .ok (.getfield 36, 3) := by decide +kernel
theorem dX11_counts_36 : decode cX11_counts 36 = .ok (.ifCond .ne 7, 3) := by decide +kernel
theorem dX11_counts_39 : decode cX11_counts 39 = .ok (.iconst 1, 1) := by decide +kernel
theorem dX11_counts_40 : decode cX11_counts 40 = .ok (.goto 4, 3) := by decide +kernel
theorem dX11_counts_43 : decode cX11_counts 43 = .ok (.iconst 0, 1) := by decide +kernel
theorem dX11_counts_44 : decode cX11_counts 44 = .ok (.ireturn, 1) := by decide +kernel
theorem dX11_must__0 : decode cX11_must_ 0 = .ok (.aload_n 0, 1) := by decide +kernel
theorem dX11_must__1 : decode cX11_must_ 1 = .ok (.invokevirtual 232, 3) := by decide +kernel
theorem dX11_must__4 : decode cX11_must_ 4 = .ok (.aload_n 0, 1) := by decide +kernel
theorem dX11_must__5 : decode cX11_must_ 5 = .ok (.getfield 36, 3) := by decide +kernel
theorem dX11_must__8 : decode cX11_must_ 8 = .ok (.ifCond .le 4, 3) := by decide +kernel
theorem dX11_must__11 : decode cX11_must_ 11 = .ok (.return_, 1) := by decide +kernel
theorem dX11_must__12 : decode cX11_must_ 12 = .ok (.aload_n 0, 1) := by decide +kernel
theorem dX11_must__13 : decode cX11_must_ 13 = .ok (.lload_n 1, 1) := by decide +kernel
theorem dX11_must__14 : decode cX11_must_ 14 = .ok (.invokevirtual 303, 3) := by decide +kernel
theorem dX11_must__17 : decode cX11_must_ 17 = .ok (.ifCond .ne 12, 3) := by decide +kernel
theorem dX11_must__20 : decode cX11_must_ 20 = .ok (.aload_n 0, 1) := by decide +kernel
theorem dX11_must__21 : decode cX11_must_ 21 = .ok (.iconst 1, 1) := by decide +kernel
theorem dX11_must__22 : decode cX11_must_ 22 = .ok (.aload_n 0, 1) := by decide +kernel
theorem dX11_must__23 : decode cX11_must_ 23 = .ok (.getfield 23, 3) := by decide +kernel
theorem dX11_must__26 : decode cX11_must_ 26 = .ok (.invokevirtual 221, 3) := by decide +kernel
theorem dX11_must__29 : decode cX11_must_ 29 = .ok (.aload_n 0, 1) := by decide +kernel
theorem dX11_must__30 : decode cX11_must_ 30 = .ok (.getfield 36, 3) := by decide +kernel
theorem dX11_must__33 : decode cX11_must_ 33 = .ok (.ifCond .ne 7, 3) := by decide +kernel
theorem dX11_must__36 : decode cX11_must_ 36 = .ok (.aload_n 0, 1) := by decide +kernel
theorem dX11_must__37 : decode cX11_must_ 37 = .ok (.invokevirtual 238, 3) := by decide +kernel
theorem dX11_must__40 : decode cX11_must_ 40 = .ok (.return_, 1) := by decide +kernel
theorem dX11_has2_0 : decode cX11_has2 0 = .ok (.iload_n 0, 1) := by decide +kernel
theorem dX11_has2_1 : decode cX11_has2 1 = .ok (.iload_n 1, 1) := by decide +kernel
theorem dX11_has2_2 : decode cX11_has2 2 = .ok (.ishr, 1) := by decide +kernel
theorem dX11_has2_3 : decode cX11_has2 3 = .ok (.iconst 1, 1) := by decide +kernel
theorem dX11_has2_4 : decode cX11_has2 4 = .ok (.iand, 1) := by decide +kernel
theorem dX11_has2_5 : decode cX11_has2 5 = .ok (.iconst 1, 1) := by decide +kernel
theorem dX11_has2_6 : decode cX11_has2 6 = .ok (.if_icmp .ne 7, 3) := by decide +kernel
theorem dX11_has2_9 : decode cX11_has2 9 = .ok (.iconst 1, 1) := by decide +kernel
theorem dX11_has2_10 : decode cX11_has2 10 = .ok (.goto 4, 3) := by decide +kernel
theorem dX11_has2_13 : decode cX11_has2 13 = .ok (.iconst 0, 1) := by decide +kernel
theorem dX11_has2_14 : decode cX11_has2 14 = .ok (.ireturn, 1) := by decide +kernel
theorem dX11_knownBut_0 : decode cX11_knownBut 0 = .ok (.aload_n 0, 1) := by decide +kernel
theorem dX11_knownBut_1 : decode cX11_knownBut 1 = .ok (.invokevirtual 232, 3) := by decide +kernel
theorem dX11_knownBut_4 : decode cX11_knownBut 4 = .ok (.aload_n 0, 1) := by decide +kernel
theorem dX11_knownBut_5 : decode cX11_knownBut 5 = .ok (.getfield 36, 3) := by decide +kernel
theorem dX11_knownBut_8 : decode cX11_knownBut 8 = .ok (.ifCond .le 5, 3) := by decide +kernel
theorem dX11_knownBut_11 : decode cX11_knownBut 11 = .ok (.iconst 0, 1) := by decide +kernel
theorem dX11_knownBut_12 : decode cX11_knownBut 12 = .ok (.ireturn, 1) := by decide +kernel
theorem dX11_knownBut_13 : decode cX11_knownBut 13 = .ok (.aload_n 0, 1) := by decide +kernel
theorem dX11_knownBut_14 : decode cX11_knownBut 14 = .ok (.getfield 20, 3) := by decide +kernel
theorem dX11_knownBut_17 : decode cX11_knownBut 17 = .ok (.iconst 1, 1) := by decide +kernel
theorem dX11_knownBut_18 : decode cX11_knownBut 18 = .ok (.if_icmp .ne 14, 3) := by decide +kernel
theorem dX11_knownBut_21 : decode cX11_knownBut 21 = .ok (.aload_n 0, 1) := by decide +kernel
theorem dX11_knownBut_22 : decode cX11_knownBut 22 = .ok (.aload_n 0, 1) := by decide +kernel
theorem dX11_knownBut_23 : decode cX11_knownBut 23 = .ok (.getfield 32, 3) := by decide +kernel
theorem dX11_knownBut_26 : decode cX11_knownBut 26 = .ok (.invokevirtual 322, 3) := by decide +kernel
theorem dX11_knownBut_29 : decode cX11_knownBut 29 = .ok (.ifCond .eq 12, 3) := by decide +kernel
theorem dX11_knownBut_32 : decode cX11_knownBut 32 = .ok (.aload_n 0, 1) := by decide +kernel
theorem dX11_knownBut_33 : decode cX11_knownBut 33 = .ok (.iconst 1, 1) := by decide +kernel
theorem dX11_knownBut_34 : decode cX11_knownBut 34 = .ok (.aload_n 0, 1) := by decide +kernel
theorem dX11_knownBut_35 : decode cX11_knownBut 35 = .ok (.getfield 23, 3) := by decide +kernel
theorem dX11_knownBut_38 : decode cX11_knownBut 38 = .ok (.invokevirtual 221, 3) := by decide +kernel
theorem dX11_knownBut_41 : decode cX11_knownBut 41 = .ok (.aload_n 0, 1) := by decide +kernel
theorem dX11_knownBut_42 : decode cX11_knownBut 42 = .ok (.getfield 36, 3) := by decide +kernel
theorem dX11_knownBut_45 : decode cX11_knownBut 45 = .ok (.ifCond .le 7, 3) := by decide +kernel
theorem dX11_knownBut_48 : decode cX11_knownBut 48 = .ok (.iconst 0, 1) := by decide +kernel
theorem dX11_knownBut_49 : decode cX11_knownBut 49 = .ok (.goto 11, 3) := by decide +kernel
theorem dX11_knownBut_52 : decode cX11_knownBut 52 = .ok (.aload_n 0, 1) := by decide +kernel
theorem dX11_knownBut_53 : decode cX11_knownBut 53 = .ok (.aload_n 0, 1) := by decide +kernel
theorem dX11_knownBut_54 : decode cX11_knownBut 54 = .ok (.getfield 32, 3) := by decide +kernel
theorem dX11_knownBut_57 : decode cX11_knownBut 57 = .ok (.invokevirtual 325, 3) := by decide +kernel
theorem dX11_knownBut_60 : decode cX11_knownBut 60 = .ok (.istore_n 2, 1) := by decide +kernel
theorem dX11_knownBut_61 : decode cX11_knownBut 61 = .ok (.aload_n 0, 1) := by decide +kernel
theorem dX11_knownBut_62 : decode cX11_knownBut 62 = .ok (.getfield 36, 3) := by decide +kernel
theorem dX11_knownBut_65 : decode cX11_knownBut 65 = .ok (.ifCond .ne 25, 3) := by decide +kernel
theorem dX11_knownBut_68 : decode cX11_knownBut 68 = .ok (.iload_n 2, 1) := by decide +kernel
theorem dX11_knownBut_69 : decode cX11_knownBut 69 = .ok (.iconst (-1), 1) := by decide +kernel
theorem dX11_knownBut_70 : decode cX11_knownBut 70 = .ok (.if_icmp .eq 11, 3) := by decide +kernel
theorem dX11_knownBut_73 : decode cX11_knownBut 73 = .ok (.iload_n 1, 1) := by decide +kernel
theorem dX11_knownBut_74 : decode cX11_knownBut 74 = .ok (.iload_n 2, 1) := by decide +kernel
theorem dX11_knownBut_75 : decode cX11_knownBut 75 = .ok (.invokestatic 329, 3) := by decide +kernel
theorem dX11_knownBut_78 : decode cX11_knownBut 78 = .ok (.ifCond .eq 12, 3) := by decide +kernel
theorem dX11_knownBut_81 : decode cX11_knownBut 81 = .ok (.aload_n 0, 1) := by decide +kernel
theorem dX11_knownBut_82 : decode cX11_knownBut 82 = .ok (.iconst 3, 1) := by decide +kernel
theorem dX11_knownBut_83 : decode cX11_knownBut 83 = .ok (.aload_n 0, 1) := by decide +kernel
theorem dX11_knownBut_84 : decode cX11_knownBut 84 = .ok (.getfield 23, 3) := by decide +kernel
theorem dX11_knownBut_87 : decode cX11_knownBut 87 = .ok (.invokevirtual 221, 3) := by decide +kernel
theorem dX11_knownBut_90 : decode cX11_knownBut 90 = .ok (.aload_n 0, 1) := by decide +kernel
theorem dX11_knownBut_91 : decode cX11_knownBut 91 = .ok (.getfield 36, 3) := by decide +kernel
theorem dX11_knownBut_94 : decode cX11_knownBut 94 = .ok (.ifCond .ne 7, 3) := by decide +kernel
theorem dX11_knownBut_97 : decode cX11_knownBut 97 = .ok (.aload_n 0, 1) := by decide +kernel
theorem dX11_knownBut_98 : decode cX11_knownBut 98 = .ok (.invokevirtual 238, 3) := by decide +kernel
theorem dX11_knownBut_101 : decode cX11_knownBut 101 = .ok (.aload_n 0, 1) := by decide +kernel
theorem dX11_knownBut_102 : decode cX11_knownBut 102 = .ok (.getfield 36, 3) := by decide +kernel
theorem dX11_knownBut_105 : decode cX11_knownBut 105 = .ok (.ifCond .le 7, 3) := by decide +kernel
theorem dX11_knownBut_108 : decode cX11_knownBut 108 = .ok (.iconst 0, 1) := by decide +kernel
theorem dX11_knownBut_109 : decode cX11_knownBut 109 = .ok (.goto 4, 3) := by decide +kernel
theorem dX11_knownBut_112 : decode cX11_knownBut 112 = .ok (.iload_n 2, 1) := by decide +kernel
theorem dX11_knownBut_113 : decode cX11_knownBut 113 = .ok (.ireturn, 1) := by decide +kernel
theorem dX11_towning_0 : decode cX11_towning 0 = .ok (.aload_n 0, 1) := by decide +kernel
theorem dX11_towning_1 : decode cX11_towning 1 = .ok (.aload_n 0, 1) := by decide +kernel
theorem dX11_towning_2 : decode cX11_towning 2 = .ok (.getfield 54, 3) := by decide +kernel
theorem dX11_towning_5 : decode cX11_towning 5 = .ok (.aload_n 0, 1) := by decide +kernel
theorem dX11_towning_6 : decode cX11_towning 6 = .ok (.getfield 91, 3) := by decide +kernel
theorem dX11_towning_9 : decode cX11_towning 9 = .ok (.iaload, 1) := by decide +kernel
theorem dX11_towning_10 : decode cX11_towning 10 = .ok (.bipush 6, 2) := by decide +kernel
theorem dX11_towning_12 : decode cX11_towning 12 = .ok (.if_icmp .ne 7, 3) := by decide +kernel
theorem dX11_towning_15 : decode cX11_towning 15 = .ok (.iconst 1, 1) := by decide +kernel
theorem dX11_towning_16 : decode cX11_towning 16 = .ok (.goto 4, 3) := by decide +kernel
theorem dX11_towning_19 : decode cX11_towning 19 = .ok (.iconst 0, 1) := by decide +kernel
theorem dX11_towning_20 : decode cX11_towning 20 = .ok (.invokevirtual 333, 3) := by decide +kernel
theorem dX11_towning_23 : decode cX11_towning 23 = .ok (.ifCond .ne 4, 3) := by decide +kernel
theorem dX11_towning_26 : decode cX11_towning 26 = .ok (.return_, 1) := by decide +kernel
theorem dX11_towning_27 : decode cX11_towning 27 = .ok (.aload_n 0, 1) := by decide +kernel
theorem dX11_towning_28 : decode cX11_towning 28 = .ok (.invokevirtual 232, 3) := by decide +kernel
theorem dX11_towning_31 : decode cX11_towning 31 = .ok (.aload_n 0, 1) := by decide +kernel
theorem dX11_towning_32 : decode cX11_towning 32 = .ok (.getfield 36, 3) := by decide +kernel
theorem dX11_towning_35 : decode cX11_towning 35 = .ok (.ifCond .le 4, 3) := by decide +kernel
theorem dX11_towning_38 : decode cX11_towning 38 = .ok (.return_, 1) := by decide +kernel
theorem dX11_towning_39 : decode cX11_towning 39 = .ok (.aload_n 0, 1) := by decide +kernel
theorem dX11_towning_40 : decode cX11_towning 40 = .ok (.getfield 20, 3) := by decide +kernel
theorem dX11_towning_43 : decode cX11_towning 43 = .ok (.iconst 1, 1) := by decide +kernel
theorem dX11_towning_44 : decode cX11_towning 44 = .ok (.if_icmp .ne 14, 3) := by decide +kernel
theorem dX11_towning_47 : decode cX11_towning 47 = .ok (.aload_n 0, 1) := by decide +kernel
theorem dX11_towning_48 : decode cX11_towning 48 = .ok (.aload_n 0, 1) := by decide +kernel
theorem dX11_towning_49 : decode cX11_towning 49 = .ok (.getfield 32, 3) := by decide +kernel
theorem dX11_towning_52 : decode cX11_towning 52 = .ok (.invokevirtual 322, 3) := by decide +kernel
theorem dX11_towning_55 : decode cX11_towning 55 = .ok (.ifCond .eq 12, 3) := by decide +kernel
theorem dX11_towning_58 : decode cX11_towning 58 = .ok (.aload_n 0, 1) := by decide +kernel
theorem dX11_towning_59 : decode cX11_towning 59 = .ok (.iconst 1, 1) := by decide +kernel
theorem dX11_towning_60 : decode cX11_towning 60 = .ok (.aload_n 0, 1) := by decide +kernel
theorem dX11_towning_61 : decode cX11_towning 61 = .ok (.getfield 23, 3) := by decide +kernel
theorem dX11_towning_64 : decode cX11_towning 64 = .ok (.invokevirtual 221, 3) := by decide +kernel
theorem dX11_towning_67 : decode cX11_towning 67 = .ok (.aload_n 0, 1) := by decide +kernel
theorem dX11_towning_68 : decode cX11_towning 68 = .ok (.getfield 36, 3) := by decide +kernel
theorem dX11_towning_71 : decode cX11_towning 71 = .ok (.ifCond .ne 24, 3) := by decide +kernel
theorem dX11_towning_74 : decode cX11_towning 74 = .ok (.aload_n 0, 1) := by decide +kernel
theorem dX11_towning_75 : decode cX11_towning 75 = .ok (.aload_n 0, 1) := by decide +kernel
theorem dX11_towning_76 : decode cX11_towning 76 = .ok (.getfield 32, 3) := by decide +kernel
theorem dX11_towning_79 : decode cX11_towning 79 = .ok (.invokevirtual 325, 3) := by decide +kernel
theorem dX11_towning_82 : decode cX11_towning 82 = .ok (.iconst (-1), 1) := by decide +kernel
theorem dX11_towning_83 : decode cX11_towning 83 = .ok (.if_icmp .eq 12, 3) := by decide +kernel
theorem dX11_towning_86 : decode cX11_towning 86 = .ok (.aload_n 0, 1) := by decide +kernel
theorem dX11_towning_87 : decode cX11_towning 87 = .ok (.iconst 2, 1) := by decide +kernel
theorem dX11_towning_88 : decode cX11_towning 88 = .ok (.aload_n 0, 1) := by decide +kernel
theorem dX11_towning_89 : decode cX11_towning 89 = .ok (.getfield 23, 3) := by decide +kernel
theorem dX11_towning_92 : decode cX11_towning 92 = .ok (.invokevirtual 221, 3) := by decide +kernel
theorem dX11_towning_95 : decode cX11_towning 95 = .ok (.aload_n 0, 1) := by decide +kernel
theorem dX11_towning_96 : decode cX11_towning 96 = .ok (.getfield 36, 3) := by decide +kernel
theorem dX11_towning_99 : decode cX11_towning 99 = .ok (.ifCond .le 4, 3) := by decide +kernel
theorem dX11_towning_102 : decode cX11_towning 102 = .ok (.return_, 1) := by decide +kernel
theorem dX11_towning_103 : decode cX11_towning 103 = .ok (.aload_n 0, 1) := by decide +kernel
theorem dX11_towning_104 : decode cX11_towning 104 = .ok (.getfield 84, 3) := by decide +kernel
theorem dX11_towning_107 : decode cX11_towning 107 = .ok (.bipush 6, 2) := by decide +kernel
theorem dX11_towning_109 : decode cX11_towning 109 = .ok (.aload_n 0, 1) := by decide +kernel
theorem dX11_towning_110 : decode cX11_towning 110 = .ok (.getfield 91, 3) := by decide +kernel
theorem dX11_towning_113 : decode cX11_towning 113 = .ok (.imul, 1) := by decide +kernel
theorem dX11_towning_114 : decode cX11_towning 114 = .ok (.aload_n 0, 1) := by decide +kernel
theorem dX11_towning_115 : decode cX11_towning 115 = .ok (.getfield 54, 3) := by decide +kernel
theorem dX11_towning_118 : decode cX11_towning 118 = .ok (.aload_n 0, 1) := by decide +kernel
theorem dX11_towning_119 : decode cX11_towning 119 = .ok (.getfield 91, 3) := by decide +kernel
theorem dX11_towning_122 : decode cX11_towning 122 = .ok (.iaload, 1) := by decide +kernel
theorem dX11_towning_123 : decode cX11_towning 123 = .ok (.iadd, 1) := by decide +kernel
theorem dX11_towning_124 : decode cX11_towning 124 = .ok (.aload_n 0, 1) := by decide +kernel
theorem dX11_towning_125 : decode cX11_towning 125 = .ok (.getfield 32, 3) := by decide +kernel
theorem dX11_towning_128 : decode cX11_towning 128 = .ok (.lastore, 1) := by decide +kernel
theorem dX11_towning_129 : decode cX11_towning 129 = .ok (.aload_n 0, 1) := by decide +kernel
theorem dX11_towning_130 : decode cX11_towning 130 = .ok (.invokevirtual 238, 3) := by decide +kernel
theorem dX11_towning_133 : decode cX11_towning 133 = .ok (.aload_n 0, 1) := by decide +kernel
theorem dX11_towning_134 : decode cX11_towning 134 = .ok (.getfield 54, 3) := by decide +kernel
theorem dX11_towning_137 : decode cX11_towning 137 = .ok (.aload_n 0, 1) := by decide +kernel
theorem dX11_towning_138 : decode cX11_towning 138 = .ok (.getfield 91, 3) := by decide +kernel
theorem dX11_towning_141 : decode cX11_towning 141 = .ok (.dup2, 1) := by decide +kernel
theorem dX11_towning_142 : decode cX11_towning 142 = .ok (.iaload, 1) := by decide +kernel
theorem dX11_towning_143 : decode cX11_towning 143 = .ok (.iconst 1, 1) := by decide +kernel
theorem dX11_towning_144 : decode cX11_towning 144 = .ok (.iadd, 1) := by decide +kernel
theorem dX11_towning_145 : decode cX11_towning 145 = .ok (.iastore, 1) := by decide +kernel
theorem dX11_towning_146 : decode cX11_towning 146 = .ok (.return_, 1) := by decide +kernel
theorem dX11_at_0 : decode cX11_at 0 = .ok (.bipush 36, 2) := by decide +kernel
theorem dX11_at_2 : decode cX11_at 2 = .ok (.iload_n 1, 1) := by decide +kernel
theorem dX11_at_3 : decode cX11_at 3 = .ok (.imul, 1) := by decide +kernel
theorem dX11_at_4 : decode cX11_at 4 = .ok (.bipush 6, 2) := by decide +kernel
theorem dX11_at_6 : decode cX11_at 6 = .ok (.iload_n 2, 1) := by decide +kernel
theorem dX11_at_7 : decode cX11_at 7 = .ok (.imul, 1) := by decide +kernel
theorem dX11_at_8 : decode cX11_at 8 = .ok (.iadd, 1) := by decide +kernel
theorem dX11_at_9 : decode cX11_at 9 = .ok (.iload_n 3, 1) := by decide +kernel
theorem dX11_at_10 : decode cX11_at 10 = .ok (.iadd, 1) := by decide +kernel
theorem dX11_at_11 : decode cX11_at 11 = .ok (.ireturn, 1) := by decide +kernel
theorem dX11_carting_0 : decode cX11_carting 0 = .ok (.aload_n 0, 1) := by decide +kernel
theorem dX11_carting_1 : decode cX11_carting 1 = .ok (.aload_n 0, 1) := by decide +kernel
theorem dX11_carting_2 : decode cX11_carting 2 = .ok (.getfield 57, 3) := by decide +kernel
theorem dX11_carting_5 : decode cX11_carting 5 = .ok (.aload_n 0, 1) := by decide +kernel
theorem dX11_carting_6 : decode cX11_carting 6 = .ok (.getfield 91, 3) := by decide +kernel
theorem dX11_carting_9 : decode cX11_carting 9 = .ok (.iaload, 1) := by decide +kernel
theorem dX11_carting_10 : decode cX11_carting 10 = .ok (.bipush 12, 2) := by decide +kernel
theorem dX11_carting_12 : decode cX11_carting 12 = .ok (.if_icmp .ne 7, 3) := by decide +kernel
theorem dX11_carting_15 : decode cX11_carting 15 = .ok (.iconst 1, 1) := by decide +kernel
theorem dX11_carting_16 : decode cX11_carting 16 = .ok (.goto 4, 3) := by decide +kernel
theorem dX11_carting_19 : decode cX11_carting 19 = .ok (.iconst 0, 1) := by decide +kernel
theorem dX11_carting_20 : decode cX11_carting 20 = .ok (.invokevirtual 333, 3) := by decide +kernel
theorem dX11_carting_23 : decode cX11_carting 23 = .ok (.ifCond .ne 4, 3) := by decide +kernel
theorem dX11_carting_26 : decode cX11_carting 26 = .ok (.return_, 1) := by decide +kernel
theorem dX11_carting_27 : decode cX11_carting 27 = .ok (.aload_n 0, 1) := by decide +kernel
theorem dX11_carting_28 : decode cX11_carting 28 = .ok (.iconst 0, 1) := by decide +kernel
theorem dX11_carting_29 : decode cX11_carting 29 = .ok (.invokevirtual 337, 3) := by decide +kernel
theorem dX11_carting_32 : decode cX11_carting 32 = .ok (.istore_n 1, 1) := by decide +kernel
theorem dX11_carting_33 : decode cX11_carting 33 = .ok (.aload_n 0, 1) := by decide +kernel
theorem dX11_carting_34 : decode cX11_carting 34 = .ok (.ldc2_w 245, 3) := by decide +kernel
theorem dX11_carting_37 : decode cX11_carting 37 = .ok (.invokevirtual 340, 3) := by decide +kernel
theorem dX11_carting_40 : decode cX11_carting 40 = .ok (.iconst 1, 1) := by decide +kernel
theorem dX11_carting_41 : decode cX11_carting 41 = .ok (.iload_n 1, 1) := by decide +kernel
theorem dX11_carting_42 : decode cX11_carting 42 = .ok (.ishl, 1) := by decide +kernel
theorem dX11_carting_43 : decode cX11_carting 43 = .ok (.istore_n 2, 1) := by decide +kernel
theorem dX11_carting_44 : decode cX11_carting 44 = .ok (.iconst 0, 1) := by decide +kernel
theorem dX11_carting_45 : decode cX11_carting 45 = .ok (.istore_n 3, 1) := by decide +kernel
theorem dX11_carting_46 : decode cX11_carting 46 = .ok (.iload_n 3, 1) := by decide +kernel
theorem dX11_carting_47 : decode cX11_carting 47 = .ok (.bipush 6, 2) := by decide +kernel
theorem dX11_carting_49 : decode cX11_carting 49 = .ok (.if_icmp .ge 37, 3) := by decide +kernel
theorem dX11_carting_52 : decode cX11_carting 52 = .ok (.iload_n 2, 1) := by decide +kernel
theorem dX11_carting_53 : decode cX11_carting 53 = .ok (.aload_n 0, 1) := by decide +kernel
theorem dX11_carting_54 : decode cX11_carting 54 = .ok (.getfield 60, 3) := by decide +kernel
theorem dX11_carting_57 : decode cX11_carting 57 = .ok (.aload_n 0, 1) := by decide +kernel
theorem dX11_carting_58 : decode cX11_carting 58 = .ok (.aload_n 0, 1) := by decide +kernel
theorem dX11_carting_59 : decode cX11_carting 59 = .ok (.getfield 91, 3) := by decide +kernel
theorem dX11_carting_62 : decode cX11_carting 62 = .ok (.iload_n 1, 1) := by decide +kernel
theorem dX11_carting_63 : decode cX11_carting 63 = .ok (.iload_n 3, 1) := by decide +kernel
theorem dX11_carting_64 : decode cX11_carting 64 = .ok (.invokevirtual 344, 3) := by decide +kernel
theorem dX11_carting_67 : decode cX11_carting 67 = .ok (.iaload, 1) := by decide +kernel
theorem dX11_carting_68 : decode cX11_carting 68 = .ok (.ifCond .le 9, 3) := by decide +kernel
theorem dX11_carting_71 : decode cX11_carting 71 = .ok (.iconst 1, 1) := by decide +kernel
theorem dX11_carting_72 : decode cX11_carting 72 = .ok (.iload_n 3, 1) := by decide +kernel
theorem dX11_carting_73 : decode cX11_carting 73 = .ok (.ishl, 1) := by decide +kernel
theorem dX11_carting_74 : decode cX11_carting 74 = .ok (.goto 4, 3) := by decide +kernel
theorem dX11_carting_77 : decode cX11_carting 77 = .ok (.iconst 0, 1) := by decide +kernel
theorem dX11_carting_78 : decode cX11_carting 78 = .ok (.ior, 1) := by decide +kernel
theorem dX11_carting_79 : decode cX11_carting 79 = .ok (.istore_n 2, 1) := by decide +kernel
theorem dX11_carting_80 : decode cX11_carting 80 = .ok (.iinc 3 1, 3) := by decide +kernel
theorem dX11_carting_83 : decode cX11_carting 83 = .ok (.goto (-37), 3) := by decide +kernel
theorem dX11_carting_86 : decode cX11_carting 86 = .ok (.aload_n 0, 1) := by decide +kernel
theorem dX11_carting_87 : decode cX11_carting 87 = .ok (.iload_n 2, 1) := by decide +kernel
theorem dX11_carting_88 : decode cX11_carting 88 = .ok (.invokevirtual 337, 3) := by decide +kernel
theorem dX11_carting_91 : decode cX11_carting 91 = .ok (.istore_n 3, 1) := by decide +kernel
theorem dX11_carting_92 : decode cX11_carting 92 = .ok (.aload_n 0, 1) := by decide +kernel
theorem dX11_carting_93 : decode cX11_carting 93 = .ok (.ldc2_w 247, 3) := by decide +kernel
theorem dX11_carting_96 : decode cX11_carting 96 = .ok (.invokevirtual 340, 3) := by decide +kernel
theorem dX11_carting_99 : decode cX11_carting 99 = .ok (.aload_n 0, 1) := by decide +kernel
theorem dX11_carting_100 : decode cX11_carting 100 = .ok (.iconst 1, 1) := by decide +kernel
theorem dX11_carting_101 : decode cX11_carting 101 = .ok (.bipush 9, 2) := by decide +kernel
theorem dX11_carting_103 : decode cX11_carting 103 = .ok (.invokevirtual 348, 3) := by decide +kernel
theorem dX11_carting_106 : decode cX11_carting 106 = .ok (.istore 4, 2) := by decide +kernel
theorem dX11_carting_108 : decode cX11_carting 108 = .ok (.aload_n 0, 1) := by decide +kernel
theorem dX11_carting_109 : decode cX11_carting 109 = .ok (.getfield 36, 3) := by decide +kernel
theorem dX11_carting_112 : decode cX11_carting 112 = .ok (.ifCond .le 4, 3) := by decide +kernel
theorem dX11_carting_115 : decode cX11_carting 115 = .ok (.return_, 1) := by decide +kernel
theorem dX11_carting_116 : decode cX11_carting 116 = .ok (.aload_n 0, 1) := by decide +kernel
theorem dX11_carting_117 : decode cX11_carting 117 = .ok (.getfield 60, 3) := by decide +kernel
theorem dX11_carting_120 : decode cX11_carting 120 = .ok (.aload_n 0, 1) := by decide +kernel
theorem dX11_carting_121 : decode cX11_carting 121 = .ok (.aload_n 0, 1) := by decide +kernel
theorem dX11_carting_122 : decode cX11_carting 122 = .ok (.getfield 91, 3) := by decide +kernel
theorem dX11_carting_125 : decode cX11_carting 125 = .ok (.iload_n 1, 1) := by decide +kernel
theorem dX11_carting_126 : decode cX11_carting 126 = .ok (.iload_n 3, 1) := by decide +kernel
theorem dX11_carting_127 : decode cX11_carting 127 = .ok (.invokevirtual 344, 3) := by decide +kernel
theorem dX11_carting_130 : decode cX11_carting 130 = .ok (.iload 4, 2) := by decide +kernel
theorem dX11_carting_132 : decode cX11_carting 132 = .ok (.iastore, 1) := by decide +kernel
theorem dX11_carting_133 : decode cX11_carting 133 = .ok (.aload_n 0, 1) := by decide +kernel
theorem dX11_carting_134 : decode cX11_carting 134 = .ok (.getfield 60, 3) := by decide +kernel
theorem dX11_carting_137 : decode cX11_carting 137 = .ok (.aload_n 0, 1) := by decide +kernel
theorem dX11_carting_138 : decode cX11_carting 138 = .ok (.aload_n 0, 1) := by decide +kernel
theorem dX11_carting_139 : decode cX11_carting 139 = .ok (.getfield 91, 3) := by decide +kernel
theorem dX11_carting_142 : decode cX11_carting 142 = .ok (.iload_n 3, 1) := by decide +kernel
theorem dX11_carting_143 : decode cX11_carting 143 = .ok (.iload_n 1, 1) := by decide +kernel
theorem dX11_carting_144 : decode cX11_carting 144 = .ok (.invokevirtual 344, 3) := by decide +kernel
theorem dX11_carting_147 : decode cX11_carting 147 = .ok (.iload 4, 2) := by decide +kernel
theorem dX11_carting_149 : decode cX11_carting 149 = .ok (.iastore, 1) := by decide +kernel
theorem dX11_carting_150 : decode cX11_carting 150 = .ok (.aload_n 0, 1) := by decide +kernel
theorem dX11_carting_151 : decode cX11_carting 151 = .ok (.getfield 57, 3) := by decide +kernel
theorem dX11_carting_154 : decode cX11_carting 154 = .ok (.aload_n 0, 1) := by decide +kernel
theorem dX11_carting_155 : decode cX11_carting 155 = .ok (.getfield 91, 3) := by decide +kernel
theorem dX11_carting_158 : decode cX11_carting 158 = .ok (.dup2, 1) := by decide +kernel
theorem dX11_carting_159 : decode cX11_carting 159 = .ok (.iaload, 1) := by decide +kernel
theorem dX11_carting_160 : decode cX11_carting 160 = .ok (.iconst 1, 1) := by decide +kernel
theorem dX11_carting_161 : decode cX11_carting 161 = .ok (.iadd, 1) := by decide +kernel
theorem dX11_carting_162 : decode cX11_carting 162 = .ok (.iastore, 1) := by decide +kernel
theorem dX11_carting_163 : decode cX11_carting 163 = .ok (.return_, 1) := by decide +kernel
theorem dX11_holding_0 : decode cX11_holding 0 = .ok (.aload_n 0, 1) := by decide +kernel
theorem dX11_holding_1 : decode cX11_holding 1 = .ok (.iconst 0, 1) := by decide +kernel
theorem dX11_holding_2 : decode cX11_holding 2 = .ok (.invokevirtual 333, 3) := by decide +kernel
theorem dX11_holding_5 : decode cX11_holding 5 = .ok (.ifCond .ne 4, 3) := by decide +kernel
theorem dX11_holding_8 : decode cX11_holding 8 = .ok (.return_, 1) := by decide +kernel
theorem dX11_holding_9 : decode cX11_holding 9 = .ok (.aload_n 0, 1) := by decide +kernel
theorem dX11_holding_10 : decode cX11_holding 10 = .ok (.iconst 0, 1) := by decide +kernel
theorem dX11_holding_11 : decode cX11_holding 11 = .ok (.invokevirtual 337, 3) := by decide +kernel
theorem dX11_holding_14 : decode cX11_holding 14 = .ok (.istore_n 1, 1) := by decide +kernel
theorem dX11_holding_15 : decode cX11_holding 15 = .ok (.aload_n 0, 1) := by decide +kernel
theorem dX11_holding_16 : decode cX11_holding 16 = .ok (.ldc2_w 251, 3) := by decide +kernel
theorem dX11_holding_19 : decode cX11_holding 19 = .ok (.invokevirtual 340, 3) := by decide +kernel
theorem dX11_holding_22 : decode cX11_holding 22 = .ok (.aload_n 0, 1) := by decide +kernel
theorem dX11_holding_23 : decode cX11_holding 23 = .ok (.iconst 1, 1) := by decide +kernel
theorem dX11_holding_24 : decode cX11_holding 24 = .ok (.iload_n 1, 1) := by decide +kernel
theorem dX11_holding_25 : decode cX11_holding 25 = .ok (.ishl, 1) := by decide +kernel
theorem dX11_holding_26 : decode cX11_holding 26 = .ok (.invokevirtual 337, 3) := by decide +kernel
theorem dX11_holding_29 : decode cX11_holding 29 = .ok (.istore_n 2, 1) := by decide +kernel
theorem dX11_holding_30 : decode cX11_holding 30 = .ok (.aload_n 0, 1) := by decide +kernel
theorem dX11_holding_31 : decode cX11_holding 31 = .ok (.iconst 0, 1) := by decide +kernel
theorem dX11_holding_32 : decode cX11_holding 32 = .ok (.bipush 20, 2) := by decide +kernel
theorem dX11_holding_34 : decode cX11_holding 34 = .ok (.invokevirtual 348, 3) := by decide +kernel
theorem dX11_holding_37 : decode cX11_holding 37 = .ok (.istore_n 3, 1) := by decide +kernel
theorem dX11_holding_38 : decode cX11_holding 38 = .ok (.aload_n 0, 1) := by decide +kernel
theorem dX11_holding_39 : decode cX11_holding 39 = .ok (.getfield 36, 3) := by decide +kernel
theorem dX11_holding_42 : decode cX11_holding 42 = .ok (.ifCond .ne 19, 3) := by decide +kernel
theorem dX11_holding_45 : decode cX11_holding 45 = .ok (.aload_n 0, 1) := by decide +kernel
theorem dX11_holding_46 : decode cX11_holding 46 = .ok (.getfield 66, 3) := by decide +kernel
theorem dX11_holding_49 : decode cX11_holding 49 = .ok (.aload_n 0, 1) := by decide +kernel
theorem dX11_holding_50 : decode cX11_holding 50 = .ok (.aload_n 0, 1) := by decide +kernel
theorem dX11_holding_51 : decode cX11_holding 51 = .ok (.getfield 91, 3) := by decide +kernel
theorem dX11_holding_54 : decode cX11_holding 54 = .ok (.iload_n 1, 1) := by decide +kernel
theorem dX11_holding_55 : decode cX11_holding 55 = .ok (.iload_n 2, 1) := by decide +kernel
theorem dX11_holding_56 : decode cX11_holding 56 = .ok (.invokevirtual 344, 3) := by decide +kernel
theorem dX11_holding_59 : decode cX11_holding 59 = .ok (.iload_n 3, 1) := by decide +kernel
theorem dX11_holding_60 : decode cX11_holding 60 = .ok (.iastore, 1) := by decide +kernel
theorem dX11_holding_61 : decode cX11_holding 61 = .ok (.return_, 1) := by decide +kernel
theorem dX11_reading_0 : decode cX11_reading 0 = .ok (.iconst 3, 1) := by decide +kernel
theorem dX11_reading_1 : decode cX11_reading 1 = .ok (.aload_n 0, 1) := by decide +kernel
theorem dX11_reading_2 : decode cX11_reading 2 = .ok (.getfield 91, 3) := by decide +kernel
theorem dX11_reading_5 : decode cX11_reading 5 = .ok (.imul, 1) := by decide +kernel
theorem dX11_reading_6 : decode cX11_reading 6 = .ok (.iload_n 1, 1) := by decide +kernel
theorem dX11_reading_7 : decode cX11_reading 7 = .ok (.iadd, 1) := by decide +kernel
theorem dX11_reading_8 : decode cX11_reading 8 = .ok (.istore_n 2, 1) := by decide +kernel
theorem dX11_reading_9 : decode cX11_reading 9 = .ok (.aload_n 0, 1) := by decide +kernel
theorem dX11_reading_10 : decode cX11_reading 10 = .ok (.aload_n 0, 1) := by decide +kernel
theorem dX11_reading_11 : decode cX11_reading 11 = .ok (.getfield 72, 3) := by decide +kernel
theorem dX11_reading_14 : decode cX11_reading 14 = .ok (.iload_n 2, 1) := by decide +kernel
theorem dX11_reading_15 : decode cX11_reading 15 = .ok (.iaload, 1) := by decide +kernel
theorem dX11_reading_16 : decode cX11_reading 16 = .ok (.iconst (-1), 1) := by decide +kernel
theorem dX11_reading_17 : decode cX11_reading 17 = .ok (.if_icmp .eq 7, 3) := by decide +kernel
theorem dX11_reading_20 : decode cX11_reading 20 = .ok (.iconst 1, 1) := by decide +kernel
theorem dX11_reading_21 : decode cX11_reading 21 = .ok (.goto 4, 3) := by decide +kernel
theorem dX11_reading_24 : decode cX11_reading 24 = .ok (.iconst 0, 1) := by decide +kernel
theorem dX11_reading_25 : decode cX11_reading 25 = .ok (.invokevirtual 333, 3) := by decide +kernel
theorem dX11_reading_28 : decode cX11_reading 28 = .ok (.ifCond .ne 4, 3) := by decide +kernel
theorem dX11_reading_31 : decode cX11_reading 31 = .ok (.return_, 1) := by decide +kernel
theorem dX11_reading_32 : decode cX11_reading 32 = .ok (.aload_n 0, 1) := by decide +kernel
theorem dX11_reading_33 : decode cX11_reading 33 = .ok (.iload_n 1, 1) := by decide +kernel
theorem dX11_reading_34 : decode cX11_reading 34 = .ok (.iconst 2, 1) := by decide +kernel
theorem dX11_reading_35 : decode cX11_reading 35 = .ok (.if_icmp .ne 7, 3) := by decide +kernel
theorem dX11_reading_38 : decode cX11_reading 38 = .ok (.iconst 1, 1) := by decide +kernel
theorem dX11_reading_39 : decode cX11_reading 39 = .ok (.goto 4, 3) := by decide +kernel
theorem dX11_reading_42 : decode cX11_reading 42 = .ok (.iconst 0, 1) := by decide +kernel
theorem dX11_reading_43 : decode cX11_reading 43 = .ok (.putfield 94, 3) := by decide +kernel
theorem dX11_reading_46 : decode cX11_reading 46 = .ok (.aload_n 0, 1) := by decide +kernel
theorem dX11_reading_47 : decode cX11_reading 47 = .ok (.getfield 72, 3) := by decide +kernel
theorem dX11_reading_50 : decode cX11_reading 50 = .ok (.iload_n 2, 1) := by decide +kernel
theorem dX11_reading_51 : decode cX11_reading 51 = .ok (.aload_n 0, 1) := by decide +kernel
theorem dX11_reading_52 : decode cX11_reading 52 = .ok (.getfield 88, 3) := by decide +kernel
theorem dX11_reading_55 : decode cX11_reading 55 = .ok (.iastore, 1) := by decide +kernel
theorem dX11_reading_56 : decode cX11_reading 56 = .ok (.aload_n 0, 1) := by decide +kernel
theorem dX11_reading_57 : decode cX11_reading 57 = .ok (.iload_n 1, 1) := by decide +kernel
theorem dX11_reading_58 : decode cX11_reading 58 = .ok (.ifCond .ne 7, 3) := by decide +kernel
theorem dX11_reading_61 : decode cX11_reading 61 = .ok (.iconst 1, 1) := by decide +kernel
theorem dX11_reading_62 : decode cX11_reading 62 = .ok (.goto 4, 3) := by decide +kernel
theorem dX11_reading_65 : decode cX11_reading 65 = .ok (.iconst 0, 1) := by decide +kernel
theorem dX11_reading_66 : decode cX11_reading 66 = .ok (.invokevirtual 352, 3) := by decide +kernel
theorem dX11_reading_69 : decode cX11_reading 69 = .ok (.aload_n 0, 1) := by decide +kernel
theorem dX11_reading_70 : decode cX11_reading 70 = .ok (.getfield 75, 3) := by decide +kernel
theorem dX11_reading_73 : decode cX11_reading 73 = .ok (.iload_n 2, 1) := by decide +kernel
theorem dX11_reading_74 : decode cX11_reading 74 = .ok (.aload_n 0, 1) := by decide +kernel
theorem dX11_reading_75 : decode cX11_reading 75 = .ok (.getfield 88, 3) := by decide +kernel
theorem dX11_reading_78 : decode cX11_reading 78 = .ok (.iastore, 1) := by decide +kernel
theorem dX11_reading_79 : decode cX11_reading 79 = .ok (.return_, 1) := by decide +kernel
theorem dX11_telling_0 : decode cX11_telling 0 = .ok (.aload_n 0, 1) := by decide +kernel
theorem dX11_telling_1 : decode cX11_telling 1 = .ok (.iconst 0, 1) := by decide +kernel
theorem dX11_telling_2 : decode cX11_telling 2 = .ok (.invokevirtual 333, 3) := by decide +kernel
theorem dX11_telling_5 : decode cX11_telling 5 = .ok (.ifCond .ne 4, 3) := by decide +kernel
theorem dX11_telling_8 : decode cX11_telling 8 = .ok (.return_, 1) := by decide +kernel
theorem dX11_telling_9 : decode cX11_telling 9 = .ok (.aload_n 0, 1) := by decide +kernel
theorem dX11_telling_10 : decode cX11_telling 10 = .ok (.iconst 0, 1) := by decide +kernel
theorem dX11_telling_11 : decode cX11_telling 11 = .ok (.iload_n 2, 1) := by decide +kernel
theorem dX11_telling_12 : decode cX11_telling 12 = .ok (.invokevirtual 348, 3) := by decide +kernel
theorem dX11_telling_15 : decode cX11_telling 15 = .ok (.istore_n 3, 1) := by decide +kernel
theorem dX11_telling_16 : decode cX11_telling 16 = .ok (.aload_n 0, 1) := by decide +kernel
theorem dX11_telling_17 : decode cX11_telling 17 = .ok (.getfield 36, 3) := by decide +kernel
theorem dX11_telling_20 : decode cX11_telling 20 = .ok (.ifCond .ne 17, 3) := by decide +kernel
theorem dX11_telling_23 : decode cX11_telling 23 = .ok (.aload_n 0, 1) := by decide +kernel
theorem dX11_telling_24 : decode cX11_telling 24 = .ok (.getfield 69, 3) := by decide +kernel
theorem dX11_telling_27 : decode cX11_telling 27 = .ok (.iconst 2, 1) := by decide +kernel
theorem dX11_telling_28 : decode cX11_telling 28 = .ok (.aload_n 0, 1) := by decide +kernel
theorem dX11_telling_29 : decode cX11_telling 29 = .ok (.getfield 91, 3) := by decide +kernel
theorem dX11_telling_32 : decode cX11_telling 32 = .ok (.imul, 1) := by decide +kernel
theorem dX11_telling_33 : decode cX11_telling 33 = .ok (.iload_n 1, 1) := by decide +kernel
theorem dX11_telling_34 : decode cX11_telling 34 = .ok (.iadd, 1) := by decide +kernel
theorem dX11_telling_35 : decode cX11_telling 35 = .ok (.iload_n 3, 1) := by decide +kernel
theorem dX11_telling_36 : decode cX11_telling 36 = .ok (.iastore, 1) := by decide +kernel
theorem dX11_telling_37 : decode cX11_telling 37 = .ok (.return_, 1) := by decide +kernel
theorem dX11_statement_0 : decode cX11_statement 0 = .ok (.aload_n 0, 1) := by decide +kernel
theorem dX11_statement_1 : decode cX11_statement 1 = .ok (.invokevirtual 232, 3) := by decide +kernel
theorem dX11_statement_4 : decode cX11_statement 4 = .ok (.aload_n 0, 1) := by decide +kernel
theorem dX11_statement_5 : decode cX11_statement 5 = .ok (.getfield 36, 3) := by decide +kernel
theorem dX11_statement_8 : decode cX11_statement 8 = .ok (.ifCond .le 4, 3) := by decide +kernel
theorem dX11_statement_11 : decode cX11_statement 11 = .ok (.return_, 1) := by decide +kernel
theorem dX11_statement_12 : decode cX11_statement 12 = .ok (.aload_n 0, 1) := by decide +kernel
theorem dX11_statement_13 : decode cX11_statement 13 = .ok (.ldc2_w 241, 3) := by decide +kernel
theorem dX11_statement_16 : decode cX11_statement 16 = .ok (.invokevirtual 303, 3) := by decide +kernel
theorem dX11_statement_19 : decode cX11_statement 19 = .ok (.ifCond .eq 10, 3) := by decide +kernel
theorem dX11_statement_22 : decode cX11_statement 22 = .ok (.aload_n 0, 1) := by decide +kernel
theorem dX11_statement_23 : decode cX11_statement 23 = .ok (.invokevirtual 356, 3) := by decide +kernel
theorem dX11_statement_26 : decode cX11_statement 26 = .ok (.goto 139, 3) := by decide +kernel
theorem dX11_statement_29 : decode cX11_statement 29 = .ok (.aload_n 0, 1) := by decide +kernel
theorem dX11_statement_30 : decode cX11_statement 30 = .ok (.ldc2_w 243, 3) := by decide +kernel
theorem dX11_statement_33 : decode cX11_statement 33 = .ok (.invokevirtual 303, 3) := by decide +kernel
theorem dX11_statement_36 : decode cX11_statement 36 = .ok (.ifCond .eq 10, 3) := by decide +kernel
theorem dX11_statement_39 : decode cX11_statement 39 = .ok (.aload_n 0, 1) := by decide +kernel
theorem dX11_statement_40 : decode cX11_statement 40 = .ok (.invokevirtual 359, 3) := by decide +kernel
theorem dX11_statement_43 : decode cX11_statement 43 = .ok (.goto 122, 3) := by decide +kernel
theorem dX11_statement_46 : decode cX11_statement 46 = .ok (.aload_n 0, 1) := by decide +kernel
theorem dX11_statement_47 : decode cX11_statement 47 = .ok (.ldc2_w 249, 3) := by decide +kernel
theorem dX11_statement_50 : decode cX11_statement 50 = .ok (.invokevirtual 303, 3) := by decide +kernel
theorem dX11_statement_53 : decode cX11_statement 53 = .ok (.ifCond .eq 10, 3) := by decide +kernel
theorem dX11_statement_56 : decode cX11_statement 56 = .ok (.aload_n 0, 1) := by decide +kernel
theorem dX11_statement_57 : decode cX11_statement 57 = .ok (.invokevirtual 362, 3) := by decide +kernel
theorem dX11_statement_60 : decode cX11_statement 60 = .ok (.goto 105, 3) := by decide +kernel
theorem dX11_statement_63 : decode cX11_statement 63 = .ok (.aload_n 0, 1) := by decide +kernel
theorem dX11_statement_64 : decode cX11_statement 64 = .ok (.ldc2_w 253, 3) := by decide +kernel
theorem dX11_statement_67 : decode cX11_statement 67 = .ok (.invokevirtual 303, 3) := by decide +kernel
theorem dX11_statement_70 : decode cX11_statement 70 = .ok (.ifCond .eq 11, 3) := by decide +kernel
theorem dX11_statement_73 : decode cX11_statement 73 = .ok (.aload_n 0, 1) := by decide +kernel
theorem dX11_statement_74 : decode cX11_statement 74 = .ok (.iconst 0, 1) := by decide +kernel
theorem dX11_statement_75 : decode cX11_statement 75 = .ok (.invokevirtual 365, 3) := by decide +kernel
theorem dX11_statement_78 : decode cX11_statement 78 = .ok (.goto 87, 3) := by decide +kernel
theorem dX11_statement_81 : decode cX11_statement 81 = .ok (.aload_n 0, 1) := by decide +kernel
theorem dX11_statement_82 : decode cX11_statement 82 = .ok (.ldc2_w 255, 3) := by decide +kernel
theorem dX11_statement_85 : decode cX11_statement 85 = .ok (.invokevirtual 303, 3) := by decide +kernel
theorem dX11_statement_88 : decode cX11_statement 88 = .ok (.ifCond .eq 11, 3) := by decide +kernel
theorem dX11_statement_91 : decode cX11_statement 91 = .ok (.aload_n 0, 1) := by decide +kernel
theorem dX11_statement_92 : decode cX11_statement 92 = .ok (.iconst 1, 1) := by decide +kernel
theorem dX11_statement_93 : decode cX11_statement 93 = .ok (.invokevirtual 365, 3) := by decide +kernel
theorem dX11_statement_96 : decode cX11_statement 96 = .ok (.goto 69, 3) := by decide +kernel
theorem dX11_statement_99 : decode cX11_statement 99 = .ok (.aload_n 0, 1) := by decide +kernel
theorem dX11_statement_100 : decode cX11_statement 100 = .ok (.ldc2_w 257, 3) := by decide +kernel
theorem dX11_statement_103 : decode cX11_statement 103 = .ok (.invokevirtual 303, 3) := by decide +kernel
theorem dX11_statement_106 : decode cX11_statement 106 = .ok (.ifCond .eq 11, 3) := by decide +kernel
theorem dX11_statement_109 : decode cX11_statement 109 = .ok (.aload_n 0, 1) := by decide +kernel
theorem dX11_statement_110 : decode cX11_statement 110 = .ok (.iconst 2, 1) := by decide +kernel
theorem dX11_statement_111 : decode cX11_statement 111 = .ok (.invokevirtual 365, 3) := by decide +kernel
theorem dX11_statement_114 : decode cX11_statement 114 = .ok (.goto 51, 3) := by decide +kernel
theorem dX11_statement_117 : decode cX11_statement 117 = .ok (.aload_n 0, 1) := by decide +kernel
theorem dX11_statement_118 : decode cX11_statement 118 = .ok (.ldc2_w 259, 3) := by decide +kernel
theorem dX11_statement_121 : decode cX11_statement 121 = .ok (.invokevirtual 303, 3) := by decide +kernel
theorem dX11_statement_124 : decode cX11_statement 124 = .ok (.ifCond .eq 12, 3) := by decide +kernel
theorem dX11_statement_127 : decode cX11_statement 127 = .ok (.aload_n 0, 1) := by decide +kernel
theorem dX11_statement_128 : decode cX11_statement 128 = .ok (.iconst 0, 1) := by decide +kernel
theorem dX11_statement_129 : decode cX11_statement 129 = .ok (.iconst 3, 1) := by decide +kernel
theorem dX11_statement_130 : decode cX11_statement 130 = .ok (.invokevirtual 368, 3) := by decide +kernel
theorem dX11_statement_133 : decode cX11_statement 133 = .ok (.goto 32, 3) := by decide +kernel
theorem dX11_statement_136 : decode cX11_statement 136 = .ok (.aload_n 0, 1) := by decide +kernel
theorem dX11_statement_137 : decode cX11_statement 137 = .ok (.ldc2_w 261, 3) := by decide +kernel
theorem dX11_statement_140 : decode cX11_statement 140 = .ok (.invokevirtual 303, 3) := by decide +kernel
theorem dX11_statement_143 : decode cX11_statement 143 = .ok (.ifCond .eq 13, 3) := by decide +kernel
theorem dX11_statement_146 : decode cX11_statement 146 = .ok (.aload_n 0, 1) := by decide +kernel
theorem dX11_statement_147 : decode cX11_statement 147 = .ok (.iconst 1, 1) := by decide +kernel
theorem dX11_statement_148 : decode cX11_statement 148 = .ok (.bipush 100, 2) := by decide +kernel
theorem dX11_statement_150 : decode cX11_statement 150 = .ok (.invokevirtual 368, 3) := by decide +kernel
theorem dX11_statement_153 : decode cX11_statement 153 = .ok (.goto 12, 3) := by decide +kernel
theorem dX11_statement_156 : decode cX11_statement 156 = .ok (.aload_n 0, 1) := by decide +kernel
theorem dX11_statement_157 : decode cX11_statement 157 = .ok (.iconst 1, 1) := by decide +kernel
theorem dX11_statement_158 : decode cX11_statement 158 = .ok (.aload_n 0, 1) := by decide +kernel
theorem dX11_statement_159 : decode cX11_statement 159 = .ok (.getfield 23, 3) := by decide +kernel
theorem dX11_statement_162 : decode cX11_statement 162 = .ok (.invokevirtual 221, 3) := by decide +kernel
theorem dX11_statement_165 : decode cX11_statement 165 = .ok (.return_, 1) := by decide +kernel
theorem dX11_finishes_0 : decode cX11_finishes 0 = .ok (.aload_n 0, 1) := by decide +kernel
theorem dX11_finishes_1 : decode cX11_finishes 1 = .ok (.invokevirtual 232, 3) := by decide +kernel
theorem dX11_finishes_4 : decode cX11_finishes 4 = .ok (.aload_n 0, 1) := by decide +kernel
theorem dX11_finishes_5 : decode cX11_finishes 5 = .ok (.getfield 36, 3) := by decide +kernel
theorem dX11_finishes_8 : decode cX11_finishes 8 = .ok (.ifCond .le 4, 3) := by decide +kernel
theorem dX11_finishes_11 : decode cX11_finishes 11 = .ok (.return_, 1) := by decide +kernel
theorem dX11_finishes_12 : decode cX11_finishes 12 = .ok (.aload_n 0, 1) := by decide +kernel
theorem dX11_finishes_13 : decode cX11_finishes 13 = .ok (.getfield 26, 3) := by decide +kernel
theorem dX11_finishes_16 : decode cX11_finishes 16 = .ok (.istore_n 2, 1) := by decide +kernel
theorem dX11_finishes_17 : decode cX11_finishes 17 = .ok (.iload_n 2, 1) := by decide +kernel
theorem dX11_finishes_18 : decode cX11_finishes 18 = .ok (.aload_n 0, 1) := by decide +kernel
theorem dX11_finishes_19 : decode cX11_finishes 19 = .ok (.getfield 17, 3) := by decide +kernel
theorem dX11_finishes_22 : decode cX11_finishes 22 = .ok (.if_icmp .ge 31, 3) := by decide +kernel
theorem dX11_finishes_25 : decode cX11_finishes 25 = .ok (.aload_n 0, 1) := by decide +kernel
theorem dX11_finishes_26 : decode cX11_finishes 26 = .ok (.getfield 7, 3) := by decide +kernel
theorem dX11_finishes_29 : decode cX11_finishes 29 = .ok (.iload_n 2, 1) := by decide +kernel
theorem dX11_finishes_30 : decode cX11_finishes 30 = .ok (.iaload, 1) := by decide +kernel
theorem dX11_finishes_31 : decode cX11_finishes 31 = .ok (.bipush 32, 2) := by decide +kernel
theorem dX11_finishes_33 : decode cX11_finishes 33 = .ok (.if_icmp .eq 14, 3) := by decide +kernel
theorem dX11_finishes_36 : decode cX11_finishes 36 = .ok (.aload_n 0, 1) := by decide +kernel
theorem dX11_finishes_37 : decode cX11_finishes 37 = .ok (.getfield 7, 3) := by decide +kernel
theorem dX11_finishes_40 : decode cX11_finishes 40 = .ok (.iload_n 2, 1) := by decide +kernel
theorem dX11_finishes_41 : decode cX11_finishes 41 = .ok (.iaload, 1) := by decide +kernel
theorem dX11_finishes_42 : decode cX11_finishes 42 = .ok (.bipush 10, 2) := by decide +kernel
theorem dX11_finishes_44 : decode cX11_finishes 44 = .ok (.if_icmp .ne 9, 3) := by decide +kernel
theorem dX11_finishes_47 : decode cX11_finishes 47 = .ok (.iinc 2 1, 3) := by decide +kernel
theorem dX11_finishes_50 : decode cX11_finishes 50 = .ok (.goto (-33), 3) := by decide +kernel
theorem dX11_finishes_53 : decode cX11_finishes 53 = .ok (.aload_n 0, 1) := by decide +kernel
theorem dX11_finishes_54 : decode cX11_finishes 54 = .ok (.bipush 59, 2) := by decide +kernel
theorem dX11_finishes_56 : decode cX11_finishes 56 = .ok (.invokevirtual 235, 3) := by decide +kernel
theorem dX11_finishes_59 : decode cX11_finishes 59 = .ok (.ifCond .eq 24, 3) := by decide +kernel
theorem dX11_finishes_62 : decode cX11_finishes 62 = .ok (.iload_n 1, 1) := by decide +kernel
theorem dX11_finishes_63 : decode cX11_finishes 63 = .ok (.bipush 80, 2) := by decide +kernel
theorem dX11_finishes_65 : decode cX11_finishes 65 = .ok (.if_icmp .ne 18, 3) := by decide +kernel
theorem dX11_finishes_68 : decode cX11_finishes 68 = .ok (.iload_n 2, 1) := by decide +kernel
theorem dX11_finishes_69 : decode cX11_finishes 69 = .ok (.aload_n 0, 1) := by decide +kernel
theorem dX11_finishes_70 : decode cX11_finishes 70 = .ok (.getfield 17, 3) := by decide +kernel
theorem dX11_finishes_73 : decode cX11_finishes 73 = .ok (.if_icmp .ge 10, 3) := by decide +kernel
theorem dX11_finishes_76 : decode cX11_finishes 76 = .ok (.aload_n 0, 1) := by decide +kernel
theorem dX11_finishes_77 : decode cX11_finishes 77 = .ok (.bipush 6, 2) := by decide +kernel
theorem dX11_finishes_79 : decode cX11_finishes 79 = .ok (.iload_n 2, 1) := by decide +kernel
theorem dX11_finishes_80 : decode cX11_finishes 80 = .ok (.invokevirtual 221, 3) := by decide +kernel
theorem dX11_finishes_83 : decode cX11_finishes 83 = .ok (.aload_n 0, 1) := by decide +kernel
theorem dX11_finishes_84 : decode cX11_finishes 84 = .ok (.bipush 59, 2) := by decide +kernel
theorem dX11_finishes_86 : decode cX11_finishes 86 = .ok (.invokevirtual 371, 3) := by decide +kernel
theorem dX11_finishes_89 : decode cX11_finishes 89 = .ok (.return_, 1) := by decide +kernel
theorem dX11_measures_0 : decode cX11_measures 0 = .ok (.iconst 0, 1) := by decide +kernel
theorem dX11_measures_1 : decode cX11_measures 1 = .ok (.istore_n 1, 1) := by decide +kernel
theorem dX11_measures_2 : decode cX11_measures 2 = .ok (.iload_n 1, 1) := by decide +kernel
theorem dX11_measures_3 : decode cX11_measures 3 = .ok (.bipush 6, 2) := by decide +kernel
theorem dX11_measures_5 : decode cX11_measures 5 = .ok (.if_icmp .ge 86, 3) := by decide +kernel
theorem dX11_measures_8 : decode cX11_measures 8 = .ok (.iconst 0, 1) := by decide +kernel
theorem dX11_measures_9 : decode cX11_measures 9 = .ok (.istore_n 2, 1) := by decide +kernel
theorem dX11_measures_10 : decode cX11_measures 10 = .ok (.iload_n 2, 1) := by decide +kernel
theorem dX11_measures_11 : decode cX11_measures 11 = .ok (.bipush 6, 2) := by decide +kernel
theorem dX11_measures_13 : decode cX11_measures 13 = .ok (.if_icmp .ge 72, 3) := by decide +kernel
theorem dX11_measures_16 : decode cX11_measures 16 = .ok (.aload_n 0, 1) := by decide +kernel
theorem dX11_measures_17 : decode cX11_measures 17 = .ok (.getfield 63, 3) := by decide +kernel
theorem dX11_measures_20 : decode cX11_measures 20 = .ok (.aload_n 0, 1) := by decide +kernel
theorem dX11_measures_21 : decode cX11_measures 21 = .ok (.aload_n 0, 1) := by decide +kernel
theorem dX11_measures_22 : decode cX11_measures 22 = .ok (.getfield 91, 3) := by decide +kernel
theorem dX11_measures_25 : decode cX11_measures 25 = .ok (.iload_n 1, 1) := by decide +kernel
theorem dX11_measures_26 : decode cX11_measures 26 = .ok (.iload_n 2, 1) := by decide +kernel
theorem dX11_measures_27 : decode cX11_measures 27 = .ok (.invokevirtual 344, 3) := by decide +kernel
theorem dX11_measures_30 : decode cX11_measures 30 = .ok (.iload_n 1, 1) := by decide +kernel
theorem dX11_measures_31 : decode cX11_measures 31 = .ok (.iload_n 2, 1) := by decide +kernel
theorem dX11_measures_32 : decode cX11_measures 32 = .ok (.if_icmp .ne 7, 3) := by decide +kernel
theorem dX11_measures_35 : decode cX11_measures 35 = .ok (.iconst 0, 1) := by decide +kernel
theorem dX11_measures_36 : decode cX11_measures 36 = .ok (.goto 42, 3) := by decide +kernel
theorem dX11_measures_39 : decode cX11_measures 39 = .ok (.aload_n 0, 1) := by decide +kernel
theorem dX11_measures_40 : decode cX11_measures 40 = .ok (.getfield 60, 3) := by decide +kernel
theorem dX11_measures_43 : decode cX11_measures 43 = .ok (.aload_n 0, 1) := by decide +kernel
theorem dX11_measures_44 : decode cX11_measures 44 = .ok (.aload_n 0, 1) := by decide +kernel
theorem dX11_measures_45 : decode cX11_measures 45 = .ok (.getfield 91, 3) := by decide +kernel
theorem dX11_measures_48 : decode cX11_measures 48 = .ok (.iload_n 1, 1) := by decide +kernel
theorem dX11_measures_49 : decode cX11_measures 49 = .ok (.iload_n 2, 1) := by decide +kernel
theorem dX11_measures_50 : decode cX11_measures 50 = .ok (.invokevirtual 344, 3) := by decide +kernel
theorem dX11_measures_53 : decode cX11_measures 53 = .ok (.iaload, 1) := by decide +kernel
theorem dX11_measures_54 : decode cX11_measures 54 = .ok (.ifCond .le 21, 3) := by decide +kernel
theorem dX11_measures_57 : decode cX11_measures 57 = .ok (.aload_n 0, 1) := by decide +kernel
theorem dX11_measures_58 : decode cX11_measures 58 = .ok (.getfield 60, 3) := by decide +kernel
theorem dX11_measures_61 : decode cX11_measures 61 = .ok (.aload_n 0, 1) := by decide +kernel
theorem dX11_measures_62 : decode cX11_measures 62 = .ok (.aload_n 0, 1) := by decide +kernel
theorem dX11_measures_63 : decode cX11_measures 63 = .ok (.getfield 91, 3) := by decide +kernel
theorem dX11_measures_66 : decode cX11_measures 66 = .ok (.iload_n 1, 1) := by decide +kernel
theorem dX11_measures_67 : decode cX11_measures 67 = .ok (.iload_n 2, 1) := by decide +kernel
theorem dX11_measures_68 : decode cX11_measures 68 = .ok (.invokevirtual 344, 3) := by decide +kernel
theorem dX11_measures_71 : decode cX11_measures 71 = .ok (.iaload, 1) := by decide +kernel
theorem dX11_measures_72 : decode cX11_measures 72 = .ok (.goto 6, 3) := by decide +kernel
theorem dX11_measures_75 : decode cX11_measures 75 = .ok (.ldc_w 373, 3) := by decide +kernel
theorem dX11_measures_78 : decode cX11_measures 78 = .ok (.iastore, 1) := by decide +kernel
theorem dX11_measures_79 : decode cX11_measures 79 = .ok (.iinc 2 1, 3) := by decide +kernel
theorem dX11_measures_82 : decode cX11_measures 82 = .ok (.goto (-72), 3) := by decide +kernel
theorem dX11_measures_85 : decode cX11_measures 85 = .ok (.iinc 1 1, 3) := by decide +kernel
theorem dX11_measures_88 : decode cX11_measures 88 = .ok (.goto (-86), 3) := by decide +kernel
theorem dX11_measures_91 : decode cX11_measures 91 = .ok (.iconst 0, 1) := by decide +kernel
theorem dX11_measures_92 : decode cX11_measures 92 = .ok (.istore_n 1, 1) := by decide +kernel
theorem dX11_measures_93 : decode cX11_measures 93 = .ok (.iload_n 1, 1) := by decide +kernel
theorem dX11_measures_94 : decode cX11_measures 94 = .ok (.bipush 6, 2) := by decide +kernel
theorem dX11_measures_96 : decode cX11_measures 96 = .ok (.if_icmp .ge 107, 3) := by decide +kernel
theorem dX11_measures_99 : decode cX11_measures 99 = .ok (.iconst 0, 1) := by decide +kernel
theorem dX11_measures_100 : decode cX11_measures 100 = .ok (.istore_n 2, 1) := by decide +kernel
theorem dX11_measures_101 : decode cX11_measures 101 = .ok (.iload_n 2, 1) := by decide +kernel
theorem dX11_measures_102 : decode cX11_measures 102 = .ok (.bipush 6, 2) := by decide +kernel
theorem dX11_measures_104 : decode cX11_measures 104 = .ok (.if_icmp .ge 93, 3) := by decide +kernel
theorem dX11_measures_107 : decode cX11_measures 107 = .ok (.iconst 0, 1) := by decide +kernel
theorem dX11_measures_108 : decode cX11_measures 108 = .ok (.istore_n 3, 1) := by decide +kernel
theorem dX11_measures_109 : decode cX11_measures 109 = .ok (.iload_n 3, 1) := by decide +kernel
theorem dX11_measures_110 : decode cX11_measures 110 = .ok (.bipush 6, 2) := by decide +kernel
theorem dX11_measures_112 : decode cX11_measures 112 = .ok (.if_icmp .ge 79, 3) := by decide +kernel
theorem dX11_measures_115 : decode cX11_measures 115 = .ok (.aload_n 0, 1) := by decide +kernel
theorem dX11_measures_116 : decode cX11_measures 116 = .ok (.getfield 63, 3) := by decide +kernel
theorem dX11_measures_119 : decode cX11_measures 119 = .ok (.aload_n 0, 1) := by decide +kernel
theorem dX11_measures_120 : decode cX11_measures 120 = .ok (.aload_n 0, 1) := by decide +kernel
theorem dX11_measures_121 : decode cX11_measures 121 = .ok (.getfield 91, 3) := by decide +kernel
theorem dX11_measures_124 : decode cX11_measures 124 = .ok (.iload_n 2, 1) := by decide +kernel
theorem dX11_measures_125 : decode cX11_measures 125 = .ok (.iload_n 1, 1) := by decide +kernel
theorem dX11_measures_126 : decode cX11_measures 126 = .ok (.invokevirtual 344, 3) := by decide +kernel
theorem dX11_measures_129 : decode cX11_measures 129 = .ok (.iaload, 1) := by decide +kernel
theorem dX11_measures_130 : decode cX11_measures 130 = .ok (.aload_n 0, 1) := by decide +kernel
theorem dX11_measures_131 : decode cX11_measures 131 = .ok (.getfield 63, 3) := by decide +kernel
theorem dX11_measures_134 : decode cX11_measures 134 = .ok (.aload_n 0, 1) := by decide +kernel
theorem dX11_measures_135 : decode cX11_measures 135 = .ok (.aload_n 0, 1) := by decide +kernel
theorem dX11_measures_136 : decode cX11_measures 136 = .ok (.getfield 91, 3) := by decide +kernel
theorem dX11_measures_139 : decode cX11_measures 139 = .ok (.iload_n 1, 1) := by decide +kernel
theorem dX11_measures_140 : decode cX11_measures 140 = .ok (.iload_n 3, 1) := by decide +kernel
theorem dX11_measures_141 : decode cX11_measures 141 = .ok (.invokevirtual 344, 3) := by decide +kernel
theorem dX11_measures_144 : decode cX11_measures 144 = .ok (.iaload, 1) := by decide +kernel
theorem dX11_measures_145 : decode cX11_measures 145 = .ok (.iadd, 1) := by decide +kernel
theorem dX11_measures_146 : decode cX11_measures 146 = .ok (.istore 4, 2) := by decide +kernel
theorem dX11_measures_148 : decode cX11_measures 148 = .ok (.iload 4, 2) := by decide +kernel
theorem dX11_measures_150 : decode cX11_measures 150 = .ok (.aload_n 0, 1) := by decide +kernel
theorem dX11_measures_151 : decode cX11_measures 151 = .ok (.getfield 63, 3) := by decide +kernel
theorem dX11_measures_154 : decode cX11_measures 154 = .ok (.aload_n 0, 1) := by decide +kernel
theorem dX11_measures_155 : decode cX11_measures 155 = .ok (.aload_n 0, 1) := by decide +kernel
theorem dX11_measures_156 : decode cX11_measures 156 = .ok (.getfield 91, 3) := by decide +kernel
theorem dX11_measures_159 : decode cX11_measures 159 = .ok (.iload_n 2, 1) := by decide +kernel
theorem dX11_measures_160 : decode cX11_measures 160 = .ok (.iload_n 3, 1) := by decide +kernel
theorem dX11_measures_161 : decode cX11_measures 161 = .ok (.invokevirtual 344, 3) := by decide +kernel
theorem dX11_measures_164 : decode cX11_measures 164 = .ok (.iaload, 1) := by decide +kernel
theorem dX11_measures_165 : decode cX11_measures 165 = .ok (.if_icmp .ge 20, 3) := by decide +kernel
theorem dX11_measures_168 : decode cX11_measures 168 = .ok (.aload_n 0, 1) := by decide +kernel
theorem dX11_measures_169 : decode cX11_measures 169 = .ok (.getfield 63, 3) := by decide +kernel
theorem dX11_measures_172 : decode cX11_measures 172 = .ok (.aload_n 0, 1) := by decide +kernel
theorem dX11_measures_173 : decode cX11_measures 173 = .ok (.aload_n 0, 1) := by decide +kernel
theorem dX11_measures_174 : decode cX11_measures 174 = .ok (.getfield 91, 3) := by decide +kernel
theorem dX11_measures_177 : decode cX11_measures 177 = .ok (.iload_n 2, 1) := by decide +kernel
theorem dX11_measures_178 : decode cX11_measures 178 = .ok (.iload_n 3, 1) := by decide +kernel
theorem dX11_measures_179 : decode cX11_measures 179 = .ok (.invokevirtual 344, 3) := by decide +kernel
theorem dX11_measures_182 : decode cX11_measures 182 = .ok (.iload 4, 2) := by decide +kernel
theorem dX11_measures_184 : decode cX11_measures 184 = .ok (.iastore, 1) := by decide +kernel
theorem dX11_measures_185 : decode cX11_measures 185 = .ok (.iinc 3 1, 3) := by decide +kernel
theorem dX11_measures_188 : decode cX11_measures 188 = .ok (.goto (-79), 3) := by decide +kernel
theorem dX11_measures_191 : decode cX11_measures 191 = .ok (.iinc 2 1, 3) := by decide +kernel
theorem dX11_measures_194 : decode cX11_measures 194 = .ok (.goto (-93), 3) := by decide +kernel
theorem dX11_measures_197 : decode cX11_measures 197 = .ok (.iinc 1 1, 3) := by decide +kernel
theorem dX11_measures_200 : decode cX11_measures 200 = .ok (.goto (-107), 3) := by decide +kernel
theorem dX11_measures_203 : decode cX11_measures 203 = .ok (.return_, 1) := by decide +kernel
theorem dX11_union_0 : decode cX11_union 0 = .ok (.aload_n 0, 1) := by decide +kernel
theorem dX11_union_1 : decode cX11_union 1 = .ok (.aload_n 0, 1) := by decide +kernel
theorem dX11_union_2 : decode cX11_union 2 = .ok (.getfield 13, 3) := by decide +kernel
theorem dX11_union_5 : decode cX11_union 5 = .ok (.putfield 17, 3) := by decide +kernel
theorem dX11_union_8 : decode cX11_union 8 = .ok (.aload_n 0, 1) := by decide +kernel
theorem dX11_union_9 : decode cX11_union 9 = .ok (.iconst 0, 1) := by decide +kernel
theorem dX11_union_10 : decode cX11_union 10 = .ok (.putfield 13, 3) := by decide +kernel
theorem dX11_union_13 : decode cX11_union 13 = .ok (.aload_n 0, 1) := by decide +kernel
theorem dX11_union_14 : decode cX11_union 14 = .ok (.iconst 0, 1) := by decide +kernel
theorem dX11_union_15 : decode cX11_union 15 = .ok (.putfield 26, 3) := by decide +kernel
theorem dX11_union_18 : decode cX11_union 18 = .ok (.aload_n 0, 1) := by decide +kernel
theorem dX11_union_19 : decode cX11_union 19 = .ok (.iconst 0, 1) := by decide +kernel
theorem dX11_union_20 : decode cX11_union 20 = .ok (.putfield 36, 3) := by decide +kernel
theorem dX11_union_23 : decode cX11_union 23 = .ok (.aload_n 0, 1) := by decide +kernel
theorem dX11_union_24 : decode cX11_union 24 = .ok (.iconst (-1), 1) := by decide +kernel
theorem dX11_union_25 : decode cX11_union 25 = .ok (.putfield 39, 3) := by decide +kernel
theorem dX11_union_28 : decode cX11_union 28 = .ok (.aload_n 0, 1) := by decide +kernel
theorem dX11_union_29 : decode cX11_union 29 = .ok (.iconst 1, 1) := by decide +kernel
theorem dX11_union_30 : decode cX11_union 30 = .ok (.aload_n 0, 1) := by decide +kernel
theorem dX11_union_31 : decode cX11_union 31 = .ok (.getfield 51, 3) := by decide +kernel
theorem dX11_union_34 : decode cX11_union 34 = .ok (.isub, 1) := by decide +kernel
theorem dX11_union_35 : decode cX11_union 35 = .ok (.putfield 91, 3) := by decide +kernel
theorem dX11_union_38 : decode cX11_union 38 = .ok (.aload_n 0, 1) := by decide +kernel
theorem dX11_union_39 : decode cX11_union 39 = .ok (.getfield 54, 3) := by decide +kernel
theorem dX11_union_42 : decode cX11_union 42 = .ok (.aload_n 0, 1) := by decide +kernel
theorem dX11_union_43 : decode cX11_union 43 = .ok (.getfield 91, 3) := by decide +kernel
theorem dX11_union_46 : decode cX11_union 46 = .ok (.iconst 0, 1) := by decide +kernel
theorem dX11_union_47 : decode cX11_union 47 = .ok (.iastore, 1) := by decide +kernel
theorem dX11_union_48 : decode cX11_union 48 = .ok (.aload_n 0, 1) := by decide +kernel
theorem dX11_union_49 : decode cX11_union 49 = .ok (.getfield 57, 3) := by decide +kernel
theorem dX11_union_52 : decode cX11_union 52 = .ok (.aload_n 0, 1) := by decide +kernel
theorem dX11_union_53 : decode cX11_union 53 = .ok (.getfield 91, 3) := by decide +kernel
theorem dX11_union_56 : decode cX11_union 56 = .ok (.iconst 0, 1) := by decide +kernel
theorem dX11_union_57 : decode cX11_union 57 = .ok (.iastore, 1) := by decide +kernel
theorem dX11_union_58 : decode cX11_union 58 = .ok (.aload_n 0, 1) := by decide +kernel
theorem dX11_union_59 : decode cX11_union 59 = .ok (.aload_n 0, 1) := by decide +kernel
theorem dX11_union_60 : decode cX11_union 60 = .ok (.getfield 91, 3) := by decide +kernel
theorem dX11_union_63 : decode cX11_union 63 = .ok (.invokevirtual 210, 3) := by decide +kernel
theorem dX11_union_66 : decode cX11_union 66 = .ok (.iconst 3, 1) := by decide +kernel
theorem dX11_union_67 : decode cX11_union 67 = .ok (.aload_n 0, 1) := by decide +kernel
theorem dX11_union_68 : decode cX11_union 68 = .ok (.getfield 91, 3) := by decide +kernel
theorem dX11_union_71 : decode cX11_union 71 = .ok (.imul, 1) := by decide +kernel
theorem dX11_union_72 : decode cX11_union 72 = .ok (.istore_n 1, 1) := by decide +kernel
theorem dX11_union_73 : decode cX11_union 73 = .ok (.iload_n 1, 1) := by decide +kernel
theorem dX11_union_74 : decode cX11_union 74 = .ok (.iconst 3, 1) := by decide +kernel
