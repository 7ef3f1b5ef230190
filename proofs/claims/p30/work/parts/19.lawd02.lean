theorem dL_law_416 : decode cL_law 416 = .ok (.aload 5, 2) := by decide +kernel
theorem dL_law_418 : decode cL_law 418 = .ok (.iload 9, 2) := by decide +kernel
theorem dL_law_420 : decode cL_law 420 = .ok (.iaload, 1) := by decide +kernel
theorem dL_law_421 : decode cL_law 421 = .ok (.iastore, 1) := by decide +kernel
theorem dL_law_422 : decode cL_law 422 = .ok (.aload_n 2, 1) := by decide +kernel
theorem dL_law_423 : decode cL_law 423 = .ok (.iconst 2, 1) := by decide +kernel
theorem dL_law_424 : decode cL_law 424 = .ok (.dup2, 1) := by decide +kernel
theorem dL_law_425 : decode cL_law 425 = .ok (.iaload, 1) := by decide +kernel
theorem dL_law_426 : decode cL_law 426 = .ok (.iload 12, 2) := by decide +kernel
theorem dL_law_428 : decode cL_law 428 = .ok (.ifCond .eq 7, 3) := by decide +kernel
theorem dL_law_431 : decode cL_law 431 = .ok (.iconst 1, 1) := by decide +kernel
theorem dL_law_432 : decode cL_law 432 = .ok (.goto 4, 3) := by decide +kernel
theorem dL_law_435 : decode cL_law 435 = .ok (.iconst 0, 1) := by decide +kernel
theorem dL_law_436 : decode cL_law 436 = .ok (.iadd, 1) := by decide +kernel
theorem dL_law_437 : decode cL_law 437 = .ok (.iastore, 1) := by decide +kernel
theorem dL_law_438 : decode cL_law 438 = .ok (.aload_n 1, 1) := by decide +kernel
theorem dL_law_439 : decode cL_law 439 = .ok (.iload 9, 2) := by decide +kernel
theorem dL_law_441 : decode cL_law 441 = .ok (.invokestatic 36, 3) := by decide +kernel
theorem dL_law_444 : decode cL_law 444 = .ok (.iload 9, 2) := by decide +kernel
theorem dL_law_446 : decode cL_law 446 = .ok (.invokestatic 40, 3) := by decide +kernel
theorem dL_law_449 : decode cL_law 449 = .ok (.invokestatic 145, 3) := by decide +kernel
theorem dL_law_452 : decode cL_law 452 = .ok (.iload 12, 2) := by decide +kernel
theorem dL_law_454 : decode cL_law 454 = .ok (.ifCond .eq 22, 3) := by decide +kernel
theorem dL_law_457 : decode cL_law 457 = .ok (.iload 9, 2) := by decide +kernel
theorem dL_law_459 : decode cL_law 459 = .ok (.aload 5, 2) := by decide +kernel
theorem dL_law_461 : decode cL_law 461 = .ok (.invokestatic 50, 3) := by decide +kernel
theorem dL_law_464 : decode cL_law 464 = .ok (.invokestatic 40, 3) := by decide +kernel
theorem dL_law_467 : decode cL_law 467 = .ok (.iload 9, 2) := by decide +kernel
theorem dL_law_469 : decode cL_law 469 = .ok (.invokestatic 40, 3) := by decide +kernel
theorem dL_law_472 : decode cL_law 472 = .ok (.isub, 1) := by decide +kernel
theorem dL_law_473 : decode cL_law 473 = .ok (.goto 5, 3) := by decide +kernel
theorem dL_law_476 : decode cL_law 476 = .ok (.bipush (-2), 2) := by decide +kernel
theorem dL_law_478 : decode cL_law 478 = .ok (.if_icmp .eq 5, 3) := by decide +kernel
theorem dL_law_481 : decode cL_law 481 = .ok (.iconst 0, 1) := by decide +kernel
theorem dL_law_482 : decode cL_law 482 = .ok (.ireturn, 1) := by decide +kernel
theorem dL_law_483 : decode cL_law 483 = .ok (.goto 267, 3) := by decide +kernel
theorem dL_law_486 : decode cL_law 486 = .ok (.iload 8, 2) := by decide +kernel
theorem dL_law_488 : decode cL_law 488 = .ok (.bipush 6, 2) := by decide +kernel
theorem dL_law_490 : decode cL_law 490 = .ok (.if_icmp .ne 125, 3) := by decide +kernel
theorem dL_law_493 : decode cL_law 493 = .ok (.iconst 0, 1) := by decide +kernel
theorem dL_law_494 : decode cL_law 494 = .ok (.istore 12, 2) := by decide +kernel
theorem dL_law_496 : decode cL_law 496 = .ok (.iconst 0, 1) := by decide +kernel
theorem dL_law_497 : decode cL_law 497 = .ok (.istore 13, 2) := by decide +kernel
theorem dL_law_499 : decode cL_law 499 = .ok (.iload 13, 2) := by decide +kernel
theorem dL_law_501 : decode cL_law 501 = .ok (.bipush 15, 2) := by decide +kernel
theorem dL_law_503 : decode cL_law 503 = .ok (.if_icmp .ge 90, 3) := by decide +kernel
theorem dL_law_506 : decode cL_law 506 = .ok (.iconst (-1), 1) := by decide +kernel
theorem dL_law_507 : decode cL_law 507 = .ok (.istore 14, 2) := by decide +kernel
theorem dL_law_509 : decode cL_law 509 = .ok (.iconst 1, 1) := by decide +kernel
theorem dL_law_510 : decode cL_law 510 = .ok (.istore 15, 2) := by decide +kernel
theorem dL_law_512 : decode cL_law 512 = .ok (.iload 15, 2) := by decide +kernel
theorem dL_law_514 : decode cL_law 514 = .ok (.bipush 15, 2) := by decide +kernel
theorem dL_law_516 : decode cL_law 516 = .ok (.if_icmp .ge 54, 3) := by decide +kernel
theorem dL_law_519 : decode cL_law 519 = .ok (.aload 5, 2) := by decide +kernel
theorem dL_law_521 : decode cL_law 521 = .ok (.iload 15, 2) := by decide +kernel
theorem dL_law_523 : decode cL_law 523 = .ok (.iaload, 1) := by decide +kernel
theorem dL_law_524 : decode cL_law 524 = .ok (.iconst 1, 1) := by decide +kernel
theorem dL_law_525 : decode cL_law 525 = .ok (.if_icmp .ne 35, 3) := by decide +kernel
theorem dL_law_528 : decode cL_law 528 = .ok (.iload 15, 2) := by decide +kernel
theorem dL_law_530 : decode cL_law 530 = .ok (.aload_n 2, 1) := by decide +kernel
theorem dL_law_531 : decode cL_law 531 = .ok (.aload_n 3, 1) := by decide +kernel
theorem dL_law_532 : decode cL_law 532 = .ok (.aload 5, 2) := by decide +kernel
theorem dL_law_534 : decode cL_law 534 = .ok (.invokestatic 83, 3) := by decide +kernel
theorem dL_law_537 : decode cL_law 537 = .ok (.ifCond .ne 23, 3) := by decide +kernel
theorem dL_law_540 : decode cL_law 540 = .ok (.iload 14, 2) := by decide +kernel
theorem dL_law_542 : decode cL_law 542 = .ok (.ifCond .lt 13, 3) := by decide +kernel
theorem dL_law_545 : decode cL_law 545 = .ok (.iload 15, 2) := by decide +kernel
theorem dL_law_547 : decode cL_law 547 = .ok (.iload 14, 2) := by decide +kernel
theorem dL_law_549 : decode cL_law 549 = .ok (.invokestatic 53, 3) := by decide +kernel
theorem dL_law_552 : decode cL_law 552 = .ok (.ifCond .eq 8, 3) := by decide +kernel
theorem dL_law_555 : decode cL_law 555 = .ok (.iload 15, 2) := by decide +kernel
theorem dL_law_557 : decode cL_law 557 = .ok (.goto 5, 3) := by decide +kernel
theorem dL_law_560 : decode cL_law 560 = .ok (.iload 14, 2) := by decide +kernel
theorem dL_law_562 : decode cL_law 562 = .ok (.istore 14, 2) := by decide +kernel
theorem dL_law_564 : decode cL_law 564 = .ok (.iinc 15 1, 3) := by decide +kernel
theorem dL_law_567 : decode cL_law 567 = .ok (.goto (-55), 3) := by decide +kernel
theorem dL_law_570 : decode cL_law 570 = .ok (.iload 14, 2) := by decide +kernel
theorem dL_law_572 : decode cL_law 572 = .ok (.ifCond .ge 6, 3) := by decide +kernel
theorem dL_law_575 : decode cL_law 575 = .ok (.goto 12, 3) := by decide +kernel
theorem dL_law_578 : decode cL_law 578 = .ok (.aload 5, 2) := by decide +kernel
theorem dL_law_580 : decode cL_law 580 = .ok (.iload 14, 2) := by decide +kernel
theorem dL_law_582 : decode cL_law 582 = .ok (.iconst 0, 1) := by decide +kernel
theorem dL_law_583 : decode cL_law 583 = .ok (.iastore, 1) := by decide +kernel
theorem dL_law_584 : decode cL_law 584 = .ok (.iinc 12 1, 3) := by decide +kernel
theorem dL_law_587 : decode cL_law 587 = .ok (.iinc 13 1, 3) := by decide +kernel
theorem dL_law_590 : decode cL_law 590 = .ok (.goto (-91), 3) := by decide +kernel
theorem dL_law_593 : decode cL_law 593 = .ok (.aload_n 2, 1) := by decide +kernel
theorem dL_law_594 : decode cL_law 594 = .ok (.iconst 1, 1) := by decide +kernel
theorem dL_law_595 : decode cL_law 595 = .ok (.dup2, 1) := by decide +kernel
theorem dL_law_596 : decode cL_law 596 = .ok (.iaload, 1) := by decide +kernel
theorem dL_law_597 : decode cL_law 597 = .ok (.iload 12, 2) := by decide +kernel
theorem dL_law_599 : decode cL_law 599 = .ok (.iadd, 1) := by decide +kernel
theorem dL_law_600 : decode cL_law 600 = .ok (.iastore, 1) := by decide +kernel
theorem dL_law_601 : decode cL_law 601 = .ok (.aload_n 1, 1) := by decide +kernel
theorem dL_law_602 : decode cL_law 602 = .ok (.invokevirtual 147, 3) := by decide +kernel
theorem dL_law_605 : decode cL_law 605 = .ok (.iload 12, 2) := by decide +kernel
theorem dL_law_607 : decode cL_law 607 = .ok (.if_icmp .eq 5, 3) := by decide +kernel
theorem dL_law_610 : decode cL_law 610 = .ok (.iconst 0, 1) := by decide +kernel
theorem dL_law_611 : decode cL_law 611 = .ok (.ireturn, 1) := by decide +kernel
theorem dL_law_612 : decode cL_law 612 = .ok (.goto 138, 3) := by decide +kernel
theorem dL_law_615 : decode cL_law 615 = .ok (.iload 7, 2) := by decide +kernel
theorem dL_law_617 : decode cL_law 617 = .ok (.iconst 5, 1) := by decide +kernel
theorem dL_law_618 : decode cL_law 618 = .ok (.ishr, 1) := by decide +kernel
theorem dL_law_619 : decode cL_law 619 = .ok (.iconst 2, 1) := by decide +kernel
theorem dL_law_620 : decode cL_law 620 = .ok (.invokestatic 124, 3) := by decide +kernel
theorem dL_law_623 : decode cL_law 623 = .ok (.ifCond .ne 94, 3) := by decide +kernel
theorem dL_law_626 : decode cL_law 626 = .ok (.iconst 0, 1) := by decide +kernel
theorem dL_law_627 : decode cL_law 627 = .ok (.istore 12, 2) := by decide +kernel
theorem dL_law_629 : decode cL_law 629 = .ok (.iconst 1, 1) := by decide +kernel
theorem dL_law_630 : decode cL_law 630 = .ok (.istore 13, 2) := by decide +kernel
