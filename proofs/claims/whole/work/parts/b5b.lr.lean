-- THE LAW: words, decode rows
theorem dl_424 : decode lw_Y.2.1 424 = .ok (.iload_n 3, 1) := by decide +kernel
theorem dl_425 : decode lw_Y.2.1 425 = .ok (.iconst 3, 1) := by decide +kernel
theorem dl_426 : decode lw_Y.2.1 426 = .ok (.iadd, 1) := by decide +kernel
theorem dl_427 : decode lw_Y.2.1 427 = .ok (.iaload, 1) := by decide +kernel
theorem dl_428 : decode lw_Y.2.1 428 = .ok (.aload_n 0, 1) := by decide +kernel
theorem dl_429 : decode lw_Y.2.1 429 = .ok (.iload_n 3, 1) := by decide +kernel
theorem dl_430 : decode lw_Y.2.1 430 = .ok (.iconst 4, 1) := by decide +kernel
theorem dl_431 : decode lw_Y.2.1 431 = .ok (.iadd, 1) := by decide +kernel
theorem dl_432 : decode lw_Y.2.1 432 = .ok (.iaload, 1) := by decide +kernel
theorem dl_433 : decode lw_Y.2.1 433 = .ok (.invokevirtual 50, 3) := by decide +kernel
theorem dl_436 : decode lw_Y.2.1 436 = .ok (.aload_n 2, 1) := by decide +kernel
theorem dl_437 : decode lw_Y.2.1 437 = .ok (.aload_n 0, 1) := by decide +kernel
theorem dl_438 : decode lw_Y.2.1 438 = .ok (.iload_n 3, 1) := by decide +kernel
theorem dl_439 : decode lw_Y.2.1 439 = .ok (.iconst 1, 1) := by decide +kernel
theorem dl_440 : decode lw_Y.2.1 440 = .ok (.iadd, 1) := by decide +kernel
theorem dl_441 : decode lw_Y.2.1 441 = .ok (.iaload, 1) := by decide +kernel
theorem dl_442 : decode lw_Y.2.1 442 = .ok (.aload_n 0, 1) := by decide +kernel
theorem dl_443 : decode lw_Y.2.1 443 = .ok (.iload_n 3, 1) := by decide +kernel
theorem dl_444 : decode lw_Y.2.1 444 = .ok (.iconst 2, 1) := by decide +kernel
theorem dl_445 : decode lw_Y.2.1 445 = .ok (.iadd, 1) := by decide +kernel
theorem dl_446 : decode lw_Y.2.1 446 = .ok (.iaload, 1) := by decide +kernel
theorem dl_447 : decode lw_Y.2.1 447 = .ok (.aload_n 0, 1) := by decide +kernel
theorem dl_448 : decode lw_Y.2.1 448 = .ok (.iload_n 3, 1) := by decide +kernel
theorem dl_449 : decode lw_Y.2.1 449 = .ok (.iconst 3, 1) := by decide +kernel
theorem dl_450 : decode lw_Y.2.1 450 = .ok (.iadd, 1) := by decide +kernel
theorem dl_451 : decode lw_Y.2.1 451 = .ok (.iaload, 1) := by decide +kernel
theorem dl_452 : decode lw_Y.2.1 452 = .ok (.aload_n 0, 1) := by decide +kernel
theorem dl_453 : decode lw_Y.2.1 453 = .ok (.iload_n 3, 1) := by decide +kernel
theorem dl_454 : decode lw_Y.2.1 454 = .ok (.iconst 4, 1) := by decide +kernel
theorem dl_455 : decode lw_Y.2.1 455 = .ok (.iadd, 1) := by decide +kernel
theorem dl_456 : decode lw_Y.2.1 456 = .ok (.iaload, 1) := by decide +kernel
theorem dl_457 : decode lw_Y.2.1 457 = .ok (.invokevirtual 54, 3) := by decide +kernel
theorem dl_460 : decode lw_Y.2.1 460 = .ok (.if_icmp .eq 963, 3) := by decide +kernel
theorem dl_463 : decode lw_Y.2.1 463 = .ok (.iconst 0, 1) := by decide +kernel
theorem dl_464 : decode lw_Y.2.1 464 = .ok (.ireturn, 1) := by decide +kernel
theorem dl_465 : decode lw_Y.2.1 465 = .ok (.aload_n 1, 1) := by decide +kernel
theorem dl_466 : decode lw_Y.2.1 466 = .ok (.aload_n 0, 1) := by decide +kernel
theorem dl_467 : decode lw_Y.2.1 467 = .ok (.iload_n 3, 1) := by decide +kernel
theorem dl_468 : decode lw_Y.2.1 468 = .ok (.iconst 1, 1) := by decide +kernel
theorem dl_469 : decode lw_Y.2.1 469 = .ok (.iadd, 1) := by decide +kernel
theorem dl_470 : decode lw_Y.2.1 470 = .ok (.iaload, 1) := by decide +kernel
theorem dl_471 : decode lw_Y.2.1 471 = .ok (.aload_n 0, 1) := by decide +kernel
theorem dl_472 : decode lw_Y.2.1 472 = .ok (.iload_n 3, 1) := by decide +kernel
theorem dl_473 : decode lw_Y.2.1 473 = .ok (.iconst 2, 1) := by decide +kernel
theorem dl_474 : decode lw_Y.2.1 474 = .ok (.iadd, 1) := by decide +kernel
theorem dl_475 : decode lw_Y.2.1 475 = .ok (.iaload, 1) := by decide +kernel
theorem dl_476 : decode lw_Y.2.1 476 = .ok (.invokevirtual 55, 3) := by decide +kernel
theorem dl_479 : decode lw_Y.2.1 479 = .ok (.aload_n 2, 1) := by decide +kernel
theorem dl_480 : decode lw_Y.2.1 480 = .ok (.aload_n 0, 1) := by decide +kernel
theorem dl_481 : decode lw_Y.2.1 481 = .ok (.iload_n 3, 1) := by decide +kernel
theorem dl_482 : decode lw_Y.2.1 482 = .ok (.iconst 1, 1) := by decide +kernel
theorem dl_483 : decode lw_Y.2.1 483 = .ok (.iadd, 1) := by decide +kernel
theorem dl_484 : decode lw_Y.2.1 484 = .ok (.iaload, 1) := by decide +kernel
theorem dl_485 : decode lw_Y.2.1 485 = .ok (.aload_n 0, 1) := by decide +kernel
theorem dl_486 : decode lw_Y.2.1 486 = .ok (.iload_n 3, 1) := by decide +kernel
theorem dl_487 : decode lw_Y.2.1 487 = .ok (.iconst 2, 1) := by decide +kernel
theorem dl_488 : decode lw_Y.2.1 488 = .ok (.iadd, 1) := by decide +kernel
theorem dl_489 : decode lw_Y.2.1 489 = .ok (.iaload, 1) := by decide +kernel
theorem dl_490 : decode lw_Y.2.1 490 = .ok (.invokevirtual 59, 3) := by decide +kernel
theorem dl_493 : decode lw_Y.2.1 493 = .ok (.if_icmp .eq 930, 3) := by decide +kernel
theorem dl_496 : decode lw_Y.2.1 496 = .ok (.iconst 0, 1) := by decide +kernel
theorem dl_497 : decode lw_Y.2.1 497 = .ok (.ireturn, 1) := by decide +kernel
theorem dl_498 : decode lw_Y.2.1 498 = .ok (.aload_n 1, 1) := by decide +kernel
theorem dl_499 : decode lw_Y.2.1 499 = .ok (.aload_n 0, 1) := by decide +kernel
theorem dl_500 : decode lw_Y.2.1 500 = .ok (.iload_n 3, 1) := by decide +kernel
theorem dl_501 : decode lw_Y.2.1 501 = .ok (.iconst 1, 1) := by decide +kernel
theorem dl_502 : decode lw_Y.2.1 502 = .ok (.iadd, 1) := by decide +kernel
theorem dl_503 : decode lw_Y.2.1 503 = .ok (.iaload, 1) := by decide +kernel
theorem dl_504 : decode lw_Y.2.1 504 = .ok (.aload_n 0, 1) := by decide +kernel
theorem dl_505 : decode lw_Y.2.1 505 = .ok (.iload_n 3, 1) := by decide +kernel
theorem dl_506 : decode lw_Y.2.1 506 = .ok (.iconst 2, 1) := by decide +kernel
theorem dl_507 : decode lw_Y.2.1 507 = .ok (.iadd, 1) := by decide +kernel
theorem dl_508 : decode lw_Y.2.1 508 = .ok (.iaload, 1) := by decide +kernel
theorem dl_509 : decode lw_Y.2.1 509 = .ok (.aload_n 0, 1) := by decide +kernel
theorem dl_510 : decode lw_Y.2.1 510 = .ok (.iload_n 3, 1) := by decide +kernel
theorem dl_511 : decode lw_Y.2.1 511 = .ok (.iconst 3, 1) := by decide +kernel
theorem dl_512 : decode lw_Y.2.1 512 = .ok (.iadd, 1) := by decide +kernel
theorem dl_513 : decode lw_Y.2.1 513 = .ok (.iaload, 1) := by decide +kernel
theorem dl_514 : decode lw_Y.2.1 514 = .ok (.invokevirtual 60, 3) := by decide +kernel
theorem dl_517 : decode lw_Y.2.1 517 = .ok (.aload_n 2, 1) := by decide +kernel
theorem dl_518 : decode lw_Y.2.1 518 = .ok (.aload_n 0, 1) := by decide +kernel
theorem dl_519 : decode lw_Y.2.1 519 = .ok (.iload_n 3, 1) := by decide +kernel
theorem dl_520 : decode lw_Y.2.1 520 = .ok (.iconst 1, 1) := by decide +kernel
theorem dl_521 : decode lw_Y.2.1 521 = .ok (.iadd, 1) := by decide +kernel
theorem dl_522 : decode lw_Y.2.1 522 = .ok (.iaload, 1) := by decide +kernel
theorem dl_523 : decode lw_Y.2.1 523 = .ok (.aload_n 0, 1) := by decide +kernel
theorem dl_524 : decode lw_Y.2.1 524 = .ok (.iload_n 3, 1) := by decide +kernel
theorem dl_525 : decode lw_Y.2.1 525 = .ok (.iconst 2, 1) := by decide +kernel
theorem dl_526 : decode lw_Y.2.1 526 = .ok (.iadd, 1) := by decide +kernel
theorem dl_527 : decode lw_Y.2.1 527 = .ok (.iaload, 1) := by decide +kernel
theorem dl_528 : decode lw_Y.2.1 528 = .ok (.aload_n 0, 1) := by decide +kernel
theorem dl_529 : decode lw_Y.2.1 529 = .ok (.iload_n 3, 1) := by decide +kernel
theorem dl_530 : decode lw_Y.2.1 530 = .ok (.iconst 3, 1) := by decide +kernel
theorem dl_531 : decode lw_Y.2.1 531 = .ok (.iadd, 1) := by decide +kernel
theorem dl_532 : decode lw_Y.2.1 532 = .ok (.iaload, 1) := by decide +kernel
theorem dl_533 : decode lw_Y.2.1 533 = .ok (.invokevirtual 64, 3) := by decide +kernel
theorem dl_536 : decode lw_Y.2.1 536 = .ok (.if_icmp .eq 887, 3) := by decide +kernel
theorem dl_539 : decode lw_Y.2.1 539 = .ok (.iconst 0, 1) := by decide +kernel
theorem dl_540 : decode lw_Y.2.1 540 = .ok (.ireturn, 1) := by decide +kernel
theorem dl_541 : decode lw_Y.2.1 541 = .ok (.aload_n 1, 1) := by decide +kernel
theorem dl_542 : decode lw_Y.2.1 542 = .ok (.aload_n 0, 1) := by decide +kernel
theorem dl_543 : decode lw_Y.2.1 543 = .ok (.iload_n 3, 1) := by decide +kernel
theorem dl_544 : decode lw_Y.2.1 544 = .ok (.iconst 1, 1) := by decide +kernel
theorem dl_545 : decode lw_Y.2.1 545 = .ok (.iadd, 1) := by decide +kernel
theorem dl_546 : decode lw_Y.2.1 546 = .ok (.iaload, 1) := by decide +kernel
theorem dl_547 : decode lw_Y.2.1 547 = .ok (.aload_n 0, 1) := by decide +kernel
theorem dl_548 : decode lw_Y.2.1 548 = .ok (.iload_n 3, 1) := by decide +kernel
theorem dl_549 : decode lw_Y.2.1 549 = .ok (.iconst 2, 1) := by decide +kernel
theorem dl_550 : decode lw_Y.2.1 550 = .ok (.iadd, 1) := by decide +kernel
theorem dl_551 : decode lw_Y.2.1 551 = .ok (.iaload, 1) := by decide +kernel
theorem dl_552 : decode lw_Y.2.1 552 = .ok (.aload_n 0, 1) := by decide +kernel
theorem dl_553 : decode lw_Y.2.1 553 = .ok (.iload_n 3, 1) := by decide +kernel
theorem dl_554 : decode lw_Y.2.1 554 = .ok (.iconst 3, 1) := by decide +kernel
theorem dl_555 : decode lw_Y.2.1 555 = .ok (.iadd, 1) := by decide +kernel
theorem dl_556 : decode lw_Y.2.1 556 = .ok (.iaload, 1) := by decide +kernel
theorem dl_557 : decode lw_Y.2.1 557 = .ok (.invokevirtual 65, 3) := by decide +kernel
theorem dl_560 : decode lw_Y.2.1 560 = .ok (.aload_n 2, 1) := by decide +kernel
theorem dl_561 : decode lw_Y.2.1 561 = .ok (.aload_n 0, 1) := by decide +kernel
theorem dl_562 : decode lw_Y.2.1 562 = .ok (.iload_n 3, 1) := by decide +kernel
theorem dl_563 : decode lw_Y.2.1 563 = .ok (.iconst 1, 1) := by decide +kernel
theorem dl_564 : decode lw_Y.2.1 564 = .ok (.iadd, 1) := by decide +kernel
theorem dl_565 : decode lw_Y.2.1 565 = .ok (.iaload, 1) := by decide +kernel
theorem dl_566 : decode lw_Y.2.1 566 = .ok (.aload_n 0, 1) := by decide +kernel
theorem dl_567 : decode lw_Y.2.1 567 = .ok (.iload_n 3, 1) := by decide +kernel
theorem dl_568 : decode lw_Y.2.1 568 = .ok (.iconst 2, 1) := by decide +kernel
theorem dl_569 : decode lw_Y.2.1 569 = .ok (.iadd, 1) := by decide +kernel
theorem dl_570 : decode lw_Y.2.1 570 = .ok (.iaload, 1) := by decide +kernel
theorem dl_571 : decode lw_Y.2.1 571 = .ok (.aload_n 0, 1) := by decide +kernel
theorem dl_572 : decode lw_Y.2.1 572 = .ok (.iload_n 3, 1) := by decide +kernel
theorem dl_573 : decode lw_Y.2.1 573 = .ok (.iconst 3, 1) := by decide +kernel
theorem dl_574 : decode lw_Y.2.1 574 = .ok (.iadd, 1) := by decide +kernel
theorem dl_575 : decode lw_Y.2.1 575 = .ok (.iaload, 1) := by decide +kernel
theorem dl_576 : decode lw_Y.2.1 576 = .ok (.invokevirtual 68, 3) := by decide +kernel
theorem dl_579 : decode lw_Y.2.1 579 = .ok (.if_icmp .eq 844, 3) := by decide +kernel
theorem dl_582 : decode lw_Y.2.1 582 = .ok (.iconst 0, 1) := by decide +kernel
theorem dl_583 : decode lw_Y.2.1 583 = .ok (.ireturn, 1) := by decide +kernel
theorem dl_584 : decode lw_Y.2.1 584 = .ok (.aload_n 1, 1) := by decide +kernel
theorem dl_585 : decode lw_Y.2.1 585 = .ok (.aload_n 0, 1) := by decide +kernel
theorem dl_586 : decode lw_Y.2.1 586 = .ok (.iload_n 3, 1) := by decide +kernel
theorem dl_587 : decode lw_Y.2.1 587 = .ok (.iconst 1, 1) := by decide +kernel
theorem dl_588 : decode lw_Y.2.1 588 = .ok (.iadd, 1) := by decide +kernel
theorem dl_589 : decode lw_Y.2.1 589 = .ok (.iaload, 1) := by decide +kernel
theorem dl_590 : decode lw_Y.2.1 590 = .ok (.aload_n 0, 1) := by decide +kernel
theorem dl_591 : decode lw_Y.2.1 591 = .ok (.iload_n 3, 1) := by decide +kernel
theorem dl_592 : decode lw_Y.2.1 592 = .ok (.iconst 2, 1) := by decide +kernel
theorem dl_593 : decode lw_Y.2.1 593 = .ok (.iadd, 1) := by decide +kernel
theorem dl_594 : decode lw_Y.2.1 594 = .ok (.iaload, 1) := by decide +kernel
theorem dl_595 : decode lw_Y.2.1 595 = .ok (.aload_n 0, 1) := by decide +kernel
theorem dl_596 : decode lw_Y.2.1 596 = .ok (.iload_n 3, 1) := by decide +kernel
theorem dl_597 : decode lw_Y.2.1 597 = .ok (.iconst 3, 1) := by decide +kernel
theorem dl_598 : decode lw_Y.2.1 598 = .ok (.iadd, 1) := by decide +kernel
theorem dl_599 : decode lw_Y.2.1 599 = .ok (.iaload, 1) := by decide +kernel
theorem dl_600 : decode lw_Y.2.1 600 = .ok (.aload_n 0, 1) := by decide +kernel
theorem dl_601 : decode lw_Y.2.1 601 = .ok (.iload_n 3, 1) := by decide +kernel
theorem dl_602 : decode lw_Y.2.1 602 = .ok (.iconst 4, 1) := by decide +kernel
theorem dl_603 : decode lw_Y.2.1 603 = .ok (.iadd, 1) := by decide +kernel
theorem dl_604 : decode lw_Y.2.1 604 = .ok (.iaload, 1) := by decide +kernel
theorem dl_605 : decode lw_Y.2.1 605 = .ok (.invokevirtual 69, 3) := by decide +kernel
theorem dl_608 : decode lw_Y.2.1 608 = .ok (.aload_n 2, 1) := by decide +kernel
theorem dl_609 : decode lw_Y.2.1 609 = .ok (.aload_n 0, 1) := by decide +kernel
theorem dl_610 : decode lw_Y.2.1 610 = .ok (.iload_n 3, 1) := by decide +kernel
theorem dl_611 : decode lw_Y.2.1 611 = .ok (.iconst 1, 1) := by decide +kernel
theorem dl_612 : decode lw_Y.2.1 612 = .ok (.iadd, 1) := by decide +kernel
theorem dl_613 : decode lw_Y.2.1 613 = .ok (.iaload, 1) := by decide +kernel
theorem dl_614 : decode lw_Y.2.1 614 = .ok (.aload_n 0, 1) := by decide +kernel
theorem dl_615 : decode lw_Y.2.1 615 = .ok (.iload_n 3, 1) := by decide +kernel
theorem dl_616 : decode lw_Y.2.1 616 = .ok (.iconst 2, 1) := by decide +kernel
theorem dl_617 : decode lw_Y.2.1 617 = .ok (.iadd, 1) := by decide +kernel
theorem dl_618 : decode lw_Y.2.1 618 = .ok (.iaload, 1) := by decide +kernel
theorem dl_619 : decode lw_Y.2.1 619 = .ok (.aload_n 0, 1) := by decide +kernel
theorem dl_620 : decode lw_Y.2.1 620 = .ok (.iload_n 3, 1) := by decide +kernel
theorem dl_621 : decode lw_Y.2.1 621 = .ok (.iconst 3, 1) := by decide +kernel
theorem dl_622 : decode lw_Y.2.1 622 = .ok (.iadd, 1) := by decide +kernel
theorem dl_623 : decode lw_Y.2.1 623 = .ok (.iaload, 1) := by decide +kernel
theorem dl_624 : decode lw_Y.2.1 624 = .ok (.aload_n 0, 1) := by decide +kernel
theorem dl_625 : decode lw_Y.2.1 625 = .ok (.iload_n 3, 1) := by decide +kernel
theorem dl_626 : decode lw_Y.2.1 626 = .ok (.iconst 4, 1) := by decide +kernel
theorem dl_627 : decode lw_Y.2.1 627 = .ok (.iadd, 1) := by decide +kernel
theorem dl_628 : decode lw_Y.2.1 628 = .ok (.iaload, 1) := by decide +kernel
theorem dl_629 : decode lw_Y.2.1 629 = .ok (.invokevirtual 73, 3) := by decide +kernel
theorem dl_632 : decode lw_Y.2.1 632 = .ok (.if_icmp .eq 791, 3) := by decide +kernel
theorem dl_635 : decode lw_Y.2.1 635 = .ok (.iconst 0, 1) := by decide +kernel
theorem dl_636 : decode lw_Y.2.1 636 = .ok (.ireturn, 1) := by decide +kernel
theorem dl_637 : decode lw_Y.2.1 637 = .ok (.aload_n 1, 1) := by decide +kernel
theorem dl_638 : decode lw_Y.2.1 638 = .ok (.aload_n 0, 1) := by decide +kernel
theorem dl_639 : decode lw_Y.2.1 639 = .ok (.iload_n 3, 1) := by decide +kernel
theorem dl_640 : decode lw_Y.2.1 640 = .ok (.iconst 1, 1) := by decide +kernel
theorem dl_641 : decode lw_Y.2.1 641 = .ok (.iadd, 1) := by decide +kernel
theorem dl_642 : decode lw_Y.2.1 642 = .ok (.iaload, 1) := by decide +kernel
theorem dl_643 : decode lw_Y.2.1 643 = .ok (.aload_n 0, 1) := by decide +kernel
theorem dl_644 : decode lw_Y.2.1 644 = .ok (.iload_n 3, 1) := by decide +kernel
theorem dl_645 : decode lw_Y.2.1 645 = .ok (.iconst 2, 1) := by decide +kernel
theorem dl_646 : decode lw_Y.2.1 646 = .ok (.iadd, 1) := by decide +kernel
theorem dl_647 : decode lw_Y.2.1 647 = .ok (.iaload, 1) := by decide +kernel
theorem dl_648 : decode lw_Y.2.1 648 = .ok (.aload_n 0, 1) := by decide +kernel
theorem dl_649 : decode lw_Y.2.1 649 = .ok (.iload_n 3, 1) := by decide +kernel
theorem dl_650 : decode lw_Y.2.1 650 = .ok (.iconst 3, 1) := by decide +kernel
theorem dl_651 : decode lw_Y.2.1 651 = .ok (.iadd, 1) := by decide +kernel
theorem dl_652 : decode lw_Y.2.1 652 = .ok (.iaload, 1) := by decide +kernel
theorem dl_653 : decode lw_Y.2.1 653 = .ok (.invokevirtual 74, 3) := by decide +kernel
theorem dl_656 : decode lw_Y.2.1 656 = .ok (.aload_n 2, 1) := by decide +kernel
theorem dl_657 : decode lw_Y.2.1 657 = .ok (.aload_n 0, 1) := by decide +kernel
theorem dl_658 : decode lw_Y.2.1 658 = .ok (.iload_n 3, 1) := by decide +kernel
theorem dl_659 : decode lw_Y.2.1 659 = .ok (.iconst 1, 1) := by decide +kernel
theorem dl_660 : decode lw_Y.2.1 660 = .ok (.iadd, 1) := by decide +kernel
theorem dl_661 : decode lw_Y.2.1 661 = .ok (.iaload, 1) := by decide +kernel
theorem dl_662 : decode lw_Y.2.1 662 = .ok (.aload_n 0, 1) := by decide +kernel
theorem dl_663 : decode lw_Y.2.1 663 = .ok (.iload_n 3, 1) := by decide +kernel
theorem dl_664 : decode lw_Y.2.1 664 = .ok (.iconst 2, 1) := by decide +kernel
theorem dl_665 : decode lw_Y.2.1 665 = .ok (.iadd, 1) := by decide +kernel
