theorem dL_law_493 : decode code 493 = .ok (.if_icmp .eq 358, 3) := by decide +kernel
theorem dL_law_496 : decode code 496 = .ok (.iconst 0, 1) := by decide +kernel
theorem dL_law_497 : decode code 497 = .ok (.ireturn, 1) := by decide +kernel
theorem dL_law_498 : decode code 498 = .ok (.aload_n 1, 1) := by decide +kernel
theorem dL_law_499 : decode code 499 = .ok (.aload_n 0, 1) := by decide +kernel
theorem dL_law_500 : decode code 500 = .ok (.iload 4, 2) := by decide +kernel
theorem dL_law_502 : decode code 502 = .ok (.iconst 1, 1) := by decide +kernel
theorem dL_law_503 : decode code 503 = .ok (.iadd, 1) := by decide +kernel
theorem dL_law_504 : decode code 504 = .ok (.iaload, 1) := by decide +kernel
theorem dL_law_505 : decode code 505 = .ok (.aload_n 0, 1) := by decide +kernel
theorem dL_law_506 : decode code 506 = .ok (.iload 4, 2) := by decide +kernel
theorem dL_law_508 : decode code 508 = .ok (.iconst 2, 1) := by decide +kernel
theorem dL_law_509 : decode code 509 = .ok (.iadd, 1) := by decide +kernel
theorem dL_law_510 : decode code 510 = .ok (.iaload, 1) := by decide +kernel
theorem dL_law_511 : decode code 511 = .ok (.invokevirtual 66, 3) := by decide +kernel
theorem dL_law_514 : decode code 514 = .ok (.aload_n 2, 1) := by decide +kernel
theorem dL_law_515 : decode code 515 = .ok (.aload_n 0, 1) := by decide +kernel
theorem dL_law_516 : decode code 516 = .ok (.iload 4, 2) := by decide +kernel
theorem dL_law_518 : decode code 518 = .ok (.iconst 1, 1) := by decide +kernel
theorem dL_law_519 : decode code 519 = .ok (.iadd, 1) := by decide +kernel
theorem dL_law_520 : decode code 520 = .ok (.iaload, 1) := by decide +kernel
theorem dL_law_521 : decode code 521 = .ok (.aload_n 0, 1) := by decide +kernel
theorem dL_law_522 : decode code 522 = .ok (.iload 4, 2) := by decide +kernel
theorem dL_law_524 : decode code 524 = .ok (.iconst 2, 1) := by decide +kernel
theorem dL_law_525 : decode code 525 = .ok (.iadd, 1) := by decide +kernel
theorem dL_law_526 : decode code 526 = .ok (.iaload, 1) := by decide +kernel
theorem dL_law_527 : decode code 527 = .ok (.invokevirtual 69, 3) := by decide +kernel
theorem dL_law_530 : decode code 530 = .ok (.if_icmp .eq 321, 3) := by decide +kernel
theorem dL_law_533 : decode code 533 = .ok (.iconst 0, 1) := by decide +kernel
theorem dL_law_534 : decode code 534 = .ok (.ireturn, 1) := by decide +kernel
theorem dL_law_535 : decode code 535 = .ok (.aload_n 1, 1) := by decide +kernel
theorem dL_law_536 : decode code 536 = .ok (.aload_n 0, 1) := by decide +kernel
theorem dL_law_537 : decode code 537 = .ok (.iload 4, 2) := by decide +kernel
theorem dL_law_539 : decode code 539 = .ok (.iconst 1, 1) := by decide +kernel
theorem dL_law_540 : decode code 540 = .ok (.iadd, 1) := by decide +kernel
theorem dL_law_541 : decode code 541 = .ok (.iaload, 1) := by decide +kernel
theorem dL_law_542 : decode code 542 = .ok (.aload_n 0, 1) := by decide +kernel
theorem dL_law_543 : decode code 543 = .ok (.iload 4, 2) := by decide +kernel
theorem dL_law_545 : decode code 545 = .ok (.iconst 2, 1) := by decide +kernel
theorem dL_law_546 : decode code 546 = .ok (.iadd, 1) := by decide +kernel
theorem dL_law_547 : decode code 547 = .ok (.iaload, 1) := by decide +kernel
theorem dL_law_548 : decode code 548 = .ok (.invokevirtual 70, 3) := by decide +kernel
theorem dL_law_551 : decode code 551 = .ok (.aload_n 2, 1) := by decide +kernel
theorem dL_law_552 : decode code 552 = .ok (.aload_n 0, 1) := by decide +kernel
theorem dL_law_553 : decode code 553 = .ok (.iload 4, 2) := by decide +kernel
theorem dL_law_555 : decode code 555 = .ok (.iconst 1, 1) := by decide +kernel
theorem dL_law_556 : decode code 556 = .ok (.iadd, 1) := by decide +kernel
theorem dL_law_557 : decode code 557 = .ok (.iaload, 1) := by decide +kernel
theorem dL_law_558 : decode code 558 = .ok (.aload_n 0, 1) := by decide +kernel
theorem dL_law_559 : decode code 559 = .ok (.iload 4, 2) := by decide +kernel
theorem dL_law_561 : decode code 561 = .ok (.iconst 2, 1) := by decide +kernel
theorem dL_law_562 : decode code 562 = .ok (.iadd, 1) := by decide +kernel
theorem dL_law_563 : decode code 563 = .ok (.iaload, 1) := by decide +kernel
theorem dL_law_564 : decode code 564 = .ok (.invokevirtual 73, 3) := by decide +kernel
theorem dL_law_567 : decode code 567 = .ok (.if_icmp .eq 284, 3) := by decide +kernel
theorem dL_law_570 : decode code 570 = .ok (.iconst 0, 1) := by decide +kernel
theorem dL_law_571 : decode code 571 = .ok (.ireturn, 1) := by decide +kernel
theorem dL_law_572 : decode code 572 = .ok (.aload_n 1, 1) := by decide +kernel
theorem dL_law_573 : decode code 573 = .ok (.aload_n 0, 1) := by decide +kernel
theorem dL_law_574 : decode code 574 = .ok (.iload 4, 2) := by decide +kernel
theorem dL_law_576 : decode code 576 = .ok (.iconst 1, 1) := by decide +kernel
theorem dL_law_577 : decode code 577 = .ok (.iadd, 1) := by decide +kernel
theorem dL_law_578 : decode code 578 = .ok (.iaload, 1) := by decide +kernel
theorem dL_law_579 : decode code 579 = .ok (.invokevirtual 74, 3) := by decide +kernel
theorem dL_law_582 : decode code 582 = .ok (.aload_n 2, 1) := by decide +kernel
theorem dL_law_583 : decode code 583 = .ok (.aload_n 0, 1) := by decide +kernel
theorem dL_law_584 : decode code 584 = .ok (.iload 4, 2) := by decide +kernel
theorem dL_law_586 : decode code 586 = .ok (.iconst 1, 1) := by decide +kernel
theorem dL_law_587 : decode code 587 = .ok (.iadd, 1) := by decide +kernel
theorem dL_law_588 : decode code 588 = .ok (.iaload, 1) := by decide +kernel
theorem dL_law_589 : decode code 589 = .ok (.invokevirtual 77, 3) := by decide +kernel
theorem dL_law_592 : decode code 592 = .ok (.if_icmp .eq 259, 3) := by decide +kernel
theorem dL_law_595 : decode code 595 = .ok (.iconst 0, 1) := by decide +kernel
theorem dL_law_596 : decode code 596 = .ok (.ireturn, 1) := by decide +kernel
theorem dL_law_597 : decode code 597 = .ok (.aload_n 1, 1) := by decide +kernel
theorem dL_law_598 : decode code 598 = .ok (.aload_n 0, 1) := by decide +kernel
theorem dL_law_599 : decode code 599 = .ok (.iload 4, 2) := by decide +kernel
theorem dL_law_601 : decode code 601 = .ok (.iconst 1, 1) := by decide +kernel
theorem dL_law_602 : decode code 602 = .ok (.iadd, 1) := by decide +kernel
theorem dL_law_603 : decode code 603 = .ok (.iaload, 1) := by decide +kernel
theorem dL_law_604 : decode code 604 = .ok (.invokevirtual 78, 3) := by decide +kernel
theorem dL_law_607 : decode code 607 = .ok (.aload_n 2, 1) := by decide +kernel
theorem dL_law_608 : decode code 608 = .ok (.aload_n 0, 1) := by decide +kernel
theorem dL_law_609 : decode code 609 = .ok (.iload 4, 2) := by decide +kernel
theorem dL_law_611 : decode code 611 = .ok (.iconst 1, 1) := by decide +kernel
theorem dL_law_612 : decode code 612 = .ok (.iadd, 1) := by decide +kernel
theorem dL_law_613 : decode code 613 = .ok (.iaload, 1) := by decide +kernel
theorem dL_law_614 : decode code 614 = .ok (.invokevirtual 81, 3) := by decide +kernel
theorem dL_law_617 : decode code 617 = .ok (.if_icmp .eq 234, 3) := by decide +kernel
theorem dL_law_620 : decode code 620 = .ok (.iconst 0, 1) := by decide +kernel
theorem dL_law_621 : decode code 621 = .ok (.ireturn, 1) := by decide +kernel
theorem dL_law_622 : decode code 622 = .ok (.aload_n 1, 1) := by decide +kernel
theorem dL_law_623 : decode code 623 = .ok (.aload_n 0, 1) := by decide +kernel
theorem dL_law_624 : decode code 624 = .ok (.iload 4, 2) := by decide +kernel
theorem dL_law_626 : decode code 626 = .ok (.iconst 1, 1) := by decide +kernel
theorem dL_law_627 : decode code 627 = .ok (.iadd, 1) := by decide +kernel
theorem dL_law_628 : decode code 628 = .ok (.iaload, 1) := by decide +kernel
theorem dL_law_629 : decode code 629 = .ok (.aload_n 0, 1) := by decide +kernel
theorem dL_law_630 : decode code 630 = .ok (.iload 4, 2) := by decide +kernel
theorem dL_law_632 : decode code 632 = .ok (.iconst 2, 1) := by decide +kernel
theorem dL_law_633 : decode code 633 = .ok (.iadd, 1) := by decide +kernel
theorem dL_law_634 : decode code 634 = .ok (.iaload, 1) := by decide +kernel
theorem dL_law_635 : decode code 635 = .ok (.aload_n 0, 1) := by decide +kernel
theorem dL_law_636 : decode code 636 = .ok (.iload 4, 2) := by decide +kernel
theorem dL_law_638 : decode code 638 = .ok (.iconst 3, 1) := by decide +kernel
theorem dL_law_639 : decode code 639 = .ok (.iadd, 1) := by decide +kernel
theorem dL_law_640 : decode code 640 = .ok (.iaload, 1) := by decide +kernel
theorem dL_law_641 : decode code 641 = .ok (.aload_n 3, 1) := by decide +kernel
theorem dL_law_642 : decode code 642 = .ok (.invokestatic 82, 3) := by decide +kernel
theorem dL_law_645 : decode code 645 = .ok (.istore 5, 2) := by decide +kernel
theorem dL_law_647 : decode code 647 = .ok (.aload_n 2, 1) := by decide +kernel
theorem dL_law_648 : decode code 648 = .ok (.aload_n 0, 1) := by decide +kernel
theorem dL_law_649 : decode code 649 = .ok (.iload 4, 2) := by decide +kernel
theorem dL_law_651 : decode code 651 = .ok (.iconst 1, 1) := by decide +kernel
theorem dL_law_652 : decode code 652 = .ok (.iadd, 1) := by decide +kernel
theorem dL_law_653 : decode code 653 = .ok (.iaload, 1) := by decide +kernel
theorem dL_law_654 : decode code 654 = .ok (.aload_n 0, 1) := by decide +kernel
theorem dL_law_655 : decode code 655 = .ok (.iload 4, 2) := by decide +kernel
theorem dL_law_657 : decode code 657 = .ok (.iconst 2, 1) := by decide +kernel
theorem dL_law_658 : decode code 658 = .ok (.iadd, 1) := by decide +kernel
theorem dL_law_659 : decode code 659 = .ok (.iaload, 1) := by decide +kernel
theorem dL_law_660 : decode code 660 = .ok (.aload_n 0, 1) := by decide +kernel
theorem dL_law_661 : decode code 661 = .ok (.iload 4, 2) := by decide +kernel
theorem dL_law_663 : decode code 663 = .ok (.iconst 3, 1) := by decide +kernel
theorem dL_law_664 : decode code 664 = .ok (.iadd, 1) := by decide +kernel
theorem dL_law_665 : decode code 665 = .ok (.iaload, 1) := by decide +kernel
theorem dL_law_666 : decode code 666 = .ok (.invokevirtual 87, 3) := by decide +kernel
theorem dL_law_669 : decode code 669 = .ok (.istore 6, 2) := by decide +kernel
theorem dL_law_671 : decode code 671 = .ok (.aload_n 2, 1) := by decide +kernel
theorem dL_law_672 : decode code 672 = .ok (.invokevirtual 88, 3) := by decide +kernel
theorem dL_law_675 : decode code 675 = .ok (.iload 5, 2) := by decide +kernel
theorem dL_law_677 : decode code 677 = .ok (.if_icmp .eq 5, 3) := by decide +kernel
theorem dL_law_680 : decode code 680 = .ok (.iconst 0, 1) := by decide +kernel
theorem dL_law_681 : decode code 681 = .ok (.ireturn, 1) := by decide +kernel
theorem dL_law_682 : decode code 682 = .ok (.iload 5, 2) := by decide +kernel
theorem dL_law_684 : decode code 684 = .ok (.ifCond .ne 15, 3) := by decide +kernel
theorem dL_law_687 : decode code 687 = .ok (.aload_n 3, 1) := by decide +kernel
theorem dL_law_688 : decode code 688 = .ok (.iconst 0, 1) := by decide +kernel
theorem dL_law_689 : decode code 689 = .ok (.laload, 1) := by decide +kernel
theorem dL_law_690 : decode code 690 = .ok (.iload 6, 2) := by decide +kernel
