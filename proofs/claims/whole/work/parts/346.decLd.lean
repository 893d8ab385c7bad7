theorem dL_527 : decode code 527 = .ok (.aload_n 2, 1) := by decide +kernel
theorem dL_528 : decode code 528 = .ok (.aload_n 0, 1) := by decide +kernel
theorem dL_529 : decode code 529 = .ok (.iload_n 3, 1) := by decide +kernel
theorem dL_530 : decode code 530 = .ok (.iconst 1, 1) := by decide +kernel
theorem dL_531 : decode code 531 = .ok (.iadd, 1) := by decide +kernel
theorem dL_532 : decode code 532 = .ok (.iaload, 1) := by decide +kernel
theorem dL_533 : decode code 533 = .ok (.i2l, 1) := by decide +kernel
theorem dL_534 : decode code 534 = .ok (.bipush 32, 2) := by decide +kernel
theorem dL_536 : decode code 536 = .ok (.lshl, 1) := by decide +kernel
theorem dL_537 : decode code 537 = .ok (.aload_n 0, 1) := by decide +kernel
theorem dL_538 : decode code 538 = .ok (.iload_n 3, 1) := by decide +kernel
theorem dL_539 : decode code 539 = .ok (.iconst 2, 1) := by decide +kernel
theorem dL_540 : decode code 540 = .ok (.iadd, 1) := by decide +kernel
theorem dL_541 : decode code 541 = .ok (.iaload, 1) := by decide +kernel
theorem dL_542 : decode code 542 = .ok (.i2l, 1) := by decide +kernel
theorem dL_543 : decode code 543 = .ok (.ldc2_w 69, 3) := by decide +kernel
theorem dL_546 : decode code 546 = .ok (.land, 1) := by decide +kernel
theorem dL_547 : decode code 547 = .ok (.lor, 1) := by decide +kernel
theorem dL_548 : decode code 548 = .ok (.invokevirtual 79, 3) := by decide +kernel
theorem dL_551 : decode code 551 = .ok (.if_icmp .eq 363, 3) := by decide +kernel
theorem dL_554 : decode code 554 = .ok (.iconst 0, 1) := by decide +kernel
theorem dL_555 : decode code 555 = .ok (.ireturn, 1) := by decide +kernel
theorem dL_556 : decode code 556 = .ok (.aload_n 1, 1) := by decide +kernel
theorem dL_557 : decode code 557 = .ok (.invokevirtual 80, 3) := by decide +kernel
theorem dL_560 : decode code 560 = .ok (.aload_n 2, 1) := by decide +kernel
theorem dL_561 : decode code 561 = .ok (.invokevirtual 83, 3) := by decide +kernel
theorem dL_564 : decode code 564 = .ok (.if_icmp .eq 350, 3) := by decide +kernel
theorem dL_567 : decode code 567 = .ok (.iconst 0, 1) := by decide +kernel
theorem dL_568 : decode code 568 = .ok (.ireturn, 1) := by decide +kernel
theorem dL_569 : decode code 569 = .ok (.aload_n 1, 1) := by decide +kernel
theorem dL_570 : decode code 570 = .ok (.aload_n 0, 1) := by decide +kernel
theorem dL_571 : decode code 571 = .ok (.iload_n 3, 1) := by decide +kernel
theorem dL_572 : decode code 572 = .ok (.iconst 1, 1) := by decide +kernel
theorem dL_573 : decode code 573 = .ok (.iadd, 1) := by decide +kernel
theorem dL_574 : decode code 574 = .ok (.iaload, 1) := by decide +kernel
theorem dL_575 : decode code 575 = .ok (.invokevirtual 84, 3) := by decide +kernel
theorem dL_578 : decode code 578 = .ok (.aload_n 2, 1) := by decide +kernel
theorem dL_579 : decode code 579 = .ok (.aload_n 0, 1) := by decide +kernel
theorem dL_580 : decode code 580 = .ok (.iload_n 3, 1) := by decide +kernel
theorem dL_581 : decode code 581 = .ok (.iconst 1, 1) := by decide +kernel
theorem dL_582 : decode code 582 = .ok (.iadd, 1) := by decide +kernel
theorem dL_583 : decode code 583 = .ok (.iaload, 1) := by decide +kernel
theorem dL_584 : decode code 584 = .ok (.invokevirtual 87, 3) := by decide +kernel
theorem dL_587 : decode code 587 = .ok (.lcmp, 1) := by decide +kernel
theorem dL_588 : decode code 588 = .ok (.ifCond .eq 326, 3) := by decide +kernel
theorem dL_591 : decode code 591 = .ok (.iconst 0, 1) := by decide +kernel
theorem dL_592 : decode code 592 = .ok (.ireturn, 1) := by decide +kernel
theorem dL_593 : decode code 593 = .ok (.aload_n 1, 1) := by decide +kernel
theorem dL_594 : decode code 594 = .ok (.aload_n 0, 1) := by decide +kernel
theorem dL_595 : decode code 595 = .ok (.iload_n 3, 1) := by decide +kernel
theorem dL_596 : decode code 596 = .ok (.iconst 1, 1) := by decide +kernel
theorem dL_597 : decode code 597 = .ok (.iadd, 1) := by decide +kernel
theorem dL_598 : decode code 598 = .ok (.iaload, 1) := by decide +kernel
theorem dL_599 : decode code 599 = .ok (.invokevirtual 88, 3) := by decide +kernel
theorem dL_602 : decode code 602 = .ok (.aload_n 2, 1) := by decide +kernel
theorem dL_603 : decode code 603 = .ok (.aload_n 0, 1) := by decide +kernel
theorem dL_604 : decode code 604 = .ok (.iload_n 3, 1) := by decide +kernel
theorem dL_605 : decode code 605 = .ok (.iconst 1, 1) := by decide +kernel
theorem dL_606 : decode code 606 = .ok (.iadd, 1) := by decide +kernel
theorem dL_607 : decode code 607 = .ok (.iaload, 1) := by decide +kernel
theorem dL_608 : decode code 608 = .ok (.invokevirtual 91, 3) := by decide +kernel
theorem dL_611 : decode code 611 = .ok (.lcmp, 1) := by decide +kernel
theorem dL_612 : decode code 612 = .ok (.ifCond .eq 302, 3) := by decide +kernel
theorem dL_615 : decode code 615 = .ok (.iconst 0, 1) := by decide +kernel
theorem dL_616 : decode code 616 = .ok (.ireturn, 1) := by decide +kernel
theorem dL_617 : decode code 617 = .ok (.aload_n 1, 1) := by decide +kernel
theorem dL_618 : decode code 618 = .ok (.aload_n 0, 1) := by decide +kernel
theorem dL_619 : decode code 619 = .ok (.iload_n 3, 1) := by decide +kernel
theorem dL_620 : decode code 620 = .ok (.iconst 1, 1) := by decide +kernel
theorem dL_621 : decode code 621 = .ok (.iadd, 1) := by decide +kernel
theorem dL_622 : decode code 622 = .ok (.iaload, 1) := by decide +kernel
theorem dL_623 : decode code 623 = .ok (.invokevirtual 92, 3) := by decide +kernel
theorem dL_626 : decode code 626 = .ok (.aload_n 2, 1) := by decide +kernel
theorem dL_627 : decode code 627 = .ok (.aload_n 0, 1) := by decide +kernel
theorem dL_628 : decode code 628 = .ok (.iload_n 3, 1) := by decide +kernel
theorem dL_629 : decode code 629 = .ok (.iconst 1, 1) := by decide +kernel
theorem dL_630 : decode code 630 = .ok (.iadd, 1) := by decide +kernel
theorem dL_631 : decode code 631 = .ok (.iaload, 1) := by decide +kernel
theorem dL_632 : decode code 632 = .ok (.invokevirtual 95, 3) := by decide +kernel
theorem dL_635 : decode code 635 = .ok (.lcmp, 1) := by decide +kernel
theorem dL_636 : decode code 636 = .ok (.ifCond .eq 278, 3) := by decide +kernel
theorem dL_639 : decode code 639 = .ok (.iconst 0, 1) := by decide +kernel
theorem dL_640 : decode code 640 = .ok (.ireturn, 1) := by decide +kernel
theorem dL_641 : decode code 641 = .ok (.aload_n 1, 1) := by decide +kernel
theorem dL_642 : decode code 642 = .ok (.aload_n 0, 1) := by decide +kernel
theorem dL_643 : decode code 643 = .ok (.iload_n 3, 1) := by decide +kernel
theorem dL_644 : decode code 644 = .ok (.iconst 1, 1) := by decide +kernel
theorem dL_645 : decode code 645 = .ok (.iadd, 1) := by decide +kernel
theorem dL_646 : decode code 646 = .ok (.iaload, 1) := by decide +kernel
theorem dL_647 : decode code 647 = .ok (.aload_n 0, 1) := by decide +kernel
theorem dL_648 : decode code 648 = .ok (.iload_n 3, 1) := by decide +kernel
theorem dL_649 : decode code 649 = .ok (.iconst 2, 1) := by decide +kernel
theorem dL_650 : decode code 650 = .ok (.iadd, 1) := by decide +kernel
theorem dL_651 : decode code 651 = .ok (.iaload, 1) := by decide +kernel
theorem dL_652 : decode code 652 = .ok (.invokevirtual 96, 3) := by decide +kernel
theorem dL_655 : decode code 655 = .ok (.aload_n 2, 1) := by decide +kernel
theorem dL_656 : decode code 656 = .ok (.aload_n 0, 1) := by decide +kernel
theorem dL_657 : decode code 657 = .ok (.iload_n 3, 1) := by decide +kernel
theorem dL_658 : decode code 658 = .ok (.iconst 1, 1) := by decide +kernel
theorem dL_659 : decode code 659 = .ok (.iadd, 1) := by decide +kernel
