theorem el_515 : decode code 515 = .ok (.iadd, 1) := by decide +kernel
theorem el_516 : decode code 516 = .ok (.iaload, 1) := by decide +kernel
theorem el_517 : decode code 517 = .ok (.invokevirtual 86, 3) := by decide +kernel
theorem el_520 : decode code 520 = .ok (.if_icmp .eq 398, 3) := by decide +kernel
theorem el_525 : decode code 525 = .ok (.aload_n 1, 1) := by decide +kernel
theorem el_526 : decode code 526 = .ok (.aload_n 0, 1) := by decide +kernel
theorem el_527 : decode code 527 = .ok (.iload 4, 2) := by decide +kernel
theorem el_529 : decode code 529 = .ok (.iconst 1, 1) := by decide +kernel
theorem el_530 : decode code 530 = .ok (.iadd, 1) := by decide +kernel
theorem el_531 : decode code 531 = .ok (.iaload, 1) := by decide +kernel
theorem el_532 : decode code 532 = .ok (.aload_n 0, 1) := by decide +kernel
theorem el_533 : decode code 533 = .ok (.iload 4, 2) := by decide +kernel
theorem el_535 : decode code 535 = .ok (.iconst 2, 1) := by decide +kernel
theorem el_536 : decode code 536 = .ok (.iadd, 1) := by decide +kernel
theorem el_537 : decode code 537 = .ok (.iaload, 1) := by decide +kernel
theorem el_538 : decode code 538 = .ok (.invokevirtual 87, 3) := by decide +kernel
theorem el_541 : decode code 541 = .ok (.aload_n 2, 1) := by decide +kernel
theorem el_542 : decode code 542 = .ok (.aload_n 0, 1) := by decide +kernel
theorem el_543 : decode code 543 = .ok (.iload 4, 2) := by decide +kernel
theorem el_545 : decode code 545 = .ok (.iconst 1, 1) := by decide +kernel
theorem el_546 : decode code 546 = .ok (.iadd, 1) := by decide +kernel
theorem el_547 : decode code 547 = .ok (.iaload, 1) := by decide +kernel
theorem el_548 : decode code 548 = .ok (.aload_n 0, 1) := by decide +kernel
theorem el_549 : decode code 549 = .ok (.iload 4, 2) := by decide +kernel
theorem el_551 : decode code 551 = .ok (.iconst 2, 1) := by decide +kernel
theorem el_552 : decode code 552 = .ok (.iadd, 1) := by decide +kernel
theorem el_553 : decode code 553 = .ok (.iaload, 1) := by decide +kernel
theorem el_554 : decode code 554 = .ok (.invokevirtual 90, 3) := by decide +kernel
theorem el_557 : decode code 557 = .ok (.if_icmp .eq 361, 3) := by decide +kernel
theorem el_562 : decode code 562 = .ok (.aload_n 1, 1) := by decide +kernel
theorem el_563 : decode code 563 = .ok (.aload_n 0, 1) := by decide +kernel
theorem el_564 : decode code 564 = .ok (.iload 4, 2) := by decide +kernel
theorem el_566 : decode code 566 = .ok (.iconst 1, 1) := by decide +kernel
theorem el_567 : decode code 567 = .ok (.iadd, 1) := by decide +kernel
theorem el_568 : decode code 568 = .ok (.iaload, 1) := by decide +kernel
theorem el_569 : decode code 569 = .ok (.invokevirtual 91, 3) := by decide +kernel
theorem el_572 : decode code 572 = .ok (.aload_n 2, 1) := by decide +kernel
theorem el_573 : decode code 573 = .ok (.aload_n 0, 1) := by decide +kernel
theorem el_574 : decode code 574 = .ok (.iload 4, 2) := by decide +kernel
theorem el_576 : decode code 576 = .ok (.iconst 1, 1) := by decide +kernel
theorem el_577 : decode code 577 = .ok (.iadd, 1) := by decide +kernel
theorem el_578 : decode code 578 = .ok (.iaload, 1) := by decide +kernel
theorem el_579 : decode code 579 = .ok (.invokevirtual 94, 3) := by decide +kernel
theorem el_582 : decode code 582 = .ok (.if_icmp .eq 336, 3) := by decide +kernel
theorem el_587 : decode code 587 = .ok (.aload_n 1, 1) := by decide +kernel
theorem el_588 : decode code 588 = .ok (.aload_n 0, 1) := by decide +kernel
theorem el_589 : decode code 589 = .ok (.iload 4, 2) := by decide +kernel
theorem el_591 : decode code 591 = .ok (.iconst 1, 1) := by decide +kernel
theorem el_592 : decode code 592 = .ok (.iadd, 1) := by decide +kernel
theorem el_593 : decode code 593 = .ok (.iaload, 1) := by decide +kernel
theorem el_594 : decode code 594 = .ok (.aload_n 0, 1) := by decide +kernel
theorem el_595 : decode code 595 = .ok (.iload 4, 2) := by decide +kernel
theorem el_597 : decode code 597 = .ok (.iconst 2, 1) := by decide +kernel
theorem el_598 : decode code 598 = .ok (.iadd, 1) := by decide +kernel
theorem el_599 : decode code 599 = .ok (.iaload, 1) := by decide +kernel
theorem el_600 : decode code 600 = .ok (.invokevirtual 95, 3) := by decide +kernel
theorem el_603 : decode code 603 = .ok (.aload_n 2, 1) := by decide +kernel
theorem el_604 : decode code 604 = .ok (.aload_n 0, 1) := by decide +kernel
theorem el_605 : decode code 605 = .ok (.iload 4, 2) := by decide +kernel
theorem el_607 : decode code 607 = .ok (.iconst 1, 1) := by decide +kernel
theorem el_608 : decode code 608 = .ok (.iadd, 1) := by decide +kernel
theorem el_609 : decode code 609 = .ok (.iaload, 1) := by decide +kernel
theorem el_610 : decode code 610 = .ok (.aload_n 0, 1) := by decide +kernel
theorem el_611 : decode code 611 = .ok (.iload 4, 2) := by decide +kernel
theorem el_613 : decode code 613 = .ok (.iconst 2, 1) := by decide +kernel
theorem el_614 : decode code 614 = .ok (.iadd, 1) := by decide +kernel
theorem el_615 : decode code 615 = .ok (.iaload, 1) := by decide +kernel
theorem el_616 : decode code 616 = .ok (.invokevirtual 98, 3) := by decide +kernel
theorem el_619 : decode code 619 = .ok (.if_icmp .eq 299, 3) := by decide +kernel
theorem el_624 : decode code 624 = .ok (.aload_n 1, 1) := by decide +kernel
theorem el_625 : decode code 625 = .ok (.invokevirtual 99, 3) := by decide +kernel
theorem el_628 : decode code 628 = .ok (.aload_n 2, 1) := by decide +kernel
theorem el_629 : decode code 629 = .ok (.invokevirtual 102, 3) := by decide +kernel
theorem el_632 : decode code 632 = .ok (.if_icmp .eq 286, 3) := by decide +kernel
theorem el_637 : decode code 637 = .ok (.aload_n 1, 1) := by decide +kernel
theorem el_638 : decode code 638 = .ok (.invokevirtual 103, 3) := by decide +kernel
theorem el_641 : decode code 641 = .ok (.aload_n 2, 1) := by decide +kernel
theorem el_642 : decode code 642 = .ok (.invokevirtual 106, 3) := by decide +kernel
theorem el_645 : decode code 645 = .ok (.if_icmp .eq 273, 3) := by decide +kernel
theorem el_650 : decode code 650 = .ok (.aload_n 1, 1) := by decide +kernel
theorem el_651 : decode code 651 = .ok (.invokevirtual 107, 3) := by decide +kernel
theorem el_654 : decode code 654 = .ok (.aload_n 2, 1) := by decide +kernel
theorem el_655 : decode code 655 = .ok (.invokevirtual 110, 3) := by decide +kernel
theorem el_658 : decode code 658 = .ok (.if_icmp .eq 260, 3) := by decide +kernel
theorem el_663 : decode code 663 = .ok (.aload_n 1, 1) := by decide +kernel
theorem el_664 : decode code 664 = .ok (.aload_n 0, 1) := by decide +kernel
theorem el_665 : decode code 665 = .ok (.iload 4, 2) := by decide +kernel
theorem el_667 : decode code 667 = .ok (.iconst 1, 1) := by decide +kernel
theorem el_668 : decode code 668 = .ok (.iadd, 1) := by decide +kernel
theorem el_669 : decode code 669 = .ok (.iaload, 1) := by decide +kernel
theorem el_670 : decode code 670 = .ok (.aload_n 0, 1) := by decide +kernel
theorem el_671 : decode code 671 = .ok (.iload 4, 2) := by decide +kernel
theorem el_673 : decode code 673 = .ok (.iconst 2, 1) := by decide +kernel
theorem el_674 : decode code 674 = .ok (.iadd, 1) := by decide +kernel
theorem el_675 : decode code 675 = .ok (.iaload, 1) := by decide +kernel
theorem el_676 : decode code 676 = .ok (.invokevirtual 111, 3) := by decide +kernel
theorem el_679 : decode code 679 = .ok (.aload_n 2, 1) := by decide +kernel
theorem el_680 : decode code 680 = .ok (.aload_n 0, 1) := by decide +kernel
theorem el_681 : decode code 681 = .ok (.iload 4, 2) := by decide +kernel
theorem el_683 : decode code 683 = .ok (.iconst 1, 1) := by decide +kernel
theorem el_684 : decode code 684 = .ok (.iadd, 1) := by decide +kernel
theorem el_685 : decode code 685 = .ok (.iaload, 1) := by decide +kernel
theorem el_686 : decode code 686 = .ok (.aload_n 0, 1) := by decide +kernel
theorem el_687 : decode code 687 = .ok (.iload 4, 2) := by decide +kernel
theorem el_689 : decode code 689 = .ok (.iconst 2, 1) := by decide +kernel
theorem el_690 : decode code 690 = .ok (.iadd, 1) := by decide +kernel
theorem el_691 : decode code 691 = .ok (.iaload, 1) := by decide +kernel
theorem el_692 : decode code 692 = .ok (.invokevirtual 114, 3) := by decide +kernel
theorem el_695 : decode code 695 = .ok (.if_icmp .eq 223, 3) := by decide +kernel
theorem el_700 : decode code 700 = .ok (.aload_n 1, 1) := by decide +kernel
