/-! decode rows of the law's body, 2 -/
theorem dL_law_501 : decode code 501 = .ok (.aload_n 3, 1) := by decide +kernel
theorem dL_law_502 : decode code 502 = .ok (.iconst 0, 1) := by decide +kernel
theorem dL_law_503 : decode code 503 = .ok (.laload, 1) := by decide +kernel
theorem dL_law_504 : decode code 504 = .ok (.iload 6, 2) := by decide +kernel
theorem dL_law_506 : decode code 506 = .ok (.i2l, 1) := by decide +kernel
theorem dL_law_507 : decode code 507 = .ok (.lcmp, 1) := by decide +kernel
theorem dL_law_508 : decode code 508 = .ok (.ifCond .eq 5, 3) := by decide +kernel
theorem dL_law_511 : decode code 511 = .ok (.iconst 0, 1) := by decide +kernel
theorem dL_law_512 : decode code 512 = .ok (.ireturn, 1) := by decide +kernel
theorem dL_law_513 : decode code 513 = .ok (.goto 2968, 3) := by decide +kernel
theorem dL_law_516 : decode code 516 = .ok (.aload_n 1, 1) := by decide +kernel
theorem dL_law_517 : decode code 517 = .ok (.invokevirtual 177, 3) := by decide +kernel
theorem dL_law_520 : decode code 520 = .ok (.aload_n 2, 1) := by decide +kernel
theorem dL_law_521 : decode code 521 = .ok (.invokevirtual 180, 3) := by decide +kernel
theorem dL_law_524 : decode code 524 = .ok (.if_icmp .eq 2957, 3) := by decide +kernel
theorem dL_law_527 : decode code 527 = .ok (.iconst 0, 1) := by decide +kernel
theorem dL_law_528 : decode code 528 = .ok (.ireturn, 1) := by decide +kernel
theorem dL_law_529 : decode code 529 = .ok (.aload_n 1, 1) := by decide +kernel
theorem dL_law_530 : decode code 530 = .ok (.invokevirtual 181, 3) := by decide +kernel
theorem dL_law_533 : decode code 533 = .ok (.aload_n 2, 1) := by decide +kernel
theorem dL_law_534 : decode code 534 = .ok (.invokevirtual 184, 3) := by decide +kernel
theorem dL_law_537 : decode code 537 = .ok (.if_icmp .eq 2944, 3) := by decide +kernel
theorem dL_law_540 : decode code 540 = .ok (.iconst 0, 1) := by decide +kernel
theorem dL_law_541 : decode code 541 = .ok (.ireturn, 1) := by decide +kernel
theorem dL_law_542 : decode code 542 = .ok (.aload_n 1, 1) := by decide +kernel
theorem dL_law_543 : decode code 543 = .ok (.invokevirtual 185, 3) := by decide +kernel
theorem dL_law_546 : decode code 546 = .ok (.aload_n 2, 1) := by decide +kernel
theorem dL_law_547 : decode code 547 = .ok (.invokevirtual 188, 3) := by decide +kernel
theorem dL_law_550 : decode code 550 = .ok (.if_icmp .eq 2931, 3) := by decide +kernel
theorem dL_law_553 : decode code 553 = .ok (.iconst 0, 1) := by decide +kernel
theorem dL_law_554 : decode code 554 = .ok (.ireturn, 1) := by decide +kernel
theorem dL_law_555 : decode code 555 = .ok (.aload_n 1, 1) := by decide +kernel
theorem dL_law_556 : decode code 556 = .ok (.invokevirtual 189, 3) := by decide +kernel
theorem dL_law_559 : decode code 559 = .ok (.aload_n 2, 1) := by decide +kernel
theorem dL_law_560 : decode code 560 = .ok (.invokevirtual 192, 3) := by decide +kernel
theorem dL_law_563 : decode code 563 = .ok (.if_icmp .eq 2918, 3) := by decide +kernel
theorem dL_law_566 : decode code 566 = .ok (.iconst 0, 1) := by decide +kernel
theorem dL_law_567 : decode code 567 = .ok (.ireturn, 1) := by decide +kernel
theorem dL_law_568 : decode code 568 = .ok (.aload_n 1, 1) := by decide +kernel
theorem dL_law_569 : decode code 569 = .ok (.invokevirtual 193, 3) := by decide +kernel
theorem dL_law_572 : decode code 572 = .ok (.aload_n 2, 1) := by decide +kernel
theorem dL_law_573 : decode code 573 = .ok (.invokevirtual 196, 3) := by decide +kernel
theorem dL_law_576 : decode code 576 = .ok (.if_icmp .eq 2905, 3) := by decide +kernel
theorem dL_law_579 : decode code 579 = .ok (.iconst 0, 1) := by decide +kernel
theorem dL_law_580 : decode code 580 = .ok (.ireturn, 1) := by decide +kernel
theorem dL_law_581 : decode code 581 = .ok (.aload_n 1, 1) := by decide +kernel
theorem dL_law_582 : decode code 582 = .ok (.invokevirtual 197, 3) := by decide +kernel
theorem dL_law_585 : decode code 585 = .ok (.aload_n 2, 1) := by decide +kernel
theorem dL_law_586 : decode code 586 = .ok (.invokevirtual 200, 3) := by decide +kernel
theorem dL_law_589 : decode code 589 = .ok (.if_icmp .eq 2892, 3) := by decide +kernel
theorem dL_law_592 : decode code 592 = .ok (.iconst 0, 1) := by decide +kernel
theorem dL_law_593 : decode code 593 = .ok (.ireturn, 1) := by decide +kernel
theorem dL_law_594 : decode code 594 = .ok (.aload_n 1, 1) := by decide +kernel
theorem dL_law_595 : decode code 595 = .ok (.invokevirtual 201, 3) := by decide +kernel
theorem dL_law_598 : decode code 598 = .ok (.aload_n 2, 1) := by decide +kernel
theorem dL_law_599 : decode code 599 = .ok (.invokevirtual 204, 3) := by decide +kernel
theorem dL_law_602 : decode code 602 = .ok (.if_icmp .eq 2879, 3) := by decide +kernel
theorem dL_law_605 : decode code 605 = .ok (.iconst 0, 1) := by decide +kernel
theorem dL_law_606 : decode code 606 = .ok (.ireturn, 1) := by decide +kernel
theorem dL_law_607 : decode code 607 = .ok (.aload_n 1, 1) := by decide +kernel
theorem dL_law_608 : decode code 608 = .ok (.aload_n 0, 1) := by decide +kernel
theorem dL_law_609 : decode code 609 = .ok (.iload 4, 2) := by decide +kernel
theorem dL_law_611 : decode code 611 = .ok (.iconst 1, 1) := by decide +kernel
theorem dL_law_612 : decode code 612 = .ok (.iadd, 1) := by decide +kernel
theorem dL_law_613 : decode code 613 = .ok (.iaload, 1) := by decide +kernel
theorem dL_law_614 : decode code 614 = .ok (.aload_n 3, 1) := by decide +kernel
theorem dL_law_615 : decode code 615 = .ok (.invokestatic 205, 3) := by decide +kernel
theorem dL_law_618 : decode code 618 = .ok (.istore 5, 2) := by decide +kernel
theorem dL_law_620 : decode code 620 = .ok (.aload_n 2, 1) := by decide +kernel
theorem dL_law_621 : decode code 621 = .ok (.aload_n 0, 1) := by decide +kernel
theorem dL_law_622 : decode code 622 = .ok (.iload 4, 2) := by decide +kernel
theorem dL_law_624 : decode code 624 = .ok (.iconst 1, 1) := by decide +kernel
theorem dL_law_625 : decode code 625 = .ok (.iadd, 1) := by decide +kernel
theorem dL_law_626 : decode code 626 = .ok (.iaload, 1) := by decide +kernel
theorem dL_law_627 : decode code 627 = .ok (.invokevirtual 207, 3) := by decide +kernel
theorem dL_law_630 : decode code 630 = .ok (.istore 6, 2) := by decide +kernel
theorem dL_law_632 : decode code 632 = .ok (.aload_n 2, 1) := by decide +kernel
theorem dL_law_633 : decode code 633 = .ok (.invokevirtual 166, 3) := by decide +kernel
theorem dL_law_636 : decode code 636 = .ok (.iload 5, 2) := by decide +kernel
theorem dL_law_638 : decode code 638 = .ok (.if_icmp .eq 5, 3) := by decide +kernel
theorem dL_law_641 : decode code 641 = .ok (.iconst 0, 1) := by decide +kernel
theorem dL_law_642 : decode code 642 = .ok (.ireturn, 1) := by decide +kernel
theorem dL_law_643 : decode code 643 = .ok (.iload 5, 2) := by decide +kernel
theorem dL_law_645 : decode code 645 = .ok (.ifCond .ne 15, 3) := by decide +kernel
theorem dL_law_648 : decode code 648 = .ok (.aload_n 3, 1) := by decide +kernel
theorem dL_law_649 : decode code 649 = .ok (.iconst 0, 1) := by decide +kernel
theorem dL_law_650 : decode code 650 = .ok (.laload, 1) := by decide +kernel
theorem dL_law_651 : decode code 651 = .ok (.iload 6, 2) := by decide +kernel
theorem dL_law_653 : decode code 653 = .ok (.i2l, 1) := by decide +kernel
theorem dL_law_654 : decode code 654 = .ok (.lcmp, 1) := by decide +kernel
theorem dL_law_655 : decode code 655 = .ok (.ifCond .eq 5, 3) := by decide +kernel
theorem dL_law_658 : decode code 658 = .ok (.iconst 0, 1) := by decide +kernel
theorem dL_law_659 : decode code 659 = .ok (.ireturn, 1) := by decide +kernel
theorem dL_law_660 : decode code 660 = .ok (.goto 2821, 3) := by decide +kernel
theorem dL_law_663 : decode code 663 = .ok (.aload_n 1, 1) := by decide +kernel
theorem dL_law_664 : decode code 664 = .ok (.aload_n 0, 1) := by decide +kernel
theorem dL_law_665 : decode code 665 = .ok (.iload 4, 2) := by decide +kernel
theorem dL_law_667 : decode code 667 = .ok (.iconst 1, 1) := by decide +kernel
theorem dL_law_668 : decode code 668 = .ok (.iadd, 1) := by decide +kernel
theorem dL_law_669 : decode code 669 = .ok (.iaload, 1) := by decide +kernel
theorem dL_law_670 : decode code 670 = .ok (.aload_n 3, 1) := by decide +kernel
theorem dL_law_671 : decode code 671 = .ok (.invokestatic 208, 3) := by decide +kernel
theorem dL_law_674 : decode code 674 = .ok (.istore 5, 2) := by decide +kernel
theorem dL_law_676 : decode code 676 = .ok (.aload_n 2, 1) := by decide +kernel
theorem dL_law_677 : decode code 677 = .ok (.aload_n 0, 1) := by decide +kernel
theorem dL_law_678 : decode code 678 = .ok (.iload 4, 2) := by decide +kernel
theorem dL_law_680 : decode code 680 = .ok (.iconst 1, 1) := by decide +kernel
theorem dL_law_681 : decode code 681 = .ok (.iadd, 1) := by decide +kernel
theorem dL_law_682 : decode code 682 = .ok (.iaload, 1) := by decide +kernel
theorem dL_law_683 : decode code 683 = .ok (.invokevirtual 210, 3) := by decide +kernel
theorem dL_law_686 : decode code 686 = .ok (.istore 6, 2) := by decide +kernel
theorem dL_law_688 : decode code 688 = .ok (.aload_n 2, 1) := by decide +kernel
theorem dL_law_689 : decode code 689 = .ok (.invokevirtual 166, 3) := by decide +kernel
theorem dL_law_692 : decode code 692 = .ok (.iload 5, 2) := by decide +kernel
theorem dL_law_694 : decode code 694 = .ok (.if_icmp .eq 5, 3) := by decide +kernel
theorem dL_law_697 : decode code 697 = .ok (.iconst 0, 1) := by decide +kernel
theorem dL_law_698 : decode code 698 = .ok (.ireturn, 1) := by decide +kernel
theorem dL_law_699 : decode code 699 = .ok (.iload 5, 2) := by decide +kernel
theorem dL_law_701 : decode code 701 = .ok (.ifCond .ne 15, 3) := by decide +kernel
theorem dL_law_704 : decode code 704 = .ok (.aload_n 3, 1) := by decide +kernel
theorem dL_law_705 : decode code 705 = .ok (.iconst 0, 1) := by decide +kernel
theorem dL_law_706 : decode code 706 = .ok (.laload, 1) := by decide +kernel
theorem dL_law_707 : decode code 707 = .ok (.iload 6, 2) := by decide +kernel
theorem dL_law_709 : decode code 709 = .ok (.i2l, 1) := by decide +kernel
theorem dL_law_710 : decode code 710 = .ok (.lcmp, 1) := by decide +kernel
theorem dL_law_711 : decode code 711 = .ok (.ifCond .eq 5, 3) := by decide +kernel
theorem dL_law_714 : decode code 714 = .ok (.iconst 0, 1) := by decide +kernel
theorem dL_law_715 : decode code 715 = .ok (.ireturn, 1) := by decide +kernel
theorem dL_law_716 : decode code 716 = .ok (.goto 2765, 3) := by decide +kernel
theorem dL_law_719 : decode code 719 = .ok (.aload_n 1, 1) := by decide +kernel
theorem dL_law_720 : decode code 720 = .ok (.aload_n 0, 1) := by decide +kernel
theorem dL_law_721 : decode code 721 = .ok (.iload 4, 2) := by decide +kernel
theorem dL_law_723 : decode code 723 = .ok (.iconst 1, 1) := by decide +kernel
theorem dL_law_724 : decode code 724 = .ok (.iadd, 1) := by decide +kernel
theorem dL_law_725 : decode code 725 = .ok (.iaload, 1) := by decide +kernel
theorem dL_law_726 : decode code 726 = .ok (.aload_n 3, 1) := by decide +kernel
theorem dL_law_727 : decode code 727 = .ok (.invokestatic 211, 3) := by decide +kernel
theorem dL_law_730 : decode code 730 = .ok (.istore 5, 2) := by decide +kernel
theorem dL_law_732 : decode code 732 = .ok (.aload_n 2, 1) := by decide +kernel
theorem dL_law_733 : decode code 733 = .ok (.aload_n 0, 1) := by decide +kernel
theorem dL_law_734 : decode code 734 = .ok (.iload 4, 2) := by decide +kernel
theorem dL_law_736 : decode code 736 = .ok (.iconst 1, 1) := by decide +kernel
theorem dL_law_737 : decode code 737 = .ok (.iadd, 1) := by decide +kernel
theorem dL_law_738 : decode code 738 = .ok (.iaload, 1) := by decide +kernel
theorem dL_law_739 : decode code 739 = .ok (.invokevirtual 213, 3) := by decide +kernel
theorem dL_law_742 : decode code 742 = .ok (.istore 6, 2) := by decide +kernel
theorem dL_law_744 : decode code 744 = .ok (.aload_n 2, 1) := by decide +kernel
theorem dL_law_745 : decode code 745 = .ok (.invokevirtual 166, 3) := by decide +kernel
theorem dL_law_748 : decode code 748 = .ok (.iload 5, 2) := by decide +kernel
theorem dL_law_750 : decode code 750 = .ok (.if_icmp .eq 5, 3) := by decide +kernel
