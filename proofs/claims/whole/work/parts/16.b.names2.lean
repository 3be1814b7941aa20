theorem d_Law_law_526 : decode code 526 = .ok (.iload 5, 2) := by decide +kernel
theorem d_Law_law_528 : decode code 528 = .ok (.if_icmp .eq 5, 3) := by decide +kernel
theorem d_Law_law_531 : decode code 531 = .ok (.iconst 0, 1) := by decide +kernel
theorem d_Law_law_532 : decode code 532 = .ok (.ireturn, 1) := by decide +kernel
theorem d_Law_law_533 : decode code 533 = .ok (.iload 5, 2) := by decide +kernel
theorem d_Law_law_535 : decode code 535 = .ok (.ifCond .ne 15, 3) := by decide +kernel
theorem d_Law_law_538 : decode code 538 = .ok (.aload_n 3, 1) := by decide +kernel
theorem d_Law_law_539 : decode code 539 = .ok (.iconst 0, 1) := by decide +kernel
theorem d_Law_law_540 : decode code 540 = .ok (.laload, 1) := by decide +kernel
theorem d_Law_law_541 : decode code 541 = .ok (.iload 6, 2) := by decide +kernel
theorem d_Law_law_543 : decode code 543 = .ok (.i2l, 1) := by decide +kernel
theorem d_Law_law_544 : decode code 544 = .ok (.lcmp, 1) := by decide +kernel
theorem d_Law_law_545 : decode code 545 = .ok (.ifCond .eq 5, 3) := by decide +kernel
theorem d_Law_law_548 : decode code 548 = .ok (.iconst 0, 1) := by decide +kernel
theorem d_Law_law_549 : decode code 549 = .ok (.ireturn, 1) := by decide +kernel
theorem d_Law_law_550 : decode code 550 = .ok (.goto 496, 3) := by decide +kernel
theorem d_Law_law_553 : decode code 553 = .ok (.aload_n 1, 1) := by decide +kernel
theorem d_Law_law_554 : decode code 554 = .ok (.aload_n 3, 1) := by decide +kernel
theorem d_Law_law_555 : decode code 555 = .ok (.invokestatic 97, 3) := by decide +kernel
theorem d_Law_law_558 : decode code 558 = .ok (.istore 5, 2) := by decide +kernel
theorem d_Law_law_560 : decode code 560 = .ok (.aload_n 2, 1) := by decide +kernel
theorem d_Law_law_561 : decode code 561 = .ok (.invokevirtual 100, 3) := by decide +kernel
theorem d_Law_law_564 : decode code 564 = .ok (.istore 6, 2) := by decide +kernel
theorem d_Law_law_566 : decode code 566 = .ok (.aload_n 2, 1) := by decide +kernel
theorem d_Law_law_567 : decode code 567 = .ok (.invokevirtual 70, 3) := by decide +kernel
theorem d_Law_law_570 : decode code 570 = .ok (.iload 5, 2) := by decide +kernel
theorem d_Law_law_572 : decode code 572 = .ok (.if_icmp .eq 5, 3) := by decide +kernel
theorem d_Law_law_575 : decode code 575 = .ok (.iconst 0, 1) := by decide +kernel
theorem d_Law_law_576 : decode code 576 = .ok (.ireturn, 1) := by decide +kernel
theorem d_Law_law_577 : decode code 577 = .ok (.iload 5, 2) := by decide +kernel
theorem d_Law_law_579 : decode code 579 = .ok (.ifCond .ne 15, 3) := by decide +kernel
theorem d_Law_law_582 : decode code 582 = .ok (.aload_n 3, 1) := by decide +kernel
theorem d_Law_law_583 : decode code 583 = .ok (.iconst 0, 1) := by decide +kernel
theorem d_Law_law_584 : decode code 584 = .ok (.laload, 1) := by decide +kernel
theorem d_Law_law_585 : decode code 585 = .ok (.iload 6, 2) := by decide +kernel
theorem d_Law_law_587 : decode code 587 = .ok (.i2l, 1) := by decide +kernel
theorem d_Law_law_588 : decode code 588 = .ok (.lcmp, 1) := by decide +kernel
theorem d_Law_law_589 : decode code 589 = .ok (.ifCond .eq 5, 3) := by decide +kernel
theorem d_Law_law_592 : decode code 592 = .ok (.iconst 0, 1) := by decide +kernel
theorem d_Law_law_593 : decode code 593 = .ok (.ireturn, 1) := by decide +kernel
theorem d_Law_law_594 : decode code 594 = .ok (.goto 452, 3) := by decide +kernel
theorem d_Law_law_597 : decode code 597 = .ok (.aload_n 1, 1) := by decide +kernel
theorem d_Law_law_598 : decode code 598 = .ok (.aload_n 0, 1) := by decide +kernel
theorem d_Law_law_599 : decode code 599 = .ok (.iload 4, 2) := by decide +kernel
theorem d_Law_law_601 : decode code 601 = .ok (.iconst 1, 1) := by decide +kernel
theorem d_Law_law_602 : decode code 602 = .ok (.iadd, 1) := by decide +kernel
theorem d_Law_law_603 : decode code 603 = .ok (.iaload, 1) := by decide +kernel
theorem d_Law_law_604 : decode code 604 = .ok (.aload_n 3, 1) := by decide +kernel
theorem d_Law_law_605 : decode code 605 = .ok (.invokestatic 101, 3) := by decide +kernel
theorem d_Law_law_608 : decode code 608 = .ok (.istore 5, 2) := by decide +kernel
theorem d_Law_law_610 : decode code 610 = .ok (.aload_n 2, 1) := by decide +kernel
theorem d_Law_law_611 : decode code 611 = .ok (.aload_n 0, 1) := by decide +kernel
theorem d_Law_law_612 : decode code 612 = .ok (.iload 4, 2) := by decide +kernel
theorem d_Law_law_614 : decode code 614 = .ok (.iconst 1, 1) := by decide +kernel
theorem d_Law_law_615 : decode code 615 = .ok (.iadd, 1) := by decide +kernel
theorem d_Law_law_616 : decode code 616 = .ok (.iaload, 1) := by decide +kernel
theorem d_Law_law_617 : decode code 617 = .ok (.invokevirtual 103, 3) := by decide +kernel
theorem d_Law_law_620 : decode code 620 = .ok (.istore 6, 2) := by decide +kernel
theorem d_Law_law_622 : decode code 622 = .ok (.aload_n 2, 1) := by decide +kernel
theorem d_Law_law_623 : decode code 623 = .ok (.invokevirtual 70, 3) := by decide +kernel
theorem d_Law_law_626 : decode code 626 = .ok (.iload 5, 2) := by decide +kernel
theorem d_Law_law_628 : decode code 628 = .ok (.if_icmp .eq 5, 3) := by decide +kernel
theorem d_Law_law_631 : decode code 631 = .ok (.iconst 0, 1) := by decide +kernel
theorem d_Law_law_632 : decode code 632 = .ok (.ireturn, 1) := by decide +kernel
theorem d_Law_law_633 : decode code 633 = .ok (.iload 5, 2) := by decide +kernel
theorem d_Law_law_635 : decode code 635 = .ok (.ifCond .ne 15, 3) := by decide +kernel
theorem d_Law_law_638 : decode code 638 = .ok (.aload_n 3, 1) := by decide +kernel
theorem d_Law_law_639 : decode code 639 = .ok (.iconst 0, 1) := by decide +kernel
theorem d_Law_law_640 : decode code 640 = .ok (.laload, 1) := by decide +kernel
theorem d_Law_law_641 : decode code 641 = .ok (.iload 6, 2) := by decide +kernel
theorem d_Law_law_643 : decode code 643 = .ok (.i2l, 1) := by decide +kernel
theorem d_Law_law_644 : decode code 644 = .ok (.lcmp, 1) := by decide +kernel
theorem d_Law_law_645 : decode code 645 = .ok (.ifCond .eq 5, 3) := by decide +kernel
theorem d_Law_law_648 : decode code 648 = .ok (.iconst 0, 1) := by decide +kernel
theorem d_Law_law_649 : decode code 649 = .ok (.ireturn, 1) := by decide +kernel
theorem d_Law_law_650 : decode code 650 = .ok (.goto 396, 3) := by decide +kernel
theorem d_Law_law_653 : decode code 653 = .ok (.aload_n 1, 1) := by decide +kernel
theorem d_Law_law_654 : decode code 654 = .ok (.aload_n 0, 1) := by decide +kernel
theorem d_Law_law_655 : decode code 655 = .ok (.iload 4, 2) := by decide +kernel
theorem d_Law_law_657 : decode code 657 = .ok (.iconst 1, 1) := by decide +kernel
theorem d_Law_law_658 : decode code 658 = .ok (.iadd, 1) := by decide +kernel
theorem d_Law_law_659 : decode code 659 = .ok (.iaload, 1) := by decide +kernel
theorem d_Law_law_660 : decode code 660 = .ok (.aload_n 0, 1) := by decide +kernel
theorem d_Law_law_661 : decode code 661 = .ok (.iload 4, 2) := by decide +kernel
theorem d_Law_law_663 : decode code 663 = .ok (.iconst 2, 1) := by decide +kernel
theorem d_Law_law_664 : decode code 664 = .ok (.iadd, 1) := by decide +kernel
theorem d_Law_law_665 : decode code 665 = .ok (.iaload, 1) := by decide +kernel
theorem d_Law_law_666 : decode code 666 = .ok (.aload_n 0, 1) := by decide +kernel
theorem d_Law_law_667 : decode code 667 = .ok (.iload 4, 2) := by decide +kernel
theorem d_Law_law_669 : decode code 669 = .ok (.iconst 3, 1) := by decide +kernel
theorem d_Law_law_670 : decode code 670 = .ok (.iadd, 1) := by decide +kernel
theorem d_Law_law_671 : decode code 671 = .ok (.iaload, 1) := by decide +kernel
theorem d_Law_law_672 : decode code 672 = .ok (.aload_n 3, 1) := by decide +kernel
theorem d_Law_law_673 : decode code 673 = .ok (.invokestatic 104, 3) := by decide +kernel
theorem d_Law_law_676 : decode code 676 = .ok (.istore 5, 2) := by decide +kernel
theorem d_Law_law_678 : decode code 678 = .ok (.aload_n 2, 1) := by decide +kernel
theorem d_Law_law_679 : decode code 679 = .ok (.aload_n 0, 1) := by decide +kernel
theorem d_Law_law_680 : decode code 680 = .ok (.iload 4, 2) := by decide +kernel
theorem d_Law_law_682 : decode code 682 = .ok (.iconst 1, 1) := by decide +kernel
theorem d_Law_law_683 : decode code 683 = .ok (.iadd, 1) := by decide +kernel
theorem d_Law_law_684 : decode code 684 = .ok (.iaload, 1) := by decide +kernel
theorem d_Law_law_685 : decode code 685 = .ok (.aload_n 0, 1) := by decide +kernel
theorem d_Law_law_686 : decode code 686 = .ok (.iload 4, 2) := by decide +kernel
theorem d_Law_law_688 : decode code 688 = .ok (.iconst 2, 1) := by decide +kernel
theorem d_Law_law_689 : decode code 689 = .ok (.iadd, 1) := by decide +kernel
theorem d_Law_law_690 : decode code 690 = .ok (.iaload, 1) := by decide +kernel
theorem d_Law_law_691 : decode code 691 = .ok (.aload_n 0, 1) := by decide +kernel
theorem d_Law_law_692 : decode code 692 = .ok (.iload 4, 2) := by decide +kernel
theorem d_Law_law_694 : decode code 694 = .ok (.iconst 3, 1) := by decide +kernel
theorem d_Law_law_695 : decode code 695 = .ok (.iadd, 1) := by decide +kernel
theorem d_Law_law_696 : decode code 696 = .ok (.iaload, 1) := by decide +kernel
theorem d_Law_law_697 : decode code 697 = .ok (.invokevirtual 106, 3) := by decide +kernel
theorem d_Law_law_700 : decode code 700 = .ok (.istore 6, 2) := by decide +kernel
theorem d_Law_law_702 : decode code 702 = .ok (.aload_n 2, 1) := by decide +kernel
theorem d_Law_law_703 : decode code 703 = .ok (.invokevirtual 70, 3) := by decide +kernel
theorem d_Law_law_706 : decode code 706 = .ok (.iload 5, 2) := by decide +kernel
theorem d_Law_law_708 : decode code 708 = .ok (.if_icmp .eq 5, 3) := by decide +kernel
theorem d_Law_law_711 : decode code 711 = .ok (.iconst 0, 1) := by decide +kernel
theorem d_Law_law_712 : decode code 712 = .ok (.ireturn, 1) := by decide +kernel
theorem d_Law_law_713 : decode code 713 = .ok (.iload 5, 2) := by decide +kernel
theorem d_Law_law_715 : decode code 715 = .ok (.ifCond .ne 22, 3) := by decide +kernel
theorem d_Law_law_718 : decode code 718 = .ok (.aload_n 3, 1) := by decide +kernel
theorem d_Law_law_719 : decode code 719 = .ok (.iconst 0, 1) := by decide +kernel
theorem d_Law_law_720 : decode code 720 = .ok (.laload, 1) := by decide +kernel
theorem d_Law_law_721 : decode code 721 = .ok (.iload 6, 2) := by decide +kernel
theorem d_Law_law_723 : decode code 723 = .ok (.ifCond .eq 7, 3) := by decide +kernel
theorem d_Law_law_726 : decode code 726 = .ok (.lconst 1, 1) := by decide +kernel
theorem d_Law_law_727 : decode code 727 = .ok (.goto 4, 3) := by decide +kernel
theorem d_Law_law_730 : decode code 730 = .ok (.lconst 0, 1) := by decide +kernel
theorem d_Law_law_731 : decode code 731 = .ok (.lcmp, 1) := by decide +kernel
theorem d_Law_law_732 : decode code 732 = .ok (.ifCond .eq 5, 3) := by decide +kernel
theorem d_Law_law_735 : decode code 735 = .ok (.iconst 0, 1) := by decide +kernel
theorem d_Law_law_736 : decode code 736 = .ok (.ireturn, 1) := by decide +kernel
theorem d_Law_law_737 : decode code 737 = .ok (.goto 309, 3) := by decide +kernel
theorem d_Law_law_740 : decode code 740 = .ok (.aload_n 1, 1) := by decide +kernel
theorem d_Law_law_741 : decode code 741 = .ok (.aload_n 0, 1) := by decide +kernel
theorem d_Law_law_742 : decode code 742 = .ok (.iload 4, 2) := by decide +kernel
theorem d_Law_law_744 : decode code 744 = .ok (.iconst 1, 1) := by decide +kernel
theorem d_Law_law_745 : decode code 745 = .ok (.iadd, 1) := by decide +kernel
theorem d_Law_law_746 : decode code 746 = .ok (.iaload, 1) := by decide +kernel
theorem d_Law_law_747 : decode code 747 = .ok (.aload_n 0, 1) := by decide +kernel
theorem d_Law_law_748 : decode code 748 = .ok (.iload 4, 2) := by decide +kernel
theorem d_Law_law_750 : decode code 750 = .ok (.iconst 2, 1) := by decide +kernel
theorem d_Law_law_751 : decode code 751 = .ok (.iadd, 1) := by decide +kernel
theorem d_Law_law_752 : decode code 752 = .ok (.iaload, 1) := by decide +kernel
theorem d_Law_law_753 : decode code 753 = .ok (.aload_n 0, 1) := by decide +kernel
theorem d_Law_law_754 : decode code 754 = .ok (.iload 4, 2) := by decide +kernel
theorem d_Law_law_756 : decode code 756 = .ok (.iconst 3, 1) := by decide +kernel
theorem d_Law_law_757 : decode code 757 = .ok (.iadd, 1) := by decide +kernel
theorem d_Law_law_758 : decode code 758 = .ok (.iaload, 1) := by decide +kernel
