theorem dL_isStep_490 : decode cL_isStep 490 = .ok (.aload_n 0, 1) := by decide +kernel
theorem dL_isStep_491 : decode cL_isStep 491 = .ok (.iload 5, 2) := by decide +kernel
theorem dL_isStep_493 : decode cL_isStep 493 = .ok (.iconst 4, 1) := by decide +kernel
theorem dL_isStep_494 : decode cL_isStep 494 = .ok (.invokevirtual 25, 3) := by decide +kernel
theorem dL_isStep_497 : decode cL_isStep 497 = .ok (.iload 7, 2) := by decide +kernel
theorem dL_isStep_499 : decode cL_isStep 499 = .ok (.if_icmp .ne 33, 3) := by decide +kernel
theorem dL_isStep_502 : decode cL_isStep 502 = .ok (.aload_n 0, 1) := by decide +kernel
theorem dL_isStep_503 : decode cL_isStep 503 = .ok (.iload 5, 2) := by decide +kernel
theorem dL_isStep_505 : decode cL_isStep 505 = .ok (.iconst 5, 1) := by decide +kernel
theorem dL_isStep_506 : decode cL_isStep 506 = .ok (.invokevirtual 25, 3) := by decide +kernel
theorem dL_isStep_509 : decode cL_isStep 509 = .ok (.iload 8, 2) := by decide +kernel
theorem dL_isStep_511 : decode cL_isStep 511 = .ok (.if_icmp .ne 21, 3) := by decide +kernel
theorem dL_isStep_514 : decode cL_isStep 514 = .ok (.aload_n 0, 1) := by decide +kernel
theorem dL_isStep_515 : decode cL_isStep 515 = .ok (.bipush 6, 2) := by decide +kernel
theorem dL_isStep_517 : decode cL_isStep 517 = .ok (.invokevirtual 21, 3) := by decide +kernel
theorem dL_isStep_520 : decode cL_isStep 520 = .ok (.iload 10, 2) := by decide +kernel
theorem dL_isStep_522 : decode cL_isStep 522 = .ok (.iload 7, 2) := by decide +kernel
theorem dL_isStep_524 : decode cL_isStep 524 = .ok (.iadd, 1) := by decide +kernel
theorem dL_isStep_525 : decode cL_isStep 525 = .ok (.if_icmp .ne 7, 3) := by decide +kernel
theorem dL_isStep_528 : decode cL_isStep 528 = .ok (.iconst 1, 1) := by decide +kernel
theorem dL_isStep_529 : decode cL_isStep 529 = .ok (.goto 4, 3) := by decide +kernel
theorem dL_isStep_532 : decode cL_isStep 532 = .ok (.iconst 0, 1) := by decide +kernel
theorem dL_isStep_533 : decode cL_isStep 533 = .ok (.ireturn, 1) := by decide +kernel
theorem dL_isStep_534 : decode cL_isStep 534 = .ok (.aload_n 0, 1) := by decide +kernel
theorem dL_isStep_535 : decode cL_isStep 535 = .ok (.iload 5, 2) := by decide +kernel
theorem dL_isStep_537 : decode cL_isStep 537 = .ok (.invokevirtual 55, 3) := by decide +kernel
theorem dL_isStep_540 : decode cL_isStep 540 = .ok (.istore 12, 2) := by decide +kernel
theorem dL_isStep_542 : decode cL_isStep 542 = .ok (.iload 12, 2) := by decide +kernel
theorem dL_isStep_544 : decode cL_isStep 544 = .ok (.aload_n 1, 1) := by decide +kernel
theorem dL_isStep_545 : decode cL_isStep 545 = .ok (.iload 5, 2) := by decide +kernel
theorem dL_isStep_547 : decode cL_isStep 547 = .ok (.invokestatic 32, 3) := by decide +kernel
theorem dL_isStep_550 : decode cL_isStep 550 = .ok (.invokevirtual 55, 3) := by decide +kernel
theorem dL_isStep_553 : decode cL_isStep 553 = .ok (.if_icmp .ne 47, 3) := by decide +kernel
theorem dL_isStep_556 : decode cL_isStep 556 = .ok (.iload 12, 2) := by decide +kernel
theorem dL_isStep_558 : decode cL_isStep 558 = .ok (.iload 11, 2) := by decide +kernel
theorem dL_isStep_560 : decode cL_isStep 560 = .ok (.ifCond .ge 7, 3) := by decide +kernel
theorem dL_isStep_563 : decode cL_isStep 563 = .ok (.iconst (-1), 1) := by decide +kernel
theorem dL_isStep_564 : decode cL_isStep 564 = .ok (.goto 7, 3) := by decide +kernel
theorem dL_isStep_567 : decode cL_isStep 567 = .ok (.iload 9, 2) := by decide +kernel
theorem dL_isStep_569 : decode cL_isStep 569 = .ok (.iconst 1, 1) := by decide +kernel
theorem dL_isStep_570 : decode cL_isStep 570 = .ok (.isub, 1) := by decide +kernel
theorem dL_isStep_571 : decode cL_isStep 571 = .ok (.if_icmp .ne 29, 3) := by decide +kernel
theorem dL_isStep_574 : decode cL_isStep 574 = .ok (.aload_n 0, 1) := by decide +kernel
theorem dL_isStep_575 : decode cL_isStep 575 = .ok (.iload 5, 2) := by decide +kernel
theorem dL_isStep_577 : decode cL_isStep 577 = .ok (.iconst 0, 1) := by decide +kernel
theorem dL_isStep_578 : decode cL_isStep 578 = .ok (.invokevirtual 25, 3) := by decide +kernel
theorem dL_isStep_581 : decode cL_isStep 581 = .ok (.iconst (-1), 1) := by decide +kernel
theorem dL_isStep_582 : decode cL_isStep 582 = .ok (.if_icmp .ne 18, 3) := by decide +kernel
theorem dL_isStep_585 : decode cL_isStep 585 = .ok (.aload_n 0, 1) := by decide +kernel
theorem dL_isStep_586 : decode cL_isStep 586 = .ok (.bipush 6, 2) := by decide +kernel
theorem dL_isStep_588 : decode cL_isStep 588 = .ok (.invokevirtual 21, 3) := by decide +kernel
theorem dL_isStep_591 : decode cL_isStep 591 = .ok (.iload 10, 2) := by decide +kernel
theorem dL_isStep_593 : decode cL_isStep 593 = .ok (.if_icmp .ne 7, 3) := by decide +kernel
theorem dL_isStep_596 : decode cL_isStep 596 = .ok (.iconst 1, 1) := by decide +kernel
theorem dL_isStep_597 : decode cL_isStep 597 = .ok (.goto 4, 3) := by decide +kernel
theorem dL_isStep_600 : decode cL_isStep 600 = .ok (.iconst 0, 1) := by decide +kernel
theorem dL_isStep_601 : decode cL_isStep 601 = .ok (.ireturn, 1) := by decide +kernel
theorem dL_isStep_602 : decode cL_isStep 602 = .ok (.aload_n 0, 1) := by decide +kernel
theorem dL_isStep_603 : decode cL_isStep 603 = .ok (.iload 6, 2) := by decide +kernel
theorem dL_isStep_605 : decode cL_isStep 605 = .ok (.iconst 0, 1) := by decide +kernel
theorem dL_isStep_606 : decode cL_isStep 606 = .ok (.invokevirtual 25, 3) := by decide +kernel
theorem dL_isStep_609 : decode cL_isStep 609 = .ok (.ifCond .lt 7, 3) := by decide +kernel
theorem dL_isStep_612 : decode cL_isStep 612 = .ok (.iconst 1, 1) := by decide +kernel
theorem dL_isStep_613 : decode cL_isStep 613 = .ok (.goto 4, 3) := by decide +kernel
theorem dL_isStep_616 : decode cL_isStep 616 = .ok (.iconst 0, 1) := by decide +kernel
theorem dL_isStep_617 : decode cL_isStep 617 = .ok (.istore 12, 2) := by decide +kernel
theorem dL_isStep_619 : decode cL_isStep 619 = .ok (.aload_n 0, 1) := by decide +kernel
theorem dL_isStep_620 : decode cL_isStep 620 = .ok (.iload 5, 2) := by decide +kernel
theorem dL_isStep_622 : decode cL_isStep 622 = .ok (.iconst 3, 1) := by decide +kernel
theorem dL_isStep_623 : decode cL_isStep 623 = .ok (.invokevirtual 25, 3) := by decide +kernel
theorem dL_isStep_626 : decode cL_isStep 626 = .ok (.istore 13, 2) := by decide +kernel
theorem dL_isStep_628 : decode cL_isStep 628 = .ok (.aload_n 0, 1) := by decide +kernel
theorem dL_isStep_629 : decode cL_isStep 629 = .ok (.iconst 3, 1) := by decide +kernel
theorem dL_isStep_630 : decode cL_isStep 630 = .ok (.invokevirtual 21, 3) := by decide +kernel
theorem dL_isStep_633 : decode cL_isStep 633 = .ok (.istore 14, 2) := by decide +kernel
theorem dL_isStep_635 : decode cL_isStep 635 = .ok (.aload_n 0, 1) := by decide +kernel
theorem dL_isStep_636 : decode cL_isStep 636 = .ok (.iload 5, 2) := by decide +kernel
theorem dL_isStep_638 : decode cL_isStep 638 = .ok (.iload 6, 2) := by decide +kernel
theorem dL_isStep_640 : decode cL_isStep 640 = .ok (.invokevirtual 58, 3) := by decide +kernel
theorem dL_isStep_643 : decode cL_isStep 643 = .ok (.istore 15, 2) := by decide +kernel
theorem dL_isStep_645 : decode cL_isStep 645 = .ok (.iload 15, 2) := by decide +kernel
theorem dL_isStep_647 : decode cL_isStep 647 = .ok (.aload_n 1, 1) := by decide +kernel
theorem dL_isStep_648 : decode cL_isStep 648 = .ok (.iload 5, 2) := by decide +kernel
theorem dL_isStep_650 : decode cL_isStep 650 = .ok (.invokestatic 32, 3) := by decide +kernel
theorem dL_isStep_653 : decode cL_isStep 653 = .ok (.iload 6, 2) := by decide +kernel
theorem dL_isStep_655 : decode cL_isStep 655 = .ok (.invokestatic 32, 3) := by decide +kernel
theorem dL_isStep_658 : decode cL_isStep 658 = .ok (.invokevirtual 58, 3) := by decide +kernel
theorem dL_isStep_661 : decode cL_isStep 661 = .ok (.if_icmp .ne 90, 3) := by decide +kernel
theorem dL_isStep_664 : decode cL_isStep 664 = .ok (.iload 11, 2) := by decide +kernel
theorem dL_isStep_666 : decode cL_isStep 666 = .ok (.ifCond .ge 12, 3) := by decide +kernel
theorem dL_isStep_669 : decode cL_isStep 669 = .ok (.iload 15, 2) := by decide +kernel
theorem dL_isStep_671 : decode cL_isStep 671 = .ok (.iconst (-1), 1) := by decide +kernel
theorem dL_isStep_672 : decode cL_isStep 672 = .ok (.if_icmp .ne 79, 3) := by decide +kernel
theorem dL_isStep_675 : decode cL_isStep 675 = .ok (.goto 72, 3) := by decide +kernel
theorem dL_isStep_678 : decode cL_isStep 678 = .ok (.iload 5, 2) := by decide +kernel
theorem dL_isStep_680 : decode cL_isStep 680 = .ok (.iload 6, 2) := by decide +kernel
theorem dL_isStep_682 : decode cL_isStep 682 = .ok (.if_icmp .ne 13, 3) := by decide +kernel
theorem dL_isStep_685 : decode cL_isStep 685 = .ok (.iload 15, 2) := by decide +kernel
theorem dL_isStep_687 : decode cL_isStep 687 = .ok (.bipush (-5), 2) := by decide +kernel
theorem dL_isStep_689 : decode cL_isStep 689 = .ok (.if_icmp .ne 62, 3) := by decide +kernel
theorem dL_isStep_692 : decode cL_isStep 692 = .ok (.goto 55, 3) := by decide +kernel
theorem dL_isStep_695 : decode cL_isStep 695 = .ok (.iload 12, 2) := by decide +kernel
theorem dL_isStep_697 : decode cL_isStep 697 = .ok (.ifCond .eq 13, 3) := by decide +kernel
theorem dL_isStep_700 : decode cL_isStep 700 = .ok (.iload 15, 2) := by decide +kernel
theorem dL_isStep_702 : decode cL_isStep 702 = .ok (.bipush (-7), 2) := by decide +kernel
theorem dL_isStep_704 : decode cL_isStep 704 = .ok (.if_icmp .ne 47, 3) := by decide +kernel
theorem dL_isStep_707 : decode cL_isStep 707 = .ok (.goto 40, 3) := by decide +kernel
theorem dL_isStep_710 : decode cL_isStep 710 = .ok (.iload 15, 2) := by decide +kernel
theorem dL_isStep_712 : decode cL_isStep 712 = .ok (.aload_n 0, 1) := by decide +kernel
theorem dL_isStep_713 : decode cL_isStep 713 = .ok (.iload 6, 2) := by decide +kernel
theorem dL_isStep_715 : decode cL_isStep 715 = .ok (.iconst 0, 1) := by decide +kernel
theorem dL_isStep_716 : decode cL_isStep 716 = .ok (.invokevirtual 25, 3) := by decide +kernel
theorem dL_isStep_719 : decode cL_isStep 719 = .ok (.if_icmp .ne 32, 3) := by decide +kernel
theorem dL_isStep_722 : decode cL_isStep 722 = .ok (.aload_n 0, 1) := by decide +kernel
theorem dL_isStep_723 : decode cL_isStep 723 = .ok (.iload 6, 2) := by decide +kernel
theorem dL_isStep_725 : decode cL_isStep 725 = .ok (.iconst 3, 1) := by decide +kernel
theorem dL_isStep_726 : decode cL_isStep 726 = .ok (.invokevirtual 25, 3) := by decide +kernel
theorem dL_isStep_729 : decode cL_isStep 729 = .ok (.iload 13, 2) := by decide +kernel
theorem dL_isStep_731 : decode cL_isStep 731 = .ok (.if_icmp .ne 20, 3) := by decide +kernel
theorem dL_isStep_734 : decode cL_isStep 734 = .ok (.aload_n 0, 1) := by decide +kernel
theorem dL_isStep_735 : decode cL_isStep 735 = .ok (.iconst 3, 1) := by decide +kernel
theorem dL_isStep_736 : decode cL_isStep 736 = .ok (.invokevirtual 21, 3) := by decide +kernel
theorem dL_isStep_739 : decode cL_isStep 739 = .ok (.iload 14, 2) := by decide +kernel
theorem dL_isStep_741 : decode cL_isStep 741 = .ok (.iload 9, 2) := by decide +kernel
theorem dL_isStep_743 : decode cL_isStep 743 = .ok (.iadd, 1) := by decide +kernel
theorem dL_isStep_744 : decode cL_isStep 744 = .ok (.if_icmp .gt 7, 3) := by decide +kernel
theorem dL_isStep_747 : decode cL_isStep 747 = .ok (.iconst 1, 1) := by decide +kernel
theorem dL_isStep_748 : decode cL_isStep 748 = .ok (.goto 4, 3) := by decide +kernel
theorem dL_isStep_751 : decode cL_isStep 751 = .ok (.iconst 0, 1) := by decide +kernel
theorem dL_isStep_752 : decode cL_isStep 752 = .ok (.ireturn, 1) := by decide +kernel
theorem dL_isStep_753 : decode cL_isStep 753 = .ok (.aload_n 0, 1) := by decide +kernel
theorem dL_isStep_754 : decode cL_isStep 754 = .ok (.iload 6, 2) := by decide +kernel
theorem dL_isStep_756 : decode cL_isStep 756 = .ok (.iconst 2, 1) := by decide +kernel
theorem dL_isStep_757 : decode cL_isStep 757 = .ok (.invokevirtual 25, 3) := by decide +kernel
theorem dL_isStep_760 : decode cL_isStep 760 = .ok (.istore 12, 2) := by decide +kernel
theorem dL_isStep_762 : decode cL_isStep 762 = .ok (.aload_n 0, 1) := by decide +kernel
theorem dL_isStep_763 : decode cL_isStep 763 = .ok (.iload 5, 2) := by decide +kernel
theorem dL_isStep_765 : decode cL_isStep 765 = .ok (.iload 6, 2) := by decide +kernel
theorem dL_isStep_767 : decode cL_isStep 767 = .ok (.invokevirtual 61, 3) := by decide +kernel
theorem dL_isStep_770 : decode cL_isStep 770 = .ok (.istore 13, 2) := by decide +kernel
theorem dL_isStep_772 : decode cL_isStep 772 = .ok (.iload 13, 2) := by decide +kernel
theorem dL_isStep_774 : decode cL_isStep 774 = .ok (.ifCond .ge 10, 3) := by decide +kernel
theorem dL_isStep_777 : decode cL_isStep 777 = .ok (.iload 13, 2) := by decide +kernel
theorem dL_isStep_779 : decode cL_isStep 779 = .ok (.bipush (-5), 2) := by decide +kernel
theorem dL_isStep_781 : decode cL_isStep 781 = .ok (.if_icmp .ne 7, 3) := by decide +kernel
theorem dL_isStep_784 : decode cL_isStep 784 = .ok (.iconst 1, 1) := by decide +kernel
theorem dL_isStep_785 : decode cL_isStep 785 = .ok (.goto 4, 3) := by decide +kernel
theorem dL_isStep_788 : decode cL_isStep 788 = .ok (.iconst 0, 1) := by decide +kernel
theorem dL_isStep_789 : decode cL_isStep 789 = .ok (.istore 14, 2) := by decide +kernel
theorem dL_isStep_791 : decode cL_isStep 791 = .ok (.iload 13, 2) := by decide +kernel
theorem dL_isStep_793 : decode cL_isStep 793 = .ok (.aload_n 1, 1) := by decide +kernel
theorem dL_isStep_794 : decode cL_isStep 794 = .ok (.iload 5, 2) := by decide +kernel
theorem dL_isStep_796 : decode cL_isStep 796 = .ok (.invokestatic 32, 3) := by decide +kernel
theorem dL_isStep_799 : decode cL_isStep 799 = .ok (.iload 6, 2) := by decide +kernel
theorem dL_isStep_801 : decode cL_isStep 801 = .ok (.invokestatic 32, 3) := by decide +kernel
theorem dL_isStep_804 : decode cL_isStep 804 = .ok (.invokevirtual 61, 3) := by decide +kernel
theorem dL_isStep_807 : decode cL_isStep 807 = .ok (.if_icmp .ne 109, 3) := by decide +kernel
theorem dL_isStep_810 : decode cL_isStep 810 = .ok (.iload 12, 2) := by decide +kernel
theorem dL_isStep_812 : decode cL_isStep 812 = .ok (.ifCond .eq 12, 3) := by decide +kernel
theorem dL_isStep_815 : decode cL_isStep 815 = .ok (.iload 13, 2) := by decide +kernel
theorem dL_isStep_817 : decode cL_isStep 817 = .ok (.iconst (-1), 1) := by decide +kernel
theorem dL_isStep_818 : decode cL_isStep 818 = .ok (.if_icmp .ne 98, 3) := by decide +kernel
theorem dL_isStep_821 : decode cL_isStep 821 = .ok (.goto 91, 3) := by decide +kernel
theorem dL_isStep_824 : decode cL_isStep 824 = .ok (.iload 11, 2) := by decide +kernel
theorem dL_isStep_826 : decode cL_isStep 826 = .ok (.ifCond .ne 13, 3) := by decide +kernel
theorem dL_isStep_829 : decode cL_isStep 829 = .ok (.iload 13, 2) := by decide +kernel
theorem dL_isStep_831 : decode cL_isStep 831 = .ok (.bipush (-7), 2) := by decide +kernel
theorem dL_isStep_833 : decode cL_isStep 833 = .ok (.if_icmp .ne 83, 3) := by decide +kernel
theorem dL_isStep_836 : decode cL_isStep 836 = .ok (.goto 76, 3) := by decide +kernel
theorem dL_isStep_839 : decode cL_isStep 839 = .ok (.iload 14, 2) := by decide +kernel
theorem dL_isStep_841 : decode cL_isStep 841 = .ok (.ifCond .eq 47, 3) := by decide +kernel
theorem dL_isStep_844 : decode cL_isStep 844 = .ok (.aload_n 0, 1) := by decide +kernel
theorem dL_isStep_845 : decode cL_isStep 845 = .ok (.iload 5, 2) := by decide +kernel
theorem dL_isStep_847 : decode cL_isStep 847 = .ok (.iconst 3, 1) := by decide +kernel
theorem dL_isStep_848 : decode cL_isStep 848 = .ok (.invokevirtual 25, 3) := by decide +kernel
theorem dL_isStep_851 : decode cL_isStep 851 = .ok (.aload_n 0, 1) := by decide +kernel
theorem dL_isStep_852 : decode cL_isStep 852 = .ok (.iload 6, 2) := by decide +kernel
theorem dL_isStep_854 : decode cL_isStep 854 = .ok (.iconst 3, 1) := by decide +kernel
theorem dL_isStep_855 : decode cL_isStep 855 = .ok (.invokevirtual 25, 3) := by decide +kernel
theorem dL_isStep_858 : decode cL_isStep 858 = .ok (.if_icmp .ne 58, 3) := by decide +kernel
theorem dL_isStep_861 : decode cL_isStep 861 = .ok (.aload_n 0, 1) := by decide +kernel
theorem dL_isStep_862 : decode cL_isStep 862 = .ok (.iload 5, 2) := by decide +kernel
theorem dL_isStep_864 : decode cL_isStep 864 = .ok (.bipush 7, 2) := by decide +kernel
theorem dL_isStep_866 : decode cL_isStep 866 = .ok (.invokevirtual 25, 3) := by decide +kernel
theorem dL_isStep_869 : decode cL_isStep 869 = .ok (.iload 6, 2) := by decide +kernel
theorem dL_isStep_871 : decode cL_isStep 871 = .ok (.if_icmp .ne 45, 3) := by decide +kernel
theorem dL_isStep_874 : decode cL_isStep 874 = .ok (.aload_n 0, 1) := by decide +kernel
theorem dL_isStep_875 : decode cL_isStep 875 = .ok (.iload 5, 2) := by decide +kernel
theorem dL_isStep_877 : decode cL_isStep 877 = .ok (.bipush 8, 2) := by decide +kernel
theorem dL_isStep_879 : decode cL_isStep 879 = .ok (.invokevirtual 25, 3) := by decide +kernel
theorem dL_isStep_882 : decode cL_isStep 882 = .ok (.ifCond .ne 34, 3) := by decide +kernel
theorem dL_isStep_885 : decode cL_isStep 885 = .ok (.goto 27, 3) := by decide +kernel
theorem dL_isStep_888 : decode cL_isStep 888 = .ok (.iload 13, 2) := by decide +kernel
theorem dL_isStep_890 : decode cL_isStep 890 = .ok (.bipush (-6), 2) := by decide +kernel
theorem dL_isStep_892 : decode cL_isStep 892 = .ok (.if_icmp .ne 24, 3) := by decide +kernel
theorem dL_isStep_895 : decode cL_isStep 895 = .ok (.iload 11, 2) := by decide +kernel
theorem dL_isStep_897 : decode cL_isStep 897 = .ok (.ifCond .ge 19, 3) := by decide +kernel
theorem dL_isStep_900 : decode cL_isStep 900 = .ok (.iload 9, 2) := by decide +kernel
theorem dL_isStep_902 : decode cL_isStep 902 = .ok (.iconst 4, 1) := by decide +kernel
theorem dL_isStep_903 : decode cL_isStep 903 = .ok (.aload_n 0, 1) := by decide +kernel
theorem dL_isStep_904 : decode cL_isStep 904 = .ok (.iconst 4, 1) := by decide +kernel
theorem dL_isStep_905 : decode cL_isStep 905 = .ok (.invokevirtual 21, 3) := by decide +kernel
theorem dL_isStep_908 : decode cL_isStep 908 = .ok (.imul, 1) := by decide +kernel
theorem dL_isStep_909 : decode cL_isStep 909 = .ok (.if_icmp .ne 7, 3) := by decide +kernel
theorem dL_isStep_912 : decode cL_isStep 912 = .ok (.iconst 1, 1) := by decide +kernel
theorem dL_isStep_913 : decode cL_isStep 913 = .ok (.goto 4, 3) := by decide +kernel
theorem dL_isStep_916 : decode cL_isStep 916 = .ok (.iconst 0, 1) := by decide +kernel
theorem dL_isStep_917 : decode cL_isStep 917 = .ok (.ireturn, 1) := by decide +kernel
theorem dL_isStep_918 : decode cL_isStep 918 = .ok (.aload_n 0, 1) := by decide +kernel
theorem dL_isStep_919 : decode cL_isStep 919 = .ok (.bipush 8, 2) := by decide +kernel
theorem dL_isStep_921 : decode cL_isStep 921 = .ok (.invokevirtual 21, 3) := by decide +kernel
theorem dL_isStep_924 : decode cL_isStep 924 = .ok (.istore 12, 2) := by decide +kernel
theorem dL_isStep_926 : decode cL_isStep 926 = .ok (.aload_n 0, 1) := by decide +kernel
theorem dL_isStep_927 : decode cL_isStep 927 = .ok (.invokevirtual 64, 3) := by decide +kernel
theorem dL_isStep_930 : decode cL_isStep 930 = .ok (.istore 13, 2) := by decide +kernel
theorem dL_isStep_932 : decode cL_isStep 932 = .ok (.iload 13, 2) := by decide +kernel
theorem dL_isStep_934 : decode cL_isStep 934 = .ok (.aload_n 1, 1) := by decide +kernel
theorem dL_isStep_935 : decode cL_isStep 935 = .ok (.invokevirtual 64, 3) := by decide +kernel
theorem dL_isStep_938 : decode cL_isStep 938 = .ok (.if_icmp .ne 47, 3) := by decide +kernel
theorem dL_isStep_941 : decode cL_isStep 941 = .ok (.iload 13, 2) := by decide +kernel
theorem dL_isStep_943 : decode cL_isStep 943 = .ok (.iload 12, 2) := by decide +kernel
theorem dL_isStep_945 : decode cL_isStep 945 = .ok (.ifCond .ne 8, 3) := by decide +kernel
theorem dL_isStep_948 : decode cL_isStep 948 = .ok (.bipush (-5), 2) := by decide +kernel
theorem dL_isStep_950 : decode cL_isStep 950 = .ok (.goto 5, 3) := by decide +kernel
theorem dL_isStep_953 : decode cL_isStep 953 = .ok (.iload 12, 2) := by decide +kernel
theorem dL_isStep_955 : decode cL_isStep 955 = .ok (.if_icmp .ne 30, 3) := by decide +kernel
theorem dL_isStep_958 : decode cL_isStep 958 = .ok (.aload_n 0, 1) := by decide +kernel
theorem dL_isStep_959 : decode cL_isStep 959 = .ok (.bipush 6, 2) := by decide +kernel
theorem dL_isStep_961 : decode cL_isStep 961 = .ok (.invokevirtual 21, 3) := by decide +kernel
theorem dL_isStep_964 : decode cL_isStep 964 = .ok (.iload 10, 2) := by decide +kernel
theorem dL_isStep_966 : decode cL_isStep 966 = .ok (.iload 12, 2) := by decide +kernel
theorem dL_isStep_968 : decode cL_isStep 968 = .ok (.isub, 1) := by decide +kernel
theorem dL_isStep_969 : decode cL_isStep 969 = .ok (.if_icmp .ne 16, 3) := by decide +kernel
theorem dL_isStep_972 : decode cL_isStep 972 = .ok (.aload_n 0, 1) := by decide +kernel
theorem dL_isStep_973 : decode cL_isStep 973 = .ok (.bipush 8, 2) := by decide +kernel
theorem dL_isStep_975 : decode cL_isStep 975 = .ok (.invokevirtual 21, 3) := by decide +kernel
theorem dL_isStep_978 : decode cL_isStep 978 = .ok (.ifCond .ne 7, 3) := by decide +kernel
theorem dL_isStep_981 : decode cL_isStep 981 = .ok (.iconst 1, 1) := by decide +kernel
theorem dL_isStep_982 : decode cL_isStep 982 = .ok (.goto 4, 3) := by decide +kernel
theorem dL_isStep_985 : decode cL_isStep 985 = .ok (.iconst 0, 1) := by decide +kernel
theorem dL_isStep_986 : decode cL_isStep 986 = .ok (.ireturn, 1) := by decide +kernel
theorem dL_isStep_987 : decode cL_isStep 987 = .ok (.iconst 1, 1) := by decide +kernel
theorem dL_isStep_988 : decode cL_isStep 988 = .ok (.iload_n 3, 1) := by decide +kernel
theorem dL_isStep_989 : decode cL_isStep 989 = .ok (.bipush 6, 2) := by decide +kernel
theorem dL_isStep_991 : decode cL_isStep 991 = .ok (.invokestatic 17, 3) := by decide +kernel
theorem dL_isStep_994 : decode cL_isStep 994 = .ok (.iadd, 1) := by decide +kernel
theorem dL_isStep_995 : decode cL_isStep 995 = .ok (.istore 12, 2) := by decide +kernel
theorem dL_isStep_997 : decode cL_isStep 997 = .ok (.aload_n 0, 1) := by decide +kernel
theorem dL_isStep_998 : decode cL_isStep 998 = .ok (.iconst 4, 1) := by decide +kernel
theorem dL_isStep_999 : decode cL_isStep 999 = .ok (.invokevirtual 21, 3) := by decide +kernel
theorem dL_isStep_1002 : decode cL_isStep 1002 = .ok (.istore 13, 2) := by decide +kernel
theorem dL_isStep_1004 : decode cL_isStep 1004 = .ok (.aload_n 0, 1) := by decide +kernel
theorem dL_isStep_1005 : decode cL_isStep 1005 = .ok (.iload 12, 2) := by decide +kernel
theorem dL_isStep_1007 : decode cL_isStep 1007 = .ok (.invokevirtual 67, 3) := by decide +kernel
theorem dL_isStep_1010 : decode cL_isStep 1010 = .ok (.istore 14, 2) := by decide +kernel
theorem dL_isStep_1012 : decode cL_isStep 1012 = .ok (.iload 14, 2) := by decide +kernel
theorem dL_isStep_1014 : decode cL_isStep 1014 = .ok (.aload_n 1, 1) := by decide +kernel
theorem dL_isStep_1015 : decode cL_isStep 1015 = .ok (.iload 12, 2) := by decide +kernel
theorem dL_isStep_1017 : decode cL_isStep 1017 = .ok (.invokevirtual 67, 3) := by decide +kernel
theorem dL_isStep_1020 : decode cL_isStep 1020 = .ok (.if_icmp .ne 54, 3) := by decide +kernel
theorem dL_isStep_1023 : decode cL_isStep 1023 = .ok (.iload 14, 2) := by decide +kernel
theorem dL_isStep_1025 : decode cL_isStep 1025 = .ok (.iload 9, 2) := by decide +kernel
theorem dL_isStep_1027 : decode cL_isStep 1027 = .ok (.iconst 4, 1) := by decide +kernel
theorem dL_isStep_1028 : decode cL_isStep 1028 = .ok (.iload 12, 2) := by decide +kernel
theorem dL_isStep_1030 : decode cL_isStep 1030 = .ok (.imul, 1) := by decide +kernel
theorem dL_isStep_1031 : decode cL_isStep 1031 = .ok (.if_icmp .le 8, 3) := by decide +kernel
theorem dL_isStep_1034 : decode cL_isStep 1034 = .ok (.bipush (-6), 2) := by decide +kernel
theorem dL_isStep_1036 : decode cL_isStep 1036 = .ok (.goto 17, 3) := by decide +kernel
theorem dL_isStep_1039 : decode cL_isStep 1039 = .ok (.iload 13, 2) := by decide +kernel
theorem dL_isStep_1041 : decode cL_isStep 1041 = .ok (.iload 12, 2) := by decide +kernel
theorem dL_isStep_1043 : decode cL_isStep 1043 = .ok (.if_icmp .ne 8, 3) := by decide +kernel
theorem dL_isStep_1046 : decode cL_isStep 1046 = .ok (.bipush (-5), 2) := by decide +kernel
theorem dL_isStep_1048 : decode cL_isStep 1048 = .ok (.goto 5, 3) := by decide +kernel
theorem dL_isStep_1051 : decode cL_isStep 1051 = .ok (.iload 13, 2) := by decide +kernel
theorem dL_isStep_1053 : decode cL_isStep 1053 = .ok (.if_icmp .ne 21, 3) := by decide +kernel
theorem dL_isStep_1056 : decode cL_isStep 1056 = .ok (.iload 14, 2) := by decide +kernel
theorem dL_isStep_1058 : decode cL_isStep 1058 = .ok (.ifCond .lt 12, 3) := by decide +kernel
theorem dL_isStep_1061 : decode cL_isStep 1061 = .ok (.aload_n 0, 1) := by decide +kernel
theorem dL_isStep_1062 : decode cL_isStep 1062 = .ok (.bipush 8, 2) := by decide +kernel
theorem dL_isStep_1064 : decode cL_isStep 1064 = .ok (.invokevirtual 21, 3) := by decide +kernel
theorem dL_isStep_1067 : decode cL_isStep 1067 = .ok (.ifCond .ne 7, 3) := by decide +kernel
theorem dL_isStep_1070 : decode cL_isStep 1070 = .ok (.iconst 1, 1) := by decide +kernel
theorem dL_isStep_1071 : decode cL_isStep 1071 = .ok (.goto 4, 3) := by decide +kernel
theorem dL_isStep_1074 : decode cL_isStep 1074 = .ok (.iconst 0, 1) := by decide +kernel
theorem dL_isStep_1075 : decode cL_isStep 1075 = .ok (.ireturn, 1) := by decide +kernel
theorem dL_isStep_1076 : decode cL_isStep 1076 = .ok (.aload_n 0, 1) := by decide +kernel
theorem dL_isStep_1077 : decode cL_isStep 1077 = .ok (.bipush 13, 2) := by decide +kernel
theorem dL_isStep_1079 : decode cL_isStep 1079 = .ok (.invokevirtual 21, 3) := by decide +kernel
theorem dL_isStep_1082 : decode cL_isStep 1082 = .ok (.ifCond .eq 14, 3) := by decide +kernel
theorem dL_isStep_1085 : decode cL_isStep 1085 = .ok (.aload_n 0, 1) := by decide +kernel
theorem dL_isStep_1086 : decode cL_isStep 1086 = .ok (.invokevirtual 70, 3) := by decide +kernel
theorem dL_isStep_1089 : decode cL_isStep 1089 = .ok (.aload_n 1, 1) := by decide +kernel
theorem dL_isStep_1090 : decode cL_isStep 1090 = .ok (.invokevirtual 70, 3) := by decide +kernel
theorem dL_isStep_1093 : decode cL_isStep 1093 = .ok (.if_icmp .ne 7, 3) := by decide +kernel
theorem dL_isStep_1096 : decode cL_isStep 1096 = .ok (.iconst 1, 1) := by decide +kernel
theorem dL_isStep_1097 : decode cL_isStep 1097 = .ok (.goto 4, 3) := by decide +kernel
theorem dL_isStep_1100 : decode cL_isStep 1100 = .ok (.iconst 0, 1) := by decide +kernel
theorem dL_isStep_1101 : decode cL_isStep 1101 = .ok (.ireturn, 1) := by decide +kernel
theorem dL_areAlike_0 : decode cL_areAlike 0 = .ok (.iconst 1, 1) := by decide +kernel
theorem dL_areAlike_1 : decode cL_areAlike 1 = .ok (.istore_n 2, 1) := by decide +kernel
theorem dL_areAlike_2 : decode cL_areAlike 2 = .ok (.iconst 0, 1) := by decide +kernel
theorem dL_areAlike_3 : decode cL_areAlike 3 = .ok (.istore_n 3, 1) := by decide +kernel
theorem dL_areAlike_4 : decode cL_areAlike 4 = .ok (.iload_n 3, 1) := by decide +kernel
theorem dL_areAlike_5 : decode cL_areAlike 5 = .ok (.bipush 14, 2) := by decide +kernel
theorem dL_areAlike_7 : decode cL_areAlike 7 = .ok (.if_icmp .ge 32, 3) := by decide +kernel
theorem dL_areAlike_10 : decode cL_areAlike 10 = .ok (.iload_n 2, 1) := by decide +kernel
theorem dL_areAlike_11 : decode cL_areAlike 11 = .ok (.ifCond .eq 20, 3) := by decide +kernel
theorem dL_areAlike_14 : decode cL_areAlike 14 = .ok (.aload_n 0, 1) := by decide +kernel
theorem dL_areAlike_15 : decode cL_areAlike 15 = .ok (.iload_n 3, 1) := by decide +kernel
theorem dL_areAlike_16 : decode cL_areAlike 16 = .ok (.invokevirtual 21, 3) := by decide +kernel
theorem dL_areAlike_19 : decode cL_areAlike 19 = .ok (.aload_n 1, 1) := by decide +kernel
theorem dL_areAlike_20 : decode cL_areAlike 20 = .ok (.iload_n 3, 1) := by decide +kernel
theorem dL_areAlike_21 : decode cL_areAlike 21 = .ok (.invokevirtual 21, 3) := by decide +kernel
theorem dL_areAlike_24 : decode cL_areAlike 24 = .ok (.if_icmp .ne 7, 3) := by decide +kernel
theorem dL_areAlike_27 : decode cL_areAlike 27 = .ok (.iconst 1, 1) := by decide +kernel
theorem dL_areAlike_28 : decode cL_areAlike 28 = .ok (.goto 4, 3) := by decide +kernel
theorem dL_areAlike_31 : decode cL_areAlike 31 = .ok (.iconst 0, 1) := by decide +kernel
theorem dL_areAlike_32 : decode cL_areAlike 32 = .ok (.istore_n 2, 1) := by decide +kernel
theorem dL_areAlike_33 : decode cL_areAlike 33 = .ok (.iinc 3 1, 3) := by decide +kernel
theorem dL_areAlike_36 : decode cL_areAlike 36 = .ok (.goto (-32), 3) := by decide +kernel
theorem dL_areAlike_39 : decode cL_areAlike 39 = .ok (.iconst 0, 1) := by decide +kernel
theorem dL_areAlike_40 : decode cL_areAlike 40 = .ok (.istore_n 3, 1) := by decide +kernel
theorem dL_areAlike_41 : decode cL_areAlike 41 = .ok (.iload_n 3, 1) := by decide +kernel
theorem dL_areAlike_42 : decode cL_areAlike 42 = .ok (.aload_n 0, 1) := by decide +kernel
theorem dL_areAlike_43 : decode cL_areAlike 43 = .ok (.iconst 0, 1) := by decide +kernel
theorem dL_areAlike_44 : decode cL_areAlike 44 = .ok (.invokevirtual 21, 3) := by decide +kernel
theorem dL_areAlike_47 : decode cL_areAlike 47 = .ok (.if_icmp .ge 149, 3) := by decide +kernel
theorem dL_areAlike_50 : decode cL_areAlike 50 = .ok (.iload_n 2, 1) := by decide +kernel
theorem dL_areAlike_51 : decode cL_areAlike 51 = .ok (.ifCond .eq 145, 3) := by decide +kernel
theorem dL_areAlike_54 : decode cL_areAlike 54 = .ok (.aload_n 0, 1) := by decide +kernel
theorem dL_areAlike_55 : decode cL_areAlike 55 = .ok (.iload_n 3, 1) := by decide +kernel
theorem dL_areAlike_56 : decode cL_areAlike 56 = .ok (.invokevirtual 73, 3) := by decide +kernel
theorem dL_areAlike_59 : decode cL_areAlike 59 = .ok (.istore 4, 2) := by decide +kernel
theorem dL_areAlike_61 : decode cL_areAlike 61 = .ok (.iload 4, 2) := by decide +kernel
theorem dL_areAlike_63 : decode cL_areAlike 63 = .ok (.invokestatic 32, 3) := by decide +kernel
theorem dL_areAlike_66 : decode cL_areAlike 66 = .ok (.aload_n 1, 1) := by decide +kernel
theorem dL_areAlike_67 : decode cL_areAlike 67 = .ok (.iload_n 3, 1) := by decide +kernel
theorem dL_areAlike_68 : decode cL_areAlike 68 = .ok (.invokevirtual 73, 3) := by decide +kernel
theorem dL_areAlike_71 : decode cL_areAlike 71 = .ok (.if_icmp .ne 56, 3) := by decide +kernel
theorem dL_areAlike_74 : decode cL_areAlike 74 = .ok (.aload_n 0, 1) := by decide +kernel
theorem dL_areAlike_75 : decode cL_areAlike 75 = .ok (.iload 4, 2) := by decide +kernel
theorem dL_areAlike_77 : decode cL_areAlike 77 = .ok (.bipush 7, 2) := by decide +kernel
theorem dL_areAlike_79 : decode cL_areAlike 79 = .ok (.invokevirtual 25, 3) := by decide +kernel
theorem dL_areAlike_82 : decode cL_areAlike 82 = .ok (.invokestatic 32, 3) := by decide +kernel
theorem dL_areAlike_85 : decode cL_areAlike 85 = .ok (.aload_n 1, 1) := by decide +kernel
theorem dL_areAlike_86 : decode cL_areAlike 86 = .ok (.iload 4, 2) := by decide +kernel
theorem dL_areAlike_88 : decode cL_areAlike 88 = .ok (.invokestatic 32, 3) := by decide +kernel
theorem dL_areAlike_91 : decode cL_areAlike 91 = .ok (.bipush 7, 2) := by decide +kernel
theorem dL_areAlike_93 : decode cL_areAlike 93 = .ok (.invokevirtual 25, 3) := by decide +kernel
theorem dL_areAlike_96 : decode cL_areAlike 96 = .ok (.if_icmp .ne 31, 3) := by decide +kernel
theorem dL_areAlike_99 : decode cL_areAlike 99 = .ok (.aload_n 0, 1) := by decide +kernel
theorem dL_areAlike_100 : decode cL_areAlike 100 = .ok (.iload 4, 2) := by decide +kernel
theorem dL_areAlike_102 : decode cL_areAlike 102 = .ok (.iconst 5, 1) := by decide +kernel
theorem dL_areAlike_103 : decode cL_areAlike 103 = .ok (.invokevirtual 25, 3) := by decide +kernel
theorem dL_areAlike_106 : decode cL_areAlike 106 = .ok (.sipush 9999, 3) := by decide +kernel
theorem dL_areAlike_109 : decode cL_areAlike 109 = .ok (.aload_n 1, 1) := by decide +kernel
theorem dL_areAlike_110 : decode cL_areAlike 110 = .ok (.iload 4, 2) := by decide +kernel
theorem dL_areAlike_112 : decode cL_areAlike 112 = .ok (.invokestatic 32, 3) := by decide +kernel
theorem dL_areAlike_115 : decode cL_areAlike 115 = .ok (.iconst 5, 1) := by decide +kernel
theorem dL_areAlike_116 : decode cL_areAlike 116 = .ok (.invokevirtual 25, 3) := by decide +kernel
theorem dL_areAlike_119 : decode cL_areAlike 119 = .ok (.isub, 1) := by decide +kernel
theorem dL_areAlike_120 : decode cL_areAlike 120 = .ok (.if_icmp .ne 7, 3) := by decide +kernel
theorem dL_areAlike_123 : decode cL_areAlike 123 = .ok (.iconst 1, 1) := by decide +kernel
theorem dL_areAlike_124 : decode cL_areAlike 124 = .ok (.goto 4, 3) := by decide +kernel
theorem dL_areAlike_127 : decode cL_areAlike 127 = .ok (.iconst 0, 1) := by decide +kernel
theorem dL_areAlike_128 : decode cL_areAlike 128 = .ok (.istore_n 2, 1) := by decide +kernel
theorem dL_areAlike_129 : decode cL_areAlike 129 = .ok (.iconst 0, 1) := by decide +kernel
theorem dL_areAlike_130 : decode cL_areAlike 130 = .ok (.istore 5, 2) := by decide +kernel
theorem dL_areAlike_132 : decode cL_areAlike 132 = .ok (.iload 5, 2) := by decide +kernel
theorem dL_areAlike_134 : decode cL_areAlike 134 = .ok (.bipush 9, 2) := by decide +kernel
theorem dL_areAlike_136 : decode cL_areAlike 136 = .ok (.if_icmp .ge 54, 3) := by decide +kernel
theorem dL_areAlike_139 : decode cL_areAlike 139 = .ok (.iload_n 2, 1) := by decide +kernel
theorem dL_areAlike_140 : decode cL_areAlike 140 = .ok (.ifCond .eq 42, 3) := by decide +kernel
theorem dL_areAlike_143 : decode cL_areAlike 143 = .ok (.iload 5, 2) := by decide +kernel
theorem dL_areAlike_145 : decode cL_areAlike 145 = .ok (.iconst 5, 1) := by decide +kernel
theorem dL_areAlike_146 : decode cL_areAlike 146 = .ok (.if_icmp .eq 32, 3) := by decide +kernel
theorem dL_areAlike_149 : decode cL_areAlike 149 = .ok (.iload 5, 2) := by decide +kernel
theorem dL_areAlike_151 : decode cL_areAlike 151 = .ok (.bipush 7, 2) := by decide +kernel
theorem dL_areAlike_153 : decode cL_areAlike 153 = .ok (.if_icmp .eq 25, 3) := by decide +kernel
theorem dL_areAlike_156 : decode cL_areAlike 156 = .ok (.aload_n 0, 1) := by decide +kernel
theorem dL_areAlike_157 : decode cL_areAlike 157 = .ok (.iload 4, 2) := by decide +kernel
theorem dL_areAlike_159 : decode cL_areAlike 159 = .ok (.iload 5, 2) := by decide +kernel
theorem dL_areAlike_161 : decode cL_areAlike 161 = .ok (.invokevirtual 25, 3) := by decide +kernel
theorem dL_areAlike_164 : decode cL_areAlike 164 = .ok (.aload_n 1, 1) := by decide +kernel
theorem dL_areAlike_165 : decode cL_areAlike 165 = .ok (.iload 4, 2) := by decide +kernel
theorem dL_areAlike_167 : decode cL_areAlike 167 = .ok (.invokestatic 32, 3) := by decide +kernel
theorem dL_areAlike_170 : decode cL_areAlike 170 = .ok (.iload 5, 2) := by decide +kernel
theorem dL_areAlike_172 : decode cL_areAlike 172 = .ok (.invokevirtual 25, 3) := by decide +kernel
theorem dL_areAlike_175 : decode cL_areAlike 175 = .ok (.if_icmp .ne 7, 3) := by decide +kernel
theorem dL_areAlike_178 : decode cL_areAlike 178 = .ok (.iconst 1, 1) := by decide +kernel
theorem dL_areAlike_179 : decode cL_areAlike 179 = .ok (.goto 4, 3) := by decide +kernel
theorem dL_areAlike_182 : decode cL_areAlike 182 = .ok (.iconst 0, 1) := by decide +kernel
theorem dL_areAlike_183 : decode cL_areAlike 183 = .ok (.istore_n 2, 1) := by decide +kernel
theorem dL_areAlike_184 : decode cL_areAlike 184 = .ok (.iinc 5 1, 3) := by decide +kernel
theorem dL_areAlike_187 : decode cL_areAlike 187 = .ok (.goto (-55), 3) := by decide +kernel
theorem dL_areAlike_190 : decode cL_areAlike 190 = .ok (.iinc 3 1, 3) := by decide +kernel
theorem dL_areAlike_193 : decode cL_areAlike 193 = .ok (.goto (-152), 3) := by decide +kernel
theorem dL_areAlike_196 : decode cL_areAlike 196 = .ok (.iconst 0, 1) := by decide +kernel
theorem dL_areAlike_197 : decode cL_areAlike 197 = .ok (.istore_n 3, 1) := by decide +kernel
theorem dL_areAlike_198 : decode cL_areAlike 198 = .ok (.iload_n 3, 1) := by decide +kernel
theorem dL_areAlike_199 : decode cL_areAlike 199 = .ok (.bipush 100, 2) := by decide +kernel
theorem dL_areAlike_201 : decode cL_areAlike 201 = .ok (.if_icmp .ge 35, 3) := by decide +kernel
theorem dL_areAlike_204 : decode cL_areAlike 204 = .ok (.iload_n 2, 1) := by decide +kernel
theorem dL_areAlike_205 : decode cL_areAlike 205 = .ok (.ifCond .eq 23, 3) := by decide +kernel
theorem dL_areAlike_208 : decode cL_areAlike 208 = .ok (.aload_n 0, 1) := by decide +kernel
theorem dL_areAlike_209 : decode cL_areAlike 209 = .ok (.iload_n 3, 1) := by decide +kernel
theorem dL_areAlike_210 : decode cL_areAlike 210 = .ok (.invokevirtual 76, 3) := by decide +kernel
theorem dL_areAlike_213 : decode cL_areAlike 213 = .ok (.invokestatic 32, 3) := by decide +kernel
theorem dL_areAlike_216 : decode cL_areAlike 216 = .ok (.aload_n 1, 1) := by decide +kernel
theorem dL_areAlike_217 : decode cL_areAlike 217 = .ok (.iload_n 3, 1) := by decide +kernel
theorem dL_areAlike_218 : decode cL_areAlike 218 = .ok (.invokevirtual 76, 3) := by decide +kernel
theorem dL_areAlike_221 : decode cL_areAlike 221 = .ok (.if_icmp .ne 7, 3) := by decide +kernel
theorem dL_areAlike_224 : decode cL_areAlike 224 = .ok (.iconst 1, 1) := by decide +kernel
theorem dL_areAlike_225 : decode cL_areAlike 225 = .ok (.goto 4, 3) := by decide +kernel
theorem dL_areAlike_228 : decode cL_areAlike 228 = .ok (.iconst 0, 1) := by decide +kernel
theorem dL_areAlike_229 : decode cL_areAlike 229 = .ok (.istore_n 2, 1) := by decide +kernel
theorem dL_areAlike_230 : decode cL_areAlike 230 = .ok (.iinc 3 3, 3) := by decide +kernel
theorem dL_areAlike_233 : decode cL_areAlike 233 = .ok (.goto (-35), 3) := by decide +kernel
theorem dL_areAlike_236 : decode cL_areAlike 236 = .ok (.iconst 0, 1) := by decide +kernel
theorem dL_areAlike_237 : decode cL_areAlike 237 = .ok (.istore_n 3, 1) := by decide +kernel
theorem dL_areAlike_238 : decode cL_areAlike 238 = .ok (.iload_n 3, 1) := by decide +kernel
theorem dL_areAlike_239 : decode cL_areAlike 239 = .ok (.bipush 13, 2) := by decide +kernel
theorem dL_areAlike_241 : decode cL_areAlike 241 = .ok (.if_icmp .ge 40, 3) := by decide +kernel
theorem dL_areAlike_244 : decode cL_areAlike 244 = .ok (.iload_n 2, 1) := by decide +kernel
theorem dL_areAlike_245 : decode cL_areAlike 245 = .ok (.ifCond .eq 28, 3) := by decide +kernel
theorem dL_areAlike_248 : decode cL_areAlike 248 = .ok (.aload_n 0, 1) := by decide +kernel
theorem dL_areAlike_249 : decode cL_areAlike 249 = .ok (.iload_n 3, 1) := by decide +kernel
theorem dL_areAlike_250 : decode cL_areAlike 250 = .ok (.iconst 1, 1) := by decide +kernel
theorem dL_areAlike_251 : decode cL_areAlike 251 = .ok (.invokevirtual 79, 3) := by decide +kernel
theorem dL_areAlike_254 : decode cL_areAlike 254 = .ok (.invokestatic 32, 3) := by decide +kernel
theorem dL_areAlike_257 : decode cL_areAlike 257 = .ok (.aload_n 1, 1) := by decide +kernel
theorem dL_areAlike_258 : decode cL_areAlike 258 = .ok (.iload_n 3, 1) := by decide +kernel
theorem dL_areAlike_259 : decode cL_areAlike 259 = .ok (.bipush 13, 2) := by decide +kernel
theorem dL_areAlike_261 : decode cL_areAlike 261 = .ok (.iadd, 1) := by decide +kernel
theorem dL_areAlike_262 : decode cL_areAlike 262 = .ok (.iconst 1, 1) := by decide +kernel
theorem dL_areAlike_263 : decode cL_areAlike 263 = .ok (.invokevirtual 79, 3) := by decide +kernel
theorem dL_areAlike_266 : decode cL_areAlike 266 = .ok (.if_icmp .ne 7, 3) := by decide +kernel
theorem dL_areAlike_269 : decode cL_areAlike 269 = .ok (.iconst 1, 1) := by decide +kernel
theorem dL_areAlike_270 : decode cL_areAlike 270 = .ok (.goto 4, 3) := by decide +kernel
theorem dL_areAlike_273 : decode cL_areAlike 273 = .ok (.iconst 0, 1) := by decide +kernel
theorem dL_areAlike_274 : decode cL_areAlike 274 = .ok (.istore_n 2, 1) := by decide +kernel
theorem dL_areAlike_275 : decode cL_areAlike 275 = .ok (.iinc 3 1, 3) := by decide +kernel
theorem dL_areAlike_278 : decode cL_areAlike 278 = .ok (.goto (-40), 3) := by decide +kernel
theorem dL_areAlike_281 : decode cL_areAlike 281 = .ok (.iload_n 2, 1) := by decide +kernel
theorem dL_areAlike_282 : decode cL_areAlike 282 = .ok (.ireturn, 1) := by decide +kernel
theorem dL_isWell_0 : decode cL_isWell 0 = .ok (.aload_n 0, 1) := by decide +kernel
theorem dL_isWell_1 : decode cL_isWell 1 = .ok (.iconst 0, 1) := by decide +kernel
theorem dL_isWell_2 : decode cL_isWell 2 = .ok (.invokevirtual 21, 3) := by decide +kernel
theorem dL_isWell_5 : decode cL_isWell 5 = .ok (.istore_n 1, 1) := by decide +kernel
theorem dL_isWell_6 : decode cL_isWell 6 = .ok (.iconst 0, 1) := by decide +kernel
theorem dL_isWell_7 : decode cL_isWell 7 = .ok (.istore_n 2, 1) := by decide +kernel
theorem dL_isWell_8 : decode cL_isWell 8 = .ok (.iconst 0, 1) := by decide +kernel
theorem dL_isWell_9 : decode cL_isWell 9 = .ok (.istore_n 3, 1) := by decide +kernel
theorem dL_isWell_10 : decode cL_isWell 10 = .ok (.iconst 0, 1) := by decide +kernel
theorem dL_isWell_11 : decode cL_isWell 11 = .ok (.istore 4, 2) := by decide +kernel
theorem dL_isWell_13 : decode cL_isWell 13 = .ok (.iconst 0, 1) := by decide +kernel
theorem dL_isWell_14 : decode cL_isWell 14 = .ok (.istore 5, 2) := by decide +kernel
theorem dL_isWell_16 : decode cL_isWell 16 = .ok (.iload_n 1, 1) := by decide +kernel
theorem dL_isWell_17 : decode cL_isWell 17 = .ok (.iconst 4, 1) := by decide +kernel
theorem dL_isWell_18 : decode cL_isWell 18 = .ok (.aload_n 0, 1) := by decide +kernel
theorem dL_isWell_19 : decode cL_isWell 19 = .ok (.iconst 4, 1) := by decide +kernel
theorem dL_isWell_20 : decode cL_isWell 20 = .ok (.invokevirtual 21, 3) := by decide +kernel
theorem dL_isWell_23 : decode cL_isWell 23 = .ok (.imul, 1) := by decide +kernel
theorem dL_isWell_24 : decode cL_isWell 24 = .ok (.if_icmp .gt 74, 3) := by decide +kernel
theorem dL_isWell_27 : decode cL_isWell 27 = .ok (.aload_n 0, 1) := by decide +kernel
theorem dL_isWell_28 : decode cL_isWell 28 = .ok (.iconst 5, 1) := by decide +kernel
theorem dL_isWell_29 : decode cL_isWell 29 = .ok (.invokevirtual 21, 3) := by decide +kernel
theorem dL_isWell_32 : decode cL_isWell 32 = .ok (.iconst 4, 1) := by decide +kernel
theorem dL_isWell_33 : decode cL_isWell 33 = .ok (.aload_n 0, 1) := by decide +kernel
theorem dL_isWell_34 : decode cL_isWell 34 = .ok (.iconst 4, 1) := by decide +kernel
theorem dL_isWell_35 : decode cL_isWell 35 = .ok (.invokevirtual 21, 3) := by decide +kernel
theorem dL_isWell_38 : decode cL_isWell 38 = .ok (.imul, 1) := by decide +kernel
theorem dL_isWell_39 : decode cL_isWell 39 = .ok (.iload_n 1, 1) := by decide +kernel
theorem dL_isWell_40 : decode cL_isWell 40 = .ok (.isub, 1) := by decide +kernel
theorem dL_isWell_41 : decode cL_isWell 41 = .ok (.if_icmp .ne 57, 3) := by decide +kernel
theorem dL_isWell_44 : decode cL_isWell 44 = .ok (.aload_n 0, 1) := by decide +kernel
theorem dL_isWell_45 : decode cL_isWell 45 = .ok (.bipush 9, 2) := by decide +kernel
theorem dL_isWell_47 : decode cL_isWell 47 = .ok (.invokevirtual 21, 3) := by decide +kernel
theorem dL_isWell_50 : decode cL_isWell 50 = .ok (.bipush 100, 2) := by decide +kernel
theorem dL_isWell_52 : decode cL_isWell 52 = .ok (.aload_n 0, 1) := by decide +kernel
theorem dL_isWell_53 : decode cL_isWell 53 = .ok (.bipush 6, 2) := by decide +kernel
theorem dL_isWell_55 : decode cL_isWell 55 = .ok (.invokevirtual 21, 3) := by decide +kernel
theorem dL_isWell_58 : decode cL_isWell 58 = .ok (.isub, 1) := by decide +kernel
theorem dL_isWell_59 : decode cL_isWell 59 = .ok (.if_icmp .ne 39, 3) := by decide +kernel
theorem dL_isWell_62 : decode cL_isWell 62 = .ok (.aload_n 0, 1) := by decide +kernel
theorem dL_isWell_63 : decode cL_isWell 63 = .ok (.bipush 8, 2) := by decide +kernel
theorem dL_isWell_65 : decode cL_isWell 65 = .ok (.invokevirtual 21, 3) := by decide +kernel
theorem dL_isWell_68 : decode cL_isWell 68 = .ok (.aload_n 0, 1) := by decide +kernel
theorem dL_isWell_69 : decode cL_isWell 69 = .ok (.bipush 6, 2) := by decide +kernel
theorem dL_isWell_71 : decode cL_isWell 71 = .ok (.invokevirtual 21, 3) := by decide +kernel
theorem dL_isWell_74 : decode cL_isWell 74 = .ok (.aload_n 0, 1) := by decide +kernel
theorem dL_isWell_75 : decode cL_isWell 75 = .ok (.bipush 7, 2) := by decide +kernel
theorem dL_isWell_77 : decode cL_isWell 77 = .ok (.invokevirtual 21, 3) := by decide +kernel
theorem dL_isWell_80 : decode cL_isWell 80 = .ok (.isub, 1) := by decide +kernel
theorem dL_isWell_81 : decode cL_isWell 81 = .ok (.if_icmp .ne 17, 3) := by decide +kernel
theorem dL_isWell_84 : decode cL_isWell 84 = .ok (.aload_n 0, 1) := by decide +kernel
theorem dL_isWell_85 : decode cL_isWell 85 = .ok (.iload_n 1, 1) := by decide +kernel
theorem dL_isWell_86 : decode cL_isWell 86 = .ok (.invokevirtual 73, 3) := by decide +kernel
theorem dL_isWell_89 : decode cL_isWell 89 = .ok (.bipush (-5), 2) := by decide +kernel
theorem dL_isWell_91 : decode cL_isWell 91 = .ok (.if_icmp .ne 7, 3) := by decide +kernel
theorem dL_isWell_94 : decode cL_isWell 94 = .ok (.iconst 1, 1) := by decide +kernel
theorem dL_isWell_95 : decode cL_isWell 95 = .ok (.goto 4, 3) := by decide +kernel
theorem dL_isWell_98 : decode cL_isWell 98 = .ok (.iconst 0, 1) := by decide +kernel
theorem dL_isWell_99 : decode cL_isWell 99 = .ok (.istore 6, 2) := by decide +kernel
theorem dL_isWell_101 : decode cL_isWell 101 = .ok (.iconst 0, 1) := by decide +kernel
theorem dL_isWell_102 : decode cL_isWell 102 = .ok (.istore 7, 2) := by decide +kernel
theorem dL_isWell_104 : decode cL_isWell 104 = .ok (.iload 7, 2) := by decide +kernel
theorem dL_isWell_106 : decode cL_isWell 106 = .ok (.iload_n 1, 1) := by decide +kernel
theorem dL_isWell_107 : decode cL_isWell 107 = .ok (.if_icmp .ge 491, 3) := by decide +kernel
theorem dL_isWell_110 : decode cL_isWell 110 = .ok (.iload 6, 2) := by decide +kernel
theorem dL_isWell_112 : decode cL_isWell 112 = .ok (.ifCond .eq 486, 3) := by decide +kernel
theorem dL_isWell_115 : decode cL_isWell 115 = .ok (.aload_n 0, 1) := by decide +kernel
theorem dL_isWell_116 : decode cL_isWell 116 = .ok (.iload 7, 2) := by decide +kernel
theorem dL_isWell_118 : decode cL_isWell 118 = .ok (.invokevirtual 73, 3) := by decide +kernel
theorem dL_isWell_121 : decode cL_isWell 121 = .ok (.istore 8, 2) := by decide +kernel
theorem dL_isWell_123 : decode cL_isWell 123 = .ok (.aload_n 0, 1) := by decide +kernel
theorem dL_isWell_124 : decode cL_isWell 124 = .ok (.iload 8, 2) := by decide +kernel
theorem dL_isWell_126 : decode cL_isWell 126 = .ok (.iconst 3, 1) := by decide +kernel
theorem dL_isWell_127 : decode cL_isWell 127 = .ok (.invokevirtual 25, 3) := by decide +kernel
theorem dL_isWell_130 : decode cL_isWell 130 = .ok (.istore 9, 2) := by decide +kernel
theorem dL_isWell_132 : decode cL_isWell 132 = .ok (.aload_n 0, 1) := by decide +kernel
theorem dL_isWell_133 : decode cL_isWell 133 = .ok (.iload 8, 2) := by decide +kernel
theorem dL_isWell_135 : decode cL_isWell 135 = .ok (.iconst 4, 1) := by decide +kernel
theorem dL_isWell_136 : decode cL_isWell 136 = .ok (.invokevirtual 25, 3) := by decide +kernel
theorem dL_isWell_139 : decode cL_isWell 139 = .ok (.istore 10, 2) := by decide +kernel
theorem dL_isWell_141 : decode cL_isWell 141 = .ok (.iconst 1, 1) := by decide +kernel
theorem dL_isWell_142 : decode cL_isWell 142 = .ok (.istore 11, 2) := by decide +kernel
theorem dL_isWell_144 : decode cL_isWell 144 = .ok (.iconst 0, 1) := by decide +kernel
theorem dL_isWell_145 : decode cL_isWell 145 = .ok (.istore 12, 2) := by decide +kernel
theorem dL_isWell_147 : decode cL_isWell 147 = .ok (.aload_n 0, 1) := by decide +kernel
theorem dL_isWell_148 : decode cL_isWell 148 = .ok (.iload 8, 2) := by decide +kernel
theorem dL_isWell_150 : decode cL_isWell 150 = .ok (.iconst 0, 1) := by decide +kernel
theorem dL_isWell_151 : decode cL_isWell 151 = .ok (.invokevirtual 25, 3) := by decide +kernel
theorem dL_isWell_154 : decode cL_isWell 154 = .ok (.iload 7, 2) := by decide +kernel
theorem dL_isWell_156 : decode cL_isWell 156 = .ok (.if_icmp .ne 58, 3) := by decide +kernel
theorem dL_isWell_159 : decode cL_isWell 159 = .ok (.aload_n 0, 1) := by decide +kernel
theorem dL_isWell_160 : decode cL_isWell 160 = .ok (.iload 8, 2) := by decide +kernel
theorem dL_isWell_162 : decode cL_isWell 162 = .ok (.iconst 1, 1) := by decide +kernel
theorem dL_isWell_163 : decode cL_isWell 163 = .ok (.invokevirtual 25, 3) := by decide +kernel
theorem dL_isWell_166 : decode cL_isWell 166 = .ok (.iload 7, 2) := by decide +kernel
theorem dL_isWell_168 : decode cL_isWell 168 = .ok (.iconst 4, 1) := by decide +kernel
theorem dL_isWell_169 : decode cL_isWell 169 = .ok (.idiv, 1) := by decide +kernel
theorem dL_isWell_170 : decode cL_isWell 170 = .ok (.if_icmp .ne 44, 3) := by decide +kernel
theorem dL_isWell_173 : decode cL_isWell 173 = .ok (.iload 7, 2) := by decide +kernel
theorem dL_isWell_175 : decode cL_isWell 175 = .ok (.ifCond .eq 16, 3) := by decide +kernel
theorem dL_isWell_178 : decode cL_isWell 178 = .ok (.aload_n 0, 1) := by decide +kernel
theorem dL_isWell_179 : decode cL_isWell 179 = .ok (.iload 7, 2) := by decide +kernel
theorem dL_isWell_181 : decode cL_isWell 181 = .ok (.iconst 1, 1) := by decide +kernel
theorem dL_isWell_182 : decode cL_isWell 182 = .ok (.isub, 1) := by decide +kernel
theorem dL_isWell_183 : decode cL_isWell 183 = .ok (.invokevirtual 73, 3) := by decide +kernel
theorem dL_isWell_186 : decode cL_isWell 186 = .ok (.iload 8, 2) := by decide +kernel
theorem dL_isWell_188 : decode cL_isWell 188 = .ok (.if_icmp .ge 26, 3) := by decide +kernel
theorem dL_isWell_191 : decode cL_isWell 191 = .ok (.iload 9, 2) := by decide +kernel
theorem dL_isWell_193 : decode cL_isWell 193 = .ok (.ifCond .lt 21, 3) := by decide +kernel
theorem dL_isWell_196 : decode cL_isWell 196 = .ok (.iload 9, 2) := by decide +kernel
theorem dL_isWell_198 : decode cL_isWell 198 = .ok (.iload 10, 2) := by decide +kernel
theorem dL_isWell_200 : decode cL_isWell 200 = .ok (.iadd, 1) := by decide +kernel
theorem dL_isWell_201 : decode cL_isWell 201 = .ok (.aload_n 0, 1) := by decide +kernel
theorem dL_isWell_202 : decode cL_isWell 202 = .ok (.bipush 6, 2) := by decide +kernel
theorem dL_isWell_204 : decode cL_isWell 204 = .ok (.invokevirtual 21, 3) := by decide +kernel
theorem dL_isWell_207 : decode cL_isWell 207 = .ok (.if_icmp .gt 7, 3) := by decide +kernel
theorem dL_isWell_210 : decode cL_isWell 210 = .ok (.iconst 1, 1) := by decide +kernel
theorem dL_isWell_211 : decode cL_isWell 211 = .ok (.goto 4, 3) := by decide +kernel
theorem dL_isWell_214 : decode cL_isWell 214 = .ok (.iconst 0, 1) := by decide +kernel
theorem dL_isWell_215 : decode cL_isWell 215 = .ok (.istore 6, 2) := by decide +kernel
theorem dL_isWell_217 : decode cL_isWell 217 = .ok (.iconst 0, 1) := by decide +kernel
theorem dL_isWell_218 : decode cL_isWell 218 = .ok (.istore 13, 2) := by decide +kernel
theorem dL_isWell_220 : decode cL_isWell 220 = .ok (.iload 13, 2) := by decide +kernel
theorem dL_isWell_222 : decode cL_isWell 222 = .ok (.iload_n 1, 1) := by decide +kernel
theorem dL_isWell_223 : decode cL_isWell 223 = .ok (.if_icmp .ge 194, 3) := by decide +kernel
theorem dL_isWell_226 : decode cL_isWell 226 = .ok (.iload 6, 2) := by decide +kernel
theorem dL_isWell_228 : decode cL_isWell 228 = .ok (.ifCond .eq 189, 3) := by decide +kernel
theorem dL_isWell_231 : decode cL_isWell 231 = .ok (.aload_n 0, 1) := by decide +kernel
theorem dL_isWell_232 : decode cL_isWell 232 = .ok (.iload 13, 2) := by decide +kernel
theorem dL_isWell_234 : decode cL_isWell 234 = .ok (.invokevirtual 73, 3) := by decide +kernel
theorem dL_isWell_237 : decode cL_isWell 237 = .ok (.istore 14, 2) := by decide +kernel
theorem dL_isWell_239 : decode cL_isWell 239 = .ok (.aload_n 0, 1) := by decide +kernel
theorem dL_isWell_240 : decode cL_isWell 240 = .ok (.iload 14, 2) := by decide +kernel
theorem dL_isWell_242 : decode cL_isWell 242 = .ok (.iconst 3, 1) := by decide +kernel
theorem dL_isWell_243 : decode cL_isWell 243 = .ok (.invokevirtual 25, 3) := by decide +kernel
theorem dL_isWell_246 : decode cL_isWell 246 = .ok (.istore 15, 2) := by decide +kernel
theorem dL_isWell_248 : decode cL_isWell 248 = .ok (.iload 15, 2) := by decide +kernel
theorem dL_isWell_250 : decode cL_isWell 250 = .ok (.iload 9, 2) := by decide +kernel
theorem dL_isWell_252 : decode cL_isWell 252 = .ok (.if_icmp .ne 7, 3) := by decide +kernel
theorem dL_isWell_255 : decode cL_isWell 255 = .ok (.iconst 1, 1) := by decide +kernel
theorem dL_isWell_256 : decode cL_isWell 256 = .ok (.goto 4, 3) := by decide +kernel
theorem dL_isWell_259 : decode cL_isWell 259 = .ok (.iconst 0, 1) := by decide +kernel
theorem dL_isWell_260 : decode cL_isWell 260 = .ok (.istore 16, 2) := by decide +kernel
theorem dL_isWell_262 : decode cL_isWell 262 = .ok (.iload 11, 2) := by decide +kernel
theorem dL_isWell_264 : decode cL_isWell 264 = .ok (.ifCond .eq 19, 3) := by decide +kernel
theorem dL_isWell_267 : decode cL_isWell 267 = .ok (.iload 16, 2) := by decide +kernel
theorem dL_isWell_269 : decode cL_isWell 269 = .ok (.ifCond .eq 10, 3) := by decide +kernel
theorem dL_isWell_272 : decode cL_isWell 272 = .ok (.iload 13, 2) := by decide +kernel
theorem dL_isWell_274 : decode cL_isWell 274 = .ok (.iload 7, 2) := by decide +kernel
theorem dL_isWell_276 : decode cL_isWell 276 = .ok (.if_icmp .lt 7, 3) := by decide +kernel
theorem dL_isWell_279 : decode cL_isWell 279 = .ok (.iconst 1, 1) := by decide +kernel
theorem dL_isWell_280 : decode cL_isWell 280 = .ok (.goto 4, 3) := by decide +kernel
theorem dL_isWell_283 : decode cL_isWell 283 = .ok (.iconst 0, 1) := by decide +kernel
theorem dL_isWell_284 : decode cL_isWell 284 = .ok (.istore 11, 2) := by decide +kernel
theorem dL_isWell_286 : decode cL_isWell 286 = .ok (.iload 12, 2) := by decide +kernel
theorem dL_isWell_288 : decode cL_isWell 288 = .ok (.iload 16, 2) := by decide +kernel
theorem dL_isWell_290 : decode cL_isWell 290 = .ok (.ifCond .eq 18, 3) := by decide +kernel
theorem dL_isWell_293 : decode cL_isWell 293 = .ok (.aload_n 0, 1) := by decide +kernel
theorem dL_isWell_294 : decode cL_isWell 294 = .ok (.iload 14, 2) := by decide +kernel
theorem dL_isWell_296 : decode cL_isWell 296 = .ok (.iconst 2, 1) := by decide +kernel
theorem dL_isWell_297 : decode cL_isWell 297 = .ok (.invokevirtual 25, 3) := by decide +kernel
theorem dL_isWell_300 : decode cL_isWell 300 = .ok (.iconst 1, 1) := by decide +kernel
theorem dL_isWell_301 : decode cL_isWell 301 = .ok (.if_icmp .ne 7, 3) := by decide +kernel
theorem dL_isWell_304 : decode cL_isWell 304 = .ok (.iconst 1, 1) := by decide +kernel
theorem dL_isWell_305 : decode cL_isWell 305 = .ok (.goto 4, 3) := by decide +kernel
theorem dL_isWell_308 : decode cL_isWell 308 = .ok (.iconst 0, 1) := by decide +kernel
theorem dL_isWell_309 : decode cL_isWell 309 = .ok (.iadd, 1) := by decide +kernel
theorem dL_isWell_310 : decode cL_isWell 310 = .ok (.istore 12, 2) := by decide +kernel
theorem dL_isWell_312 : decode cL_isWell 312 = .ok (.iload 16, 2) := by decide +kernel
theorem dL_isWell_314 : decode cL_isWell 314 = .ok (.ifCond .eq 65, 3) := by decide +kernel
theorem dL_isWell_317 : decode cL_isWell 317 = .ok (.aload_n 0, 1) := by decide +kernel
theorem dL_isWell_318 : decode cL_isWell 318 = .ok (.iload 14, 2) := by decide +kernel
theorem dL_isWell_320 : decode cL_isWell 320 = .ok (.iconst 4, 1) := by decide +kernel
theorem dL_isWell_321 : decode cL_isWell 321 = .ok (.invokevirtual 25, 3) := by decide +kernel
theorem dL_isWell_324 : decode cL_isWell 324 = .ok (.iload 10, 2) := by decide +kernel
theorem dL_isWell_326 : decode cL_isWell 326 = .ok (.if_icmp .ne 49, 3) := by decide +kernel
theorem dL_isWell_329 : decode cL_isWell 329 = .ok (.aload_n 0, 1) := by decide +kernel
theorem dL_isWell_330 : decode cL_isWell 330 = .ok (.iload 14, 2) := by decide +kernel
theorem dL_isWell_332 : decode cL_isWell 332 = .ok (.iconst 5, 1) := by decide +kernel
theorem dL_isWell_333 : decode cL_isWell 333 = .ok (.invokevirtual 25, 3) := by decide +kernel
theorem dL_isWell_336 : decode cL_isWell 336 = .ok (.aload_n 0, 1) := by decide +kernel
theorem dL_isWell_337 : decode cL_isWell 337 = .ok (.iload 8, 2) := by decide +kernel
theorem dL_isWell_339 : decode cL_isWell 339 = .ok (.iconst 5, 1) := by decide +kernel
theorem dL_isWell_340 : decode cL_isWell 340 = .ok (.invokevirtual 25, 3) := by decide +kernel
theorem dL_isWell_343 : decode cL_isWell 343 = .ok (.if_icmp .ne 32, 3) := by decide +kernel
theorem dL_isWell_346 : decode cL_isWell 346 = .ok (.iload 13, 2) := by decide +kernel
theorem dL_isWell_348 : decode cL_isWell 348 = .ok (.iload 7, 2) := by decide +kernel
theorem dL_isWell_350 : decode cL_isWell 350 = .ok (.if_icmp .eq 21, 3) := by decide +kernel
theorem dL_isWell_353 : decode cL_isWell 353 = .ok (.aload_n 0, 1) := by decide +kernel
theorem dL_isWell_354 : decode cL_isWell 354 = .ok (.iload 14, 2) := by decide +kernel
theorem dL_isWell_356 : decode cL_isWell 356 = .ok (.iconst 2, 1) := by decide +kernel
theorem dL_isWell_357 : decode cL_isWell 357 = .ok (.invokevirtual 25, 3) := by decide +kernel
theorem dL_isWell_360 : decode cL_isWell 360 = .ok (.aload_n 0, 1) := by decide +kernel
theorem dL_isWell_361 : decode cL_isWell 361 = .ok (.iload 8, 2) := by decide +kernel
theorem dL_isWell_363 : decode cL_isWell 363 = .ok (.iconst 2, 1) := by decide +kernel
theorem dL_isWell_364 : decode cL_isWell 364 = .ok (.invokevirtual 25, 3) := by decide +kernel
theorem dL_isWell_367 : decode cL_isWell 367 = .ok (.iadd, 1) := by decide +kernel
theorem dL_isWell_368 : decode cL_isWell 368 = .ok (.ifCond .le 7, 3) := by decide +kernel
theorem dL_isWell_371 : decode cL_isWell 371 = .ok (.iconst 1, 1) := by decide +kernel
theorem dL_isWell_372 : decode cL_isWell 372 = .ok (.goto 37, 3) := by decide +kernel
theorem dL_isWell_375 : decode cL_isWell 375 = .ok (.iconst 0, 1) := by decide +kernel
theorem dL_isWell_376 : decode cL_isWell 376 = .ok (.goto 33, 3) := by decide +kernel
theorem dL_isWell_379 : decode cL_isWell 379 = .ok (.iload 15, 2) := by decide +kernel
theorem dL_isWell_381 : decode cL_isWell 381 = .ok (.iload 9, 2) := by decide +kernel
theorem dL_isWell_383 : decode cL_isWell 383 = .ok (.iload 10, 2) := by decide +kernel
theorem dL_isWell_385 : decode cL_isWell 385 = .ok (.iadd, 1) := by decide +kernel
theorem dL_isWell_386 : decode cL_isWell 386 = .ok (.if_icmp .ge 18, 3) := by decide +kernel
theorem dL_isWell_389 : decode cL_isWell 389 = .ok (.iload 15, 2) := by decide +kernel
theorem dL_isWell_391 : decode cL_isWell 391 = .ok (.aload_n 0, 1) := by decide +kernel
theorem dL_isWell_392 : decode cL_isWell 392 = .ok (.iload 14, 2) := by decide +kernel
theorem dL_isWell_394 : decode cL_isWell 394 = .ok (.iconst 4, 1) := by decide +kernel
theorem dL_isWell_395 : decode cL_isWell 395 = .ok (.invokevirtual 25, 3) := by decide +kernel
theorem dL_isWell_398 : decode cL_isWell 398 = .ok (.iadd, 1) := by decide +kernel
theorem dL_isWell_399 : decode cL_isWell 399 = .ok (.iload 9, 2) := by decide +kernel
theorem dL_isWell_401 : decode cL_isWell 401 = .ok (.if_icmp .gt 7, 3) := by decide +kernel
theorem dL_isWell_404 : decode cL_isWell 404 = .ok (.iconst 1, 1) := by decide +kernel
theorem dL_isWell_405 : decode cL_isWell 405 = .ok (.goto 4, 3) := by decide +kernel
theorem dL_isWell_408 : decode cL_isWell 408 = .ok (.iconst 0, 1) := by decide +kernel
theorem dL_isWell_409 : decode cL_isWell 409 = .ok (.istore 6, 2) := by decide +kernel
theorem dL_isWell_411 : decode cL_isWell 411 = .ok (.iinc 13 1, 3) := by decide +kernel
theorem dL_isWell_414 : decode cL_isWell 414 = .ok (.goto (-194), 3) := by decide +kernel
theorem dL_isWell_417 : decode cL_isWell 417 = .ok (.iload 4, 2) := by decide +kernel
theorem dL_isWell_419 : decode cL_isWell 419 = .ok (.iload 11, 2) := by decide +kernel
theorem dL_isWell_421 : decode cL_isWell 421 = .ok (.ifCond .eq 7, 3) := by decide +kernel
theorem dL_isWell_424 : decode cL_isWell 424 = .ok (.iconst 1, 1) := by decide +kernel
theorem dL_isWell_425 : decode cL_isWell 425 = .ok (.goto 4, 3) := by decide +kernel
theorem dL_isWell_428 : decode cL_isWell 428 = .ok (.iconst 0, 1) := by decide +kernel
theorem dL_isWell_429 : decode cL_isWell 429 = .ok (.iadd, 1) := by decide +kernel
theorem dL_isWell_430 : decode cL_isWell 430 = .ok (.istore 4, 2) := by decide +kernel
theorem dL_isWell_432 : decode cL_isWell 432 = .ok (.iload 5, 2) := by decide +kernel
theorem dL_isWell_434 : decode cL_isWell 434 = .ok (.iload 11, 2) := by decide +kernel
theorem dL_isWell_436 : decode cL_isWell 436 = .ok (.ifCond .eq 8, 3) := by decide +kernel
theorem dL_isWell_439 : decode cL_isWell 439 = .ok (.iload 10, 2) := by decide +kernel
theorem dL_isWell_441 : decode cL_isWell 441 = .ok (.goto 4, 3) := by decide +kernel
theorem dL_isWell_444 : decode cL_isWell 444 = .ok (.iconst 0, 1) := by decide +kernel
theorem dL_isWell_445 : decode cL_isWell 445 = .ok (.iadd, 1) := by decide +kernel
theorem dL_isWell_446 : decode cL_isWell 446 = .ok (.istore 5, 2) := by decide +kernel
theorem dL_isWell_448 : decode cL_isWell 448 = .ok (.iload_n 2, 1) := by decide +kernel
theorem dL_isWell_449 : decode cL_isWell 449 = .ok (.aload_n 0, 1) := by decide +kernel
theorem dL_isWell_450 : decode cL_isWell 450 = .ok (.iload 8, 2) := by decide +kernel
theorem dL_isWell_452 : decode cL_isWell 452 = .ok (.iconst 2, 1) := by decide +kernel
theorem dL_isWell_453 : decode cL_isWell 453 = .ok (.invokevirtual 25, 3) := by decide +kernel
theorem dL_isWell_456 : decode cL_isWell 456 = .ok (.iadd, 1) := by decide +kernel
theorem dL_isWell_457 : decode cL_isWell 457 = .ok (.istore_n 2, 1) := by decide +kernel
theorem dL_isWell_458 : decode cL_isWell 458 = .ok (.iload_n 3, 1) := by decide +kernel
theorem dL_isWell_459 : decode cL_isWell 459 = .ok (.aload_n 0, 1) := by decide +kernel
theorem dL_isWell_460 : decode cL_isWell 460 = .ok (.iload 8, 2) := by decide +kernel
theorem dL_isWell_462 : decode cL_isWell 462 = .ok (.bipush 8, 2) := by decide +kernel
theorem dL_isWell_464 : decode cL_isWell 464 = .ok (.invokevirtual 25, 3) := by decide +kernel
theorem dL_isWell_467 : decode cL_isWell 467 = .ok (.iadd, 1) := by decide +kernel
theorem dL_isWell_468 : decode cL_isWell 468 = .ok (.istore_n 3, 1) := by decide +kernel
theorem dL_isWell_469 : decode cL_isWell 469 = .ok (.aload_n 0, 1) := by decide +kernel
theorem dL_isWell_470 : decode cL_isWell 470 = .ok (.iload 8, 2) := by decide +kernel
theorem dL_isWell_472 : decode cL_isWell 472 = .ok (.bipush 7, 2) := by decide +kernel
theorem dL_isWell_474 : decode cL_isWell 474 = .ok (.invokevirtual 25, 3) := by decide +kernel
theorem dL_isWell_477 : decode cL_isWell 477 = .ok (.istore 13, 2) := by decide +kernel
theorem dL_isWell_479 : decode cL_isWell 479 = .ok (.iload 6, 2) := by decide +kernel
theorem dL_isWell_481 : decode cL_isWell 481 = .ok (.ifCond .eq 108, 3) := by decide +kernel
theorem dL_isWell_484 : decode cL_isWell 484 = .ok (.aload_n 0, 1) := by decide +kernel
theorem dL_isWell_485 : decode cL_isWell 485 = .ok (.iload 8, 2) := by decide +kernel
theorem dL_isWell_487 : decode cL_isWell 487 = .ok (.bipush 6, 2) := by decide +kernel
theorem dL_isWell_489 : decode cL_isWell 489 = .ok (.invokevirtual 25, 3) := by decide +kernel
theorem dL_isWell_492 : decode cL_isWell 492 = .ok (.iload 12, 2) := by decide +kernel
theorem dL_isWell_494 : decode cL_isWell 494 = .ok (.if_icmp .ne 95, 3) := by decide +kernel
theorem dL_isWell_497 : decode cL_isWell 497 = .ok (.aload_n 0, 1) := by decide +kernel
theorem dL_isWell_498 : decode cL_isWell 498 = .ok (.iload 9, 2) := by decide +kernel
theorem dL_isWell_500 : decode cL_isWell 500 = .ok (.invokevirtual 76, 3) := by decide +kernel
theorem dL_isWell_503 : decode cL_isWell 503 = .ok (.iload 8, 2) := by decide +kernel
theorem dL_isWell_505 : decode cL_isWell 505 = .ok (.if_icmp .gt 84, 3) := by decide +kernel
theorem dL_isWell_508 : decode cL_isWell 508 = .ok (.aload_n 0, 1) := by decide +kernel
theorem dL_isWell_509 : decode cL_isWell 509 = .ok (.iload 8, 2) := by decide +kernel
theorem dL_isWell_511 : decode cL_isWell 511 = .ok (.iconst 2, 1) := by decide +kernel
theorem dL_isWell_512 : decode cL_isWell 512 = .ok (.invokevirtual 25, 3) := by decide +kernel
theorem dL_isWell_515 : decode cL_isWell 515 = .ok (.ifCond .ne 24, 3) := by decide +kernel
theorem dL_isWell_518 : decode cL_isWell 518 = .ok (.iload 13, 2) := by decide +kernel
theorem dL_isWell_520 : decode cL_isWell 520 = .ok (.bipush (-5), 2) := by decide +kernel
theorem dL_isWell_522 : decode cL_isWell 522 = .ok (.if_icmp .ne 67, 3) := by decide +kernel
theorem dL_isWell_525 : decode cL_isWell 525 = .ok (.aload_n 0, 1) := by decide +kernel
theorem dL_isWell_526 : decode cL_isWell 526 = .ok (.iload 8, 2) := by decide +kernel
theorem dL_isWell_528 : decode cL_isWell 528 = .ok (.bipush 8, 2) := by decide +kernel
theorem dL_isWell_530 : decode cL_isWell 530 = .ok (.invokevirtual 25, 3) := by decide +kernel
theorem dL_isWell_533 : decode cL_isWell 533 = .ok (.ifCond .ne 56, 3) := by decide +kernel
theorem dL_isWell_536 : decode cL_isWell 536 = .ok (.goto 49, 3) := by decide +kernel
theorem dL_isWell_539 : decode cL_isWell 539 = .ok (.aload_n 0, 1) := by decide +kernel
theorem dL_isWell_540 : decode cL_isWell 540 = .ok (.iload 8, 2) := by decide +kernel
theorem dL_isWell_542 : decode cL_isWell 542 = .ok (.bipush 8, 2) := by decide +kernel
theorem dL_isWell_544 : decode cL_isWell 544 = .ok (.invokevirtual 25, 3) := by decide +kernel
theorem dL_isWell_547 : decode cL_isWell 547 = .ok (.ifCond .ne 7, 3) := by decide +kernel
theorem dL_isWell_550 : decode cL_isWell 550 = .ok (.iconst 1, 1) := by decide +kernel
theorem dL_isWell_551 : decode cL_isWell 551 = .ok (.goto 4, 3) := by decide +kernel
theorem dL_isWell_554 : decode cL_isWell 554 = .ok (.iconst 0, 1) := by decide +kernel
theorem dL_isWell_555 : decode cL_isWell 555 = .ok (.aload_n 0, 1) := by decide +kernel
theorem dL_isWell_556 : decode cL_isWell 556 = .ok (.iload 13, 2) := by decide +kernel
theorem dL_isWell_558 : decode cL_isWell 558 = .ok (.iconst 2, 1) := by decide +kernel
theorem dL_isWell_559 : decode cL_isWell 559 = .ok (.invokevirtual 25, 3) := by decide +kernel
theorem dL_isWell_562 : decode cL_isWell 562 = .ok (.ifCond .ne 19, 3) := by decide +kernel
theorem dL_isWell_565 : decode cL_isWell 565 = .ok (.aload_n 0, 1) := by decide +kernel
theorem dL_isWell_566 : decode cL_isWell 566 = .ok (.iload 13, 2) := by decide +kernel
theorem dL_isWell_568 : decode cL_isWell 568 = .ok (.iconst 3, 1) := by decide +kernel
theorem dL_isWell_569 : decode cL_isWell 569 = .ok (.invokevirtual 25, 3) := by decide +kernel
theorem dL_isWell_572 : decode cL_isWell 572 = .ok (.iload 9, 2) := by decide +kernel
theorem dL_isWell_574 : decode cL_isWell 574 = .ok (.if_icmp .ne 7, 3) := by decide +kernel
theorem dL_isWell_577 : decode cL_isWell 577 = .ok (.iconst 1, 1) := by decide +kernel
theorem dL_isWell_578 : decode cL_isWell 578 = .ok (.goto 4, 3) := by decide +kernel
theorem dL_isWell_581 : decode cL_isWell 581 = .ok (.iconst 0, 1) := by decide +kernel
theorem dL_isWell_582 : decode cL_isWell 582 = .ok (.if_icmp .ne 7, 3) := by decide +kernel
theorem dL_isWell_585 : decode cL_isWell 585 = .ok (.iconst 1, 1) := by decide +kernel
theorem dL_isWell_586 : decode cL_isWell 586 = .ok (.goto 4, 3) := by decide +kernel
theorem dL_isWell_589 : decode cL_isWell 589 = .ok (.iconst 0, 1) := by decide +kernel
theorem dL_isWell_590 : decode cL_isWell 590 = .ok (.istore 6, 2) := by decide +kernel
theorem dL_isWell_592 : decode cL_isWell 592 = .ok (.iinc 7 1, 3) := by decide +kernel
theorem dL_isWell_595 : decode cL_isWell 595 = .ok (.goto (-491), 3) := by decide +kernel
theorem dL_isWell_598 : decode cL_isWell 598 = .ok (.iload 6, 2) := by decide +kernel
theorem dL_isWell_600 : decode cL_isWell 600 = .ok (.ifCond .eq 58, 3) := by decide +kernel
theorem dL_isWell_603 : decode cL_isWell 603 = .ok (.iload_n 2, 1) := by decide +kernel
theorem dL_isWell_604 : decode cL_isWell 604 = .ok (.aload_n 0, 1) := by decide +kernel
theorem dL_isWell_605 : decode cL_isWell 605 = .ok (.iconst 2, 1) := by decide +kernel
theorem dL_isWell_606 : decode cL_isWell 606 = .ok (.invokevirtual 21, 3) := by decide +kernel
theorem dL_isWell_609 : decode cL_isWell 609 = .ok (.if_icmp .ne 49, 3) := by decide +kernel
theorem dL_isWell_612 : decode cL_isWell 612 = .ok (.iload_n 1, 1) := by decide +kernel
theorem dL_isWell_613 : decode cL_isWell 613 = .ok (.iload_n 2, 1) := by decide +kernel
theorem dL_isWell_614 : decode cL_isWell 614 = .ok (.isub, 1) := by decide +kernel
theorem dL_isWell_615 : decode cL_isWell 615 = .ok (.aload_n 0, 1) := by decide +kernel
theorem dL_isWell_616 : decode cL_isWell 616 = .ok (.iconst 1, 1) := by decide +kernel
theorem dL_isWell_617 : decode cL_isWell 617 = .ok (.invokevirtual 21, 3) := by decide +kernel
theorem dL_isWell_620 : decode cL_isWell 620 = .ok (.if_icmp .ne 38, 3) := by decide +kernel
theorem dL_isWell_623 : decode cL_isWell 623 = .ok (.iload_n 3, 1) := by decide +kernel
theorem dL_isWell_624 : decode cL_isWell 624 = .ok (.aload_n 0, 1) := by decide +kernel
theorem dL_isWell_625 : decode cL_isWell 625 = .ok (.iconst 3, 1) := by decide +kernel
theorem dL_isWell_626 : decode cL_isWell 626 = .ok (.invokevirtual 21, 3) := by decide +kernel
theorem dL_isWell_629 : decode cL_isWell 629 = .ok (.if_icmp .ne 29, 3) := by decide +kernel
theorem dL_isWell_632 : decode cL_isWell 632 = .ok (.iload 4, 2) := by decide +kernel
theorem dL_isWell_634 : decode cL_isWell 634 = .ok (.aload_n 0, 1) := by decide +kernel
theorem dL_isWell_635 : decode cL_isWell 635 = .ok (.bipush 10, 2) := by decide +kernel
theorem dL_isWell_637 : decode cL_isWell 637 = .ok (.invokevirtual 21, 3) := by decide +kernel
theorem dL_isWell_640 : decode cL_isWell 640 = .ok (.if_icmp .ne 18, 3) := by decide +kernel
theorem dL_isWell_643 : decode cL_isWell 643 = .ok (.iload 5, 2) := by decide +kernel
theorem dL_isWell_645 : decode cL_isWell 645 = .ok (.aload_n 0, 1) := by decide +kernel
theorem dL_isWell_646 : decode cL_isWell 646 = .ok (.bipush 7, 2) := by decide +kernel
theorem dL_isWell_648 : decode cL_isWell 648 = .ok (.invokevirtual 21, 3) := by decide +kernel
theorem dL_isWell_651 : decode cL_isWell 651 = .ok (.if_icmp .ne 7, 3) := by decide +kernel
theorem dL_isWell_654 : decode cL_isWell 654 = .ok (.iconst 1, 1) := by decide +kernel
theorem dL_isWell_655 : decode cL_isWell 655 = .ok (.goto 4, 3) := by decide +kernel
theorem dL_isWell_658 : decode cL_isWell 658 = .ok (.iconst 0, 1) := by decide +kernel
theorem dL_isWell_659 : decode cL_isWell 659 = .ok (.ireturn, 1) := by decide +kernel
theorem dL_law_0 : decode cL_law 0 = .ok (.new 12, 3) := by decide +kernel
theorem dL_law_3 : decode cL_law 3 = .ok (.dup, 1) := by decide +kernel
theorem dL_law_4 : decode cL_law 4 = .ok (.invokespecial 82, 3) := by decide +kernel
theorem dL_law_7 : decode cL_law 7 = .ok (.astore_n 1, 1) := by decide +kernel
theorem dL_law_8 : decode cL_law 8 = .ok (.new 12, 3) := by decide +kernel
theorem dL_law_11 : decode cL_law 11 = .ok (.dup, 1) := by decide +kernel
theorem dL_law_12 : decode cL_law 12 = .ok (.invokespecial 82, 3) := by decide +kernel
theorem dL_law_15 : decode cL_law 15 = .ok (.astore_n 2, 1) := by decide +kernel
theorem dL_law_16 : decode cL_law 16 = .ok (.iconst 1, 1) := by decide +kernel
theorem dL_law_17 : decode cL_law 17 = .ok (.istore_n 3, 1) := by decide +kernel
theorem dL_law_18 : decode cL_law 18 = .ok (.iconst 0, 1) := by decide +kernel
theorem dL_law_19 : decode cL_law 19 = .ok (.istore 4, 2) := by decide +kernel
theorem dL_law_21 : decode cL_law 21 = .ok (.iload 4, 2) := by decide +kernel
theorem dL_law_23 : decode cL_law 23 = .ok (.bipush 52, 2) := by decide +kernel
theorem dL_law_25 : decode cL_law 25 = .ok (.if_icmp .ge 57, 3) := by decide +kernel
theorem dL_law_28 : decode cL_law 28 = .ok (.iload_n 3, 1) := by decide +kernel
theorem dL_law_29 : decode cL_law 29 = .ok (.ifCond .eq 53, 3) := by decide +kernel
theorem dL_law_32 : decode cL_law 32 = .ok (.aload_n 1, 1) := by decide +kernel
theorem dL_law_33 : decode cL_law 33 = .ok (.aload_n 2, 1) := by decide +kernel
theorem dL_law_34 : decode cL_law 34 = .ok (.aload_n 0, 1) := by decide +kernel
theorem dL_law_35 : decode cL_law 35 = .ok (.iload 4, 2) := by decide +kernel
theorem dL_law_37 : decode cL_law 37 = .ok (.invokestatic 83, 3) := by decide +kernel
theorem dL_law_40 : decode cL_law 40 = .ok (.aload_n 0, 1) := by decide +kernel
theorem dL_law_41 : decode cL_law 41 = .ok (.iload 4, 2) := by decide +kernel
theorem dL_law_43 : decode cL_law 43 = .ok (.iconst 1, 1) := by decide +kernel
theorem dL_law_44 : decode cL_law 44 = .ok (.iadd, 1) := by decide +kernel
theorem dL_law_45 : decode cL_law 45 = .ok (.invokestatic 83, 3) := by decide +kernel
theorem dL_law_48 : decode cL_law 48 = .ok (.iconst 2, 1) := by decide +kernel
theorem dL_law_49 : decode cL_law 49 = .ok (.ishr, 1) := by decide +kernel
theorem dL_law_50 : decode cL_law 50 = .ok (.invokestatic 87, 3) := by decide +kernel
theorem dL_law_53 : decode cL_law 53 = .ok (.ifCond .eq 21, 3) := by decide +kernel
theorem dL_law_56 : decode cL_law 56 = .ok (.iload 4, 2) := by decide +kernel
theorem dL_law_58 : decode cL_law 58 = .ok (.iconst 3, 1) := by decide +kernel
theorem dL_law_59 : decode cL_law 59 = .ok (.irem, 1) := by decide +kernel
theorem dL_law_60 : decode cL_law 60 = .ok (.ifCond .gt 10, 3) := by decide +kernel
theorem dL_law_63 : decode cL_law 63 = .ok (.aload_n 1, 1) := by decide +kernel
theorem dL_law_64 : decode cL_law 64 = .ok (.invokestatic 91, 3) := by decide +kernel
theorem dL_law_67 : decode cL_law 67 = .ok (.ifCond .eq 7, 3) := by decide +kernel
theorem dL_law_70 : decode cL_law 70 = .ok (.iconst 1, 1) := by decide +kernel
theorem dL_law_71 : decode cL_law 71 = .ok (.goto 4, 3) := by decide +kernel
theorem dL_law_74 : decode cL_law 74 = .ok (.iconst 0, 1) := by decide +kernel
theorem dL_law_75 : decode cL_law 75 = .ok (.istore_n 3, 1) := by decide +kernel
theorem dL_law_76 : decode cL_law 76 = .ok (.iinc 4 1, 3) := by decide +kernel
theorem dL_law_79 : decode cL_law 79 = .ok (.goto (-58), 3) := by decide +kernel
theorem dL_law_82 : decode cL_law 82 = .ok (.iload_n 3, 1) := by decide +kernel
theorem dL_law_83 : decode cL_law 83 = .ok (.ifCond .eq 22, 3) := by decide +kernel
theorem dL_law_86 : decode cL_law 86 = .ok (.aload_n 1, 1) := by decide +kernel
theorem dL_law_87 : decode cL_law 87 = .ok (.invokestatic 91, 3) := by decide +kernel
theorem dL_law_90 : decode cL_law 90 = .ok (.ifCond .eq 15, 3) := by decide +kernel
theorem dL_law_93 : decode cL_law 93 = .ok (.aload_n 1, 1) := by decide +kernel
theorem dL_law_94 : decode cL_law 94 = .ok (.aload_n 2, 1) := by decide +kernel
theorem dL_law_95 : decode cL_law 95 = .ok (.invokestatic 95, 3) := by decide +kernel
theorem dL_law_98 : decode cL_law 98 = .ok (.ifCond .eq 7, 3) := by decide +kernel
theorem dL_law_101 : decode cL_law 101 = .ok (.iconst 1, 1) := by decide +kernel
theorem dL_law_102 : decode cL_law 102 = .ok (.goto 4, 3) := by decide +kernel
theorem dL_law_105 : decode cL_law 105 = .ok (.iconst 0, 1) := by decide +kernel
theorem dL_law_106 : decode cL_law 106 = .ok (.ireturn, 1) := by decide +kernel
