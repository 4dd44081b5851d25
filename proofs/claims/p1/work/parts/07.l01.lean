theorem dL_law_517 : decode cL_law 517 = .ok (.aload_n 1, 1) := by decide +kernel
theorem dL_law_518 : decode cL_law 518 = .ok (.aload_n 0, 1) := by decide +kernel
theorem dL_law_519 : decode cL_law 519 = .ok (.iload_n 3, 1) := by decide +kernel
theorem dL_law_520 : decode cL_law 520 = .ok (.iconst 1, 1) := by decide +kernel
theorem dL_law_521 : decode cL_law 521 = .ok (.iadd, 1) := by decide +kernel
theorem dL_law_522 : decode cL_law 522 = .ok (.iaload, 1) := by decide +kernel
theorem dL_law_523 : decode cL_law 523 = .ok (.invokevirtual 55, 3) := by decide +kernel
theorem dL_law_526 : decode cL_law 526 = .ok (.aload_n 2, 1) := by decide +kernel
theorem dL_law_527 : decode cL_law 527 = .ok (.aload_n 0, 1) := by decide +kernel
theorem dL_law_528 : decode cL_law 528 = .ok (.iload_n 3, 1) := by decide +kernel
theorem dL_law_529 : decode cL_law 529 = .ok (.iconst 1, 1) := by decide +kernel
theorem dL_law_530 : decode cL_law 530 = .ok (.iadd, 1) := by decide +kernel
theorem dL_law_531 : decode cL_law 531 = .ok (.iaload, 1) := by decide +kernel
theorem dL_law_532 : decode cL_law 532 = .ok (.invokevirtual 58, 3) := by decide +kernel
theorem dL_law_535 : decode cL_law 535 = .ok (.if_icmp .eq 805, 3) := by decide +kernel
theorem dL_law_540 : decode cL_law 540 = .ok (.aload_n 1, 1) := by decide +kernel
theorem dL_law_541 : decode cL_law 541 = .ok (.aload_n 0, 1) := by decide +kernel
theorem dL_law_542 : decode cL_law 542 = .ok (.iload_n 3, 1) := by decide +kernel
theorem dL_law_543 : decode cL_law 543 = .ok (.iconst 1, 1) := by decide +kernel
theorem dL_law_544 : decode cL_law 544 = .ok (.iadd, 1) := by decide +kernel
theorem dL_law_545 : decode cL_law 545 = .ok (.iaload, 1) := by decide +kernel
theorem dL_law_546 : decode cL_law 546 = .ok (.invokevirtual 59, 3) := by decide +kernel
theorem dL_law_549 : decode cL_law 549 = .ok (.aload_n 2, 1) := by decide +kernel
theorem dL_law_550 : decode cL_law 550 = .ok (.aload_n 0, 1) := by decide +kernel
theorem dL_law_551 : decode cL_law 551 = .ok (.iload_n 3, 1) := by decide +kernel
theorem dL_law_552 : decode cL_law 552 = .ok (.iconst 1, 1) := by decide +kernel
theorem dL_law_553 : decode cL_law 553 = .ok (.iadd, 1) := by decide +kernel
theorem dL_law_554 : decode cL_law 554 = .ok (.iaload, 1) := by decide +kernel
theorem dL_law_555 : decode cL_law 555 = .ok (.invokevirtual 62, 3) := by decide +kernel
theorem dL_law_558 : decode cL_law 558 = .ok (.if_icmp .eq 782, 3) := by decide +kernel
theorem dL_law_563 : decode cL_law 563 = .ok (.aload_n 1, 1) := by decide +kernel
theorem dL_law_564 : decode cL_law 564 = .ok (.aload_n 0, 1) := by decide +kernel
theorem dL_law_565 : decode cL_law 565 = .ok (.iload_n 3, 1) := by decide +kernel
theorem dL_law_566 : decode cL_law 566 = .ok (.iconst 1, 1) := by decide +kernel
theorem dL_law_567 : decode cL_law 567 = .ok (.iadd, 1) := by decide +kernel
theorem dL_law_568 : decode cL_law 568 = .ok (.iaload, 1) := by decide +kernel
theorem dL_law_569 : decode cL_law 569 = .ok (.invokevirtual 63, 3) := by decide +kernel
theorem dL_law_572 : decode cL_law 572 = .ok (.aload_n 2, 1) := by decide +kernel
theorem dL_law_573 : decode cL_law 573 = .ok (.aload_n 0, 1) := by decide +kernel
theorem dL_law_574 : decode cL_law 574 = .ok (.iload_n 3, 1) := by decide +kernel
theorem dL_law_575 : decode cL_law 575 = .ok (.iconst 1, 1) := by decide +kernel
theorem dL_law_576 : decode cL_law 576 = .ok (.iadd, 1) := by decide +kernel
theorem dL_law_577 : decode cL_law 577 = .ok (.iaload, 1) := by decide +kernel
theorem dL_law_578 : decode cL_law 578 = .ok (.invokevirtual 66, 3) := by decide +kernel
theorem dL_law_581 : decode cL_law 581 = .ok (.if_icmp .eq 759, 3) := by decide +kernel
theorem dL_law_586 : decode cL_law 586 = .ok (.aload_n 1, 1) := by decide +kernel
theorem dL_law_587 : decode cL_law 587 = .ok (.aload_n 0, 1) := by decide +kernel
theorem dL_law_588 : decode cL_law 588 = .ok (.iload_n 3, 1) := by decide +kernel
theorem dL_law_589 : decode cL_law 589 = .ok (.iconst 1, 1) := by decide +kernel
theorem dL_law_590 : decode cL_law 590 = .ok (.iadd, 1) := by decide +kernel
theorem dL_law_591 : decode cL_law 591 = .ok (.iaload, 1) := by decide +kernel
theorem dL_law_592 : decode cL_law 592 = .ok (.invokevirtual 67, 3) := by decide +kernel
theorem dL_law_595 : decode cL_law 595 = .ok (.aload_n 2, 1) := by decide +kernel
theorem dL_law_596 : decode cL_law 596 = .ok (.aload_n 0, 1) := by decide +kernel
theorem dL_law_597 : decode cL_law 597 = .ok (.iload_n 3, 1) := by decide +kernel
theorem dL_law_598 : decode cL_law 598 = .ok (.iconst 1, 1) := by decide +kernel
theorem dL_law_599 : decode cL_law 599 = .ok (.iadd, 1) := by decide +kernel
theorem dL_law_600 : decode cL_law 600 = .ok (.iaload, 1) := by decide +kernel
theorem dL_law_601 : decode cL_law 601 = .ok (.invokevirtual 70, 3) := by decide +kernel
theorem dL_law_604 : decode cL_law 604 = .ok (.if_icmp .eq 736, 3) := by decide +kernel
theorem dL_law_609 : decode cL_law 609 = .ok (.aload_n 1, 1) := by decide +kernel
theorem dL_law_610 : decode cL_law 610 = .ok (.aload_n 0, 1) := by decide +kernel
theorem dL_law_611 : decode cL_law 611 = .ok (.iload_n 3, 1) := by decide +kernel
theorem dL_law_612 : decode cL_law 612 = .ok (.iconst 1, 1) := by decide +kernel
theorem dL_law_613 : decode cL_law 613 = .ok (.iadd, 1) := by decide +kernel
theorem dL_law_614 : decode cL_law 614 = .ok (.iaload, 1) := by decide +kernel
theorem dL_law_615 : decode cL_law 615 = .ok (.invokevirtual 71, 3) := by decide +kernel
theorem dL_law_618 : decode cL_law 618 = .ok (.aload_n 2, 1) := by decide +kernel
theorem dL_law_619 : decode cL_law 619 = .ok (.aload_n 0, 1) := by decide +kernel
theorem dL_law_620 : decode cL_law 620 = .ok (.iload_n 3, 1) := by decide +kernel
theorem dL_law_621 : decode cL_law 621 = .ok (.iconst 1, 1) := by decide +kernel
theorem dL_law_622 : decode cL_law 622 = .ok (.iadd, 1) := by decide +kernel
theorem dL_law_623 : decode cL_law 623 = .ok (.iaload, 1) := by decide +kernel
theorem dL_law_624 : decode cL_law 624 = .ok (.invokevirtual 74, 3) := by decide +kernel
theorem dL_law_627 : decode cL_law 627 = .ok (.if_icmp .eq 713, 3) := by decide +kernel
theorem dL_law_632 : decode cL_law 632 = .ok (.aload_n 1, 1) := by decide +kernel
theorem dL_law_633 : decode cL_law 633 = .ok (.aload_n 0, 1) := by decide +kernel
theorem dL_law_634 : decode cL_law 634 = .ok (.iload_n 3, 1) := by decide +kernel
theorem dL_law_635 : decode cL_law 635 = .ok (.iconst 1, 1) := by decide +kernel
theorem dL_law_636 : decode cL_law 636 = .ok (.iadd, 1) := by decide +kernel
theorem dL_law_637 : decode cL_law 637 = .ok (.iaload, 1) := by decide +kernel
theorem dL_law_638 : decode cL_law 638 = .ok (.invokevirtual 75, 3) := by decide +kernel
theorem dL_law_641 : decode cL_law 641 = .ok (.aload_n 2, 1) := by decide +kernel
theorem dL_law_642 : decode cL_law 642 = .ok (.aload_n 0, 1) := by decide +kernel
theorem dL_law_643 : decode cL_law 643 = .ok (.iload_n 3, 1) := by decide +kernel
theorem dL_law_644 : decode cL_law 644 = .ok (.iconst 1, 1) := by decide +kernel
theorem dL_law_645 : decode cL_law 645 = .ok (.iadd, 1) := by decide +kernel
theorem dL_law_646 : decode cL_law 646 = .ok (.iaload, 1) := by decide +kernel
theorem dL_law_647 : decode cL_law 647 = .ok (.invokevirtual 78, 3) := by decide +kernel
theorem dL_law_650 : decode cL_law 650 = .ok (.if_icmp .eq 690, 3) := by decide +kernel
theorem dL_law_655 : decode cL_law 655 = .ok (.aload_n 1, 1) := by decide +kernel
theorem dL_law_656 : decode cL_law 656 = .ok (.invokevirtual 79, 3) := by decide +kernel
theorem dL_law_659 : decode cL_law 659 = .ok (.aload_n 2, 1) := by decide +kernel
theorem dL_law_660 : decode cL_law 660 = .ok (.invokevirtual 82, 3) := by decide +kernel
theorem dL_law_663 : decode cL_law 663 = .ok (.if_icmp .eq 677, 3) := by decide +kernel
theorem dL_law_668 : decode cL_law 668 = .ok (.aload_n 1, 1) := by decide +kernel
theorem dL_law_669 : decode cL_law 669 = .ok (.aload_n 0, 1) := by decide +kernel
theorem dL_law_670 : decode cL_law 670 = .ok (.iload_n 3, 1) := by decide +kernel
theorem dL_law_671 : decode cL_law 671 = .ok (.iconst 1, 1) := by decide +kernel
theorem dL_law_672 : decode cL_law 672 = .ok (.iadd, 1) := by decide +kernel
theorem dL_law_673 : decode cL_law 673 = .ok (.iaload, 1) := by decide +kernel
theorem dL_law_674 : decode cL_law 674 = .ok (.invokevirtual 83, 3) := by decide +kernel
theorem dL_law_677 : decode cL_law 677 = .ok (.aload_n 2, 1) := by decide +kernel
theorem dL_law_678 : decode cL_law 678 = .ok (.aload_n 0, 1) := by decide +kernel
theorem dL_law_679 : decode cL_law 679 = .ok (.iload_n 3, 1) := by decide +kernel
theorem dL_law_680 : decode cL_law 680 = .ok (.iconst 1, 1) := by decide +kernel
theorem dL_law_681 : decode cL_law 681 = .ok (.iadd, 1) := by decide +kernel
theorem dL_law_682 : decode cL_law 682 = .ok (.iaload, 1) := by decide +kernel
theorem dL_law_683 : decode cL_law 683 = .ok (.invokevirtual 86, 3) := by decide +kernel
theorem dL_law_686 : decode cL_law 686 = .ok (.if_icmp .eq 654, 3) := by decide +kernel
theorem dL_law_691 : decode cL_law 691 = .ok (.aload_n 1, 1) := by decide +kernel
theorem dL_law_692 : decode cL_law 692 = .ok (.invokevirtual 87, 3) := by decide +kernel
theorem dL_law_695 : decode cL_law 695 = .ok (.aload_n 2, 1) := by decide +kernel
theorem dL_law_696 : decode cL_law 696 = .ok (.invokevirtual 90, 3) := by decide +kernel
theorem dL_law_699 : decode cL_law 699 = .ok (.if_icmp .eq 641, 3) := by decide +kernel
theorem dL_law_704 : decode cL_law 704 = .ok (.aload_n 1, 1) := by decide +kernel
theorem dL_law_705 : decode cL_law 705 = .ok (.aload_n 0, 1) := by decide +kernel
theorem dL_law_706 : decode cL_law 706 = .ok (.iload_n 3, 1) := by decide +kernel
theorem dL_law_707 : decode cL_law 707 = .ok (.iconst 1, 1) := by decide +kernel
theorem dL_law_708 : decode cL_law 708 = .ok (.iadd, 1) := by decide +kernel
theorem dL_law_709 : decode cL_law 709 = .ok (.iaload, 1) := by decide +kernel
theorem dL_law_710 : decode cL_law 710 = .ok (.invokevirtual 91, 3) := by decide +kernel
theorem dL_law_713 : decode cL_law 713 = .ok (.aload_n 2, 1) := by decide +kernel
theorem dL_law_714 : decode cL_law 714 = .ok (.aload_n 0, 1) := by decide +kernel
theorem dL_law_715 : decode cL_law 715 = .ok (.iload_n 3, 1) := by decide +kernel
theorem dL_law_716 : decode cL_law 716 = .ok (.iconst 1, 1) := by decide +kernel
theorem dL_law_717 : decode cL_law 717 = .ok (.iadd, 1) := by decide +kernel
theorem dL_law_718 : decode cL_law 718 = .ok (.iaload, 1) := by decide +kernel
theorem dL_law_719 : decode cL_law 719 = .ok (.invokevirtual 94, 3) := by decide +kernel
theorem dL_law_722 : decode cL_law 722 = .ok (.if_icmp .eq 618, 3) := by decide +kernel
theorem dL_law_727 : decode cL_law 727 = .ok (.aload_n 1, 1) := by decide +kernel
theorem dL_law_728 : decode cL_law 728 = .ok (.aload_n 0, 1) := by decide +kernel
theorem dL_law_729 : decode cL_law 729 = .ok (.iload_n 3, 1) := by decide +kernel
theorem dL_law_730 : decode cL_law 730 = .ok (.iconst 1, 1) := by decide +kernel
theorem dL_law_731 : decode cL_law 731 = .ok (.iadd, 1) := by decide +kernel
theorem dL_law_732 : decode cL_law 732 = .ok (.iaload, 1) := by decide +kernel
theorem dL_law_733 : decode cL_law 733 = .ok (.invokevirtual 95, 3) := by decide +kernel
theorem dL_law_736 : decode cL_law 736 = .ok (.aload_n 2, 1) := by decide +kernel
theorem dL_law_737 : decode cL_law 737 = .ok (.aload_n 0, 1) := by decide +kernel
theorem dL_law_738 : decode cL_law 738 = .ok (.iload_n 3, 1) := by decide +kernel
theorem dL_law_739 : decode cL_law 739 = .ok (.iconst 1, 1) := by decide +kernel
theorem dL_law_740 : decode cL_law 740 = .ok (.iadd, 1) := by decide +kernel
theorem dL_law_741 : decode cL_law 741 = .ok (.iaload, 1) := by decide +kernel
theorem dL_law_742 : decode cL_law 742 = .ok (.invokevirtual 98, 3) := by decide +kernel
theorem dL_law_745 : decode cL_law 745 = .ok (.if_icmp .eq 595, 3) := by decide +kernel
theorem dL_law_750 : decode cL_law 750 = .ok (.aload_n 1, 1) := by decide +kernel
theorem dL_law_751 : decode cL_law 751 = .ok (.aload_n 0, 1) := by decide +kernel
theorem dL_law_752 : decode cL_law 752 = .ok (.iload_n 3, 1) := by decide +kernel
theorem dL_law_753 : decode cL_law 753 = .ok (.iconst 1, 1) := by decide +kernel
theorem dL_law_754 : decode cL_law 754 = .ok (.iadd, 1) := by decide +kernel
theorem dL_law_755 : decode cL_law 755 = .ok (.iaload, 1) := by decide +kernel
theorem dL_law_756 : decode cL_law 756 = .ok (.invokevirtual 99, 3) := by decide +kernel
theorem dL_law_759 : decode cL_law 759 = .ok (.aload_n 2, 1) := by decide +kernel
theorem dL_law_760 : decode cL_law 760 = .ok (.aload_n 0, 1) := by decide +kernel
theorem dL_law_761 : decode cL_law 761 = .ok (.iload_n 3, 1) := by decide +kernel
theorem dL_law_762 : decode cL_law 762 = .ok (.iconst 1, 1) := by decide +kernel
theorem dL_law_763 : decode cL_law 763 = .ok (.iadd, 1) := by decide +kernel
theorem dL_law_764 : decode cL_law 764 = .ok (.iaload, 1) := by decide +kernel
theorem dL_law_765 : decode cL_law 765 = .ok (.invokevirtual 102, 3) := by decide +kernel
theorem dL_law_768 : decode cL_law 768 = .ok (.if_icmp .eq 572, 3) := by decide +kernel
theorem dL_law_773 : decode cL_law 773 = .ok (.aload_n 1, 1) := by decide +kernel
theorem dL_law_774 : decode cL_law 774 = .ok (.aload_n 0, 1) := by decide +kernel
theorem dL_law_775 : decode cL_law 775 = .ok (.iload_n 3, 1) := by decide +kernel
theorem dL_law_776 : decode cL_law 776 = .ok (.iconst 1, 1) := by decide +kernel
theorem dL_law_777 : decode cL_law 777 = .ok (.iadd, 1) := by decide +kernel
theorem dL_law_778 : decode cL_law 778 = .ok (.iaload, 1) := by decide +kernel
theorem dL_law_779 : decode cL_law 779 = .ok (.invokevirtual 103, 3) := by decide +kernel
theorem dL_law_782 : decode cL_law 782 = .ok (.aload_n 2, 1) := by decide +kernel
theorem dL_law_783 : decode cL_law 783 = .ok (.aload_n 0, 1) := by decide +kernel
theorem dL_law_784 : decode cL_law 784 = .ok (.iload_n 3, 1) := by decide +kernel
theorem dL_law_785 : decode cL_law 785 = .ok (.iconst 1, 1) := by decide +kernel
theorem dL_law_786 : decode cL_law 786 = .ok (.iadd, 1) := by decide +kernel
theorem dL_law_787 : decode cL_law 787 = .ok (.iaload, 1) := by decide +kernel
theorem dL_law_788 : decode cL_law 788 = .ok (.invokevirtual 106, 3) := by decide +kernel
theorem dL_law_791 : decode cL_law 791 = .ok (.if_icmp .eq 549, 3) := by decide +kernel
theorem dL_law_796 : decode cL_law 796 = .ok (.aload_n 1, 1) := by decide +kernel
theorem dL_law_797 : decode cL_law 797 = .ok (.aload_n 0, 1) := by decide +kernel
theorem dL_law_798 : decode cL_law 798 = .ok (.iload_n 3, 1) := by decide +kernel
theorem dL_law_799 : decode cL_law 799 = .ok (.iconst 1, 1) := by decide +kernel
theorem dL_law_800 : decode cL_law 800 = .ok (.iadd, 1) := by decide +kernel
theorem dL_law_801 : decode cL_law 801 = .ok (.iaload, 1) := by decide +kernel
theorem dL_law_802 : decode cL_law 802 = .ok (.aload_n 0, 1) := by decide +kernel
theorem dL_law_803 : decode cL_law 803 = .ok (.iload_n 3, 1) := by decide +kernel
theorem dL_law_804 : decode cL_law 804 = .ok (.iconst 2, 1) := by decide +kernel
theorem dL_law_805 : decode cL_law 805 = .ok (.iadd, 1) := by decide +kernel
theorem dL_law_806 : decode cL_law 806 = .ok (.iaload, 1) := by decide +kernel
theorem dL_law_807 : decode cL_law 807 = .ok (.invokevirtual 107, 3) := by decide +kernel
theorem dL_law_810 : decode cL_law 810 = .ok (.aload_n 2, 1) := by decide +kernel
theorem dL_law_811 : decode cL_law 811 = .ok (.aload_n 0, 1) := by decide +kernel
theorem dL_law_812 : decode cL_law 812 = .ok (.iload_n 3, 1) := by decide +kernel
theorem dL_law_813 : decode cL_law 813 = .ok (.iconst 1, 1) := by decide +kernel
theorem dL_law_814 : decode cL_law 814 = .ok (.iadd, 1) := by decide +kernel
theorem dL_law_815 : decode cL_law 815 = .ok (.iaload, 1) := by decide +kernel
theorem dL_law_816 : decode cL_law 816 = .ok (.aload_n 0, 1) := by decide +kernel
theorem dL_law_817 : decode cL_law 817 = .ok (.iload_n 3, 1) := by decide +kernel
theorem dL_law_818 : decode cL_law 818 = .ok (.iconst 2, 1) := by decide +kernel
theorem dL_law_819 : decode cL_law 819 = .ok (.iadd, 1) := by decide +kernel
theorem dL_law_820 : decode cL_law 820 = .ok (.iaload, 1) := by decide +kernel
theorem dL_law_821 : decode cL_law 821 = .ok (.invokevirtual 110, 3) := by decide +kernel
theorem dL_law_824 : decode cL_law 824 = .ok (.if_icmp .eq 516, 3) := by decide +kernel
theorem dL_law_829 : decode cL_law 829 = .ok (.aload_n 1, 1) := by decide +kernel
theorem dL_law_830 : decode cL_law 830 = .ok (.invokevirtual 111, 3) := by decide +kernel
theorem dL_law_833 : decode cL_law 833 = .ok (.aload_n 2, 1) := by decide +kernel
theorem dL_law_834 : decode cL_law 834 = .ok (.invokevirtual 114, 3) := by decide +kernel
theorem dL_law_837 : decode cL_law 837 = .ok (.if_icmp .eq 503, 3) := by decide +kernel
theorem dL_law_842 : decode cL_law 842 = .ok (.aload_n 1, 1) := by decide +kernel
theorem dL_law_843 : decode cL_law 843 = .ok (.aload_n 0, 1) := by decide +kernel
theorem dL_law_844 : decode cL_law 844 = .ok (.iload_n 3, 1) := by decide +kernel
theorem dL_law_845 : decode cL_law 845 = .ok (.iconst 1, 1) := by decide +kernel
theorem dL_law_846 : decode cL_law 846 = .ok (.iadd, 1) := by decide +kernel
theorem dL_law_847 : decode cL_law 847 = .ok (.iaload, 1) := by decide +kernel
theorem dL_law_848 : decode cL_law 848 = .ok (.aload_n 0, 1) := by decide +kernel
theorem dL_law_849 : decode cL_law 849 = .ok (.iload_n 3, 1) := by decide +kernel
theorem dL_law_850 : decode cL_law 850 = .ok (.iconst 2, 1) := by decide +kernel
theorem dL_law_851 : decode cL_law 851 = .ok (.iadd, 1) := by decide +kernel
theorem dL_law_852 : decode cL_law 852 = .ok (.iaload, 1) := by decide +kernel
theorem dL_law_853 : decode cL_law 853 = .ok (.invokevirtual 115, 3) := by decide +kernel
theorem dL_law_856 : decode cL_law 856 = .ok (.aload_n 2, 1) := by decide +kernel
theorem dL_law_857 : decode cL_law 857 = .ok (.aload_n 0, 1) := by decide +kernel
theorem dL_law_858 : decode cL_law 858 = .ok (.iload_n 3, 1) := by decide +kernel
theorem dL_law_859 : decode cL_law 859 = .ok (.iconst 1, 1) := by decide +kernel
theorem dL_law_860 : decode cL_law 860 = .ok (.iadd, 1) := by decide +kernel
theorem dL_law_861 : decode cL_law 861 = .ok (.iaload, 1) := by decide +kernel
theorem dL_law_862 : decode cL_law 862 = .ok (.aload_n 0, 1) := by decide +kernel
theorem dL_law_863 : decode cL_law 863 = .ok (.iload_n 3, 1) := by decide +kernel
theorem dL_law_864 : decode cL_law 864 = .ok (.iconst 2, 1) := by decide +kernel
theorem dL_law_865 : decode cL_law 865 = .ok (.iadd, 1) := by decide +kernel
theorem dL_law_866 : decode cL_law 866 = .ok (.iaload, 1) := by decide +kernel
theorem dL_law_867 : decode cL_law 867 = .ok (.invokevirtual 119, 3) := by decide +kernel
theorem dL_law_870 : decode cL_law 870 = .ok (.lcmp, 1) := by decide +kernel
theorem dL_law_871 : decode cL_law 871 = .ok (.ifCond .eq 469, 3) := by decide +kernel
set_option maxHeartbeats 8000000 in
set_option maxRecDepth 100000 in
theorem zl_case_9 {p : Program} {e : Env} {s : State} {m : MethodId} {below : List Frame} {meth : Method} {c : Code} (l : Launch) {b : Nat} {xs : Nat → Int32} (C0 : lw_At p s m meth c b 6 xs) (D : va_G) (y : Nat → ClassId) (a0 : Nat) (a1 : Nat) (w2 : Value) (w3 : Value) (w4 : Value) (a5 : Nat) (w6 : Value) (w7 : Value) (a8 : Nat) (w9 : Value) (w10 : Value) (w11 : Value) (w12 : Value) (w13 : Value) (w14 : Value) (w15 : Value) (w16 : Value) (w17 : Value) (w18 : Value) (w19 : Value) (a20 : Nat) (w21 : Value) (w22 : Value) (w23 : Value) (w24 : Value) (w25 : Value) (w26 : Value) (w27 : Value) (w28 : Value) (w29 : Value) (w30 : Value) (w31 : Value) (w32 : Value) (w33 : Value) (w34 : Value) (w35 : Value) (w36 : Value) (w37 : Value) (w38 : Value) (a39 : Nat) (w40 : Value) (w41 : Value) (w42 : Value) (w43 : Value) (w44 : Value) (w45 : Value) (w46 : Value) (w47 : Value) (w48 : Value) (w49 : Value) (w50 : Value) (w51 : Value) (w52 : Value) (w53 : Value) (w54 : Value) (w55 : Value) (w56 : Value) (w57 : Value) (w58 : Value) (w59 : Value) (w60 : Value) (w61 : Value) (w62 : Value) (w63 : Value) (w64 : Value) (w65 : Value) (w66 : Value) (w67 : Value) (w68 : Value) (w69 : Value) (w70 : Value) (w71 : Value) (w72 : Value) (w73 : Value) (w74 : Value) (w75 : Value) (w76 : Value) (w77 : Value) (w78 : Value) (w79 : Value) (w80 : Value) (w81 : Value) (w82 : Value) (w83 : Value) (w84 : Value) (w85 : Value) (w86 : Value) (w87 : Value) (w88 : Value) (w89 : Value) (w90 : Value) (w91 : Value) (w92 : Value) (a93 : Nat) (hK : zK D y s) (hE : zE y (fun q : Nat => s.heap.size ≤ q) s s.heap) {H : Heap} {locs : List Loc} {ls : Array Slot} (hS : va_S (fun q : Nat => s.heap.size ≤ q) s.heap H locs) (hW : zPD D (fun q : Nat => s.heap.size ≤ q) [(a0, .inr (8, [w2, w3, w4, .ref a5, w6, w7, .ref a8, w9, w10])), (a1, .inr (9, [.int 0, .int 0, .int 0, .int 20, w11, w12, w13, w14, w15, w16, w17, w18, w19, .ref a20, w21, .int (-1), w22, w23, w24, w25, w26, w27, w28, w29, w30, w31, w32, w33, w34, w35, w36, w37, .int 0, w38, .ref a39, w40, w41, w42, w43, w44, w45, w46, w47, w48, w49, w50, w51, w52, w53, w54, w55, w56, w57, w58, w59, w60, w61, w62, w63, w64, w65, w66, w67, w68, w69, w70, w71, w72, w73, w74, w75, w76, w77, w78, w79, w80])), (a5, .inr (6, [w81, .int 0, .int 20, .int 0, .int 0, .int 0, w82, w83, w84, w85, w86, w87])), (a8, .inr (1, [.ref a5, .int 0, .int 0, w88, w89, w90, w91, w92, .ref a93])), (a20, .inl (y 2, 7, .inl (fun _ => 0))), (a39, .inl (y 0, 7, .inl (fun _ => 0))), (a93, .inl (y 2, 4, .inl (fun _ => 0)))] H) (hl : lv_has ls 4 [(3, .int 0), (2, .ref a1), (1, .ref a0), (0, .ref b)]) : W p l e room_1 s m #[Value.ref b] below meth c H locs 1000 20000 (lw_Z below #[Value.ref b] s) (F0 m 517 ls []) := by
  obtain ⟨hx, hb, hr, hml, hown, hts, hX, hbl, hlocks, hgv⟩ := id C0
  have ht : ∀ w ∈ zT, w.before #[Value.ref b] s = true := fun w h => hts w (zgin w h).1
  have hown : s.vm.findClass RL = some m.cls := hown
  have hA : ∀ q : Nat, s.heap.size ≤ q → (fun q : Nat => s.heap.size ≤ q) q := fun _ h => h
  have hbA : ¬ (fun q : Nat => s.heap.size ≤ q) b := Nat.not_le.mpr hbl
  refine lv_aload_n hx hb dL_law_517 rfl (lv_at hl 2 rfl) ?_
  refine lv_aload_n hx hb dL_law_518 rfl (lv_at hl 3 rfl) ?_
  refine lv_iload_n hx hb dL_law_519 rfl (lv_at hl 0 rfl) ?_
  refine lv_iconst (v := 1) hx hb dL_law_520 (by decide) ?_
  refine lv_iadd hx hb dL_law_521 ?_
  refine ztop (w := .int 1) (congrArg Value.int (by decide)) ?_
  refine va_sld hx hb hX hbl hbA hS (by unfold vp_in; decide) dL_law_522 ?_
  refine ztop (w := .int (xs 1)) rfl ?_
  refine zgo_i (wr := [(a1, .inr (9, [.int 0, .int 0, .int 0, .int 20, w11, w12, w13, w14, w15, w16, w17, w18, w19, .ref a20, w21, .int (-1), w22, w23, w24, w25, w26, w27, w28, w29, w30, w31, w32, w33, w34, w35, w36, w37, .int 0, w38, .ref a39, w40, w41, w42, w43, w44, w45, w46, w47, w48, w49, w50, w51, w52, w53, w54, w55, w56, w57, w58, w59, w60, w61, w62, w63, w64, w65, w66, w67, w68, w69, w70, w71, w72, w73, w74, w75, w76, w77, w78, w79, w80])), (a20, .inl (y 2, 7, .inl (fun _ => 0))), (a39, .inl (y 0, 7, .inl (fun _ => 0)))]) (zrunV (As := [.int (xs 1)]) (rest := []) ⟨hx, hb, hml, hown, ht⟩ (zc_X9_pass_0 l D y a0 (xs 1) w2 w3 w4 a5 w6 w7 a8 w9 w10 w81 w82 w83 w84 w85 w86 w87 w88 w89 w90 w91 w92 a93) (cwV 1 ht (zgV zm_718 zm_719 zm_720 zm_2 zm_721) rfl rfl rfl (by decide +kernel) ⟨(Nat.le_of_ble_eq_true rfl), (Nat.le_of_ble_eq_true rfl)⟩) hK hE hS hA hW [0, 2, 3, 6] (by decide) rfl 0 rfl rfl rfl rfl hl.1 rfl (Nat.le_of_ble_eq_true rfl) dL_law_523 (Nat.le_of_ble_eq_true rfl) (Nat.le_of_ble_eq_true rfl)) hS hA hW [0, 2, 3, 6] [1, 4, 5] rfl rfl (by decide) (by decide) (fun r1_ u H locs hw hW hS => ?_)
  have hW : zPD D _ [(a1, .inr (9, [.int 0, .int 0, .int 0, .int 20, w11, w12, w13, w14, w15, w16, w17, w18, w19, .ref a20, w21, .int (-1), w22, w23, w24, w25, w26, w27, w28, w29, w30, w31, w32, w33, w34, w35, w36, w37, .int 0, w38, .ref a39, w40, w41, w42, w43, w44, w45, w46, w47, w48, w49, w50, w51, w52, w53, w54, w55, w56, w57, w58, w59, w60, w61, w62, w63, w64, w65, w66, w67, w68, w69, w70, w71, w72, w73, w74, w75, w76, w77, w78, w79, w80])), (a20, .inl (y 2, 7, .inl (fun _ => 0))), (a39, .inl (y 0, 7, .inl (fun _ => 0)))] H := hW
  have hw : r1_ = (if (xs 1) < 0 then (-2) else (if 99 < (xs 1) then (-2) else 0)) := hw
  by_cases c2_ : (xs 1) < 0
  · have b3_ : (-2147483648) ≤ Int32.toInt (xs 1) ∧ Int32.toInt (xs 1) ≤ (-1) := (by have u0 := zbnd (xs 1); have u1 := (zi_lt _ _).mp c2_; have u2 : (0 : Int32).toInt = 0 := (by decide); omega)
    rw [if_pos c2_] at hw
    subst hw
    refine lv_aload_n hx hb dL_law_526 rfl (lv_at hl 1 rfl) ?_
    refine lv_aload_n hx hb dL_law_527 rfl (lv_at hl 3 rfl) ?_
    refine lv_iload_n hx hb dL_law_528 rfl (lv_at hl 0 rfl) ?_
    refine lv_iconst (v := 1) hx hb dL_law_529 (by decide) ?_
    refine lv_iadd hx hb dL_law_530 ?_
    refine ztop (w := .int 1) (congrArg Value.int (by decide)) ?_
    refine va_sld hx hb hX hbl hbA hS (by unfold vp_in; decide) dL_law_531 ?_
    refine ztop (w := .int (xs 1)) rfl ?_
    refine zgo_i (wr := []) (zrunV (As := [.int (xs 1)]) (rest := [.int (-2)]) ⟨hx, hb, hml, hown, ht⟩ (zc_X10_pass_0 l D y a1 (xs 1) w11 w12 w13 w14 w15 w16 w17 w18 w19 a20 w21 w22 w23 w24 w25 w26 w27 w28 w29 w30 w31 w32 w33 w34 w35 w36 w37 w38 a39 w40 w41 w42 w43 w44 w45 w46 w47 w48 w49 w50 w51 w52 w53 w54 w55 w56 w57 w58 w59 w60 w61 w62 w63 w64 w65 w66 w67 w68 w69 w70 w71 w72 w73 w74 w75 w76 w77 w78 w79 w80) (cwV 1 ht (zgV zm_737 zm_738 zm_739 zm_5 zm_740) rfl rfl rfl (by decide +kernel) ⟨(Nat.le_of_ble_eq_true rfl), (Nat.le_of_ble_eq_true rfl)⟩) hK hE hS hA hW [0, 1, 2] (by decide) rfl 0 rfl rfl rfl rfl hl.1 rfl (Nat.le_of_ble_eq_true rfl) dL_law_532 (Nat.le_of_ble_eq_true rfl) (Nat.le_of_ble_eq_true rfl)) hS hA hW [0, 1, 2] [] rfl rfl (by decide) (by decide) (fun r4_ u H locs hw hW hS => ?_)
    have hW : zPD D _ [] H := hW
    have hw : r4_ = (if (xs 1) < 0 then (-2) else (if 99 < (xs 1) then (-2) else 0)) := hw
    rw [if_pos c2_] at hw
    subst hw
    refine lv_icmp_eq (tgt := 1340) hx hb dL_law_535 (by decide) (fun c5_ => ?_) (fun c5_ => absurd (by decide) c5_)
    exact zl_end l C0 hS (lv_sub hl [0, 3] rfl)
  · have b6_ : 0 ≤ Int32.toInt (xs 1) ∧ Int32.toInt (xs 1) ≤ 2147483647 := (by have u0 := zbnd (xs 1); have u1 := (not_congr (zi_lt _ _)).mp c2_; have u2 : (0 : Int32).toInt = 0 := (by decide); omega)
    rw [if_neg c2_] at hw
    by_cases c7_ : 99 < (xs 1)
    · have b8_ : 100 ≤ Int32.toInt (xs 1) ∧ Int32.toInt (xs 1) ≤ 2147483647 := (by have u0 := b6_; have u1 := (zi_lt _ _).mp c7_; have u2 : (99 : Int32).toInt = 99 := (by decide); omega)
      rw [if_pos c7_] at hw
      subst hw
      refine lv_aload_n hx hb dL_law_526 rfl (lv_at hl 1 rfl) ?_
      refine lv_aload_n hx hb dL_law_527 rfl (lv_at hl 3 rfl) ?_
      refine lv_iload_n hx hb dL_law_528 rfl (lv_at hl 0 rfl) ?_
      refine lv_iconst (v := 1) hx hb dL_law_529 (by decide) ?_
      refine lv_iadd hx hb dL_law_530 ?_
      refine ztop (w := .int 1) (congrArg Value.int (by decide)) ?_
      refine va_sld hx hb hX hbl hbA hS (by unfold vp_in; decide) dL_law_531 ?_
      refine ztop (w := .int (xs 1)) rfl ?_
      refine zgo_i (wr := []) (zrunV (As := [.int (xs 1)]) (rest := [.int (-2)]) ⟨hx, hb, hml, hown, ht⟩ (zc_X10_pass_0 l D y a1 (xs 1) w11 w12 w13 w14 w15 w16 w17 w18 w19 a20 w21 w22 w23 w24 w25 w26 w27 w28 w29 w30 w31 w32 w33 w34 w35 w36 w37 w38 a39 w40 w41 w42 w43 w44 w45 w46 w47 w48 w49 w50 w51 w52 w53 w54 w55 w56 w57 w58 w59 w60 w61 w62 w63 w64 w65 w66 w67 w68 w69 w70 w71 w72 w73 w74 w75 w76 w77 w78 w79 w80) (cwV 1 ht (zgV zm_737 zm_738 zm_739 zm_5 zm_740) rfl rfl rfl (by decide +kernel) ⟨(Nat.le_of_ble_eq_true rfl), (Nat.le_of_ble_eq_true rfl)⟩) hK hE hS hA hW [0, 1, 2] (by decide) rfl 0 rfl rfl rfl rfl hl.1 rfl (Nat.le_of_ble_eq_true rfl) dL_law_532 (Nat.le_of_ble_eq_true rfl) (Nat.le_of_ble_eq_true rfl)) hS hA hW [0, 1, 2] [] rfl rfl (by decide) (by decide) (fun r9_ u H locs hw hW hS => ?_)
      have hW : zPD D _ [] H := hW
      have hw : r9_ = (if (xs 1) < 0 then (-2) else (if 99 < (xs 1) then (-2) else 0)) := hw
      rw [if_neg c2_] at hw
      rw [if_pos c7_] at hw
      subst hw
      refine lv_icmp_eq (tgt := 1340) hx hb dL_law_535 (by decide) (fun c10_ => ?_) (fun c10_ => absurd (by decide) c10_)
      exact zl_end l C0 hS (lv_sub hl [0, 3] rfl)
    · have b11_ : 0 ≤ Int32.toInt (xs 1) ∧ Int32.toInt (xs 1) ≤ 99 := (by have u0 := b6_; have u1 := (not_congr (zi_lt _ _)).mp c7_; have u2 : (99 : Int32).toInt = 99 := (by decide); omega)
      rw [if_neg c7_] at hw
      subst hw
      refine lv_aload_n hx hb dL_law_526 rfl (lv_at hl 1 rfl) ?_
      refine lv_aload_n hx hb dL_law_527 rfl (lv_at hl 3 rfl) ?_
      refine lv_iload_n hx hb dL_law_528 rfl (lv_at hl 0 rfl) ?_
      refine lv_iconst (v := 1) hx hb dL_law_529 (by decide) ?_
      refine lv_iadd hx hb dL_law_530 ?_
      refine ztop (w := .int 1) (congrArg Value.int (by decide)) ?_
      refine va_sld hx hb hX hbl hbA hS (by unfold vp_in; decide) dL_law_531 ?_
      refine ztop (w := .int (xs 1)) rfl ?_
      refine zgo_i (wr := []) (zrunV (As := [.int (xs 1)]) (rest := [.int 0]) ⟨hx, hb, hml, hown, ht⟩ (zc_X10_pass_0 l D y a1 (xs 1) w11 w12 w13 w14 w15 w16 w17 w18 w19 a20 w21 w22 w23 w24 w25 w26 w27 w28 w29 w30 w31 w32 w33 w34 w35 w36 w37 w38 a39 w40 w41 w42 w43 w44 w45 w46 w47 w48 w49 w50 w51 w52 w53 w54 w55 w56 w57 w58 w59 w60 w61 w62 w63 w64 w65 w66 w67 w68 w69 w70 w71 w72 w73 w74 w75 w76 w77 w78 w79 w80) (cwV 1 ht (zgV zm_737 zm_738 zm_739 zm_5 zm_740) rfl rfl rfl (by decide +kernel) ⟨(Nat.le_of_ble_eq_true rfl), (Nat.le_of_ble_eq_true rfl)⟩) hK hE hS hA hW [0, 1, 2] (by decide) rfl 0 rfl rfl rfl rfl hl.1 rfl (Nat.le_of_ble_eq_true rfl) dL_law_532 (Nat.le_of_ble_eq_true rfl) (Nat.le_of_ble_eq_true rfl)) hS hA hW [0, 1, 2] [] rfl rfl (by decide) (by decide) (fun r12_ u H locs hw hW hS => ?_)
      have hW : zPD D _ [] H := hW
      have hw : r12_ = (if (xs 1) < 0 then (-2) else (if 99 < (xs 1) then (-2) else 0)) := hw
      rw [if_neg c2_] at hw
      rw [if_neg c7_] at hw
      subst hw
      refine lv_icmp_eq (tgt := 1340) hx hb dL_law_535 (by decide) (fun c13_ => ?_) (fun c13_ => absurd (by decide) c13_)
      exact zl_end l C0 hS (lv_sub hl [0, 3] rfl)
set_option maxHeartbeats 8000000 in
set_option maxRecDepth 100000 in
theorem zl_case_10 {p : Program} {e : Env} {s : State} {m : MethodId} {below : List Frame} {meth : Method} {c : Code} (l : Launch) {b : Nat} {xs : Nat → Int32} (C0 : lw_At p s m meth c b 6 xs) (D : va_G) (y : Nat → ClassId) (a0 : Nat) (a1 : Nat) (w2 : Value) (w3 : Value) (w4 : Value) (a5 : Nat) (w6 : Value) (w7 : Value) (w8 : Value) (w9 : Value) (w10 : Value) (w11 : Value) (w12 : Value) (w13 : Value) (w14 : Value) (w15 : Value) (w16 : Value) (w17 : Value) (w18 : Value) (w19 : Value) (w20 : Value) (w21 : Value) (w22 : Value) (w23 : Value) (w24 : Value) (w25 : Value) (w26 : Value) (w27 : Value) (w28 : Value) (w29 : Value) (w30 : Value) (w31 : Value) (w32 : Value) (w33 : Value) (w34 : Value) (w35 : Value) (w36 : Value) (w37 : Value) (w38 : Value) (w39 : Value) (w40 : Value) (w41 : Value) (w42 : Value) (w43 : Value) (w44 : Value) (w45 : Value) (w46 : Value) (w47 : Value) (w48 : Value) (w49 : Value) (w50 : Value) (w51 : Value) (w52 : Value) (w53 : Value) (w54 : Value) (w55 : Value) (w56 : Value) (w57 : Value) (w58 : Value) (w59 : Value) (w60 : Value) (w61 : Value) (w62 : Value) (w63 : Value) (w64 : Value) (w65 : Value) (w66 : Value) (w67 : Value) (w68 : Value) (w69 : Value) (w70 : Value) (w71 : Value) (w72 : Value) (w73 : Value) (w74 : Value) (w75 : Value) (w76 : Value) (w77 : Value) (w78 : Value) (w79 : Value) (w80 : Value) (w81 : Value) (w82 : Value) (w83 : Value) (w84 : Value) (w85 : Value) (w86 : Value) (w87 : Value) (w88 : Value) (w89 : Value) (w90 : Value) (w91 : Value) (w92 : Value) (w93 : Value) (w94 : Value) (w95 : Value) (w96 : Value) (hK : zK D y s) (hE : zE y (fun q : Nat => s.heap.size ≤ q) s s.heap) {H : Heap} {locs : List Loc} {ls : Array Slot} (hS : va_S (fun q : Nat => s.heap.size ≤ q) s.heap H locs) (hW : zPD D (fun q : Nat => s.heap.size ≤ q) [(a0, .inr (8, [w2, w3, w4, .ref a5, w6, w7, w8, w9, w10])), (a1, .inr (9, [.int 0, w11, w12, w13, w14, w15, w16, w17, w18, w19, w20, w21, w22, w23, w24, w25, w26, w27, w28, w29, w30, w31, w32, w33, w34, w35, w36, w37, w38, w39, w40, w41, w42, w43, w44, w45, w46, w47, w48, w49, w50, w51, w52, w53, w54, w55, w56, w57, w58, w59, w60, w61, w62, w63, w64, w65, w66, w67, w68, w69, w70, w71, w72, w73, w74, w75, w76, w77, w78, w79, w80, w81, w82, w83, w84, w85])), (a5, .inr (6, [w86, .int 0, w87, w88, w89, w90, w91, w92, w93, w94, w95, w96]))] H) (hl : lv_has ls 4 [(3, .int 0), (2, .ref a1), (1, .ref a0), (0, .ref b)]) : W p l e room_1 s m #[Value.ref b] below meth c H locs 1000 20000 (lw_Z below #[Value.ref b] s) (F0 m 540 ls []) := by
  obtain ⟨hx, hb, hr, hml, hown, hts, hX, hbl, hlocks, hgv⟩ := id C0
  have ht : ∀ w ∈ zT, w.before #[Value.ref b] s = true := fun w h => hts w (zgin w h).1
  have hown : s.vm.findClass RL = some m.cls := hown
  have hA : ∀ q : Nat, s.heap.size ≤ q → (fun q : Nat => s.heap.size ≤ q) q := fun _ h => h
  have hbA : ¬ (fun q : Nat => s.heap.size ≤ q) b := Nat.not_le.mpr hbl
  refine lv_aload_n hx hb dL_law_540 rfl (lv_at hl 2 rfl) ?_
  refine lv_aload_n hx hb dL_law_541 rfl (lv_at hl 3 rfl) ?_
  refine lv_iload_n hx hb dL_law_542 rfl (lv_at hl 0 rfl) ?_
  refine lv_iconst (v := 1) hx hb dL_law_543 (by decide) ?_
  refine lv_iadd hx hb dL_law_544 ?_
  refine ztop (w := .int 1) (congrArg Value.int (by decide)) ?_
  refine va_sld hx hb hX hbl hbA hS (by unfold vp_in; decide) dL_law_545 ?_
  refine ztop (w := .int (xs 1)) rfl ?_
  refine zgo_i (wr := [(a1, .inr (9, [.int 0, w11, w12, w13, w14, w15, w16, w17, w18, w19, w20, w21, w22, w23, w24, w25, w26, w27, w28, w29, w30, w31, w32, w33, w34, w35, w36, w37, w38, w39, w40, w41, w42, w43, w44, w45, w46, w47, w48, w49, w50, w51, w52, w53, w54, w55, w56, w57, w58, w59, w60, w61, w62, w63, w64, w65, w66, w67, w68, w69, w70, w71, w72, w73, w74, w75, w76, w77, w78, w79, w80, w81, w82, w83, w84, w85]))]) (zrunV (As := [.int (xs 1)]) (rest := []) ⟨hx, hb, hml, hown, ht⟩ (zc_X9_shut_0 l D y a0 (xs 1) w2 w3 w4 a5 w6 w7 w8 w9 w10 w86 w87 w88 w89 w90 w91 w92 w93 w94 w95 w96) (cwV 1 ht (zgV zm_754 zm_755 zm_756 zm_2 zm_757) rfl rfl rfl (by decide +kernel) ⟨(Nat.le_of_ble_eq_true rfl), (Nat.le_of_ble_eq_true rfl)⟩) hK hE hS hA hW [0, 2] (by decide) rfl 0 rfl rfl rfl rfl hl.1 rfl (Nat.le_of_ble_eq_true rfl) dL_law_546 (Nat.le_of_ble_eq_true rfl) (Nat.le_of_ble_eq_true rfl)) hS hA hW [0, 2] [1] rfl rfl (by decide) (by decide) (fun r1_ u H locs hw hW hS => ?_)
  have hW : zPD D _ [(a1, .inr (9, [.int 0, w11, w12, w13, w14, w15, w16, w17, w18, w19, w20, w21, w22, w23, w24, w25, w26, w27, w28, w29, w30, w31, w32, w33, w34, w35, w36, w37, w38, w39, w40, w41, w42, w43, w44, w45, w46, w47, w48, w49, w50, w51, w52, w53, w54, w55, w56, w57, w58, w59, w60, w61, w62, w63, w64, w65, w66, w67, w68, w69, w70, w71, w72, w73, w74, w75, w76, w77, w78, w79, w80, w81, w82, w83, w84, w85]))] H := hW
  have hw : r1_ = (-1) := hw
  subst hw
  refine lv_aload_n hx hb dL_law_549 rfl (lv_at hl 1 rfl) ?_
  refine lv_aload_n hx hb dL_law_550 rfl (lv_at hl 3 rfl) ?_
  refine lv_iload_n hx hb dL_law_551 rfl (lv_at hl 0 rfl) ?_
  refine lv_iconst (v := 1) hx hb dL_law_552 (by decide) ?_
  refine lv_iadd hx hb dL_law_553 ?_
  refine ztop (w := .int 1) (congrArg Value.int (by decide)) ?_
  refine va_sld hx hb hX hbl hbA hS (by unfold vp_in; decide) dL_law_554 ?_
  refine ztop (w := .int (xs 1)) rfl ?_
  refine zgo_i (wr := []) (zrunV (As := [.int (xs 1)]) (rest := [.int (-1)]) ⟨hx, hb, hml, hown, ht⟩ (zc_X10_shut_0 l D y a1 (xs 1) w11 w12 w13 w14 w15 w16 w17 w18 w19 w20 w21 w22 w23 w24 w25 w26 w27 w28 w29 w30 w31 w32 w33 w34 w35 w36 w37 w38 w39 w40 w41 w42 w43 w44 w45 w46 w47 w48 w49 w50 w51 w52 w53 w54 w55 w56 w57 w58 w59 w60 w61 w62 w63 w64 w65 w66 w67 w68 w69 w70 w71 w72 w73 w74 w75 w76 w77 w78 w79 w80 w81 w82 w83 w84 w85) (cwV 1 ht (zgV zm_763 zm_764 zm_765 zm_5 zm_766) rfl rfl rfl (by decide +kernel) ⟨(Nat.le_of_ble_eq_true rfl), (Nat.le_of_ble_eq_true rfl)⟩) hK hE hS hA hW [0] (by decide) rfl 0 rfl rfl rfl rfl hl.1 rfl (Nat.le_of_ble_eq_true rfl) dL_law_555 (Nat.le_of_ble_eq_true rfl) (Nat.le_of_ble_eq_true rfl)) hS hA hW [0] [] rfl rfl (by decide) (by decide) (fun r2_ u H locs hw hW hS => ?_)
  have hW : zPD D _ [] H := hW
  have hw : r2_ = (-1) := hw
  subst hw
  refine lv_icmp_eq (tgt := 1340) hx hb dL_law_558 (by decide) (fun c3_ => ?_) (fun c3_ => absurd (by decide) c3_)
  exact zl_end l C0 hS (lv_sub hl [0, 3] rfl)
set_option maxHeartbeats 8000000 in
set_option maxRecDepth 100000 in
theorem zl_case_11 {p : Program} {e : Env} {s : State} {m : MethodId} {below : List Frame} {meth : Method} {c : Code} (l : Launch) {b : Nat} {xs : Nat → Int32} (C0 : lw_At p s m meth c b 6 xs) (D : va_G) (y : Nat → ClassId) (a0 : Nat) (a1 : Nat) (w2 : Value) (w3 : Value) (w4 : Value) (a5 : Nat) (w6 : Value) (w7 : Value) (a8 : Nat) (w9 : Value) (w10 : Value) (w11 : Value) (w12 : Value) (w13 : Value) (w14 : Value) (w15 : Value) (w16 : Value) (w17 : Value) (w18 : Value) (w19 : Value) (w20 : Value) (a21 : Nat) (w22 : Value) (w23 : Value) (w24 : Value) (w25 : Value) (w26 : Value) (w27 : Value) (w28 : Value) (w29 : Value) (w30 : Value) (w31 : Value) (w32 : Value) (w33 : Value) (w34 : Value) (w35 : Value) (w36 : Value) (w37 : Value) (w38 : Value) (w39 : Value) (a40 : Nat) (w41 : Value) (w42 : Value) (w43 : Value) (w44 : Value) (w45 : Value) (w46 : Value) (w47 : Value) (w48 : Value) (w49 : Value) (w50 : Value) (w51 : Value) (w52 : Value) (w53 : Value) (w54 : Value) (w55 : Value) (w56 : Value) (w57 : Value) (w58 : Value) (w59 : Value) (w60 : Value) (w61 : Value) (w62 : Value) (w63 : Value) (w64 : Value) (w65 : Value) (w66 : Value) (w67 : Value) (w68 : Value) (w69 : Value) (w70 : Value) (w71 : Value) (w72 : Value) (w73 : Value) (w74 : Value) (w75 : Value) (w76 : Value) (w77 : Value) (w78 : Value) (w79 : Value) (w80 : Value) (w81 : Value) (w82 : Value) (w83 : Value) (w84 : Value) (w85 : Value) (w86 : Value) (w87 : Value) (w88 : Value) (w89 : Value) (w90 : Value) (w91 : Value) (w92 : Value) (w93 : Value) (a94 : Nat) (hK : zK D y s) (hE : zE y (fun q : Nat => s.heap.size ≤ q) s s.heap) {H : Heap} {locs : List Loc} {ls : Array Slot} (hS : va_S (fun q : Nat => s.heap.size ≤ q) s.heap H locs) (hW : zPD D (fun q : Nat => s.heap.size ≤ q) [(a0, .inr (8, [w2, w3, w4, .ref a5, w6, w7, .ref a8, w9, w10])), (a1, .inr (9, [.int 0, .int 0, w11, .int 20, w12, w13, w14, w15, w16, w17, w18, w19, w20, .ref a21, w22, .int (-1), w23, w24, w25, w26, w27, w28, w29, w30, w31, w32, w33, w34, w35, w36, w37, w38, .int 0, w39, .ref a40, w41, w42, w43, w44, w45, w46, w47, w48, w49, w50, w51, w52, w53, w54, w55, w56, w57, w58, w59, w60, w61, w62, w63, w64, w65, w66, w67, w68, w69, w70, w71, w72, w73, w74, w75, w76, w77, w78, w79, w80, w81])), (a5, .inr (6, [w82, .int 0, .int 20, .int 0, .int 0, .int 0, w83, w84, w85, w86, w87, w88])), (a8, .inr (1, [.ref a5, .int 0, .int 0, w89, w90, w91, w92, w93, .ref a94])), (a21, .inl (y 2, 7, .inl (fun _ => 0))), (a40, .inl (y 0, 7, .inl (fun _ => 0))), (a94, .inl (y 2, 4, .inl (fun _ => 0)))] H) (hl : lv_has ls 4 [(3, .int 0), (2, .ref a1), (1, .ref a0), (0, .ref b)]) : W p l e room_1 s m #[Value.ref b] below meth c H locs 1000 20000 (lw_Z below #[Value.ref b] s) (F0 m 563 ls []) := by
  obtain ⟨hx, hb, hr, hml, hown, hts, hX, hbl, hlocks, hgv⟩ := id C0
  have ht : ∀ w ∈ zT, w.before #[Value.ref b] s = true := fun w h => hts w (zgin w h).1
  have hown : s.vm.findClass RL = some m.cls := hown
  have hA : ∀ q : Nat, s.heap.size ≤ q → (fun q : Nat => s.heap.size ≤ q) q := fun _ h => h
  have hbA : ¬ (fun q : Nat => s.heap.size ≤ q) b := Nat.not_le.mpr hbl
  refine lv_aload_n hx hb dL_law_563 rfl (lv_at hl 2 rfl) ?_
  refine lv_aload_n hx hb dL_law_564 rfl (lv_at hl 3 rfl) ?_
  refine lv_iload_n hx hb dL_law_565 rfl (lv_at hl 0 rfl) ?_
  refine lv_iconst (v := 1) hx hb dL_law_566 (by decide) ?_
  refine lv_iadd hx hb dL_law_567 ?_
  refine ztop (w := .int 1) (congrArg Value.int (by decide)) ?_
  refine va_sld hx hb hX hbl hbA hS (by unfold vp_in; decide) dL_law_568 ?_
  refine ztop (w := .int (xs 1)) rfl ?_
  refine zgo_i (wr := [(a1, .inr (9, [.int 0, .int 0, w11, .int 20, w12, w13, w14, w15, w16, w17, w18, w19, w20, .ref a21, w22, .int (-1), w23, w24, w25, w26, w27, w28, w29, w30, w31, w32, w33, w34, w35, w36, w37, w38, .int 0, w39, .ref a40, w41, w42, w43, w44, w45, w46, w47, w48, w49, w50, w51, w52, w53, w54, w55, w56, w57, w58, w59, w60, w61, w62, w63, w64, w65, w66, w67, w68, w69, w70, w71, w72, w73, w74, w75, w76, w77, w78, w79, w80, w81])), (a21, .inl (y 2, 7, .inl (fun _ => 0))), (a40, .inl (y 0, 7, .inl (fun _ => 0)))]) (zrunV (As := [.int (xs 1)]) (rest := []) ⟨hx, hb, hml, hown, ht⟩ (zc_X9_on_0 l D y a0 (xs 1) w2 w3 w4 a5 w6 w7 a8 w9 w10 w82 w83 w84 w85 w86 w87 w88 w89 w90 w91 w92 w93 a94) (cwV 1 ht (zgV zm_771 zm_772 zm_773 zm_2 zm_774) rfl rfl rfl (by decide +kernel) ⟨(Nat.le_of_ble_eq_true rfl), (Nat.le_of_ble_eq_true rfl)⟩) hK hE hS hA hW [0, 2, 3, 6] (by decide) rfl 0 rfl rfl rfl rfl hl.1 rfl (Nat.le_of_ble_eq_true rfl) dL_law_569 (Nat.le_of_ble_eq_true rfl) (Nat.le_of_ble_eq_true rfl)) hS hA hW [0, 2, 3, 6] [1, 4, 5] rfl rfl (by decide) (by decide) (fun r1_ u H locs hw hW hS => ?_)
  have hW : zPD D _ [(a1, .inr (9, [.int 0, .int 0, w11, .int 20, w12, w13, w14, w15, w16, w17, w18, w19, w20, .ref a21, w22, .int (-1), w23, w24, w25, w26, w27, w28, w29, w30, w31, w32, w33, w34, w35, w36, w37, w38, .int 0, w39, .ref a40, w41, w42, w43, w44, w45, w46, w47, w48, w49, w50, w51, w52, w53, w54, w55, w56, w57, w58, w59, w60, w61, w62, w63, w64, w65, w66, w67, w68, w69, w70, w71, w72, w73, w74, w75, w76, w77, w78, w79, w80, w81])), (a21, .inl (y 2, 7, .inl (fun _ => 0))), (a40, .inl (y 0, 7, .inl (fun _ => 0)))] H := hW
  have hw : r1_ = (if (xs 1) < 0 then (-2) else (if 99 < (xs 1) then (-2) else 0)) := hw
  by_cases c2_ : (xs 1) < 0
  · have b3_ : (-2147483648) ≤ Int32.toInt (xs 1) ∧ Int32.toInt (xs 1) ≤ (-1) := (by have u0 := zbnd (xs 1); have u1 := (zi_lt _ _).mp c2_; have u2 : (0 : Int32).toInt = 0 := (by decide); omega)
    rw [if_pos c2_] at hw
    subst hw
    refine lv_aload_n hx hb dL_law_572 rfl (lv_at hl 1 rfl) ?_
    refine lv_aload_n hx hb dL_law_573 rfl (lv_at hl 3 rfl) ?_
    refine lv_iload_n hx hb dL_law_574 rfl (lv_at hl 0 rfl) ?_
    refine lv_iconst (v := 1) hx hb dL_law_575 (by decide) ?_
    refine lv_iadd hx hb dL_law_576 ?_
    refine ztop (w := .int 1) (congrArg Value.int (by decide)) ?_
    refine va_sld hx hb hX hbl hbA hS (by unfold vp_in; decide) dL_law_577 ?_
    refine ztop (w := .int (xs 1)) rfl ?_
    refine zgo_i (wr := []) (zrunV (As := [.int (xs 1)]) (rest := [.int (-2)]) ⟨hx, hb, hml, hown, ht⟩ (zc_X10_on_0 l D y a1 (xs 1) w11 w12 w13 w14 w15 w16 w17 w18 w19 w20 a21 w22 w23 w24 w25 w26 w27 w28 w29 w30 w31 w32 w33 w34 w35 w36 w37 w38 w39 a40 w41 w42 w43 w44 w45 w46 w47 w48 w49 w50 w51 w52 w53 w54 w55 w56 w57 w58 w59 w60 w61 w62 w63 w64 w65 w66 w67 w68 w69 w70 w71 w72 w73 w74 w75 w76 w77 w78 w79 w80 w81) (cwV 1 ht (zgV zm_775 zm_776 zm_777 zm_5 zm_778) rfl rfl rfl (by decide +kernel) ⟨(Nat.le_of_ble_eq_true rfl), (Nat.le_of_ble_eq_true rfl)⟩) hK hE hS hA hW [0, 1, 2] (by decide) rfl 0 rfl rfl rfl rfl hl.1 rfl (Nat.le_of_ble_eq_true rfl) dL_law_578 (Nat.le_of_ble_eq_true rfl) (Nat.le_of_ble_eq_true rfl)) hS hA hW [0, 1, 2] [] rfl rfl (by decide) (by decide) (fun r4_ u H locs hw hW hS => ?_)
    have hW : zPD D _ [] H := hW
    have hw : r4_ = (if (xs 1) < 0 then (-2) else (if 99 < (xs 1) then (-2) else 0)) := hw
    rw [if_pos c2_] at hw
    subst hw
    refine lv_icmp_eq (tgt := 1340) hx hb dL_law_581 (by decide) (fun c5_ => ?_) (fun c5_ => absurd (by decide) c5_)
    exact zl_end l C0 hS (lv_sub hl [0, 3] rfl)
  · have b6_ : 0 ≤ Int32.toInt (xs 1) ∧ Int32.toInt (xs 1) ≤ 2147483647 := (by have u0 := zbnd (xs 1); have u1 := (not_congr (zi_lt _ _)).mp c2_; have u2 : (0 : Int32).toInt = 0 := (by decide); omega)
    rw [if_neg c2_] at hw
    by_cases c7_ : 99 < (xs 1)
    · have b8_ : 100 ≤ Int32.toInt (xs 1) ∧ Int32.toInt (xs 1) ≤ 2147483647 := (by have u0 := b6_; have u1 := (zi_lt _ _).mp c7_; have u2 : (99 : Int32).toInt = 99 := (by decide); omega)
      rw [if_pos c7_] at hw
      subst hw
      refine lv_aload_n hx hb dL_law_572 rfl (lv_at hl 1 rfl) ?_
      refine lv_aload_n hx hb dL_law_573 rfl (lv_at hl 3 rfl) ?_
      refine lv_iload_n hx hb dL_law_574 rfl (lv_at hl 0 rfl) ?_
      refine lv_iconst (v := 1) hx hb dL_law_575 (by decide) ?_
      refine lv_iadd hx hb dL_law_576 ?_
      refine ztop (w := .int 1) (congrArg Value.int (by decide)) ?_
      refine va_sld hx hb hX hbl hbA hS (by unfold vp_in; decide) dL_law_577 ?_
      refine ztop (w := .int (xs 1)) rfl ?_
      refine zgo_i (wr := []) (zrunV (As := [.int (xs 1)]) (rest := [.int (-2)]) ⟨hx, hb, hml, hown, ht⟩ (zc_X10_on_0 l D y a1 (xs 1) w11 w12 w13 w14 w15 w16 w17 w18 w19 w20 a21 w22 w23 w24 w25 w26 w27 w28 w29 w30 w31 w32 w33 w34 w35 w36 w37 w38 w39 a40 w41 w42 w43 w44 w45 w46 w47 w48 w49 w50 w51 w52 w53 w54 w55 w56 w57 w58 w59 w60 w61 w62 w63 w64 w65 w66 w67 w68 w69 w70 w71 w72 w73 w74 w75 w76 w77 w78 w79 w80 w81) (cwV 1 ht (zgV zm_775 zm_776 zm_777 zm_5 zm_778) rfl rfl rfl (by decide +kernel) ⟨(Nat.le_of_ble_eq_true rfl), (Nat.le_of_ble_eq_true rfl)⟩) hK hE hS hA hW [0, 1, 2] (by decide) rfl 0 rfl rfl rfl rfl hl.1 rfl (Nat.le_of_ble_eq_true rfl) dL_law_578 (Nat.le_of_ble_eq_true rfl) (Nat.le_of_ble_eq_true rfl)) hS hA hW [0, 1, 2] [] rfl rfl (by decide) (by decide) (fun r9_ u H locs hw hW hS => ?_)
      have hW : zPD D _ [] H := hW
      have hw : r9_ = (if (xs 1) < 0 then (-2) else (if 99 < (xs 1) then (-2) else 0)) := hw
      rw [if_neg c2_] at hw
      rw [if_pos c7_] at hw
      subst hw
      refine lv_icmp_eq (tgt := 1340) hx hb dL_law_581 (by decide) (fun c10_ => ?_) (fun c10_ => absurd (by decide) c10_)
      exact zl_end l C0 hS (lv_sub hl [0, 3] rfl)
    · have b11_ : 0 ≤ Int32.toInt (xs 1) ∧ Int32.toInt (xs 1) ≤ 99 := (by have u0 := b6_; have u1 := (not_congr (zi_lt _ _)).mp c7_; have u2 : (99 : Int32).toInt = 99 := (by decide); omega)
      rw [if_neg c7_] at hw
      subst hw
      refine lv_aload_n hx hb dL_law_572 rfl (lv_at hl 1 rfl) ?_
      refine lv_aload_n hx hb dL_law_573 rfl (lv_at hl 3 rfl) ?_
      refine lv_iload_n hx hb dL_law_574 rfl (lv_at hl 0 rfl) ?_
      refine lv_iconst (v := 1) hx hb dL_law_575 (by decide) ?_
      refine lv_iadd hx hb dL_law_576 ?_
      refine ztop (w := .int 1) (congrArg Value.int (by decide)) ?_
      refine va_sld hx hb hX hbl hbA hS (by unfold vp_in; decide) dL_law_577 ?_
      refine ztop (w := .int (xs 1)) rfl ?_
      refine zgo_i (wr := []) (zrunV (As := [.int (xs 1)]) (rest := [.int 0]) ⟨hx, hb, hml, hown, ht⟩ (zc_X10_on_0 l D y a1 (xs 1) w11 w12 w13 w14 w15 w16 w17 w18 w19 w20 a21 w22 w23 w24 w25 w26 w27 w28 w29 w30 w31 w32 w33 w34 w35 w36 w37 w38 w39 a40 w41 w42 w43 w44 w45 w46 w47 w48 w49 w50 w51 w52 w53 w54 w55 w56 w57 w58 w59 w60 w61 w62 w63 w64 w65 w66 w67 w68 w69 w70 w71 w72 w73 w74 w75 w76 w77 w78 w79 w80 w81) (cwV 1 ht (zgV zm_775 zm_776 zm_777 zm_5 zm_778) rfl rfl rfl (by decide +kernel) ⟨(Nat.le_of_ble_eq_true rfl), (Nat.le_of_ble_eq_true rfl)⟩) hK hE hS hA hW [0, 1, 2] (by decide) rfl 0 rfl rfl rfl rfl hl.1 rfl (Nat.le_of_ble_eq_true rfl) dL_law_578 (Nat.le_of_ble_eq_true rfl) (Nat.le_of_ble_eq_true rfl)) hS hA hW [0, 1, 2] [] rfl rfl (by decide) (by decide) (fun r12_ u H locs hw hW hS => ?_)
      have hW : zPD D _ [] H := hW
      have hw : r12_ = (if (xs 1) < 0 then (-2) else (if 99 < (xs 1) then (-2) else 0)) := hw
      rw [if_neg c2_] at hw
      rw [if_neg c7_] at hw
      subst hw
      refine lv_icmp_eq (tgt := 1340) hx hb dL_law_581 (by decide) (fun c13_ => ?_) (fun c13_ => absurd (by decide) c13_)
      exact zl_end l C0 hS (lv_sub hl [0, 3] rfl)
set_option maxHeartbeats 8000000 in
set_option maxRecDepth 100000 in
theorem zl_case_12 {p : Program} {e : Env} {s : State} {m : MethodId} {below : List Frame} {meth : Method} {c : Code} (l : Launch) {b : Nat} {xs : Nat → Int32} (C0 : lw_At p s m meth c b 6 xs) (D : va_G) (y : Nat → ClassId) (a0 : Nat) (a1 : Nat) (w2 : Value) (w3 : Value) (w4 : Value) (a5 : Nat) (w6 : Value) (w7 : Value) (w8 : Value) (w9 : Value) (w10 : Value) (w11 : Value) (w12 : Value) (w13 : Value) (w14 : Value) (w15 : Value) (w16 : Value) (w17 : Value) (w18 : Value) (w19 : Value) (w20 : Value) (w21 : Value) (w22 : Value) (w23 : Value) (w24 : Value) (w25 : Value) (w26 : Value) (w27 : Value) (w28 : Value) (w29 : Value) (w30 : Value) (w31 : Value) (w32 : Value) (w33 : Value) (w34 : Value) (w35 : Value) (w36 : Value) (w37 : Value) (w38 : Value) (w39 : Value) (w40 : Value) (w41 : Value) (w42 : Value) (w43 : Value) (w44 : Value) (w45 : Value) (w46 : Value) (w47 : Value) (w48 : Value) (w49 : Value) (w50 : Value) (w51 : Value) (w52 : Value) (w53 : Value) (w54 : Value) (w55 : Value) (w56 : Value) (w57 : Value) (w58 : Value) (w59 : Value) (w60 : Value) (w61 : Value) (w62 : Value) (w63 : Value) (w64 : Value) (w65 : Value) (w66 : Value) (w67 : Value) (w68 : Value) (w69 : Value) (w70 : Value) (w71 : Value) (w72 : Value) (w73 : Value) (w74 : Value) (w75 : Value) (w76 : Value) (w77 : Value) (w78 : Value) (w79 : Value) (w80 : Value) (w81 : Value) (w82 : Value) (w83 : Value) (w84 : Value) (w85 : Value) (w86 : Value) (w87 : Value) (w88 : Value) (w89 : Value) (w90 : Value) (w91 : Value) (w92 : Value) (a93 : Nat) (w94 : Value) (w95 : Value) (w96 : Value) (w97 : Value) (hK : zK D y s) (hE : zE y (fun q : Nat => s.heap.size ≤ q) s s.heap) {H : Heap} {locs : List Loc} {ls : Array Slot} (hS : va_S (fun q : Nat => s.heap.size ≤ q) s.heap H locs) (hW : zPD D (fun q : Nat => s.heap.size ≤ q) [(a0, .inr (8, [w2, w3, w4, .ref a5, w6, w7, w8, w9, w10])), (a1, .inr (9, [.int 0, w11, w12, w13, w14, w15, w16, w17, w18, w19, w20, w21, w22, w23, w24, w25, w26, w27, w28, w29, w30, w31, w32, w33, w34, w35, w36, w37, w38, w39, w40, w41, w42, w43, w44, w45, w46, .int 0, w47, w48, w49, w50, w51, w52, w53, w54, w55, w56, w57, w58, w59, w60, w61, w62, w63, w64, w65, w66, w67, w68, w69, w70, w71, w72, w73, w74, w75, w76, w77, w78, w79, w80, w81, w82, w83, w84])), (a5, .inr (6, [w85, .int 0, w86, w87, w88, w89, w90, w91, w92, .ref a93, w94, w95])), (a93, .inr (5, [.int 0, w96, w97]))] H) (hl : lv_has ls 4 [(3, .int 0), (2, .ref a1), (1, .ref a0), (0, .ref b)]) : W p l e room_1 s m #[Value.ref b] below meth c H locs 1000 20000 (lw_Z below #[Value.ref b] s) (F0 m 586 ls []) := by
  obtain ⟨hx, hb, hr, hml, hown, hts, hX, hbl, hlocks, hgv⟩ := id C0
  have ht : ∀ w ∈ zT, w.before #[Value.ref b] s = true := fun w h => hts w (zgin w h).1
  have hown : s.vm.findClass RL = some m.cls := hown
  have hA : ∀ q : Nat, s.heap.size ≤ q → (fun q : Nat => s.heap.size ≤ q) q := fun _ h => h
  have hbA : ¬ (fun q : Nat => s.heap.size ≤ q) b := Nat.not_le.mpr hbl
  refine lv_aload_n hx hb dL_law_586 rfl (lv_at hl 2 rfl) ?_
  refine lv_aload_n hx hb dL_law_587 rfl (lv_at hl 3 rfl) ?_
  refine lv_iload_n hx hb dL_law_588 rfl (lv_at hl 0 rfl) ?_
  refine lv_iconst (v := 1) hx hb dL_law_589 (by decide) ?_
  refine lv_iadd hx hb dL_law_590 ?_
  refine ztop (w := .int 1) (congrArg Value.int (by decide)) ?_
  refine va_sld hx hb hX hbl hbA hS (by unfold vp_in; decide) dL_law_591 ?_
  refine ztop (w := .int (xs 1)) rfl ?_
  refine zgo_i (wr := [(a1, .inr (9, [.int 0, w11, w12, w13, w14, w15, w16, w17, w18, w19, w20, w21, w22, w23, w24, w25, w26, w27, w28, w29, w30, w31, w32, w33, w34, w35, w36, w37, w38, w39, w40, w41, w42, w43, w44, w45, w46, .int 0, w47, w48, w49, w50, w51, w52, w53, w54, w55, w56, w57, w58, w59, w60, w61, w62, w63, w64, w65, w66, w67, w68, w69, w70, w71, w72, w73, w74, w75, w76, w77, w78, w79, w80, w81, w82, w83, w84]))]) (zrunV (As := [.int (xs 1)]) (rest := []) ⟨hx, hb, hml, hown, ht⟩ (zc_X9_add_0 l D y a0 (xs 1) w2 w3 w4 a5 w6 w7 w8 w9 w10 w85 w86 w87 w88 w89 w90 w91 w92 a93 w94 w95 w96 w97) (cwV 1 ht (zgV zm_779 zm_780 zm_781 zm_2 zm_782) rfl rfl rfl (by decide +kernel) ⟨(Nat.le_of_ble_eq_true rfl), (Nat.le_of_ble_eq_true rfl)⟩) hK hE hS hA hW [0, 2, 3] (by decide) rfl 0 rfl rfl rfl rfl hl.1 rfl (Nat.le_of_ble_eq_true rfl) dL_law_592 (Nat.le_of_ble_eq_true rfl) (Nat.le_of_ble_eq_true rfl)) hS hA hW [0, 2, 3] [1] rfl rfl (by decide) (by decide) (fun r1_ u H locs hw hW hS => ?_)
  have hW : zPD D _ [(a1, .inr (9, [.int 0, w11, w12, w13, w14, w15, w16, w17, w18, w19, w20, w21, w22, w23, w24, w25, w26, w27, w28, w29, w30, w31, w32, w33, w34, w35, w36, w37, w38, w39, w40, w41, w42, w43, w44, w45, w46, .int 0, w47, w48, w49, w50, w51, w52, w53, w54, w55, w56, w57, w58, w59, w60, w61, w62, w63, w64, w65, w66, w67, w68, w69, w70, w71, w72, w73, w74, w75, w76, w77, w78, w79, w80, w81, w82, w83, w84]))] H := hW
  have hw : r1_ = (if (xs 1) = (-1) then 0 else (-1)) := hw
  by_cases c2_ : (xs 1) = (-1)
  · have b3_ : (-1) ≤ Int32.toInt (xs 1) ∧ Int32.toInt (xs 1) ≤ (-1) := (by have u0 := zbnd (xs 1); have u1 := (zi_eq _ _).mp c2_; have u2 : ((-1) : Int32).toInt = -1 := (by decide); omega)
    rw [if_pos c2_] at hw
    subst hw
    refine lv_aload_n hx hb dL_law_595 rfl (lv_at hl 1 rfl) ?_
    refine lv_aload_n hx hb dL_law_596 rfl (lv_at hl 3 rfl) ?_
    refine lv_iload_n hx hb dL_law_597 rfl (lv_at hl 0 rfl) ?_
    refine lv_iconst (v := 1) hx hb dL_law_598 (by decide) ?_
    refine lv_iadd hx hb dL_law_599 ?_
    refine ztop (w := .int 1) (congrArg Value.int (by decide)) ?_
    refine va_sld hx hb hX hbl hbA hS (by unfold vp_in; decide) dL_law_600 ?_
    refine ztop (w := .int (xs 1)) rfl ?_
    refine zgo_i (wr := []) (zrunV (As := [.int (xs 1)]) (rest := [.int 0]) ⟨hx, hb, hml, hown, ht⟩ (zc_X10_add_0 l D y a1 (xs 1) w11 w12 w13 w14 w15 w16 w17 w18 w19 w20 w21 w22 w23 w24 w25 w26 w27 w28 w29 w30 w31 w32 w33 w34 w35 w36 w37 w38 w39 w40 w41 w42 w43 w44 w45 w46 w47 w48 w49 w50 w51 w52 w53 w54 w55 w56 w57 w58 w59 w60 w61 w62 w63 w64 w65 w66 w67 w68 w69 w70 w71 w72 w73 w74 w75 w76 w77 w78 w79 w80 w81 w82 w83 w84) (cwV 1 ht (zgV zm_801 zm_802 zm_803 zm_5 zm_804) rfl rfl rfl (by decide +kernel) ⟨(Nat.le_of_ble_eq_true rfl), (Nat.le_of_ble_eq_true rfl)⟩) hK hE hS hA hW [0] (by decide) rfl 0 rfl rfl rfl rfl hl.1 rfl (Nat.le_of_ble_eq_true rfl) dL_law_601 (Nat.le_of_ble_eq_true rfl) (Nat.le_of_ble_eq_true rfl)) hS hA hW [0] [] rfl rfl (by decide) (by decide) (fun r4_ u H locs hw hW hS => ?_)
    have hW : zPD D _ [] H := hW
    have hw : r4_ = (if (xs 1) = (-1) then 0 else (-1)) := hw
    rw [if_pos c2_] at hw
    subst hw
    refine lv_icmp_eq (tgt := 1340) hx hb dL_law_604 (by decide) (fun c5_ => ?_) (fun c5_ => absurd (by decide) c5_)
    exact zl_end l C0 hS (lv_sub hl [0, 3] rfl)
  · have b6_ : (-2147483648) ≤ Int32.toInt (xs 1) ∧ Int32.toInt (xs 1) ≤ 2147483647 := (by have u0 := zbnd (xs 1); have u1 := (not_congr (zi_eq _ _)).mp c2_; have u2 : ((-1) : Int32).toInt = -1 := (by decide); omega)
    rw [if_neg c2_] at hw
    subst hw
    refine lv_aload_n hx hb dL_law_595 rfl (lv_at hl 1 rfl) ?_
    refine lv_aload_n hx hb dL_law_596 rfl (lv_at hl 3 rfl) ?_
    refine lv_iload_n hx hb dL_law_597 rfl (lv_at hl 0 rfl) ?_
    refine lv_iconst (v := 1) hx hb dL_law_598 (by decide) ?_
    refine lv_iadd hx hb dL_law_599 ?_
    refine ztop (w := .int 1) (congrArg Value.int (by decide)) ?_
    refine va_sld hx hb hX hbl hbA hS (by unfold vp_in; decide) dL_law_600 ?_
    refine ztop (w := .int (xs 1)) rfl ?_
    refine zgo_i (wr := []) (zrunV (As := [.int (xs 1)]) (rest := [.int (-1)]) ⟨hx, hb, hml, hown, ht⟩ (zc_X10_add_0 l D y a1 (xs 1) w11 w12 w13 w14 w15 w16 w17 w18 w19 w20 w21 w22 w23 w24 w25 w26 w27 w28 w29 w30 w31 w32 w33 w34 w35 w36 w37 w38 w39 w40 w41 w42 w43 w44 w45 w46 w47 w48 w49 w50 w51 w52 w53 w54 w55 w56 w57 w58 w59 w60 w61 w62 w63 w64 w65 w66 w67 w68 w69 w70 w71 w72 w73 w74 w75 w76 w77 w78 w79 w80 w81 w82 w83 w84) (cwV 1 ht (zgV zm_801 zm_802 zm_803 zm_5 zm_804) rfl rfl rfl (by decide +kernel) ⟨(Nat.le_of_ble_eq_true rfl), (Nat.le_of_ble_eq_true rfl)⟩) hK hE hS hA hW [0] (by decide) rfl 0 rfl rfl rfl rfl hl.1 rfl (Nat.le_of_ble_eq_true rfl) dL_law_601 (Nat.le_of_ble_eq_true rfl) (Nat.le_of_ble_eq_true rfl)) hS hA hW [0] [] rfl rfl (by decide) (by decide) (fun r7_ u H locs hw hW hS => ?_)
    have hW : zPD D _ [] H := hW
    have hw : r7_ = (if (xs 1) = (-1) then 0 else (-1)) := hw
    rw [if_neg c2_] at hw
    subst hw
    refine lv_icmp_eq (tgt := 1340) hx hb dL_law_604 (by decide) (fun c8_ => ?_) (fun c8_ => absurd (by decide) c8_)
    exact zl_end l C0 hS (lv_sub hl [0, 3] rfl)
set_option maxHeartbeats 8000000 in
set_option maxRecDepth 100000 in
theorem zl_case_13 {p : Program} {e : Env} {s : State} {m : MethodId} {below : List Frame} {meth : Method} {c : Code} (l : Launch) {b : Nat} {xs : Nat → Int32} (C0 : lw_At p s m meth c b 6 xs) (D : va_G) (y : Nat → ClassId) (a0 : Nat) (a1 : Nat) (w2 : Value) (w3 : Value) (w4 : Value) (w5 : Value) (w6 : Value) (w7 : Value) (a8 : Nat) (w9 : Value) (w10 : Value) (w11 : Value) (w12 : Value) (w13 : Value) (w14 : Value) (w15 : Value) (w16 : Value) (w17 : Value) (w18 : Value) (a19 : Nat) (w20 : Value) (w21 : Value) (w22 : Value) (w23 : Value) (w24 : Value) (w25 : Value) (w26 : Value) (w27 : Value) (w28 : Value) (w29 : Value) (w30 : Value) (w31 : Value) (w32 : Value) (w33 : Value) (w34 : Value) (w35 : Value) (w36 : Value) (w37 : Value) (a38 : Nat) (a39 : Nat) (a40 : Nat) (w41 : Value) (w42 : Value) (w43 : Value) (w44 : Value) (w45 : Value) (w46 : Value) (w47 : Value) (w48 : Value) (w49 : Value) (w50 : Value) (w51 : Value) (w52 : Value) (w53 : Value) (w54 : Value) (w55 : Value) (w56 : Value) (w57 : Value) (w58 : Value) (w59 : Value) (w60 : Value) (w61 : Value) (w62 : Value) (w63 : Value) (w64 : Value) (w65 : Value) (w66 : Value) (w67 : Value) (w68 : Value) (w69 : Value) (w70 : Value) (w71 : Value) (w72 : Value) (w73 : Value) (w74 : Value) (w75 : Value) (w76 : Value) (w77 : Value) (a78 : Nat) (w79 : Value) (w80 : Value) (w81 : Value) (w82 : Value) (w83 : Value) (a84 : Nat) (w85 : Value) (w86 : Value) (a87 : Nat) (a88 : Nat) (w89 : Value) (w90 : Value) (w91 : Value) (w92 : Value) (w93 : Value) (w94 : Value) (w95 : Value) (w96 : Value) (w97 : Value) (w98 : Value) (w99 : Value) (hK : zK D y s) (hE : zE y (fun q : Nat => s.heap.size ≤ q) s s.heap) {H : Heap} {locs : List Loc} {ls : Array Slot} (hS : va_S (fun q : Nat => s.heap.size ≤ q) s.heap H locs) (hW : zPD D (fun q : Nat => s.heap.size ≤ q) [(a0, .inr (8, [w2, w3, w4, w5, w6, w7, .ref a8, w9, w10])), (a1, .inr (9, [.int 0, .int 0, w11, .int 20, w12, .int 0, .int 0, w13, w14, w15, w16, w17, w18, .ref a19, w20, .int (-1), w21, w22, w23, w24, w25, w26, w27, w28, w29, w30, w31, w32, w33, w34, w35, w36, .int 0, w37, .ref a38, .int 0, .ref a39, .int 0, .ref a40, w41, w42, w43, w44, w45, w46, w47, w48, w49, w50, w51, w52, w53, w54, w55, w56, w57, w58, w59, w60, w61, w62, w63, w64, w65, w66, w67, w68, w69, w70, w71, w72, w73, w74, w75, w76, w77])), (a8, .inr (1, [.ref a78, .int 0, .int 0, w79, w80, w81, w82, w83, .ref a84])), (a19, .inl (y 2, 7, .inl (fun _ => 0))), (a38, .inl (y 0, 7, .inl (fun _ => 0))), (a39, .inl (y 0, 7, .inl (fun _ => 0))), (a40, .inl (y 0, 7, .inl (fun _ => 0))), (a78, .inr (6, [w85, .int 0, .int 20, .int 0, .int 0, w86, .int 0, .int 0, .ref a87, .ref a88, w89, w90])), (a84, .inl (y 2, 4, .inl (fun _ => 0))), (a87, .inr (2, [w91, .int 15, w92, w93, w94, w95, w96, w97])), (a88, .inr (5, [.int 0, w98, w99]))] H) (hl : lv_has ls 4 [(3, .int 0), (2, .ref a1), (1, .ref a0), (0, .ref b)]) : W p l e room_1 s m #[Value.ref b] below meth c H locs 1000 20000 (lw_Z below #[Value.ref b] s) (F0 m 609 ls []) := by
  obtain ⟨hx, hb, hr, hml, hown, hts, hX, hbl, hlocks, hgv⟩ := id C0
  have ht : ∀ w ∈ zT, w.before #[Value.ref b] s = true := fun w h => hts w (zgin w h).1
  have hown : s.vm.findClass RL = some m.cls := hown
  have hA : ∀ q : Nat, s.heap.size ≤ q → (fun q : Nat => s.heap.size ≤ q) q := fun _ h => h
  have hbA : ¬ (fun q : Nat => s.heap.size ≤ q) b := Nat.not_le.mpr hbl
  refine lv_aload_n hx hb dL_law_609 rfl (lv_at hl 2 rfl) ?_
  refine lv_aload_n hx hb dL_law_610 rfl (lv_at hl 3 rfl) ?_
  refine lv_iload_n hx hb dL_law_611 rfl (lv_at hl 0 rfl) ?_
  refine lv_iconst (v := 1) hx hb dL_law_612 (by decide) ?_
  refine lv_iadd hx hb dL_law_613 ?_
  refine ztop (w := .int 1) (congrArg Value.int (by decide)) ?_
  refine va_sld hx hb hX hbl hbA hS (by unfold vp_in; decide) dL_law_614 ?_
  refine ztop (w := .int (xs 1)) rfl ?_
  refine zgo_i (wr := [(a1, .inr (9, [.int 0, .int 0, w11, .int 20, w12, .int 0, .int 0, w13, w14, w15, w16, w17, w18, .ref a19, w20, .int (-1), w21, w22, w23, w24, w25, w26, w27, w28, w29, w30, w31, w32, w33, w34, w35, w36, .int 0, w37, .ref a38, .int 0, .ref a39, .int 0, .ref a40, w41, w42, w43, w44, w45, w46, w47, w48, w49, w50, w51, w52, w53, w54, w55, w56, w57, w58, w59, w60, w61, w62, w63, w64, w65, w66, w67, w68, w69, w70, w71, w72, w73, w74, w75, w76, w77])), (a19, .inl (y 2, 7, .inl (fun _ => 0))), (a38, .inl (y 0, 7, .inl (fun _ => 0))), (a39, .inl (y 0, 7, .inl (fun _ => 0))), (a40, .inl (y 0, 7, .inl (fun _ => 0)))]) (zrunV (As := [.int (xs 1)]) (rest := []) ⟨hx, hb, hml, hown, ht⟩ (zc_X9_round_0 l D y a0 (xs 1) w2 w3 w4 w5 w6 w7 a8 w9 w10 a78 w79 w80 w81 w82 w83 a84 w85 w86 a87 a88 w89 w90 w91 w92 w93 w94 w95 w96 w97 w98 w99) (cwV 1 ht (zgV zm_805 zm_806 zm_807 zm_2 zm_808) rfl rfl rfl (by decide +kernel) ⟨(Nat.le_of_ble_eq_true rfl), (Nat.le_of_ble_eq_true rfl)⟩) hK hE hS hA hW [0, 2, 7, 8, 9, 10] (by decide) rfl 0 rfl rfl rfl rfl hl.1 rfl (Nat.le_of_ble_eq_true rfl) dL_law_615 (Nat.le_of_ble_eq_true rfl) (Nat.le_of_ble_eq_true rfl)) hS hA hW [0, 2, 7, 8, 9, 10] [1, 3, 4, 5, 6] rfl rfl (by decide) (by decide) (fun r1_ u H locs hw hW hS => ?_)
  have hW : zPD D _ [(a1, .inr (9, [.int 0, .int 0, w11, .int 20, w12, .int 0, .int 0, w13, w14, w15, w16, w17, w18, .ref a19, w20, .int (-1), w21, w22, w23, w24, w25, w26, w27, w28, w29, w30, w31, w32, w33, w34, w35, w36, .int 0, w37, .ref a38, .int 0, .ref a39, .int 0, .ref a40, w41, w42, w43, w44, w45, w46, w47, w48, w49, w50, w51, w52, w53, w54, w55, w56, w57, w58, w59, w60, w61, w62, w63, w64, w65, w66, w67, w68, w69, w70, w71, w72, w73, w74, w75, w76, w77])), (a19, .inl (y 2, 7, .inl (fun _ => 0))), (a38, .inl (y 0, 7, .inl (fun _ => 0))), (a39, .inl (y 0, 7, .inl (fun _ => 0))), (a40, .inl (y 0, 7, .inl (fun _ => 0)))] H := hW
  have hw : r1_ = (if (xs 1) < 0 then (-1) else (if 2 < (xs 1) then (-1) else 0)) := hw
  by_cases c2_ : (xs 1) < 0
  · have b3_ : (-2147483648) ≤ Int32.toInt (xs 1) ∧ Int32.toInt (xs 1) ≤ (-1) := (by have u0 := zbnd (xs 1); have u1 := (zi_lt _ _).mp c2_; have u2 : (0 : Int32).toInt = 0 := (by decide); omega)
    rw [if_pos c2_] at hw
    subst hw
    refine lv_aload_n hx hb dL_law_618 rfl (lv_at hl 1 rfl) ?_
    refine lv_aload_n hx hb dL_law_619 rfl (lv_at hl 3 rfl) ?_
    refine lv_iload_n hx hb dL_law_620 rfl (lv_at hl 0 rfl) ?_
    refine lv_iconst (v := 1) hx hb dL_law_621 (by decide) ?_
    refine lv_iadd hx hb dL_law_622 ?_
    refine ztop (w := .int 1) (congrArg Value.int (by decide)) ?_
    refine va_sld hx hb hX hbl hbA hS (by unfold vp_in; decide) dL_law_623 ?_
    refine ztop (w := .int (xs 1)) rfl ?_
    refine zgo_i (wr := []) (zrunV (As := [.int (xs 1)]) (rest := [.int (-1)]) ⟨hx, hb, hml, hown, ht⟩ (zc_X10_round_0 l D y a1 (xs 1) w11 w12 w13 w14 w15 w16 w17 w18 a19 w20 w21 w22 w23 w24 w25 w26 w27 w28 w29 w30 w31 w32 w33 w34 w35 w36 w37 a38 a39 a40 w41 w42 w43 w44 w45 w46 w47 w48 w49 w50 w51 w52 w53 w54 w55 w56 w57 w58 w59 w60 w61 w62 w63 w64 w65 w66 w67 w68 w69 w70 w71 w72 w73 w74 w75 w76 w77) (cwV 1 ht (zgV zm_836 zm_837 zm_838 zm_5 zm_839) rfl rfl rfl (by decide +kernel) ⟨(Nat.le_of_ble_eq_true rfl), (Nat.le_of_ble_eq_true rfl)⟩) hK hE hS hA hW [0, 1, 2, 3, 4] (by decide) rfl 0 rfl rfl rfl rfl hl.1 rfl (Nat.le_of_ble_eq_true rfl) dL_law_624 (Nat.le_of_ble_eq_true rfl) (Nat.le_of_ble_eq_true rfl)) hS hA hW [0, 1, 2, 3, 4] [] rfl rfl (by decide) (by decide) (fun r4_ u H locs hw hW hS => ?_)
    have hW : zPD D _ [] H := hW
    have hw : r4_ = (if (xs 1) < 0 then (-1) else (if 2 < (xs 1) then (-1) else 0)) := hw
    rw [if_pos c2_] at hw
    subst hw
    refine lv_icmp_eq (tgt := 1340) hx hb dL_law_627 (by decide) (fun c5_ => ?_) (fun c5_ => absurd (by decide) c5_)
    exact zl_end l C0 hS (lv_sub hl [0, 3] rfl)
  · have b6_ : 0 ≤ Int32.toInt (xs 1) ∧ Int32.toInt (xs 1) ≤ 2147483647 := (by have u0 := zbnd (xs 1); have u1 := (not_congr (zi_lt _ _)).mp c2_; have u2 : (0 : Int32).toInt = 0 := (by decide); omega)
    rw [if_neg c2_] at hw
    by_cases c7_ : 2 < (xs 1)
    · have b8_ : 3 ≤ Int32.toInt (xs 1) ∧ Int32.toInt (xs 1) ≤ 2147483647 := (by have u0 := b6_; have u1 := (zi_lt _ _).mp c7_; have u2 : (2 : Int32).toInt = 2 := (by decide); omega)
      rw [if_pos c7_] at hw
      subst hw
      refine lv_aload_n hx hb dL_law_618 rfl (lv_at hl 1 rfl) ?_
      refine lv_aload_n hx hb dL_law_619 rfl (lv_at hl 3 rfl) ?_
      refine lv_iload_n hx hb dL_law_620 rfl (lv_at hl 0 rfl) ?_
      refine lv_iconst (v := 1) hx hb dL_law_621 (by decide) ?_
      refine lv_iadd hx hb dL_law_622 ?_
      refine ztop (w := .int 1) (congrArg Value.int (by decide)) ?_
      refine va_sld hx hb hX hbl hbA hS (by unfold vp_in; decide) dL_law_623 ?_
      refine ztop (w := .int (xs 1)) rfl ?_
      refine zgo_i (wr := []) (zrunV (As := [.int (xs 1)]) (rest := [.int (-1)]) ⟨hx, hb, hml, hown, ht⟩ (zc_X10_round_0 l D y a1 (xs 1) w11 w12 w13 w14 w15 w16 w17 w18 a19 w20 w21 w22 w23 w24 w25 w26 w27 w28 w29 w30 w31 w32 w33 w34 w35 w36 w37 a38 a39 a40 w41 w42 w43 w44 w45 w46 w47 w48 w49 w50 w51 w52 w53 w54 w55 w56 w57 w58 w59 w60 w61 w62 w63 w64 w65 w66 w67 w68 w69 w70 w71 w72 w73 w74 w75 w76 w77) (cwV 1 ht (zgV zm_836 zm_837 zm_838 zm_5 zm_839) rfl rfl rfl (by decide +kernel) ⟨(Nat.le_of_ble_eq_true rfl), (Nat.le_of_ble_eq_true rfl)⟩) hK hE hS hA hW [0, 1, 2, 3, 4] (by decide) rfl 0 rfl rfl rfl rfl hl.1 rfl (Nat.le_of_ble_eq_true rfl) dL_law_624 (Nat.le_of_ble_eq_true rfl) (Nat.le_of_ble_eq_true rfl)) hS hA hW [0, 1, 2, 3, 4] [] rfl rfl (by decide) (by decide) (fun r9_ u H locs hw hW hS => ?_)
      have hW : zPD D _ [] H := hW
      have hw : r9_ = (if (xs 1) < 0 then (-1) else (if 2 < (xs 1) then (-1) else 0)) := hw
      rw [if_neg c2_] at hw
      rw [if_pos c7_] at hw
      subst hw
      refine lv_icmp_eq (tgt := 1340) hx hb dL_law_627 (by decide) (fun c10_ => ?_) (fun c10_ => absurd (by decide) c10_)
      exact zl_end l C0 hS (lv_sub hl [0, 3] rfl)
    · have b11_ : 0 ≤ Int32.toInt (xs 1) ∧ Int32.toInt (xs 1) ≤ 2 := (by have u0 := b6_; have u1 := (not_congr (zi_lt _ _)).mp c7_; have u2 : (2 : Int32).toInt = 2 := (by decide); omega)
      rw [if_neg c7_] at hw
      subst hw
      refine lv_aload_n hx hb dL_law_618 rfl (lv_at hl 1 rfl) ?_
      refine lv_aload_n hx hb dL_law_619 rfl (lv_at hl 3 rfl) ?_
      refine lv_iload_n hx hb dL_law_620 rfl (lv_at hl 0 rfl) ?_
      refine lv_iconst (v := 1) hx hb dL_law_621 (by decide) ?_
      refine lv_iadd hx hb dL_law_622 ?_
      refine ztop (w := .int 1) (congrArg Value.int (by decide)) ?_
      refine va_sld hx hb hX hbl hbA hS (by unfold vp_in; decide) dL_law_623 ?_
      refine ztop (w := .int (xs 1)) rfl ?_
      refine zgo_i (wr := []) (zrunV (As := [.int (xs 1)]) (rest := [.int 0]) ⟨hx, hb, hml, hown, ht⟩ (zc_X10_round_0 l D y a1 (xs 1) w11 w12 w13 w14 w15 w16 w17 w18 a19 w20 w21 w22 w23 w24 w25 w26 w27 w28 w29 w30 w31 w32 w33 w34 w35 w36 w37 a38 a39 a40 w41 w42 w43 w44 w45 w46 w47 w48 w49 w50 w51 w52 w53 w54 w55 w56 w57 w58 w59 w60 w61 w62 w63 w64 w65 w66 w67 w68 w69 w70 w71 w72 w73 w74 w75 w76 w77) (cwV 1 ht (zgV zm_836 zm_837 zm_838 zm_5 zm_839) rfl rfl rfl (by decide +kernel) ⟨(Nat.le_of_ble_eq_true rfl), (Nat.le_of_ble_eq_true rfl)⟩) hK hE hS hA hW [0, 1, 2, 3, 4] (by decide) rfl 0 rfl rfl rfl rfl hl.1 rfl (Nat.le_of_ble_eq_true rfl) dL_law_624 (Nat.le_of_ble_eq_true rfl) (Nat.le_of_ble_eq_true rfl)) hS hA hW [0, 1, 2, 3, 4] [] rfl rfl (by decide) (by decide) (fun r12_ u H locs hw hW hS => ?_)
      have hW : zPD D _ [] H := hW
      have hw : r12_ = (if (xs 1) < 0 then (-1) else (if 2 < (xs 1) then (-1) else 0)) := hw
      rw [if_neg c2_] at hw
      rw [if_neg c7_] at hw
      subst hw
      refine lv_icmp_eq (tgt := 1340) hx hb dL_law_627 (by decide) (fun c13_ => ?_) (fun c13_ => absurd (by decide) c13_)
      exact zl_end l C0 hS (lv_sub hl [0, 3] rfl)
set_option maxHeartbeats 8000000 in
set_option maxRecDepth 100000 in
theorem zl_case_14 {p : Program} {e : Env} {s : State} {m : MethodId} {below : List Frame} {meth : Method} {c : Code} (l : Launch) {b : Nat} {xs : Nat → Int32} (C0 : lw_At p s m meth c b 6 xs) (D : va_G) (y : Nat → ClassId) (a0 : Nat) (a1 : Nat) (w2 : Value) (w3 : Value) (w4 : Value) (a5 : Nat) (w6 : Value) (w7 : Value) (a8 : Nat) (w9 : Value) (w10 : Value) (w11 : Value) (w12 : Value) (w13 : Value) (w14 : Value) (w15 : Value) (w16 : Value) (w17 : Value) (w18 : Value) (a19 : Nat) (w20 : Value) (w21 : Value) (w22 : Value) (w23 : Value) (w24 : Value) (w25 : Value) (w26 : Value) (w27 : Value) (w28 : Value) (w29 : Value) (w30 : Value) (w31 : Value) (w32 : Value) (w33 : Value) (w34 : Value) (w35 : Value) (w36 : Value) (w37 : Value) (a38 : Nat) (a39 : Nat) (w40 : Value) (w41 : Value) (a42 : Nat) (w43 : Value) (w44 : Value) (w45 : Value) (w46 : Value) (w47 : Value) (w48 : Value) (w49 : Value) (w50 : Value) (w51 : Value) (w52 : Value) (w53 : Value) (w54 : Value) (w55 : Value) (w56 : Value) (w57 : Value) (w58 : Value) (w59 : Value) (w60 : Value) (w61 : Value) (w62 : Value) (w63 : Value) (w64 : Value) (w65 : Value) (w66 : Value) (w67 : Value) (w68 : Value) (w69 : Value) (w70 : Value) (w71 : Value) (w72 : Value) (w73 : Value) (w74 : Value) (w75 : Value) (w76 : Value) (w77 : Value) (w78 : Value) (w79 : Value) (w80 : Value) (a81 : Nat) (w82 : Value) (w83 : Value) (w84 : Value) (w85 : Value) (a86 : Nat) (a87 : Nat) (w88 : Value) (a89 : Nat) (w90 : Value) (w91 : Value) (w92 : Value) (w93 : Value) (w94 : Value) (w95 : Value) (w96 : Value) (w97 : Value) (w98 : Value) (w99 : Value) (w100 : Value) (hK : zK D y s) (hE : zE y (fun q : Nat => s.heap.size ≤ q) s s.heap) {H : Heap} {locs : List Loc} {ls : Array Slot} (hS : va_S (fun q : Nat => s.heap.size ≤ q) s.heap H locs) (hW : zPD D (fun q : Nat => s.heap.size ≤ q) [(a0, .inr (8, [w2, w3, w4, .ref a5, w6, w7, .ref a8, w9, w10])), (a1, .inr (9, [.int 0, .int 0, w11, .int 20, w12, .int 0, .int 0, w13, w14, w15, w16, w17, w18, .ref a19, w20, .int (-1), w21, w22, w23, w24, w25, w26, w27, w28, w29, w30, w31, w32, w33, w34, w35, w36, .int 0, w37, .ref a38, .int 0, .ref a39, w40, w41, .ref a42, w43, w44, w45, w46, w47, w48, w49, w50, w51, w52, w53, w54, w55, w56, w57, w58, w59, w60, w61, w62, w63, w64, w65, w66, w67, w68, w69, w70, w71, w72, w73, w74, w75, w76, w77, w78])), (a5, .inr (6, [w79, .int 0, .int 20, .int 0, .int 0, w80, .int 0, .int 0, .ref a81, w82, w83, w84])), (a8, .inr (1, [.ref a5, .int 0, .int 0, w85, .ref a86, .ref a87, .int 0, w88, .ref a89])), (a19, .inl (y 2, 7, .inl (fun _ => 0))), (a38, .inl (y 0, 7, .inl (fun _ => 0))), (a39, .inl (y 0, 7, .inl (fun _ => 0))), (a42, .inl (y 0, 7, .inl (fun _ => 0))), (a81, .inr (2, [w90, .int 15, w91, w92, w93, w94, w95, w96])), (a86, .inr (5, [.int 0, w97, w98])), (a87, .inr (5, [.int 0, w99, w100])), (a89, .inl (y 2, 4, .inl (fun _ => 0)))] H) (hl : lv_has ls 4 [(3, .int 0), (2, .ref a1), (1, .ref a0), (0, .ref b)]) : W p l e room_1 s m #[Value.ref b] below meth c H locs 1000 20000 (lw_Z below #[Value.ref b] s) (F0 m 632 ls []) := by
  obtain ⟨hx, hb, hr, hml, hown, hts, hX, hbl, hlocks, hgv⟩ := id C0
  have ht : ∀ w ∈ zT, w.before #[Value.ref b] s = true := fun w h => hts w (zgin w h).1
  have hown : s.vm.findClass RL = some m.cls := hown
  have hA : ∀ q : Nat, s.heap.size ≤ q → (fun q : Nat => s.heap.size ≤ q) q := fun _ h => h
  have hbA : ¬ (fun q : Nat => s.heap.size ≤ q) b := Nat.not_le.mpr hbl
  refine lv_aload_n hx hb dL_law_632 rfl (lv_at hl 2 rfl) ?_
  refine lv_aload_n hx hb dL_law_633 rfl (lv_at hl 3 rfl) ?_
  refine lv_iload_n hx hb dL_law_634 rfl (lv_at hl 0 rfl) ?_
  refine lv_iconst (v := 1) hx hb dL_law_635 (by decide) ?_
  refine lv_iadd hx hb dL_law_636 ?_
  refine ztop (w := .int 1) (congrArg Value.int (by decide)) ?_
  refine va_sld hx hb hX hbl hbA hS (by unfold vp_in; decide) dL_law_637 ?_
  refine ztop (w := .int (xs 1)) rfl ?_
  refine zgo_i (wr := [(a1, .inr (9, [.int 0, .int 0, w11, .int 20, w12, .int 0, .int 0, w13, w14, w15, w16, w17, w18, .ref a19, w20, .int (-1), w21, w22, w23, w24, w25, w26, w27, w28, w29, w30, w31, w32, w33, w34, w35, w36, .int 0, w37, .ref a38, .int 0, .ref a39, w40, w41, .ref a42, w43, w44, w45, w46, w47, w48, w49, w50, w51, w52, w53, w54, w55, w56, w57, w58, w59, w60, w61, w62, w63, w64, w65, w66, w67, w68, w69, w70, w71, w72, w73, w74, w75, w76, w77, w78])), (a19, .inl (y 2, 7, .inl (fun _ => 0))), (a38, .inl (y 0, 7, .inl (fun _ => 0))), (a39, .inl (y 0, 7, .inl (fun _ => 0))), (a42, .inl (y 0, 7, .inl (fun _ => 0)))]) (zrunV (As := [.int (xs 1)]) (rest := []) ⟨hx, hb, hml, hown, ht⟩ (zc_X9_best_0 l D y a0 (xs 1) w2 w3 w4 a5 w6 w7 a8 w9 w10 w79 w80 a81 w82 w83 w84 w85 a86 a87 w88 a89 w90 w91 w92 w93 w94 w95 w96 w97 w98 w99 w100) (cwV 1 ht (zgV zm_860 zm_861 zm_862 zm_2 zm_863) rfl rfl rfl (by decide +kernel) ⟨(Nat.le_of_ble_eq_true rfl), (Nat.le_of_ble_eq_true rfl)⟩) hK hE hS hA hW [0, 2, 3, 8, 9, 10, 11] (by decide) rfl 0 rfl rfl rfl rfl hl.1 rfl (Nat.le_of_ble_eq_true rfl) dL_law_638 (Nat.le_of_ble_eq_true rfl) (Nat.le_of_ble_eq_true rfl)) hS hA hW [0, 2, 3, 8, 9, 10, 11] [1, 4, 5, 6, 7] rfl rfl (by decide) (by decide) (fun r1_ u H locs hw hW hS => ?_)
  have hW : zPD D _ [(a1, .inr (9, [.int 0, .int 0, w11, .int 20, w12, .int 0, .int 0, w13, w14, w15, w16, w17, w18, .ref a19, w20, .int (-1), w21, w22, w23, w24, w25, w26, w27, w28, w29, w30, w31, w32, w33, w34, w35, w36, .int 0, w37, .ref a38, .int 0, .ref a39, w40, w41, .ref a42, w43, w44, w45, w46, w47, w48, w49, w50, w51, w52, w53, w54, w55, w56, w57, w58, w59, w60, w61, w62, w63, w64, w65, w66, w67, w68, w69, w70, w71, w72, w73, w74, w75, w76, w77, w78])), (a19, .inl (y 2, 7, .inl (fun _ => 0))), (a38, .inl (y 0, 7, .inl (fun _ => 0))), (a39, .inl (y 0, 7, .inl (fun _ => 0))), (a42, .inl (y 0, 7, .inl (fun _ => 0)))] H := hW
  have hw : r1_ = (if (xs 1) < (-1) then (-1) else (if 4 < (xs 1) then (-1) else (if (xs 1) < 0 then 0 else (-5)))) := hw
  by_cases c2_ : (xs 1) < (-1)
  · have b3_ : (-2147483648) ≤ Int32.toInt (xs 1) ∧ Int32.toInt (xs 1) ≤ (-2) := (by have u0 := zbnd (xs 1); have u1 := (zi_lt _ _).mp c2_; have u2 : ((-1) : Int32).toInt = -1 := (by decide); omega)
    rw [if_pos c2_] at hw
    subst hw
    refine lv_aload_n hx hb dL_law_641 rfl (lv_at hl 1 rfl) ?_
    refine lv_aload_n hx hb dL_law_642 rfl (lv_at hl 3 rfl) ?_
    refine lv_iload_n hx hb dL_law_643 rfl (lv_at hl 0 rfl) ?_
    refine lv_iconst (v := 1) hx hb dL_law_644 (by decide) ?_
    refine lv_iadd hx hb dL_law_645 ?_
    refine ztop (w := .int 1) (congrArg Value.int (by decide)) ?_
    refine va_sld hx hb hX hbl hbA hS (by unfold vp_in; decide) dL_law_646 ?_
    refine ztop (w := .int (xs 1)) rfl ?_
    refine zgo_i (wr := []) (zrunV (As := [.int (xs 1)]) (rest := [.int (-1)]) ⟨hx, hb, hml, hown, ht⟩ (zc_X10_best_0 l D y a1 (xs 1) w11 w12 w13 w14 w15 w16 w17 w18 a19 w20 w21 w22 w23 w24 w25 w26 w27 w28 w29 w30 w31 w32 w33 w34 w35 w36 w37 a38 a39 w40 w41 a42 w43 w44 w45 w46 w47 w48 w49 w50 w51 w52 w53 w54 w55 w56 w57 w58 w59 w60 w61 w62 w63 w64 w65 w66 w67 w68 w69 w70 w71 w72 w73 w74 w75 w76 w77 w78) (cwV 1 ht (zgV zm_899 zm_900 zm_901 zm_5 zm_902) rfl rfl rfl (by decide +kernel) ⟨(Nat.le_of_ble_eq_true rfl), (Nat.le_of_ble_eq_true rfl)⟩) hK hE hS hA hW [0, 1, 2, 3, 4] (by decide) rfl 0 rfl rfl rfl rfl hl.1 rfl (Nat.le_of_ble_eq_true rfl) dL_law_647 (Nat.le_of_ble_eq_true rfl) (Nat.le_of_ble_eq_true rfl)) hS hA hW [0, 1, 2, 3, 4] [] rfl rfl (by decide) (by decide) (fun r4_ u H locs hw hW hS => ?_)
    have hW : zPD D _ [] H := hW
    have hw : r4_ = (if (xs 1) < (-1) then (-1) else (if 4 < (xs 1) then (-1) else (if 0 ≤ (xs 1) then (-5) else 0))) := hw
    rw [if_pos c2_] at hw
    subst hw
    refine lv_icmp_eq (tgt := 1340) hx hb dL_law_650 (by decide) (fun c5_ => ?_) (fun c5_ => absurd (by decide) c5_)
    exact zl_end l C0 hS (lv_sub hl [0, 3] rfl)
  · have b6_ : (-1) ≤ Int32.toInt (xs 1) ∧ Int32.toInt (xs 1) ≤ 2147483647 := (by have u0 := zbnd (xs 1); have u1 := (not_congr (zi_lt _ _)).mp c2_; have u2 : ((-1) : Int32).toInt = -1 := (by decide); omega)
    rw [if_neg c2_] at hw
    by_cases c7_ : 4 < (xs 1)
    · have b8_ : 5 ≤ Int32.toInt (xs 1) ∧ Int32.toInt (xs 1) ≤ 2147483647 := (by have u0 := b6_; have u1 := (zi_lt _ _).mp c7_; have u2 : (4 : Int32).toInt = 4 := (by decide); omega)
      rw [if_pos c7_] at hw
      subst hw
      refine lv_aload_n hx hb dL_law_641 rfl (lv_at hl 1 rfl) ?_
      refine lv_aload_n hx hb dL_law_642 rfl (lv_at hl 3 rfl) ?_
      refine lv_iload_n hx hb dL_law_643 rfl (lv_at hl 0 rfl) ?_
      refine lv_iconst (v := 1) hx hb dL_law_644 (by decide) ?_
      refine lv_iadd hx hb dL_law_645 ?_
      refine ztop (w := .int 1) (congrArg Value.int (by decide)) ?_
      refine va_sld hx hb hX hbl hbA hS (by unfold vp_in; decide) dL_law_646 ?_
      refine ztop (w := .int (xs 1)) rfl ?_
      refine zgo_i (wr := []) (zrunV (As := [.int (xs 1)]) (rest := [.int (-1)]) ⟨hx, hb, hml, hown, ht⟩ (zc_X10_best_0 l D y a1 (xs 1) w11 w12 w13 w14 w15 w16 w17 w18 a19 w20 w21 w22 w23 w24 w25 w26 w27 w28 w29 w30 w31 w32 w33 w34 w35 w36 w37 a38 a39 w40 w41 a42 w43 w44 w45 w46 w47 w48 w49 w50 w51 w52 w53 w54 w55 w56 w57 w58 w59 w60 w61 w62 w63 w64 w65 w66 w67 w68 w69 w70 w71 w72 w73 w74 w75 w76 w77 w78) (cwV 1 ht (zgV zm_899 zm_900 zm_901 zm_5 zm_902) rfl rfl rfl (by decide +kernel) ⟨(Nat.le_of_ble_eq_true rfl), (Nat.le_of_ble_eq_true rfl)⟩) hK hE hS hA hW [0, 1, 2, 3, 4] (by decide) rfl 0 rfl rfl rfl rfl hl.1 rfl (Nat.le_of_ble_eq_true rfl) dL_law_647 (Nat.le_of_ble_eq_true rfl) (Nat.le_of_ble_eq_true rfl)) hS hA hW [0, 1, 2, 3, 4] [] rfl rfl (by decide) (by decide) (fun r9_ u H locs hw hW hS => ?_)
      have hW : zPD D _ [] H := hW
      have hw : r9_ = (if (xs 1) < (-1) then (-1) else (if 4 < (xs 1) then (-1) else (if 0 ≤ (xs 1) then (-5) else 0))) := hw
      rw [if_neg c2_] at hw
      rw [if_pos c7_] at hw
      subst hw
      refine lv_icmp_eq (tgt := 1340) hx hb dL_law_650 (by decide) (fun c10_ => ?_) (fun c10_ => absurd (by decide) c10_)
      exact zl_end l C0 hS (lv_sub hl [0, 3] rfl)
    · have b11_ : (-1) ≤ Int32.toInt (xs 1) ∧ Int32.toInt (xs 1) ≤ 4 := (by have u0 := b6_; have u1 := (not_congr (zi_lt _ _)).mp c7_; have u2 : (4 : Int32).toInt = 4 := (by decide); omega)
      rw [if_neg c7_] at hw
      by_cases c12_ : (xs 1) < 0
      · have b13_ : (-1) ≤ Int32.toInt (xs 1) ∧ Int32.toInt (xs 1) ≤ (-1) := (by have u0 := b11_; have u1 := (zi_lt _ _).mp c12_; have u2 : (0 : Int32).toInt = 0 := (by decide); omega)
        rw [if_pos c12_] at hw
        subst hw
        refine lv_aload_n hx hb dL_law_641 rfl (lv_at hl 1 rfl) ?_
        refine lv_aload_n hx hb dL_law_642 rfl (lv_at hl 3 rfl) ?_
        refine lv_iload_n hx hb dL_law_643 rfl (lv_at hl 0 rfl) ?_
        refine lv_iconst (v := 1) hx hb dL_law_644 (by decide) ?_
        refine lv_iadd hx hb dL_law_645 ?_
        refine ztop (w := .int 1) (congrArg Value.int (by decide)) ?_
        refine va_sld hx hb hX hbl hbA hS (by unfold vp_in; decide) dL_law_646 ?_
        refine ztop (w := .int (xs 1)) rfl ?_
        refine zgo_i (wr := []) (zrunV (As := [.int (xs 1)]) (rest := [.int 0]) ⟨hx, hb, hml, hown, ht⟩ (zc_X10_best_0 l D y a1 (xs 1) w11 w12 w13 w14 w15 w16 w17 w18 a19 w20 w21 w22 w23 w24 w25 w26 w27 w28 w29 w30 w31 w32 w33 w34 w35 w36 w37 a38 a39 w40 w41 a42 w43 w44 w45 w46 w47 w48 w49 w50 w51 w52 w53 w54 w55 w56 w57 w58 w59 w60 w61 w62 w63 w64 w65 w66 w67 w68 w69 w70 w71 w72 w73 w74 w75 w76 w77 w78) (cwV 1 ht (zgV zm_899 zm_900 zm_901 zm_5 zm_902) rfl rfl rfl (by decide +kernel) ⟨(Nat.le_of_ble_eq_true rfl), (Nat.le_of_ble_eq_true rfl)⟩) hK hE hS hA hW [0, 1, 2, 3, 4] (by decide) rfl 0 rfl rfl rfl rfl hl.1 rfl (Nat.le_of_ble_eq_true rfl) dL_law_647 (Nat.le_of_ble_eq_true rfl) (Nat.le_of_ble_eq_true rfl)) hS hA hW [0, 1, 2, 3, 4] [] rfl rfl (by decide) (by decide) (fun r14_ u H locs hw hW hS => ?_)
        have hW : zPD D _ [] H := hW
        have hw : r14_ = (if (xs 1) < (-1) then (-1) else (if 4 < (xs 1) then (-1) else (if 0 ≤ (xs 1) then (-5) else 0))) := hw
        rw [if_neg c2_] at hw
        rw [if_neg c7_] at hw
        rw [if_neg (by have z0 := b13_; have e0 : (0 : Int32).toInt = 0 := (by decide); rw [zi_le]; omega)] at hw
        subst hw
        refine lv_icmp_eq (tgt := 1340) hx hb dL_law_650 (by decide) (fun c15_ => ?_) (fun c15_ => absurd (by decide) c15_)
        exact zl_end l C0 hS (lv_sub hl [0, 3] rfl)
      · have b16_ : 0 ≤ Int32.toInt (xs 1) ∧ Int32.toInt (xs 1) ≤ 4 := (by have u0 := b11_; have u1 := (not_congr (zi_lt _ _)).mp c12_; have u2 : (0 : Int32).toInt = 0 := (by decide); omega)
        rw [if_neg c12_] at hw
        subst hw
        refine lv_aload_n hx hb dL_law_641 rfl (lv_at hl 1 rfl) ?_
        refine lv_aload_n hx hb dL_law_642 rfl (lv_at hl 3 rfl) ?_
        refine lv_iload_n hx hb dL_law_643 rfl (lv_at hl 0 rfl) ?_
        refine lv_iconst (v := 1) hx hb dL_law_644 (by decide) ?_
        refine lv_iadd hx hb dL_law_645 ?_
        refine ztop (w := .int 1) (congrArg Value.int (by decide)) ?_
        refine va_sld hx hb hX hbl hbA hS (by unfold vp_in; decide) dL_law_646 ?_
        refine ztop (w := .int (xs 1)) rfl ?_
        refine zgo_i (wr := []) (zrunV (As := [.int (xs 1)]) (rest := [.int (-5)]) ⟨hx, hb, hml, hown, ht⟩ (zc_X10_best_0 l D y a1 (xs 1) w11 w12 w13 w14 w15 w16 w17 w18 a19 w20 w21 w22 w23 w24 w25 w26 w27 w28 w29 w30 w31 w32 w33 w34 w35 w36 w37 a38 a39 w40 w41 a42 w43 w44 w45 w46 w47 w48 w49 w50 w51 w52 w53 w54 w55 w56 w57 w58 w59 w60 w61 w62 w63 w64 w65 w66 w67 w68 w69 w70 w71 w72 w73 w74 w75 w76 w77 w78) (cwV 1 ht (zgV zm_899 zm_900 zm_901 zm_5 zm_902) rfl rfl rfl (by decide +kernel) ⟨(Nat.le_of_ble_eq_true rfl), (Nat.le_of_ble_eq_true rfl)⟩) hK hE hS hA hW [0, 1, 2, 3, 4] (by decide) rfl 0 rfl rfl rfl rfl hl.1 rfl (Nat.le_of_ble_eq_true rfl) dL_law_647 (Nat.le_of_ble_eq_true rfl) (Nat.le_of_ble_eq_true rfl)) hS hA hW [0, 1, 2, 3, 4] [] rfl rfl (by decide) (by decide) (fun r17_ u H locs hw hW hS => ?_)
        have hW : zPD D _ [] H := hW
        have hw : r17_ = (if (xs 1) < (-1) then (-1) else (if 4 < (xs 1) then (-1) else (if 0 ≤ (xs 1) then (-5) else 0))) := hw
        rw [if_neg c2_] at hw
        rw [if_neg c7_] at hw
        rw [if_pos (by have z0 := b16_; have e0 : (0 : Int32).toInt = 0 := (by decide); rw [zi_le]; omega)] at hw
        subst hw
        refine lv_icmp_eq (tgt := 1340) hx hb dL_law_650 (by decide) (fun c18_ => ?_) (fun c18_ => absurd (by decide) c18_)
        exact zl_end l C0 hS (lv_sub hl [0, 3] rfl)
set_option maxHeartbeats 8000000 in
set_option maxRecDepth 100000 in
theorem zl_case_15 {p : Program} {e : Env} {s : State} {m : MethodId} {below : List Frame} {meth : Method} {c : Code} (l : Launch) {b : Nat} {xs : Nat → Int32} (C0 : lw_At p s m meth c b 6 xs) (D : va_G) (y : Nat → ClassId) (a0 : Nat) (a1 : Nat) (w2 : Value) (w3 : Value) (w4 : Value) (a5 : Nat) (w6 : Value) (w7 : Value) (a8 : Nat) (w9 : Value) (w10 : Value) (w11 : Value) (w12 : Value) (w13 : Value) (w14 : Value) (w15 : Value) (w16 : Value) (w17 : Value) (w18 : Value) (w19 : Value) (w20 : Value) (w21 : Value) (w22 : Value) (w23 : Value) (w24 : Value) (w25 : Value) (w26 : Value) (w27 : Value) (w28 : Value) (w29 : Value) (w30 : Value) (w31 : Value) (w32 : Value) (w33 : Value) (w34 : Value) (w35 : Value) (w36 : Value) (w37 : Value) (w38 : Value) (w39 : Value) (w40 : Value) (w41 : Value) (w42 : Value) (w43 : Value) (w44 : Value) (w45 : Value) (w46 : Value) (w47 : Value) (w48 : Value) (w49 : Value) (w50 : Value) (w51 : Value) (w52 : Value) (w53 : Value) (w54 : Value) (w55 : Value) (w56 : Value) (w57 : Value) (w58 : Value) (w59 : Value) (w60 : Value) (w61 : Value) (w62 : Value) (w63 : Value) (w64 : Value) (w65 : Value) (w66 : Value) (w67 : Value) (w68 : Value) (w69 : Value) (w70 : Value) (w71 : Value) (w72 : Value) (w73 : Value) (w74 : Value) (w75 : Value) (w76 : Value) (w77 : Value) (w78 : Value) (w79 : Value) (w80 : Value) (w81 : Value) (w82 : Value) (w83 : Value) (w84 : Value) (w85 : Value) (w86 : Value) (w87 : Value) (w88 : Value) (w89 : Value) (w90 : Value) (w91 : Value) (w92 : Value) (w93 : Value) (w94 : Value) (w95 : Value) (w96 : Value) (w97 : Value) (a98 : Nat) (hK : zK D y s) (hE : zE y (fun q : Nat => s.heap.size ≤ q) s s.heap) {H : Heap} {locs : List Loc} {ls : Array Slot} (hS : va_S (fun q : Nat => s.heap.size ≤ q) s.heap H locs) (hW : zPD D (fun q : Nat => s.heap.size ≤ q) [(a0, .inr (8, [w2, w3, w4, .ref a5, w6, w7, .ref a8, w9, w10])), (a1, .inr (9, [.int 0, w11, w12, w13, w14, w15, w16, w17, w18, w19, w20, w21, w22, w23, w24, .int (-1), w25, w26, w27, w28, w29, w30, w31, w32, w33, w34, w35, w36, w37, w38, w39, w40, .int 0, w41, w42, w43, w44, w45, w46, w47, w48, w49, w50, w51, w52, w53, w54, w55, w56, w57, w58, w59, w60, w61, w62, w63, w64, w65, w66, w67, w68, w69, w70, w71, w72, w73, w74, w75, w76, w77, w78, w79, w80, w81, w82, w83])), (a5, .inr (6, [w84, .int 0, .int 20, .int 0, w85, w86, w87, w88, w89, w90, w91, w92])), (a8, .inr (1, [.ref a5, .int 0, .int 0, w93, w94, w95, w96, w97, .ref a98])), (a98, .inl (y 2, 4, .inl (fun _ => 0)))] H) (hl : lv_has ls 4 [(3, .int 0), (2, .ref a1), (1, .ref a0), (0, .ref b)]) : W p l e room_1 s m #[Value.ref b] below meth c H locs 1000 20000 (lw_Z below #[Value.ref b] s) (F0 m 655 ls []) := by
  obtain ⟨hx, hb, hr, hml, hown, hts, hX, hbl, hlocks, hgv⟩ := id C0
  have ht : ∀ w ∈ zT, w.before #[Value.ref b] s = true := fun w h => hts w (zgin w h).1
  have hown : s.vm.findClass RL = some m.cls := hown
  have hA : ∀ q : Nat, s.heap.size ≤ q → (fun q : Nat => s.heap.size ≤ q) q := fun _ h => h
  have hbA : ¬ (fun q : Nat => s.heap.size ≤ q) b := Nat.not_le.mpr hbl
  refine lv_aload_n hx hb dL_law_655 rfl (lv_at hl 2 rfl) ?_
  refine zgo_i (wr := [(a1, .inr (9, [.int 0, w11, w12, w13, w14, w15, w16, w17, w18, w19, w20, w21, w22, w23, w24, .int (-1), w25, w26, w27, w28, w29, w30, w31, w32, w33, w34, w35, w36, w37, w38, w39, w40, .int 0, w41, w42, w43, w44, w45, w46, w47, w48, w49, w50, w51, w52, w53, w54, w55, w56, w57, w58, w59, w60, w61, w62, w63, w64, w65, w66, w67, w68, w69, w70, w71, w72, w73, w74, w75, w76, w77, w78, w79, w80, w81, w82, w83]))]) (zrunV (As := []) (rest := []) ⟨hx, hb, hml, hown, ht⟩ (zc_X9_next_0 l D y a0 w2 w3 w4 a5 w6 w7 a8 w9 w10 w84 w85 w86 w87 w88 w89 w90 w91 w92 w93 w94 w95 w96 w97 a98) (cwV 0 ht (zgV zm_911 zm_912 zm_913 zm_2 zm_914) rfl rfl rfl (by decide +kernel) ⟨(Nat.le_of_ble_eq_true rfl), (Nat.le_of_ble_eq_true rfl)⟩) hK hE hS hA hW [0, 2, 3, 4] (by decide) rfl 0 rfl rfl rfl rfl hl.1 rfl (Nat.le_of_ble_eq_true rfl) dL_law_656 (Nat.le_of_ble_eq_true rfl) (Nat.le_of_ble_eq_true rfl)) hS hA hW [0, 2, 3, 4] [1] rfl rfl (by decide) (by decide) (fun r1_ u H locs hw hW hS => ?_)
  have hW : zPD D _ [(a1, .inr (9, [.int 0, w11, w12, w13, w14, w15, w16, w17, w18, w19, w20, w21, w22, w23, w24, .int (-1), w25, w26, w27, w28, w29, w30, w31, w32, w33, w34, w35, w36, w37, w38, w39, w40, .int 0, w41, w42, w43, w44, w45, w46, w47, w48, w49, w50, w51, w52, w53, w54, w55, w56, w57, w58, w59, w60, w61, w62, w63, w64, w65, w66, w67, w68, w69, w70, w71, w72, w73, w74, w75, w76, w77, w78, w79, w80, w81, w82, w83]))] H := hW
  have hw : r1_ = (-5) := hw
  subst hw
  refine lv_aload_n hx hb dL_law_659 rfl (lv_at hl 1 rfl) ?_
  refine zgo_i (wr := []) (zrunV (As := []) (rest := [.int (-5)]) ⟨hx, hb, hml, hown, ht⟩ (zc_X10_next_0 l D y a1 w11 w12 w13 w14 w15 w16 w17 w18 w19 w20 w21 w22 w23 w24 w25 w26 w27 w28 w29 w30 w31 w32 w33 w34 w35 w36 w37 w38 w39 w40 w41 w42 w43 w44 w45 w46 w47 w48 w49 w50 w51 w52 w53 w54 w55 w56 w57 w58 w59 w60 w61 w62 w63 w64 w65 w66 w67 w68 w69 w70 w71 w72 w73 w74 w75 w76 w77 w78 w79 w80 w81 w82 w83) (cwV 0 ht (zgV zm_919 zm_920 zm_921 zm_5 zm_922) rfl rfl rfl (by decide +kernel) ⟨(Nat.le_of_ble_eq_true rfl), (Nat.le_of_ble_eq_true rfl)⟩) hK hE hS hA hW [0] (by decide) rfl 0 rfl rfl rfl rfl hl.1 rfl (Nat.le_of_ble_eq_true rfl) dL_law_660 (Nat.le_of_ble_eq_true rfl) (Nat.le_of_ble_eq_true rfl)) hS hA hW [0] [] rfl rfl (by decide) (by decide) (fun r2_ u H locs hw hW hS => ?_)
  have hW : zPD D _ [] H := hW
  have hw : r2_ = (-5) := hw
  subst hw
  refine lv_icmp_eq (tgt := 1340) hx hb dL_law_663 (by decide) (fun c3_ => ?_) (fun c3_ => absurd (by decide) c3_)
  exact zl_end l C0 hS (lv_sub hl [0, 3] rfl)
set_option maxHeartbeats 8000000 in
set_option maxRecDepth 100000 in
theorem zl_case_16 {p : Program} {e : Env} {s : State} {m : MethodId} {below : List Frame} {meth : Method} {c : Code} (l : Launch) {b : Nat} {xs : Nat → Int32} (C0 : lw_At p s m meth c b 6 xs) (D : va_G) (y : Nat → ClassId) (a0 : Nat) (a1 : Nat) (w2 : Value) (w3 : Value) (w4 : Value) (w5 : Value) (w6 : Value) (w7 : Value) (a8 : Nat) (w9 : Value) (w10 : Value) (w11 : Value) (w12 : Value) (w13 : Value) (w14 : Value) (w15 : Value) (w16 : Value) (w17 : Value) (w18 : Value) (a19 : Nat) (w20 : Value) (w21 : Value) (w22 : Value) (w23 : Value) (w24 : Value) (w25 : Value) (w26 : Value) (w27 : Value) (w28 : Value) (w29 : Value) (w30 : Value) (w31 : Value) (w32 : Value) (w33 : Value) (w34 : Value) (w35 : Value) (w36 : Value) (w37 : Value) (a38 : Nat) (a39 : Nat) (a40 : Nat) (w41 : Value) (w42 : Value) (w43 : Value) (w44 : Value) (w45 : Value) (w46 : Value) (w47 : Value) (w48 : Value) (w49 : Value) (w50 : Value) (w51 : Value) (w52 : Value) (w53 : Value) (w54 : Value) (w55 : Value) (w56 : Value) (w57 : Value) (w58 : Value) (w59 : Value) (w60 : Value) (w61 : Value) (w62 : Value) (w63 : Value) (w64 : Value) (w65 : Value) (w66 : Value) (w67 : Value) (w68 : Value) (w69 : Value) (w70 : Value) (w71 : Value) (w72 : Value) (w73 : Value) (w74 : Value) (w75 : Value) (w76 : Value) (w77 : Value) (a78 : Nat) (w79 : Value) (w80 : Value) (w81 : Value) (w82 : Value) (w83 : Value) (a84 : Nat) (w85 : Value) (w86 : Value) (a87 : Nat) (a88 : Nat) (w89 : Value) (w90 : Value) (w91 : Value) (w92 : Value) (w93 : Value) (w94 : Value) (w95 : Value) (w96 : Value) (w97 : Value) (w98 : Value) (w99 : Value) (hK : zK D y s) (hE : zE y (fun q : Nat => s.heap.size ≤ q) s s.heap) {H : Heap} {locs : List Loc} {ls : Array Slot} (hS : va_S (fun q : Nat => s.heap.size ≤ q) s.heap H locs) (hW : zPD D (fun q : Nat => s.heap.size ≤ q) [(a0, .inr (8, [w2, w3, w4, w5, w6, w7, .ref a8, w9, w10])), (a1, .inr (9, [.int 0, .int 0, w11, .int 20, w12, .int 0, .int 0, w13, w14, w15, w16, w17, w18, .ref a19, w20, .int (-1), w21, w22, w23, w24, w25, w26, w27, w28, w29, w30, w31, w32, w33, w34, w35, w36, .int 0, w37, .ref a38, .int 0, .ref a39, .int 0, .ref a40, w41, w42, w43, w44, w45, w46, w47, w48, w49, w50, w51, w52, w53, w54, w55, w56, w57, w58, w59, w60, w61, w62, w63, w64, w65, w66, w67, w68, w69, w70, w71, w72, w73, w74, w75, w76, w77])), (a8, .inr (1, [.ref a78, .int 0, .int 0, w79, w80, w81, w82, w83, .ref a84])), (a19, .inl (y 2, 7, .inl (fun _ => 0))), (a38, .inl (y 0, 7, .inl (fun _ => 0))), (a39, .inl (y 0, 7, .inl (fun _ => 0))), (a40, .inl (y 0, 7, .inl (fun _ => 0))), (a78, .inr (6, [w85, .int 0, .int 20, .int 0, .int 0, w86, .int 0, .int 0, .ref a87, .ref a88, w89, w90])), (a84, .inl (y 2, 4, .inl (fun _ => 0))), (a87, .inr (2, [w91, .int 15, w92, w93, w94, w95, w96, w97])), (a88, .inr (5, [.int 0, w98, w99]))] H) (hl : lv_has ls 4 [(3, .int 0), (2, .ref a1), (1, .ref a0), (0, .ref b)]) : W p l e room_1 s m #[Value.ref b] below meth c H locs 1000 20000 (lw_Z below #[Value.ref b] s) (F0 m 668 ls []) := by
  obtain ⟨hx, hb, hr, hml, hown, hts, hX, hbl, hlocks, hgv⟩ := id C0
  have ht : ∀ w ∈ zT, w.before #[Value.ref b] s = true := fun w h => hts w (zgin w h).1
  have hown : s.vm.findClass RL = some m.cls := hown
  have hA : ∀ q : Nat, s.heap.size ≤ q → (fun q : Nat => s.heap.size ≤ q) q := fun _ h => h
  have hbA : ¬ (fun q : Nat => s.heap.size ≤ q) b := Nat.not_le.mpr hbl
  refine lv_aload_n hx hb dL_law_668 rfl (lv_at hl 2 rfl) ?_
  refine lv_aload_n hx hb dL_law_669 rfl (lv_at hl 3 rfl) ?_
  refine lv_iload_n hx hb dL_law_670 rfl (lv_at hl 0 rfl) ?_
  refine lv_iconst (v := 1) hx hb dL_law_671 (by decide) ?_
  refine lv_iadd hx hb dL_law_672 ?_
  refine ztop (w := .int 1) (congrArg Value.int (by decide)) ?_
  refine va_sld hx hb hX hbl hbA hS (by unfold vp_in; decide) dL_law_673 ?_
  refine ztop (w := .int (xs 1)) rfl ?_
  refine zgo_i (wr := [(a1, .inr (9, [.int 0, .int 0, w11, .int 20, w12, .int 0, .int 0, w13, w14, w15, w16, w17, w18, .ref a19, w20, .int (-1), w21, w22, w23, w24, w25, w26, w27, w28, w29, w30, w31, w32, w33, w34, w35, w36, .int 0, w37, .ref a38, .int 0, .ref a39, .int 0, .ref a40, w41, w42, w43, w44, w45, w46, w47, w48, w49, w50, w51, w52, w53, w54, w55, w56, w57, w58, w59, w60, w61, w62, w63, w64, w65, w66, w67, w68, w69, w70, w71, w72, w73, w74, w75, w76, w77])), (a19, .inl (y 2, 7, .inl (fun _ => 0))), (a38, .inl (y 0, 7, .inl (fun _ => 0))), (a39, .inl (y 0, 7, .inl (fun _ => 0))), (a40, .inl (y 0, 7, .inl (fun _ => 0)))]) (zrunV (As := [.int (xs 1)]) (rest := []) ⟨hx, hb, hml, hown, ht⟩ (zc_X9_late_0 l D y a0 (xs 1) w2 w3 w4 w5 w6 w7 a8 w9 w10 a78 w79 w80 w81 w82 w83 a84 w85 w86 a87 a88 w89 w90 w91 w92 w93 w94 w95 w96 w97 w98 w99) (cwV 1 ht (zgV zm_923 zm_924 zm_925 zm_2 zm_926) rfl rfl rfl (by decide +kernel) ⟨(Nat.le_of_ble_eq_true rfl), (Nat.le_of_ble_eq_true rfl)⟩) hK hE hS hA hW [0, 2, 7, 8, 9, 10] (by decide) rfl 0 rfl rfl rfl rfl hl.1 rfl (Nat.le_of_ble_eq_true rfl) dL_law_674 (Nat.le_of_ble_eq_true rfl) (Nat.le_of_ble_eq_true rfl)) hS hA hW [0, 2, 7, 8, 9, 10] [1, 3, 4, 5, 6] rfl rfl (by decide) (by decide) (fun r1_ u H locs hw hW hS => ?_)
  have hW : zPD D _ [(a1, .inr (9, [.int 0, .int 0, w11, .int 20, w12, .int 0, .int 0, w13, w14, w15, w16, w17, w18, .ref a19, w20, .int (-1), w21, w22, w23, w24, w25, w26, w27, w28, w29, w30, w31, w32, w33, w34, w35, w36, .int 0, w37, .ref a38, .int 0, .ref a39, .int 0, .ref a40, w41, w42, w43, w44, w45, w46, w47, w48, w49, w50, w51, w52, w53, w54, w55, w56, w57, w58, w59, w60, w61, w62, w63, w64, w65, w66, w67, w68, w69, w70, w71, w72, w73, w74, w75, w76, w77])), (a19, .inl (y 2, 7, .inl (fun _ => 0))), (a38, .inl (y 0, 7, .inl (fun _ => 0))), (a39, .inl (y 0, 7, .inl (fun _ => 0))), (a40, .inl (y 0, 7, .inl (fun _ => 0)))] H := hW
  have hw : r1_ = (if (xs 1) < 0 then (-2) else (if 99999 < (xs 1) then (-2) else 60)) := hw
  by_cases c2_ : (xs 1) < 0
  · have b3_ : (-2147483648) ≤ Int32.toInt (xs 1) ∧ Int32.toInt (xs 1) ≤ (-1) := (by have u0 := zbnd (xs 1); have u1 := (zi_lt _ _).mp c2_; have u2 : (0 : Int32).toInt = 0 := (by decide); omega)
    rw [if_pos c2_] at hw
    subst hw
    refine lv_aload_n hx hb dL_law_677 rfl (lv_at hl 1 rfl) ?_
    refine lv_aload_n hx hb dL_law_678 rfl (lv_at hl 3 rfl) ?_
    refine lv_iload_n hx hb dL_law_679 rfl (lv_at hl 0 rfl) ?_
    refine lv_iconst (v := 1) hx hb dL_law_680 (by decide) ?_
    refine lv_iadd hx hb dL_law_681 ?_
    refine ztop (w := .int 1) (congrArg Value.int (by decide)) ?_
    refine va_sld hx hb hX hbl hbA hS (by unfold vp_in; decide) dL_law_682 ?_
    refine ztop (w := .int (xs 1)) rfl ?_
    refine zgo_i (wr := []) (zrunV (As := [.int (xs 1)]) (rest := [.int (-2)]) ⟨hx, hb, hml, hown, ht⟩ (zc_X10_late_0 l D y a1 (xs 1) w11 w12 w13 w14 w15 w16 w17 w18 a19 w20 w21 w22 w23 w24 w25 w26 w27 w28 w29 w30 w31 w32 w33 w34 w35 w36 w37 a38 a39 a40 w41 w42 w43 w44 w45 w46 w47 w48 w49 w50 w51 w52 w53 w54 w55 w56 w57 w58 w59 w60 w61 w62 w63 w64 w65 w66 w67 w68 w69 w70 w71 w72 w73 w74 w75 w76 w77) (cwV 1 ht (zgV zm_933 zm_934 zm_935 zm_5 zm_936) rfl rfl rfl (by decide +kernel) ⟨(Nat.le_of_ble_eq_true rfl), (Nat.le_of_ble_eq_true rfl)⟩) hK hE hS hA hW [0, 1, 2, 3, 4] (by decide) rfl 0 rfl rfl rfl rfl hl.1 rfl (Nat.le_of_ble_eq_true rfl) dL_law_683 (Nat.le_of_ble_eq_true rfl) (Nat.le_of_ble_eq_true rfl)) hS hA hW [0, 1, 2, 3, 4] [] rfl rfl (by decide) (by decide) (fun r4_ u H locs hw hW hS => ?_)
    have hW : zPD D _ [] H := hW
    have hw : r4_ = (if (xs 1) < 0 then (-2) else (if 99999 < (xs 1) then (-2) else 60)) := hw
    rw [if_pos c2_] at hw
    subst hw
    refine lv_icmp_eq (tgt := 1340) hx hb dL_law_686 (by decide) (fun c5_ => ?_) (fun c5_ => absurd (by decide) c5_)
    exact zl_end l C0 hS (lv_sub hl [0, 3] rfl)
  · have b6_ : 0 ≤ Int32.toInt (xs 1) ∧ Int32.toInt (xs 1) ≤ 2147483647 := (by have u0 := zbnd (xs 1); have u1 := (not_congr (zi_lt _ _)).mp c2_; have u2 : (0 : Int32).toInt = 0 := (by decide); omega)
    rw [if_neg c2_] at hw
    by_cases c7_ : 99999 < (xs 1)
    · have b8_ : 100000 ≤ Int32.toInt (xs 1) ∧ Int32.toInt (xs 1) ≤ 2147483647 := (by have u0 := b6_; have u1 := (zi_lt _ _).mp c7_; have u2 : (99999 : Int32).toInt = 99999 := (by decide); omega)
      rw [if_pos c7_] at hw
      subst hw
      refine lv_aload_n hx hb dL_law_677 rfl (lv_at hl 1 rfl) ?_
      refine lv_aload_n hx hb dL_law_678 rfl (lv_at hl 3 rfl) ?_
      refine lv_iload_n hx hb dL_law_679 rfl (lv_at hl 0 rfl) ?_
      refine lv_iconst (v := 1) hx hb dL_law_680 (by decide) ?_
      refine lv_iadd hx hb dL_law_681 ?_
      refine ztop (w := .int 1) (congrArg Value.int (by decide)) ?_
      refine va_sld hx hb hX hbl hbA hS (by unfold vp_in; decide) dL_law_682 ?_
      refine ztop (w := .int (xs 1)) rfl ?_
      refine zgo_i (wr := []) (zrunV (As := [.int (xs 1)]) (rest := [.int (-2)]) ⟨hx, hb, hml, hown, ht⟩ (zc_X10_late_0 l D y a1 (xs 1) w11 w12 w13 w14 w15 w16 w17 w18 a19 w20 w21 w22 w23 w24 w25 w26 w27 w28 w29 w30 w31 w32 w33 w34 w35 w36 w37 a38 a39 a40 w41 w42 w43 w44 w45 w46 w47 w48 w49 w50 w51 w52 w53 w54 w55 w56 w57 w58 w59 w60 w61 w62 w63 w64 w65 w66 w67 w68 w69 w70 w71 w72 w73 w74 w75 w76 w77) (cwV 1 ht (zgV zm_933 zm_934 zm_935 zm_5 zm_936) rfl rfl rfl (by decide +kernel) ⟨(Nat.le_of_ble_eq_true rfl), (Nat.le_of_ble_eq_true rfl)⟩) hK hE hS hA hW [0, 1, 2, 3, 4] (by decide) rfl 0 rfl rfl rfl rfl hl.1 rfl (Nat.le_of_ble_eq_true rfl) dL_law_683 (Nat.le_of_ble_eq_true rfl) (Nat.le_of_ble_eq_true rfl)) hS hA hW [0, 1, 2, 3, 4] [] rfl rfl (by decide) (by decide) (fun r9_ u H locs hw hW hS => ?_)
      have hW : zPD D _ [] H := hW
      have hw : r9_ = (if (xs 1) < 0 then (-2) else (if 99999 < (xs 1) then (-2) else 60)) := hw
      rw [if_neg c2_] at hw
      rw [if_pos c7_] at hw
      subst hw
      refine lv_icmp_eq (tgt := 1340) hx hb dL_law_686 (by decide) (fun c10_ => ?_) (fun c10_ => absurd (by decide) c10_)
      exact zl_end l C0 hS (lv_sub hl [0, 3] rfl)
    · have b11_ : 0 ≤ Int32.toInt (xs 1) ∧ Int32.toInt (xs 1) ≤ 99999 := (by have u0 := b6_; have u1 := (not_congr (zi_lt _ _)).mp c7_; have u2 : (99999 : Int32).toInt = 99999 := (by decide); omega)
      rw [if_neg c7_] at hw
      subst hw
      refine lv_aload_n hx hb dL_law_677 rfl (lv_at hl 1 rfl) ?_
      refine lv_aload_n hx hb dL_law_678 rfl (lv_at hl 3 rfl) ?_
      refine lv_iload_n hx hb dL_law_679 rfl (lv_at hl 0 rfl) ?_
      refine lv_iconst (v := 1) hx hb dL_law_680 (by decide) ?_
      refine lv_iadd hx hb dL_law_681 ?_
      refine ztop (w := .int 1) (congrArg Value.int (by decide)) ?_
      refine va_sld hx hb hX hbl hbA hS (by unfold vp_in; decide) dL_law_682 ?_
      refine ztop (w := .int (xs 1)) rfl ?_
      refine zgo_i (wr := []) (zrunV (As := [.int (xs 1)]) (rest := [.int 60]) ⟨hx, hb, hml, hown, ht⟩ (zc_X10_late_0 l D y a1 (xs 1) w11 w12 w13 w14 w15 w16 w17 w18 a19 w20 w21 w22 w23 w24 w25 w26 w27 w28 w29 w30 w31 w32 w33 w34 w35 w36 w37 a38 a39 a40 w41 w42 w43 w44 w45 w46 w47 w48 w49 w50 w51 w52 w53 w54 w55 w56 w57 w58 w59 w60 w61 w62 w63 w64 w65 w66 w67 w68 w69 w70 w71 w72 w73 w74 w75 w76 w77) (cwV 1 ht (zgV zm_933 zm_934 zm_935 zm_5 zm_936) rfl rfl rfl (by decide +kernel) ⟨(Nat.le_of_ble_eq_true rfl), (Nat.le_of_ble_eq_true rfl)⟩) hK hE hS hA hW [0, 1, 2, 3, 4] (by decide) rfl 0 rfl rfl rfl rfl hl.1 rfl (Nat.le_of_ble_eq_true rfl) dL_law_683 (Nat.le_of_ble_eq_true rfl) (Nat.le_of_ble_eq_true rfl)) hS hA hW [0, 1, 2, 3, 4] [] rfl rfl (by decide) (by decide) (fun r12_ u H locs hw hW hS => ?_)
      have hW : zPD D _ [] H := hW
      have hw : r12_ = (if (xs 1) < 0 then (-2) else (if 99999 < (xs 1) then (-2) else 60)) := hw
      rw [if_neg c2_] at hw
      rw [if_neg c7_] at hw
      subst hw
      refine lv_icmp_eq (tgt := 1340) hx hb dL_law_686 (by decide) (fun c13_ => ?_) (fun c13_ => absurd (by decide) c13_)
      exact zl_end l C0 hS (lv_sub hl [0, 3] rfl)
set_option maxHeartbeats 8000000 in
set_option maxRecDepth 100000 in
theorem zl_case_17 {p : Program} {e : Env} {s : State} {m : MethodId} {below : List Frame} {meth : Method} {c : Code} (l : Launch) {b : Nat} {xs : Nat → Int32} (C0 : lw_At p s m meth c b 6 xs) (D : va_G) (y : Nat → ClassId) (a0 : Nat) (a1 : Nat) (w2 : Value) (w3 : Value) (w4 : Value) (a5 : Nat) (w6 : Value) (w7 : Value) (a8 : Nat) (w9 : Value) (w10 : Value) (w11 : Value) (w12 : Value) (w13 : Value) (w14 : Value) (w15 : Value) (w16 : Value) (w17 : Value) (w18 : Value) (a19 : Nat) (w20 : Value) (w21 : Value) (w22 : Value) (w23 : Value) (w24 : Value) (w25 : Value) (w26 : Value) (w27 : Value) (w28 : Value) (w29 : Value) (w30 : Value) (w31 : Value) (w32 : Value) (w33 : Value) (w34 : Value) (w35 : Value) (w36 : Value) (w37 : Value) (a38 : Nat) (a39 : Nat) (a40 : Nat) (w41 : Value) (w42 : Value) (w43 : Value) (w44 : Value) (w45 : Value) (w46 : Value) (w47 : Value) (w48 : Value) (w49 : Value) (w50 : Value) (w51 : Value) (w52 : Value) (w53 : Value) (w54 : Value) (w55 : Value) (w56 : Value) (w57 : Value) (w58 : Value) (w59 : Value) (w60 : Value) (w61 : Value) (w62 : Value) (w63 : Value) (w64 : Value) (w65 : Value) (w66 : Value) (w67 : Value) (w68 : Value) (w69 : Value) (w70 : Value) (w71 : Value) (w72 : Value) (w73 : Value) (w74 : Value) (w75 : Value) (w76 : Value) (w77 : Value) (w78 : Value) (w79 : Value) (a80 : Nat) (a81 : Nat) (w82 : Value) (w83 : Value) (w84 : Value) (w85 : Value) (w86 : Value) (w87 : Value) (w88 : Value) (a89 : Nat) (w90 : Value) (w91 : Value) (w92 : Value) (w93 : Value) (w94 : Value) (w95 : Value) (w96 : Value) (w97 : Value) (w98 : Value) (hK : zK D y s) (hE : zE y (fun q : Nat => s.heap.size ≤ q) s s.heap) {H : Heap} {locs : List Loc} {ls : Array Slot} (hS : va_S (fun q : Nat => s.heap.size ≤ q) s.heap H locs) (hW : zPD D (fun q : Nat => s.heap.size ≤ q) [(a0, .inr (8, [w2, w3, w4, .ref a5, w6, w7, .ref a8, w9, w10])), (a1, .inr (9, [.int 0, .int 0, w11, .int 20, w12, .int 0, .int 0, w13, w14, w15, w16, w17, w18, .ref a19, w20, .int (-1), w21, w22, w23, w24, w25, w26, w27, w28, w29, w30, w31, w32, w33, w34, w35, w36, .int 0, w37, .ref a38, .int 0, .ref a39, .int 0, .ref a40, w41, w42, w43, w44, w45, w46, w47, w48, w49, w50, w51, w52, w53, w54, w55, w56, w57, w58, w59, w60, w61, w62, w63, w64, w65, w66, w67, w68, w69, w70, w71, w72, w73, w74, w75, w76, w77])), (a5, .inr (6, [w78, .int 0, .int 20, .int 0, .int 0, w79, .int 0, .int 0, .ref a80, .ref a81, w82, w83])), (a8, .inr (1, [.ref a5, .int 0, .int 0, w84, w85, w86, w87, w88, .ref a89])), (a19, .inl (y 2, 7, .inl (fun _ => 0))), (a38, .inl (y 0, 7, .inl (fun _ => 0))), (a39, .inl (y 0, 7, .inl (fun _ => 0))), (a40, .inl (y 0, 7, .inl (fun _ => 0))), (a80, .inr (2, [w90, .int 15, w91, w92, w93, w94, w95, w96])), (a81, .inr (5, [.int 0, w97, w98])), (a89, .inl (y 2, 4, .inl (fun _ => 0)))] H) (hl : lv_has ls 4 [(3, .int 0), (2, .ref a1), (1, .ref a0), (0, .ref b)]) : W p l e room_1 s m #[Value.ref b] below meth c H locs 1000 20000 (lw_Z below #[Value.ref b] s) (F0 m 691 ls []) := by
  obtain ⟨hx, hb, hr, hml, hown, hts, hX, hbl, hlocks, hgv⟩ := id C0
  have ht : ∀ w ∈ zT, w.before #[Value.ref b] s = true := fun w h => hts w (zgin w h).1
  have hown : s.vm.findClass RL = some m.cls := hown
  have hA : ∀ q : Nat, s.heap.size ≤ q → (fun q : Nat => s.heap.size ≤ q) q := fun _ h => h
  have hbA : ¬ (fun q : Nat => s.heap.size ≤ q) b := Nat.not_le.mpr hbl
  refine lv_aload_n hx hb dL_law_691 rfl (lv_at hl 2 rfl) ?_
  refine zgo_i (wr := [(a1, .inr (9, [.int 0, .int 0, w11, .int 20, w12, .int 0, .int 0, w13, w14, w15, w16, w17, w18, .ref a19, w20, .int (-1), w21, w22, w23, w24, w25, w26, w27, w28, w29, w30, w31, w32, w33, w34, w35, w36, .int 0, w37, .ref a38, .int 0, .ref a39, .int 0, .ref a40, w41, w42, w43, w44, w45, w46, w47, w48, w49, w50, w51, w52, w53, w54, w55, w56, w57, w58, w59, w60, w61, w62, w63, w64, w65, w66, w67, w68, w69, w70, w71, w72, w73, w74, w75, w76, w77])), (a19, .inl (y 2, 7, .inl (fun _ => 0))), (a38, .inl (y 0, 7, .inl (fun _ => 0))), (a39, .inl (y 0, 7, .inl (fun _ => 0))), (a40, .inl (y 0, 7, .inl (fun _ => 0)))]) (zrunV (As := []) (rest := []) ⟨hx, hb, hml, hown, ht⟩ (zc_X9_leave_0 l D y a0 w2 w3 w4 a5 w6 w7 a8 w9 w10 w78 w79 a80 a81 w82 w83 w84 w85 w86 w87 w88 a89 w90 w91 w92 w93 w94 w95 w96 w97 w98) (cwV 0 ht (zgV zm_941 zm_942 zm_943 zm_2 zm_944) rfl rfl rfl (by decide +kernel) ⟨(Nat.le_of_ble_eq_true rfl), (Nat.le_of_ble_eq_true rfl)⟩) hK hE hS hA hW [0, 2, 3, 8, 9, 10] (by decide) rfl 0 rfl rfl rfl rfl hl.1 rfl (Nat.le_of_ble_eq_true rfl) dL_law_692 (Nat.le_of_ble_eq_true rfl) (Nat.le_of_ble_eq_true rfl)) hS hA hW [0, 2, 3, 8, 9, 10] [1, 4, 5, 6, 7] rfl rfl (by decide) (by decide) (fun r1_ u H locs hw hW hS => ?_)
  have hW : zPD D _ [(a1, .inr (9, [.int 0, .int 0, w11, .int 20, w12, .int 0, .int 0, w13, w14, w15, w16, w17, w18, .ref a19, w20, .int (-1), w21, w22, w23, w24, w25, w26, w27, w28, w29, w30, w31, w32, w33, w34, w35, w36, .int 0, w37, .ref a38, .int 0, .ref a39, .int 0, .ref a40, w41, w42, w43, w44, w45, w46, w47, w48, w49, w50, w51, w52, w53, w54, w55, w56, w57, w58, w59, w60, w61, w62, w63, w64, w65, w66, w67, w68, w69, w70, w71, w72, w73, w74, w75, w76, w77])), (a19, .inl (y 2, 7, .inl (fun _ => 0))), (a38, .inl (y 0, 7, .inl (fun _ => 0))), (a39, .inl (y 0, 7, .inl (fun _ => 0))), (a40, .inl (y 0, 7, .inl (fun _ => 0)))] H := hW
  have hw : r1_ = 0 := hw
  subst hw
  refine lv_aload_n hx hb dL_law_695 rfl (lv_at hl 1 rfl) ?_
  refine zgo_i (wr := []) (zrunV (As := []) (rest := [.int 0]) ⟨hx, hb, hml, hown, ht⟩ (zc_X10_leave_0 l D y a1 w11 w12 w13 w14 w15 w16 w17 w18 a19 w20 w21 w22 w23 w24 w25 w26 w27 w28 w29 w30 w31 w32 w33 w34 w35 w36 w37 a38 a39 a40 w41 w42 w43 w44 w45 w46 w47 w48 w49 w50 w51 w52 w53 w54 w55 w56 w57 w58 w59 w60 w61 w62 w63 w64 w65 w66 w67 w68 w69 w70 w71 w72 w73 w74 w75 w76 w77) (cwV 0 ht (zgV zm_950 zm_951 zm_952 zm_5 zm_953) rfl rfl rfl (by decide +kernel) ⟨(Nat.le_of_ble_eq_true rfl), (Nat.le_of_ble_eq_true rfl)⟩) hK hE hS hA hW [0, 1, 2, 3, 4] (by decide) rfl 0 rfl rfl rfl rfl hl.1 rfl (Nat.le_of_ble_eq_true rfl) dL_law_696 (Nat.le_of_ble_eq_true rfl) (Nat.le_of_ble_eq_true rfl)) hS hA hW [0, 1, 2, 3, 4] [] rfl rfl (by decide) (by decide) (fun r2_ u H locs hw hW hS => ?_)
  have hW : zPD D _ [] H := hW
  have hw : r2_ = 0 := hw
  subst hw
  refine lv_icmp_eq (tgt := 1340) hx hb dL_law_699 (by decide) (fun c3_ => ?_) (fun c3_ => absurd (by decide) c3_)
  exact zl_end l C0 hS (lv_sub hl [0, 3] rfl)
set_option maxHeartbeats 8000000 in
set_option maxRecDepth 100000 in
theorem zl_case_18 {p : Program} {e : Env} {s : State} {m : MethodId} {below : List Frame} {meth : Method} {c : Code} (l : Launch) {b : Nat} {xs : Nat → Int32} (C0 : lw_At p s m meth c b 6 xs) (D : va_G) (y : Nat → ClassId) (a0 : Nat) (a1 : Nat) (w2 : Value) (w3 : Value) (w4 : Value) (w5 : Value) (w6 : Value) (w7 : Value) (a8 : Nat) (w9 : Value) (w10 : Value) (w11 : Value) (w12 : Value) (w13 : Value) (w14 : Value) (w15 : Value) (w16 : Value) (w17 : Value) (w18 : Value) (a19 : Nat) (w20 : Value) (w21 : Value) (w22 : Value) (w23 : Value) (w24 : Value) (w25 : Value) (w26 : Value) (w27 : Value) (w28 : Value) (w29 : Value) (w30 : Value) (w31 : Value) (w32 : Value) (w33 : Value) (w34 : Value) (w35 : Value) (w36 : Value) (w37 : Value) (a38 : Nat) (a39 : Nat) (a40 : Nat) (w41 : Value) (w42 : Value) (w43 : Value) (w44 : Value) (w45 : Value) (w46 : Value) (w47 : Value) (w48 : Value) (w49 : Value) (w50 : Value) (w51 : Value) (w52 : Value) (w53 : Value) (w54 : Value) (w55 : Value) (w56 : Value) (w57 : Value) (w58 : Value) (w59 : Value) (w60 : Value) (w61 : Value) (w62 : Value) (w63 : Value) (w64 : Value) (w65 : Value) (w66 : Value) (w67 : Value) (w68 : Value) (w69 : Value) (w70 : Value) (w71 : Value) (w72 : Value) (w73 : Value) (w74 : Value) (w75 : Value) (w76 : Value) (w77 : Value) (a78 : Nat) (w79 : Value) (w80 : Value) (w81 : Value) (w82 : Value) (w83 : Value) (a84 : Nat) (w85 : Value) (w86 : Value) (a87 : Nat) (a88 : Nat) (w89 : Value) (w90 : Value) (w91 : Value) (w92 : Value) (w93 : Value) (w94 : Value) (w95 : Value) (w96 : Value) (w97 : Value) (w98 : Value) (w99 : Value) (hK : zK D y s) (hE : zE y (fun q : Nat => s.heap.size ≤ q) s s.heap) {H : Heap} {locs : List Loc} {ls : Array Slot} (hS : va_S (fun q : Nat => s.heap.size ≤ q) s.heap H locs) (hW : zPD D (fun q : Nat => s.heap.size ≤ q) [(a0, .inr (8, [w2, w3, w4, w5, w6, w7, .ref a8, w9, w10])), (a1, .inr (9, [.int 0, .int 0, w11, .int 20, w12, .int 0, .int 0, w13, w14, w15, w16, w17, w18, .ref a19, w20, .int (-1), w21, w22, w23, w24, w25, w26, w27, w28, w29, w30, w31, w32, w33, w34, w35, w36, .int 0, w37, .ref a38, .int 0, .ref a39, .int 0, .ref a40, w41, w42, w43, w44, w45, w46, w47, w48, w49, w50, w51, w52, w53, w54, w55, w56, w57, w58, w59, w60, w61, w62, w63, w64, w65, w66, w67, w68, w69, w70, w71, w72, w73, w74, w75, w76, w77])), (a8, .inr (1, [.ref a78, .int 0, .int 0, w79, w80, w81, w82, w83, .ref a84])), (a19, .inl (y 2, 7, .inl (fun _ => 0))), (a38, .inl (y 0, 7, .inl (fun _ => 0))), (a39, .inl (y 0, 7, .inl (fun _ => 0))), (a40, .inl (y 0, 7, .inl (fun _ => 0))), (a78, .inr (6, [w85, .int 0, .int 20, .int 0, .int 0, w86, .int 0, .int 0, .ref a87, .ref a88, w89, w90])), (a84, .inl (y 2, 4, .inl (fun _ => 0))), (a87, .inr (2, [w91, .int 15, w92, w93, w94, w95, w96, w97])), (a88, .inr (5, [.int 0, w98, w99]))] H) (hl : lv_has ls 4 [(3, .int 0), (2, .ref a1), (1, .ref a0), (0, .ref b)]) : W p l e room_1 s m #[Value.ref b] below meth c H locs 1000 20000 (lw_Z below #[Value.ref b] s) (F0 m 704 ls []) := by
  obtain ⟨hx, hb, hr, hml, hown, hts, hX, hbl, hlocks, hgv⟩ := id C0
  have ht : ∀ w ∈ zT, w.before #[Value.ref b] s = true := fun w h => hts w (zgin w h).1
  have hown : s.vm.findClass RL = some m.cls := hown
  have hA : ∀ q : Nat, s.heap.size ≤ q → (fun q : Nat => s.heap.size ≤ q) q := fun _ h => h
  have hbA : ¬ (fun q : Nat => s.heap.size ≤ q) b := Nat.not_le.mpr hbl
  refine lv_aload_n hx hb dL_law_704 rfl (lv_at hl 2 rfl) ?_
  refine lv_aload_n hx hb dL_law_705 rfl (lv_at hl 3 rfl) ?_
  refine lv_iload_n hx hb dL_law_706 rfl (lv_at hl 0 rfl) ?_
  refine lv_iconst (v := 1) hx hb dL_law_707 (by decide) ?_
  refine lv_iadd hx hb dL_law_708 ?_
  refine ztop (w := .int 1) (congrArg Value.int (by decide)) ?_
  refine va_sld hx hb hX hbl hbA hS (by unfold vp_in; decide) dL_law_709 ?_
  refine ztop (w := .int (xs 1)) rfl ?_
  refine zgo_i (wr := [(a1, .inr (9, [.int 0, .int 0, w11, .int 20, w12, .int 0, .int 0, w13, w14, w15, w16, w17, w18, .ref a19, w20, .int (-1), w21, w22, w23, w24, w25, w26, w27, w28, w29, w30, w31, w32, w33, w34, w35, w36, .int 0, w37, .ref a38, .int 0, .ref a39, .int 0, .ref a40, w41, w42, w43, w44, w45, w46, w47, w48, w49, w50, w51, w52, w53, w54, w55, w56, w57, w58, w59, w60, w61, w62, w63, w64, w65, w66, w67, w68, w69, w70, w71, w72, w73, w74, w75, w76, w77])), (a19, .inl (y 2, 7, .inl (fun _ => 0))), (a38, .inl (y 0, 7, .inl (fun _ => 0))), (a39, .inl (y 0, 7, .inl (fun _ => 0))), (a40, .inl (y 0, 7, .inl (fun _ => 0)))]) (zrunV (As := [.int (xs 1)]) (rest := []) ⟨hx, hb, hml, hown, ht⟩ (zc_X9_two_0 l D y a0 (xs 1) w2 w3 w4 w5 w6 w7 a8 w9 w10 a78 w79 w80 w81 w82 w83 a84 w85 w86 a87 a88 w89 w90 w91 w92 w93 w94 w95 w96 w97 w98 w99) (cwV 1 ht (zgV zm_954 zm_955 zm_956 zm_2 zm_957) rfl rfl rfl (by decide +kernel) ⟨(Nat.le_of_ble_eq_true rfl), (Nat.le_of_ble_eq_true rfl)⟩) hK hE hS hA hW [0, 2, 7, 8, 9, 10] (by decide) rfl 0 rfl rfl rfl rfl hl.1 rfl (Nat.le_of_ble_eq_true rfl) dL_law_710 (Nat.le_of_ble_eq_true rfl) (Nat.le_of_ble_eq_true rfl)) hS hA hW [0, 2, 7, 8, 9, 10] [1, 3, 4, 5, 6] rfl rfl (by decide) (by decide) (fun r1_ u H locs hw hW hS => ?_)
  have hW : zPD D _ [(a1, .inr (9, [.int 0, .int 0, w11, .int 20, w12, .int 0, .int 0, w13, w14, w15, w16, w17, w18, .ref a19, w20, .int (-1), w21, w22, w23, w24, w25, w26, w27, w28, w29, w30, w31, w32, w33, w34, w35, w36, .int 0, w37, .ref a38, .int 0, .ref a39, .int 0, .ref a40, w41, w42, w43, w44, w45, w46, w47, w48, w49, w50, w51, w52, w53, w54, w55, w56, w57, w58, w59, w60, w61, w62, w63, w64, w65, w66, w67, w68, w69, w70, w71, w72, w73, w74, w75, w76, w77])), (a19, .inl (y 2, 7, .inl (fun _ => 0))), (a38, .inl (y 0, 7, .inl (fun _ => 0))), (a39, .inl (y 0, 7, .inl (fun _ => 0))), (a40, .inl (y 0, 7, .inl (fun _ => 0)))] H := hW
  have hw : r1_ = (if (xs 1) < 0 then (-1) else (if 1 < (xs 1) then (-1) else 0)) := hw
  by_cases c2_ : (xs 1) < 0
  · have b3_ : (-2147483648) ≤ Int32.toInt (xs 1) ∧ Int32.toInt (xs 1) ≤ (-1) := (by have u0 := zbnd (xs 1); have u1 := (zi_lt _ _).mp c2_; have u2 : (0 : Int32).toInt = 0 := (by decide); omega)
    rw [if_pos c2_] at hw
    subst hw
    refine lv_aload_n hx hb dL_law_713 rfl (lv_at hl 1 rfl) ?_
    refine lv_aload_n hx hb dL_law_714 rfl (lv_at hl 3 rfl) ?_
    refine lv_iload_n hx hb dL_law_715 rfl (lv_at hl 0 rfl) ?_
    refine lv_iconst (v := 1) hx hb dL_law_716 (by decide) ?_
    refine lv_iadd hx hb dL_law_717 ?_
    refine ztop (w := .int 1) (congrArg Value.int (by decide)) ?_
    refine va_sld hx hb hX hbl hbA hS (by unfold vp_in; decide) dL_law_718 ?_
    refine ztop (w := .int (xs 1)) rfl ?_
    refine zgo_i (wr := []) (zrunV (As := [.int (xs 1)]) (rest := [.int (-1)]) ⟨hx, hb, hml, hown, ht⟩ (zc_X10_two_0 l D y a1 (xs 1) w11 w12 w13 w14 w15 w16 w17 w18 a19 w20 w21 w22 w23 w24 w25 w26 w27 w28 w29 w30 w31 w32 w33 w34 w35 w36 w37 a38 a39 a40 w41 w42 w43 w44 w45 w46 w47 w48 w49 w50 w51 w52 w53 w54 w55 w56 w57 w58 w59 w60 w61 w62 w63 w64 w65 w66 w67 w68 w69 w70 w71 w72 w73 w74 w75 w76 w77) (cwV 1 ht (zgV zm_962 zm_963 zm_964 zm_5 zm_965) rfl rfl rfl (by decide +kernel) ⟨(Nat.le_of_ble_eq_true rfl), (Nat.le_of_ble_eq_true rfl)⟩) hK hE hS hA hW [0, 1, 2, 3, 4] (by decide) rfl 0 rfl rfl rfl rfl hl.1 rfl (Nat.le_of_ble_eq_true rfl) dL_law_719 (Nat.le_of_ble_eq_true rfl) (Nat.le_of_ble_eq_true rfl)) hS hA hW [0, 1, 2, 3, 4] [] rfl rfl (by decide) (by decide) (fun r4_ u H locs hw hW hS => ?_)
    have hW : zPD D _ [] H := hW
    have hw : r4_ = (if (xs 1) < 0 then (-1) else (if 1 < (xs 1) then (-1) else 0)) := hw
    rw [if_pos c2_] at hw
    subst hw
    refine lv_icmp_eq (tgt := 1340) hx hb dL_law_722 (by decide) (fun c5_ => ?_) (fun c5_ => absurd (by decide) c5_)
    exact zl_end l C0 hS (lv_sub hl [0, 3] rfl)
  · have b6_ : 0 ≤ Int32.toInt (xs 1) ∧ Int32.toInt (xs 1) ≤ 2147483647 := (by have u0 := zbnd (xs 1); have u1 := (not_congr (zi_lt _ _)).mp c2_; have u2 : (0 : Int32).toInt = 0 := (by decide); omega)
    rw [if_neg c2_] at hw
    by_cases c7_ : 1 < (xs 1)
    · have b8_ : 2 ≤ Int32.toInt (xs 1) ∧ Int32.toInt (xs 1) ≤ 2147483647 := (by have u0 := b6_; have u1 := (zi_lt _ _).mp c7_; have u2 : (1 : Int32).toInt = 1 := (by decide); omega)
      rw [if_pos c7_] at hw
      subst hw
      refine lv_aload_n hx hb dL_law_713 rfl (lv_at hl 1 rfl) ?_
      refine lv_aload_n hx hb dL_law_714 rfl (lv_at hl 3 rfl) ?_
      refine lv_iload_n hx hb dL_law_715 rfl (lv_at hl 0 rfl) ?_
      refine lv_iconst (v := 1) hx hb dL_law_716 (by decide) ?_
      refine lv_iadd hx hb dL_law_717 ?_
      refine ztop (w := .int 1) (congrArg Value.int (by decide)) ?_
      refine va_sld hx hb hX hbl hbA hS (by unfold vp_in; decide) dL_law_718 ?_
      refine ztop (w := .int (xs 1)) rfl ?_
      refine zgo_i (wr := []) (zrunV (As := [.int (xs 1)]) (rest := [.int (-1)]) ⟨hx, hb, hml, hown, ht⟩ (zc_X10_two_0 l D y a1 (xs 1) w11 w12 w13 w14 w15 w16 w17 w18 a19 w20 w21 w22 w23 w24 w25 w26 w27 w28 w29 w30 w31 w32 w33 w34 w35 w36 w37 a38 a39 a40 w41 w42 w43 w44 w45 w46 w47 w48 w49 w50 w51 w52 w53 w54 w55 w56 w57 w58 w59 w60 w61 w62 w63 w64 w65 w66 w67 w68 w69 w70 w71 w72 w73 w74 w75 w76 w77) (cwV 1 ht (zgV zm_962 zm_963 zm_964 zm_5 zm_965) rfl rfl rfl (by decide +kernel) ⟨(Nat.le_of_ble_eq_true rfl), (Nat.le_of_ble_eq_true rfl)⟩) hK hE hS hA hW [0, 1, 2, 3, 4] (by decide) rfl 0 rfl rfl rfl rfl hl.1 rfl (Nat.le_of_ble_eq_true rfl) dL_law_719 (Nat.le_of_ble_eq_true rfl) (Nat.le_of_ble_eq_true rfl)) hS hA hW [0, 1, 2, 3, 4] [] rfl rfl (by decide) (by decide) (fun r9_ u H locs hw hW hS => ?_)
      have hW : zPD D _ [] H := hW
      have hw : r9_ = (if (xs 1) < 0 then (-1) else (if 1 < (xs 1) then (-1) else 0)) := hw
      rw [if_neg c2_] at hw
      rw [if_pos c7_] at hw
      subst hw
      refine lv_icmp_eq (tgt := 1340) hx hb dL_law_722 (by decide) (fun c10_ => ?_) (fun c10_ => absurd (by decide) c10_)
      exact zl_end l C0 hS (lv_sub hl [0, 3] rfl)
    · have b11_ : 0 ≤ Int32.toInt (xs 1) ∧ Int32.toInt (xs 1) ≤ 1 := (by have u0 := b6_; have u1 := (not_congr (zi_lt _ _)).mp c7_; have u2 : (1 : Int32).toInt = 1 := (by decide); omega)
      rw [if_neg c7_] at hw
      subst hw
      refine lv_aload_n hx hb dL_law_713 rfl (lv_at hl 1 rfl) ?_
      refine lv_aload_n hx hb dL_law_714 rfl (lv_at hl 3 rfl) ?_
      refine lv_iload_n hx hb dL_law_715 rfl (lv_at hl 0 rfl) ?_
      refine lv_iconst (v := 1) hx hb dL_law_716 (by decide) ?_
      refine lv_iadd hx hb dL_law_717 ?_
      refine ztop (w := .int 1) (congrArg Value.int (by decide)) ?_
      refine va_sld hx hb hX hbl hbA hS (by unfold vp_in; decide) dL_law_718 ?_
      refine ztop (w := .int (xs 1)) rfl ?_
      refine zgo_i (wr := []) (zrunV (As := [.int (xs 1)]) (rest := [.int 0]) ⟨hx, hb, hml, hown, ht⟩ (zc_X10_two_0 l D y a1 (xs 1) w11 w12 w13 w14 w15 w16 w17 w18 a19 w20 w21 w22 w23 w24 w25 w26 w27 w28 w29 w30 w31 w32 w33 w34 w35 w36 w37 a38 a39 a40 w41 w42 w43 w44 w45 w46 w47 w48 w49 w50 w51 w52 w53 w54 w55 w56 w57 w58 w59 w60 w61 w62 w63 w64 w65 w66 w67 w68 w69 w70 w71 w72 w73 w74 w75 w76 w77) (cwV 1 ht (zgV zm_962 zm_963 zm_964 zm_5 zm_965) rfl rfl rfl (by decide +kernel) ⟨(Nat.le_of_ble_eq_true rfl), (Nat.le_of_ble_eq_true rfl)⟩) hK hE hS hA hW [0, 1, 2, 3, 4] (by decide) rfl 0 rfl rfl rfl rfl hl.1 rfl (Nat.le_of_ble_eq_true rfl) dL_law_719 (Nat.le_of_ble_eq_true rfl) (Nat.le_of_ble_eq_true rfl)) hS hA hW [0, 1, 2, 3, 4] [] rfl rfl (by decide) (by decide) (fun r12_ u H locs hw hW hS => ?_)
      have hW : zPD D _ [] H := hW
      have hw : r12_ = (if (xs 1) < 0 then (-1) else (if 1 < (xs 1) then (-1) else 0)) := hw
      rw [if_neg c2_] at hw
      rw [if_neg c7_] at hw
      subst hw
      refine lv_icmp_eq (tgt := 1340) hx hb dL_law_722 (by decide) (fun c13_ => ?_) (fun c13_ => absurd (by decide) c13_)
      exact zl_end l C0 hS (lv_sub hl [0, 3] rfl)
set_option maxHeartbeats 8000000 in
set_option maxRecDepth 100000 in
theorem zl_case_19 {p : Program} {e : Env} {s : State} {m : MethodId} {below : List Frame} {meth : Method} {c : Code} (l : Launch) {b : Nat} {xs : Nat → Int32} (C0 : lw_At p s m meth c b 6 xs) (D : va_G) (y : Nat → ClassId) (a0 : Nat) (a1 : Nat) (w2 : Value) (w3 : Value) (w4 : Value) (a5 : Nat) (w6 : Value) (w7 : Value) (w8 : Value) (w9 : Value) (w10 : Value) (w11 : Value) (w12 : Value) (w13 : Value) (w14 : Value) (w15 : Value) (w16 : Value) (w17 : Value) (w18 : Value) (w19 : Value) (w20 : Value) (w21 : Value) (w22 : Value) (w23 : Value) (w24 : Value) (w25 : Value) (w26 : Value) (w27 : Value) (w28 : Value) (w29 : Value) (w30 : Value) (w31 : Value) (w32 : Value) (w33 : Value) (w34 : Value) (w35 : Value) (w36 : Value) (w37 : Value) (w38 : Value) (w39 : Value) (w40 : Value) (w41 : Value) (w42 : Value) (w43 : Value) (w44 : Value) (w45 : Value) (w46 : Value) (w47 : Value) (w48 : Value) (w49 : Value) (w50 : Value) (w51 : Value) (w52 : Value) (w53 : Value) (w54 : Value) (w55 : Value) (w56 : Value) (w57 : Value) (w58 : Value) (w59 : Value) (w60 : Value) (w61 : Value) (w62 : Value) (w63 : Value) (w64 : Value) (w65 : Value) (w66 : Value) (w67 : Value) (w68 : Value) (w69 : Value) (w70 : Value) (w71 : Value) (w72 : Value) (w73 : Value) (w74 : Value) (w75 : Value) (w76 : Value) (w77 : Value) (w78 : Value) (w79 : Value) (w80 : Value) (w81 : Value) (w82 : Value) (w83 : Value) (w84 : Value) (w85 : Value) (w86 : Value) (w87 : Value) (w88 : Value) (w89 : Value) (w90 : Value) (w91 : Value) (w92 : Value) (w93 : Value) (w94 : Value) (w95 : Value) (w96 : Value) (hK : zK D y s) (hE : zE y (fun q : Nat => s.heap.size ≤ q) s s.heap) {H : Heap} {locs : List Loc} {ls : Array Slot} (hS : va_S (fun q : Nat => s.heap.size ≤ q) s.heap H locs) (hW : zPD D (fun q : Nat => s.heap.size ≤ q) [(a0, .inr (8, [w2, w3, w4, .ref a5, w6, w7, w8, w9, w10])), (a1, .inr (9, [.int 0, w11, w12, w13, w14, w15, w16, w17, w18, w19, w20, w21, w22, w23, w24, w25, w26, w27, w28, w29, w30, w31, w32, w33, w34, w35, w36, w37, w38, w39, w40, w41, w42, w43, w44, w45, w46, w47, w48, w49, w50, w51, w52, w53, w54, w55, w56, w57, w58, w59, w60, w61, w62, w63, w64, w65, w66, w67, w68, w69, w70, w71, w72, w73, w74, w75, w76, w77, w78, w79, w80, w81, w82, w83, w84, w85])), (a5, .inr (6, [w86, .int 0, w87, w88, w89, w90, w91, w92, w93, w94, w95, w96]))] H) (hl : lv_has ls 4 [(3, .int 0), (2, .ref a1), (1, .ref a0), (0, .ref b)]) : W p l e room_1 s m #[Value.ref b] below meth c H locs 1000 20000 (lw_Z below #[Value.ref b] s) (F0 m 727 ls []) := by
  obtain ⟨hx, hb, hr, hml, hown, hts, hX, hbl, hlocks, hgv⟩ := id C0
  have ht : ∀ w ∈ zT, w.before #[Value.ref b] s = true := fun w h => hts w (zgin w h).1
  have hown : s.vm.findClass RL = some m.cls := hown
  have hA : ∀ q : Nat, s.heap.size ≤ q → (fun q : Nat => s.heap.size ≤ q) q := fun _ h => h
  have hbA : ¬ (fun q : Nat => s.heap.size ≤ q) b := Nat.not_le.mpr hbl
  refine lv_aload_n hx hb dL_law_727 rfl (lv_at hl 2 rfl) ?_
  refine lv_aload_n hx hb dL_law_728 rfl (lv_at hl 3 rfl) ?_
  refine lv_iload_n hx hb dL_law_729 rfl (lv_at hl 0 rfl) ?_
  refine lv_iconst (v := 1) hx hb dL_law_730 (by decide) ?_
  refine lv_iadd hx hb dL_law_731 ?_
  refine ztop (w := .int 1) (congrArg Value.int (by decide)) ?_
  refine va_sld hx hb hX hbl hbA hS (by unfold vp_in; decide) dL_law_732 ?_
  refine ztop (w := .int (xs 1)) rfl ?_
  refine zgo_i (wr := [(a1, .inr (9, [.int 0, w11, w12, w13, w14, w15, w16, w17, w18, w19, w20, w21, w22, w23, w24, w25, w26, w27, w28, w29, w30, w31, w32, w33, w34, w35, w36, w37, w38, w39, w40, w41, w42, w43, w44, w45, w46, w47, w48, w49, w50, w51, w52, w53, w54, w55, w56, w57, w58, w59, w60, w61, w62, w63, w64, w65, w66, w67, w68, w69, w70, w71, w72, w73, w74, w75, w76, w77, w78, w79, w80, w81, w82, w83, w84, w85]))]) (zrunV (As := [.int (xs 1)]) (rest := []) ⟨hx, hb, hml, hown, ht⟩ (zc_X9_worth_0 l D y a0 (xs 1) w2 w3 w4 a5 w6 w7 w8 w9 w10 w86 w87 w88 w89 w90 w91 w92 w93 w94 w95 w96) (cwV 1 ht (zgV zm_966 zm_967 zm_968 zm_2 zm_969) rfl rfl rfl (by decide +kernel) ⟨(Nat.le_of_ble_eq_true rfl), (Nat.le_of_ble_eq_true rfl)⟩) hK hE hS hA hW [0, 2] (by decide) rfl 0 rfl rfl rfl rfl hl.1 rfl (Nat.le_of_ble_eq_true rfl) dL_law_733 (Nat.le_of_ble_eq_true rfl) (Nat.le_of_ble_eq_true rfl)) hS hA hW [0, 2] [1] rfl rfl (by decide) (by decide) (fun r1_ u H locs hw hW hS => ?_)
  have hW : zPD D _ [(a1, .inr (9, [.int 0, w11, w12, w13, w14, w15, w16, w17, w18, w19, w20, w21, w22, w23, w24, w25, w26, w27, w28, w29, w30, w31, w32, w33, w34, w35, w36, w37, w38, w39, w40, w41, w42, w43, w44, w45, w46, w47, w48, w49, w50, w51, w52, w53, w54, w55, w56, w57, w58, w59, w60, w61, w62, w63, w64, w65, w66, w67, w68, w69, w70, w71, w72, w73, w74, w75, w76, w77, w78, w79, w80, w81, w82, w83, w84, w85]))] H := hW
  have hw : r1_ = (-1) := hw
  subst hw
  refine lv_aload_n hx hb dL_law_736 rfl (lv_at hl 1 rfl) ?_
  refine lv_aload_n hx hb dL_law_737 rfl (lv_at hl 3 rfl) ?_
  refine lv_iload_n hx hb dL_law_738 rfl (lv_at hl 0 rfl) ?_
  refine lv_iconst (v := 1) hx hb dL_law_739 (by decide) ?_
  refine lv_iadd hx hb dL_law_740 ?_
  refine ztop (w := .int 1) (congrArg Value.int (by decide)) ?_
  refine va_sld hx hb hX hbl hbA hS (by unfold vp_in; decide) dL_law_741 ?_
  refine ztop (w := .int (xs 1)) rfl ?_
  refine zgo_i (wr := []) (zrunV (As := [.int (xs 1)]) (rest := [.int (-1)]) ⟨hx, hb, hml, hown, ht⟩ (zc_X10_worth_0 l D y a1 (xs 1) w11 w12 w13 w14 w15 w16 w17 w18 w19 w20 w21 w22 w23 w24 w25 w26 w27 w28 w29 w30 w31 w32 w33 w34 w35 w36 w37 w38 w39 w40 w41 w42 w43 w44 w45 w46 w47 w48 w49 w50 w51 w52 w53 w54 w55 w56 w57 w58 w59 w60 w61 w62 w63 w64 w65 w66 w67 w68 w69 w70 w71 w72 w73 w74 w75 w76 w77 w78 w79 w80 w81 w82 w83 w84 w85) (cwV 1 ht (zgV zm_971 zm_972 zm_973 zm_5 zm_974) rfl rfl rfl (by decide +kernel) ⟨(Nat.le_of_ble_eq_true rfl), (Nat.le_of_ble_eq_true rfl)⟩) hK hE hS hA hW [0] (by decide) rfl 0 rfl rfl rfl rfl hl.1 rfl (Nat.le_of_ble_eq_true rfl) dL_law_742 (Nat.le_of_ble_eq_true rfl) (Nat.le_of_ble_eq_true rfl)) hS hA hW [0] [] rfl rfl (by decide) (by decide) (fun r2_ u H locs hw hW hS => ?_)
  have hW : zPD D _ [] H := hW
  have hw : r2_ = (-1) := hw
  subst hw
  refine lv_icmp_eq (tgt := 1340) hx hb dL_law_745 (by decide) (fun c3_ => ?_) (fun c3_ => absurd (by decide) c3_)
  exact zl_end l C0 hS (lv_sub hl [0, 3] rfl)
set_option maxHeartbeats 8000000 in
set_option maxRecDepth 100000 in
theorem zl_case_20 {p : Program} {e : Env} {s : State} {m : MethodId} {below : List Frame} {meth : Method} {c : Code} (l : Launch) {b : Nat} {xs : Nat → Int32} (C0 : lw_At p s m meth c b 6 xs) (D : va_G) (y : Nat → ClassId) (a0 : Nat) (a1 : Nat) (w2 : Value) (w3 : Value) (w4 : Value) (w5 : Value) (w6 : Value) (w7 : Value) (a8 : Nat) (w9 : Value) (w10 : Value) (w11 : Value) (w12 : Value) (w13 : Value) (w14 : Value) (w15 : Value) (w16 : Value) (w17 : Value) (w18 : Value) (w19 : Value) (a20 : Nat) (w21 : Value) (w22 : Value) (w23 : Value) (w24 : Value) (w25 : Value) (w26 : Value) (w27 : Value) (w28 : Value) (w29 : Value) (w30 : Value) (w31 : Value) (w32 : Value) (w33 : Value) (w34 : Value) (w35 : Value) (w36 : Value) (w37 : Value) (w38 : Value) (a39 : Nat) (w40 : Value) (w41 : Value) (w42 : Value) (w43 : Value) (w44 : Value) (w45 : Value) (w46 : Value) (w47 : Value) (w48 : Value) (w49 : Value) (w50 : Value) (w51 : Value) (w52 : Value) (w53 : Value) (w54 : Value) (w55 : Value) (w56 : Value) (w57 : Value) (w58 : Value) (w59 : Value) (w60 : Value) (w61 : Value) (w62 : Value) (w63 : Value) (w64 : Value) (w65 : Value) (w66 : Value) (w67 : Value) (w68 : Value) (w69 : Value) (w70 : Value) (w71 : Value) (w72 : Value) (w73 : Value) (w74 : Value) (w75 : Value) (w76 : Value) (w77 : Value) (w78 : Value) (w79 : Value) (w80 : Value) (a81 : Nat) (w82 : Value) (w83 : Value) (w84 : Value) (w85 : Value) (w86 : Value) (a87 : Nat) (w88 : Value) (w89 : Value) (w90 : Value) (w91 : Value) (a92 : Nat) (w93 : Value) (w94 : Value) (w95 : Value) (w96 : Value) (w97 : Value) (w98 : Value) (w99 : Value) (w100 : Value) (w101 : Value) (w102 : Value) (hK : zK D y s) (hE : zE y (fun q : Nat => s.heap.size ≤ q) s s.heap) {H : Heap} {locs : List Loc} {ls : Array Slot} (hS : va_S (fun q : Nat => s.heap.size ≤ q) s.heap H locs) (hW : zPD D (fun q : Nat => s.heap.size ≤ q) [(a0, .inr (8, [w2, w3, w4, w5, w6, w7, .ref a8, w9, w10])), (a1, .inr (9, [.int 0, .int 0, w11, .int 20, .int 0, w12, w13, w14, w15, w16, w17, w18, w19, .ref a20, w21, .int (-1), w22, w23, w24, w25, w26, w27, w28, w29, w30, w31, w32, w33, w34, w35, w36, w37, .int 0, w38, .ref a39, w40, w41, w42, w43, w44, w45, w46, w47, w48, w49, w50, w51, w52, w53, w54, w55, w56, w57, w58, w59, w60, w61, w62, w63, w64, w65, w66, w67, w68, w69, w70, w71, w72, w73, w74, w75, w76, w77, w78, w79, w80])), (a8, .inr (1, [.ref a81, .int 0, .int 0, w82, w83, w84, w85, w86, .ref a87])), (a20, .inl (y 2, 7, .inl (fun _ => 0))), (a39, .inl (y 0, 7, .inl (fun _ => 0))), (a81, .inr (6, [w88, .int 0, .int 20, .int 0, .int 0, w89, w90, w91, .ref a92, w93, w94, w95])), (a87, .inl (y 2, 4, .inl (fun _ => 0))), (a92, .inr (2, [w96, .int 15, w97, w98, w99, w100, w101, w102]))] H) (hl : lv_has ls 4 [(3, .int 0), (2, .ref a1), (1, .ref a0), (0, .ref b)]) : W p l e room_1 s m #[Value.ref b] below meth c H locs 1000 20000 (lw_Z below #[Value.ref b] s) (F0 m 750 ls []) := by
  obtain ⟨hx, hb, hr, hml, hown, hts, hX, hbl, hlocks, hgv⟩ := id C0
  have ht : ∀ w ∈ zT, w.before #[Value.ref b] s = true := fun w h => hts w (zgin w h).1
  have hown : s.vm.findClass RL = some m.cls := hown
  have hA : ∀ q : Nat, s.heap.size ≤ q → (fun q : Nat => s.heap.size ≤ q) q := fun _ h => h
  have hbA : ¬ (fun q : Nat => s.heap.size ≤ q) b := Nat.not_le.mpr hbl
  refine lv_aload_n hx hb dL_law_750 rfl (lv_at hl 2 rfl) ?_
  refine lv_aload_n hx hb dL_law_751 rfl (lv_at hl 3 rfl) ?_
  refine lv_iload_n hx hb dL_law_752 rfl (lv_at hl 0 rfl) ?_
  refine lv_iconst (v := 1) hx hb dL_law_753 (by decide) ?_
  refine lv_iadd hx hb dL_law_754 ?_
  refine ztop (w := .int 1) (congrArg Value.int (by decide)) ?_
  refine va_sld hx hb hX hbl hbA hS (by unfold vp_in; decide) dL_law_755 ?_
  refine ztop (w := .int (xs 1)) rfl ?_
  refine zgo_i (wr := [(a1, .inr (9, [.int 0, .int 0, w11, .int 20, .int 0, w12, w13, w14, w15, w16, w17, w18, w19, .ref a20, w21, .int (-1), w22, w23, w24, w25, w26, w27, w28, w29, w30, w31, w32, w33, w34, w35, w36, w37, .int 0, w38, .ref a39, w40, w41, w42, w43, w44, w45, w46, w47, w48, w49, w50, w51, w52, w53, w54, w55, w56, w57, w58, w59, w60, w61, w62, w63, w64, w65, w66, w67, w68, w69, w70, w71, w72, w73, w74, w75, w76, w77, w78, w79, w80])), (a20, .inl (y 2, 7, .inl (fun _ => 0))), (a39, .inl (y 0, 7, .inl (fun _ => 0)))]) (zrunV (As := [.int (xs 1)]) (rest := []) ⟨hx, hb, hml, hown, ht⟩ (zc_X9_sides_0 l D y a0 (xs 1) w2 w3 w4 w5 w6 w7 a8 w9 w10 a81 w82 w83 w84 w85 w86 a87 w88 w89 w90 w91 a92 w93 w94 w95 w96 w97 w98 w99 w100 w101 w102) (cwV 1 ht (zgV zm_979 zm_980 zm_981 zm_2 zm_982) rfl rfl rfl (by decide +kernel) ⟨(Nat.le_of_ble_eq_true rfl), (Nat.le_of_ble_eq_true rfl)⟩) hK hE hS hA hW [0, 2, 5, 6, 7] (by decide) rfl 0 rfl rfl rfl rfl hl.1 rfl (Nat.le_of_ble_eq_true rfl) dL_law_756 (Nat.le_of_ble_eq_true rfl) (Nat.le_of_ble_eq_true rfl)) hS hA hW [0, 2, 5, 6, 7] [1, 3, 4] rfl rfl (by decide) (by decide) (fun r1_ u H locs hw hW hS => ?_)
  have hW : zPD D _ [(a1, .inr (9, [.int 0, .int 0, w11, .int 20, .int 0, w12, w13, w14, w15, w16, w17, w18, w19, .ref a20, w21, .int (-1), w22, w23, w24, w25, w26, w27, w28, w29, w30, w31, w32, w33, w34, w35, w36, w37, .int 0, w38, .ref a39, w40, w41, w42, w43, w44, w45, w46, w47, w48, w49, w50, w51, w52, w53, w54, w55, w56, w57, w58, w59, w60, w61, w62, w63, w64, w65, w66, w67, w68, w69, w70, w71, w72, w73, w74, w75, w76, w77, w78, w79, w80])), (a20, .inl (y 2, 7, .inl (fun _ => 0))), (a39, .inl (y 0, 7, .inl (fun _ => 0)))] H := hW
  have hw : r1_ = (if (xs 1) < 0 then (-1) else (if 1 < (xs 1) then (-1) else 0)) := hw
  by_cases c2_ : (xs 1) < 0
  · have b3_ : (-2147483648) ≤ Int32.toInt (xs 1) ∧ Int32.toInt (xs 1) ≤ (-1) := (by have u0 := zbnd (xs 1); have u1 := (zi_lt _ _).mp c2_; have u2 : (0 : Int32).toInt = 0 := (by decide); omega)
    rw [if_pos c2_] at hw
    subst hw
    refine lv_aload_n hx hb dL_law_759 rfl (lv_at hl 1 rfl) ?_
    refine lv_aload_n hx hb dL_law_760 rfl (lv_at hl 3 rfl) ?_
    refine lv_iload_n hx hb dL_law_761 rfl (lv_at hl 0 rfl) ?_
    refine lv_iconst (v := 1) hx hb dL_law_762 (by decide) ?_
    refine lv_iadd hx hb dL_law_763 ?_
    refine ztop (w := .int 1) (congrArg Value.int (by decide)) ?_
    refine va_sld hx hb hX hbl hbA hS (by unfold vp_in; decide) dL_law_764 ?_
    refine ztop (w := .int (xs 1)) rfl ?_
    refine zgo_i (wr := []) (zrunV (As := [.int (xs 1)]) (rest := [.int (-1)]) ⟨hx, hb, hml, hown, ht⟩ (zc_X10_sides_0 l D y a1 (xs 1) w11 w12 w13 w14 w15 w16 w17 w18 w19 a20 w21 w22 w23 w24 w25 w26 w27 w28 w29 w30 w31 w32 w33 w34 w35 w36 w37 w38 a39 w40 w41 w42 w43 w44 w45 w46 w47 w48 w49 w50 w51 w52 w53 w54 w55 w56 w57 w58 w59 w60 w61 w62 w63 w64 w65 w66 w67 w68 w69 w70 w71 w72 w73 w74 w75 w76 w77 w78 w79 w80) (cwV 1 ht (zgV zm_984 zm_985 zm_986 zm_5 zm_987) rfl rfl rfl (by decide +kernel) ⟨(Nat.le_of_ble_eq_true rfl), (Nat.le_of_ble_eq_true rfl)⟩) hK hE hS hA hW [0, 1, 2] (by decide) rfl 0 rfl rfl rfl rfl hl.1 rfl (Nat.le_of_ble_eq_true rfl) dL_law_765 (Nat.le_of_ble_eq_true rfl) (Nat.le_of_ble_eq_true rfl)) hS hA hW [0, 1, 2] [] rfl rfl (by decide) (by decide) (fun r4_ u H locs hw hW hS => ?_)
    have hW : zPD D _ [] H := hW
    have hw : r4_ = (if (xs 1) < 0 then (-1) else (if 1 < (xs 1) then (-1) else 0)) := hw
    rw [if_pos c2_] at hw
    subst hw
    refine lv_icmp_eq (tgt := 1340) hx hb dL_law_768 (by decide) (fun c5_ => ?_) (fun c5_ => absurd (by decide) c5_)
    exact zl_end l C0 hS (lv_sub hl [0, 3] rfl)
  · have b6_ : 0 ≤ Int32.toInt (xs 1) ∧ Int32.toInt (xs 1) ≤ 2147483647 := (by have u0 := zbnd (xs 1); have u1 := (not_congr (zi_lt _ _)).mp c2_; have u2 : (0 : Int32).toInt = 0 := (by decide); omega)
    rw [if_neg c2_] at hw
    by_cases c7_ : 1 < (xs 1)
    · have b8_ : 2 ≤ Int32.toInt (xs 1) ∧ Int32.toInt (xs 1) ≤ 2147483647 := (by have u0 := b6_; have u1 := (zi_lt _ _).mp c7_; have u2 : (1 : Int32).toInt = 1 := (by decide); omega)
      rw [if_pos c7_] at hw
      subst hw
      refine lv_aload_n hx hb dL_law_759 rfl (lv_at hl 1 rfl) ?_
      refine lv_aload_n hx hb dL_law_760 rfl (lv_at hl 3 rfl) ?_
      refine lv_iload_n hx hb dL_law_761 rfl (lv_at hl 0 rfl) ?_
      refine lv_iconst (v := 1) hx hb dL_law_762 (by decide) ?_
      refine lv_iadd hx hb dL_law_763 ?_
      refine ztop (w := .int 1) (congrArg Value.int (by decide)) ?_
      refine va_sld hx hb hX hbl hbA hS (by unfold vp_in; decide) dL_law_764 ?_
      refine ztop (w := .int (xs 1)) rfl ?_
      refine zgo_i (wr := []) (zrunV (As := [.int (xs 1)]) (rest := [.int (-1)]) ⟨hx, hb, hml, hown, ht⟩ (zc_X10_sides_0 l D y a1 (xs 1) w11 w12 w13 w14 w15 w16 w17 w18 w19 a20 w21 w22 w23 w24 w25 w26 w27 w28 w29 w30 w31 w32 w33 w34 w35 w36 w37 w38 a39 w40 w41 w42 w43 w44 w45 w46 w47 w48 w49 w50 w51 w52 w53 w54 w55 w56 w57 w58 w59 w60 w61 w62 w63 w64 w65 w66 w67 w68 w69 w70 w71 w72 w73 w74 w75 w76 w77 w78 w79 w80) (cwV 1 ht (zgV zm_984 zm_985 zm_986 zm_5 zm_987) rfl rfl rfl (by decide +kernel) ⟨(Nat.le_of_ble_eq_true rfl), (Nat.le_of_ble_eq_true rfl)⟩) hK hE hS hA hW [0, 1, 2] (by decide) rfl 0 rfl rfl rfl rfl hl.1 rfl (Nat.le_of_ble_eq_true rfl) dL_law_765 (Nat.le_of_ble_eq_true rfl) (Nat.le_of_ble_eq_true rfl)) hS hA hW [0, 1, 2] [] rfl rfl (by decide) (by decide) (fun r9_ u H locs hw hW hS => ?_)
      have hW : zPD D _ [] H := hW
      have hw : r9_ = (if (xs 1) < 0 then (-1) else (if 1 < (xs 1) then (-1) else 0)) := hw
      rw [if_neg c2_] at hw
      rw [if_pos c7_] at hw
      subst hw
      refine lv_icmp_eq (tgt := 1340) hx hb dL_law_768 (by decide) (fun c10_ => ?_) (fun c10_ => absurd (by decide) c10_)
      exact zl_end l C0 hS (lv_sub hl [0, 3] rfl)
    · have b11_ : 0 ≤ Int32.toInt (xs 1) ∧ Int32.toInt (xs 1) ≤ 1 := (by have u0 := b6_; have u1 := (not_congr (zi_lt _ _)).mp c7_; have u2 : (1 : Int32).toInt = 1 := (by decide); omega)
      rw [if_neg c7_] at hw
      subst hw
      refine lv_aload_n hx hb dL_law_759 rfl (lv_at hl 1 rfl) ?_
      refine lv_aload_n hx hb dL_law_760 rfl (lv_at hl 3 rfl) ?_
      refine lv_iload_n hx hb dL_law_761 rfl (lv_at hl 0 rfl) ?_
      refine lv_iconst (v := 1) hx hb dL_law_762 (by decide) ?_
      refine lv_iadd hx hb dL_law_763 ?_
      refine ztop (w := .int 1) (congrArg Value.int (by decide)) ?_
      refine va_sld hx hb hX hbl hbA hS (by unfold vp_in; decide) dL_law_764 ?_
      refine ztop (w := .int (xs 1)) rfl ?_
      refine zgo_i (wr := []) (zrunV (As := [.int (xs 1)]) (rest := [.int 0]) ⟨hx, hb, hml, hown, ht⟩ (zc_X10_sides_0 l D y a1 (xs 1) w11 w12 w13 w14 w15 w16 w17 w18 w19 a20 w21 w22 w23 w24 w25 w26 w27 w28 w29 w30 w31 w32 w33 w34 w35 w36 w37 w38 a39 w40 w41 w42 w43 w44 w45 w46 w47 w48 w49 w50 w51 w52 w53 w54 w55 w56 w57 w58 w59 w60 w61 w62 w63 w64 w65 w66 w67 w68 w69 w70 w71 w72 w73 w74 w75 w76 w77 w78 w79 w80) (cwV 1 ht (zgV zm_984 zm_985 zm_986 zm_5 zm_987) rfl rfl rfl (by decide +kernel) ⟨(Nat.le_of_ble_eq_true rfl), (Nat.le_of_ble_eq_true rfl)⟩) hK hE hS hA hW [0, 1, 2] (by decide) rfl 0 rfl rfl rfl rfl hl.1 rfl (Nat.le_of_ble_eq_true rfl) dL_law_765 (Nat.le_of_ble_eq_true rfl) (Nat.le_of_ble_eq_true rfl)) hS hA hW [0, 1, 2] [] rfl rfl (by decide) (by decide) (fun r12_ u H locs hw hW hS => ?_)
      have hW : zPD D _ [] H := hW
      have hw : r12_ = (if (xs 1) < 0 then (-1) else (if 1 < (xs 1) then (-1) else 0)) := hw
      rw [if_neg c2_] at hw
      rw [if_neg c7_] at hw
      subst hw
      refine lv_icmp_eq (tgt := 1340) hx hb dL_law_768 (by decide) (fun c13_ => ?_) (fun c13_ => absurd (by decide) c13_)
      exact zl_end l C0 hS (lv_sub hl [0, 3] rfl)
set_option maxHeartbeats 8000000 in
set_option maxRecDepth 100000 in
theorem zl_case_21 {p : Program} {e : Env} {s : State} {m : MethodId} {below : List Frame} {meth : Method} {c : Code} (l : Launch) {b : Nat} {xs : Nat → Int32} (C0 : lw_At p s m meth c b 6 xs) (D : va_G) (y : Nat → ClassId) (a0 : Nat) (a1 : Nat) (w2 : Value) (w3 : Value) (w4 : Value) (w5 : Value) (w6 : Value) (w7 : Value) (a8 : Nat) (w9 : Value) (w10 : Value) (w11 : Value) (w12 : Value) (w13 : Value) (w14 : Value) (w15 : Value) (w16 : Value) (w17 : Value) (w18 : Value) (a19 : Nat) (w20 : Value) (w21 : Value) (w22 : Value) (w23 : Value) (w24 : Value) (w25 : Value) (w26 : Value) (w27 : Value) (w28 : Value) (w29 : Value) (w30 : Value) (w31 : Value) (w32 : Value) (w33 : Value) (w34 : Value) (w35 : Value) (w36 : Value) (w37 : Value) (a38 : Nat) (a39 : Nat) (a40 : Nat) (w41 : Value) (w42 : Value) (w43 : Value) (w44 : Value) (w45 : Value) (w46 : Value) (w47 : Value) (w48 : Value) (w49 : Value) (w50 : Value) (w51 : Value) (w52 : Value) (w53 : Value) (w54 : Value) (w55 : Value) (w56 : Value) (w57 : Value) (w58 : Value) (w59 : Value) (w60 : Value) (w61 : Value) (w62 : Value) (w63 : Value) (w64 : Value) (w65 : Value) (w66 : Value) (w67 : Value) (w68 : Value) (w69 : Value) (w70 : Value) (w71 : Value) (w72 : Value) (w73 : Value) (w74 : Value) (w75 : Value) (w76 : Value) (w77 : Value) (a78 : Nat) (w79 : Value) (w80 : Value) (w81 : Value) (w82 : Value) (w83 : Value) (a84 : Nat) (w85 : Value) (w86 : Value) (a87 : Nat) (a88 : Nat) (w89 : Value) (w90 : Value) (w91 : Value) (w92 : Value) (w93 : Value) (w94 : Value) (w95 : Value) (w96 : Value) (w97 : Value) (w98 : Value) (w99 : Value) (hK : zK D y s) (hE : zE y (fun q : Nat => s.heap.size ≤ q) s s.heap) {H : Heap} {locs : List Loc} {ls : Array Slot} (hS : va_S (fun q : Nat => s.heap.size ≤ q) s.heap H locs) (hW : zPD D (fun q : Nat => s.heap.size ≤ q) [(a0, .inr (8, [w2, w3, w4, w5, w6, w7, .ref a8, w9, w10])), (a1, .inr (9, [.int 0, .int 0, w11, .int 20, w12, .int 0, .int 0, w13, w14, w15, w16, w17, w18, .ref a19, w20, .int (-1), w21, w22, w23, w24, w25, w26, w27, w28, w29, w30, w31, w32, w33, w34, w35, w36, .int 0, w37, .ref a38, .int 0, .ref a39, .int 0, .ref a40, w41, w42, w43, w44, w45, w46, w47, w48, w49, w50, w51, w52, w53, w54, w55, w56, w57, w58, w59, w60, w61, w62, w63, w64, w65, w66, w67, w68, w69, w70, w71, w72, w73, w74, w75, w76, w77])), (a8, .inr (1, [.ref a78, .int 0, .int 0, w79, w80, w81, w82, w83, .ref a84])), (a19, .inl (y 2, 7, .inl (fun _ => 0))), (a38, .inl (y 0, 7, .inl (fun _ => 0))), (a39, .inl (y 0, 7, .inl (fun _ => 0))), (a40, .inl (y 0, 7, .inl (fun _ => 0))), (a78, .inr (6, [w85, .int 0, .int 20, .int 0, .int 0, w86, .int 0, .int 0, .ref a87, .ref a88, w89, w90])), (a84, .inl (y 2, 4, .inl (fun _ => 0))), (a87, .inr (2, [w91, .int 15, w92, w93, w94, w95, w96, w97])), (a88, .inr (5, [.int 0, w98, w99]))] H) (hl : lv_has ls 4 [(3, .int 0), (2, .ref a1), (1, .ref a0), (0, .ref b)]) : W p l e room_1 s m #[Value.ref b] below meth c H locs 1000 20000 (lw_Z below #[Value.ref b] s) (F0 m 773 ls []) := by
  obtain ⟨hx, hb, hr, hml, hown, hts, hX, hbl, hlocks, hgv⟩ := id C0
  have ht : ∀ w ∈ zT, w.before #[Value.ref b] s = true := fun w h => hts w (zgin w h).1
  have hown : s.vm.findClass RL = some m.cls := hown
  have hA : ∀ q : Nat, s.heap.size ≤ q → (fun q : Nat => s.heap.size ≤ q) q := fun _ h => h
  have hbA : ¬ (fun q : Nat => s.heap.size ≤ q) b := Nat.not_le.mpr hbl
  refine lv_aload_n hx hb dL_law_773 rfl (lv_at hl 2 rfl) ?_
  refine lv_aload_n hx hb dL_law_774 rfl (lv_at hl 3 rfl) ?_
  refine lv_iload_n hx hb dL_law_775 rfl (lv_at hl 0 rfl) ?_
  refine lv_iconst (v := 1) hx hb dL_law_776 (by decide) ?_
  refine lv_iadd hx hb dL_law_777 ?_
  refine ztop (w := .int 1) (congrArg Value.int (by decide)) ?_
  refine va_sld hx hb hX hbl hbA hS (by unfold vp_in; decide) dL_law_778 ?_
  refine ztop (w := .int (xs 1)) rfl ?_
  refine zgo_i (wr := [(a1, .inr (9, [.int 0, .int 0, w11, .int 20, w12, .int 0, .int 0, w13, w14, w15, w16, w17, w18, .ref a19, w20, .int (-1), w21, w22, w23, w24, w25, w26, w27, w28, w29, w30, w31, w32, w33, w34, w35, w36, .int 0, w37, .ref a38, .int 0, .ref a39, .int 0, .ref a40, w41, w42, w43, w44, w45, w46, w47, w48, w49, w50, w51, w52, w53, w54, w55, w56, w57, w58, w59, w60, w61, w62, w63, w64, w65, w66, w67, w68, w69, w70, w71, w72, w73, w74, w75, w76, w77])), (a19, .inl (y 2, 7, .inl (fun _ => 0))), (a38, .inl (y 0, 7, .inl (fun _ => 0))), (a39, .inl (y 0, 7, .inl (fun _ => 0))), (a40, .inl (y 0, 7, .inl (fun _ => 0)))]) (zrunV (As := [.int (xs 1)]) (rest := []) ⟨hx, hb, hml, hown, ht⟩ (zc_X9_begin_0 l D y a0 (xs 1) w2 w3 w4 w5 w6 w7 a8 w9 w10 a78 w79 w80 w81 w82 w83 a84 w85 w86 a87 a88 w89 w90 w91 w92 w93 w94 w95 w96 w97 w98 w99) (cwV 1 ht (zgV zm_988 zm_989 zm_990 zm_2 zm_991) rfl rfl rfl (by decide +kernel) ⟨(Nat.le_of_ble_eq_true rfl), (Nat.le_of_ble_eq_true rfl)⟩) hK hE hS hA hW [0, 2, 7, 8, 9, 10] (by decide) rfl 0 rfl rfl rfl rfl hl.1 rfl (Nat.le_of_ble_eq_true rfl) dL_law_779 (Nat.le_of_ble_eq_true rfl) (Nat.le_of_ble_eq_true rfl)) hS hA hW [0, 2, 7, 8, 9, 10] [1, 3, 4, 5, 6] rfl rfl (by decide) (by decide) (fun r1_ u H locs hw hW hS => ?_)
  have hW : zPD D _ [(a1, .inr (9, [.int 0, .int 0, w11, .int 20, w12, .int 0, .int 0, w13, w14, w15, w16, w17, w18, .ref a19, w20, .int (-1), w21, w22, w23, w24, w25, w26, w27, w28, w29, w30, w31, w32, w33, w34, w35, w36, .int 0, w37, .ref a38, .int 0, .ref a39, .int 0, .ref a40, w41, w42, w43, w44, w45, w46, w47, w48, w49, w50, w51, w52, w53, w54, w55, w56, w57, w58, w59, w60, w61, w62, w63, w64, w65, w66, w67, w68, w69, w70, w71, w72, w73, w74, w75, w76, w77])), (a19, .inl (y 2, 7, .inl (fun _ => 0))), (a38, .inl (y 0, 7, .inl (fun _ => 0))), (a39, .inl (y 0, 7, .inl (fun _ => 0))), (a40, .inl (y 0, 7, .inl (fun _ => 0)))] H := hW
  have hw : r1_ = (if (xs 1) < 0 then (-1) else (if 1 < (xs 1) then (-1) else 0)) := hw
  by_cases c2_ : (xs 1) < 0
  · have b3_ : (-2147483648) ≤ Int32.toInt (xs 1) ∧ Int32.toInt (xs 1) ≤ (-1) := (by have u0 := zbnd (xs 1); have u1 := (zi_lt _ _).mp c2_; have u2 : (0 : Int32).toInt = 0 := (by decide); omega)
    rw [if_pos c2_] at hw
    subst hw
    refine lv_aload_n hx hb dL_law_782 rfl (lv_at hl 1 rfl) ?_
    refine lv_aload_n hx hb dL_law_783 rfl (lv_at hl 3 rfl) ?_
    refine lv_iload_n hx hb dL_law_784 rfl (lv_at hl 0 rfl) ?_
    refine lv_iconst (v := 1) hx hb dL_law_785 (by decide) ?_
    refine lv_iadd hx hb dL_law_786 ?_
    refine ztop (w := .int 1) (congrArg Value.int (by decide)) ?_
    refine va_sld hx hb hX hbl hbA hS (by unfold vp_in; decide) dL_law_787 ?_
    refine ztop (w := .int (xs 1)) rfl ?_
    refine zgo_i (wr := []) (zrunV (As := [.int (xs 1)]) (rest := [.int (-1)]) ⟨hx, hb, hml, hown, ht⟩ (zc_X10_begin_0 l D y a1 (xs 1) w11 w12 w13 w14 w15 w16 w17 w18 a19 w20 w21 w22 w23 w24 w25 w26 w27 w28 w29 w30 w31 w32 w33 w34 w35 w36 w37 a38 a39 a40 w41 w42 w43 w44 w45 w46 w47 w48 w49 w50 w51 w52 w53 w54 w55 w56 w57 w58 w59 w60 w61 w62 w63 w64 w65 w66 w67 w68 w69 w70 w71 w72 w73 w74 w75 w76 w77) (cwV 1 ht (zgV zm_993 zm_994 zm_995 zm_5 zm_996) rfl rfl rfl (by decide +kernel) ⟨(Nat.le_of_ble_eq_true rfl), (Nat.le_of_ble_eq_true rfl)⟩) hK hE hS hA hW [0, 1, 2, 3, 4] (by decide) rfl 0 rfl rfl rfl rfl hl.1 rfl (Nat.le_of_ble_eq_true rfl) dL_law_788 (Nat.le_of_ble_eq_true rfl) (Nat.le_of_ble_eq_true rfl)) hS hA hW [0, 1, 2, 3, 4] [] rfl rfl (by decide) (by decide) (fun r4_ u H locs hw hW hS => ?_)
    have hW : zPD D _ [] H := hW
    have hw : r4_ = (if (xs 1) < 0 then (-1) else (if 1 < (xs 1) then (-1) else 0)) := hw
    rw [if_pos c2_] at hw
    subst hw
    refine lv_icmp_eq (tgt := 1340) hx hb dL_law_791 (by decide) (fun c5_ => ?_) (fun c5_ => absurd (by decide) c5_)
    exact zl_end l C0 hS (lv_sub hl [0, 3] rfl)
  · have b6_ : 0 ≤ Int32.toInt (xs 1) ∧ Int32.toInt (xs 1) ≤ 2147483647 := (by have u0 := zbnd (xs 1); have u1 := (not_congr (zi_lt _ _)).mp c2_; have u2 : (0 : Int32).toInt = 0 := (by decide); omega)
    rw [if_neg c2_] at hw
    by_cases c7_ : 1 < (xs 1)
    · have b8_ : 2 ≤ Int32.toInt (xs 1) ∧ Int32.toInt (xs 1) ≤ 2147483647 := (by have u0 := b6_; have u1 := (zi_lt _ _).mp c7_; have u2 : (1 : Int32).toInt = 1 := (by decide); omega)
      rw [if_pos c7_] at hw
      subst hw
      refine lv_aload_n hx hb dL_law_782 rfl (lv_at hl 1 rfl) ?_
      refine lv_aload_n hx hb dL_law_783 rfl (lv_at hl 3 rfl) ?_
      refine lv_iload_n hx hb dL_law_784 rfl (lv_at hl 0 rfl) ?_
      refine lv_iconst (v := 1) hx hb dL_law_785 (by decide) ?_
      refine lv_iadd hx hb dL_law_786 ?_
      refine ztop (w := .int 1) (congrArg Value.int (by decide)) ?_
      refine va_sld hx hb hX hbl hbA hS (by unfold vp_in; decide) dL_law_787 ?_
      refine ztop (w := .int (xs 1)) rfl ?_
      refine zgo_i (wr := []) (zrunV (As := [.int (xs 1)]) (rest := [.int (-1)]) ⟨hx, hb, hml, hown, ht⟩ (zc_X10_begin_0 l D y a1 (xs 1) w11 w12 w13 w14 w15 w16 w17 w18 a19 w20 w21 w22 w23 w24 w25 w26 w27 w28 w29 w30 w31 w32 w33 w34 w35 w36 w37 a38 a39 a40 w41 w42 w43 w44 w45 w46 w47 w48 w49 w50 w51 w52 w53 w54 w55 w56 w57 w58 w59 w60 w61 w62 w63 w64 w65 w66 w67 w68 w69 w70 w71 w72 w73 w74 w75 w76 w77) (cwV 1 ht (zgV zm_993 zm_994 zm_995 zm_5 zm_996) rfl rfl rfl (by decide +kernel) ⟨(Nat.le_of_ble_eq_true rfl), (Nat.le_of_ble_eq_true rfl)⟩) hK hE hS hA hW [0, 1, 2, 3, 4] (by decide) rfl 0 rfl rfl rfl rfl hl.1 rfl (Nat.le_of_ble_eq_true rfl) dL_law_788 (Nat.le_of_ble_eq_true rfl) (Nat.le_of_ble_eq_true rfl)) hS hA hW [0, 1, 2, 3, 4] [] rfl rfl (by decide) (by decide) (fun r9_ u H locs hw hW hS => ?_)
      have hW : zPD D _ [] H := hW
      have hw : r9_ = (if (xs 1) < 0 then (-1) else (if 1 < (xs 1) then (-1) else 0)) := hw
      rw [if_neg c2_] at hw
      rw [if_pos c7_] at hw
      subst hw
      refine lv_icmp_eq (tgt := 1340) hx hb dL_law_791 (by decide) (fun c10_ => ?_) (fun c10_ => absurd (by decide) c10_)
      exact zl_end l C0 hS (lv_sub hl [0, 3] rfl)
    · have b11_ : 0 ≤ Int32.toInt (xs 1) ∧ Int32.toInt (xs 1) ≤ 1 := (by have u0 := b6_; have u1 := (not_congr (zi_lt _ _)).mp c7_; have u2 : (1 : Int32).toInt = 1 := (by decide); omega)
      rw [if_neg c7_] at hw
      subst hw
      refine lv_aload_n hx hb dL_law_782 rfl (lv_at hl 1 rfl) ?_
      refine lv_aload_n hx hb dL_law_783 rfl (lv_at hl 3 rfl) ?_
      refine lv_iload_n hx hb dL_law_784 rfl (lv_at hl 0 rfl) ?_
      refine lv_iconst (v := 1) hx hb dL_law_785 (by decide) ?_
      refine lv_iadd hx hb dL_law_786 ?_
      refine ztop (w := .int 1) (congrArg Value.int (by decide)) ?_
      refine va_sld hx hb hX hbl hbA hS (by unfold vp_in; decide) dL_law_787 ?_
      refine ztop (w := .int (xs 1)) rfl ?_
      refine zgo_i (wr := []) (zrunV (As := [.int (xs 1)]) (rest := [.int 0]) ⟨hx, hb, hml, hown, ht⟩ (zc_X10_begin_0 l D y a1 (xs 1) w11 w12 w13 w14 w15 w16 w17 w18 a19 w20 w21 w22 w23 w24 w25 w26 w27 w28 w29 w30 w31 w32 w33 w34 w35 w36 w37 a38 a39 a40 w41 w42 w43 w44 w45 w46 w47 w48 w49 w50 w51 w52 w53 w54 w55 w56 w57 w58 w59 w60 w61 w62 w63 w64 w65 w66 w67 w68 w69 w70 w71 w72 w73 w74 w75 w76 w77) (cwV 1 ht (zgV zm_993 zm_994 zm_995 zm_5 zm_996) rfl rfl rfl (by decide +kernel) ⟨(Nat.le_of_ble_eq_true rfl), (Nat.le_of_ble_eq_true rfl)⟩) hK hE hS hA hW [0, 1, 2, 3, 4] (by decide) rfl 0 rfl rfl rfl rfl hl.1 rfl (Nat.le_of_ble_eq_true rfl) dL_law_788 (Nat.le_of_ble_eq_true rfl) (Nat.le_of_ble_eq_true rfl)) hS hA hW [0, 1, 2, 3, 4] [] rfl rfl (by decide) (by decide) (fun r12_ u H locs hw hW hS => ?_)
      have hW : zPD D _ [] H := hW
      have hw : r12_ = (if (xs 1) < 0 then (-1) else (if 1 < (xs 1) then (-1) else 0)) := hw
      rw [if_neg c2_] at hw
      rw [if_neg c7_] at hw
      subst hw
      refine lv_icmp_eq (tgt := 1340) hx hb dL_law_791 (by decide) (fun c13_ => ?_) (fun c13_ => absurd (by decide) c13_)
      exact zl_end l C0 hS (lv_sub hl [0, 3] rfl)
set_option maxHeartbeats 8000000 in
set_option maxRecDepth 100000 in
theorem zl_case_22 {p : Program} {e : Env} {s : State} {m : MethodId} {below : List Frame} {meth : Method} {c : Code} (l : Launch) {b : Nat} {xs : Nat → Int32} (C0 : lw_At p s m meth c b 6 xs) (D : va_G) (y : Nat → ClassId) (a0 : Nat) (a1 : Nat) (w2 : Value) (w3 : Value) (w4 : Value) (a5 : Nat) (w6 : Value) (w7 : Value) (w8 : Value) (w9 : Value) (w10 : Value) (w11 : Value) (w12 : Value) (w13 : Value) (w14 : Value) (w15 : Value) (w16 : Value) (w17 : Value) (w18 : Value) (w19 : Value) (w20 : Value) (w21 : Value) (w22 : Value) (w23 : Value) (w24 : Value) (w25 : Value) (w26 : Value) (w27 : Value) (w28 : Value) (w29 : Value) (w30 : Value) (w31 : Value) (w32 : Value) (w33 : Value) (w34 : Value) (w35 : Value) (w36 : Value) (w37 : Value) (w38 : Value) (w39 : Value) (w40 : Value) (w41 : Value) (w42 : Value) (w43 : Value) (w44 : Value) (w45 : Value) (w46 : Value) (w47 : Value) (w48 : Value) (w49 : Value) (w50 : Value) (w51 : Value) (w52 : Value) (w53 : Value) (w54 : Value) (w55 : Value) (w56 : Value) (w57 : Value) (w58 : Value) (w59 : Value) (w60 : Value) (w61 : Value) (w62 : Value) (w63 : Value) (w64 : Value) (w65 : Value) (w66 : Value) (w67 : Value) (w68 : Value) (w69 : Value) (w70 : Value) (w71 : Value) (w72 : Value) (w73 : Value) (w74 : Value) (w75 : Value) (w76 : Value) (w77 : Value) (w78 : Value) (w79 : Value) (w80 : Value) (w81 : Value) (w82 : Value) (w83 : Value) (w84 : Value) (w85 : Value) (w86 : Value) (w87 : Value) (w88 : Value) (w89 : Value) (w90 : Value) (w91 : Value) (w92 : Value) (w93 : Value) (a94 : Nat) (w95 : Value) (w96 : Value) (w97 : Value) (hK : zK D y s) (hE : zE y (fun q : Nat => s.heap.size ≤ q) s s.heap) {H : Heap} {locs : List Loc} {ls : Array Slot} (hS : va_S (fun q : Nat => s.heap.size ≤ q) s.heap H locs) (hW : zPD D (fun q : Nat => s.heap.size ≤ q) [(a0, .inr (8, [w2, w3, w4, .ref a5, w6, w7, w8, w9, w10])), (a1, .inr (9, [.int 0, w11, w12, w13, w14, w15, w16, w17, w18, w19, w20, w21, w22, w23, w24, w25, w26, w27, w28, w29, w30, w31, w32, w33, w34, w35, w36, w37, w38, w39, w40, w41, w42, w43, w44, w45, w46, w47, w48, w49, .int 0, w50, w51, w52, w53, w54, w55, w56, w57, w58, w59, w60, w61, w62, w63, w64, w65, w66, w67, w68, w69, w70, w71, w72, w73, w74, w75, w76, w77, w78, w79, w80, w81, w82, w83, w84])), (a5, .inr (6, [w85, .int 0, w86, w87, w88, w89, w90, w91, w92, w93, .ref a94, w95])), (a94, .inr (5, [.int 0, w96, w97]))] H) (hl : lv_has ls 4 [(3, .int 0), (2, .ref a1), (1, .ref a0), (0, .ref b)]) : W p l e room_1 s m #[Value.ref b] below meth c H locs 1000 20000 (lw_Z below #[Value.ref b] s) (F0 m 796 ls []) := by
  obtain ⟨hx, hb, hr, hml, hown, hts, hX, hbl, hlocks, hgv⟩ := id C0
  have ht : ∀ w ∈ zT, w.before #[Value.ref b] s = true := fun w h => hts w (zgin w h).1
  have hown : s.vm.findClass RL = some m.cls := hown
  have hA : ∀ q : Nat, s.heap.size ≤ q → (fun q : Nat => s.heap.size ≤ q) q := fun _ h => h
  have hbA : ¬ (fun q : Nat => s.heap.size ≤ q) b := Nat.not_le.mpr hbl
  refine lv_aload_n hx hb dL_law_796 rfl (lv_at hl 2 rfl) ?_
  refine lv_aload_n hx hb dL_law_797 rfl (lv_at hl 3 rfl) ?_
  refine lv_iload_n hx hb dL_law_798 rfl (lv_at hl 0 rfl) ?_
  refine lv_iconst (v := 1) hx hb dL_law_799 (by decide) ?_
  refine lv_iadd hx hb dL_law_800 ?_
  refine ztop (w := .int 1) (congrArg Value.int (by decide)) ?_
  refine va_sld hx hb hX hbl hbA hS (by unfold vp_in; decide) dL_law_801 ?_
  refine ztop (w := .int (xs 1)) rfl ?_
  refine lv_aload_n hx hb dL_law_802 rfl (lv_at hl 3 rfl) ?_
  refine lv_iload_n hx hb dL_law_803 rfl (lv_at hl 0 rfl) ?_
  refine lv_iconst (v := 2) hx hb dL_law_804 (by decide) ?_
  refine lv_iadd hx hb dL_law_805 ?_
  refine ztop (w := .int 2) (congrArg Value.int (by decide)) ?_
  refine va_sld hx hb hX hbl hbA hS (by unfold vp_in; decide) dL_law_806 ?_
  refine ztop (w := .int (xs 2)) rfl ?_
  refine zgo_i (wr := [(a1, .inr (9, [.int 0, w11, w12, w13, w14, w15, w16, w17, w18, w19, w20, w21, w22, w23, w24, w25, w26, w27, w28, w29, w30, w31, w32, w33, w34, w35, w36, w37, w38, w39, w40, w41, w42, w43, w44, w45, w46, w47, w48, w49, .int 0, w50, w51, w52, w53, w54, w55, w56, w57, w58, w59, w60, w61, w62, w63, w64, w65, w66, w67, w68, w69, w70, w71, w72, w73, w74, w75, w76, w77, w78, w79, w80, w81, w82, w83, w84]))]) (zrunV (As := [.int (xs 1), .int (xs 2)]) (rest := []) ⟨hx, hb, hml, hown, ht⟩ (zc_X9_see_0 l D y a0 (xs 1) (xs 2) w2 w3 w4 a5 w6 w7 w8 w9 w10 w85 w86 w87 w88 w89 w90 w91 w92 w93 a94 w95 w96 w97) (cwV 2 ht (zgV zm_997 zm_998 zm_999 zm_2 zm_1000) rfl rfl rfl (by decide +kernel) ⟨(Nat.le_of_ble_eq_true rfl), (Nat.le_of_ble_eq_true rfl)⟩) hK hE hS hA hW [0, 2, 3] (by decide) rfl 0 rfl rfl rfl rfl hl.1 rfl (Nat.le_of_ble_eq_true rfl) dL_law_807 (Nat.le_of_ble_eq_true rfl) (Nat.le_of_ble_eq_true rfl)) hS hA hW [0, 2, 3] [1] rfl rfl (by decide) (by decide) (fun r1_ u H locs hw hW hS => ?_)
  have hW : zPD D _ [(a1, .inr (9, [.int 0, w11, w12, w13, w14, w15, w16, w17, w18, w19, w20, w21, w22, w23, w24, w25, w26, w27, w28, w29, w30, w31, w32, w33, w34, w35, w36, w37, w38, w39, w40, w41, w42, w43, w44, w45, w46, w47, w48, w49, .int 0, w50, w51, w52, w53, w54, w55, w56, w57, w58, w59, w60, w61, w62, w63, w64, w65, w66, w67, w68, w69, w70, w71, w72, w73, w74, w75, w76, w77, w78, w79, w80, w81, w82, w83, w84]))] H := hW
  have hw : r1_ = (if (xs 1) = (-1) then 0 else (-1)) := hw
  by_cases c2_ : (xs 1) = (-1)
  · have b3_ : (-1) ≤ Int32.toInt (xs 1) ∧ Int32.toInt (xs 1) ≤ (-1) := (by have u0 := zbnd (xs 1); have u1 := (zi_eq _ _).mp c2_; have u2 : ((-1) : Int32).toInt = -1 := (by decide); omega)
    rw [if_pos c2_] at hw
    subst hw
    refine lv_aload_n hx hb dL_law_810 rfl (lv_at hl 1 rfl) ?_
    refine lv_aload_n hx hb dL_law_811 rfl (lv_at hl 3 rfl) ?_
    refine lv_iload_n hx hb dL_law_812 rfl (lv_at hl 0 rfl) ?_
    refine lv_iconst (v := 1) hx hb dL_law_813 (by decide) ?_
    refine lv_iadd hx hb dL_law_814 ?_
    refine ztop (w := .int 1) (congrArg Value.int (by decide)) ?_
    refine va_sld hx hb hX hbl hbA hS (by unfold vp_in; decide) dL_law_815 ?_
    refine ztop (w := .int (xs 1)) rfl ?_
    refine lv_aload_n hx hb dL_law_816 rfl (lv_at hl 3 rfl) ?_
    refine lv_iload_n hx hb dL_law_817 rfl (lv_at hl 0 rfl) ?_
    refine lv_iconst (v := 2) hx hb dL_law_818 (by decide) ?_
    refine lv_iadd hx hb dL_law_819 ?_
    refine ztop (w := .int 2) (congrArg Value.int (by decide)) ?_
    refine va_sld hx hb hX hbl hbA hS (by unfold vp_in; decide) dL_law_820 ?_
    refine ztop (w := .int (xs 2)) rfl ?_
    refine zgo_i (wr := []) (zrunV (As := [.int (xs 1), .int (xs 2)]) (rest := [.int 0]) ⟨hx, hb, hml, hown, ht⟩ (zc_X10_see_0 l D y a1 (xs 1) (xs 2) w11 w12 w13 w14 w15 w16 w17 w18 w19 w20 w21 w22 w23 w24 w25 w26 w27 w28 w29 w30 w31 w32 w33 w34 w35 w36 w37 w38 w39 w40 w41 w42 w43 w44 w45 w46 w47 w48 w49 w50 w51 w52 w53 w54 w55 w56 w57 w58 w59 w60 w61 w62 w63 w64 w65 w66 w67 w68 w69 w70 w71 w72 w73 w74 w75 w76 w77 w78 w79 w80 w81 w82 w83 w84) (cwV 2 ht (zgV zm_1006 zm_1007 zm_1008 zm_5 zm_1009) rfl rfl rfl (by decide +kernel) ⟨(Nat.le_of_ble_eq_true rfl), (Nat.le_of_ble_eq_true rfl)⟩) hK hE hS hA hW [0] (by decide) rfl 0 rfl rfl rfl rfl hl.1 rfl (Nat.le_of_ble_eq_true rfl) dL_law_821 (Nat.le_of_ble_eq_true rfl) (Nat.le_of_ble_eq_true rfl)) hS hA hW [0] [] rfl rfl (by decide) (by decide) (fun r4_ u H locs hw hW hS => ?_)
    have hW : zPD D _ [] H := hW
    have hw : r4_ = (if (xs 1) = (-1) then 0 else (-1)) := hw
    rw [if_pos c2_] at hw
    subst hw
    refine lv_icmp_eq (tgt := 1340) hx hb dL_law_824 (by decide) (fun c5_ => ?_) (fun c5_ => absurd (by decide) c5_)
    exact zl_end l C0 hS (lv_sub hl [0, 3] rfl)
  · have b6_ : (-2147483648) ≤ Int32.toInt (xs 1) ∧ Int32.toInt (xs 1) ≤ 2147483647 := (by have u0 := zbnd (xs 1); have u1 := (not_congr (zi_eq _ _)).mp c2_; have u2 : ((-1) : Int32).toInt = -1 := (by decide); omega)
    rw [if_neg c2_] at hw
    subst hw
    refine lv_aload_n hx hb dL_law_810 rfl (lv_at hl 1 rfl) ?_
    refine lv_aload_n hx hb dL_law_811 rfl (lv_at hl 3 rfl) ?_
    refine lv_iload_n hx hb dL_law_812 rfl (lv_at hl 0 rfl) ?_
    refine lv_iconst (v := 1) hx hb dL_law_813 (by decide) ?_
    refine lv_iadd hx hb dL_law_814 ?_
    refine ztop (w := .int 1) (congrArg Value.int (by decide)) ?_
    refine va_sld hx hb hX hbl hbA hS (by unfold vp_in; decide) dL_law_815 ?_
    refine ztop (w := .int (xs 1)) rfl ?_
    refine lv_aload_n hx hb dL_law_816 rfl (lv_at hl 3 rfl) ?_
    refine lv_iload_n hx hb dL_law_817 rfl (lv_at hl 0 rfl) ?_
    refine lv_iconst (v := 2) hx hb dL_law_818 (by decide) ?_
    refine lv_iadd hx hb dL_law_819 ?_
    refine ztop (w := .int 2) (congrArg Value.int (by decide)) ?_
    refine va_sld hx hb hX hbl hbA hS (by unfold vp_in; decide) dL_law_820 ?_
    refine ztop (w := .int (xs 2)) rfl ?_
    refine zgo_i (wr := []) (zrunV (As := [.int (xs 1), .int (xs 2)]) (rest := [.int (-1)]) ⟨hx, hb, hml, hown, ht⟩ (zc_X10_see_0 l D y a1 (xs 1) (xs 2) w11 w12 w13 w14 w15 w16 w17 w18 w19 w20 w21 w22 w23 w24 w25 w26 w27 w28 w29 w30 w31 w32 w33 w34 w35 w36 w37 w38 w39 w40 w41 w42 w43 w44 w45 w46 w47 w48 w49 w50 w51 w52 w53 w54 w55 w56 w57 w58 w59 w60 w61 w62 w63 w64 w65 w66 w67 w68 w69 w70 w71 w72 w73 w74 w75 w76 w77 w78 w79 w80 w81 w82 w83 w84) (cwV 2 ht (zgV zm_1006 zm_1007 zm_1008 zm_5 zm_1009) rfl rfl rfl (by decide +kernel) ⟨(Nat.le_of_ble_eq_true rfl), (Nat.le_of_ble_eq_true rfl)⟩) hK hE hS hA hW [0] (by decide) rfl 0 rfl rfl rfl rfl hl.1 rfl (Nat.le_of_ble_eq_true rfl) dL_law_821 (Nat.le_of_ble_eq_true rfl) (Nat.le_of_ble_eq_true rfl)) hS hA hW [0] [] rfl rfl (by decide) (by decide) (fun r7_ u H locs hw hW hS => ?_)
    have hW : zPD D _ [] H := hW
    have hw : r7_ = (if (xs 1) = (-1) then 0 else (-1)) := hw
    rw [if_neg c2_] at hw
    subst hw
    refine lv_icmp_eq (tgt := 1340) hx hb dL_law_824 (by decide) (fun c8_ => ?_) (fun c8_ => absurd (by decide) c8_)
    exact zl_end l C0 hS (lv_sub hl [0, 3] rfl)
set_option maxHeartbeats 8000000 in
set_option maxRecDepth 100000 in
theorem zl_case_23 {p : Program} {e : Env} {s : State} {m : MethodId} {below : List Frame} {meth : Method} {c : Code} (l : Launch) {b : Nat} {xs : Nat → Int32} (C0 : lw_At p s m meth c b 6 xs) (D : va_G) (y : Nat → ClassId) (a0 : Nat) (a1 : Nat) (w2 : Value) (w3 : Value) (w4 : Value) (w5 : Value) (w6 : Value) (w7 : Value) (a8 : Nat) (w9 : Value) (w10 : Value) (w11 : Value) (w12 : Value) (w13 : Value) (w14 : Value) (w15 : Value) (w16 : Value) (w17 : Value) (w18 : Value) (w19 : Value) (w20 : Value) (w21 : Value) (a22 : Nat) (w23 : Value) (w24 : Value) (w25 : Value) (w26 : Value) (w27 : Value) (w28 : Value) (w29 : Value) (w30 : Value) (w31 : Value) (w32 : Value) (w33 : Value) (w34 : Value) (w35 : Value) (w36 : Value) (w37 : Value) (w38 : Value) (w39 : Value) (w40 : Value) (a41 : Nat) (w42 : Value) (w43 : Value) (w44 : Value) (w45 : Value) (w46 : Value) (w47 : Value) (w48 : Value) (w49 : Value) (w50 : Value) (w51 : Value) (w52 : Value) (w53 : Value) (w54 : Value) (w55 : Value) (w56 : Value) (w57 : Value) (w58 : Value) (w59 : Value) (w60 : Value) (w61 : Value) (w62 : Value) (w63 : Value) (w64 : Value) (w65 : Value) (w66 : Value) (w67 : Value) (w68 : Value) (w69 : Value) (w70 : Value) (w71 : Value) (w72 : Value) (w73 : Value) (w74 : Value) (w75 : Value) (w76 : Value) (w77 : Value) (w78 : Value) (w79 : Value) (w80 : Value) (w81 : Value) (a82 : Nat) (w83 : Value) (w84 : Value) (w85 : Value) (w86 : Value) (w87 : Value) (a88 : Nat) (w89 : Value) (w90 : Value) (w91 : Value) (w92 : Value) (w93 : Value) (w94 : Value) (w95 : Value) (a96 : Nat) (w97 : Value) (w98 : Value) (w99 : Value) (hK : zK D y s) (hE : zE y (fun q : Nat => s.heap.size ≤ q) s s.heap) {H : Heap} {locs : List Loc} {ls : Array Slot} (hS : va_S (fun q : Nat => s.heap.size ≤ q) s.heap H locs) (hW : zPD D (fun q : Nat => s.heap.size ≤ q) [(a0, .inr (8, [w2, w3, w4, w5, w6, w7, .ref a8, w9, w10])), (a1, .inr (9, [.int 0, w11, w12, w13, .int 0, w14, w15, w16, w17, w18, w19, w20, w21, .ref a22, w23, .int (-1), w24, w25, w26, w27, w28, w29, w30, w31, w32, w33, w34, w35, w36, w37, w38, w39, .int 0, w40, .ref a41, w42, w43, w44, w45, w46, .int 0, w47, w48, w49, w50, w51, w52, w53, w54, w55, w56, w57, w58, w59, w60, w61, w62, w63, w64, w65, w66, w67, w68, w69, w70, w71, w72, w73, w74, w75, w76, w77, w78, w79, w80, w81])), (a8, .inr (1, [.ref a82, .int 0, .int 0, w83, w84, w85, w86, w87, .ref a88])), (a22, .inl (y 2, 7, .inl (fun _ => 0))), (a41, .inl (y 0, 7, .inl (fun _ => 0))), (a82, .inr (6, [w89, .int 0, .int 20, .int 0, w90, w91, w92, w93, w94, w95, .ref a96, w97])), (a88, .inl (y 2, 4, .inl (fun _ => 0))), (a96, .inr (5, [.int 0, w98, w99]))] H) (hl : lv_has ls 4 [(3, .int 0), (2, .ref a1), (1, .ref a0), (0, .ref b)]) : W p l e room_1 s m #[Value.ref b] below meth c H locs 1000 20000 (lw_Z below #[Value.ref b] s) (F0 m 829 ls []) := by
  obtain ⟨hx, hb, hr, hml, hown, hts, hX, hbl, hlocks, hgv⟩ := id C0
  have ht : ∀ w ∈ zT, w.before #[Value.ref b] s = true := fun w h => hts w (zgin w h).1
  have hown : s.vm.findClass RL = some m.cls := hown
  have hA : ∀ q : Nat, s.heap.size ≤ q → (fun q : Nat => s.heap.size ≤ q) q := fun _ h => h
  have hbA : ¬ (fun q : Nat => s.heap.size ≤ q) b := Nat.not_le.mpr hbl
  refine lv_aload_n hx hb dL_law_829 rfl (lv_at hl 2 rfl) ?_
  refine zgo_i (wr := [(a1, .inr (9, [.int 0, w11, w12, w13, .int 0, w14, w15, w16, w17, w18, w19, w20, w21, .ref a22, w23, .int (-1), w24, w25, w26, w27, w28, w29, w30, w31, w32, w33, w34, w35, w36, w37, w38, w39, .int 0, w40, .ref a41, w42, w43, w44, w45, w46, .int 0, w47, w48, w49, w50, w51, w52, w53, w54, w55, w56, w57, w58, w59, w60, w61, w62, w63, w64, w65, w66, w67, w68, w69, w70, w71, w72, w73, w74, w75, w76, w77, w78, w79, w80, w81])), (a22, .inl (y 2, 7, .inl (fun _ => 0))), (a41, .inl (y 0, 7, .inl (fun _ => 0)))]) (zrunV (As := []) (rest := []) ⟨hx, hb, hml, hown, ht⟩ (zc_X9_from_0 l D y a0 w2 w3 w4 w5 w6 w7 a8 w9 w10 a82 w83 w84 w85 w86 w87 a88 w89 w90 w91 w92 w93 w94 w95 a96 w97 w98 w99) (cwV 0 ht (zgV zm_1010 zm_1011 zm_1012 zm_2 zm_1013) rfl rfl rfl (by decide +kernel) ⟨(Nat.le_of_ble_eq_true rfl), (Nat.le_of_ble_eq_true rfl)⟩) hK hE hS hA hW [0, 2, 5, 6, 7] (by decide) rfl 0 rfl rfl rfl rfl hl.1 rfl (Nat.le_of_ble_eq_true rfl) dL_law_830 (Nat.le_of_ble_eq_true rfl) (Nat.le_of_ble_eq_true rfl)) hS hA hW [0, 2, 5, 6, 7] [1, 3, 4] rfl rfl (by decide) (by decide) (fun r1_ u H locs hw hW hS => ?_)
  have hW : zPD D _ [(a1, .inr (9, [.int 0, w11, w12, w13, .int 0, w14, w15, w16, w17, w18, w19, w20, w21, .ref a22, w23, .int (-1), w24, w25, w26, w27, w28, w29, w30, w31, w32, w33, w34, w35, w36, w37, w38, w39, .int 0, w40, .ref a41, w42, w43, w44, w45, w46, .int 0, w47, w48, w49, w50, w51, w52, w53, w54, w55, w56, w57, w58, w59, w60, w61, w62, w63, w64, w65, w66, w67, w68, w69, w70, w71, w72, w73, w74, w75, w76, w77, w78, w79, w80, w81])), (a22, .inl (y 2, 7, .inl (fun _ => 0))), (a41, .inl (y 0, 7, .inl (fun _ => 0)))] H := hW
  have hw : r1_ = 15 := hw
  subst hw
  refine lv_aload_n hx hb dL_law_833 rfl (lv_at hl 1 rfl) ?_
  refine zgo_i (wr := []) (zrunV (As := []) (rest := [.int 15]) ⟨hx, hb, hml, hown, ht⟩ (zc_X10_from_0 l D y a1 w11 w12 w13 w14 w15 w16 w17 w18 w19 w20 w21 a22 w23 w24 w25 w26 w27 w28 w29 w30 w31 w32 w33 w34 w35 w36 w37 w38 w39 w40 a41 w42 w43 w44 w45 w46 w47 w48 w49 w50 w51 w52 w53 w54 w55 w56 w57 w58 w59 w60 w61 w62 w63 w64 w65 w66 w67 w68 w69 w70 w71 w72 w73 w74 w75 w76 w77 w78 w79 w80 w81) (cwV 0 ht (zgV zm_1020 zm_1021 zm_1022 zm_5 zm_1023) rfl rfl rfl (by decide +kernel) ⟨(Nat.le_of_ble_eq_true rfl), (Nat.le_of_ble_eq_true rfl)⟩) hK hE hS hA hW [0, 1, 2] (by decide) rfl 0 rfl rfl rfl rfl hl.1 rfl (Nat.le_of_ble_eq_true rfl) dL_law_834 (Nat.le_of_ble_eq_true rfl) (Nat.le_of_ble_eq_true rfl)) hS hA hW [0, 1, 2] [] rfl rfl (by decide) (by decide) (fun r2_ u H locs hw hW hS => ?_)
  have hW : zPD D _ [] H := hW
  have hw : r2_ = 15 := hw
  subst hw
  refine lv_icmp_eq (tgt := 1340) hx hb dL_law_837 (by decide) (fun c3_ => ?_) (fun c3_ => absurd (by decide) c3_)
  exact zl_end l C0 hS (lv_sub hl [0, 3] rfl)
set_option maxHeartbeats 8000000 in
set_option maxRecDepth 100000 in
theorem zl_case_24 {p : Program} {e : Env} {s : State} {m : MethodId} {below : List Frame} {meth : Method} {c : Code} (l : Launch) {b : Nat} {xs : Nat → Int32} (C0 : lw_At p s m meth c b 6 xs) (D : va_G) (y : Nat → ClassId) (a0 : Nat) (a1 : Nat) (w2 : Value) (w3 : Value) (w4 : Value) (w5 : Value) (w6 : Value) (w7 : Value) (a8 : Nat) (w9 : Value) (w10 : Value) (w11 : Value) (w12 : Value) (w13 : Value) (w14 : Value) (w15 : Value) (w16 : Value) (w17 : Value) (a18 : Nat) (w19 : Value) (w20 : Value) (w21 : Value) (w22 : Value) (w23 : Value) (w24 : Value) (w25 : Value) (w26 : Value) (w27 : Value) (w28 : Value) (w29 : Value) (w30 : Value) (w31 : Value) (w32 : Value) (w33 : Value) (w34 : Value) (w35 : Value) (w36 : Value) (a37 : Nat) (a38 : Nat) (a39 : Nat) (w40 : Value) (w41 : Value) (w42 : Value) (w43 : Value) (w44 : Value) (w45 : Value) (w46 : Value) (w47 : Value) (w48 : Value) (w49 : Value) (w50 : Value) (w51 : Value) (w52 : Value) (w53 : Value) (w54 : Value) (w55 : Value) (w56 : Value) (w57 : Value) (w58 : Value) (w59 : Value) (w60 : Value) (w61 : Value) (w62 : Value) (w63 : Value) (w64 : Value) (w65 : Value) (w66 : Value) (w67 : Value) (w68 : Value) (w69 : Value) (w70 : Value) (w71 : Value) (w72 : Value) (w73 : Value) (w74 : Value) (w75 : Value) (w76 : Value) (a77 : Nat) (w78 : Value) (w79 : Value) (w80 : Value) (w81 : Value) (w82 : Value) (a83 : Nat) (w84 : Value) (w85 : Value) (a86 : Nat) (a87 : Nat) (w88 : Value) (w89 : Value) (w90 : Value) (w91 : Value) (w92 : Value) (w93 : Value) (w94 : Value) (w95 : Value) (w96 : Value) (w97 : Value) (w98 : Value) (hK : zK D y s) (hE : zE y (fun q : Nat => s.heap.size ≤ q) s s.heap) {H : Heap} {locs : List Loc} {ls : Array Slot} (hS : va_S (fun q : Nat => s.heap.size ≤ q) s.heap H locs) (hW : zPD D (fun q : Nat => s.heap.size ≤ q) [(a0, .inr (8, [w2, w3, w4, w5, w6, w7, .ref a8, w9, w10])), (a1, .inr (9, [.int 0, .int 0, w11, .int 20, .int 0, .int 0, .int 0, w12, w13, w14, w15, w16, w17, .ref a18, w19, .int (-1), w20, w21, w22, w23, w24, w25, w26, w27, w28, w29, w30, w31, w32, w33, w34, w35, .int 0, w36, .ref a37, .int 0, .ref a38, .int 0, .ref a39, w40, w41, w42, w43, w44, w45, w46, w47, w48, w49, w50, w51, w52, w53, w54, w55, w56, w57, w58, w59, w60, w61, w62, w63, w64, w65, w66, w67, w68, w69, w70, w71, w72, w73, w74, w75, w76])), (a8, .inr (1, [.ref a77, .int 0, .int 0, w78, w79, w80, w81, w82, .ref a83])), (a18, .inl (y 2, 7, .inl (fun _ => 0))), (a37, .inl (y 0, 7, .inl (fun _ => 0))), (a38, .inl (y 0, 7, .inl (fun _ => 0))), (a39, .inl (y 0, 7, .inl (fun _ => 0))), (a77, .inr (6, [w84, .int 0, .int 20, .int 0, .int 0, w85, .int 0, .int 0, .ref a86, .ref a87, w88, w89])), (a83, .inl (y 2, 4, .inl (fun _ => 0))), (a86, .inr (2, [w90, .int 15, w91, w92, w93, w94, w95, w96])), (a87, .inr (5, [.int 0, w97, w98]))] H) (hl : lv_has ls 4 [(3, .int 0), (2, .ref a1), (1, .ref a0), (0, .ref b)]) : W p l e room_1 s m #[Value.ref b] below meth c H locs 1000 20000 (lw_Z below #[Value.ref b] s) (F0 m 842 ls []) := by
  obtain ⟨hx, hb, hr, hml, hown, hts, hX, hbl, hlocks, hgv⟩ := id C0
  have ht : ∀ w ∈ zT, w.before #[Value.ref b] s = true := fun w h => hts w (zgin w h).1
  have hown : s.vm.findClass RL = some m.cls := hown
  have hA : ∀ q : Nat, s.heap.size ≤ q → (fun q : Nat => s.heap.size ≤ q) q := fun _ h => h
  have hbA : ¬ (fun q : Nat => s.heap.size ≤ q) b := Nat.not_le.mpr hbl
  refine lv_aload_n hx hb dL_law_842 rfl (lv_at hl 2 rfl) ?_
  refine lv_aload_n hx hb dL_law_843 rfl (lv_at hl 3 rfl) ?_
  refine lv_iload_n hx hb dL_law_844 rfl (lv_at hl 0 rfl) ?_
  refine lv_iconst (v := 1) hx hb dL_law_845 (by decide) ?_
  refine lv_iadd hx hb dL_law_846 ?_
  refine ztop (w := .int 1) (congrArg Value.int (by decide)) ?_
  refine va_sld hx hb hX hbl hbA hS (by unfold vp_in; decide) dL_law_847 ?_
  refine ztop (w := .int (xs 1)) rfl ?_
  refine lv_aload_n hx hb dL_law_848 rfl (lv_at hl 3 rfl) ?_
  refine lv_iload_n hx hb dL_law_849 rfl (lv_at hl 0 rfl) ?_
  refine lv_iconst (v := 2) hx hb dL_law_850 (by decide) ?_
  refine lv_iadd hx hb dL_law_851 ?_
  refine ztop (w := .int 2) (congrArg Value.int (by decide)) ?_
  refine va_sld hx hb hX hbl hbA hS (by unfold vp_in; decide) dL_law_852 ?_
  refine ztop (w := .int (xs 2)) rfl ?_
  refine zgo_l (wr := [(a1, .inr (9, [.int 0, .int 0, w11, .int 20, .int 0, .int 0, .int 0, w12, w13, w14, w15, w16, w17, .ref a18, w19, .int (-1), w20, w21, w22, w23, w24, w25, w26, w27, w28, w29, w30, w31, w32, w33, w34, w35, .int 0, w36, .ref a37, .int 0, .ref a38, .int 0, .ref a39, w40, w41, w42, w43, w44, w45, w46, w47, w48, w49, w50, w51, w52, w53, w54, w55, w56, w57, w58, w59, w60, w61, w62, w63, w64, w65, w66, w67, w68, w69, w70, w71, w72, w73, w74, w75, w76])), (a18, .inl (y 2, 7, .inl (fun _ => 0))), (a37, .inl (y 0, 7, .inl (fun _ => 0))), (a38, .inl (y 0, 7, .inl (fun _ => 0))), (a39, .inl (y 0, 7, .inl (fun _ => 0)))]) (zrunV (As := [.int (xs 1), .int (xs 2)]) (rest := []) ⟨hx, hb, hml, hown, ht⟩ (zc_X9_odds_0 l D y a0 (xs 1) (xs 2) w2 w3 w4 w5 w6 w7 a8 w9 w10 a77 w78 w79 w80 w81 w82 a83 w84 w85 a86 a87 w88 w89 w90 w91 w92 w93 w94 w95 w96 w97 w98) (cwV 2 ht (zgV zm_1028 zm_1029 zm_1030 zm_2 zm_1031) rfl rfl rfl (by decide +kernel) ⟨(Nat.le_of_ble_eq_true rfl), (Nat.le_of_ble_eq_true rfl)⟩) hK hE hS hA hW [0, 2, 7, 8, 9, 10] (by decide) rfl 0 rfl rfl rfl rfl hl.1 rfl (Nat.le_of_ble_eq_true rfl) dL_law_853 (Nat.le_of_ble_eq_true rfl) (Nat.le_of_ble_eq_true rfl)) hS hA hW [0, 2, 7, 8, 9, 10] [1, 3, 4, 5, 6] rfl rfl (by decide) (by decide) (fun r1_ u H locs hw hW hS => ?_)
  have hW : zPD D _ [(a1, .inr (9, [.int 0, .int 0, w11, .int 20, .int 0, .int 0, .int 0, w12, w13, w14, w15, w16, w17, .ref a18, w19, .int (-1), w20, w21, w22, w23, w24, w25, w26, w27, w28, w29, w30, w31, w32, w33, w34, w35, .int 0, w36, .ref a37, .int 0, .ref a38, .int 0, .ref a39, w40, w41, w42, w43, w44, w45, w46, w47, w48, w49, w50, w51, w52, w53, w54, w55, w56, w57, w58, w59, w60, w61, w62, w63, w64, w65, w66, w67, w68, w69, w70, w71, w72, w73, w74, w75, w76])), (a18, .inl (y 2, 7, .inl (fun _ => 0))), (a37, .inl (y 0, 7, .inl (fun _ => 0))), (a38, .inl (y 0, 7, .inl (fun _ => 0))), (a39, .inl (y 0, 7, .inl (fun _ => 0)))] H := hW
  have hw : r1_ = (if (xs 1) < 0 then (-9223372036854775808) else (if 99999 < (xs 1) then (-9223372036854775808) else (if (xs 2) < 0 then (-9223372036854775808) else (if 1 < (xs 2) then (-9223372036854775808) else 1)))) := hw
  by_cases c2_ : (xs 1) < 0
  · have b3_ : (-2147483648) ≤ Int32.toInt (xs 1) ∧ Int32.toInt (xs 1) ≤ (-1) := (by have u0 := zbnd (xs 1); have u1 := (zi_lt _ _).mp c2_; have u2 : (0 : Int32).toInt = 0 := (by decide); omega)
    rw [if_pos c2_] at hw
    subst hw
    refine lv_aload_n hx hb dL_law_856 rfl (lv_at hl 1 rfl) ?_
    refine lv_aload_n hx hb dL_law_857 rfl (lv_at hl 3 rfl) ?_
    refine lv_iload_n hx hb dL_law_858 rfl (lv_at hl 0 rfl) ?_
    refine lv_iconst (v := 1) hx hb dL_law_859 (by decide) ?_
    refine lv_iadd hx hb dL_law_860 ?_
    refine ztop (w := .int 1) (congrArg Value.int (by decide)) ?_
    refine va_sld hx hb hX hbl hbA hS (by unfold vp_in; decide) dL_law_861 ?_
    refine ztop (w := .int (xs 1)) rfl ?_
    refine lv_aload_n hx hb dL_law_862 rfl (lv_at hl 3 rfl) ?_
    refine lv_iload_n hx hb dL_law_863 rfl (lv_at hl 0 rfl) ?_
    refine lv_iconst (v := 2) hx hb dL_law_864 (by decide) ?_
    refine lv_iadd hx hb dL_law_865 ?_
    refine ztop (w := .int 2) (congrArg Value.int (by decide)) ?_
    refine va_sld hx hb hX hbl hbA hS (by unfold vp_in; decide) dL_law_866 ?_
    refine ztop (w := .int (xs 2)) rfl ?_
    refine zgo_l (wr := []) (zrunV (As := [.int (xs 1), .int (xs 2)]) (rest := [.long (-9223372036854775808)]) ⟨hx, hb, hml, hown, ht⟩ (zc_X10_odds_0 l D y a1 (xs 1) (xs 2) w11 w12 w13 w14 w15 w16 w17 a18 w19 w20 w21 w22 w23 w24 w25 w26 w27 w28 w29 w30 w31 w32 w33 w34 w35 w36 a37 a38 a39 w40 w41 w42 w43 w44 w45 w46 w47 w48 w49 w50 w51 w52 w53 w54 w55 w56 w57 w58 w59 w60 w61 w62 w63 w64 w65 w66 w67 w68 w69 w70 w71 w72 w73 w74 w75 w76) (cwV 2 ht (zgV zm_1040 zm_1041 zm_1042 zm_5 zm_1043) rfl rfl rfl (by decide +kernel) ⟨(Nat.le_of_ble_eq_true rfl), (Nat.le_of_ble_eq_true rfl)⟩) hK hE hS hA hW [0, 1, 2, 3, 4] (by decide) rfl 0 rfl rfl rfl rfl hl.1 rfl (Nat.le_of_ble_eq_true rfl) dL_law_867 (Nat.le_of_ble_eq_true rfl) (Nat.le_of_ble_eq_true rfl)) hS hA hW [0, 1, 2, 3, 4] [] rfl rfl (by decide) (by decide) (fun r4_ u H locs hw hW hS => ?_)
    have hW : zPD D _ [] H := hW
    have hw : r4_ = (if (xs 1) < 0 then (-9223372036854775808) else (if 99999 < (xs 1) then (-9223372036854775808) else (if (xs 2) < 0 then (-9223372036854775808) else (if 1 < (xs 2) then (-9223372036854775808) else 1)))) := hw
    rw [if_pos c2_] at hw
    subst hw
    refine W.lcmp hx hb dL_law_870 ?_
    refine ztop (w := .int 0) (congrArg Value.int (by decide)) ?_
    refine lv_if_eq (tgt := 1340) hx hb dL_law_871 (by decide) (fun c5_ => ?_) (fun c5_ => absurd (by decide) c5_)
    exact zl_end l C0 hS (lv_sub hl [0, 3] rfl)
  · have b6_ : 0 ≤ Int32.toInt (xs 1) ∧ Int32.toInt (xs 1) ≤ 2147483647 := (by have u0 := zbnd (xs 1); have u1 := (not_congr (zi_lt _ _)).mp c2_; have u2 : (0 : Int32).toInt = 0 := (by decide); omega)
    rw [if_neg c2_] at hw
    by_cases c7_ : 99999 < (xs 1)
    · have b8_ : 100000 ≤ Int32.toInt (xs 1) ∧ Int32.toInt (xs 1) ≤ 2147483647 := (by have u0 := b6_; have u1 := (zi_lt _ _).mp c7_; have u2 : (99999 : Int32).toInt = 99999 := (by decide); omega)
      rw [if_pos c7_] at hw
      subst hw
      refine lv_aload_n hx hb dL_law_856 rfl (lv_at hl 1 rfl) ?_
      refine lv_aload_n hx hb dL_law_857 rfl (lv_at hl 3 rfl) ?_
      refine lv_iload_n hx hb dL_law_858 rfl (lv_at hl 0 rfl) ?_
      refine lv_iconst (v := 1) hx hb dL_law_859 (by decide) ?_
      refine lv_iadd hx hb dL_law_860 ?_
      refine ztop (w := .int 1) (congrArg Value.int (by decide)) ?_
      refine va_sld hx hb hX hbl hbA hS (by unfold vp_in; decide) dL_law_861 ?_
      refine ztop (w := .int (xs 1)) rfl ?_
      refine lv_aload_n hx hb dL_law_862 rfl (lv_at hl 3 rfl) ?_
      refine lv_iload_n hx hb dL_law_863 rfl (lv_at hl 0 rfl) ?_
      refine lv_iconst (v := 2) hx hb dL_law_864 (by decide) ?_
      refine lv_iadd hx hb dL_law_865 ?_
      refine ztop (w := .int 2) (congrArg Value.int (by decide)) ?_
      refine va_sld hx hb hX hbl hbA hS (by unfold vp_in; decide) dL_law_866 ?_
      refine ztop (w := .int (xs 2)) rfl ?_
      refine zgo_l (wr := []) (zrunV (As := [.int (xs 1), .int (xs 2)]) (rest := [.long (-9223372036854775808)]) ⟨hx, hb, hml, hown, ht⟩ (zc_X10_odds_0 l D y a1 (xs 1) (xs 2) w11 w12 w13 w14 w15 w16 w17 a18 w19 w20 w21 w22 w23 w24 w25 w26 w27 w28 w29 w30 w31 w32 w33 w34 w35 w36 a37 a38 a39 w40 w41 w42 w43 w44 w45 w46 w47 w48 w49 w50 w51 w52 w53 w54 w55 w56 w57 w58 w59 w60 w61 w62 w63 w64 w65 w66 w67 w68 w69 w70 w71 w72 w73 w74 w75 w76) (cwV 2 ht (zgV zm_1040 zm_1041 zm_1042 zm_5 zm_1043) rfl rfl rfl (by decide +kernel) ⟨(Nat.le_of_ble_eq_true rfl), (Nat.le_of_ble_eq_true rfl)⟩) hK hE hS hA hW [0, 1, 2, 3, 4] (by decide) rfl 0 rfl rfl rfl rfl hl.1 rfl (Nat.le_of_ble_eq_true rfl) dL_law_867 (Nat.le_of_ble_eq_true rfl) (Nat.le_of_ble_eq_true rfl)) hS hA hW [0, 1, 2, 3, 4] [] rfl rfl (by decide) (by decide) (fun r9_ u H locs hw hW hS => ?_)
      have hW : zPD D _ [] H := hW
      have hw : r9_ = (if (xs 1) < 0 then (-9223372036854775808) else (if 99999 < (xs 1) then (-9223372036854775808) else (if (xs 2) < 0 then (-9223372036854775808) else (if 1 < (xs 2) then (-9223372036854775808) else 1)))) := hw
      rw [if_neg c2_] at hw
      rw [if_pos c7_] at hw
      subst hw
      refine W.lcmp hx hb dL_law_870 ?_
      refine ztop (w := .int 0) (congrArg Value.int (by decide)) ?_
      refine lv_if_eq (tgt := 1340) hx hb dL_law_871 (by decide) (fun c10_ => ?_) (fun c10_ => absurd (by decide) c10_)
      exact zl_end l C0 hS (lv_sub hl [0, 3] rfl)
    · have b11_ : 0 ≤ Int32.toInt (xs 1) ∧ Int32.toInt (xs 1) ≤ 99999 := (by have u0 := b6_; have u1 := (not_congr (zi_lt _ _)).mp c7_; have u2 : (99999 : Int32).toInt = 99999 := (by decide); omega)
      rw [if_neg c7_] at hw
      by_cases c12_ : (xs 2) < 0
      · have b13_ : (-2147483648) ≤ Int32.toInt (xs 2) ∧ Int32.toInt (xs 2) ≤ (-1) := (by have u0 := zbnd (xs 2); have u1 := (zi_lt _ _).mp c12_; have u2 : (0 : Int32).toInt = 0 := (by decide); omega)
        rw [if_pos c12_] at hw
        subst hw
        refine lv_aload_n hx hb dL_law_856 rfl (lv_at hl 1 rfl) ?_
        refine lv_aload_n hx hb dL_law_857 rfl (lv_at hl 3 rfl) ?_
        refine lv_iload_n hx hb dL_law_858 rfl (lv_at hl 0 rfl) ?_
        refine lv_iconst (v := 1) hx hb dL_law_859 (by decide) ?_
        refine lv_iadd hx hb dL_law_860 ?_
        refine ztop (w := .int 1) (congrArg Value.int (by decide)) ?_
        refine va_sld hx hb hX hbl hbA hS (by unfold vp_in; decide) dL_law_861 ?_
        refine ztop (w := .int (xs 1)) rfl ?_
        refine lv_aload_n hx hb dL_law_862 rfl (lv_at hl 3 rfl) ?_
        refine lv_iload_n hx hb dL_law_863 rfl (lv_at hl 0 rfl) ?_
        refine lv_iconst (v := 2) hx hb dL_law_864 (by decide) ?_
        refine lv_iadd hx hb dL_law_865 ?_
        refine ztop (w := .int 2) (congrArg Value.int (by decide)) ?_
        refine va_sld hx hb hX hbl hbA hS (by unfold vp_in; decide) dL_law_866 ?_
        refine ztop (w := .int (xs 2)) rfl ?_
        refine zgo_l (wr := []) (zrunV (As := [.int (xs 1), .int (xs 2)]) (rest := [.long (-9223372036854775808)]) ⟨hx, hb, hml, hown, ht⟩ (zc_X10_odds_0 l D y a1 (xs 1) (xs 2) w11 w12 w13 w14 w15 w16 w17 a18 w19 w20 w21 w22 w23 w24 w25 w26 w27 w28 w29 w30 w31 w32 w33 w34 w35 w36 a37 a38 a39 w40 w41 w42 w43 w44 w45 w46 w47 w48 w49 w50 w51 w52 w53 w54 w55 w56 w57 w58 w59 w60 w61 w62 w63 w64 w65 w66 w67 w68 w69 w70 w71 w72 w73 w74 w75 w76) (cwV 2 ht (zgV zm_1040 zm_1041 zm_1042 zm_5 zm_1043) rfl rfl rfl (by decide +kernel) ⟨(Nat.le_of_ble_eq_true rfl), (Nat.le_of_ble_eq_true rfl)⟩) hK hE hS hA hW [0, 1, 2, 3, 4] (by decide) rfl 0 rfl rfl rfl rfl hl.1 rfl (Nat.le_of_ble_eq_true rfl) dL_law_867 (Nat.le_of_ble_eq_true rfl) (Nat.le_of_ble_eq_true rfl)) hS hA hW [0, 1, 2, 3, 4] [] rfl rfl (by decide) (by decide) (fun r14_ u H locs hw hW hS => ?_)
        have hW : zPD D _ [] H := hW
        have hw : r14_ = (if (xs 1) < 0 then (-9223372036854775808) else (if 99999 < (xs 1) then (-9223372036854775808) else (if (xs 2) < 0 then (-9223372036854775808) else (if 1 < (xs 2) then (-9223372036854775808) else 1)))) := hw
        rw [if_neg c2_] at hw
        rw [if_neg c7_] at hw
        rw [if_pos c12_] at hw
        subst hw
        refine W.lcmp hx hb dL_law_870 ?_
        refine ztop (w := .int 0) (congrArg Value.int (by decide)) ?_
        refine lv_if_eq (tgt := 1340) hx hb dL_law_871 (by decide) (fun c15_ => ?_) (fun c15_ => absurd (by decide) c15_)
        exact zl_end l C0 hS (lv_sub hl [0, 3] rfl)
      · have b16_ : 0 ≤ Int32.toInt (xs 2) ∧ Int32.toInt (xs 2) ≤ 2147483647 := (by have u0 := zbnd (xs 2); have u1 := (not_congr (zi_lt _ _)).mp c12_; have u2 : (0 : Int32).toInt = 0 := (by decide); omega)
        rw [if_neg c12_] at hw
        by_cases c17_ : 1 < (xs 2)
        · have b18_ : 2 ≤ Int32.toInt (xs 2) ∧ Int32.toInt (xs 2) ≤ 2147483647 := (by have u0 := b16_; have u1 := (zi_lt _ _).mp c17_; have u2 : (1 : Int32).toInt = 1 := (by decide); omega)
          rw [if_pos c17_] at hw
          subst hw
          refine lv_aload_n hx hb dL_law_856 rfl (lv_at hl 1 rfl) ?_
          refine lv_aload_n hx hb dL_law_857 rfl (lv_at hl 3 rfl) ?_
          refine lv_iload_n hx hb dL_law_858 rfl (lv_at hl 0 rfl) ?_
          refine lv_iconst (v := 1) hx hb dL_law_859 (by decide) ?_
          refine lv_iadd hx hb dL_law_860 ?_
          refine ztop (w := .int 1) (congrArg Value.int (by decide)) ?_
          refine va_sld hx hb hX hbl hbA hS (by unfold vp_in; decide) dL_law_861 ?_
          refine ztop (w := .int (xs 1)) rfl ?_
          refine lv_aload_n hx hb dL_law_862 rfl (lv_at hl 3 rfl) ?_
          refine lv_iload_n hx hb dL_law_863 rfl (lv_at hl 0 rfl) ?_
          refine lv_iconst (v := 2) hx hb dL_law_864 (by decide) ?_
          refine lv_iadd hx hb dL_law_865 ?_
          refine ztop (w := .int 2) (congrArg Value.int (by decide)) ?_
          refine va_sld hx hb hX hbl hbA hS (by unfold vp_in; decide) dL_law_866 ?_
          refine ztop (w := .int (xs 2)) rfl ?_
          refine zgo_l (wr := []) (zrunV (As := [.int (xs 1), .int (xs 2)]) (rest := [.long (-9223372036854775808)]) ⟨hx, hb, hml, hown, ht⟩ (zc_X10_odds_0 l D y a1 (xs 1) (xs 2) w11 w12 w13 w14 w15 w16 w17 a18 w19 w20 w21 w22 w23 w24 w25 w26 w27 w28 w29 w30 w31 w32 w33 w34 w35 w36 a37 a38 a39 w40 w41 w42 w43 w44 w45 w46 w47 w48 w49 w50 w51 w52 w53 w54 w55 w56 w57 w58 w59 w60 w61 w62 w63 w64 w65 w66 w67 w68 w69 w70 w71 w72 w73 w74 w75 w76) (cwV 2 ht (zgV zm_1040 zm_1041 zm_1042 zm_5 zm_1043) rfl rfl rfl (by decide +kernel) ⟨(Nat.le_of_ble_eq_true rfl), (Nat.le_of_ble_eq_true rfl)⟩) hK hE hS hA hW [0, 1, 2, 3, 4] (by decide) rfl 0 rfl rfl rfl rfl hl.1 rfl (Nat.le_of_ble_eq_true rfl) dL_law_867 (Nat.le_of_ble_eq_true rfl) (Nat.le_of_ble_eq_true rfl)) hS hA hW [0, 1, 2, 3, 4] [] rfl rfl (by decide) (by decide) (fun r19_ u H locs hw hW hS => ?_)
          have hW : zPD D _ [] H := hW
          have hw : r19_ = (if (xs 1) < 0 then (-9223372036854775808) else (if 99999 < (xs 1) then (-9223372036854775808) else (if (xs 2) < 0 then (-9223372036854775808) else (if 1 < (xs 2) then (-9223372036854775808) else 1)))) := hw
          rw [if_neg c2_] at hw
          rw [if_neg c7_] at hw
          rw [if_neg c12_] at hw
          rw [if_pos c17_] at hw
          subst hw
          refine W.lcmp hx hb dL_law_870 ?_
          refine ztop (w := .int 0) (congrArg Value.int (by decide)) ?_
          refine lv_if_eq (tgt := 1340) hx hb dL_law_871 (by decide) (fun c20_ => ?_) (fun c20_ => absurd (by decide) c20_)
          exact zl_end l C0 hS (lv_sub hl [0, 3] rfl)
        · have b21_ : 0 ≤ Int32.toInt (xs 2) ∧ Int32.toInt (xs 2) ≤ 1 := (by have u0 := b16_; have u1 := (not_congr (zi_lt _ _)).mp c17_; have u2 : (1 : Int32).toInt = 1 := (by decide); omega)
          rw [if_neg c17_] at hw
          subst hw
          refine lv_aload_n hx hb dL_law_856 rfl (lv_at hl 1 rfl) ?_
          refine lv_aload_n hx hb dL_law_857 rfl (lv_at hl 3 rfl) ?_
          refine lv_iload_n hx hb dL_law_858 rfl (lv_at hl 0 rfl) ?_
          refine lv_iconst (v := 1) hx hb dL_law_859 (by decide) ?_
          refine lv_iadd hx hb dL_law_860 ?_
          refine ztop (w := .int 1) (congrArg Value.int (by decide)) ?_
          refine va_sld hx hb hX hbl hbA hS (by unfold vp_in; decide) dL_law_861 ?_
          refine ztop (w := .int (xs 1)) rfl ?_
          refine lv_aload_n hx hb dL_law_862 rfl (lv_at hl 3 rfl) ?_
          refine lv_iload_n hx hb dL_law_863 rfl (lv_at hl 0 rfl) ?_
          refine lv_iconst (v := 2) hx hb dL_law_864 (by decide) ?_
          refine lv_iadd hx hb dL_law_865 ?_
          refine ztop (w := .int 2) (congrArg Value.int (by decide)) ?_
          refine va_sld hx hb hX hbl hbA hS (by unfold vp_in; decide) dL_law_866 ?_
          refine ztop (w := .int (xs 2)) rfl ?_
          refine zgo_l (wr := []) (zrunV (As := [.int (xs 1), .int (xs 2)]) (rest := [.long 1]) ⟨hx, hb, hml, hown, ht⟩ (zc_X10_odds_0 l D y a1 (xs 1) (xs 2) w11 w12 w13 w14 w15 w16 w17 a18 w19 w20 w21 w22 w23 w24 w25 w26 w27 w28 w29 w30 w31 w32 w33 w34 w35 w36 a37 a38 a39 w40 w41 w42 w43 w44 w45 w46 w47 w48 w49 w50 w51 w52 w53 w54 w55 w56 w57 w58 w59 w60 w61 w62 w63 w64 w65 w66 w67 w68 w69 w70 w71 w72 w73 w74 w75 w76) (cwV 2 ht (zgV zm_1040 zm_1041 zm_1042 zm_5 zm_1043) rfl rfl rfl (by decide +kernel) ⟨(Nat.le_of_ble_eq_true rfl), (Nat.le_of_ble_eq_true rfl)⟩) hK hE hS hA hW [0, 1, 2, 3, 4] (by decide) rfl 0 rfl rfl rfl rfl hl.1 rfl (Nat.le_of_ble_eq_true rfl) dL_law_867 (Nat.le_of_ble_eq_true rfl) (Nat.le_of_ble_eq_true rfl)) hS hA hW [0, 1, 2, 3, 4] [] rfl rfl (by decide) (by decide) (fun r22_ u H locs hw hW hS => ?_)
          have hW : zPD D _ [] H := hW
          have hw : r22_ = (if (xs 1) < 0 then (-9223372036854775808) else (if 99999 < (xs 1) then (-9223372036854775808) else (if (xs 2) < 0 then (-9223372036854775808) else (if 1 < (xs 2) then (-9223372036854775808) else 1)))) := hw
          rw [if_neg c2_] at hw
          rw [if_neg c7_] at hw
          rw [if_neg c12_] at hw
          rw [if_neg c17_] at hw
          subst hw
          refine W.lcmp hx hb dL_law_870 ?_
          refine ztop (w := .int 0) (congrArg Value.int (by decide)) ?_
          refine lv_if_eq (tgt := 1340) hx hb dL_law_871 (by decide) (fun c23_ => ?_) (fun c23_ => absurd (by decide) c23_)
          exact zl_end l C0 hS (lv_sub hl [0, 3] rfl)
