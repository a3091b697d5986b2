theorem dL_turn_538 : decode cL_turn 538 = .ok (.bipush 8, 2) := by decide +kernel
theorem dL_turn_540 : decode cL_turn 540 = .ok (.iload 6, 2) := by decide +kernel
theorem dL_turn_542 : decode cL_turn 542 = .ok (.imul, 1) := by decide +kernel
theorem dL_turn_543 : decode cL_turn 543 = .ok (.iconst 2, 1) := by decide +kernel
theorem dL_turn_544 : decode cL_turn 544 = .ok (.iadd, 1) := by decide +kernel
theorem dL_turn_545 : decode cL_turn 545 = .ok (.iaload, 1) := by decide +kernel
theorem dL_turn_546 : decode cL_turn 546 = .ok (.if_icmp .le 15, 3) := by decide +kernel
theorem dL_turn_549 : decode cL_turn 549 = .ok (.aload_n 1, 1) := by decide +kernel
theorem dL_turn_550 : decode cL_turn 550 = .ok (.bipush 8, 2) := by decide +kernel
theorem dL_turn_552 : decode cL_turn 552 = .ok (.iload 6, 2) := by decide +kernel
theorem dL_turn_554 : decode cL_turn 554 = .ok (.imul, 1) := by decide +kernel
theorem dL_turn_555 : decode cL_turn 555 = .ok (.iconst 2, 1) := by decide +kernel
theorem dL_turn_556 : decode cL_turn 556 = .ok (.iadd, 1) := by decide +kernel
theorem dL_turn_557 : decode cL_turn 557 = .ok (.iaload, 1) := by decide +kernel
theorem dL_turn_558 : decode cL_turn 558 = .ok (.goto 5, 3) := by decide +kernel
theorem dL_turn_561 : decode cL_turn 561 = .ok (.iload 7, 2) := by decide +kernel
theorem dL_turn_563 : decode cL_turn 563 = .ok (.iastore, 1) := by decide +kernel
theorem dL_turn_564 : decode cL_turn 564 = .ok (.iinc 6 1, 3) := by decide +kernel
theorem dL_turn_567 : decode cL_turn 567 = .ok (.goto (-195), 3) := by decide +kernel
theorem dL_turn_570 : decode cL_turn 570 = .ok (.iconst 0, 1) := by decide +kernel
theorem dL_turn_571 : decode cL_turn 571 = .ok (.istore 6, 2) := by decide +kernel
theorem dL_turn_573 : decode cL_turn 573 = .ok (.iload 6, 2) := by decide +kernel
theorem dL_turn_575 : decode cL_turn 575 = .ok (.aload_n 3, 1) := by decide +kernel
theorem dL_turn_576 : decode cL_turn 576 = .ok (.iconst 1, 1) := by decide +kernel
theorem dL_turn_577 : decode cL_turn 577 = .ok (.iaload, 1) := by decide +kernel
theorem dL_turn_578 : decode cL_turn 578 = .ok (.if_icmp .ge 77, 3) := by decide +kernel
theorem dL_turn_581 : decode cL_turn 581 = .ok (.aload_n 1, 1) := by decide +kernel
theorem dL_turn_582 : decode cL_turn 582 = .ok (.bipush 8, 2) := by decide +kernel
theorem dL_turn_584 : decode cL_turn 584 = .ok (.iload 6, 2) := by decide +kernel
theorem dL_turn_586 : decode cL_turn 586 = .ok (.imul, 1) := by decide +kernel
theorem dL_turn_587 : decode cL_turn 587 = .ok (.iconst 2, 1) := by decide +kernel
theorem dL_turn_588 : decode cL_turn 588 = .ok (.iadd, 1) := by decide +kernel
theorem dL_turn_589 : decode cL_turn 589 = .ok (.dup2, 1) := by decide +kernel
theorem dL_turn_590 : decode cL_turn 590 = .ok (.iaload, 1) := by decide +kernel
theorem dL_turn_591 : decode cL_turn 591 = .ok (.aload_n 1, 1) := by decide +kernel
theorem dL_turn_592 : decode cL_turn 592 = .ok (.bipush 8, 2) := by decide +kernel
theorem dL_turn_594 : decode cL_turn 594 = .ok (.iload 6, 2) := by decide +kernel
theorem dL_turn_596 : decode cL_turn 596 = .ok (.imul, 1) := by decide +kernel
theorem dL_turn_597 : decode cL_turn 597 = .ok (.bipush 6, 2) := by decide +kernel
theorem dL_turn_599 : decode cL_turn 599 = .ok (.iadd, 1) := by decide +kernel
theorem dL_turn_600 : decode cL_turn 600 = .ok (.iaload, 1) := by decide +kernel
theorem dL_turn_601 : decode cL_turn 601 = .ok (.isub, 1) := by decide +kernel
theorem dL_turn_602 : decode cL_turn 602 = .ok (.iastore, 1) := by decide +kernel
theorem dL_turn_603 : decode cL_turn 603 = .ok (.aload_n 3, 1) := by decide +kernel
theorem dL_turn_604 : decode cL_turn 604 = .ok (.iconst 5, 1) := by decide +kernel
theorem dL_turn_605 : decode cL_turn 605 = .ok (.aload_n 1, 1) := by decide +kernel
theorem dL_turn_606 : decode cL_turn 606 = .ok (.bipush 8, 2) := by decide +kernel
theorem dL_turn_608 : decode cL_turn 608 = .ok (.iload 6, 2) := by decide +kernel
theorem dL_turn_610 : decode cL_turn 610 = .ok (.imul, 1) := by decide +kernel
theorem dL_turn_611 : decode cL_turn 611 = .ok (.iaload, 1) := by decide +kernel
theorem dL_turn_612 : decode cL_turn 612 = .ok (.iadd, 1) := by decide +kernel
theorem dL_turn_613 : decode cL_turn 613 = .ok (.dup2, 1) := by decide +kernel
theorem dL_turn_614 : decode cL_turn 614 = .ok (.iaload, 1) := by decide +kernel
theorem dL_turn_615 : decode cL_turn 615 = .ok (.aload_n 1, 1) := by decide +kernel
theorem dL_turn_616 : decode cL_turn 616 = .ok (.bipush 8, 2) := by decide +kernel
theorem dL_turn_618 : decode cL_turn 618 = .ok (.iload 6, 2) := by decide +kernel
theorem dL_turn_620 : decode cL_turn 620 = .ok (.imul, 1) := by decide +kernel
theorem dL_turn_621 : decode cL_turn 621 = .ok (.bipush 6, 2) := by decide +kernel
theorem dL_turn_623 : decode cL_turn 623 = .ok (.iadd, 1) := by decide +kernel
theorem dL_turn_624 : decode cL_turn 624 = .ok (.iaload, 1) := by decide +kernel
theorem dL_turn_625 : decode cL_turn 625 = .ok (.iadd, 1) := by decide +kernel
theorem dL_turn_626 : decode cL_turn 626 = .ok (.iastore, 1) := by decide +kernel
theorem dL_turn_627 : decode cL_turn 627 = .ok (.aload_n 1, 1) := by decide +kernel
theorem dL_turn_628 : decode cL_turn 628 = .ok (.bipush 8, 2) := by decide +kernel
theorem dL_turn_630 : decode cL_turn 630 = .ok (.iload 6, 2) := by decide +kernel
theorem dL_turn_632 : decode cL_turn 632 = .ok (.imul, 1) := by decide +kernel
theorem dL_turn_633 : decode cL_turn 633 = .ok (.iconst 2, 1) := by decide +kernel
theorem dL_turn_634 : decode cL_turn 634 = .ok (.iadd, 1) := by decide +kernel
theorem dL_turn_635 : decode cL_turn 635 = .ok (.iaload, 1) := by decide +kernel
theorem dL_turn_636 : decode cL_turn 636 = .ok (.ifCond .ne 13, 3) := by decide +kernel
theorem dL_turn_639 : decode cL_turn 639 = .ok (.aload_n 1, 1) := by decide +kernel
theorem dL_turn_640 : decode cL_turn 640 = .ok (.bipush 8, 2) := by decide +kernel
theorem dL_turn_642 : decode cL_turn 642 = .ok (.iload 6, 2) := by decide +kernel
theorem dL_turn_644 : decode cL_turn 644 = .ok (.imul, 1) := by decide +kernel
theorem dL_turn_645 : decode cL_turn 645 = .ok (.iconst 4, 1) := by decide +kernel
theorem dL_turn_646 : decode cL_turn 646 = .ok (.iadd, 1) := by decide +kernel
theorem dL_turn_647 : decode cL_turn 647 = .ok (.iconst 2, 1) := by decide +kernel
theorem dL_turn_648 : decode cL_turn 648 = .ok (.iastore, 1) := by decide +kernel
theorem dL_turn_649 : decode cL_turn 649 = .ok (.iinc 6 1, 3) := by decide +kernel
theorem dL_turn_652 : decode cL_turn 652 = .ok (.goto (-79), 3) := by decide +kernel
theorem dL_turn_655 : decode cL_turn 655 = .ok (.iconst 0, 1) := by decide +kernel
theorem dL_turn_656 : decode cL_turn 656 = .ok (.istore 6, 2) := by decide +kernel
theorem dL_turn_658 : decode cL_turn 658 = .ok (.iload 6, 2) := by decide +kernel
theorem dL_turn_660 : decode cL_turn 660 = .ok (.aload_n 3, 1) := by decide +kernel
theorem dL_turn_661 : decode cL_turn 661 = .ok (.iconst 1, 1) := by decide +kernel
theorem dL_turn_662 : decode cL_turn 662 = .ok (.iaload, 1) := by decide +kernel
theorem dL_turn_663 : decode cL_turn 663 = .ok (.if_icmp .ge 222, 3) := by decide +kernel
theorem dL_turn_666 : decode cL_turn 666 = .ok (.aload_n 1, 1) := by decide +kernel
theorem dL_turn_667 : decode cL_turn 667 = .ok (.bipush 8, 2) := by decide +kernel
theorem dL_turn_669 : decode cL_turn 669 = .ok (.iload 6, 2) := by decide +kernel
theorem dL_turn_671 : decode cL_turn 671 = .ok (.imul, 1) := by decide +kernel
theorem dL_turn_672 : decode cL_turn 672 = .ok (.iconst 4, 1) := by decide +kernel
theorem dL_turn_673 : decode cL_turn 673 = .ok (.iadd, 1) := by decide +kernel
theorem dL_turn_674 : decode cL_turn 674 = .ok (.iaload, 1) := by decide +kernel
theorem dL_turn_675 : decode cL_turn 675 = .ok (.ifCond .ne 52, 3) := by decide +kernel
theorem dL_turn_678 : decode cL_turn 678 = .ok (.aload_n 1, 1) := by decide +kernel
theorem dL_turn_679 : decode cL_turn 679 = .ok (.bipush 8, 2) := by decide +kernel
theorem dL_turn_681 : decode cL_turn 681 = .ok (.iload 6, 2) := by decide +kernel
theorem dL_turn_683 : decode cL_turn 683 = .ok (.imul, 1) := by decide +kernel
theorem dL_turn_684 : decode cL_turn 684 = .ok (.bipush 6, 2) := by decide +kernel
theorem dL_turn_686 : decode cL_turn 686 = .ok (.iadd, 1) := by decide +kernel
theorem dL_turn_687 : decode cL_turn 687 = .ok (.iaload, 1) := by decide +kernel
theorem dL_turn_688 : decode cL_turn 688 = .ok (.ifCond .le 39, 3) := by decide +kernel
theorem dL_turn_691 : decode cL_turn 691 = .ok (.iconst 2, 1) := by decide +kernel
theorem dL_turn_692 : decode cL_turn 692 = .ok (.aload_n 1, 1) := by decide +kernel
theorem dL_turn_693 : decode cL_turn 693 = .ok (.bipush 8, 2) := by decide +kernel
theorem dL_turn_695 : decode cL_turn 695 = .ok (.iload 6, 2) := by decide +kernel
theorem dL_turn_697 : decode cL_turn 697 = .ok (.imul, 1) := by decide +kernel
theorem dL_turn_698 : decode cL_turn 698 = .ok (.iconst 2, 1) := by decide +kernel
theorem dL_turn_699 : decode cL_turn 699 = .ok (.iadd, 1) := by decide +kernel
theorem dL_turn_700 : decode cL_turn 700 = .ok (.iaload, 1) := by decide +kernel
theorem dL_turn_701 : decode cL_turn 701 = .ok (.imul, 1) := by decide +kernel
theorem dL_turn_702 : decode cL_turn 702 = .ok (.aload_n 1, 1) := by decide +kernel
theorem dL_turn_703 : decode cL_turn 703 = .ok (.bipush 8, 2) := by decide +kernel
theorem dL_turn_705 : decode cL_turn 705 = .ok (.iload 6, 2) := by decide +kernel
theorem dL_turn_707 : decode cL_turn 707 = .ok (.imul, 1) := by decide +kernel
theorem dL_turn_708 : decode cL_turn 708 = .ok (.iconst 5, 1) := by decide +kernel
theorem dL_turn_709 : decode cL_turn 709 = .ok (.iadd, 1) := by decide +kernel
theorem dL_turn_710 : decode cL_turn 710 = .ok (.iaload, 1) := by decide +kernel
theorem dL_turn_711 : decode cL_turn 711 = .ok (.if_icmp .gt 16, 3) := by decide +kernel
theorem dL_turn_714 : decode cL_turn 714 = .ok (.aload_n 1, 1) := by decide +kernel
theorem dL_turn_715 : decode cL_turn 715 = .ok (.bipush 8, 2) := by decide +kernel
theorem dL_turn_717 : decode cL_turn 717 = .ok (.iload 6, 2) := by decide +kernel
theorem dL_turn_719 : decode cL_turn 719 = .ok (.imul, 1) := by decide +kernel
theorem dL_turn_720 : decode cL_turn 720 = .ok (.iconst 4, 1) := by decide +kernel
theorem dL_turn_721 : decode cL_turn 721 = .ok (.iadd, 1) := by decide +kernel
theorem dL_turn_722 : decode cL_turn 722 = .ok (.iconst 1, 1) := by decide +kernel
theorem dL_turn_723 : decode cL_turn 723 = .ok (.iastore, 1) := by decide +kernel
theorem dL_turn_724 : decode cL_turn 724 = .ok (.goto 155, 3) := by decide +kernel
theorem dL_turn_727 : decode cL_turn 727 = .ok (.aload_n 1, 1) := by decide +kernel
theorem dL_turn_728 : decode cL_turn 728 = .ok (.bipush 8, 2) := by decide +kernel
theorem dL_turn_730 : decode cL_turn 730 = .ok (.iload 6, 2) := by decide +kernel
theorem dL_turn_732 : decode cL_turn 732 = .ok (.imul, 1) := by decide +kernel
theorem dL_turn_733 : decode cL_turn 733 = .ok (.iconst 4, 1) := by decide +kernel
theorem dL_turn_734 : decode cL_turn 734 = .ok (.iadd, 1) := by decide +kernel
theorem dL_turn_735 : decode cL_turn 735 = .ok (.iaload, 1) := by decide +kernel
theorem dL_turn_736 : decode cL_turn 736 = .ok (.iconst 1, 1) := by decide +kernel
theorem dL_turn_737 : decode cL_turn 737 = .ok (.if_icmp .ne 142, 3) := by decide +kernel
theorem dL_turn_740 : decode cL_turn 740 = .ok (.aload_n 1, 1) := by decide +kernel
theorem dL_turn_741 : decode cL_turn 741 = .ok (.bipush 8, 2) := by decide +kernel
theorem dL_turn_743 : decode cL_turn 743 = .ok (.iload 6, 2) := by decide +kernel
theorem dL_turn_745 : decode cL_turn 745 = .ok (.imul, 1) := by decide +kernel
theorem dL_turn_746 : decode cL_turn 746 = .ok (.bipush 6, 2) := by decide +kernel
theorem dL_turn_748 : decode cL_turn 748 = .ok (.iadd, 1) := by decide +kernel
theorem dL_turn_749 : decode cL_turn 749 = .ok (.iaload, 1) := by decide +kernel
theorem dL_turn_750 : decode cL_turn 750 = .ok (.ifCond .le 6, 3) := by decide +kernel
theorem dL_turn_753 : decode cL_turn 753 = .ok (.goto 126, 3) := by decide +kernel
theorem dL_turn_756 : decode cL_turn 756 = .ok (.iconst 0, 1) := by decide +kernel
theorem dL_turn_757 : decode cL_turn 757 = .ok (.istore 7, 2) := by decide +kernel
theorem dL_turn_759 : decode cL_turn 759 = .ok (.iconst 0, 1) := by decide +kernel
theorem dL_turn_760 : decode cL_turn 760 = .ok (.istore 8, 2) := by decide +kernel
theorem dL_turn_762 : decode cL_turn 762 = .ok (.iload 8, 2) := by decide +kernel
theorem dL_turn_764 : decode cL_turn 764 = .ok (.aload_n 3, 1) := by decide +kernel
theorem dL_turn_765 : decode cL_turn 765 = .ok (.iconst 1, 1) := by decide +kernel
theorem dL_turn_766 : decode cL_turn 766 = .ok (.iaload, 1) := by decide +kernel
theorem dL_turn_767 : decode cL_turn 767 = .ok (.if_icmp .ge 76, 3) := by decide +kernel
theorem dL_turn_770 : decode cL_turn 770 = .ok (.iload 7, 2) := by decide +kernel
theorem dL_turn_772 : decode cL_turn 772 = .ok (.ifCond .ne 58, 3) := by decide +kernel
theorem dL_turn_775 : decode cL_turn 775 = .ok (.aload_n 1, 1) := by decide +kernel
theorem dL_turn_776 : decode cL_turn 776 = .ok (.bipush 8, 2) := by decide +kernel
theorem dL_turn_778 : decode cL_turn 778 = .ok (.iload 8, 2) := by decide +kernel
theorem dL_turn_780 : decode cL_turn 780 = .ok (.imul, 1) := by decide +kernel
theorem dL_turn_781 : decode cL_turn 781 = .ok (.iconst 4, 1) := by decide +kernel
theorem dL_turn_782 : decode cL_turn 782 = .ok (.iadd, 1) := by decide +kernel
theorem dL_turn_783 : decode cL_turn 783 = .ok (.iaload, 1) := by decide +kernel
theorem dL_turn_784 : decode cL_turn 784 = .ok (.iconst 2, 1) := by decide +kernel
theorem dL_turn_785 : decode cL_turn 785 = .ok (.if_icmp .ge 49, 3) := by decide +kernel
theorem dL_turn_788 : decode cL_turn 788 = .ok (.aload_n 1, 1) := by decide +kernel
theorem dL_turn_789 : decode cL_turn 789 = .ok (.bipush 8, 2) := by decide +kernel
theorem dL_turn_791 : decode cL_turn 791 = .ok (.iload 8, 2) := by decide +kernel
theorem dL_turn_793 : decode cL_turn 793 = .ok (.imul, 1) := by decide +kernel
theorem dL_turn_794 : decode cL_turn 794 = .ok (.iaload, 1) := by decide +kernel
theorem dL_turn_795 : decode cL_turn 795 = .ok (.aload_n 1, 1) := by decide +kernel
theorem dL_turn_796 : decode cL_turn 796 = .ok (.bipush 8, 2) := by decide +kernel
theorem dL_turn_798 : decode cL_turn 798 = .ok (.iload 6, 2) := by decide +kernel
theorem dL_turn_800 : decode cL_turn 800 = .ok (.imul, 1) := by decide +kernel
theorem dL_turn_801 : decode cL_turn 801 = .ok (.iaload, 1) := by decide +kernel
theorem dL_turn_802 : decode cL_turn 802 = .ok (.if_icmp .eq 32, 3) := by decide +kernel
theorem dL_turn_805 : decode cL_turn 805 = .ok (.aload_n 1, 1) := by decide +kernel
theorem dL_turn_806 : decode cL_turn 806 = .ok (.bipush 8, 2) := by decide +kernel
theorem dL_turn_808 : decode cL_turn 808 = .ok (.iload 6, 2) := by decide +kernel
theorem dL_turn_810 : decode cL_turn 810 = .ok (.imul, 1) := by decide +kernel
theorem dL_turn_811 : decode cL_turn 811 = .ok (.iconst 1, 1) := by decide +kernel
theorem dL_turn_812 : decode cL_turn 812 = .ok (.iadd, 1) := by decide +kernel
theorem dL_turn_813 : decode cL_turn 813 = .ok (.iaload, 1) := by decide +kernel
theorem dL_turn_814 : decode cL_turn 814 = .ok (.aload_n 1, 1) := by decide +kernel
theorem dL_turn_815 : decode cL_turn 815 = .ok (.bipush 8, 2) := by decide +kernel
theorem dL_turn_817 : decode cL_turn 817 = .ok (.iload 8, 2) := by decide +kernel
theorem dL_turn_819 : decode cL_turn 819 = .ok (.imul, 1) := by decide +kernel
theorem dL_turn_820 : decode cL_turn 820 = .ok (.iconst 1, 1) := by decide +kernel
theorem dL_turn_821 : decode cL_turn 821 = .ok (.iadd, 1) := by decide +kernel
theorem dL_turn_822 : decode cL_turn 822 = .ok (.iaload, 1) := by decide +kernel
theorem dL_turn_823 : decode cL_turn 823 = .ok (.aload_n 0, 1) := by decide +kernel
theorem dL_turn_824 : decode cL_turn 824 = .ok (.invokestatic 29, 3) := by decide +kernel
theorem dL_turn_827 : decode cL_turn 827 = .ok (.ifCond .eq 7, 3) := by decide +kernel
theorem dL_turn_830 : decode cL_turn 830 = .ok (.iconst 1, 1) := by decide +kernel
theorem dL_turn_831 : decode cL_turn 831 = .ok (.goto 4, 3) := by decide +kernel
theorem dL_turn_834 : decode cL_turn 834 = .ok (.iconst 0, 1) := by decide +kernel
theorem dL_turn_835 : decode cL_turn 835 = .ok (.istore 7, 2) := by decide +kernel
theorem dL_turn_837 : decode cL_turn 837 = .ok (.iinc 8 1, 3) := by decide +kernel
theorem dL_turn_840 : decode cL_turn 840 = .ok (.goto (-78), 3) := by decide +kernel
theorem dL_turn_843 : decode cL_turn 843 = .ok (.iload 7, 2) := by decide +kernel
theorem dL_turn_845 : decode cL_turn 845 = .ok (.ifCond .eq 6, 3) := by decide +kernel
theorem dL_turn_848 : decode cL_turn 848 = .ok (.goto 31, 3) := by decide +kernel
theorem dL_turn_851 : decode cL_turn 851 = .ok (.aload_n 1, 1) := by decide +kernel
theorem dL_turn_852 : decode cL_turn 852 = .ok (.bipush 8, 2) := by decide +kernel
theorem dL_turn_854 : decode cL_turn 854 = .ok (.iload 6, 2) := by decide +kernel
theorem dL_turn_856 : decode cL_turn 856 = .ok (.imul, 1) := by decide +kernel
theorem dL_turn_857 : decode cL_turn 857 = .ok (.iconst 4, 1) := by decide +kernel
theorem dL_turn_858 : decode cL_turn 858 = .ok (.iadd, 1) := by decide +kernel
theorem dL_turn_859 : decode cL_turn 859 = .ok (.iconst 0, 1) := by decide +kernel
theorem dL_turn_860 : decode cL_turn 860 = .ok (.iastore, 1) := by decide +kernel
theorem dL_turn_861 : decode cL_turn 861 = .ok (.aload_n 1, 1) := by decide +kernel
theorem dL_turn_862 : decode cL_turn 862 = .ok (.bipush 8, 2) := by decide +kernel
theorem dL_turn_864 : decode cL_turn 864 = .ok (.iload 6, 2) := by decide +kernel
theorem dL_turn_866 : decode cL_turn 866 = .ok (.imul, 1) := by decide +kernel
theorem dL_turn_867 : decode cL_turn 867 = .ok (.iconst 3, 1) := by decide +kernel
theorem dL_turn_868 : decode cL_turn 868 = .ok (.iadd, 1) := by decide +kernel
theorem dL_turn_869 : decode cL_turn 869 = .ok (.aload_n 1, 1) := by decide +kernel
theorem dL_turn_870 : decode cL_turn 870 = .ok (.bipush 8, 2) := by decide +kernel
theorem dL_turn_872 : decode cL_turn 872 = .ok (.iload 6, 2) := by decide +kernel
theorem dL_turn_874 : decode cL_turn 874 = .ok (.imul, 1) := by decide +kernel
theorem dL_turn_875 : decode cL_turn 875 = .ok (.iconst 1, 1) := by decide +kernel
theorem dL_turn_876 : decode cL_turn 876 = .ok (.iadd, 1) := by decide +kernel
theorem dL_turn_877 : decode cL_turn 877 = .ok (.iaload, 1) := by decide +kernel
theorem dL_turn_878 : decode cL_turn 878 = .ok (.iastore, 1) := by decide +kernel
theorem dL_turn_879 : decode cL_turn 879 = .ok (.iinc 6 1, 3) := by decide +kernel
theorem dL_turn_882 : decode cL_turn 882 = .ok (.goto (-224), 3) := by decide +kernel
theorem dL_turn_885 : decode cL_turn 885 = .ok (.return_, 1) := by decide +kernel
theorem dL_counted_0 : decode cL_counted 0 = .ok (.iload_n 0, 1) := by decide +kernel
theorem dL_counted_1 : decode cL_counted 1 = .ok (.iconst 2, 1) := by decide +kernel
theorem dL_counted_2 : decode cL_counted 2 = .ok (.if_icmp .ge 7, 3) := by decide +kernel
theorem dL_counted_5 : decode cL_counted 5 = .ok (.aload_n 2, 1) := by decide +kernel
theorem dL_counted_6 : decode cL_counted 6 = .ok (.iload_n 0, 1) := by decide +kernel
theorem dL_counted_7 : decode cL_counted 7 = .ok (.iaload, 1) := by decide +kernel
theorem dL_counted_8 : decode cL_counted 8 = .ok (.ireturn, 1) := by decide +kernel
theorem dL_counted_9 : decode cL_counted 9 = .ok (.iload_n 0, 1) := by decide +kernel
theorem dL_counted_10 : decode cL_counted 10 = .ok (.iconst 3, 1) := by decide +kernel
theorem dL_counted_11 : decode cL_counted 11 = .ok (.if_icmp .le 49, 3) := by decide +kernel
theorem dL_counted_14 : decode cL_counted 14 = .ok (.iload_n 0, 1) := by decide +kernel
theorem dL_counted_15 : decode cL_counted 15 = .ok (.bipush 9, 2) := by decide +kernel
theorem dL_counted_17 : decode cL_counted 17 = .ok (.if_icmp .ge 43, 3) := by decide +kernel
theorem dL_counted_20 : decode cL_counted 20 = .ok (.iload_n 0, 1) := by decide +kernel
theorem dL_counted_21 : decode cL_counted 21 = .ok (.iconst 4, 1) := by decide +kernel
theorem dL_counted_22 : decode cL_counted 22 = .ok (.if_icmp .ne 9, 3) := by decide +kernel
theorem dL_counted_25 : decode cL_counted 25 = .ok (.aload_n 2, 1) := by decide +kernel
theorem dL_counted_26 : decode cL_counted 26 = .ok (.iconst 3, 1) := by decide +kernel
theorem dL_counted_27 : decode cL_counted 27 = .ok (.iaload, 1) := by decide +kernel
theorem dL_counted_28 : decode cL_counted 28 = .ok (.goto 31, 3) := by decide +kernel
theorem dL_counted_31 : decode cL_counted 31 = .ok (.iload_n 0, 1) := by decide +kernel
theorem dL_counted_32 : decode cL_counted 32 = .ok (.iconst 5, 1) := by decide +kernel
theorem dL_counted_33 : decode cL_counted 33 = .ok (.if_icmp .ne 9, 3) := by decide +kernel
theorem dL_counted_36 : decode cL_counted 36 = .ok (.aload_n 2, 1) := by decide +kernel
theorem dL_counted_37 : decode cL_counted 37 = .ok (.iconst 2, 1) := by decide +kernel
theorem dL_counted_38 : decode cL_counted 38 = .ok (.iaload, 1) := by decide +kernel
theorem dL_counted_39 : decode cL_counted 39 = .ok (.goto 20, 3) := by decide +kernel
theorem dL_counted_42 : decode cL_counted 42 = .ok (.iload_n 0, 1) := by decide +kernel
theorem dL_counted_43 : decode cL_counted 43 = .ok (.bipush 6, 2) := by decide +kernel
theorem dL_counted_45 : decode cL_counted 45 = .ok (.if_icmp .ne 9, 3) := by decide +kernel
theorem dL_counted_48 : decode cL_counted 48 = .ok (.aload_n 2, 1) := by decide +kernel
theorem dL_counted_49 : decode cL_counted 49 = .ok (.iconst 4, 1) := by decide +kernel
theorem dL_counted_50 : decode cL_counted 50 = .ok (.iaload, 1) := by decide +kernel
theorem dL_counted_51 : decode cL_counted 51 = .ok (.goto 8, 3) := by decide +kernel
theorem dL_counted_54 : decode cL_counted 54 = .ok (.aload_n 2, 1) := by decide +kernel
theorem dL_counted_55 : decode cL_counted 55 = .ok (.iload_n 0, 1) := by decide +kernel
theorem dL_counted_56 : decode cL_counted 56 = .ok (.iconst 2, 1) := by decide +kernel
theorem dL_counted_57 : decode cL_counted 57 = .ok (.isub, 1) := by decide +kernel
theorem dL_counted_58 : decode cL_counted 58 = .ok (.iaload, 1) := by decide +kernel
theorem dL_counted_59 : decode cL_counted 59 = .ok (.ireturn, 1) := by decide +kernel
theorem dL_counted_60 : decode cL_counted 60 = .ok (.iconst 0, 1) := by decide +kernel
theorem dL_counted_61 : decode cL_counted 61 = .ok (.istore_n 3, 1) := by decide +kernel
theorem dL_counted_62 : decode cL_counted 62 = .ok (.iconst 0, 1) := by decide +kernel
theorem dL_counted_63 : decode cL_counted 63 = .ok (.istore 4, 2) := by decide +kernel
theorem dL_counted_65 : decode cL_counted 65 = .ok (.iload 4, 2) := by decide +kernel
theorem dL_counted_67 : decode cL_counted 67 = .ok (.aload_n 2, 1) := by decide +kernel
theorem dL_counted_68 : decode cL_counted 68 = .ok (.iconst 1, 1) := by decide +kernel
theorem dL_counted_69 : decode cL_counted 69 = .ok (.iaload, 1) := by decide +kernel
theorem dL_counted_70 : decode cL_counted 70 = .ok (.if_icmp .ge 91, 3) := by decide +kernel
theorem dL_counted_73 : decode cL_counted 73 = .ok (.iload_n 3, 1) := by decide +kernel
theorem dL_counted_74 : decode cL_counted 74 = .ok (.iload_n 0, 1) := by decide +kernel
theorem dL_counted_75 : decode cL_counted 75 = .ok (.iconst 2, 1) := by decide +kernel
theorem dL_counted_76 : decode cL_counted 76 = .ok (.if_icmp .ne 24, 3) := by decide +kernel
theorem dL_counted_79 : decode cL_counted 79 = .ok (.aload_n 1, 1) := by decide +kernel
theorem dL_counted_80 : decode cL_counted 80 = .ok (.bipush 8, 2) := by decide +kernel
theorem dL_counted_82 : decode cL_counted 82 = .ok (.iload 4, 2) := by decide +kernel
theorem dL_counted_84 : decode cL_counted 84 = .ok (.imul, 1) := by decide +kernel
theorem dL_counted_85 : decode cL_counted 85 = .ok (.iconst 4, 1) := by decide +kernel
theorem dL_counted_86 : decode cL_counted 86 = .ok (.iadd, 1) := by decide +kernel
theorem dL_counted_87 : decode cL_counted 87 = .ok (.iaload, 1) := by decide +kernel
theorem dL_counted_88 : decode cL_counted 88 = .ok (.iconst 2, 1) := by decide +kernel
theorem dL_counted_89 : decode cL_counted 89 = .ok (.if_icmp .ge 7, 3) := by decide +kernel
theorem dL_counted_92 : decode cL_counted 92 = .ok (.iconst 1, 1) := by decide +kernel
theorem dL_counted_93 : decode cL_counted 93 = .ok (.goto 60, 3) := by decide +kernel
theorem dL_counted_96 : decode cL_counted 96 = .ok (.iconst 0, 1) := by decide +kernel
theorem dL_counted_97 : decode cL_counted 97 = .ok (.goto 56, 3) := by decide +kernel
theorem dL_counted_100 : decode cL_counted 100 = .ok (.iload_n 0, 1) := by decide +kernel
theorem dL_counted_101 : decode cL_counted 101 = .ok (.iconst 3, 1) := by decide +kernel
theorem dL_counted_102 : decode cL_counted 102 = .ok (.if_icmp .ne 24, 3) := by decide +kernel
theorem dL_counted_105 : decode cL_counted 105 = .ok (.aload_n 1, 1) := by decide +kernel
theorem dL_counted_106 : decode cL_counted 106 = .ok (.bipush 8, 2) := by decide +kernel
theorem dL_counted_108 : decode cL_counted 108 = .ok (.iload 4, 2) := by decide +kernel
theorem dL_counted_110 : decode cL_counted 110 = .ok (.imul, 1) := by decide +kernel
theorem dL_counted_111 : decode cL_counted 111 = .ok (.iconst 4, 1) := by decide +kernel
theorem dL_counted_112 : decode cL_counted 112 = .ok (.iadd, 1) := by decide +kernel
theorem dL_counted_113 : decode cL_counted 113 = .ok (.iaload, 1) := by decide +kernel
theorem dL_counted_114 : decode cL_counted 114 = .ok (.iconst 1, 1) := by decide +kernel
theorem dL_counted_115 : decode cL_counted 115 = .ok (.if_icmp .ne 7, 3) := by decide +kernel
theorem dL_counted_118 : decode cL_counted 118 = .ok (.iconst 1, 1) := by decide +kernel
theorem dL_counted_119 : decode cL_counted 119 = .ok (.goto 34, 3) := by decide +kernel
theorem dL_counted_122 : decode cL_counted 122 = .ok (.iconst 0, 1) := by decide +kernel
theorem dL_counted_123 : decode cL_counted 123 = .ok (.goto 30, 3) := by decide +kernel
theorem dL_counted_126 : decode cL_counted 126 = .ok (.aload_n 1, 1) := by decide +kernel
theorem dL_counted_127 : decode cL_counted 127 = .ok (.bipush 8, 2) := by decide +kernel
theorem dL_counted_129 : decode cL_counted 129 = .ok (.iload 4, 2) := by decide +kernel
theorem dL_counted_131 : decode cL_counted 131 = .ok (.imul, 1) := by decide +kernel
theorem dL_counted_132 : decode cL_counted 132 = .ok (.iaload, 1) := by decide +kernel
theorem dL_counted_133 : decode cL_counted 133 = .ok (.iload_n 0, 1) := by decide +kernel
theorem dL_counted_134 : decode cL_counted 134 = .ok (.bipush 9, 2) := by decide +kernel
theorem dL_counted_136 : decode cL_counted 136 = .ok (.isub, 1) := by decide +kernel
theorem dL_counted_137 : decode cL_counted 137 = .ok (.if_icmp .ne 15, 3) := by decide +kernel
theorem dL_counted_140 : decode cL_counted 140 = .ok (.aload_n 1, 1) := by decide +kernel
theorem dL_counted_141 : decode cL_counted 141 = .ok (.bipush 8, 2) := by decide +kernel
theorem dL_counted_143 : decode cL_counted 143 = .ok (.iload 4, 2) := by decide +kernel
theorem dL_counted_145 : decode cL_counted 145 = .ok (.imul, 1) := by decide +kernel
theorem dL_counted_146 : decode cL_counted 146 = .ok (.iconst 2, 1) := by decide +kernel
theorem dL_counted_147 : decode cL_counted 147 = .ok (.iadd, 1) := by decide +kernel
theorem dL_counted_148 : decode cL_counted 148 = .ok (.iaload, 1) := by decide +kernel
theorem dL_counted_149 : decode cL_counted 149 = .ok (.goto 4, 3) := by decide +kernel
theorem dL_counted_152 : decode cL_counted 152 = .ok (.iconst 0, 1) := by decide +kernel
theorem dL_counted_153 : decode cL_counted 153 = .ok (.iadd, 1) := by decide +kernel
theorem dL_counted_154 : decode cL_counted 154 = .ok (.istore_n 3, 1) := by decide +kernel
theorem dL_counted_155 : decode cL_counted 155 = .ok (.iinc 4 1, 3) := by decide +kernel
theorem dL_counted_158 : decode cL_counted 158 = .ok (.goto (-93), 3) := by decide +kernel
theorem dL_counted_161 : decode cL_counted 161 = .ok (.iload_n 3, 1) := by decide +kernel
theorem dL_counted_162 : decode cL_counted 162 = .ok (.ireturn, 1) := by decide +kernel
theorem dL_told_0 : decode cL_told 0 = .ok (.iconst 0, 1) := by decide +kernel
theorem dL_told_1 : decode cL_told 1 = .ok (.istore 7, 2) := by decide +kernel
theorem dL_told_3 : decode cL_told 3 = .ok (.iconst 0, 1) := by decide +kernel
theorem dL_told_4 : decode cL_told 4 = .ok (.istore 8, 2) := by decide +kernel
theorem dL_told_6 : decode cL_told 6 = .ok (.iload 8, 2) := by decide +kernel
theorem dL_told_8 : decode cL_told 8 = .ok (.aload 6, 2) := by decide +kernel
theorem dL_told_10 : decode cL_told 10 = .ok (.iconst 1, 1) := by decide +kernel
theorem dL_told_11 : decode cL_told 11 = .ok (.iaload, 1) := by decide +kernel
theorem dL_told_12 : decode cL_told 12 = .ok (.if_icmp .ge 192, 3) := by decide +kernel
theorem dL_told_15 : decode cL_told 15 = .ok (.iconst 0, 1) := by decide +kernel
theorem dL_told_16 : decode cL_told 16 = .ok (.istore 9, 2) := by decide +kernel
theorem dL_told_18 : decode cL_told 18 = .ok (.iconst 0, 1) := by decide +kernel
theorem dL_told_19 : decode cL_told 19 = .ok (.istore 10, 2) := by decide +kernel
theorem dL_told_21 : decode cL_told 21 = .ok (.iload 10, 2) := by decide +kernel
theorem dL_told_23 : decode cL_told 23 = .ok (.aload 6, 2) := by decide +kernel
theorem dL_told_25 : decode cL_told 25 = .ok (.iconst 2, 1) := by decide +kernel
theorem dL_told_26 : decode cL_told 26 = .ok (.iaload, 1) := by decide +kernel
theorem dL_told_27 : decode cL_told 27 = .ok (.if_icmp .ge 33, 3) := by decide +kernel
theorem dL_told_30 : decode cL_told 30 = .ok (.iload 9, 2) := by decide +kernel
theorem dL_told_32 : decode cL_told 32 = .ok (.aload 5, 2) := by decide +kernel
theorem dL_told_34 : decode cL_told 34 = .ok (.iconst 4, 1) := by decide +kernel
theorem dL_told_35 : decode cL_told 35 = .ok (.iload 10, 2) := by decide +kernel
theorem dL_told_37 : decode cL_told 37 = .ok (.imul, 1) := by decide +kernel
theorem dL_told_38 : decode cL_told 38 = .ok (.iconst 1, 1) := by decide +kernel
theorem dL_told_39 : decode cL_told 39 = .ok (.iadd, 1) := by decide +kernel
theorem dL_told_40 : decode cL_told 40 = .ok (.iaload, 1) := by decide +kernel
theorem dL_told_41 : decode cL_told 41 = .ok (.iload 8, 2) := by decide +kernel
theorem dL_told_43 : decode cL_told 43 = .ok (.if_icmp .ne 7, 3) := by decide +kernel
theorem dL_told_46 : decode cL_told 46 = .ok (.iconst 1, 1) := by decide +kernel
theorem dL_told_47 : decode cL_told 47 = .ok (.goto 4, 3) := by decide +kernel
theorem dL_told_50 : decode cL_told 50 = .ok (.iconst 0, 1) := by decide +kernel
theorem dL_told_51 : decode cL_told 51 = .ok (.iadd, 1) := by decide +kernel
theorem dL_told_52 : decode cL_told 52 = .ok (.istore 9, 2) := by decide +kernel
theorem dL_told_54 : decode cL_told 54 = .ok (.iinc 10 1, 3) := by decide +kernel
theorem dL_told_57 : decode cL_told 57 = .ok (.goto (-36), 3) := by decide +kernel
theorem dL_told_60 : decode cL_told 60 = .ok (.iconst 0, 1) := by decide +kernel
theorem dL_told_61 : decode cL_told 61 = .ok (.istore 10, 2) := by decide +kernel
theorem dL_told_63 : decode cL_told 63 = .ok (.iload 10, 2) := by decide +kernel
theorem dL_told_65 : decode cL_told 65 = .ok (.bipush 9, 2) := by decide +kernel
theorem dL_told_67 : decode cL_told 67 = .ok (.if_icmp .ge 95, 3) := by decide +kernel
theorem dL_told_70 : decode cL_told 70 = .ok (.aload_n 0, 1) := by decide +kernel
theorem dL_told_71 : decode cL_told 71 = .ok (.iload 8, 2) := by decide +kernel
theorem dL_told_73 : decode cL_told 73 = .ok (.iload 10, 2) := by decide +kernel
theorem dL_told_75 : decode cL_told 75 = .ok (.invokevirtual 41, 3) := by decide +kernel
theorem dL_told_78 : decode cL_told 78 = .ok (.iload 10, 2) := by decide +kernel
theorem dL_told_80 : decode cL_told 80 = .ok (.bipush 7, 2) := by decide +kernel
theorem dL_told_82 : decode cL_told 82 = .ok (.if_icmp .ne 8, 3) := by decide +kernel
theorem dL_told_85 : decode cL_told 85 = .ok (.iload 9, 2) := by decide +kernel
theorem dL_told_87 : decode cL_told 87 = .ok (.goto 64, 3) := by decide +kernel
theorem dL_told_90 : decode cL_told 90 = .ok (.iload 10, 2) := by decide +kernel
theorem dL_told_92 : decode cL_told 92 = .ok (.bipush 8, 2) := by decide +kernel
theorem dL_told_94 : decode cL_told 94 = .ok (.if_icmp .ne 17, 3) := by decide +kernel
theorem dL_told_97 : decode cL_told 97 = .ok (.aload 4, 2) := by decide +kernel
theorem dL_told_99 : decode cL_told 99 = .ok (.bipush 8, 2) := by decide +kernel
theorem dL_told_101 : decode cL_told 101 = .ok (.iload 8, 2) := by decide +kernel
theorem dL_told_103 : decode cL_told 103 = .ok (.imul, 1) := by decide +kernel
theorem dL_told_104 : decode cL_told 104 = .ok (.bipush 7, 2) := by decide +kernel
theorem dL_told_106 : decode cL_told 106 = .ok (.iadd, 1) := by decide +kernel
theorem dL_told_107 : decode cL_told 107 = .ok (.iaload, 1) := by decide +kernel
theorem dL_told_108 : decode cL_told 108 = .ok (.goto 43, 3) := by decide +kernel
theorem dL_told_111 : decode cL_told 111 = .ok (.iload 10, 2) := by decide +kernel
theorem dL_told_113 : decode cL_told 113 = .ok (.iconst 1, 1) := by decide +kernel
theorem dL_told_114 : decode cL_told 114 = .ok (.if_icmp .eq 9, 3) := by decide +kernel
theorem dL_told_117 : decode cL_told 117 = .ok (.iload 10, 2) := by decide +kernel
theorem dL_told_119 : decode cL_told 119 = .ok (.iconst 3, 1) := by decide +kernel
theorem dL_told_120 : decode cL_told 120 = .ok (.if_icmp .ne 20, 3) := by decide +kernel
theorem dL_told_123 : decode cL_told 123 = .ok (.aload 4, 2) := by decide +kernel
theorem dL_told_125 : decode cL_told 125 = .ok (.bipush 8, 2) := by decide +kernel
theorem dL_told_127 : decode cL_told 127 = .ok (.iload 8, 2) := by decide +kernel
theorem dL_told_129 : decode cL_told 129 = .ok (.imul, 1) := by decide +kernel
theorem dL_told_130 : decode cL_told 130 = .ok (.iload 10, 2) := by decide +kernel
theorem dL_told_132 : decode cL_told 132 = .ok (.iadd, 1) := by decide +kernel
theorem dL_told_133 : decode cL_told 133 = .ok (.iaload, 1) := by decide +kernel
theorem dL_told_134 : decode cL_told 134 = .ok (.invokestatic 46, 3) := by decide +kernel
theorem dL_told_137 : decode cL_told 137 = .ok (.goto 14, 3) := by decide +kernel
theorem dL_told_140 : decode cL_told 140 = .ok (.aload 4, 2) := by decide +kernel
theorem dL_told_142 : decode cL_told 142 = .ok (.bipush 8, 2) := by decide +kernel
theorem dL_told_144 : decode cL_told 144 = .ok (.iload 8, 2) := by decide +kernel
theorem dL_told_146 : decode cL_told 146 = .ok (.imul, 1) := by decide +kernel
theorem dL_told_147 : decode cL_told 147 = .ok (.iload 10, 2) := by decide +kernel
theorem dL_told_149 : decode cL_told 149 = .ok (.iadd, 1) := by decide +kernel
theorem dL_told_150 : decode cL_told 150 = .ok (.iaload, 1) := by decide +kernel
theorem dL_told_151 : decode cL_told 151 = .ok (.if_icmp .eq 5, 3) := by decide +kernel
theorem dL_told_154 : decode cL_told 154 = .ok (.iconst 0, 1) := by decide +kernel
theorem dL_told_155 : decode cL_told 155 = .ok (.ireturn, 1) := by decide +kernel
theorem dL_told_156 : decode cL_told 156 = .ok (.iinc 10 1, 3) := by decide +kernel
theorem dL_told_159 : decode cL_told 159 = .ok (.goto (-96), 3) := by decide +kernel
theorem dL_told_162 : decode cL_told 162 = .ok (.aload_n 0, 1) := by decide +kernel
theorem dL_told_163 : decode cL_told 163 = .ok (.iload 8, 2) := by decide +kernel
theorem dL_told_165 : decode cL_told 165 = .ok (.invokevirtual 49, 3) := by decide +kernel
theorem dL_told_168 : decode cL_told 168 = .ok (.iload 8, 2) := by decide +kernel
theorem dL_told_170 : decode cL_told 170 = .ok (.aload_n 3, 1) := by decide +kernel
theorem dL_told_171 : decode cL_told 171 = .ok (.aload 4, 2) := by decide +kernel
theorem dL_told_173 : decode cL_told 173 = .ok (.aload 6, 2) := by decide +kernel
theorem dL_told_175 : decode cL_told 175 = .ok (.invokestatic 52, 3) := by decide +kernel
theorem dL_told_178 : decode cL_told 178 = .ok (.if_icmp .eq 5, 3) := by decide +kernel
theorem dL_told_181 : decode cL_told 181 = .ok (.iconst 0, 1) := by decide +kernel
theorem dL_told_182 : decode cL_told 182 = .ok (.ireturn, 1) := by decide +kernel
theorem dL_told_183 : decode cL_told 183 = .ok (.iload 7, 2) := by decide +kernel
theorem dL_told_185 : decode cL_told 185 = .ok (.aload 4, 2) := by decide +kernel
theorem dL_told_187 : decode cL_told 187 = .ok (.bipush 8, 2) := by decide +kernel
theorem dL_told_189 : decode cL_told 189 = .ok (.iload 8, 2) := by decide +kernel
theorem dL_told_191 : decode cL_told 191 = .ok (.imul, 1) := by decide +kernel
theorem dL_told_192 : decode cL_told 192 = .ok (.iconst 5, 1) := by decide +kernel
theorem dL_told_193 : decode cL_told 193 = .ok (.iadd, 1) := by decide +kernel
theorem dL_told_194 : decode cL_told 194 = .ok (.iaload, 1) := by decide +kernel
theorem dL_told_195 : decode cL_told 195 = .ok (.iadd, 1) := by decide +kernel
theorem dL_told_196 : decode cL_told 196 = .ok (.istore 7, 2) := by decide +kernel
theorem dL_told_198 : decode cL_told 198 = .ok (.iinc 8 1, 3) := by decide +kernel
theorem dL_told_201 : decode cL_told 201 = .ok (.goto (-195), 3) := by decide +kernel
theorem dL_told_204 : decode cL_told 204 = .ok (.iconst 0, 1) := by decide +kernel
theorem dL_told_205 : decode cL_told 205 = .ok (.istore 8, 2) := by decide +kernel
theorem dL_told_207 : decode cL_told 207 = .ok (.iconst 0, 1) := by decide +kernel
theorem dL_told_208 : decode cL_told 208 = .ok (.istore 9, 2) := by decide +kernel
theorem dL_told_210 : decode cL_told 210 = .ok (.iload 9, 2) := by decide +kernel
theorem dL_told_212 : decode cL_told 212 = .ok (.aload 6, 2) := by decide +kernel
theorem dL_told_214 : decode cL_told 214 = .ok (.iconst 2, 1) := by decide +kernel
theorem dL_told_215 : decode cL_told 215 = .ok (.iaload, 1) := by decide +kernel
theorem dL_told_216 : decode cL_told 216 = .ok (.if_icmp .ge 138, 3) := by decide +kernel
theorem dL_told_219 : decode cL_told 219 = .ok (.iconst (-1), 1) := by decide +kernel
theorem dL_told_220 : decode cL_told 220 = .ok (.istore 10, 2) := by decide +kernel
theorem dL_told_222 : decode cL_told 222 = .ok (.iconst 0, 1) := by decide +kernel
theorem dL_told_223 : decode cL_told 223 = .ok (.istore 11, 2) := by decide +kernel
theorem dL_told_225 : decode cL_told 225 = .ok (.iload 11, 2) := by decide +kernel
theorem dL_told_227 : decode cL_told 227 = .ok (.aload 6, 2) := by decide +kernel
theorem dL_told_229 : decode cL_told 229 = .ok (.iconst 2, 1) := by decide +kernel
theorem dL_told_230 : decode cL_told 230 = .ok (.iaload, 1) := by decide +kernel
theorem dL_told_231 : decode cL_told 231 = .ok (.if_icmp .ge 49, 3) := by decide +kernel
theorem dL_told_234 : decode cL_told 234 = .ok (.iload 8, 2) := by decide +kernel
theorem dL_told_236 : decode cL_told 236 = .ok (.iload 11, 2) := by decide +kernel
theorem dL_told_238 : decode cL_told 238 = .ok (.ishr, 1) := by decide +kernel
theorem dL_told_239 : decode cL_told 239 = .ok (.iconst 1, 1) := by decide +kernel
theorem dL_told_240 : decode cL_told 240 = .ok (.iand, 1) := by decide +kernel
theorem dL_told_241 : decode cL_told 241 = .ok (.ifCond .ne 33, 3) := by decide +kernel
theorem dL_told_244 : decode cL_told 244 = .ok (.iload 10, 2) := by decide +kernel
theorem dL_told_246 : decode cL_told 246 = .ok (.ifCond .lt 24, 3) := by decide +kernel
theorem dL_told_249 : decode cL_told 249 = .ok (.aload 5, 2) := by decide +kernel
theorem dL_told_251 : decode cL_told 251 = .ok (.iconst 4, 1) := by decide +kernel
theorem dL_told_252 : decode cL_told 252 = .ok (.iload 11, 2) := by decide +kernel
theorem dL_told_254 : decode cL_told 254 = .ok (.imul, 1) := by decide +kernel
theorem dL_told_255 : decode cL_told 255 = .ok (.iconst 3, 1) := by decide +kernel
theorem dL_told_256 : decode cL_told 256 = .ok (.iadd, 1) := by decide +kernel
theorem dL_told_257 : decode cL_told 257 = .ok (.iaload, 1) := by decide +kernel
theorem dL_told_258 : decode cL_told 258 = .ok (.aload 5, 2) := by decide +kernel
theorem dL_told_260 : decode cL_told 260 = .ok (.iconst 4, 1) := by decide +kernel
theorem dL_told_261 : decode cL_told 261 = .ok (.iload 10, 2) := by decide +kernel
theorem dL_told_263 : decode cL_told 263 = .ok (.imul, 1) := by decide +kernel
theorem dL_told_264 : decode cL_told 264 = .ok (.iconst 3, 1) := by decide +kernel
theorem dL_told_265 : decode cL_told 265 = .ok (.iadd, 1) := by decide +kernel
theorem dL_told_266 : decode cL_told 266 = .ok (.iaload, 1) := by decide +kernel
theorem dL_told_267 : decode cL_told 267 = .ok (.if_icmp .ge 7, 3) := by decide +kernel
theorem dL_told_270 : decode cL_told 270 = .ok (.iload 11, 2) := by decide +kernel
theorem dL_told_272 : decode cL_told 272 = .ok (.istore 10, 2) := by decide +kernel
theorem dL_told_274 : decode cL_told 274 = .ok (.iinc 11 1, 3) := by decide +kernel
theorem dL_told_277 : decode cL_told 277 = .ok (.goto (-52), 3) := by decide +kernel
theorem dL_told_280 : decode cL_told 280 = .ok (.iload 8, 2) := by decide +kernel
theorem dL_told_282 : decode cL_told 282 = .ok (.iconst 1, 1) := by decide +kernel
theorem dL_told_283 : decode cL_told 283 = .ok (.iload 10, 2) := by decide +kernel
theorem dL_told_285 : decode cL_told 285 = .ok (.ishl, 1) := by decide +kernel
theorem dL_told_286 : decode cL_told 286 = .ok (.ior, 1) := by decide +kernel
theorem dL_told_287 : decode cL_told 287 = .ok (.istore 8, 2) := by decide +kernel
theorem dL_told_289 : decode cL_told 289 = .ok (.iconst 0, 1) := by decide +kernel
theorem dL_told_290 : decode cL_told 290 = .ok (.istore 11, 2) := by decide +kernel
theorem dL_told_292 : decode cL_told 292 = .ok (.iload 11, 2) := by decide +kernel
theorem dL_told_294 : decode cL_told 294 = .ok (.iconst 4, 1) := by decide +kernel
theorem dL_told_295 : decode cL_told 295 = .ok (.if_icmp .ge 53, 3) := by decide +kernel
theorem dL_told_298 : decode cL_told 298 = .ok (.aload_n 0, 1) := by decide +kernel
theorem dL_told_299 : decode cL_told 299 = .ok (.iload 9, 2) := by decide +kernel
theorem dL_told_301 : decode cL_told 301 = .ok (.iload 11, 2) := by decide +kernel
theorem dL_told_303 : decode cL_told 303 = .ok (.invokevirtual 55, 3) := by decide +kernel
theorem dL_told_306 : decode cL_told 306 = .ok (.iload 11, 2) := by decide +kernel
theorem dL_told_308 : decode cL_told 308 = .ok (.iconst 2, 1) := by decide +kernel
theorem dL_told_309 : decode cL_told 309 = .ok (.if_icmp .ne 18, 3) := by decide +kernel
theorem dL_told_312 : decode cL_told 312 = .ok (.aload 5, 2) := by decide +kernel
theorem dL_told_314 : decode cL_told 314 = .ok (.iconst 4, 1) := by decide +kernel
theorem dL_told_315 : decode cL_told 315 = .ok (.iload 10, 2) := by decide +kernel
theorem dL_told_317 : decode cL_told 317 = .ok (.imul, 1) := by decide +kernel
theorem dL_told_318 : decode cL_told 318 = .ok (.iconst 2, 1) := by decide +kernel
theorem dL_told_319 : decode cL_told 319 = .ok (.iadd, 1) := by decide +kernel
theorem dL_told_320 : decode cL_told 320 = .ok (.iaload, 1) := by decide +kernel
theorem dL_told_321 : decode cL_told 321 = .ok (.invokestatic 46, 3) := by decide +kernel
theorem dL_told_324 : decode cL_told 324 = .ok (.goto 13, 3) := by decide +kernel
theorem dL_told_327 : decode cL_told 327 = .ok (.aload 5, 2) := by decide +kernel
theorem dL_told_329 : decode cL_told 329 = .ok (.iconst 4, 1) := by decide +kernel
theorem dL_told_330 : decode cL_told 330 = .ok (.iload 10, 2) := by decide +kernel
theorem dL_told_332 : decode cL_told 332 = .ok (.imul, 1) := by decide +kernel
theorem dL_told_333 : decode cL_told 333 = .ok (.iload 11, 2) := by decide +kernel
theorem dL_told_335 : decode cL_told 335 = .ok (.iadd, 1) := by decide +kernel
theorem dL_told_336 : decode cL_told 336 = .ok (.iaload, 1) := by decide +kernel
theorem dL_told_337 : decode cL_told 337 = .ok (.if_icmp .eq 5, 3) := by decide +kernel
theorem dL_told_340 : decode cL_told 340 = .ok (.iconst 0, 1) := by decide +kernel
theorem dL_told_341 : decode cL_told 341 = .ok (.ireturn, 1) := by decide +kernel
theorem dL_told_342 : decode cL_told 342 = .ok (.iinc 11 1, 3) := by decide +kernel
theorem dL_told_345 : decode cL_told 345 = .ok (.goto (-53), 3) := by decide +kernel
theorem dL_told_348 : decode cL_told 348 = .ok (.iinc 9 1, 3) := by decide +kernel
theorem dL_told_351 : decode cL_told 351 = .ok (.goto (-141), 3) := by decide +kernel
theorem dL_told_354 : decode cL_told 354 = .ok (.iconst 0, 1) := by decide +kernel
theorem dL_told_355 : decode cL_told 355 = .ok (.istore 9, 2) := by decide +kernel
theorem dL_told_357 : decode cL_told 357 = .ok (.iload 9, 2) := by decide +kernel
theorem dL_told_359 : decode cL_told 359 = .ok (.bipush 11, 2) := by decide +kernel
theorem dL_told_361 : decode cL_told 361 = .ok (.if_icmp .ge 29, 3) := by decide +kernel
theorem dL_told_364 : decode cL_told 364 = .ok (.aload_n 0, 1) := by decide +kernel
theorem dL_told_365 : decode cL_told 365 = .ok (.iload 9, 2) := by decide +kernel
theorem dL_told_367 : decode cL_told 367 = .ok (.invokevirtual 58, 3) := by decide +kernel
theorem dL_told_370 : decode cL_told 370 = .ok (.iload 9, 2) := by decide +kernel
theorem dL_told_372 : decode cL_told 372 = .ok (.aload 4, 2) := by decide +kernel
theorem dL_told_374 : decode cL_told 374 = .ok (.aload 6, 2) := by decide +kernel
theorem dL_told_376 : decode cL_told 376 = .ok (.invokestatic 61, 3) := by decide +kernel
theorem dL_told_379 : decode cL_told 379 = .ok (.if_icmp .eq 5, 3) := by decide +kernel
theorem dL_told_382 : decode cL_told 382 = .ok (.iconst 0, 1) := by decide +kernel
theorem dL_told_383 : decode cL_told 383 = .ok (.ireturn, 1) := by decide +kernel
theorem dL_told_384 : decode cL_told 384 = .ok (.iinc 9 1, 3) := by decide +kernel
theorem dL_told_387 : decode cL_told 387 = .ok (.goto (-30), 3) := by decide +kernel
theorem dL_told_390 : decode cL_told 390 = .ok (.iload_n 1, 1) := by decide +kernel
theorem dL_told_391 : decode cL_told 391 = .ok (.bipush 64, 2) := by decide +kernel
theorem dL_told_393 : decode cL_told 393 = .ok (.invokestatic 64, 3) := by decide +kernel
theorem dL_told_396 : decode cL_told 396 = .ok (.istore 9, 2) := by decide +kernel
theorem dL_told_398 : decode cL_told 398 = .ok (.iload_n 2, 1) := by decide +kernel
theorem dL_told_399 : decode cL_told 399 = .ok (.bipush 64, 2) := by decide +kernel
theorem dL_told_401 : decode cL_told 401 = .ok (.invokestatic 64, 3) := by decide +kernel
theorem dL_told_404 : decode cL_told 404 = .ok (.istore 10, 2) := by decide +kernel
theorem dL_told_406 : decode cL_told 406 = .ok (.bipush 64, 2) := by decide +kernel
theorem dL_told_408 : decode cL_told 408 = .ok (.newarray .int, 2) := by decide +kernel
theorem dL_told_410 : decode cL_told 410 = .ok (.astore 11, 2) := by decide +kernel
theorem dL_told_412 : decode cL_told 412 = .ok (.iload 9, 2) := by decide +kernel
theorem dL_told_414 : decode cL_told 414 = .ok (.iconst (-1), 1) := by decide +kernel
theorem dL_told_415 : decode cL_told 415 = .ok (.aload 11, 2) := by decide +kernel
theorem dL_told_417 : decode cL_told 417 = .ok (.aload_n 3, 1) := by decide +kernel
theorem dL_told_418 : decode cL_told 418 = .ok (.aload 4, 2) := by decide +kernel
theorem dL_told_420 : decode cL_told 420 = .ok (.aload 6, 2) := by decide +kernel
theorem dL_told_422 : decode cL_told 422 = .ok (.invokestatic 33, 3) := by decide +kernel
theorem dL_told_425 : decode cL_told 425 = .ok (.iconst 0, 1) := by decide +kernel
theorem dL_told_426 : decode cL_told 426 = .ok (.istore 12, 2) := by decide +kernel
theorem dL_told_428 : decode cL_told 428 = .ok (.iconst 0, 1) := by decide +kernel
theorem dL_told_429 : decode cL_told 429 = .ok (.istore 13, 2) := by decide +kernel
theorem dL_told_431 : decode cL_told 431 = .ok (.iload 13, 2) := by decide +kernel
theorem dL_told_433 : decode cL_told 433 = .ok (.iconst 4, 1) := by decide +kernel
theorem dL_told_434 : decode cL_told 434 = .ok (.if_icmp .ge 30, 3) := by decide +kernel
theorem dL_told_437 : decode cL_told 437 = .ok (.iload 12, 2) := by decide +kernel
theorem dL_told_439 : decode cL_told 439 = .ok (.iload 9, 2) := by decide +kernel
theorem dL_told_441 : decode cL_told 441 = .ok (.iload 13, 2) := by decide +kernel
theorem dL_told_443 : decode cL_told 443 = .ok (.aload_n 3, 1) := by decide +kernel
theorem dL_told_444 : decode cL_told 444 = .ok (.invokestatic 21, 3) := by decide +kernel
theorem dL_told_447 : decode cL_told 447 = .ok (.ifCond .lt 7, 3) := by decide +kernel
theorem dL_told_450 : decode cL_told 450 = .ok (.iconst 1, 1) := by decide +kernel
theorem dL_told_451 : decode cL_told 451 = .ok (.goto 4, 3) := by decide +kernel
theorem dL_told_454 : decode cL_told 454 = .ok (.iconst 0, 1) := by decide +kernel
theorem dL_told_455 : decode cL_told 455 = .ok (.iadd, 1) := by decide +kernel
theorem dL_told_456 : decode cL_told 456 = .ok (.istore 12, 2) := by decide +kernel
theorem dL_told_458 : decode cL_told 458 = .ok (.iinc 13 1, 3) := by decide +kernel
theorem dL_told_461 : decode cL_told 461 = .ok (.goto (-30), 3) := by decide +kernel
theorem dL_told_464 : decode cL_told 464 = .ok (.aload_n 0, 1) := by decide +kernel
theorem dL_told_465 : decode cL_told 465 = .ok (.iload 9, 2) := by decide +kernel
theorem dL_told_467 : decode cL_told 467 = .ok (.invokestatic 46, 3) := by decide +kernel
theorem dL_told_470 : decode cL_told 470 = .ok (.iload 10, 2) := by decide +kernel
theorem dL_told_472 : decode cL_told 472 = .ok (.invokestatic 46, 3) := by decide +kernel
theorem dL_told_475 : decode cL_told 475 = .ok (.invokevirtual 67, 3) := by decide +kernel
theorem dL_told_478 : decode cL_told 478 = .ok (.iload 9, 2) := by decide +kernel
theorem dL_told_480 : decode cL_told 480 = .ok (.iload 10, 2) := by decide +kernel
theorem dL_told_482 : decode cL_told 482 = .ok (.aload_n 3, 1) := by decide +kernel
theorem dL_told_483 : decode cL_told 483 = .ok (.invokestatic 29, 3) := by decide +kernel
theorem dL_told_486 : decode cL_told 486 = .ok (.if_icmp .ne 94, 3) := by decide +kernel
theorem dL_told_489 : decode cL_told 489 = .ok (.aload_n 0, 1) := by decide +kernel
theorem dL_told_490 : decode cL_told 490 = .ok (.iload 9, 2) := by decide +kernel
theorem dL_told_492 : decode cL_told 492 = .ok (.invokestatic 46, 3) := by decide +kernel
theorem dL_told_495 : decode cL_told 495 = .ok (.iload 10, 2) := by decide +kernel
theorem dL_told_497 : decode cL_told 497 = .ok (.invokestatic 46, 3) := by decide +kernel
theorem dL_told_500 : decode cL_told 500 = .ok (.invokevirtual 70, 3) := by decide +kernel
theorem dL_told_503 : decode cL_told 503 = .ok (.aload 11, 2) := by decide +kernel
theorem dL_told_505 : decode cL_told 505 = .ok (.iload 10, 2) := by decide +kernel
theorem dL_told_507 : decode cL_told 507 = .ok (.iaload, 1) := by decide +kernel
theorem dL_told_508 : decode cL_told 508 = .ok (.sipush 999, 3) := by decide +kernel
theorem dL_told_511 : decode cL_told 511 = .ok (.if_icmp .ne 7, 3) := by decide +kernel
theorem dL_told_514 : decode cL_told 514 = .ok (.iconst (-1), 1) := by decide +kernel
theorem dL_told_515 : decode cL_told 515 = .ok (.goto 8, 3) := by decide +kernel
theorem dL_told_518 : decode cL_told 518 = .ok (.aload 11, 2) := by decide +kernel
theorem dL_told_520 : decode cL_told 520 = .ok (.iload 10, 2) := by decide +kernel
theorem dL_told_522 : decode cL_told 522 = .ok (.iaload, 1) := by decide +kernel
theorem dL_told_523 : decode cL_told 523 = .ok (.if_icmp .ne 57, 3) := by decide +kernel
theorem dL_told_526 : decode cL_told 526 = .ok (.aload_n 0, 1) := by decide +kernel
theorem dL_told_527 : decode cL_told 527 = .ok (.iload 9, 2) := by decide +kernel
theorem dL_told_529 : decode cL_told 529 = .ok (.invokestatic 46, 3) := by decide +kernel
theorem dL_told_532 : decode cL_told 532 = .ok (.iconst 0, 1) := by decide +kernel
theorem dL_told_533 : decode cL_told 533 = .ok (.invokevirtual 73, 3) := by decide +kernel
theorem dL_told_536 : decode cL_told 536 = .ok (.aload_n 3, 1) := by decide +kernel
theorem dL_told_537 : decode cL_told 537 = .ok (.iload 9, 2) := by decide +kernel
theorem dL_told_539 : decode cL_told 539 = .ok (.iaload, 1) := by decide +kernel
theorem dL_told_540 : decode cL_told 540 = .ok (.if_icmp .ne 40, 3) := by decide +kernel
theorem dL_told_543 : decode cL_told 543 = .ok (.aload_n 0, 1) := by decide +kernel
theorem dL_told_544 : decode cL_told 544 = .ok (.iload 9, 2) := by decide +kernel
theorem dL_told_546 : decode cL_told 546 = .ok (.invokestatic 46, 3) := by decide +kernel
theorem dL_told_549 : decode cL_told 549 = .ok (.iconst 1, 1) := by decide +kernel
theorem dL_told_550 : decode cL_told 550 = .ok (.invokevirtual 73, 3) := by decide +kernel
theorem dL_told_553 : decode cL_told 553 = .ok (.iload 9, 2) := by decide +kernel
theorem dL_told_555 : decode cL_told 555 = .ok (.aload 4, 2) := by decide +kernel
theorem dL_told_557 : decode cL_told 557 = .ok (.aload 6, 2) := by decide +kernel
theorem dL_told_559 : decode cL_told 559 = .ok (.invokestatic 25, 3) := by decide +kernel
theorem dL_told_562 : decode cL_told 562 = .ok (.if_icmp .ne 18, 3) := by decide +kernel
theorem dL_told_565 : decode cL_told 565 = .ok (.aload_n 0, 1) := by decide +kernel
theorem dL_told_566 : decode cL_told 566 = .ok (.iload 9, 2) := by decide +kernel
theorem dL_told_568 : decode cL_told 568 = .ok (.invokestatic 46, 3) := by decide +kernel
theorem dL_told_571 : decode cL_told 571 = .ok (.iconst 2, 1) := by decide +kernel
theorem dL_told_572 : decode cL_told 572 = .ok (.invokevirtual 73, 3) := by decide +kernel
theorem dL_told_575 : decode cL_told 575 = .ok (.iload 12, 2) := by decide +kernel
theorem dL_told_577 : decode cL_told 577 = .ok (.if_icmp .eq 5, 3) := by decide +kernel
theorem dL_told_580 : decode cL_told 580 = .ok (.iconst 0, 1) := by decide +kernel
theorem dL_told_581 : decode cL_told 581 = .ok (.ireturn, 1) := by decide +kernel
theorem dL_told_582 : decode cL_told 582 = .ok (.bipush 9, 2) := by decide +kernel
theorem dL_told_584 : decode cL_told 584 = .ok (.aload 4, 2) := by decide +kernel
theorem dL_told_586 : decode cL_told 586 = .ok (.aload 6, 2) := by decide +kernel
theorem dL_told_588 : decode cL_told 588 = .ok (.invokestatic 61, 3) := by decide +kernel
theorem dL_told_591 : decode cL_told 591 = .ok (.bipush 10, 2) := by decide +kernel
theorem dL_told_593 : decode cL_told 593 = .ok (.aload 4, 2) := by decide +kernel
theorem dL_told_595 : decode cL_told 595 = .ok (.aload 6, 2) := by decide +kernel
theorem dL_told_597 : decode cL_told 597 = .ok (.invokestatic 61, 3) := by decide +kernel
theorem dL_told_600 : decode cL_told 600 = .ok (.iadd, 1) := by decide +kernel
theorem dL_told_601 : decode cL_told 601 = .ok (.istore 13, 2) := by decide +kernel
theorem dL_told_603 : decode cL_told 603 = .ok (.aload_n 0, 1) := by decide +kernel
theorem dL_told_604 : decode cL_told 604 = .ok (.bipush 11, 2) := by decide +kernel
theorem dL_told_606 : decode cL_told 606 = .ok (.invokevirtual 58, 3) := by decide +kernel
theorem dL_told_609 : decode cL_told 609 = .ok (.aload 6, 2) := by decide +kernel
theorem dL_told_611 : decode cL_told 611 = .ok (.bipush 7, 2) := by decide +kernel
theorem dL_told_613 : decode cL_told 613 = .ok (.iaload, 1) := by decide +kernel
theorem dL_told_614 : decode cL_told 614 = .ok (.invokestatic 46, 3) := by decide +kernel
theorem dL_told_617 : decode cL_told 617 = .ok (.if_icmp .ne 50, 3) := by decide +kernel
theorem dL_told_620 : decode cL_told 620 = .ok (.aload_n 0, 1) := by decide +kernel
theorem dL_told_621 : decode cL_told 621 = .ok (.bipush 12, 2) := by decide +kernel
theorem dL_told_623 : decode cL_told 623 = .ok (.invokevirtual 58, 3) := by decide +kernel
theorem dL_told_626 : decode cL_told 626 = .ok (.aload 6, 2) := by decide +kernel
theorem dL_told_628 : decode cL_told 628 = .ok (.bipush 8, 2) := by decide +kernel
theorem dL_told_630 : decode cL_told 630 = .ok (.iaload, 1) := by decide +kernel
theorem dL_told_631 : decode cL_told 631 = .ok (.invokestatic 46, 3) := by decide +kernel
theorem dL_told_634 : decode cL_told 634 = .ok (.if_icmp .ne 33, 3) := by decide +kernel
theorem dL_told_637 : decode cL_told 637 = .ok (.aload_n 0, 1) := by decide +kernel
theorem dL_told_638 : decode cL_told 638 = .ok (.invokevirtual 76, 3) := by decide +kernel
theorem dL_told_641 : decode cL_told 641 = .ok (.iload 7, 2) := by decide +kernel
theorem dL_told_643 : decode cL_told 643 = .ok (.ifCond .ne 7, 3) := by decide +kernel
theorem dL_told_646 : decode cL_told 646 = .ok (.dconst 1, 1) := by decide +kernel
theorem dL_told_647 : decode cL_told 647 = .ok (.goto 12, 3) := by decide +kernel
theorem dL_told_650 : decode cL_told 650 = .ok (.dconst 1, 1) := by decide +kernel
theorem dL_told_651 : decode cL_told 651 = .ok (.iload 13, 2) := by decide +kernel
theorem dL_told_653 : decode cL_told 653 = .ok (.i2d, 1) := by decide +kernel
theorem dL_told_654 : decode cL_told 654 = .ok (.dmul, 1) := by decide +kernel
theorem dL_told_655 : decode cL_told 655 = .ok (.iload 7, 2) := by decide +kernel
theorem dL_told_657 : decode cL_told 657 = .ok (.i2d, 1) := by decide +kernel
theorem dL_told_658 : decode cL_told 658 = .ok (.ddiv, 1) := by decide +kernel
theorem dL_told_659 : decode cL_told 659 = .ok (.dcmp .l, 1) := by decide +kernel
theorem dL_told_660 : decode cL_told 660 = .ok (.ifCond .ne 7, 3) := by decide +kernel
theorem dL_told_663 : decode cL_told 663 = .ok (.iconst 1, 1) := by decide +kernel
theorem dL_told_664 : decode cL_told 664 = .ok (.goto 4, 3) := by decide +kernel
theorem dL_told_667 : decode cL_told 667 = .ok (.iconst 0, 1) := by decide +kernel
theorem dL_told_668 : decode cL_told 668 = .ok (.ireturn, 1) := by decide +kernel
theorem dL_ahead_0 : decode cL_ahead 0 = .ok (.bipush 48, 2) := by decide +kernel
theorem dL_ahead_2 : decode cL_ahead 2 = .ok (.newarray .int, 2) := by decide +kernel
theorem dL_ahead_4 : decode cL_ahead 4 = .ok (.astore 7, 2) := by decide +kernel
theorem dL_ahead_6 : decode cL_ahead 6 = .ok (.bipush 48, 2) := by decide +kernel
theorem dL_ahead_8 : decode cL_ahead 8 = .ok (.newarray .int, 2) := by decide +kernel
theorem dL_ahead_10 : decode cL_ahead 10 = .ok (.astore 8, 2) := by decide +kernel
theorem dL_ahead_12 : decode cL_ahead 12 = .ok (.bipush 9, 2) := by decide +kernel
theorem dL_ahead_14 : decode cL_ahead 14 = .ok (.newarray .int, 2) := by decide +kernel
theorem dL_ahead_16 : decode cL_ahead 16 = .ok (.astore 9, 2) := by decide +kernel
theorem dL_ahead_18 : decode cL_ahead 18 = .ok (.iconst 0, 1) := by decide +kernel
theorem dL_ahead_19 : decode cL_ahead 19 = .ok (.istore 10, 2) := by decide +kernel
theorem dL_ahead_21 : decode cL_ahead 21 = .ok (.iload 10, 2) := by decide +kernel
theorem dL_ahead_23 : decode cL_ahead 23 = .ok (.iconst 2, 1) := by decide +kernel
theorem dL_ahead_24 : decode cL_ahead 24 = .ok (.if_icmp .ge 260, 3) := by decide +kernel
theorem dL_ahead_27 : decode cL_ahead 27 = .ok (.aload 6, 2) := by decide +kernel
theorem dL_ahead_29 : decode cL_ahead 29 = .ok (.iconst 1, 1) := by decide +kernel
theorem dL_ahead_30 : decode cL_ahead 30 = .ok (.iaload, 1) := by decide +kernel
theorem dL_ahead_31 : decode cL_ahead 31 = .ok (.ifCond .ne 5, 3) := by decide +kernel
