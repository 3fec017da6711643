theorem dL_law_548 : decode cL_law 548 = .ok (.if_icmp .eq 752, 3) := by decide +kernel
theorem dL_law_551 : decode cL_law 551 = .ok (.iconst 0, 1) := by decide +kernel
theorem dL_law_552 : decode cL_law 552 = .ok (.ireturn, 1) := by decide +kernel
theorem dL_law_553 : decode cL_law 553 = .ok (.aload_n 1, 1) := by decide +kernel
theorem dL_law_554 : decode cL_law 554 = .ok (.aload_n 0, 1) := by decide +kernel
theorem dL_law_555 : decode cL_law 555 = .ok (.iload 4, 2) := by decide +kernel
theorem dL_law_557 : decode cL_law 557 = .ok (.iconst 1, 1) := by decide +kernel
theorem dL_law_558 : decode cL_law 558 = .ok (.iadd, 1) := by decide +kernel
theorem dL_law_559 : decode cL_law 559 = .ok (.iaload, 1) := by decide +kernel
theorem dL_law_560 : decode cL_law 560 = .ok (.invokevirtual 71, 3) := by decide +kernel
theorem dL_law_563 : decode cL_law 563 = .ok (.aload_n 2, 1) := by decide +kernel
theorem dL_law_564 : decode cL_law 564 = .ok (.aload_n 0, 1) := by decide +kernel
theorem dL_law_565 : decode cL_law 565 = .ok (.iload 4, 2) := by decide +kernel
theorem dL_law_567 : decode cL_law 567 = .ok (.iconst 1, 1) := by decide +kernel
theorem dL_law_568 : decode cL_law 568 = .ok (.iadd, 1) := by decide +kernel
theorem dL_law_569 : decode cL_law 569 = .ok (.iaload, 1) := by decide +kernel
theorem dL_law_570 : decode cL_law 570 = .ok (.invokevirtual 74, 3) := by decide +kernel
theorem dL_law_573 : decode cL_law 573 = .ok (.if_icmp .eq 727, 3) := by decide +kernel
theorem dL_law_576 : decode cL_law 576 = .ok (.iconst 0, 1) := by decide +kernel
theorem dL_law_577 : decode cL_law 577 = .ok (.ireturn, 1) := by decide +kernel
theorem dL_law_578 : decode cL_law 578 = .ok (.aload_n 1, 1) := by decide +kernel
theorem dL_law_579 : decode cL_law 579 = .ok (.aload_n 0, 1) := by decide +kernel
theorem dL_law_580 : decode cL_law 580 = .ok (.iload 4, 2) := by decide +kernel
theorem dL_law_582 : decode cL_law 582 = .ok (.iconst 1, 1) := by decide +kernel
theorem dL_law_583 : decode cL_law 583 = .ok (.iadd, 1) := by decide +kernel
theorem dL_law_584 : decode cL_law 584 = .ok (.iaload, 1) := by decide +kernel
theorem dL_law_585 : decode cL_law 585 = .ok (.invokevirtual 75, 3) := by decide +kernel
theorem dL_law_588 : decode cL_law 588 = .ok (.aload_n 2, 1) := by decide +kernel
theorem dL_law_589 : decode cL_law 589 = .ok (.aload_n 0, 1) := by decide +kernel
theorem dL_law_590 : decode cL_law 590 = .ok (.iload 4, 2) := by decide +kernel
theorem dL_law_592 : decode cL_law 592 = .ok (.iconst 1, 1) := by decide +kernel
theorem dL_law_593 : decode cL_law 593 = .ok (.iadd, 1) := by decide +kernel
theorem dL_law_594 : decode cL_law 594 = .ok (.iaload, 1) := by decide +kernel
theorem dL_law_595 : decode cL_law 595 = .ok (.invokevirtual 78, 3) := by decide +kernel
theorem dL_law_598 : decode cL_law 598 = .ok (.if_icmp .eq 702, 3) := by decide +kernel
theorem dL_law_601 : decode cL_law 601 = .ok (.iconst 0, 1) := by decide +kernel
theorem dL_law_602 : decode cL_law 602 = .ok (.ireturn, 1) := by decide +kernel
theorem dL_law_603 : decode cL_law 603 = .ok (.aload_n 1, 1) := by decide +kernel
theorem dL_law_604 : decode cL_law 604 = .ok (.aload_n 0, 1) := by decide +kernel
theorem dL_law_605 : decode cL_law 605 = .ok (.iload 4, 2) := by decide +kernel
theorem dL_law_607 : decode cL_law 607 = .ok (.iconst 1, 1) := by decide +kernel
theorem dL_law_608 : decode cL_law 608 = .ok (.iadd, 1) := by decide +kernel
theorem dL_law_609 : decode cL_law 609 = .ok (.iaload, 1) := by decide +kernel
theorem dL_law_610 : decode cL_law 610 = .ok (.invokevirtual 79, 3) := by decide +kernel
theorem dL_law_613 : decode cL_law 613 = .ok (.aload_n 2, 1) := by decide +kernel
theorem dL_law_614 : decode cL_law 614 = .ok (.aload_n 0, 1) := by decide +kernel
theorem dL_law_615 : decode cL_law 615 = .ok (.iload 4, 2) := by decide +kernel
theorem dL_law_617 : decode cL_law 617 = .ok (.iconst 1, 1) := by decide +kernel
theorem dL_law_618 : decode cL_law 618 = .ok (.iadd, 1) := by decide +kernel
theorem dL_law_619 : decode cL_law 619 = .ok (.iaload, 1) := by decide +kernel
theorem dL_law_620 : decode cL_law 620 = .ok (.invokevirtual 82, 3) := by decide +kernel
theorem dL_law_623 : decode cL_law 623 = .ok (.if_icmp .eq 677, 3) := by decide +kernel
theorem dL_law_626 : decode cL_law 626 = .ok (.iconst 0, 1) := by decide +kernel
theorem dL_law_627 : decode cL_law 627 = .ok (.ireturn, 1) := by decide +kernel
theorem dL_law_628 : decode cL_law 628 = .ok (.aload_n 1, 1) := by decide +kernel
theorem dL_law_629 : decode cL_law 629 = .ok (.invokevirtual 83, 3) := by decide +kernel
theorem dL_law_632 : decode cL_law 632 = .ok (.aload_n 2, 1) := by decide +kernel
theorem dL_law_633 : decode cL_law 633 = .ok (.invokevirtual 86, 3) := by decide +kernel
theorem dL_law_636 : decode cL_law 636 = .ok (.if_icmp .eq 664, 3) := by decide +kernel
theorem dL_law_639 : decode cL_law 639 = .ok (.iconst 0, 1) := by decide +kernel
theorem dL_law_640 : decode cL_law 640 = .ok (.ireturn, 1) := by decide +kernel
theorem dL_law_641 : decode cL_law 641 = .ok (.aload_n 1, 1) := by decide +kernel
theorem dL_law_642 : decode cL_law 642 = .ok (.invokevirtual 87, 3) := by decide +kernel
theorem dL_law_645 : decode cL_law 645 = .ok (.aload_n 2, 1) := by decide +kernel
theorem dL_law_646 : decode cL_law 646 = .ok (.invokevirtual 90, 3) := by decide +kernel
theorem dL_law_649 : decode cL_law 649 = .ok (.if_icmp .eq 651, 3) := by decide +kernel
theorem dL_law_652 : decode cL_law 652 = .ok (.iconst 0, 1) := by decide +kernel
theorem dL_law_653 : decode cL_law 653 = .ok (.ireturn, 1) := by decide +kernel
theorem dL_law_654 : decode cL_law 654 = .ok (.aload_n 1, 1) := by decide +kernel
theorem dL_law_655 : decode cL_law 655 = .ok (.invokevirtual 91, 3) := by decide +kernel
theorem dL_law_658 : decode cL_law 658 = .ok (.aload_n 2, 1) := by decide +kernel
theorem dL_law_659 : decode cL_law 659 = .ok (.invokevirtual 94, 3) := by decide +kernel
theorem dL_law_662 : decode cL_law 662 = .ok (.if_icmp .eq 638, 3) := by decide +kernel
theorem dL_law_665 : decode cL_law 665 = .ok (.iconst 0, 1) := by decide +kernel
theorem dL_law_666 : decode cL_law 666 = .ok (.ireturn, 1) := by decide +kernel
theorem dL_law_667 : decode cL_law 667 = .ok (.aload_n 1, 1) := by decide +kernel
theorem dL_law_668 : decode cL_law 668 = .ok (.aload_n 0, 1) := by decide +kernel
theorem dL_law_669 : decode cL_law 669 = .ok (.iload 4, 2) := by decide +kernel
theorem dL_law_671 : decode cL_law 671 = .ok (.iconst 1, 1) := by decide +kernel
theorem dL_law_672 : decode cL_law 672 = .ok (.iadd, 1) := by decide +kernel
theorem dL_law_673 : decode cL_law 673 = .ok (.iaload, 1) := by decide +kernel
theorem dL_law_674 : decode cL_law 674 = .ok (.invokevirtual 95, 3) := by decide +kernel
theorem dL_law_677 : decode cL_law 677 = .ok (.aload_n 2, 1) := by decide +kernel
theorem dL_law_678 : decode cL_law 678 = .ok (.aload_n 0, 1) := by decide +kernel
theorem dL_law_679 : decode cL_law 679 = .ok (.iload 4, 2) := by decide +kernel
theorem dL_law_681 : decode cL_law 681 = .ok (.iconst 1, 1) := by decide +kernel
theorem dL_law_682 : decode cL_law 682 = .ok (.iadd, 1) := by decide +kernel
theorem dL_law_683 : decode cL_law 683 = .ok (.iaload, 1) := by decide +kernel
theorem dL_law_684 : decode cL_law 684 = .ok (.invokevirtual 98, 3) := by decide +kernel
theorem dL_law_687 : decode cL_law 687 = .ok (.if_icmp .eq 613, 3) := by decide +kernel
theorem dL_law_690 : decode cL_law 690 = .ok (.iconst 0, 1) := by decide +kernel
theorem dL_law_691 : decode cL_law 691 = .ok (.ireturn, 1) := by decide +kernel
theorem dL_law_692 : decode cL_law 692 = .ok (.aload_n 1, 1) := by decide +kernel
theorem dL_law_693 : decode cL_law 693 = .ok (.aload_n 0, 1) := by decide +kernel
theorem dL_law_694 : decode cL_law 694 = .ok (.iload 4, 2) := by decide +kernel
theorem dL_law_696 : decode cL_law 696 = .ok (.iconst 1, 1) := by decide +kernel
theorem dL_law_697 : decode cL_law 697 = .ok (.iadd, 1) := by decide +kernel
theorem dL_law_698 : decode cL_law 698 = .ok (.iaload, 1) := by decide +kernel
theorem dL_law_699 : decode cL_law 699 = .ok (.invokevirtual 99, 3) := by decide +kernel
theorem dL_law_702 : decode cL_law 702 = .ok (.aload_n 2, 1) := by decide +kernel
theorem dL_law_703 : decode cL_law 703 = .ok (.aload_n 0, 1) := by decide +kernel
theorem dL_law_704 : decode cL_law 704 = .ok (.iload 4, 2) := by decide +kernel
theorem dL_law_706 : decode cL_law 706 = .ok (.iconst 1, 1) := by decide +kernel
theorem dL_law_707 : decode cL_law 707 = .ok (.iadd, 1) := by decide +kernel
theorem dL_law_708 : decode cL_law 708 = .ok (.iaload, 1) := by decide +kernel
theorem dL_law_709 : decode cL_law 709 = .ok (.invokevirtual 102, 3) := by decide +kernel
theorem dL_law_712 : decode cL_law 712 = .ok (.if_icmp .eq 588, 3) := by decide +kernel
theorem dL_law_715 : decode cL_law 715 = .ok (.iconst 0, 1) := by decide +kernel
theorem dL_law_716 : decode cL_law 716 = .ok (.ireturn, 1) := by decide +kernel
theorem dL_law_717 : decode cL_law 717 = .ok (.aload_n 1, 1) := by decide +kernel
theorem dL_law_718 : decode cL_law 718 = .ok (.invokevirtual 103, 3) := by decide +kernel
theorem dL_law_721 : decode cL_law 721 = .ok (.aload_n 2, 1) := by decide +kernel
theorem dL_law_722 : decode cL_law 722 = .ok (.invokevirtual 106, 3) := by decide +kernel
theorem dL_law_725 : decode cL_law 725 = .ok (.if_icmp .eq 575, 3) := by decide +kernel
theorem dL_law_728 : decode cL_law 728 = .ok (.iconst 0, 1) := by decide +kernel
theorem dL_law_729 : decode cL_law 729 = .ok (.ireturn, 1) := by decide +kernel
theorem dL_law_730 : decode cL_law 730 = .ok (.aload_n 1, 1) := by decide +kernel
theorem dL_law_731 : decode cL_law 731 = .ok (.aload_n 0, 1) := by decide +kernel
theorem dL_law_732 : decode cL_law 732 = .ok (.iload 4, 2) := by decide +kernel
theorem dL_law_734 : decode cL_law 734 = .ok (.iconst 1, 1) := by decide +kernel
theorem dL_law_735 : decode cL_law 735 = .ok (.iadd, 1) := by decide +kernel
theorem dL_law_736 : decode cL_law 736 = .ok (.iaload, 1) := by decide +kernel
theorem dL_law_737 : decode cL_law 737 = .ok (.invokevirtual 107, 3) := by decide +kernel
theorem dL_law_740 : decode cL_law 740 = .ok (.aload_n 2, 1) := by decide +kernel
theorem dL_law_741 : decode cL_law 741 = .ok (.aload_n 0, 1) := by decide +kernel
theorem dL_law_742 : decode cL_law 742 = .ok (.iload 4, 2) := by decide +kernel
theorem dL_law_744 : decode cL_law 744 = .ok (.iconst 1, 1) := by decide +kernel
theorem dL_law_745 : decode cL_law 745 = .ok (.iadd, 1) := by decide +kernel
theorem dL_law_746 : decode cL_law 746 = .ok (.iaload, 1) := by decide +kernel
theorem dL_law_747 : decode cL_law 747 = .ok (.invokevirtual 110, 3) := by decide +kernel
theorem dL_law_750 : decode cL_law 750 = .ok (.if_icmp .eq 550, 3) := by decide +kernel
theorem dL_law_753 : decode cL_law 753 = .ok (.iconst 0, 1) := by decide +kernel
theorem dL_law_754 : decode cL_law 754 = .ok (.ireturn, 1) := by decide +kernel
theorem dL_law_755 : decode cL_law 755 = .ok (.aload_n 1, 1) := by decide +kernel
theorem dL_law_756 : decode cL_law 756 = .ok (.invokevirtual 111, 3) := by decide +kernel
theorem dL_law_759 : decode cL_law 759 = .ok (.aload_n 2, 1) := by decide +kernel
theorem dL_law_760 : decode cL_law 760 = .ok (.invokevirtual 114, 3) := by decide +kernel
theorem dL_law_763 : decode cL_law 763 = .ok (.if_icmp .eq 537, 3) := by decide +kernel
theorem dL_law_766 : decode cL_law 766 = .ok (.iconst 0, 1) := by decide +kernel
theorem dL_law_767 : decode cL_law 767 = .ok (.ireturn, 1) := by decide +kernel
theorem dL_law_768 : decode cL_law 768 = .ok (.aload_n 1, 1) := by decide +kernel
theorem dL_law_769 : decode cL_law 769 = .ok (.aload_n 0, 1) := by decide +kernel
theorem dL_law_770 : decode cL_law 770 = .ok (.iload 4, 2) := by decide +kernel
theorem dL_law_772 : decode cL_law 772 = .ok (.iconst 1, 1) := by decide +kernel
theorem dL_law_773 : decode cL_law 773 = .ok (.iadd, 1) := by decide +kernel
theorem dL_law_774 : decode cL_law 774 = .ok (.iaload, 1) := by decide +kernel
theorem dL_law_775 : decode cL_law 775 = .ok (.invokevirtual 115, 3) := by decide +kernel
theorem dL_law_778 : decode cL_law 778 = .ok (.aload_n 2, 1) := by decide +kernel
theorem dL_law_779 : decode cL_law 779 = .ok (.aload_n 0, 1) := by decide +kernel
theorem dL_law_780 : decode cL_law 780 = .ok (.iload 4, 2) := by decide +kernel
theorem dL_law_782 : decode cL_law 782 = .ok (.iconst 1, 1) := by decide +kernel
theorem dL_law_783 : decode cL_law 783 = .ok (.iadd, 1) := by decide +kernel
theorem dL_law_784 : decode cL_law 784 = .ok (.iaload, 1) := by decide +kernel
theorem dL_law_785 : decode cL_law 785 = .ok (.invokevirtual 118, 3) := by decide +kernel
theorem dL_law_788 : decode cL_law 788 = .ok (.if_icmp .eq 512, 3) := by decide +kernel
theorem dL_law_791 : decode cL_law 791 = .ok (.iconst 0, 1) := by decide +kernel
theorem dL_law_792 : decode cL_law 792 = .ok (.ireturn, 1) := by decide +kernel
theorem dL_law_793 : decode cL_law 793 = .ok (.aload_n 1, 1) := by decide +kernel
theorem dL_law_794 : decode cL_law 794 = .ok (.aload_n 0, 1) := by decide +kernel
theorem dL_law_795 : decode cL_law 795 = .ok (.iload 4, 2) := by decide +kernel
theorem dL_law_797 : decode cL_law 797 = .ok (.iconst 1, 1) := by decide +kernel
theorem dL_law_798 : decode cL_law 798 = .ok (.iadd, 1) := by decide +kernel
theorem dL_law_799 : decode cL_law 799 = .ok (.iaload, 1) := by decide +kernel
theorem dL_law_800 : decode cL_law 800 = .ok (.invokevirtual 119, 3) := by decide +kernel
theorem dL_law_803 : decode cL_law 803 = .ok (.aload_n 2, 1) := by decide +kernel
theorem dL_law_804 : decode cL_law 804 = .ok (.aload_n 0, 1) := by decide +kernel
theorem dL_law_805 : decode cL_law 805 = .ok (.iload 4, 2) := by decide +kernel
theorem dL_law_807 : decode cL_law 807 = .ok (.iconst 1, 1) := by decide +kernel
theorem dL_law_808 : decode cL_law 808 = .ok (.iadd, 1) := by decide +kernel
theorem dL_law_809 : decode cL_law 809 = .ok (.iaload, 1) := by decide +kernel
theorem dL_law_810 : decode cL_law 810 = .ok (.invokevirtual 122, 3) := by decide +kernel
theorem dL_law_813 : decode cL_law 813 = .ok (.if_icmp .eq 487, 3) := by decide +kernel
theorem dL_law_816 : decode cL_law 816 = .ok (.iconst 0, 1) := by decide +kernel
theorem dL_law_817 : decode cL_law 817 = .ok (.ireturn, 1) := by decide +kernel
theorem dL_law_818 : decode cL_law 818 = .ok (.aload_n 1, 1) := by decide +kernel
theorem dL_law_819 : decode cL_law 819 = .ok (.aload_n 0, 1) := by decide +kernel
theorem dL_law_820 : decode cL_law 820 = .ok (.iload 4, 2) := by decide +kernel
theorem dL_law_822 : decode cL_law 822 = .ok (.iconst 1, 1) := by decide +kernel
theorem dL_law_823 : decode cL_law 823 = .ok (.iadd, 1) := by decide +kernel
theorem dL_law_824 : decode cL_law 824 = .ok (.iaload, 1) := by decide +kernel
theorem dL_law_825 : decode cL_law 825 = .ok (.invokevirtual 123, 3) := by decide +kernel
theorem dL_law_828 : decode cL_law 828 = .ok (.aload_n 2, 1) := by decide +kernel
theorem dL_law_829 : decode cL_law 829 = .ok (.aload_n 0, 1) := by decide +kernel
theorem dL_law_830 : decode cL_law 830 = .ok (.iload 4, 2) := by decide +kernel
theorem dL_law_832 : decode cL_law 832 = .ok (.iconst 1, 1) := by decide +kernel
theorem dL_law_833 : decode cL_law 833 = .ok (.iadd, 1) := by decide +kernel
theorem dL_law_834 : decode cL_law 834 = .ok (.iaload, 1) := by decide +kernel
theorem dL_law_835 : decode cL_law 835 = .ok (.invokevirtual 126, 3) := by decide +kernel
theorem dL_law_838 : decode cL_law 838 = .ok (.if_icmp .eq 462, 3) := by decide +kernel
theorem dL_law_841 : decode cL_law 841 = .ok (.iconst 0, 1) := by decide +kernel
theorem dL_law_842 : decode cL_law 842 = .ok (.ireturn, 1) := by decide +kernel
theorem dL_law_843 : decode cL_law 843 = .ok (.aload_n 1, 1) := by decide +kernel
theorem dL_law_844 : decode cL_law 844 = .ok (.invokevirtual 127, 3) := by decide +kernel
theorem dL_law_847 : decode cL_law 847 = .ok (.aload_n 2, 1) := by decide +kernel
theorem dL_law_848 : decode cL_law 848 = .ok (.invokevirtual 130, 3) := by decide +kernel
theorem dL_law_851 : decode cL_law 851 = .ok (.if_icmp .eq 449, 3) := by decide +kernel
theorem dL_law_854 : decode cL_law 854 = .ok (.iconst 0, 1) := by decide +kernel
theorem dL_law_855 : decode cL_law 855 = .ok (.ireturn, 1) := by decide +kernel
theorem dL_law_856 : decode cL_law 856 = .ok (.aload_n 1, 1) := by decide +kernel
theorem dL_law_857 : decode cL_law 857 = .ok (.aload_n 0, 1) := by decide +kernel
theorem dL_law_858 : decode cL_law 858 = .ok (.iload 4, 2) := by decide +kernel
theorem dL_law_860 : decode cL_law 860 = .ok (.iconst 1, 1) := by decide +kernel
theorem dL_law_861 : decode cL_law 861 = .ok (.iadd, 1) := by decide +kernel
theorem dL_law_862 : decode cL_law 862 = .ok (.iaload, 1) := by decide +kernel
theorem dL_law_863 : decode cL_law 863 = .ok (.aload_n 0, 1) := by decide +kernel
theorem dL_law_864 : decode cL_law 864 = .ok (.iload 4, 2) := by decide +kernel
theorem dL_law_866 : decode cL_law 866 = .ok (.iconst 2, 1) := by decide +kernel
theorem dL_law_867 : decode cL_law 867 = .ok (.iadd, 1) := by decide +kernel
theorem dL_law_868 : decode cL_law 868 = .ok (.iaload, 1) := by decide +kernel
theorem dL_law_869 : decode cL_law 869 = .ok (.invokevirtual 131, 3) := by decide +kernel
theorem dL_law_872 : decode cL_law 872 = .ok (.aload_n 2, 1) := by decide +kernel
theorem dL_law_873 : decode cL_law 873 = .ok (.aload_n 0, 1) := by decide +kernel
theorem dL_law_874 : decode cL_law 874 = .ok (.iload 4, 2) := by decide +kernel
theorem dL_law_876 : decode cL_law 876 = .ok (.iconst 1, 1) := by decide +kernel
theorem dL_law_877 : decode cL_law 877 = .ok (.iadd, 1) := by decide +kernel
theorem dL_law_878 : decode cL_law 878 = .ok (.iaload, 1) := by decide +kernel
theorem dL_law_879 : decode cL_law 879 = .ok (.aload_n 0, 1) := by decide +kernel
theorem dL_law_880 : decode cL_law 880 = .ok (.iload 4, 2) := by decide +kernel
theorem dL_law_882 : decode cL_law 882 = .ok (.iconst 2, 1) := by decide +kernel
theorem dL_law_883 : decode cL_law 883 = .ok (.iadd, 1) := by decide +kernel
theorem dL_law_884 : decode cL_law 884 = .ok (.iaload, 1) := by decide +kernel
theorem dL_law_885 : decode cL_law 885 = .ok (.invokevirtual 134, 3) := by decide +kernel
theorem dL_law_888 : decode cL_law 888 = .ok (.if_icmp .eq 412, 3) := by decide +kernel
theorem dL_law_891 : decode cL_law 891 = .ok (.iconst 0, 1) := by decide +kernel
theorem dL_law_892 : decode cL_law 892 = .ok (.ireturn, 1) := by decide +kernel
theorem dL_law_893 : decode cL_law 893 = .ok (.aload_n 1, 1) := by decide +kernel
theorem dL_law_894 : decode cL_law 894 = .ok (.invokevirtual 135, 3) := by decide +kernel
theorem dL_law_897 : decode cL_law 897 = .ok (.aload_n 2, 1) := by decide +kernel
theorem dL_law_898 : decode cL_law 898 = .ok (.invokevirtual 138, 3) := by decide +kernel
theorem dL_law_901 : decode cL_law 901 = .ok (.if_icmp .eq 399, 3) := by decide +kernel
theorem dL_law_904 : decode cL_law 904 = .ok (.iconst 0, 1) := by decide +kernel
theorem dL_law_905 : decode cL_law 905 = .ok (.ireturn, 1) := by decide +kernel
theorem dL_law_906 : decode cL_law 906 = .ok (.aload_n 1, 1) := by decide +kernel
theorem dL_law_907 : decode cL_law 907 = .ok (.invokevirtual 139, 3) := by decide +kernel
theorem dL_law_910 : decode cL_law 910 = .ok (.aload_n 2, 1) := by decide +kernel
theorem dL_law_911 : decode cL_law 911 = .ok (.invokevirtual 142, 3) := by decide +kernel
theorem dL_law_914 : decode cL_law 914 = .ok (.if_icmp .eq 386, 3) := by decide +kernel
theorem dL_law_917 : decode cL_law 917 = .ok (.iconst 0, 1) := by decide +kernel
theorem dL_law_918 : decode cL_law 918 = .ok (.ireturn, 1) := by decide +kernel
theorem dL_law_919 : decode cL_law 919 = .ok (.aload_n 1, 1) := by decide +kernel
theorem dL_law_920 : decode cL_law 920 = .ok (.invokevirtual 143, 3) := by decide +kernel
theorem dL_law_923 : decode cL_law 923 = .ok (.aload_n 2, 1) := by decide +kernel
theorem dL_law_924 : decode cL_law 924 = .ok (.invokevirtual 146, 3) := by decide +kernel
theorem dL_law_927 : decode cL_law 927 = .ok (.if_icmp .eq 373, 3) := by decide +kernel
theorem dL_law_930 : decode cL_law 930 = .ok (.iconst 0, 1) := by decide +kernel
theorem dL_law_931 : decode cL_law 931 = .ok (.ireturn, 1) := by decide +kernel
theorem dL_law_932 : decode cL_law 932 = .ok (.aload_n 1, 1) := by decide +kernel
theorem dL_law_933 : decode cL_law 933 = .ok (.invokevirtual 147, 3) := by decide +kernel
theorem dL_law_936 : decode cL_law 936 = .ok (.aload_n 2, 1) := by decide +kernel
theorem dL_law_937 : decode cL_law 937 = .ok (.invokevirtual 150, 3) := by decide +kernel
