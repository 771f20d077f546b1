theorem dL_law_692 : decode code 692 = .ok (.i2l, 1) := by decide +kernel
theorem dL_law_693 : decode code 693 = .ok (.lcmp, 1) := by decide +kernel
theorem dL_law_694 : decode code 694 = .ok (.ifCond .eq 5, 3) := by decide +kernel
theorem dL_law_697 : decode code 697 = .ok (.iconst 0, 1) := by decide +kernel
theorem dL_law_698 : decode code 698 = .ok (.ireturn, 1) := by decide +kernel
theorem dL_law_699 : decode code 699 = .ok (.goto 152, 3) := by decide +kernel
theorem dL_law_702 : decode code 702 = .ok (.aload_n 1, 1) := by decide +kernel
theorem dL_law_703 : decode code 703 = .ok (.aload_n 0, 1) := by decide +kernel
theorem dL_law_704 : decode code 704 = .ok (.iload 4, 2) := by decide +kernel
theorem dL_law_706 : decode code 706 = .ok (.iconst 1, 1) := by decide +kernel
theorem dL_law_707 : decode code 707 = .ok (.iadd, 1) := by decide +kernel
theorem dL_law_708 : decode code 708 = .ok (.iaload, 1) := by decide +kernel
theorem dL_law_709 : decode code 709 = .ok (.aload_n 0, 1) := by decide +kernel
theorem dL_law_710 : decode code 710 = .ok (.iload 4, 2) := by decide +kernel
theorem dL_law_712 : decode code 712 = .ok (.iconst 2, 1) := by decide +kernel
theorem dL_law_713 : decode code 713 = .ok (.iadd, 1) := by decide +kernel
theorem dL_law_714 : decode code 714 = .ok (.iaload, 1) := by decide +kernel
theorem dL_law_715 : decode code 715 = .ok (.invokevirtual 91, 3) := by decide +kernel
theorem dL_law_718 : decode code 718 = .ok (.aload_n 2, 1) := by decide +kernel
theorem dL_law_719 : decode code 719 = .ok (.aload_n 0, 1) := by decide +kernel
theorem dL_law_720 : decode code 720 = .ok (.iload 4, 2) := by decide +kernel
theorem dL_law_722 : decode code 722 = .ok (.iconst 1, 1) := by decide +kernel
theorem dL_law_723 : decode code 723 = .ok (.iadd, 1) := by decide +kernel
theorem dL_law_724 : decode code 724 = .ok (.iaload, 1) := by decide +kernel
theorem dL_law_725 : decode code 725 = .ok (.aload_n 0, 1) := by decide +kernel
theorem dL_law_726 : decode code 726 = .ok (.iload 4, 2) := by decide +kernel
theorem dL_law_728 : decode code 728 = .ok (.iconst 2, 1) := by decide +kernel
theorem dL_law_729 : decode code 729 = .ok (.iadd, 1) := by decide +kernel
theorem dL_law_730 : decode code 730 = .ok (.iaload, 1) := by decide +kernel
theorem dL_law_731 : decode code 731 = .ok (.invokevirtual 94, 3) := by decide +kernel
theorem dL_law_734 : decode code 734 = .ok (.if_icmp .eq 117, 3) := by decide +kernel
theorem dL_law_737 : decode code 737 = .ok (.iconst 0, 1) := by decide +kernel
theorem dL_law_738 : decode code 738 = .ok (.ireturn, 1) := by decide +kernel
theorem dL_law_739 : decode code 739 = .ok (.aload_n 1, 1) := by decide +kernel
theorem dL_law_740 : decode code 740 = .ok (.aload_n 0, 1) := by decide +kernel
theorem dL_law_741 : decode code 741 = .ok (.iload 4, 2) := by decide +kernel
theorem dL_law_743 : decode code 743 = .ok (.iconst 1, 1) := by decide +kernel
theorem dL_law_744 : decode code 744 = .ok (.iadd, 1) := by decide +kernel
theorem dL_law_745 : decode code 745 = .ok (.iaload, 1) := by decide +kernel
theorem dL_law_746 : decode code 746 = .ok (.aload_n 0, 1) := by decide +kernel
theorem dL_law_747 : decode code 747 = .ok (.iload 4, 2) := by decide +kernel
theorem dL_law_749 : decode code 749 = .ok (.iconst 2, 1) := by decide +kernel
theorem dL_law_750 : decode code 750 = .ok (.iadd, 1) := by decide +kernel
theorem dL_law_751 : decode code 751 = .ok (.iaload, 1) := by decide +kernel
theorem dL_law_752 : decode code 752 = .ok (.invokevirtual 95, 3) := by decide +kernel
theorem dL_law_755 : decode code 755 = .ok (.aload_n 2, 1) := by decide +kernel
theorem dL_law_756 : decode code 756 = .ok (.aload_n 0, 1) := by decide +kernel
theorem dL_law_757 : decode code 757 = .ok (.iload 4, 2) := by decide +kernel
theorem dL_law_759 : decode code 759 = .ok (.iconst 1, 1) := by decide +kernel
theorem dL_law_760 : decode code 760 = .ok (.iadd, 1) := by decide +kernel
theorem dL_law_761 : decode code 761 = .ok (.iaload, 1) := by decide +kernel
theorem dL_law_762 : decode code 762 = .ok (.aload_n 0, 1) := by decide +kernel
theorem dL_law_763 : decode code 763 = .ok (.iload 4, 2) := by decide +kernel
theorem dL_law_765 : decode code 765 = .ok (.iconst 2, 1) := by decide +kernel
theorem dL_law_766 : decode code 766 = .ok (.iadd, 1) := by decide +kernel
theorem dL_law_767 : decode code 767 = .ok (.iaload, 1) := by decide +kernel
theorem dL_law_768 : decode code 768 = .ok (.invokevirtual 98, 3) := by decide +kernel
theorem dL_law_771 : decode code 771 = .ok (.if_icmp .eq 80, 3) := by decide +kernel
theorem dL_law_774 : decode code 774 = .ok (.iconst 0, 1) := by decide +kernel
theorem dL_law_775 : decode code 775 = .ok (.ireturn, 1) := by decide +kernel
theorem dL_law_776 : decode code 776 = .ok (.aload_n 1, 1) := by decide +kernel
theorem dL_law_777 : decode code 777 = .ok (.invokevirtual 99, 3) := by decide +kernel
theorem dL_law_780 : decode code 780 = .ok (.aload_n 2, 1) := by decide +kernel
theorem dL_law_781 : decode code 781 = .ok (.invokevirtual 102, 3) := by decide +kernel
theorem dL_law_784 : decode code 784 = .ok (.if_icmp .eq 67, 3) := by decide +kernel
theorem dL_law_787 : decode code 787 = .ok (.iconst 0, 1) := by decide +kernel
theorem dL_law_788 : decode code 788 = .ok (.ireturn, 1) := by decide +kernel
theorem dL_law_789 : decode code 789 = .ok (.aload_n 1, 1) := by decide +kernel
theorem dL_law_790 : decode code 790 = .ok (.aload_n 0, 1) := by decide +kernel
theorem dL_law_791 : decode code 791 = .ok (.iload 4, 2) := by decide +kernel
theorem dL_law_793 : decode code 793 = .ok (.iconst 1, 1) := by decide +kernel
theorem dL_law_794 : decode code 794 = .ok (.iadd, 1) := by decide +kernel
theorem dL_law_795 : decode code 795 = .ok (.iaload, 1) := by decide +kernel
theorem dL_law_796 : decode code 796 = .ok (.aload_n 0, 1) := by decide +kernel
theorem dL_law_797 : decode code 797 = .ok (.iload 4, 2) := by decide +kernel
theorem dL_law_799 : decode code 799 = .ok (.iconst 2, 1) := by decide +kernel
theorem dL_law_800 : decode code 800 = .ok (.iadd, 1) := by decide +kernel
theorem dL_law_801 : decode code 801 = .ok (.iaload, 1) := by decide +kernel
theorem dL_law_802 : decode code 802 = .ok (.invokevirtual 103, 3) := by decide +kernel
theorem dL_law_805 : decode code 805 = .ok (.aload_n 2, 1) := by decide +kernel
theorem dL_law_806 : decode code 806 = .ok (.aload_n 0, 1) := by decide +kernel
theorem dL_law_807 : decode code 807 = .ok (.iload 4, 2) := by decide +kernel
theorem dL_law_809 : decode code 809 = .ok (.iconst 1, 1) := by decide +kernel
theorem dL_law_810 : decode code 810 = .ok (.iadd, 1) := by decide +kernel
theorem dL_law_811 : decode code 811 = .ok (.iaload, 1) := by decide +kernel
theorem dL_law_812 : decode code 812 = .ok (.aload_n 0, 1) := by decide +kernel
theorem dL_law_813 : decode code 813 = .ok (.iload 4, 2) := by decide +kernel
theorem dL_law_815 : decode code 815 = .ok (.iconst 2, 1) := by decide +kernel
theorem dL_law_816 : decode code 816 = .ok (.iadd, 1) := by decide +kernel
theorem dL_law_817 : decode code 817 = .ok (.iaload, 1) := by decide +kernel
theorem dL_law_818 : decode code 818 = .ok (.invokevirtual 106, 3) := by decide +kernel
theorem dL_law_821 : decode code 821 = .ok (.if_icmp .eq 30, 3) := by decide +kernel
theorem dL_law_824 : decode code 824 = .ok (.iconst 0, 1) := by decide +kernel
theorem dL_law_825 : decode code 825 = .ok (.ireturn, 1) := by decide +kernel
theorem dL_law_826 : decode code 826 = .ok (.aload_n 1, 1) := by decide +kernel
theorem dL_law_827 : decode code 827 = .ok (.aload_n 0, 1) := by decide +kernel
theorem dL_law_828 : decode code 828 = .ok (.iload 4, 2) := by decide +kernel
theorem dL_law_830 : decode code 830 = .ok (.iconst 1, 1) := by decide +kernel
theorem dL_law_831 : decode code 831 = .ok (.iadd, 1) := by decide +kernel
theorem dL_law_832 : decode code 832 = .ok (.iaload, 1) := by decide +kernel
theorem dL_law_833 : decode code 833 = .ok (.invokevirtual 107, 3) := by decide +kernel
theorem dL_law_836 : decode code 836 = .ok (.aload_n 2, 1) := by decide +kernel
theorem dL_law_837 : decode code 837 = .ok (.aload_n 0, 1) := by decide +kernel
theorem dL_law_838 : decode code 838 = .ok (.iload 4, 2) := by decide +kernel
theorem dL_law_840 : decode code 840 = .ok (.iconst 1, 1) := by decide +kernel
theorem dL_law_841 : decode code 841 = .ok (.iadd, 1) := by decide +kernel
theorem dL_law_842 : decode code 842 = .ok (.iaload, 1) := by decide +kernel
theorem dL_law_843 : decode code 843 = .ok (.invokevirtual 110, 3) := by decide +kernel
theorem dL_law_846 : decode code 846 = .ok (.if_icmp .eq 5, 3) := by decide +kernel
theorem dL_law_849 : decode code 849 = .ok (.iconst 0, 1) := by decide +kernel
theorem dL_law_850 : decode code 850 = .ok (.ireturn, 1) := by decide +kernel
theorem dL_law_851 : decode code 851 = .ok (.iinc 4 6, 3) := by decide +kernel
theorem dL_law_854 : decode code 854 = .ok (.goto (-831), 3) := by decide +kernel
theorem dL_law_857 : decode code 857 = .ok (.iconst 1, 1) := by decide +kernel
theorem dL_law_858 : decode code 858 = .ok (.ireturn, 1) := by decide +kernel
