theorem dL_acts_632 : decode cL_acts 632 = .ok (.iload_n 3, 1) := by decide +kernel
theorem dL_acts_633 : decode cL_acts 633 = .ok (.iconst 5, 1) := by decide +kernel
theorem dL_acts_634 : decode cL_acts 634 = .ok (.invokevirtual 9, 3) := by decide +kernel
theorem dL_acts_637 : decode cL_acts 637 = .ok (.istore 20, 2) := by decide +kernel
theorem dL_acts_639 : decode cL_acts 639 = .ok (.aload_n 0, 1) := by decide +kernel
theorem dL_acts_640 : decode cL_acts 640 = .ok (.iload_n 3, 1) := by decide +kernel
theorem dL_acts_641 : decode cL_acts 641 = .ok (.invokevirtual 57, 3) := by decide +kernel
theorem dL_acts_644 : decode cL_acts 644 = .ok (.istore 21, 2) := by decide +kernel
theorem dL_acts_646 : decode cL_acts 646 = .ok (.iload_n 2, 1) := by decide +kernel
theorem dL_acts_647 : decode cL_acts 647 = .ok (.ifCond .ne 17, 3) := by decide +kernel
theorem dL_acts_650 : decode cL_acts 650 = .ok (.iload 21, 2) := by decide +kernel
theorem dL_acts_652 : decode cL_acts 652 = .ok (.iconst (-1), 1) := by decide +kernel
theorem dL_acts_653 : decode cL_acts 653 = .ok (.if_icmp .ne 7, 3) := by decide +kernel
theorem dL_acts_656 : decode cL_acts 656 = .ok (.iconst 1, 1) := by decide +kernel
theorem dL_acts_657 : decode cL_acts 657 = .ok (.goto 97, 3) := by decide +kernel
theorem dL_acts_660 : decode cL_acts 660 = .ok (.iconst 0, 1) := by decide +kernel
theorem dL_acts_661 : decode cL_acts 661 = .ok (.goto 93, 3) := by decide +kernel
theorem dL_acts_664 : decode cL_acts 664 = .ok (.iload 18, 2) := by decide +kernel
theorem dL_acts_666 : decode cL_acts 666 = .ok (.ifCond .ne 18, 3) := by decide +kernel
theorem dL_acts_669 : decode cL_acts 669 = .ok (.iload 21, 2) := by decide +kernel
theorem dL_acts_671 : decode cL_acts 671 = .ok (.bipush (-5), 2) := by decide +kernel
theorem dL_acts_673 : decode cL_acts 673 = .ok (.if_icmp .ne 7, 3) := by decide +kernel
theorem dL_acts_676 : decode cL_acts 676 = .ok (.iconst 1, 1) := by decide +kernel
theorem dL_acts_677 : decode cL_acts 677 = .ok (.goto 77, 3) := by decide +kernel
theorem dL_acts_680 : decode cL_acts 680 = .ok (.iconst 0, 1) := by decide +kernel
theorem dL_acts_681 : decode cL_acts 681 = .ok (.goto 73, 3) := by decide +kernel
theorem dL_acts_684 : decode cL_acts 684 = .ok (.iload 21, 2) := by decide +kernel
theorem dL_acts_686 : decode cL_acts 686 = .ok (.iload 19, 2) := by decide +kernel
theorem dL_acts_688 : decode cL_acts 688 = .ok (.ifCond .le 8, 3) := by decide +kernel
theorem dL_acts_691 : decode cL_acts 691 = .ok (.iload 17, 2) := by decide +kernel
theorem dL_acts_693 : decode cL_acts 693 = .ok (.goto 4, 3) := by decide +kernel
theorem dL_acts_696 : decode cL_acts 696 = .ok (.iconst 3, 1) := by decide +kernel
theorem dL_acts_697 : decode cL_acts 697 = .ok (.if_icmp .ne 56, 3) := by decide +kernel
theorem dL_acts_700 : decode cL_acts 700 = .ok (.aload_n 0, 1) := by decide +kernel
theorem dL_acts_701 : decode cL_acts 701 = .ok (.iload_n 3, 1) := by decide +kernel
theorem dL_acts_702 : decode cL_acts 702 = .ok (.iconst 5, 1) := by decide +kernel
theorem dL_acts_703 : decode cL_acts 703 = .ok (.invokevirtual 9, 3) := by decide +kernel
theorem dL_acts_706 : decode cL_acts 706 = .ok (.iload 20, 2) := by decide +kernel
theorem dL_acts_708 : decode cL_acts 708 = .ok (.iconst 1, 1) := by decide +kernel
theorem dL_acts_709 : decode cL_acts 709 = .ok (.iadd, 1) := by decide +kernel
theorem dL_acts_710 : decode cL_acts 710 = .ok (.if_icmp .ne 43, 3) := by decide +kernel
theorem dL_acts_713 : decode cL_acts 713 = .ok (.aload_n 0, 1) := by decide +kernel
theorem dL_acts_714 : decode cL_acts 714 = .ok (.iload_n 3, 1) := by decide +kernel
theorem dL_acts_715 : decode cL_acts 715 = .ok (.iconst 3, 1) := by decide +kernel
theorem dL_acts_716 : decode cL_acts 716 = .ok (.invokevirtual 9, 3) := by decide +kernel
theorem dL_acts_719 : decode cL_acts 719 = .ok (.ifCond .ne 34, 3) := by decide +kernel
theorem dL_acts_722 : decode cL_acts 722 = .ok (.aload_n 0, 1) := by decide +kernel
theorem dL_acts_723 : decode cL_acts 723 = .ok (.iload_n 3, 1) := by decide +kernel
theorem dL_acts_724 : decode cL_acts 724 = .ok (.bipush 7, 2) := by decide +kernel
theorem dL_acts_726 : decode cL_acts 726 = .ok (.invokevirtual 9, 3) := by decide +kernel
theorem dL_acts_729 : decode cL_acts 729 = .ok (.iconst 1, 1) := by decide +kernel
theorem dL_acts_730 : decode cL_acts 730 = .ok (.if_icmp .ne 23, 3) := by decide +kernel
theorem dL_acts_733 : decode cL_acts 733 = .ok (.iload 19, 2) := by decide +kernel
theorem dL_acts_735 : decode cL_acts 735 = .ok (.ifCond .gt 14, 3) := by decide +kernel
theorem dL_acts_738 : decode cL_acts 738 = .ok (.aload_n 0, 1) := by decide +kernel
theorem dL_acts_739 : decode cL_acts 739 = .ok (.iload_n 3, 1) := by decide +kernel
theorem dL_acts_740 : decode cL_acts 740 = .ok (.iconst 0, 1) := by decide +kernel
theorem dL_acts_741 : decode cL_acts 741 = .ok (.invokevirtual 9, 3) := by decide +kernel
theorem dL_acts_744 : decode cL_acts 744 = .ok (.iload 6, 2) := by decide +kernel
theorem dL_acts_746 : decode cL_acts 746 = .ok (.if_icmp .lt 7, 3) := by decide +kernel
theorem dL_acts_749 : decode cL_acts 749 = .ok (.iconst 1, 1) := by decide +kernel
theorem dL_acts_750 : decode cL_acts 750 = .ok (.goto 4, 3) := by decide +kernel
theorem dL_acts_753 : decode cL_acts 753 = .ok (.iconst 0, 1) := by decide +kernel
theorem dL_acts_754 : decode cL_acts 754 = .ok (.ireturn, 1) := by decide +kernel
theorem dL_acts_755 : decode cL_acts 755 = .ok (.aload_n 0, 1) := by decide +kernel
theorem dL_acts_756 : decode cL_acts 756 = .ok (.iload 4, 2) := by decide +kernel
theorem dL_acts_758 : decode cL_acts 758 = .ok (.bipush 6, 2) := by decide +kernel
theorem dL_acts_760 : decode cL_acts 760 = .ok (.invokevirtual 28, 3) := by decide +kernel
theorem dL_acts_763 : decode cL_acts 763 = .ok (.iconst 1, 1) := by decide +kernel
theorem dL_acts_764 : decode cL_acts 764 = .ok (.iadd, 1) := by decide +kernel
theorem dL_acts_765 : decode cL_acts 765 = .ok (.istore 22, 2) := by decide +kernel
theorem dL_acts_767 : decode cL_acts 767 = .ok (.iload 7, 2) := by decide +kernel
theorem dL_acts_769 : decode cL_acts 769 = .ok (.ifCond .eq 60, 3) := by decide +kernel
theorem dL_acts_772 : decode cL_acts 772 = .ok (.aload_n 0, 1) := by decide +kernel
theorem dL_acts_773 : decode cL_acts 773 = .ok (.iload_n 3, 1) := by decide +kernel
theorem dL_acts_774 : decode cL_acts 774 = .ok (.iconst 1, 1) := by decide +kernel
theorem dL_acts_775 : decode cL_acts 775 = .ok (.invokevirtual 9, 3) := by decide +kernel
theorem dL_acts_778 : decode cL_acts 778 = .ok (.bipush (-6), 2) := by decide +kernel
theorem dL_acts_780 : decode cL_acts 780 = .ok (.if_icmp .ne 49, 3) := by decide +kernel
theorem dL_acts_783 : decode cL_acts 783 = .ok (.aload_n 0, 1) := by decide +kernel
theorem dL_acts_784 : decode cL_acts 784 = .ok (.iload_n 3, 1) := by decide +kernel
theorem dL_acts_785 : decode cL_acts 785 = .ok (.bipush 7, 2) := by decide +kernel
theorem dL_acts_787 : decode cL_acts 787 = .ok (.invokevirtual 9, 3) := by decide +kernel
theorem dL_acts_790 : decode cL_acts 790 = .ok (.ifCond .ne 39, 3) := by decide +kernel
theorem dL_acts_793 : decode cL_acts 793 = .ok (.iload 6, 2) := by decide +kernel
theorem dL_acts_795 : decode cL_acts 795 = .ok (.iload 22, 2) := by decide +kernel
theorem dL_acts_797 : decode cL_acts 797 = .ok (.if_icmp .lt 32, 3) := by decide +kernel
theorem dL_acts_800 : decode cL_acts 800 = .ok (.aload_n 0, 1) := by decide +kernel
theorem dL_acts_801 : decode cL_acts 801 = .ok (.iload 4, 2) := by decide +kernel
theorem dL_acts_803 : decode cL_acts 803 = .ok (.iconst 0, 1) := by decide +kernel
theorem dL_acts_804 : decode cL_acts 804 = .ok (.invokevirtual 28, 3) := by decide +kernel
theorem dL_acts_807 : decode cL_acts 807 = .ok (.aload_n 0, 1) := by decide +kernel
theorem dL_acts_808 : decode cL_acts 808 = .ok (.iload 4, 2) := by decide +kernel
theorem dL_acts_810 : decode cL_acts 810 = .ok (.iconst 1, 1) := by decide +kernel
theorem dL_acts_811 : decode cL_acts 811 = .ok (.invokevirtual 28, 3) := by decide +kernel
theorem dL_acts_814 : decode cL_acts 814 = .ok (.iadd, 1) := by decide +kernel
theorem dL_acts_815 : decode cL_acts 815 = .ok (.aload_n 0, 1) := by decide +kernel
theorem dL_acts_816 : decode cL_acts 816 = .ok (.iload 4, 2) := by decide +kernel
theorem dL_acts_818 : decode cL_acts 818 = .ok (.iconst 2, 1) := by decide +kernel
theorem dL_acts_819 : decode cL_acts 819 = .ok (.invokevirtual 28, 3) := by decide +kernel
theorem dL_acts_822 : decode cL_acts 822 = .ok (.if_icmp .le 7, 3) := by decide +kernel
theorem dL_acts_825 : decode cL_acts 825 = .ok (.iconst 1, 1) := by decide +kernel
theorem dL_acts_826 : decode cL_acts 826 = .ok (.goto 4, 3) := by decide +kernel
theorem dL_acts_829 : decode cL_acts 829 = .ok (.iconst 0, 1) := by decide +kernel
theorem dL_acts_830 : decode cL_acts 830 = .ok (.istore 23, 2) := by decide +kernel
theorem dL_acts_832 : decode cL_acts 832 = .ok (.aload_n 0, 1) := by decide +kernel
theorem dL_acts_833 : decode cL_acts 833 = .ok (.iload_n 3, 1) := by decide +kernel
theorem dL_acts_834 : decode cL_acts 834 = .ok (.iload 4, 2) := by decide +kernel
theorem dL_acts_836 : decode cL_acts 836 = .ok (.invokevirtual 60, 3) := by decide +kernel
theorem dL_acts_839 : decode cL_acts 839 = .ok (.istore 24, 2) := by decide +kernel
theorem dL_acts_841 : decode cL_acts 841 = .ok (.iload_n 2, 1) := by decide +kernel
theorem dL_acts_842 : decode cL_acts 842 = .ok (.ifCond .ne 17, 3) := by decide +kernel
theorem dL_acts_845 : decode cL_acts 845 = .ok (.iload 24, 2) := by decide +kernel
theorem dL_acts_847 : decode cL_acts 847 = .ok (.iconst (-1), 1) := by decide +kernel
theorem dL_acts_848 : decode cL_acts 848 = .ok (.if_icmp .ne 7, 3) := by decide +kernel
theorem dL_acts_851 : decode cL_acts 851 = .ok (.iconst 1, 1) := by decide +kernel
theorem dL_acts_852 : decode cL_acts 852 = .ok (.goto 53, 3) := by decide +kernel
theorem dL_acts_855 : decode cL_acts 855 = .ok (.iconst 0, 1) := by decide +kernel
theorem dL_acts_856 : decode cL_acts 856 = .ok (.goto 49, 3) := by decide +kernel
theorem dL_acts_859 : decode cL_acts 859 = .ok (.iload 23, 2) := by decide +kernel
theorem dL_acts_861 : decode cL_acts 861 = .ok (.ifCond .eq 32, 3) := by decide +kernel
theorem dL_acts_864 : decode cL_acts 864 = .ok (.iload 24, 2) := by decide +kernel
theorem dL_acts_866 : decode cL_acts 866 = .ok (.iload 6, 2) := by decide +kernel
theorem dL_acts_868 : decode cL_acts 868 = .ok (.iload 22, 2) := by decide +kernel
theorem dL_acts_870 : decode cL_acts 870 = .ok (.isub, 1) := by decide +kernel
theorem dL_acts_871 : decode cL_acts 871 = .ok (.if_icmp .ne 18, 3) := by decide +kernel
theorem dL_acts_874 : decode cL_acts 874 = .ok (.aload_n 0, 1) := by decide +kernel
theorem dL_acts_875 : decode cL_acts 875 = .ok (.iload_n 3, 1) := by decide +kernel
theorem dL_acts_876 : decode cL_acts 876 = .ok (.bipush 7, 2) := by decide +kernel
theorem dL_acts_878 : decode cL_acts 878 = .ok (.invokevirtual 9, 3) := by decide +kernel
theorem dL_acts_881 : decode cL_acts 881 = .ok (.iconst 1, 1) := by decide +kernel
theorem dL_acts_882 : decode cL_acts 882 = .ok (.if_icmp .ne 7, 3) := by decide +kernel
theorem dL_acts_885 : decode cL_acts 885 = .ok (.iconst 1, 1) := by decide +kernel
theorem dL_acts_886 : decode cL_acts 886 = .ok (.goto 19, 3) := by decide +kernel
theorem dL_acts_889 : decode cL_acts 889 = .ok (.iconst 0, 1) := by decide +kernel
theorem dL_acts_890 : decode cL_acts 890 = .ok (.goto 15, 3) := by decide +kernel
theorem dL_acts_893 : decode cL_acts 893 = .ok (.iload 24, 2) := by decide +kernel
theorem dL_acts_895 : decode cL_acts 895 = .ok (.bipush (-5), 2) := by decide +kernel
theorem dL_acts_897 : decode cL_acts 897 = .ok (.if_icmp .ne 7, 3) := by decide +kernel
theorem dL_acts_900 : decode cL_acts 900 = .ok (.iconst 1, 1) := by decide +kernel
theorem dL_acts_901 : decode cL_acts 901 = .ok (.goto 4, 3) := by decide +kernel
theorem dL_acts_904 : decode cL_acts 904 = .ok (.iconst 0, 1) := by decide +kernel
theorem dL_acts_905 : decode cL_acts 905 = .ok (.ireturn, 1) := by decide +kernel
theorem dL_acts_906 : decode cL_acts 906 = .ok (.aload_n 0, 1) := by decide +kernel
theorem dL_acts_907 : decode cL_acts 907 = .ok (.iconst 0, 1) := by decide +kernel
theorem dL_acts_908 : decode cL_acts 908 = .ok (.invokevirtual 18, 3) := by decide +kernel
theorem dL_acts_911 : decode cL_acts 911 = .ok (.istore 25, 2) := by decide +kernel
theorem dL_acts_913 : decode cL_acts 913 = .ok (.iconst 0, 1) := by decide +kernel
theorem dL_acts_914 : decode cL_acts 914 = .ok (.istore 26, 2) := by decide +kernel
theorem dL_acts_916 : decode cL_acts 916 = .ok (.iconst 0, 1) := by decide +kernel
theorem dL_acts_917 : decode cL_acts 917 = .ok (.istore 27, 2) := by decide +kernel
theorem dL_acts_919 : decode cL_acts 919 = .ok (.iload 27, 2) := by decide +kernel
theorem dL_acts_921 : decode cL_acts 921 = .ok (.iconst 3, 1) := by decide +kernel
theorem dL_acts_922 : decode cL_acts 922 = .ok (.if_icmp .ge 21, 3) := by decide +kernel
theorem dL_acts_925 : decode cL_acts 925 = .ok (.iload 26, 2) := by decide +kernel
theorem dL_acts_927 : decode cL_acts 927 = .ok (.aload_n 0, 1) := by decide +kernel
theorem dL_acts_928 : decode cL_acts 928 = .ok (.iload 27, 2) := by decide +kernel
theorem dL_acts_930 : decode cL_acts 930 = .ok (.iconst 2, 1) := by decide +kernel
theorem dL_acts_931 : decode cL_acts 931 = .ok (.invokevirtual 28, 3) := by decide +kernel
theorem dL_acts_934 : decode cL_acts 934 = .ok (.iadd, 1) := by decide +kernel
theorem dL_acts_935 : decode cL_acts 935 = .ok (.istore 26, 2) := by decide +kernel
theorem dL_acts_937 : decode cL_acts 937 = .ok (.iinc 27 1, 3) := by decide +kernel
theorem dL_acts_940 : decode cL_acts 940 = .ok (.goto (-21), 3) := by decide +kernel
theorem dL_acts_943 : decode cL_acts 943 = .ok (.aload_n 0, 1) := by decide +kernel
theorem dL_acts_944 : decode cL_acts 944 = .ok (.invokevirtual 63, 3) := by decide +kernel
theorem dL_acts_947 : decode cL_acts 947 = .ok (.istore 27, 2) := by decide +kernel
theorem dL_acts_949 : decode cL_acts 949 = .ok (.iload 7, 2) := by decide +kernel
theorem dL_acts_951 : decode cL_acts 951 = .ok (.ifCond .ne 18, 3) := by decide +kernel
theorem dL_acts_954 : decode cL_acts 954 = .ok (.iload 27, 2) := by decide +kernel
theorem dL_acts_956 : decode cL_acts 956 = .ok (.bipush (-5), 2) := by decide +kernel
theorem dL_acts_958 : decode cL_acts 958 = .ok (.if_icmp .ne 7, 3) := by decide +kernel
theorem dL_acts_961 : decode cL_acts 961 = .ok (.iconst 1, 1) := by decide +kernel
theorem dL_acts_962 : decode cL_acts 962 = .ok (.goto 65, 3) := by decide +kernel
theorem dL_acts_965 : decode cL_acts 965 = .ok (.iconst 0, 1) := by decide +kernel
theorem dL_acts_966 : decode cL_acts 966 = .ok (.goto 61, 3) := by decide +kernel
theorem dL_acts_969 : decode cL_acts 969 = .ok (.iload 27, 2) := by decide +kernel
theorem dL_acts_971 : decode cL_acts 971 = .ok (.iload 26, 2) := by decide +kernel
theorem dL_acts_973 : decode cL_acts 973 = .ok (.if_icmp .ne 53, 3) := by decide +kernel
theorem dL_acts_976 : decode cL_acts 976 = .ok (.aload_n 0, 1) := by decide +kernel
theorem dL_acts_977 : decode cL_acts 977 = .ok (.iconst 0, 1) := by decide +kernel
theorem dL_acts_978 : decode cL_acts 978 = .ok (.invokevirtual 18, 3) := by decide +kernel
theorem dL_acts_981 : decode cL_acts 981 = .ok (.iload 25, 2) := by decide +kernel
theorem dL_acts_983 : decode cL_acts 983 = .ok (.iconst 1, 1) := by decide +kernel
theorem dL_acts_984 : decode cL_acts 984 = .ok (.iadd, 1) := by decide +kernel
theorem dL_acts_985 : decode cL_acts 985 = .ok (.if_icmp .ne 41, 3) := by decide +kernel
theorem dL_acts_988 : decode cL_acts 988 = .ok (.aload_n 0, 1) := by decide +kernel
theorem dL_acts_989 : decode cL_acts 989 = .ok (.iconst 2, 1) := by decide +kernel
theorem dL_acts_990 : decode cL_acts 990 = .ok (.invokevirtual 18, 3) := by decide +kernel
theorem dL_acts_993 : decode cL_acts 993 = .ok (.ifCond .ne 33, 3) := by decide +kernel
theorem dL_acts_996 : decode cL_acts 996 = .ok (.aload_n 0, 1) := by decide +kernel
theorem dL_acts_997 : decode cL_acts 997 = .ok (.iload 4, 2) := by decide +kernel
theorem dL_acts_999 : decode cL_acts 999 = .ok (.iconst 1, 1) := by decide +kernel
theorem dL_acts_1000 : decode cL_acts 1000 = .ok (.invokevirtual 28, 3) := by decide +kernel
theorem dL_acts_1003 : decode cL_acts 1003 = .ok (.ifCond .ne 23, 3) := by decide +kernel
theorem dL_acts_1006 : decode cL_acts 1006 = .ok (.aload_n 0, 1) := by decide +kernel
theorem dL_acts_1007 : decode cL_acts 1007 = .ok (.iload 4, 2) := by decide +kernel
theorem dL_acts_1009 : decode cL_acts 1009 = .ok (.iconst 0, 1) := by decide +kernel
theorem dL_acts_1010 : decode cL_acts 1010 = .ok (.invokevirtual 28, 3) := by decide +kernel
theorem dL_acts_1013 : decode cL_acts 1013 = .ok (.aload_n 0, 1) := by decide +kernel
theorem dL_acts_1014 : decode cL_acts 1014 = .ok (.bipush 11, 2) := by decide +kernel
theorem dL_acts_1016 : decode cL_acts 1016 = .ok (.invokevirtual 18, 3) := by decide +kernel
theorem dL_acts_1019 : decode cL_acts 1019 = .ok (.if_icmp .gt 7, 3) := by decide +kernel
theorem dL_acts_1022 : decode cL_acts 1022 = .ok (.iconst 1, 1) := by decide +kernel
theorem dL_acts_1023 : decode cL_acts 1023 = .ok (.goto 4, 3) := by decide +kernel
theorem dL_acts_1026 : decode cL_acts 1026 = .ok (.iconst 0, 1) := by decide +kernel
theorem dL_acts_1027 : decode cL_acts 1027 = .ok (.ireturn, 1) := by decide +kernel
theorem dL_acts_1028 : decode cL_acts 1028 = .ok (.iload_n 1, 1) := by decide +kernel
theorem dL_acts_1029 : decode cL_acts 1029 = .ok (.iconst 4, 1) := by decide +kernel
theorem dL_acts_1030 : decode cL_acts 1030 = .ok (.ishr, 1) := by decide +kernel
theorem dL_acts_1031 : decode cL_acts 1031 = .ok (.iconst 4, 1) := by decide +kernel
theorem dL_acts_1032 : decode cL_acts 1032 = .ok (.irem, 1) := by decide +kernel
theorem dL_acts_1033 : decode cL_acts 1033 = .ok (.istore 28, 2) := by decide +kernel
theorem dL_acts_1035 : decode cL_acts 1035 = .ok (.iload 28, 2) := by decide +kernel
theorem dL_acts_1037 : decode cL_acts 1037 = .ok (.ifCond .ne 13, 3) := by decide +kernel
theorem dL_acts_1040 : decode cL_acts 1040 = .ok (.iload_n 1, 1) := by decide +kernel
theorem dL_acts_1041 : decode cL_acts 1041 = .ok (.bipush 8, 2) := by decide +kernel
theorem dL_acts_1043 : decode cL_acts 1043 = .ok (.ishr, 1) := by decide +kernel
theorem dL_acts_1044 : decode cL_acts 1044 = .ok (.bipush 10, 2) := by decide +kernel
theorem dL_acts_1046 : decode cL_acts 1046 = .ok (.irem, 1) := by decide +kernel
theorem dL_acts_1047 : decode cL_acts 1047 = .ok (.goto 46, 3) := by decide +kernel
theorem dL_acts_1050 : decode cL_acts 1050 = .ok (.iload 28, 2) := by decide +kernel
theorem dL_acts_1052 : decode cL_acts 1052 = .ok (.iconst 1, 1) := by decide +kernel
theorem dL_acts_1053 : decode cL_acts 1053 = .ok (.if_icmp .ne 13, 3) := by decide +kernel
theorem dL_acts_1056 : decode cL_acts 1056 = .ok (.iload_n 1, 1) := by decide +kernel
theorem dL_acts_1057 : decode cL_acts 1057 = .ok (.bipush 8, 2) := by decide +kernel
theorem dL_acts_1059 : decode cL_acts 1059 = .ok (.ishr, 1) := by decide +kernel
theorem dL_acts_1060 : decode cL_acts 1060 = .ok (.bipush 21, 2) := by decide +kernel
theorem dL_acts_1062 : decode cL_acts 1062 = .ok (.irem, 1) := by decide +kernel
theorem dL_acts_1063 : decode cL_acts 1063 = .ok (.goto 30, 3) := by decide +kernel
theorem dL_acts_1066 : decode cL_acts 1066 = .ok (.iload 28, 2) := by decide +kernel
theorem dL_acts_1068 : decode cL_acts 1068 = .ok (.iconst 2, 1) := by decide +kernel
theorem dL_acts_1069 : decode cL_acts 1069 = .ok (.if_icmp .ne 15, 3) := by decide +kernel
theorem dL_acts_1072 : decode cL_acts 1072 = .ok (.iconst 1, 1) := by decide +kernel
theorem dL_acts_1073 : decode cL_acts 1073 = .ok (.iload_n 1, 1) := by decide +kernel
theorem dL_acts_1074 : decode cL_acts 1074 = .ok (.bipush 8, 2) := by decide +kernel
theorem dL_acts_1076 : decode cL_acts 1076 = .ok (.ishr, 1) := by decide +kernel
theorem dL_acts_1077 : decode cL_acts 1077 = .ok (.bipush 9, 2) := by decide +kernel
theorem dL_acts_1079 : decode cL_acts 1079 = .ok (.irem, 1) := by decide +kernel
theorem dL_acts_1080 : decode cL_acts 1080 = .ok (.iadd, 1) := by decide +kernel
theorem dL_acts_1081 : decode cL_acts 1081 = .ok (.goto 12, 3) := by decide +kernel
theorem dL_acts_1084 : decode cL_acts 1084 = .ok (.iconst 1, 1) := by decide +kernel
theorem dL_acts_1085 : decode cL_acts 1085 = .ok (.iload_n 1, 1) := by decide +kernel
theorem dL_acts_1086 : decode cL_acts 1086 = .ok (.bipush 8, 2) := by decide +kernel
theorem dL_acts_1088 : decode cL_acts 1088 = .ok (.ishr, 1) := by decide +kernel
theorem dL_acts_1089 : decode cL_acts 1089 = .ok (.bipush 20, 2) := by decide +kernel
theorem dL_acts_1091 : decode cL_acts 1091 = .ok (.irem, 1) := by decide +kernel
theorem dL_acts_1092 : decode cL_acts 1092 = .ok (.iadd, 1) := by decide +kernel
theorem dL_acts_1093 : decode cL_acts 1093 = .ok (.istore 29, 2) := by decide +kernel
theorem dL_acts_1095 : decode cL_acts 1095 = .ok (.aload_n 0, 1) := by decide +kernel
theorem dL_acts_1096 : decode cL_acts 1096 = .ok (.bipush 10, 2) := by decide +kernel
theorem dL_acts_1098 : decode cL_acts 1098 = .ok (.iload 28, 2) := by decide +kernel
theorem dL_acts_1100 : decode cL_acts 1100 = .ok (.iadd, 1) := by decide +kernel
theorem dL_acts_1101 : decode cL_acts 1101 = .ok (.invokevirtual 18, 3) := by decide +kernel
theorem dL_acts_1104 : decode cL_acts 1104 = .ok (.istore 30, 2) := by decide +kernel
theorem dL_acts_1106 : decode cL_acts 1106 = .ok (.iload_n 1, 1) := by decide +kernel
theorem dL_acts_1107 : decode cL_acts 1107 = .ok (.bipush 13, 2) := by decide +kernel
theorem dL_acts_1109 : decode cL_acts 1109 = .ok (.ishr, 1) := by decide +kernel
theorem dL_acts_1110 : decode cL_acts 1110 = .ok (.iconst 5, 1) := by decide +kernel
theorem dL_acts_1111 : decode cL_acts 1111 = .ok (.irem, 1) := by decide +kernel
theorem dL_acts_1112 : decode cL_acts 1112 = .ok (.istore 31, 2) := by decide +kernel
theorem dL_acts_1114 : decode cL_acts 1114 = .ok (.aload_n 0, 1) := by decide +kernel
theorem dL_acts_1115 : decode cL_acts 1115 = .ok (.iload 28, 2) := by decide +kernel
theorem dL_acts_1117 : decode cL_acts 1117 = .ok (.iload 29, 2) := by decide +kernel
theorem dL_acts_1119 : decode cL_acts 1119 = .ok (.invokevirtual 66, 3) := by decide +kernel
theorem dL_acts_1122 : decode cL_acts 1122 = .ok (.iload 30, 2) := by decide +kernel
theorem dL_acts_1124 : decode cL_acts 1124 = .ok (.if_icmp .ne 72, 3) := by decide +kernel
theorem dL_acts_1127 : decode cL_acts 1127 = .ok (.aload_n 0, 1) := by decide +kernel
theorem dL_acts_1128 : decode cL_acts 1128 = .ok (.bipush 10, 2) := by decide +kernel
theorem dL_acts_1130 : decode cL_acts 1130 = .ok (.iload 28, 2) := by decide +kernel
theorem dL_acts_1132 : decode cL_acts 1132 = .ok (.iadd, 1) := by decide +kernel
theorem dL_acts_1133 : decode cL_acts 1133 = .ok (.invokevirtual 18, 3) := by decide +kernel
theorem dL_acts_1136 : decode cL_acts 1136 = .ok (.iload 29, 2) := by decide +kernel
theorem dL_acts_1138 : decode cL_acts 1138 = .ok (.if_icmp .ne 58, 3) := by decide +kernel
theorem dL_acts_1141 : decode cL_acts 1141 = .ok (.aload_n 0, 1) := by decide +kernel
theorem dL_acts_1142 : decode cL_acts 1142 = .ok (.iload 31, 2) := by decide +kernel
theorem dL_acts_1144 : decode cL_acts 1144 = .ok (.iload 4, 2) := by decide +kernel
theorem dL_acts_1146 : decode cL_acts 1146 = .ok (.iconst 1, 1) := by decide +kernel
theorem dL_acts_1147 : decode cL_acts 1147 = .ok (.iload_n 1, 1) := by decide +kernel
theorem dL_acts_1148 : decode cL_acts 1148 = .ok (.bipush 16, 2) := by decide +kernel
theorem dL_acts_1150 : decode cL_acts 1150 = .ok (.ishr, 1) := by decide +kernel
theorem dL_acts_1151 : decode cL_acts 1151 = .ok (.iconst 3, 1) := by decide +kernel
theorem dL_acts_1152 : decode cL_acts 1152 = .ok (.irem, 1) := by decide +kernel
theorem dL_acts_1153 : decode cL_acts 1153 = .ok (.iadd, 1) := by decide +kernel
theorem dL_acts_1154 : decode cL_acts 1154 = .ok (.invokevirtual 69, 3) := by decide +kernel
theorem dL_acts_1157 : decode cL_acts 1157 = .ok (.iconst 1, 1) := by decide +kernel
theorem dL_acts_1158 : decode cL_acts 1158 = .ok (.if_icmp .lt 38, 3) := by decide +kernel
theorem dL_acts_1161 : decode cL_acts 1161 = .ok (.aload_n 0, 1) := by decide +kernel
theorem dL_acts_1162 : decode cL_acts 1162 = .ok (.iconst 0, 1) := by decide +kernel
theorem dL_acts_1163 : decode cL_acts 1163 = .ok (.invokevirtual 18, 3) := by decide +kernel
theorem dL_acts_1166 : decode cL_acts 1166 = .ok (.iconst 5, 1) := by decide +kernel
theorem dL_acts_1167 : decode cL_acts 1167 = .ok (.irem, 1) := by decide +kernel
theorem dL_acts_1168 : decode cL_acts 1168 = .ok (.iload 31, 2) := by decide +kernel
theorem dL_acts_1170 : decode cL_acts 1170 = .ok (.if_icmp .ne 22, 3) := by decide +kernel
theorem dL_acts_1173 : decode cL_acts 1173 = .ok (.aload_n 0, 1) := by decide +kernel
theorem dL_acts_1174 : decode cL_acts 1174 = .ok (.iload 4, 2) := by decide +kernel
theorem dL_acts_1176 : decode cL_acts 1176 = .ok (.bipush 6, 2) := by decide +kernel
theorem dL_acts_1178 : decode cL_acts 1178 = .ok (.invokevirtual 28, 3) := by decide +kernel
theorem dL_acts_1181 : decode cL_acts 1181 = .ok (.iconst 1, 1) := by decide +kernel
theorem dL_acts_1182 : decode cL_acts 1182 = .ok (.iload_n 1, 1) := by decide +kernel
theorem dL_acts_1183 : decode cL_acts 1183 = .ok (.bipush 16, 2) := by decide +kernel
theorem dL_acts_1185 : decode cL_acts 1185 = .ok (.ishr, 1) := by decide +kernel
theorem dL_acts_1186 : decode cL_acts 1186 = .ok (.iconst 3, 1) := by decide +kernel
theorem dL_acts_1187 : decode cL_acts 1187 = .ok (.irem, 1) := by decide +kernel
theorem dL_acts_1188 : decode cL_acts 1188 = .ok (.iadd, 1) := by decide +kernel
theorem dL_acts_1189 : decode cL_acts 1189 = .ok (.if_icmp .ne 7, 3) := by decide +kernel
theorem dL_acts_1192 : decode cL_acts 1192 = .ok (.iconst 1, 1) := by decide +kernel
theorem dL_acts_1193 : decode cL_acts 1193 = .ok (.goto 4, 3) := by decide +kernel
theorem dL_acts_1196 : decode cL_acts 1196 = .ok (.iconst 0, 1) := by decide +kernel
theorem dL_acts_1197 : decode cL_acts 1197 = .ok (.ireturn, 1) := by decide +kernel
theorem dL_law_0 : decode cL_law 0 = .ok (.new 10, 3) := by decide +kernel
theorem dL_law_3 : decode cL_law 3 = .ok (.dup, 1) := by decide +kernel
theorem dL_law_4 : decode cL_law 4 = .ok (.invokespecial 72, 3) := by decide +kernel
theorem dL_law_7 : decode cL_law 7 = .ok (.astore_n 1, 1) := by decide +kernel
theorem dL_law_8 : decode cL_law 8 = .ok (.aload_n 1, 1) := by decide +kernel
theorem dL_law_9 : decode cL_law 9 = .ok (.invokevirtual 73, 3) := by decide +kernel
theorem dL_law_12 : decode cL_law 12 = .ok (.bipush (-5), 2) := by decide +kernel
theorem dL_law_14 : decode cL_law 14 = .ok (.if_icmp .ne 68, 3) := by decide +kernel
theorem dL_law_17 : decode cL_law 17 = .ok (.aload_n 1, 1) := by decide +kernel
theorem dL_law_18 : decode cL_law 18 = .ok (.iconst 1, 1) := by decide +kernel
theorem dL_law_19 : decode cL_law 19 = .ok (.invokevirtual 76, 3) := by decide +kernel
theorem dL_law_22 : decode cL_law 22 = .ok (.bipush (-5), 2) := by decide +kernel
theorem dL_law_24 : decode cL_law 24 = .ok (.if_icmp .ne 58, 3) := by decide +kernel
theorem dL_law_27 : decode cL_law 27 = .ok (.aload_n 1, 1) := by decide +kernel
theorem dL_law_28 : decode cL_law 28 = .ok (.iconst 0, 1) := by decide +kernel
theorem dL_law_29 : decode cL_law 29 = .ok (.invokevirtual 38, 3) := by decide +kernel
theorem dL_law_32 : decode cL_law 32 = .ok (.bipush (-6), 2) := by decide +kernel
theorem dL_law_34 : decode cL_law 34 = .ok (.if_icmp .ne 48, 3) := by decide +kernel
theorem dL_law_37 : decode cL_law 37 = .ok (.aload_n 1, 1) := by decide +kernel
theorem dL_law_38 : decode cL_law 38 = .ok (.invokevirtual 79, 3) := by decide +kernel
theorem dL_law_41 : decode cL_law 41 = .ok (.bipush (-6), 2) := by decide +kernel
theorem dL_law_43 : decode cL_law 43 = .ok (.if_icmp .ne 39, 3) := by decide +kernel
theorem dL_law_46 : decode cL_law 46 = .ok (.aload_n 1, 1) := by decide +kernel
theorem dL_law_47 : decode cL_law 47 = .ok (.invokevirtual 63, 3) := by decide +kernel
theorem dL_law_50 : decode cL_law 50 = .ok (.bipush (-5), 2) := by decide +kernel
theorem dL_law_52 : decode cL_law 52 = .ok (.if_icmp .ne 30, 3) := by decide +kernel
theorem dL_law_55 : decode cL_law 55 = .ok (.aload_n 1, 1) := by decide +kernel
theorem dL_law_56 : decode cL_law 56 = .ok (.invokevirtual 41, 3) := by decide +kernel
theorem dL_law_59 : decode cL_law 59 = .ok (.ifCond .ne 23, 3) := by decide +kernel
theorem dL_law_62 : decode cL_law 62 = .ok (.aload_n 1, 1) := by decide +kernel
theorem dL_law_63 : decode cL_law 63 = .ok (.invokevirtual 41, 3) := by decide +kernel
theorem dL_law_66 : decode cL_law 66 = .ok (.iconst 1, 1) := by decide +kernel
theorem dL_law_67 : decode cL_law 67 = .ok (.if_icmp .ne 15, 3) := by decide +kernel
theorem dL_law_70 : decode cL_law 70 = .ok (.aload_n 1, 1) := by decide +kernel
theorem dL_law_71 : decode cL_law 71 = .ok (.iconst 1, 1) := by decide +kernel
theorem dL_law_72 : decode cL_law 72 = .ok (.invokevirtual 35, 3) := by decide +kernel
theorem dL_law_75 : decode cL_law 75 = .ok (.ifCond .ne 7, 3) := by decide +kernel
theorem dL_law_78 : decode cL_law 78 = .ok (.iconst 1, 1) := by decide +kernel
theorem dL_law_79 : decode cL_law 79 = .ok (.goto 4, 3) := by decide +kernel
theorem dL_law_82 : decode cL_law 82 = .ok (.iconst 0, 1) := by decide +kernel
theorem dL_law_83 : decode cL_law 83 = .ok (.istore_n 2, 1) := by decide +kernel
theorem dL_law_84 : decode cL_law 84 = .ok (.iconst 0, 1) := by decide +kernel
theorem dL_law_85 : decode cL_law 85 = .ok (.istore_n 3, 1) := by decide +kernel
theorem dL_law_86 : decode cL_law 86 = .ok (.iload_n 3, 1) := by decide +kernel
theorem dL_law_87 : decode cL_law 87 = .ok (.bipush 50, 2) := by decide +kernel
theorem dL_law_89 : decode cL_law 89 = .ok (.if_icmp .ge 45, 3) := by decide +kernel
theorem dL_law_92 : decode cL_law 92 = .ok (.iload_n 2, 1) := by decide +kernel
theorem dL_law_93 : decode cL_law 93 = .ok (.ifCond .eq 41, 3) := by decide +kernel
theorem dL_law_96 : decode cL_law 96 = .ok (.aload_n 1, 1) := by decide +kernel
theorem dL_law_97 : decode cL_law 97 = .ok (.aload_n 0, 1) := by decide +kernel
theorem dL_law_98 : decode cL_law 98 = .ok (.iload_n 3, 1) := by decide +kernel
theorem dL_law_99 : decode cL_law 99 = .ok (.invokestatic 82, 3) := by decide +kernel
theorem dL_law_102 : decode cL_law 102 = .ok (.invokestatic 86, 3) := by decide +kernel
theorem dL_law_105 : decode cL_law 105 = .ok (.ifCond .eq 21, 3) := by decide +kernel
theorem dL_law_108 : decode cL_law 108 = .ok (.iload_n 3, 1) := by decide +kernel
theorem dL_law_109 : decode cL_law 109 = .ok (.bipush 12, 2) := by decide +kernel
theorem dL_law_111 : decode cL_law 111 = .ok (.irem, 1) := by decide +kernel
theorem dL_law_112 : decode cL_law 112 = .ok (.ifCond .gt 10, 3) := by decide +kernel
theorem dL_law_115 : decode cL_law 115 = .ok (.aload_n 1, 1) := by decide +kernel
theorem dL_law_116 : decode cL_law 116 = .ok (.invokestatic 90, 3) := by decide +kernel
theorem dL_law_119 : decode cL_law 119 = .ok (.ifCond .eq 7, 3) := by decide +kernel
theorem dL_law_122 : decode cL_law 122 = .ok (.iconst 1, 1) := by decide +kernel
theorem dL_law_123 : decode cL_law 123 = .ok (.goto 4, 3) := by decide +kernel
theorem dL_law_126 : decode cL_law 126 = .ok (.iconst 0, 1) := by decide +kernel
theorem dL_law_127 : decode cL_law 127 = .ok (.istore_n 2, 1) := by decide +kernel
theorem dL_law_128 : decode cL_law 128 = .ok (.iinc 3 1, 3) := by decide +kernel
theorem dL_law_131 : decode cL_law 131 = .ok (.goto (-45), 3) := by decide +kernel
theorem dL_law_134 : decode cL_law 134 = .ok (.aload_n 1, 1) := by decide +kernel
theorem dL_law_135 : decode cL_law 135 = .ok (.iconst 1, 1) := by decide +kernel
theorem dL_law_136 : decode cL_law 136 = .ok (.invokevirtual 18, 3) := by decide +kernel
theorem dL_law_139 : decode cL_law 139 = .ok (.istore_n 3, 1) := by decide +kernel
theorem dL_law_140 : decode cL_law 140 = .ok (.aload_n 1, 1) := by decide +kernel
theorem dL_law_141 : decode cL_law 141 = .ok (.bipush 7, 2) := by decide +kernel
theorem dL_law_143 : decode cL_law 143 = .ok (.invokevirtual 18, 3) := by decide +kernel
theorem dL_law_146 : decode cL_law 146 = .ok (.istore 4, 2) := by decide +kernel
theorem dL_law_148 : decode cL_law 148 = .ok (.iload_n 2, 1) := by decide +kernel
theorem dL_law_149 : decode cL_law 149 = .ok (.ifCond .eq 73, 3) := by decide +kernel
theorem dL_law_152 : decode cL_law 152 = .ok (.aload_n 1, 1) := by decide +kernel
theorem dL_law_153 : decode cL_law 153 = .ok (.invokestatic 90, 3) := by decide +kernel
theorem dL_law_156 : decode cL_law 156 = .ok (.ifCond .eq 66, 3) := by decide +kernel
theorem dL_law_159 : decode cL_law 159 = .ok (.aload_n 1, 1) := by decide +kernel
theorem dL_law_160 : decode cL_law 160 = .ok (.invokestatic 94, 3) := by decide +kernel
theorem dL_law_163 : decode cL_law 163 = .ok (.ifCond .eq 59, 3) := by decide +kernel
theorem dL_law_166 : decode cL_law 166 = .ok (.aload_n 1, 1) := by decide +kernel
theorem dL_law_167 : decode cL_law 167 = .ok (.iconst 1, 1) := by decide +kernel
theorem dL_law_168 : decode cL_law 168 = .ok (.invokevirtual 97, 3) := by decide +kernel
theorem dL_law_171 : decode cL_law 171 = .ok (.iload_n 3, 1) := by decide +kernel
theorem dL_law_172 : decode cL_law 172 = .ok (.if_icmp .ne 50, 3) := by decide +kernel
theorem dL_law_175 : decode cL_law 175 = .ok (.aload_n 1, 1) := by decide +kernel
theorem dL_law_176 : decode cL_law 176 = .ok (.iconst 0, 1) := by decide +kernel
theorem dL_law_177 : decode cL_law 177 = .ok (.bipush 30, 2) := by decide +kernel
theorem dL_law_179 : decode cL_law 179 = .ok (.invokevirtual 45, 3) := by decide +kernel
theorem dL_law_182 : decode cL_law 182 = .ok (.bipush 30, 2) := by decide +kernel
theorem dL_law_184 : decode cL_law 184 = .ok (.if_icmp .ne 38, 3) := by decide +kernel
theorem dL_law_187 : decode cL_law 187 = .ok (.aload_n 1, 1) := by decide +kernel
theorem dL_law_188 : decode cL_law 188 = .ok (.iconst 2, 1) := by decide +kernel
theorem dL_law_189 : decode cL_law 189 = .ok (.bipush 9, 2) := by decide +kernel
theorem dL_law_191 : decode cL_law 191 = .ok (.invokevirtual 66, 3) := by decide +kernel
theorem dL_law_194 : decode cL_law 194 = .ok (.iconst 1, 1) := by decide +kernel
theorem dL_law_195 : decode cL_law 195 = .ok (.if_icmp .lt 27, 3) := by decide +kernel
theorem dL_law_198 : decode cL_law 198 = .ok (.aload_n 1, 1) := by decide +kernel
theorem dL_law_199 : decode cL_law 199 = .ok (.iconst 1, 1) := by decide +kernel
theorem dL_law_200 : decode cL_law 200 = .ok (.invokevirtual 76, 3) := by decide +kernel
theorem dL_law_203 : decode cL_law 203 = .ok (.iload_n 3, 1) := by decide +kernel
theorem dL_law_204 : decode cL_law 204 = .ok (.if_icmp .ne 18, 3) := by decide +kernel
theorem dL_law_207 : decode cL_law 207 = .ok (.aload_n 1, 1) := by decide +kernel
theorem dL_law_208 : decode cL_law 208 = .ok (.bipush 7, 2) := by decide +kernel
theorem dL_law_210 : decode cL_law 210 = .ok (.invokevirtual 18, 3) := by decide +kernel
theorem dL_law_213 : decode cL_law 213 = .ok (.iload 4, 2) := by decide +kernel
theorem dL_law_215 : decode cL_law 215 = .ok (.if_icmp .ne 7, 3) := by decide +kernel
theorem dL_law_218 : decode cL_law 218 = .ok (.iconst 1, 1) := by decide +kernel
theorem dL_law_219 : decode cL_law 219 = .ok (.goto 4, 3) := by decide +kernel
theorem dL_law_222 : decode cL_law 222 = .ok (.iconst 0, 1) := by decide +kernel
theorem dL_law_223 : decode cL_law 223 = .ok (.istore_n 2, 1) := by decide +kernel
theorem dL_law_224 : decode cL_law 224 = .ok (.iload_n 2, 1) := by decide +kernel
theorem dL_law_225 : decode cL_law 225 = .ok (.ifCond .eq 38, 3) := by decide +kernel
theorem dL_law_228 : decode cL_law 228 = .ok (.aload_n 1, 1) := by decide +kernel
theorem dL_law_229 : decode cL_law 229 = .ok (.invokevirtual 73, 3) := by decide +kernel
theorem dL_law_232 : decode cL_law 232 = .ok (.ifCond .lt 31, 3) := by decide +kernel
theorem dL_law_235 : decode cL_law 235 = .ok (.aload_n 1, 1) := by decide +kernel
theorem dL_law_236 : decode cL_law 236 = .ok (.iconst 0, 1) := by decide +kernel
theorem dL_law_237 : decode cL_law 237 = .ok (.iconst 0, 1) := by decide +kernel
theorem dL_law_238 : decode cL_law 238 = .ok (.invokevirtual 9, 3) := by decide +kernel
theorem dL_law_241 : decode cL_law 241 = .ok (.bipush 30, 2) := by decide +kernel
theorem dL_law_243 : decode cL_law 243 = .ok (.if_icmp .ne 20, 3) := by decide +kernel
theorem dL_law_246 : decode cL_law 246 = .ok (.aload_n 1, 1) := by decide +kernel
theorem dL_law_247 : decode cL_law 247 = .ok (.bipush 8, 2) := by decide +kernel
theorem dL_law_249 : decode cL_law 249 = .ok (.invokevirtual 18, 3) := by decide +kernel
theorem dL_law_252 : decode cL_law 252 = .ok (.invokestatic 100, 3) := by decide +kernel
theorem dL_law_255 : decode cL_law 255 = .ok (.iload_n 3, 1) := by decide +kernel
theorem dL_law_256 : decode cL_law 256 = .ok (.if_icmp .gt 7, 3) := by decide +kernel
theorem dL_law_259 : decode cL_law 259 = .ok (.iconst 1, 1) := by decide +kernel
theorem dL_law_260 : decode cL_law 260 = .ok (.goto 4, 3) := by decide +kernel
theorem dL_law_263 : decode cL_law 263 = .ok (.iconst 0, 1) := by decide +kernel
theorem dL_law_264 : decode cL_law 264 = .ok (.ireturn, 1) := by decide +kernel
