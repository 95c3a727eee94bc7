theorem d_L_law_718 : decode b_L_law 718 = .ok (.aload_n 0, 1) := by decide +kernel
theorem d_L_law_719 : decode b_L_law 719 = .ok (.iload 4, 2) := by decide +kernel
theorem d_L_law_721 : decode b_L_law 721 = .ok (.iconst 3, 1) := by decide +kernel
theorem d_L_law_722 : decode b_L_law 722 = .ok (.iadd, 1) := by decide +kernel
theorem d_L_law_723 : decode b_L_law 723 = .ok (.iaload, 1) := by decide +kernel
theorem d_L_law_724 : decode b_L_law 724 = .ok (.aload_n 0, 1) := by decide +kernel
theorem d_L_law_725 : decode b_L_law 725 = .ok (.iload 4, 2) := by decide +kernel
theorem d_L_law_727 : decode b_L_law 727 = .ok (.iconst 4, 1) := by decide +kernel
theorem d_L_law_728 : decode b_L_law 728 = .ok (.iadd, 1) := by decide +kernel
theorem d_L_law_729 : decode b_L_law 729 = .ok (.iaload, 1) := by decide +kernel
theorem d_L_law_730 : decode b_L_law 730 = .ok (.invokevirtual 115, 3) := by decide +kernel
theorem d_L_law_733 : decode b_L_law 733 = .ok (.istore 6, 2) := by decide +kernel
theorem d_L_law_735 : decode b_L_law 735 = .ok (.aload_n 2, 1) := by decide +kernel
theorem d_L_law_736 : decode b_L_law 736 = .ok (.invokevirtual 88, 3) := by decide +kernel
theorem d_L_law_739 : decode b_L_law 739 = .ok (.iload 5, 2) := by decide +kernel
theorem d_L_law_741 : decode b_L_law 741 = .ok (.if_icmp .eq 5, 3) := by decide +kernel
theorem d_L_law_744 : decode b_L_law 744 = .ok (.iconst 0, 1) := by decide +kernel
theorem d_L_law_745 : decode b_L_law 745 = .ok (.ireturn, 1) := by decide +kernel
theorem d_L_law_746 : decode b_L_law 746 = .ok (.iload 5, 2) := by decide +kernel
theorem d_L_law_748 : decode b_L_law 748 = .ok (.ifCond .ne 15, 3) := by decide +kernel
theorem d_L_law_751 : decode b_L_law 751 = .ok (.aload_n 3, 1) := by decide +kernel
theorem d_L_law_752 : decode b_L_law 752 = .ok (.iconst 0, 1) := by decide +kernel
theorem d_L_law_753 : decode b_L_law 753 = .ok (.laload, 1) := by decide +kernel
theorem d_L_law_754 : decode b_L_law 754 = .ok (.iload 6, 2) := by decide +kernel
theorem d_L_law_756 : decode b_L_law 756 = .ok (.i2l, 1) := by decide +kernel
theorem d_L_law_757 : decode b_L_law 757 = .ok (.lcmp, 1) := by decide +kernel
theorem d_L_law_758 : decode b_L_law 758 = .ok (.ifCond .eq 5, 3) := by decide +kernel
theorem d_L_law_761 : decode b_L_law 761 = .ok (.iconst 0, 1) := by decide +kernel
theorem d_L_law_762 : decode b_L_law 762 = .ok (.ireturn, 1) := by decide +kernel
theorem d_L_law_763 : decode b_L_law 763 = .ok (.goto 597, 3) := by decide +kernel
theorem d_L_law_766 : decode b_L_law 766 = .ok (.aload_n 1, 1) := by decide +kernel
theorem d_L_law_767 : decode b_L_law 767 = .ok (.aload_n 0, 1) := by decide +kernel
theorem d_L_law_768 : decode b_L_law 768 = .ok (.iload 4, 2) := by decide +kernel
theorem d_L_law_770 : decode b_L_law 770 = .ok (.iconst 1, 1) := by decide +kernel
theorem d_L_law_771 : decode b_L_law 771 = .ok (.iadd, 1) := by decide +kernel
theorem d_L_law_772 : decode b_L_law 772 = .ok (.iaload, 1) := by decide +kernel
theorem d_L_law_773 : decode b_L_law 773 = .ok (.aload_n 0, 1) := by decide +kernel
theorem d_L_law_774 : decode b_L_law 774 = .ok (.iload 4, 2) := by decide +kernel
theorem d_L_law_776 : decode b_L_law 776 = .ok (.iconst 2, 1) := by decide +kernel
theorem d_L_law_777 : decode b_L_law 777 = .ok (.iadd, 1) := by decide +kernel
theorem d_L_law_778 : decode b_L_law 778 = .ok (.iaload, 1) := by decide +kernel
theorem d_L_law_779 : decode b_L_law 779 = .ok (.aload_n 0, 1) := by decide +kernel
theorem d_L_law_780 : decode b_L_law 780 = .ok (.iload 4, 2) := by decide +kernel
theorem d_L_law_782 : decode b_L_law 782 = .ok (.iconst 3, 1) := by decide +kernel
theorem d_L_law_783 : decode b_L_law 783 = .ok (.iadd, 1) := by decide +kernel
theorem d_L_law_784 : decode b_L_law 784 = .ok (.iaload, 1) := by decide +kernel
theorem d_L_law_785 : decode b_L_law 785 = .ok (.invokestatic 116, 3) := by decide +kernel
theorem d_L_law_788 : decode b_L_law 788 = .ok (.istore 5, 2) := by decide +kernel
theorem d_L_law_790 : decode b_L_law 790 = .ok (.aload_n 2, 1) := by decide +kernel
theorem d_L_law_791 : decode b_L_law 791 = .ok (.aload_n 0, 1) := by decide +kernel
theorem d_L_law_792 : decode b_L_law 792 = .ok (.iload 4, 2) := by decide +kernel
theorem d_L_law_794 : decode b_L_law 794 = .ok (.iconst 1, 1) := by decide +kernel
theorem d_L_law_795 : decode b_L_law 795 = .ok (.iadd, 1) := by decide +kernel
theorem d_L_law_796 : decode b_L_law 796 = .ok (.iaload, 1) := by decide +kernel
theorem d_L_law_797 : decode b_L_law 797 = .ok (.aload_n 0, 1) := by decide +kernel
theorem d_L_law_798 : decode b_L_law 798 = .ok (.iload 4, 2) := by decide +kernel
theorem d_L_law_800 : decode b_L_law 800 = .ok (.iconst 2, 1) := by decide +kernel
theorem d_L_law_801 : decode b_L_law 801 = .ok (.iadd, 1) := by decide +kernel
theorem d_L_law_802 : decode b_L_law 802 = .ok (.iaload, 1) := by decide +kernel
theorem d_L_law_803 : decode b_L_law 803 = .ok (.aload_n 0, 1) := by decide +kernel
theorem d_L_law_804 : decode b_L_law 804 = .ok (.iload 4, 2) := by decide +kernel
theorem d_L_law_806 : decode b_L_law 806 = .ok (.iconst 3, 1) := by decide +kernel
theorem d_L_law_807 : decode b_L_law 807 = .ok (.iadd, 1) := by decide +kernel
theorem d_L_law_808 : decode b_L_law 808 = .ok (.iaload, 1) := by decide +kernel
theorem d_L_law_809 : decode b_L_law 809 = .ok (.invokevirtual 118, 3) := by decide +kernel
theorem d_L_law_812 : decode b_L_law 812 = .ok (.aload_n 2, 1) := by decide +kernel
theorem d_L_law_813 : decode b_L_law 813 = .ok (.invokevirtual 88, 3) := by decide +kernel
theorem d_L_law_816 : decode b_L_law 816 = .ok (.iload 5, 2) := by decide +kernel
theorem d_L_law_818 : decode b_L_law 818 = .ok (.if_icmp .eq 5, 3) := by decide +kernel
theorem d_L_law_821 : decode b_L_law 821 = .ok (.iconst 0, 1) := by decide +kernel
theorem d_L_law_822 : decode b_L_law 822 = .ok (.ireturn, 1) := by decide +kernel
theorem d_L_law_823 : decode b_L_law 823 = .ok (.goto 537, 3) := by decide +kernel
theorem d_L_law_826 : decode b_L_law 826 = .ok (.aload_n 1, 1) := by decide +kernel
theorem d_L_law_827 : decode b_L_law 827 = .ok (.invokevirtual 119, 3) := by decide +kernel
theorem d_L_law_830 : decode b_L_law 830 = .ok (.aload_n 2, 1) := by decide +kernel
theorem d_L_law_831 : decode b_L_law 831 = .ok (.invokevirtual 122, 3) := by decide +kernel
theorem d_L_law_834 : decode b_L_law 834 = .ok (.if_icmp .eq 526, 3) := by decide +kernel
theorem d_L_law_837 : decode b_L_law 837 = .ok (.iconst 0, 1) := by decide +kernel
theorem d_L_law_838 : decode b_L_law 838 = .ok (.ireturn, 1) := by decide +kernel
theorem d_L_law_839 : decode b_L_law 839 = .ok (.aload_n 1, 1) := by decide +kernel
theorem d_L_law_840 : decode b_L_law 840 = .ok (.aload_n 0, 1) := by decide +kernel
theorem d_L_law_841 : decode b_L_law 841 = .ok (.iload 4, 2) := by decide +kernel
theorem d_L_law_843 : decode b_L_law 843 = .ok (.iconst 1, 1) := by decide +kernel
theorem d_L_law_844 : decode b_L_law 844 = .ok (.iadd, 1) := by decide +kernel
theorem d_L_law_845 : decode b_L_law 845 = .ok (.iaload, 1) := by decide +kernel
theorem d_L_law_846 : decode b_L_law 846 = .ok (.aload_n 0, 1) := by decide +kernel
theorem d_L_law_847 : decode b_L_law 847 = .ok (.iload 4, 2) := by decide +kernel
theorem d_L_law_849 : decode b_L_law 849 = .ok (.iconst 2, 1) := by decide +kernel
theorem d_L_law_850 : decode b_L_law 850 = .ok (.iadd, 1) := by decide +kernel
theorem d_L_law_851 : decode b_L_law 851 = .ok (.iaload, 1) := by decide +kernel
theorem d_L_law_852 : decode b_L_law 852 = .ok (.aload_n 3, 1) := by decide +kernel
theorem d_L_law_853 : decode b_L_law 853 = .ok (.invokestatic 123, 3) := by decide +kernel
theorem d_L_law_856 : decode b_L_law 856 = .ok (.istore 5, 2) := by decide +kernel
theorem d_L_law_858 : decode b_L_law 858 = .ok (.aload_n 2, 1) := by decide +kernel
theorem d_L_law_859 : decode b_L_law 859 = .ok (.aload_n 0, 1) := by decide +kernel
theorem d_L_law_860 : decode b_L_law 860 = .ok (.iload 4, 2) := by decide +kernel
theorem d_L_law_862 : decode b_L_law 862 = .ok (.iconst 1, 1) := by decide +kernel
theorem d_L_law_863 : decode b_L_law 863 = .ok (.iadd, 1) := by decide +kernel
theorem d_L_law_864 : decode b_L_law 864 = .ok (.iaload, 1) := by decide +kernel
theorem d_L_law_865 : decode b_L_law 865 = .ok (.aload_n 0, 1) := by decide +kernel
theorem d_L_law_866 : decode b_L_law 866 = .ok (.iload 4, 2) := by decide +kernel
theorem d_L_law_868 : decode b_L_law 868 = .ok (.iconst 2, 1) := by decide +kernel
theorem d_L_law_869 : decode b_L_law 869 = .ok (.iadd, 1) := by decide +kernel
theorem d_L_law_870 : decode b_L_law 870 = .ok (.iaload, 1) := by decide +kernel
theorem d_L_law_871 : decode b_L_law 871 = .ok (.invokevirtual 126, 3) := by decide +kernel
theorem d_L_law_874 : decode b_L_law 874 = .ok (.istore 6, 2) := by decide +kernel
theorem d_L_law_876 : decode b_L_law 876 = .ok (.aload_n 2, 1) := by decide +kernel
theorem d_L_law_877 : decode b_L_law 877 = .ok (.invokevirtual 88, 3) := by decide +kernel
theorem d_L_law_880 : decode b_L_law 880 = .ok (.iload 5, 2) := by decide +kernel
theorem d_L_law_882 : decode b_L_law 882 = .ok (.if_icmp .eq 5, 3) := by decide +kernel
theorem d_L_law_885 : decode b_L_law 885 = .ok (.iconst 0, 1) := by decide +kernel
theorem d_L_law_886 : decode b_L_law 886 = .ok (.ireturn, 1) := by decide +kernel
theorem d_L_law_887 : decode b_L_law 887 = .ok (.iload 5, 2) := by decide +kernel
theorem d_L_law_889 : decode b_L_law 889 = .ok (.ifCond .ne 15, 3) := by decide +kernel
theorem d_L_law_892 : decode b_L_law 892 = .ok (.aload_n 3, 1) := by decide +kernel
theorem d_L_law_893 : decode b_L_law 893 = .ok (.iconst 0, 1) := by decide +kernel
theorem d_L_law_894 : decode b_L_law 894 = .ok (.laload, 1) := by decide +kernel
theorem d_L_law_895 : decode b_L_law 895 = .ok (.iload 6, 2) := by decide +kernel
theorem d_L_law_897 : decode b_L_law 897 = .ok (.i2l, 1) := by decide +kernel
theorem d_L_law_898 : decode b_L_law 898 = .ok (.lcmp, 1) := by decide +kernel
theorem d_L_law_899 : decode b_L_law 899 = .ok (.ifCond .eq 5, 3) := by decide +kernel
theorem d_L_law_902 : decode b_L_law 902 = .ok (.iconst 0, 1) := by decide +kernel
theorem d_L_law_903 : decode b_L_law 903 = .ok (.ireturn, 1) := by decide +kernel
theorem d_L_law_904 : decode b_L_law 904 = .ok (.goto 456, 3) := by decide +kernel
theorem d_L_law_907 : decode b_L_law 907 = .ok (.aload_n 1, 1) := by decide +kernel
theorem d_L_law_908 : decode b_L_law 908 = .ok (.aload_n 0, 1) := by decide +kernel
theorem d_L_law_909 : decode b_L_law 909 = .ok (.iload 4, 2) := by decide +kernel
theorem d_L_law_911 : decode b_L_law 911 = .ok (.iconst 1, 1) := by decide +kernel
theorem d_L_law_912 : decode b_L_law 912 = .ok (.iadd, 1) := by decide +kernel
theorem d_L_law_913 : decode b_L_law 913 = .ok (.iaload, 1) := by decide +kernel
theorem d_L_law_914 : decode b_L_law 914 = .ok (.aload_n 0, 1) := by decide +kernel
theorem d_L_law_915 : decode b_L_law 915 = .ok (.iload 4, 2) := by decide +kernel
theorem d_L_law_917 : decode b_L_law 917 = .ok (.iconst 2, 1) := by decide +kernel
theorem d_L_law_918 : decode b_L_law 918 = .ok (.iadd, 1) := by decide +kernel
theorem d_L_law_919 : decode b_L_law 919 = .ok (.iaload, 1) := by decide +kernel
theorem d_L_law_920 : decode b_L_law 920 = .ok (.aload_n 0, 1) := by decide +kernel
theorem d_L_law_921 : decode b_L_law 921 = .ok (.iload 4, 2) := by decide +kernel
theorem d_L_law_923 : decode b_L_law 923 = .ok (.iconst 3, 1) := by decide +kernel
theorem d_L_law_924 : decode b_L_law 924 = .ok (.iadd, 1) := by decide +kernel
theorem d_L_law_925 : decode b_L_law 925 = .ok (.iaload, 1) := by decide +kernel
theorem d_L_law_926 : decode b_L_law 926 = .ok (.aload_n 3, 1) := by decide +kernel
theorem d_L_law_927 : decode b_L_law 927 = .ok (.invokestatic 127, 3) := by decide +kernel
theorem d_L_law_930 : decode b_L_law 930 = .ok (.istore 5, 2) := by decide +kernel
theorem d_L_law_932 : decode b_L_law 932 = .ok (.aload_n 2, 1) := by decide +kernel
theorem d_L_law_933 : decode b_L_law 933 = .ok (.aload_n 0, 1) := by decide +kernel
theorem d_L_law_934 : decode b_L_law 934 = .ok (.iload 4, 2) := by decide +kernel
theorem d_L_law_936 : decode b_L_law 936 = .ok (.iconst 1, 1) := by decide +kernel
theorem d_L_law_937 : decode b_L_law 937 = .ok (.iadd, 1) := by decide +kernel
theorem d_L_law_938 : decode b_L_law 938 = .ok (.iaload, 1) := by decide +kernel
theorem d_L_law_939 : decode b_L_law 939 = .ok (.aload_n 0, 1) := by decide +kernel
theorem d_L_law_940 : decode b_L_law 940 = .ok (.iload 4, 2) := by decide +kernel
theorem d_L_law_942 : decode b_L_law 942 = .ok (.iconst 2, 1) := by decide +kernel
theorem d_L_law_943 : decode b_L_law 943 = .ok (.iadd, 1) := by decide +kernel
theorem d_L_law_944 : decode b_L_law 944 = .ok (.iaload, 1) := by decide +kernel
theorem d_L_law_945 : decode b_L_law 945 = .ok (.aload_n 0, 1) := by decide +kernel
theorem d_L_law_946 : decode b_L_law 946 = .ok (.iload 4, 2) := by decide +kernel
theorem d_L_law_948 : decode b_L_law 948 = .ok (.iconst 3, 1) := by decide +kernel
theorem d_L_law_949 : decode b_L_law 949 = .ok (.iadd, 1) := by decide +kernel
theorem d_L_law_950 : decode b_L_law 950 = .ok (.iaload, 1) := by decide +kernel
theorem d_L_law_951 : decode b_L_law 951 = .ok (.invokevirtual 130, 3) := by decide +kernel
theorem d_L_law_954 : decode b_L_law 954 = .ok (.istore 6, 2) := by decide +kernel
theorem d_L_law_956 : decode b_L_law 956 = .ok (.aload_n 2, 1) := by decide +kernel
theorem d_L_law_957 : decode b_L_law 957 = .ok (.invokevirtual 88, 3) := by decide +kernel
theorem d_L_law_960 : decode b_L_law 960 = .ok (.iload 5, 2) := by decide +kernel
theorem d_L_law_962 : decode b_L_law 962 = .ok (.if_icmp .eq 5, 3) := by decide +kernel
theorem d_L_law_965 : decode b_L_law 965 = .ok (.iconst 0, 1) := by decide +kernel
theorem d_L_law_966 : decode b_L_law 966 = .ok (.ireturn, 1) := by decide +kernel
theorem d_L_law_967 : decode b_L_law 967 = .ok (.iload 5, 2) := by decide +kernel
theorem d_L_law_969 : decode b_L_law 969 = .ok (.ifCond .ne 15, 3) := by decide +kernel
theorem d_L_law_972 : decode b_L_law 972 = .ok (.aload_n 3, 1) := by decide +kernel
theorem d_L_law_973 : decode b_L_law 973 = .ok (.iconst 0, 1) := by decide +kernel
theorem d_L_law_974 : decode b_L_law 974 = .ok (.laload, 1) := by decide +kernel
theorem d_L_law_975 : decode b_L_law 975 = .ok (.iload 6, 2) := by decide +kernel
theorem d_L_law_977 : decode b_L_law 977 = .ok (.i2l, 1) := by decide +kernel
theorem d_L_law_978 : decode b_L_law 978 = .ok (.lcmp, 1) := by decide +kernel
theorem d_L_law_979 : decode b_L_law 979 = .ok (.ifCond .eq 5, 3) := by decide +kernel
theorem d_L_law_982 : decode b_L_law 982 = .ok (.iconst 0, 1) := by decide +kernel
theorem d_L_law_983 : decode b_L_law 983 = .ok (.ireturn, 1) := by decide +kernel
theorem d_L_law_984 : decode b_L_law 984 = .ok (.goto 376, 3) := by decide +kernel
theorem d_L_law_987 : decode b_L_law 987 = .ok (.aload_n 1, 1) := by decide +kernel
theorem d_L_law_988 : decode b_L_law 988 = .ok (.aload_n 0, 1) := by decide +kernel
theorem d_L_law_989 : decode b_L_law 989 = .ok (.iload 4, 2) := by decide +kernel
theorem d_L_law_991 : decode b_L_law 991 = .ok (.iconst 1, 1) := by decide +kernel
theorem d_L_law_992 : decode b_L_law 992 = .ok (.iadd, 1) := by decide +kernel
theorem d_L_law_993 : decode b_L_law 993 = .ok (.iaload, 1) := by decide +kernel
theorem d_L_law_994 : decode b_L_law 994 = .ok (.aload_n 0, 1) := by decide +kernel
theorem d_L_law_995 : decode b_L_law 995 = .ok (.iload 4, 2) := by decide +kernel
theorem d_L_law_997 : decode b_L_law 997 = .ok (.iconst 2, 1) := by decide +kernel
theorem d_L_law_998 : decode b_L_law 998 = .ok (.iadd, 1) := by decide +kernel
theorem d_L_law_999 : decode b_L_law 999 = .ok (.iaload, 1) := by decide +kernel
theorem d_L_law_1000 : decode b_L_law 1000 = .ok (.aload_n 3, 1) := by decide +kernel
theorem d_L_law_1001 : decode b_L_law 1001 = .ok (.invokestatic 131, 3) := by decide +kernel
theorem d_L_law_1004 : decode b_L_law 1004 = .ok (.istore 5, 2) := by decide +kernel
theorem d_L_law_1006 : decode b_L_law 1006 = .ok (.aload_n 2, 1) := by decide +kernel
theorem d_L_law_1007 : decode b_L_law 1007 = .ok (.aload_n 0, 1) := by decide +kernel
theorem d_L_law_1008 : decode b_L_law 1008 = .ok (.iload 4, 2) := by decide +kernel
theorem d_L_law_1010 : decode b_L_law 1010 = .ok (.iconst 1, 1) := by decide +kernel
theorem d_L_law_1011 : decode b_L_law 1011 = .ok (.iadd, 1) := by decide +kernel
theorem d_L_law_1012 : decode b_L_law 1012 = .ok (.iaload, 1) := by decide +kernel
theorem d_L_law_1013 : decode b_L_law 1013 = .ok (.aload_n 0, 1) := by decide +kernel
theorem d_L_law_1014 : decode b_L_law 1014 = .ok (.iload 4, 2) := by decide +kernel
theorem d_L_law_1016 : decode b_L_law 1016 = .ok (.iconst 2, 1) := by decide +kernel
theorem d_L_law_1017 : decode b_L_law 1017 = .ok (.iadd, 1) := by decide +kernel
theorem d_L_law_1018 : decode b_L_law 1018 = .ok (.iaload, 1) := by decide +kernel
theorem d_L_law_1019 : decode b_L_law 1019 = .ok (.invokevirtual 133, 3) := by decide +kernel
theorem d_L_law_1022 : decode b_L_law 1022 = .ok (.istore 6, 2) := by decide +kernel
theorem d_L_law_1024 : decode b_L_law 1024 = .ok (.aload_n 2, 1) := by decide +kernel
theorem d_L_law_1025 : decode b_L_law 1025 = .ok (.invokevirtual 88, 3) := by decide +kernel
theorem d_L_law_1028 : decode b_L_law 1028 = .ok (.iload 5, 2) := by decide +kernel
theorem d_L_law_1030 : decode b_L_law 1030 = .ok (.if_icmp .eq 5, 3) := by decide +kernel
theorem d_L_law_1033 : decode b_L_law 1033 = .ok (.iconst 0, 1) := by decide +kernel
theorem d_L_law_1034 : decode b_L_law 1034 = .ok (.ireturn, 1) := by decide +kernel
theorem d_L_law_1035 : decode b_L_law 1035 = .ok (.iload 5, 2) := by decide +kernel
theorem d_L_law_1037 : decode b_L_law 1037 = .ok (.ifCond .ne 15, 3) := by decide +kernel
theorem d_L_law_1040 : decode b_L_law 1040 = .ok (.aload_n 3, 1) := by decide +kernel
theorem d_L_law_1041 : decode b_L_law 1041 = .ok (.iconst 0, 1) := by decide +kernel
theorem d_L_law_1042 : decode b_L_law 1042 = .ok (.laload, 1) := by decide +kernel
theorem d_L_law_1043 : decode b_L_law 1043 = .ok (.iload 6, 2) := by decide +kernel
theorem d_L_law_1045 : decode b_L_law 1045 = .ok (.i2l, 1) := by decide +kernel
theorem d_L_law_1046 : decode b_L_law 1046 = .ok (.lcmp, 1) := by decide +kernel
theorem d_L_law_1047 : decode b_L_law 1047 = .ok (.ifCond .eq 5, 3) := by decide +kernel
theorem d_L_law_1050 : decode b_L_law 1050 = .ok (.iconst 0, 1) := by decide +kernel
theorem d_L_law_1051 : decode b_L_law 1051 = .ok (.ireturn, 1) := by decide +kernel
theorem d_L_law_1052 : decode b_L_law 1052 = .ok (.goto 308, 3) := by decide +kernel
theorem d_L_law_1055 : decode b_L_law 1055 = .ok (.aload_n 1, 1) := by decide +kernel
theorem d_L_law_1056 : decode b_L_law 1056 = .ok (.aload_n 0, 1) := by decide +kernel
theorem d_L_law_1057 : decode b_L_law 1057 = .ok (.iload 4, 2) := by decide +kernel
theorem d_L_law_1059 : decode b_L_law 1059 = .ok (.iconst 1, 1) := by decide +kernel
theorem d_L_law_1060 : decode b_L_law 1060 = .ok (.iadd, 1) := by decide +kernel
theorem d_L_law_1061 : decode b_L_law 1061 = .ok (.iaload, 1) := by decide +kernel
theorem d_L_law_1062 : decode b_L_law 1062 = .ok (.aload_n 3, 1) := by decide +kernel
theorem d_L_law_1063 : decode b_L_law 1063 = .ok (.invokestatic 134, 3) := by decide +kernel
theorem d_L_law_1066 : decode b_L_law 1066 = .ok (.istore 5, 2) := by decide +kernel
theorem d_L_law_1068 : decode b_L_law 1068 = .ok (.aload_n 2, 1) := by decide +kernel
theorem d_L_law_1069 : decode b_L_law 1069 = .ok (.aload_n 0, 1) := by decide +kernel
theorem d_L_law_1070 : decode b_L_law 1070 = .ok (.iload 4, 2) := by decide +kernel
theorem d_L_law_1072 : decode b_L_law 1072 = .ok (.iconst 1, 1) := by decide +kernel
theorem d_L_law_1073 : decode b_L_law 1073 = .ok (.iadd, 1) := by decide +kernel
theorem d_L_law_1074 : decode b_L_law 1074 = .ok (.iaload, 1) := by decide +kernel
theorem d_L_law_1075 : decode b_L_law 1075 = .ok (.invokevirtual 137, 3) := by decide +kernel
theorem d_L_law_1078 : decode b_L_law 1078 = .ok (.istore 6, 2) := by decide +kernel
theorem d_L_law_1080 : decode b_L_law 1080 = .ok (.aload_n 2, 1) := by decide +kernel
theorem d_L_law_1081 : decode b_L_law 1081 = .ok (.invokevirtual 88, 3) := by decide +kernel
theorem d_L_law_1084 : decode b_L_law 1084 = .ok (.iload 5, 2) := by decide +kernel
theorem d_L_law_1086 : decode b_L_law 1086 = .ok (.if_icmp .eq 5, 3) := by decide +kernel
theorem d_L_law_1089 : decode b_L_law 1089 = .ok (.iconst 0, 1) := by decide +kernel
theorem d_L_law_1090 : decode b_L_law 1090 = .ok (.ireturn, 1) := by decide +kernel
theorem d_L_law_1091 : decode b_L_law 1091 = .ok (.iload 5, 2) := by decide +kernel
theorem d_L_law_1093 : decode b_L_law 1093 = .ok (.ifCond .ne 15, 3) := by decide +kernel
theorem d_L_law_1096 : decode b_L_law 1096 = .ok (.aload_n 3, 1) := by decide +kernel
theorem d_L_law_1097 : decode b_L_law 1097 = .ok (.iconst 0, 1) := by decide +kernel
theorem d_L_law_1098 : decode b_L_law 1098 = .ok (.laload, 1) := by decide +kernel
theorem d_L_law_1099 : decode b_L_law 1099 = .ok (.iload 6, 2) := by decide +kernel
theorem d_L_law_1101 : decode b_L_law 1101 = .ok (.i2l, 1) := by decide +kernel
theorem d_L_law_1102 : decode b_L_law 1102 = .ok (.lcmp, 1) := by decide +kernel
theorem d_L_law_1103 : decode b_L_law 1103 = .ok (.ifCond .eq 5, 3) := by decide +kernel
theorem d_L_law_1106 : decode b_L_law 1106 = .ok (.iconst 0, 1) := by decide +kernel
theorem d_L_law_1107 : decode b_L_law 1107 = .ok (.ireturn, 1) := by decide +kernel
theorem d_L_law_1108 : decode b_L_law 1108 = .ok (.goto 252, 3) := by decide +kernel
theorem d_L_law_1111 : decode b_L_law 1111 = .ok (.aload_n 1, 1) := by decide +kernel
theorem d_L_law_1112 : decode b_L_law 1112 = .ok (.aload_n 0, 1) := by decide +kernel
theorem d_L_law_1113 : decode b_L_law 1113 = .ok (.iload 4, 2) := by decide +kernel
theorem d_L_law_1115 : decode b_L_law 1115 = .ok (.iconst 1, 1) := by decide +kernel
theorem d_L_law_1116 : decode b_L_law 1116 = .ok (.iadd, 1) := by decide +kernel
theorem d_L_law_1117 : decode b_L_law 1117 = .ok (.iaload, 1) := by decide +kernel
theorem d_L_law_1118 : decode b_L_law 1118 = .ok (.aload_n 0, 1) := by decide +kernel
theorem d_L_law_1119 : decode b_L_law 1119 = .ok (.iload 4, 2) := by decide +kernel
theorem d_L_law_1121 : decode b_L_law 1121 = .ok (.iconst 2, 1) := by decide +kernel
theorem d_L_law_1122 : decode b_L_law 1122 = .ok (.iadd, 1) := by decide +kernel
theorem d_L_law_1123 : decode b_L_law 1123 = .ok (.iaload, 1) := by decide +kernel
theorem d_L_law_1124 : decode b_L_law 1124 = .ok (.aload_n 3, 1) := by decide +kernel
theorem d_L_law_1125 : decode b_L_law 1125 = .ok (.invokestatic 138, 3) := by decide +kernel
theorem d_L_law_1128 : decode b_L_law 1128 = .ok (.istore 5, 2) := by decide +kernel
theorem d_L_law_1130 : decode b_L_law 1130 = .ok (.aload_n 2, 1) := by decide +kernel
theorem d_L_law_1131 : decode b_L_law 1131 = .ok (.aload_n 0, 1) := by decide +kernel
theorem d_L_law_1132 : decode b_L_law 1132 = .ok (.iload 4, 2) := by decide +kernel
theorem d_L_law_1134 : decode b_L_law 1134 = .ok (.iconst 1, 1) := by decide +kernel
theorem d_L_law_1135 : decode b_L_law 1135 = .ok (.iadd, 1) := by decide +kernel
theorem d_L_law_1136 : decode b_L_law 1136 = .ok (.iaload, 1) := by decide +kernel
theorem d_L_law_1137 : decode b_L_law 1137 = .ok (.aload_n 0, 1) := by decide +kernel
theorem d_L_law_1138 : decode b_L_law 1138 = .ok (.iload 4, 2) := by decide +kernel
theorem d_L_law_1140 : decode b_L_law 1140 = .ok (.iconst 2, 1) := by decide +kernel
theorem d_L_law_1141 : decode b_L_law 1141 = .ok (.iadd, 1) := by decide +kernel
theorem d_L_law_1142 : decode b_L_law 1142 = .ok (.iaload, 1) := by decide +kernel
theorem d_L_law_1143 : decode b_L_law 1143 = .ok (.invokevirtual 140, 3) := by decide +kernel
theorem d_L_law_1146 : decode b_L_law 1146 = .ok (.istore 6, 2) := by decide +kernel
theorem d_L_law_1148 : decode b_L_law 1148 = .ok (.aload_n 2, 1) := by decide +kernel
theorem d_L_law_1149 : decode b_L_law 1149 = .ok (.invokevirtual 88, 3) := by decide +kernel
theorem d_L_law_1152 : decode b_L_law 1152 = .ok (.iload 5, 2) := by decide +kernel
theorem d_L_law_1154 : decode b_L_law 1154 = .ok (.if_icmp .eq 5, 3) := by decide +kernel
theorem d_L_law_1157 : decode b_L_law 1157 = .ok (.iconst 0, 1) := by decide +kernel
theorem d_L_law_1158 : decode b_L_law 1158 = .ok (.ireturn, 1) := by decide +kernel
theorem d_L_law_1159 : decode b_L_law 1159 = .ok (.iload 5, 2) := by decide +kernel
theorem d_L_law_1161 : decode b_L_law 1161 = .ok (.ifCond .ne 15, 3) := by decide +kernel
theorem d_L_law_1164 : decode b_L_law 1164 = .ok (.aload_n 3, 1) := by decide +kernel
theorem d_L_law_1165 : decode b_L_law 1165 = .ok (.iconst 0, 1) := by decide +kernel
theorem d_L_law_1166 : decode b_L_law 1166 = .ok (.laload, 1) := by decide +kernel
theorem d_L_law_1167 : decode b_L_law 1167 = .ok (.iload 6, 2) := by decide +kernel
theorem d_L_law_1169 : decode b_L_law 1169 = .ok (.i2l, 1) := by decide +kernel
theorem d_L_law_1170 : decode b_L_law 1170 = .ok (.lcmp, 1) := by decide +kernel
theorem d_L_law_1171 : decode b_L_law 1171 = .ok (.ifCond .eq 5, 3) := by decide +kernel
theorem d_L_law_1174 : decode b_L_law 1174 = .ok (.iconst 0, 1) := by decide +kernel
theorem d_L_law_1175 : decode b_L_law 1175 = .ok (.ireturn, 1) := by decide +kernel
theorem d_L_law_1176 : decode b_L_law 1176 = .ok (.goto 184, 3) := by decide +kernel
theorem d_L_law_1179 : decode b_L_law 1179 = .ok (.aload_n 1, 1) := by decide +kernel
theorem d_L_law_1180 : decode b_L_law 1180 = .ok (.aload_n 0, 1) := by decide +kernel
theorem d_L_law_1181 : decode b_L_law 1181 = .ok (.iload 4, 2) := by decide +kernel
theorem d_L_law_1183 : decode b_L_law 1183 = .ok (.iconst 1, 1) := by decide +kernel
theorem d_L_law_1184 : decode b_L_law 1184 = .ok (.iadd, 1) := by decide +kernel
theorem d_L_law_1185 : decode b_L_law 1185 = .ok (.iaload, 1) := by decide +kernel
theorem d_L_law_1186 : decode b_L_law 1186 = .ok (.invokevirtual 141, 3) := by decide +kernel
theorem d_L_law_1189 : decode b_L_law 1189 = .ok (.aload_n 2, 1) := by decide +kernel
theorem d_L_law_1190 : decode b_L_law 1190 = .ok (.aload_n 0, 1) := by decide +kernel
theorem d_L_law_1191 : decode b_L_law 1191 = .ok (.iload 4, 2) := by decide +kernel
theorem d_L_law_1193 : decode b_L_law 1193 = .ok (.iconst 1, 1) := by decide +kernel
theorem d_L_law_1194 : decode b_L_law 1194 = .ok (.iadd, 1) := by decide +kernel
theorem d_L_law_1195 : decode b_L_law 1195 = .ok (.iaload, 1) := by decide +kernel
theorem d_L_law_1196 : decode b_L_law 1196 = .ok (.invokevirtual 145, 3) := by decide +kernel
theorem d_L_law_1199 : decode b_L_law 1199 = .ok (.if_icmp .eq 161, 3) := by decide +kernel
theorem d_L_law_1202 : decode b_L_law 1202 = .ok (.iconst 0, 1) := by decide +kernel
theorem d_L_law_1203 : decode b_L_law 1203 = .ok (.ireturn, 1) := by decide +kernel
theorem d_L_law_1204 : decode b_L_law 1204 = .ok (.aload_n 1, 1) := by decide +kernel
theorem d_L_law_1205 : decode b_L_law 1205 = .ok (.aload_n 3, 1) := by decide +kernel
theorem d_L_law_1206 : decode b_L_law 1206 = .ok (.invokestatic 146, 3) := by decide +kernel
theorem d_L_law_1209 : decode b_L_law 1209 = .ok (.istore 5, 2) := by decide +kernel
theorem d_L_law_1211 : decode b_L_law 1211 = .ok (.aload_n 2, 1) := by decide +kernel
theorem d_L_law_1212 : decode b_L_law 1212 = .ok (.invokevirtual 149, 3) := by decide +kernel
theorem d_L_law_1215 : decode b_L_law 1215 = .ok (.istore 6, 2) := by decide +kernel
theorem d_L_law_1217 : decode b_L_law 1217 = .ok (.aload_n 2, 1) := by decide +kernel
theorem d_L_law_1218 : decode b_L_law 1218 = .ok (.invokevirtual 88, 3) := by decide +kernel
theorem d_L_law_1221 : decode b_L_law 1221 = .ok (.iload 5, 2) := by decide +kernel
theorem d_L_law_1223 : decode b_L_law 1223 = .ok (.if_icmp .eq 5, 3) := by decide +kernel
theorem d_L_law_1226 : decode b_L_law 1226 = .ok (.iconst 0, 1) := by decide +kernel
theorem d_L_law_1227 : decode b_L_law 1227 = .ok (.ireturn, 1) := by decide +kernel
theorem d_L_law_1228 : decode b_L_law 1228 = .ok (.iload 5, 2) := by decide +kernel
theorem d_L_law_1230 : decode b_L_law 1230 = .ok (.ifCond .ne 15, 3) := by decide +kernel
theorem d_L_law_1233 : decode b_L_law 1233 = .ok (.aload_n 3, 1) := by decide +kernel
theorem d_L_law_1234 : decode b_L_law 1234 = .ok (.iconst 0, 1) := by decide +kernel
theorem d_L_law_1235 : decode b_L_law 1235 = .ok (.laload, 1) := by decide +kernel
theorem d_L_law_1236 : decode b_L_law 1236 = .ok (.iload 6, 2) := by decide +kernel
theorem d_L_law_1238 : decode b_L_law 1238 = .ok (.i2l, 1) := by decide +kernel
theorem d_L_law_1239 : decode b_L_law 1239 = .ok (.lcmp, 1) := by decide +kernel
theorem d_L_law_1240 : decode b_L_law 1240 = .ok (.ifCond .eq 5, 3) := by decide +kernel
theorem d_L_law_1243 : decode b_L_law 1243 = .ok (.iconst 0, 1) := by decide +kernel
theorem d_L_law_1244 : decode b_L_law 1244 = .ok (.ireturn, 1) := by decide +kernel
theorem d_L_law_1245 : decode b_L_law 1245 = .ok (.goto 115, 3) := by decide +kernel
theorem d_L_law_1248 : decode b_L_law 1248 = .ok (.aload_n 1, 1) := by decide +kernel
theorem d_L_law_1249 : decode b_L_law 1249 = .ok (.aload_n 0, 1) := by decide +kernel
theorem d_L_law_1250 : decode b_L_law 1250 = .ok (.iload 4, 2) := by decide +kernel
theorem d_L_law_1252 : decode b_L_law 1252 = .ok (.iconst 1, 1) := by decide +kernel
theorem d_L_law_1253 : decode b_L_law 1253 = .ok (.iadd, 1) := by decide +kernel
theorem d_L_law_1254 : decode b_L_law 1254 = .ok (.iaload, 1) := by decide +kernel
theorem d_L_law_1255 : decode b_L_law 1255 = .ok (.aload_n 3, 1) := by decide +kernel
theorem d_L_law_1256 : decode b_L_law 1256 = .ok (.invokestatic 150, 3) := by decide +kernel
theorem d_L_law_1259 : decode b_L_law 1259 = .ok (.istore 5, 2) := by decide +kernel
theorem d_L_law_1261 : decode b_L_law 1261 = .ok (.aload_n 2, 1) := by decide +kernel
theorem d_L_law_1262 : decode b_L_law 1262 = .ok (.aload_n 0, 1) := by decide +kernel
theorem d_L_law_1263 : decode b_L_law 1263 = .ok (.iload 4, 2) := by decide +kernel
theorem d_L_law_1265 : decode b_L_law 1265 = .ok (.iconst 1, 1) := by decide +kernel
theorem d_L_law_1266 : decode b_L_law 1266 = .ok (.iadd, 1) := by decide +kernel
theorem d_L_law_1267 : decode b_L_law 1267 = .ok (.iaload, 1) := by decide +kernel
theorem d_L_law_1268 : decode b_L_law 1268 = .ok (.invokevirtual 152, 3) := by decide +kernel
theorem d_L_law_1271 : decode b_L_law 1271 = .ok (.istore 6, 2) := by decide +kernel
theorem d_L_law_1273 : decode b_L_law 1273 = .ok (.aload_n 2, 1) := by decide +kernel
theorem d_L_law_1274 : decode b_L_law 1274 = .ok (.invokevirtual 88, 3) := by decide +kernel
theorem d_L_law_1277 : decode b_L_law 1277 = .ok (.iload 5, 2) := by decide +kernel
theorem d_L_law_1279 : decode b_L_law 1279 = .ok (.if_icmp .eq 5, 3) := by decide +kernel
theorem d_L_law_1282 : decode b_L_law 1282 = .ok (.iconst 0, 1) := by decide +kernel
theorem d_L_law_1283 : decode b_L_law 1283 = .ok (.ireturn, 1) := by decide +kernel
theorem d_L_law_1284 : decode b_L_law 1284 = .ok (.iload 5, 2) := by decide +kernel
theorem d_L_law_1286 : decode b_L_law 1286 = .ok (.ifCond .ne 15, 3) := by decide +kernel
theorem d_L_law_1289 : decode b_L_law 1289 = .ok (.aload_n 3, 1) := by decide +kernel
theorem d_L_law_1290 : decode b_L_law 1290 = .ok (.iconst 0, 1) := by decide +kernel
theorem d_L_law_1291 : decode b_L_law 1291 = .ok (.laload, 1) := by decide +kernel
theorem d_L_law_1292 : decode b_L_law 1292 = .ok (.iload 6, 2) := by decide +kernel
theorem d_L_law_1294 : decode b_L_law 1294 = .ok (.i2l, 1) := by decide +kernel
theorem d_L_law_1295 : decode b_L_law 1295 = .ok (.lcmp, 1) := by decide +kernel
theorem d_L_law_1296 : decode b_L_law 1296 = .ok (.ifCond .eq 5, 3) := by decide +kernel
theorem d_L_law_1299 : decode b_L_law 1299 = .ok (.iconst 0, 1) := by decide +kernel
theorem d_L_law_1300 : decode b_L_law 1300 = .ok (.ireturn, 1) := by decide +kernel
theorem d_L_law_1301 : decode b_L_law 1301 = .ok (.goto 59, 3) := by decide +kernel
theorem d_L_law_1304 : decode b_L_law 1304 = .ok (.aload_n 1, 1) := by decide +kernel
theorem d_L_law_1305 : decode b_L_law 1305 = .ok (.aload_n 0, 1) := by decide +kernel
theorem d_L_law_1306 : decode b_L_law 1306 = .ok (.iload 4, 2) := by decide +kernel
theorem d_L_law_1308 : decode b_L_law 1308 = .ok (.iconst 1, 1) := by decide +kernel
theorem d_L_law_1309 : decode b_L_law 1309 = .ok (.iadd, 1) := by decide +kernel
theorem d_L_law_1310 : decode b_L_law 1310 = .ok (.iaload, 1) := by decide +kernel
theorem d_L_law_1311 : decode b_L_law 1311 = .ok (.aload_n 3, 1) := by decide +kernel
theorem d_L_law_1312 : decode b_L_law 1312 = .ok (.invokestatic 153, 3) := by decide +kernel
theorem d_L_law_1315 : decode b_L_law 1315 = .ok (.istore 5, 2) := by decide +kernel
theorem d_L_law_1317 : decode b_L_law 1317 = .ok (.aload_n 2, 1) := by decide +kernel
theorem d_L_law_1318 : decode b_L_law 1318 = .ok (.aload_n 0, 1) := by decide +kernel
theorem d_L_law_1319 : decode b_L_law 1319 = .ok (.iload 4, 2) := by decide +kernel
theorem d_L_law_1321 : decode b_L_law 1321 = .ok (.iconst 1, 1) := by decide +kernel
theorem d_L_law_1322 : decode b_L_law 1322 = .ok (.iadd, 1) := by decide +kernel
theorem d_L_law_1323 : decode b_L_law 1323 = .ok (.iaload, 1) := by decide +kernel
theorem d_L_law_1324 : decode b_L_law 1324 = .ok (.invokevirtual 155, 3) := by decide +kernel
theorem d_L_law_1327 : decode b_L_law 1327 = .ok (.istore 6, 2) := by decide +kernel
theorem d_L_law_1329 : decode b_L_law 1329 = .ok (.aload_n 2, 1) := by decide +kernel
theorem d_L_law_1330 : decode b_L_law 1330 = .ok (.invokevirtual 88, 3) := by decide +kernel
theorem d_L_law_1333 : decode b_L_law 1333 = .ok (.iload 5, 2) := by decide +kernel
theorem d_L_law_1335 : decode b_L_law 1335 = .ok (.if_icmp .eq 5, 3) := by decide +kernel
theorem d_L_law_1338 : decode b_L_law 1338 = .ok (.iconst 0, 1) := by decide +kernel
theorem d_L_law_1339 : decode b_L_law 1339 = .ok (.ireturn, 1) := by decide +kernel
theorem d_L_law_1340 : decode b_L_law 1340 = .ok (.iload 5, 2) := by decide +kernel
theorem d_L_law_1342 : decode b_L_law 1342 = .ok (.ifCond .ne 15, 3) := by decide +kernel
theorem d_L_law_1345 : decode b_L_law 1345 = .ok (.aload_n 3, 1) := by decide +kernel
theorem d_L_law_1346 : decode b_L_law 1346 = .ok (.iconst 0, 1) := by decide +kernel
theorem d_L_law_1347 : decode b_L_law 1347 = .ok (.laload, 1) := by decide +kernel
theorem d_L_law_1348 : decode b_L_law 1348 = .ok (.iload 6, 2) := by decide +kernel
theorem d_L_law_1350 : decode b_L_law 1350 = .ok (.i2l, 1) := by decide +kernel
theorem d_L_law_1351 : decode b_L_law 1351 = .ok (.lcmp, 1) := by decide +kernel
theorem d_L_law_1352 : decode b_L_law 1352 = .ok (.ifCond .eq 5, 3) := by decide +kernel
theorem d_L_law_1355 : decode b_L_law 1355 = .ok (.iconst 0, 1) := by decide +kernel
theorem d_L_law_1356 : decode b_L_law 1356 = .ok (.ireturn, 1) := by decide +kernel
theorem d_L_law_1357 : decode b_L_law 1357 = .ok (.goto 3, 3) := by decide +kernel
theorem d_L_law_1360 : decode b_L_law 1360 = .ok (.iinc 4 6, 3) := by decide +kernel
theorem d_L_law_1363 : decode b_L_law 1363 = .ok (.goto (-1340), 3) := by decide +kernel
theorem d_L_law_1366 : decode b_L_law 1366 = .ok (.iconst 1, 1) := by decide +kernel
theorem d_L_law_1367 : decode b_L_law 1367 = .ok (.ireturn, 1) := by decide +kernel
