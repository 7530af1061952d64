theorem d_L_law_738 : decode b_L_law 738 = .ok (.iconst 2, 1) := by decide +kernel
theorem d_L_law_739 : decode b_L_law 739 = .ok (.iadd, 1) := by decide +kernel
theorem d_L_law_740 : decode b_L_law 740 = .ok (.iaload, 1) := by decide +kernel
theorem d_L_law_741 : decode b_L_law 741 = .ok (.aload_n 0, 1) := by decide +kernel
theorem d_L_law_742 : decode b_L_law 742 = .ok (.iload 4, 2) := by decide +kernel
theorem d_L_law_744 : decode b_L_law 744 = .ok (.iconst 3, 1) := by decide +kernel
theorem d_L_law_745 : decode b_L_law 745 = .ok (.iadd, 1) := by decide +kernel
theorem d_L_law_746 : decode b_L_law 746 = .ok (.iaload, 1) := by decide +kernel
theorem d_L_law_747 : decode b_L_law 747 = .ok (.aload_n 3, 1) := by decide +kernel
theorem d_L_law_748 : decode b_L_law 748 = .ok (.invokestatic 119, 3) := by decide +kernel
theorem d_L_law_751 : decode b_L_law 751 = .ok (.istore 5, 2) := by decide +kernel
theorem d_L_law_753 : decode b_L_law 753 = .ok (.aload_n 2, 1) := by decide +kernel
theorem d_L_law_754 : decode b_L_law 754 = .ok (.aload_n 0, 1) := by decide +kernel
theorem d_L_law_755 : decode b_L_law 755 = .ok (.iload 4, 2) := by decide +kernel
theorem d_L_law_757 : decode b_L_law 757 = .ok (.iconst 1, 1) := by decide +kernel
theorem d_L_law_758 : decode b_L_law 758 = .ok (.iadd, 1) := by decide +kernel
theorem d_L_law_759 : decode b_L_law 759 = .ok (.iaload, 1) := by decide +kernel
theorem d_L_law_760 : decode b_L_law 760 = .ok (.aload_n 0, 1) := by decide +kernel
theorem d_L_law_761 : decode b_L_law 761 = .ok (.iload 4, 2) := by decide +kernel
theorem d_L_law_763 : decode b_L_law 763 = .ok (.iconst 2, 1) := by decide +kernel
theorem d_L_law_764 : decode b_L_law 764 = .ok (.iadd, 1) := by decide +kernel
theorem d_L_law_765 : decode b_L_law 765 = .ok (.iaload, 1) := by decide +kernel
theorem d_L_law_766 : decode b_L_law 766 = .ok (.aload_n 0, 1) := by decide +kernel
theorem d_L_law_767 : decode b_L_law 767 = .ok (.iload 4, 2) := by decide +kernel
theorem d_L_law_769 : decode b_L_law 769 = .ok (.iconst 3, 1) := by decide +kernel
theorem d_L_law_770 : decode b_L_law 770 = .ok (.iadd, 1) := by decide +kernel
theorem d_L_law_771 : decode b_L_law 771 = .ok (.iaload, 1) := by decide +kernel
theorem d_L_law_772 : decode b_L_law 772 = .ok (.invokevirtual 121, 3) := by decide +kernel
theorem d_L_law_775 : decode b_L_law 775 = .ok (.istore 6, 2) := by decide +kernel
theorem d_L_law_777 : decode b_L_law 777 = .ok (.aload_n 2, 1) := by decide +kernel
theorem d_L_law_778 : decode b_L_law 778 = .ok (.invokevirtual 87, 3) := by decide +kernel
theorem d_L_law_781 : decode b_L_law 781 = .ok (.iload 5, 2) := by decide +kernel
theorem d_L_law_783 : decode b_L_law 783 = .ok (.if_icmp .eq 5, 3) := by decide +kernel
theorem d_L_law_786 : decode b_L_law 786 = .ok (.iconst 0, 1) := by decide +kernel
theorem d_L_law_787 : decode b_L_law 787 = .ok (.ireturn, 1) := by decide +kernel
theorem d_L_law_788 : decode b_L_law 788 = .ok (.iload 5, 2) := by decide +kernel
theorem d_L_law_790 : decode b_L_law 790 = .ok (.ifCond .ne 15, 3) := by decide +kernel
theorem d_L_law_793 : decode b_L_law 793 = .ok (.aload_n 3, 1) := by decide +kernel
theorem d_L_law_794 : decode b_L_law 794 = .ok (.iconst 0, 1) := by decide +kernel
theorem d_L_law_795 : decode b_L_law 795 = .ok (.laload, 1) := by decide +kernel
theorem d_L_law_796 : decode b_L_law 796 = .ok (.iload 6, 2) := by decide +kernel
theorem d_L_law_798 : decode b_L_law 798 = .ok (.i2l, 1) := by decide +kernel
theorem d_L_law_799 : decode b_L_law 799 = .ok (.lcmp, 1) := by decide +kernel
theorem d_L_law_800 : decode b_L_law 800 = .ok (.ifCond .eq 5, 3) := by decide +kernel
theorem d_L_law_803 : decode b_L_law 803 = .ok (.iconst 0, 1) := by decide +kernel
theorem d_L_law_804 : decode b_L_law 804 = .ok (.ireturn, 1) := by decide +kernel
theorem d_L_law_805 : decode b_L_law 805 = .ok (.goto 556, 3) := by decide +kernel
theorem d_L_law_808 : decode b_L_law 808 = .ok (.aload_n 1, 1) := by decide +kernel
theorem d_L_law_809 : decode b_L_law 809 = .ok (.aload_n 0, 1) := by decide +kernel
theorem d_L_law_810 : decode b_L_law 810 = .ok (.iload 4, 2) := by decide +kernel
theorem d_L_law_812 : decode b_L_law 812 = .ok (.iconst 1, 1) := by decide +kernel
theorem d_L_law_813 : decode b_L_law 813 = .ok (.iadd, 1) := by decide +kernel
theorem d_L_law_814 : decode b_L_law 814 = .ok (.iaload, 1) := by decide +kernel
theorem d_L_law_815 : decode b_L_law 815 = .ok (.aload_n 0, 1) := by decide +kernel
theorem d_L_law_816 : decode b_L_law 816 = .ok (.iload 4, 2) := by decide +kernel
theorem d_L_law_818 : decode b_L_law 818 = .ok (.iconst 2, 1) := by decide +kernel
theorem d_L_law_819 : decode b_L_law 819 = .ok (.iadd, 1) := by decide +kernel
theorem d_L_law_820 : decode b_L_law 820 = .ok (.iaload, 1) := by decide +kernel
theorem d_L_law_821 : decode b_L_law 821 = .ok (.aload_n 0, 1) := by decide +kernel
theorem d_L_law_822 : decode b_L_law 822 = .ok (.iload 4, 2) := by decide +kernel
theorem d_L_law_824 : decode b_L_law 824 = .ok (.iconst 3, 1) := by decide +kernel
theorem d_L_law_825 : decode b_L_law 825 = .ok (.iadd, 1) := by decide +kernel
theorem d_L_law_826 : decode b_L_law 826 = .ok (.iaload, 1) := by decide +kernel
theorem d_L_law_827 : decode b_L_law 827 = .ok (.aload_n 3, 1) := by decide +kernel
theorem d_L_law_828 : decode b_L_law 828 = .ok (.invokestatic 122, 3) := by decide +kernel
theorem d_L_law_831 : decode b_L_law 831 = .ok (.istore 5, 2) := by decide +kernel
theorem d_L_law_833 : decode b_L_law 833 = .ok (.aload_n 2, 1) := by decide +kernel
theorem d_L_law_834 : decode b_L_law 834 = .ok (.aload_n 0, 1) := by decide +kernel
theorem d_L_law_835 : decode b_L_law 835 = .ok (.iload 4, 2) := by decide +kernel
theorem d_L_law_837 : decode b_L_law 837 = .ok (.iconst 1, 1) := by decide +kernel
theorem d_L_law_838 : decode b_L_law 838 = .ok (.iadd, 1) := by decide +kernel
theorem d_L_law_839 : decode b_L_law 839 = .ok (.iaload, 1) := by decide +kernel
theorem d_L_law_840 : decode b_L_law 840 = .ok (.aload_n 0, 1) := by decide +kernel
theorem d_L_law_841 : decode b_L_law 841 = .ok (.iload 4, 2) := by decide +kernel
theorem d_L_law_843 : decode b_L_law 843 = .ok (.iconst 2, 1) := by decide +kernel
theorem d_L_law_844 : decode b_L_law 844 = .ok (.iadd, 1) := by decide +kernel
theorem d_L_law_845 : decode b_L_law 845 = .ok (.iaload, 1) := by decide +kernel
theorem d_L_law_846 : decode b_L_law 846 = .ok (.aload_n 0, 1) := by decide +kernel
theorem d_L_law_847 : decode b_L_law 847 = .ok (.iload 4, 2) := by decide +kernel
theorem d_L_law_849 : decode b_L_law 849 = .ok (.iconst 3, 1) := by decide +kernel
theorem d_L_law_850 : decode b_L_law 850 = .ok (.iadd, 1) := by decide +kernel
theorem d_L_law_851 : decode b_L_law 851 = .ok (.iaload, 1) := by decide +kernel
theorem d_L_law_852 : decode b_L_law 852 = .ok (.invokevirtual 124, 3) := by decide +kernel
theorem d_L_law_855 : decode b_L_law 855 = .ok (.istore 6, 2) := by decide +kernel
theorem d_L_law_857 : decode b_L_law 857 = .ok (.aload_n 2, 1) := by decide +kernel
theorem d_L_law_858 : decode b_L_law 858 = .ok (.invokevirtual 87, 3) := by decide +kernel
theorem d_L_law_861 : decode b_L_law 861 = .ok (.iload 5, 2) := by decide +kernel
theorem d_L_law_863 : decode b_L_law 863 = .ok (.if_icmp .eq 5, 3) := by decide +kernel
theorem d_L_law_866 : decode b_L_law 866 = .ok (.iconst 0, 1) := by decide +kernel
theorem d_L_law_867 : decode b_L_law 867 = .ok (.ireturn, 1) := by decide +kernel
theorem d_L_law_868 : decode b_L_law 868 = .ok (.iload 5, 2) := by decide +kernel
theorem d_L_law_870 : decode b_L_law 870 = .ok (.ifCond .ne 15, 3) := by decide +kernel
theorem d_L_law_873 : decode b_L_law 873 = .ok (.aload_n 3, 1) := by decide +kernel
theorem d_L_law_874 : decode b_L_law 874 = .ok (.iconst 0, 1) := by decide +kernel
theorem d_L_law_875 : decode b_L_law 875 = .ok (.laload, 1) := by decide +kernel
theorem d_L_law_876 : decode b_L_law 876 = .ok (.iload 6, 2) := by decide +kernel
theorem d_L_law_878 : decode b_L_law 878 = .ok (.i2l, 1) := by decide +kernel
theorem d_L_law_879 : decode b_L_law 879 = .ok (.lcmp, 1) := by decide +kernel
theorem d_L_law_880 : decode b_L_law 880 = .ok (.ifCond .eq 5, 3) := by decide +kernel
theorem d_L_law_883 : decode b_L_law 883 = .ok (.iconst 0, 1) := by decide +kernel
theorem d_L_law_884 : decode b_L_law 884 = .ok (.ireturn, 1) := by decide +kernel
theorem d_L_law_885 : decode b_L_law 885 = .ok (.goto 476, 3) := by decide +kernel
theorem d_L_law_888 : decode b_L_law 888 = .ok (.aload_n 1, 1) := by decide +kernel
theorem d_L_law_889 : decode b_L_law 889 = .ok (.aload_n 0, 1) := by decide +kernel
theorem d_L_law_890 : decode b_L_law 890 = .ok (.iload 4, 2) := by decide +kernel
theorem d_L_law_892 : decode b_L_law 892 = .ok (.iconst 1, 1) := by decide +kernel
theorem d_L_law_893 : decode b_L_law 893 = .ok (.iadd, 1) := by decide +kernel
theorem d_L_law_894 : decode b_L_law 894 = .ok (.iaload, 1) := by decide +kernel
theorem d_L_law_895 : decode b_L_law 895 = .ok (.aload_n 0, 1) := by decide +kernel
theorem d_L_law_896 : decode b_L_law 896 = .ok (.iload 4, 2) := by decide +kernel
theorem d_L_law_898 : decode b_L_law 898 = .ok (.iconst 2, 1) := by decide +kernel
theorem d_L_law_899 : decode b_L_law 899 = .ok (.iadd, 1) := by decide +kernel
theorem d_L_law_900 : decode b_L_law 900 = .ok (.iaload, 1) := by decide +kernel
theorem d_L_law_901 : decode b_L_law 901 = .ok (.aload_n 0, 1) := by decide +kernel
theorem d_L_law_902 : decode b_L_law 902 = .ok (.iload 4, 2) := by decide +kernel
theorem d_L_law_904 : decode b_L_law 904 = .ok (.iconst 3, 1) := by decide +kernel
theorem d_L_law_905 : decode b_L_law 905 = .ok (.iadd, 1) := by decide +kernel
theorem d_L_law_906 : decode b_L_law 906 = .ok (.iaload, 1) := by decide +kernel
theorem d_L_law_907 : decode b_L_law 907 = .ok (.invokestatic 125, 3) := by decide +kernel
theorem d_L_law_910 : decode b_L_law 910 = .ok (.istore 5, 2) := by decide +kernel
theorem d_L_law_912 : decode b_L_law 912 = .ok (.aload_n 2, 1) := by decide +kernel
theorem d_L_law_913 : decode b_L_law 913 = .ok (.aload_n 0, 1) := by decide +kernel
theorem d_L_law_914 : decode b_L_law 914 = .ok (.iload 4, 2) := by decide +kernel
theorem d_L_law_916 : decode b_L_law 916 = .ok (.iconst 1, 1) := by decide +kernel
theorem d_L_law_917 : decode b_L_law 917 = .ok (.iadd, 1) := by decide +kernel
theorem d_L_law_918 : decode b_L_law 918 = .ok (.iaload, 1) := by decide +kernel
theorem d_L_law_919 : decode b_L_law 919 = .ok (.aload_n 0, 1) := by decide +kernel
theorem d_L_law_920 : decode b_L_law 920 = .ok (.iload 4, 2) := by decide +kernel
theorem d_L_law_922 : decode b_L_law 922 = .ok (.iconst 2, 1) := by decide +kernel
theorem d_L_law_923 : decode b_L_law 923 = .ok (.iadd, 1) := by decide +kernel
theorem d_L_law_924 : decode b_L_law 924 = .ok (.iaload, 1) := by decide +kernel
theorem d_L_law_925 : decode b_L_law 925 = .ok (.aload_n 0, 1) := by decide +kernel
theorem d_L_law_926 : decode b_L_law 926 = .ok (.iload 4, 2) := by decide +kernel
theorem d_L_law_928 : decode b_L_law 928 = .ok (.iconst 3, 1) := by decide +kernel
theorem d_L_law_929 : decode b_L_law 929 = .ok (.iadd, 1) := by decide +kernel
theorem d_L_law_930 : decode b_L_law 930 = .ok (.iaload, 1) := by decide +kernel
theorem d_L_law_931 : decode b_L_law 931 = .ok (.invokevirtual 127, 3) := by decide +kernel
theorem d_L_law_934 : decode b_L_law 934 = .ok (.aload_n 2, 1) := by decide +kernel
theorem d_L_law_935 : decode b_L_law 935 = .ok (.invokevirtual 87, 3) := by decide +kernel
theorem d_L_law_938 : decode b_L_law 938 = .ok (.iload 5, 2) := by decide +kernel
theorem d_L_law_940 : decode b_L_law 940 = .ok (.if_icmp .eq 5, 3) := by decide +kernel
theorem d_L_law_943 : decode b_L_law 943 = .ok (.iconst 0, 1) := by decide +kernel
theorem d_L_law_944 : decode b_L_law 944 = .ok (.ireturn, 1) := by decide +kernel
theorem d_L_law_945 : decode b_L_law 945 = .ok (.goto 416, 3) := by decide +kernel
theorem d_L_law_948 : decode b_L_law 948 = .ok (.aload_n 1, 1) := by decide +kernel
theorem d_L_law_949 : decode b_L_law 949 = .ok (.aload_n 0, 1) := by decide +kernel
theorem d_L_law_950 : decode b_L_law 950 = .ok (.iload 4, 2) := by decide +kernel
theorem d_L_law_952 : decode b_L_law 952 = .ok (.iconst 1, 1) := by decide +kernel
theorem d_L_law_953 : decode b_L_law 953 = .ok (.iadd, 1) := by decide +kernel
theorem d_L_law_954 : decode b_L_law 954 = .ok (.iaload, 1) := by decide +kernel
theorem d_L_law_955 : decode b_L_law 955 = .ok (.aload_n 0, 1) := by decide +kernel
theorem d_L_law_956 : decode b_L_law 956 = .ok (.iload 4, 2) := by decide +kernel
theorem d_L_law_958 : decode b_L_law 958 = .ok (.iconst 2, 1) := by decide +kernel
theorem d_L_law_959 : decode b_L_law 959 = .ok (.iadd, 1) := by decide +kernel
theorem d_L_law_960 : decode b_L_law 960 = .ok (.iaload, 1) := by decide +kernel
theorem d_L_law_961 : decode b_L_law 961 = .ok (.aload_n 3, 1) := by decide +kernel
theorem d_L_law_962 : decode b_L_law 962 = .ok (.invokestatic 128, 3) := by decide +kernel
theorem d_L_law_965 : decode b_L_law 965 = .ok (.istore 5, 2) := by decide +kernel
theorem d_L_law_967 : decode b_L_law 967 = .ok (.aload_n 2, 1) := by decide +kernel
theorem d_L_law_968 : decode b_L_law 968 = .ok (.aload_n 0, 1) := by decide +kernel
theorem d_L_law_969 : decode b_L_law 969 = .ok (.iload 4, 2) := by decide +kernel
theorem d_L_law_971 : decode b_L_law 971 = .ok (.iconst 1, 1) := by decide +kernel
theorem d_L_law_972 : decode b_L_law 972 = .ok (.iadd, 1) := by decide +kernel
theorem d_L_law_973 : decode b_L_law 973 = .ok (.iaload, 1) := by decide +kernel
theorem d_L_law_974 : decode b_L_law 974 = .ok (.aload_n 0, 1) := by decide +kernel
theorem d_L_law_975 : decode b_L_law 975 = .ok (.iload 4, 2) := by decide +kernel
theorem d_L_law_977 : decode b_L_law 977 = .ok (.iconst 2, 1) := by decide +kernel
theorem d_L_law_978 : decode b_L_law 978 = .ok (.iadd, 1) := by decide +kernel
theorem d_L_law_979 : decode b_L_law 979 = .ok (.iaload, 1) := by decide +kernel
theorem d_L_law_980 : decode b_L_law 980 = .ok (.invokevirtual 130, 3) := by decide +kernel
theorem d_L_law_983 : decode b_L_law 983 = .ok (.istore 6, 2) := by decide +kernel
theorem d_L_law_985 : decode b_L_law 985 = .ok (.aload_n 2, 1) := by decide +kernel
theorem d_L_law_986 : decode b_L_law 986 = .ok (.invokevirtual 87, 3) := by decide +kernel
theorem d_L_law_989 : decode b_L_law 989 = .ok (.iload 5, 2) := by decide +kernel
theorem d_L_law_991 : decode b_L_law 991 = .ok (.if_icmp .eq 5, 3) := by decide +kernel
theorem d_L_law_994 : decode b_L_law 994 = .ok (.iconst 0, 1) := by decide +kernel
theorem d_L_law_995 : decode b_L_law 995 = .ok (.ireturn, 1) := by decide +kernel
theorem d_L_law_996 : decode b_L_law 996 = .ok (.iload 5, 2) := by decide +kernel
theorem d_L_law_998 : decode b_L_law 998 = .ok (.ifCond .ne 15, 3) := by decide +kernel
theorem d_L_law_1001 : decode b_L_law 1001 = .ok (.aload_n 3, 1) := by decide +kernel
theorem d_L_law_1002 : decode b_L_law 1002 = .ok (.iconst 0, 1) := by decide +kernel
theorem d_L_law_1003 : decode b_L_law 1003 = .ok (.laload, 1) := by decide +kernel
theorem d_L_law_1004 : decode b_L_law 1004 = .ok (.iload 6, 2) := by decide +kernel
theorem d_L_law_1006 : decode b_L_law 1006 = .ok (.i2l, 1) := by decide +kernel
theorem d_L_law_1007 : decode b_L_law 1007 = .ok (.lcmp, 1) := by decide +kernel
theorem d_L_law_1008 : decode b_L_law 1008 = .ok (.ifCond .eq 5, 3) := by decide +kernel
theorem d_L_law_1011 : decode b_L_law 1011 = .ok (.iconst 0, 1) := by decide +kernel
theorem d_L_law_1012 : decode b_L_law 1012 = .ok (.ireturn, 1) := by decide +kernel
theorem d_L_law_1013 : decode b_L_law 1013 = .ok (.goto 348, 3) := by decide +kernel
theorem d_L_law_1016 : decode b_L_law 1016 = .ok (.aload_n 1, 1) := by decide +kernel
theorem d_L_law_1017 : decode b_L_law 1017 = .ok (.aload_n 0, 1) := by decide +kernel
theorem d_L_law_1018 : decode b_L_law 1018 = .ok (.iload 4, 2) := by decide +kernel
theorem d_L_law_1020 : decode b_L_law 1020 = .ok (.iconst 1, 1) := by decide +kernel
theorem d_L_law_1021 : decode b_L_law 1021 = .ok (.iadd, 1) := by decide +kernel
theorem d_L_law_1022 : decode b_L_law 1022 = .ok (.iaload, 1) := by decide +kernel
theorem d_L_law_1023 : decode b_L_law 1023 = .ok (.aload_n 0, 1) := by decide +kernel
theorem d_L_law_1024 : decode b_L_law 1024 = .ok (.iload 4, 2) := by decide +kernel
theorem d_L_law_1026 : decode b_L_law 1026 = .ok (.iconst 2, 1) := by decide +kernel
theorem d_L_law_1027 : decode b_L_law 1027 = .ok (.iadd, 1) := by decide +kernel
theorem d_L_law_1028 : decode b_L_law 1028 = .ok (.iaload, 1) := by decide +kernel
theorem d_L_law_1029 : decode b_L_law 1029 = .ok (.aload_n 0, 1) := by decide +kernel
theorem d_L_law_1030 : decode b_L_law 1030 = .ok (.iload 4, 2) := by decide +kernel
theorem d_L_law_1032 : decode b_L_law 1032 = .ok (.iconst 3, 1) := by decide +kernel
theorem d_L_law_1033 : decode b_L_law 1033 = .ok (.iadd, 1) := by decide +kernel
theorem d_L_law_1034 : decode b_L_law 1034 = .ok (.iaload, 1) := by decide +kernel
theorem d_L_law_1035 : decode b_L_law 1035 = .ok (.invokestatic 131, 3) := by decide +kernel
theorem d_L_law_1038 : decode b_L_law 1038 = .ok (.istore 5, 2) := by decide +kernel
theorem d_L_law_1040 : decode b_L_law 1040 = .ok (.aload_n 2, 1) := by decide +kernel
theorem d_L_law_1041 : decode b_L_law 1041 = .ok (.aload_n 0, 1) := by decide +kernel
theorem d_L_law_1042 : decode b_L_law 1042 = .ok (.iload 4, 2) := by decide +kernel
theorem d_L_law_1044 : decode b_L_law 1044 = .ok (.iconst 1, 1) := by decide +kernel
theorem d_L_law_1045 : decode b_L_law 1045 = .ok (.iadd, 1) := by decide +kernel
theorem d_L_law_1046 : decode b_L_law 1046 = .ok (.iaload, 1) := by decide +kernel
theorem d_L_law_1047 : decode b_L_law 1047 = .ok (.aload_n 0, 1) := by decide +kernel
theorem d_L_law_1048 : decode b_L_law 1048 = .ok (.iload 4, 2) := by decide +kernel
theorem d_L_law_1050 : decode b_L_law 1050 = .ok (.iconst 2, 1) := by decide +kernel
theorem d_L_law_1051 : decode b_L_law 1051 = .ok (.iadd, 1) := by decide +kernel
theorem d_L_law_1052 : decode b_L_law 1052 = .ok (.iaload, 1) := by decide +kernel
theorem d_L_law_1053 : decode b_L_law 1053 = .ok (.aload_n 0, 1) := by decide +kernel
theorem d_L_law_1054 : decode b_L_law 1054 = .ok (.iload 4, 2) := by decide +kernel