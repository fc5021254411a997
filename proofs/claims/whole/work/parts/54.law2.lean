
theorem d_LAW_797 : decode code 797 = .ok (.aload_n 1, 1) := by decide +kernel
theorem d_LAW_798 : decode code 798 = .ok (.aload_n 0, 1) := by decide +kernel
theorem d_LAW_799 : decode code 799 = .ok (.iload 4, 2) := by decide +kernel
theorem d_LAW_801 : decode code 801 = .ok (.iconst 1, 1) := by decide +kernel
theorem d_LAW_802 : decode code 802 = .ok (.iadd, 1) := by decide +kernel
theorem d_LAW_803 : decode code 803 = .ok (.iaload, 1) := by decide +kernel
theorem d_LAW_804 : decode code 804 = .ok (.aload_n 0, 1) := by decide +kernel
theorem d_LAW_805 : decode code 805 = .ok (.iload 4, 2) := by decide +kernel
theorem d_LAW_807 : decode code 807 = .ok (.iconst 2, 1) := by decide +kernel
theorem d_LAW_808 : decode code 808 = .ok (.iadd, 1) := by decide +kernel
theorem d_LAW_809 : decode code 809 = .ok (.iaload, 1) := by decide +kernel
theorem d_LAW_810 : decode code 810 = .ok (.aload_n 0, 1) := by decide +kernel
theorem d_LAW_811 : decode code 811 = .ok (.iload 4, 2) := by decide +kernel
theorem d_LAW_813 : decode code 813 = .ok (.iconst 3, 1) := by decide +kernel
theorem d_LAW_814 : decode code 814 = .ok (.iadd, 1) := by decide +kernel
theorem d_LAW_815 : decode code 815 = .ok (.iaload, 1) := by decide +kernel
theorem d_LAW_816 : decode code 816 = .ok (.aload_n 3, 1) := by decide +kernel
theorem d_LAW_817 : decode code 817 = .ok (.invokestatic 142, 3) := by decide +kernel
theorem d_LAW_820 : decode code 820 = .ok (.istore 5, 2) := by decide +kernel
theorem d_LAW_822 : decode code 822 = .ok (.aload_n 2, 1) := by decide +kernel
theorem d_LAW_823 : decode code 823 = .ok (.aload_n 0, 1) := by decide +kernel
theorem d_LAW_824 : decode code 824 = .ok (.iload 4, 2) := by decide +kernel
theorem d_LAW_826 : decode code 826 = .ok (.iconst 1, 1) := by decide +kernel
theorem d_LAW_827 : decode code 827 = .ok (.iadd, 1) := by decide +kernel
theorem d_LAW_828 : decode code 828 = .ok (.iaload, 1) := by decide +kernel
theorem d_LAW_829 : decode code 829 = .ok (.aload_n 0, 1) := by decide +kernel
theorem d_LAW_830 : decode code 830 = .ok (.iload 4, 2) := by decide +kernel
theorem d_LAW_832 : decode code 832 = .ok (.iconst 2, 1) := by decide +kernel
theorem d_LAW_833 : decode code 833 = .ok (.iadd, 1) := by decide +kernel
theorem d_LAW_834 : decode code 834 = .ok (.iaload, 1) := by decide +kernel
theorem d_LAW_835 : decode code 835 = .ok (.aload_n 0, 1) := by decide +kernel
theorem d_LAW_836 : decode code 836 = .ok (.iload 4, 2) := by decide +kernel
theorem d_LAW_838 : decode code 838 = .ok (.iconst 3, 1) := by decide +kernel
theorem d_LAW_839 : decode code 839 = .ok (.iadd, 1) := by decide +kernel
theorem d_LAW_840 : decode code 840 = .ok (.iaload, 1) := by decide +kernel
theorem d_LAW_841 : decode code 841 = .ok (.invokevirtual 144, 3) := by decide +kernel
theorem d_LAW_844 : decode code 844 = .ok (.lstore 6, 2) := by decide +kernel
theorem d_LAW_846 : decode code 846 = .ok (.aload_n 2, 1) := by decide +kernel
theorem d_LAW_847 : decode code 847 = .ok (.invokevirtual 105, 3) := by decide +kernel
theorem d_LAW_850 : decode code 850 = .ok (.iload 5, 2) := by decide +kernel
theorem d_LAW_852 : decode code 852 = .ok (.if_icmp .eq 5, 3) := by decide +kernel
theorem d_LAW_855 : decode code 855 = .ok (.iconst 0, 1) := by decide +kernel
theorem d_LAW_856 : decode code 856 = .ok (.ireturn, 1) := by decide +kernel
theorem d_LAW_857 : decode code 857 = .ok (.iload 5, 2) := by decide +kernel
theorem d_LAW_859 : decode code 859 = .ok (.ifCond .ne 14, 3) := by decide +kernel
theorem d_LAW_862 : decode code 862 = .ok (.aload_n 3, 1) := by decide +kernel
theorem d_LAW_863 : decode code 863 = .ok (.iconst 0, 1) := by decide +kernel
theorem d_LAW_864 : decode code 864 = .ok (.laload, 1) := by decide +kernel
theorem d_LAW_865 : decode code 865 = .ok (.lload 6, 2) := by decide +kernel
theorem d_LAW_867 : decode code 867 = .ok (.lcmp, 1) := by decide +kernel
theorem d_LAW_868 : decode code 868 = .ok (.ifCond .eq 5, 3) := by decide +kernel
theorem d_LAW_871 : decode code 871 = .ok (.iconst 0, 1) := by decide +kernel
theorem d_LAW_872 : decode code 872 = .ok (.ireturn, 1) := by decide +kernel
theorem d_LAW_873 : decode code 873 = .ok (.goto 1302, 3) := by decide +kernel
theorem d_LAW_876 : decode code 876 = .ok (.aload_n 1, 1) := by decide +kernel
theorem d_LAW_877 : decode code 877 = .ok (.aload_n 0, 1) := by decide +kernel
theorem d_LAW_878 : decode code 878 = .ok (.iload 4, 2) := by decide +kernel
theorem d_LAW_880 : decode code 880 = .ok (.iconst 1, 1) := by decide +kernel
theorem d_LAW_881 : decode code 881 = .ok (.iadd, 1) := by decide +kernel
theorem d_LAW_882 : decode code 882 = .ok (.iaload, 1) := by decide +kernel
theorem d_LAW_883 : decode code 883 = .ok (.aload_n 0, 1) := by decide +kernel
theorem d_LAW_884 : decode code 884 = .ok (.iload 4, 2) := by decide +kernel
theorem d_LAW_886 : decode code 886 = .ok (.iconst 2, 1) := by decide +kernel
theorem d_LAW_887 : decode code 887 = .ok (.iadd, 1) := by decide +kernel
theorem d_LAW_888 : decode code 888 = .ok (.iaload, 1) := by decide +kernel
theorem d_LAW_889 : decode code 889 = .ok (.i2l, 1) := by decide +kernel
theorem d_LAW_890 : decode code 890 = .ok (.bipush 32, 2) := by decide +kernel
theorem d_LAW_892 : decode code 892 = .ok (.lshl, 1) := by decide +kernel
theorem d_LAW_893 : decode code 893 = .ok (.aload_n 0, 1) := by decide +kernel
theorem d_LAW_894 : decode code 894 = .ok (.iload 4, 2) := by decide +kernel
theorem d_LAW_896 : decode code 896 = .ok (.iconst 3, 1) := by decide +kernel
theorem d_LAW_897 : decode code 897 = .ok (.iadd, 1) := by decide +kernel
theorem d_LAW_898 : decode code 898 = .ok (.iaload, 1) := by decide +kernel
theorem d_LAW_899 : decode code 899 = .ok (.i2l, 1) := by decide +kernel
theorem d_LAW_900 : decode code 900 = .ok (.ldc2_w 97, 3) := by decide +kernel
theorem d_LAW_903 : decode code 903 = .ok (.land, 1) := by decide +kernel
theorem d_LAW_904 : decode code 904 = .ok (.lor, 1) := by decide +kernel
theorem d_LAW_905 : decode code 905 = .ok (.aload_n 0, 1) := by decide +kernel
theorem d_LAW_906 : decode code 906 = .ok (.iload 4, 2) := by decide +kernel
theorem d_LAW_908 : decode code 908 = .ok (.iconst 4, 1) := by decide +kernel
theorem d_LAW_909 : decode code 909 = .ok (.iadd, 1) := by decide +kernel
theorem d_LAW_910 : decode code 910 = .ok (.iaload, 1) := by decide +kernel
theorem d_LAW_911 : decode code 911 = .ok (.aload_n 3, 1) := by decide +kernel
theorem d_LAW_912 : decode code 912 = .ok (.invokestatic 145, 3) := by decide +kernel
theorem d_LAW_915 : decode code 915 = .ok (.istore 5, 2) := by decide +kernel
theorem d_LAW_917 : decode code 917 = .ok (.aload_n 2, 1) := by decide +kernel
theorem d_LAW_918 : decode code 918 = .ok (.aload_n 0, 1) := by decide +kernel
theorem d_LAW_919 : decode code 919 = .ok (.iload 4, 2) := by decide +kernel
theorem d_LAW_921 : decode code 921 = .ok (.iconst 1, 1) := by decide +kernel
theorem d_LAW_922 : decode code 922 = .ok (.iadd, 1) := by decide +kernel
theorem d_LAW_923 : decode code 923 = .ok (.iaload, 1) := by decide +kernel
theorem d_LAW_924 : decode code 924 = .ok (.aload_n 0, 1) := by decide +kernel
theorem d_LAW_925 : decode code 925 = .ok (.iload 4, 2) := by decide +kernel
theorem d_LAW_927 : decode code 927 = .ok (.iconst 2, 1) := by decide +kernel
theorem d_LAW_928 : decode code 928 = .ok (.iadd, 1) := by decide +kernel
theorem d_LAW_929 : decode code 929 = .ok (.iaload, 1) := by decide +kernel
theorem d_LAW_930 : decode code 930 = .ok (.i2l, 1) := by decide +kernel
theorem d_LAW_931 : decode code 931 = .ok (.bipush 32, 2) := by decide +kernel
theorem d_LAW_933 : decode code 933 = .ok (.lshl, 1) := by decide +kernel
theorem d_LAW_934 : decode code 934 = .ok (.aload_n 0, 1) := by decide +kernel
theorem d_LAW_935 : decode code 935 = .ok (.iload 4, 2) := by decide +kernel
theorem d_LAW_937 : decode code 937 = .ok (.iconst 3, 1) := by decide +kernel
theorem d_LAW_938 : decode code 938 = .ok (.iadd, 1) := by decide +kernel
theorem d_LAW_939 : decode code 939 = .ok (.iaload, 1) := by decide +kernel
theorem d_LAW_940 : decode code 940 = .ok (.i2l, 1) := by decide +kernel
theorem d_LAW_941 : decode code 941 = .ok (.ldc2_w 97, 3) := by decide +kernel
theorem d_LAW_944 : decode code 944 = .ok (.land, 1) := by decide +kernel
theorem d_LAW_945 : decode code 945 = .ok (.lor, 1) := by decide +kernel
theorem d_LAW_946 : decode code 946 = .ok (.aload_n 0, 1) := by decide +kernel
theorem d_LAW_947 : decode code 947 = .ok (.iload 4, 2) := by decide +kernel
theorem d_LAW_949 : decode code 949 = .ok (.iconst 4, 1) := by decide +kernel
theorem d_LAW_950 : decode code 950 = .ok (.iadd, 1) := by decide +kernel
theorem d_LAW_951 : decode code 951 = .ok (.iaload, 1) := by decide +kernel
theorem d_LAW_952 : decode code 952 = .ok (.invokevirtual 148, 3) := by decide +kernel
theorem d_LAW_955 : decode code 955 = .ok (.istore 6, 2) := by decide +kernel
theorem d_LAW_957 : decode code 957 = .ok (.aload_n 2, 1) := by decide +kernel
theorem d_LAW_958 : decode code 958 = .ok (.invokevirtual 105, 3) := by decide +kernel
theorem d_LAW_961 : decode code 961 = .ok (.iload 5, 2) := by decide +kernel
theorem d_LAW_963 : decode code 963 = .ok (.if_icmp .eq 5, 3) := by decide +kernel
theorem d_LAW_966 : decode code 966 = .ok (.iconst 0, 1) := by decide +kernel
theorem d_LAW_967 : decode code 967 = .ok (.ireturn, 1) := by decide +kernel
theorem d_LAW_968 : decode code 968 = .ok (.iload 5, 2) := by decide +kernel
theorem d_LAW_970 : decode code 970 = .ok (.ifCond .ne 15, 3) := by decide +kernel
theorem d_LAW_973 : decode code 973 = .ok (.aload_n 3, 1) := by decide +kernel
theorem d_LAW_974 : decode code 974 = .ok (.iconst 0, 1) := by decide +kernel
theorem d_LAW_975 : decode code 975 = .ok (.laload, 1) := by decide +kernel
theorem d_LAW_976 : decode code 976 = .ok (.iload 6, 2) := by decide +kernel
theorem d_LAW_978 : decode code 978 = .ok (.i2l, 1) := by decide +kernel
theorem d_LAW_979 : decode code 979 = .ok (.lcmp, 1) := by decide +kernel
theorem d_LAW_980 : decode code 980 = .ok (.ifCond .eq 5, 3) := by decide +kernel
theorem d_LAW_983 : decode code 983 = .ok (.iconst 0, 1) := by decide +kernel
theorem d_LAW_984 : decode code 984 = .ok (.ireturn, 1) := by decide +kernel
theorem d_LAW_985 : decode code 985 = .ok (.goto 1190, 3) := by decide +kernel
theorem d_LAW_988 : decode code 988 = .ok (.aload_n 1, 1) := by decide +kernel
theorem d_LAW_989 : decode code 989 = .ok (.aload_n 0, 1) := by decide +kernel
theorem d_LAW_990 : decode code 990 = .ok (.iload 4, 2) := by decide +kernel
theorem d_LAW_992 : decode code 992 = .ok (.iconst 1, 1) := by decide +kernel
theorem d_LAW_993 : decode code 993 = .ok (.iadd, 1) := by decide +kernel
theorem d_LAW_994 : decode code 994 = .ok (.iaload, 1) := by decide +kernel
theorem d_LAW_995 : decode code 995 = .ok (.aload_n 0, 1) := by decide +kernel
theorem d_LAW_996 : decode code 996 = .ok (.iload 4, 2) := by decide +kernel
theorem d_LAW_998 : decode code 998 = .ok (.iconst 2, 1) := by decide +kernel
theorem d_LAW_999 : decode code 999 = .ok (.iadd, 1) := by decide +kernel
theorem d_LAW_1000 : decode code 1000 = .ok (.iaload, 1) := by decide +kernel
theorem d_LAW_1001 : decode code 1001 = .ok (.i2l, 1) := by decide +kernel
theorem d_LAW_1002 : decode code 1002 = .ok (.bipush 32, 2) := by decide +kernel
theorem d_LAW_1004 : decode code 1004 = .ok (.lshl, 1) := by decide +kernel
theorem d_LAW_1005 : decode code 1005 = .ok (.aload_n 0, 1) := by decide +kernel
theorem d_LAW_1006 : decode code 1006 = .ok (.iload 4, 2) := by decide +kernel
theorem d_LAW_1008 : decode code 1008 = .ok (.iconst 3, 1) := by decide +kernel
theorem d_LAW_1009 : decode code 1009 = .ok (.iadd, 1) := by decide +kernel
theorem d_LAW_1010 : decode code 1010 = .ok (.iaload, 1) := by decide +kernel
theorem d_LAW_1011 : decode code 1011 = .ok (.i2l, 1) := by decide +kernel
theorem d_LAW_1012 : decode code 1012 = .ok (.ldc2_w 97, 3) := by decide +kernel
theorem d_LAW_1015 : decode code 1015 = .ok (.land, 1) := by decide +kernel
theorem d_LAW_1016 : decode code 1016 = .ok (.lor, 1) := by decide +kernel
theorem d_LAW_1017 : decode code 1017 = .ok (.aload_n 0, 1) := by decide +kernel
theorem d_LAW_1018 : decode code 1018 = .ok (.iload 4, 2) := by decide +kernel
theorem d_LAW_1020 : decode code 1020 = .ok (.iconst 4, 1) := by decide +kernel
theorem d_LAW_1021 : decode code 1021 = .ok (.iadd, 1) := by decide +kernel
theorem d_LAW_1022 : decode code 1022 = .ok (.iaload, 1) := by decide +kernel
theorem d_LAW_1023 : decode code 1023 = .ok (.aload_n 3, 1) := by decide +kernel
theorem d_LAW_1024 : decode code 1024 = .ok (.invokestatic 149, 3) := by decide +kernel
theorem d_LAW_1027 : decode code 1027 = .ok (.istore 5, 2) := by decide +kernel
theorem d_LAW_1029 : decode code 1029 = .ok (.aload_n 2, 1) := by decide +kernel
theorem d_LAW_1030 : decode code 1030 = .ok (.aload_n 0, 1) := by decide +kernel
theorem d_LAW_1031 : decode code 1031 = .ok (.iload 4, 2) := by decide +kernel
theorem d_LAW_1033 : decode code 1033 = .ok (.iconst 1, 1) := by decide +kernel
theorem d_LAW_1034 : decode code 1034 = .ok (.iadd, 1) := by decide +kernel
theorem d_LAW_1035 : decode code 1035 = .ok (.iaload, 1) := by decide +kernel
theorem d_LAW_1036 : decode code 1036 = .ok (.aload_n 0, 1) := by decide +kernel
theorem d_LAW_1037 : decode code 1037 = .ok (.iload 4, 2) := by decide +kernel
theorem d_LAW_1039 : decode code 1039 = .ok (.iconst 2, 1) := by decide +kernel
theorem d_LAW_1040 : decode code 1040 = .ok (.iadd, 1) := by decide +kernel
theorem d_LAW_1041 : decode code 1041 = .ok (.iaload, 1) := by decide +kernel
theorem d_LAW_1042 : decode code 1042 = .ok (.i2l, 1) := by decide +kernel
theorem d_LAW_1043 : decode code 1043 = .ok (.bipush 32, 2) := by decide +kernel
theorem d_LAW_1045 : decode code 1045 = .ok (.lshl, 1) := by decide +kernel
theorem d_LAW_1046 : decode code 1046 = .ok (.aload_n 0, 1) := by decide +kernel
theorem d_LAW_1047 : decode code 1047 = .ok (.iload 4, 2) := by decide +kernel
theorem d_LAW_1049 : decode code 1049 = .ok (.iconst 3, 1) := by decide +kernel
theorem d_LAW_1050 : decode code 1050 = .ok (.iadd, 1) := by decide +kernel
theorem d_LAW_1051 : decode code 1051 = .ok (.iaload, 1) := by decide +kernel
theorem d_LAW_1052 : decode code 1052 = .ok (.i2l, 1) := by decide +kernel
theorem d_LAW_1053 : decode code 1053 = .ok (.ldc2_w 97, 3) := by decide +kernel
theorem d_LAW_1056 : decode code 1056 = .ok (.land, 1) := by decide +kernel
theorem d_LAW_1057 : decode code 1057 = .ok (.lor, 1) := by decide +kernel
theorem d_LAW_1058 : decode code 1058 = .ok (.aload_n 0, 1) := by decide +kernel
theorem d_LAW_1059 : decode code 1059 = .ok (.iload 4, 2) := by decide +kernel
theorem d_LAW_1061 : decode code 1061 = .ok (.iconst 4, 1) := by decide +kernel
theorem d_LAW_1062 : decode code 1062 = .ok (.iadd, 1) := by decide +kernel
theorem d_LAW_1063 : decode code 1063 = .ok (.iaload, 1) := by decide +kernel
theorem d_LAW_1064 : decode code 1064 = .ok (.invokevirtual 151, 3) := by decide +kernel
theorem d_LAW_1067 : decode code 1067 = .ok (.istore 6, 2) := by decide +kernel
theorem d_LAW_1069 : decode code 1069 = .ok (.aload_n 2, 1) := by decide +kernel
theorem d_LAW_1070 : decode code 1070 = .ok (.invokevirtual 105, 3) := by decide +kernel
theorem d_LAW_1073 : decode code 1073 = .ok (.iload 5, 2) := by decide +kernel
theorem d_LAW_1075 : decode code 1075 = .ok (.if_icmp .eq 5, 3) := by decide +kernel
theorem d_LAW_1078 : decode code 1078 = .ok (.iconst 0, 1) := by decide +kernel
theorem d_LAW_1079 : decode code 1079 = .ok (.ireturn, 1) := by decide +kernel
theorem d_LAW_1080 : decode code 1080 = .ok (.iload 5, 2) := by decide +kernel
theorem d_LAW_1082 : decode code 1082 = .ok (.ifCond .ne 15, 3) := by decide +kernel
theorem d_LAW_1085 : decode code 1085 = .ok (.aload_n 3, 1) := by decide +kernel
theorem d_LAW_1086 : decode code 1086 = .ok (.iconst 0, 1) := by decide +kernel
theorem d_LAW_1087 : decode code 1087 = .ok (.laload, 1) := by decide +kernel
theorem d_LAW_1088 : decode code 1088 = .ok (.iload 6, 2) := by decide +kernel
theorem d_LAW_1090 : decode code 1090 = .ok (.i2l, 1) := by decide +kernel
theorem d_LAW_1091 : decode code 1091 = .ok (.lcmp, 1) := by decide +kernel
theorem d_LAW_1092 : decode code 1092 = .ok (.ifCond .eq 5, 3) := by decide +kernel
theorem d_LAW_1095 : decode code 1095 = .ok (.iconst 0, 1) := by decide +kernel
theorem d_LAW_1096 : decode code 1096 = .ok (.ireturn, 1) := by decide +kernel
theorem d_LAW_1097 : decode code 1097 = .ok (.goto 1078, 3) := by decide +kernel
theorem d_LAW_1100 : decode code 1100 = .ok (.aload_n 1, 1) := by decide +kernel
theorem d_LAW_1101 : decode code 1101 = .ok (.aload_n 0, 1) := by decide +kernel
theorem d_LAW_1102 : decode code 1102 = .ok (.iload 4, 2) := by decide +kernel
theorem d_LAW_1104 : decode code 1104 = .ok (.iconst 1, 1) := by decide +kernel
theorem d_LAW_1105 : decode code 1105 = .ok (.iadd, 1) := by decide +kernel
theorem d_LAW_1106 : decode code 1106 = .ok (.iaload, 1) := by decide +kernel
theorem d_LAW_1107 : decode code 1107 = .ok (.i2l, 1) := by decide +kernel
theorem d_LAW_1108 : decode code 1108 = .ok (.bipush 32, 2) := by decide +kernel
theorem d_LAW_1110 : decode code 1110 = .ok (.lshl, 1) := by decide +kernel
theorem d_LAW_1111 : decode code 1111 = .ok (.aload_n 0, 1) := by decide +kernel
theorem d_LAW_1112 : decode code 1112 = .ok (.iload 4, 2) := by decide +kernel
theorem d_LAW_1114 : decode code 1114 = .ok (.iconst 2, 1) := by decide +kernel
theorem d_LAW_1115 : decode code 1115 = .ok (.iadd, 1) := by decide +kernel
theorem d_LAW_1116 : decode code 1116 = .ok (.iaload, 1) := by decide +kernel
theorem d_LAW_1117 : decode code 1117 = .ok (.i2l, 1) := by decide +kernel
theorem d_LAW_1118 : decode code 1118 = .ok (.ldc2_w 97, 3) := by decide +kernel
theorem d_LAW_1121 : decode code 1121 = .ok (.land, 1) := by decide +kernel
theorem d_LAW_1122 : decode code 1122 = .ok (.lor, 1) := by decide +kernel
theorem d_LAW_1123 : decode code 1123 = .ok (.aload_n 0, 1) := by decide +kernel
theorem d_LAW_1124 : decode code 1124 = .ok (.iload 4, 2) := by decide +kernel
theorem d_LAW_1126 : decode code 1126 = .ok (.iconst 3, 1) := by decide +kernel
theorem d_LAW_1127 : decode code 1127 = .ok (.iadd, 1) := by decide +kernel
theorem d_LAW_1128 : decode code 1128 = .ok (.iaload, 1) := by decide +kernel
theorem d_LAW_1129 : decode code 1129 = .ok (.aload_n 3, 1) := by decide +kernel
theorem d_LAW_1130 : decode code 1130 = .ok (.invokestatic 152, 3) := by decide +kernel
theorem d_LAW_1133 : decode code 1133 = .ok (.istore 5, 2) := by decide +kernel
theorem d_LAW_1135 : decode code 1135 = .ok (.aload_n 2, 1) := by decide +kernel
theorem d_LAW_1136 : decode code 1136 = .ok (.aload_n 0, 1) := by decide +kernel
theorem d_LAW_1137 : decode code 1137 = .ok (.iload 4, 2) := by decide +kernel
theorem d_LAW_1139 : decode code 1139 = .ok (.iconst 1, 1) := by decide +kernel
theorem d_LAW_1140 : decode code 1140 = .ok (.iadd, 1) := by decide +kernel
theorem d_LAW_1141 : decode code 1141 = .ok (.iaload, 1) := by decide +kernel
theorem d_LAW_1142 : decode code 1142 = .ok (.i2l, 1) := by decide +kernel
theorem d_LAW_1143 : decode code 1143 = .ok (.bipush 32, 2) := by decide +kernel
theorem d_LAW_1145 : decode code 1145 = .ok (.lshl, 1) := by decide +kernel
theorem d_LAW_1146 : decode code 1146 = .ok (.aload_n 0, 1) := by decide +kernel
theorem d_LAW_1147 : decode code 1147 = .ok (.iload 4, 2) := by decide +kernel
theorem d_LAW_1149 : decode code 1149 = .ok (.iconst 2, 1) := by decide +kernel
theorem d_LAW_1150 : decode code 1150 = .ok (.iadd, 1) := by decide +kernel
theorem d_LAW_1151 : decode code 1151 = .ok (.iaload, 1) := by decide +kernel
theorem d_LAW_1152 : decode code 1152 = .ok (.i2l, 1) := by decide +kernel
theorem d_LAW_1153 : decode code 1153 = .ok (.ldc2_w 97, 3) := by decide +kernel
theorem d_LAW_1156 : decode code 1156 = .ok (.land, 1) := by decide +kernel
theorem d_LAW_1157 : decode code 1157 = .ok (.lor, 1) := by decide +kernel
theorem d_LAW_1158 : decode code 1158 = .ok (.aload_n 0, 1) := by decide +kernel
theorem d_LAW_1159 : decode code 1159 = .ok (.iload 4, 2) := by decide +kernel
theorem d_LAW_1161 : decode code 1161 = .ok (.iconst 3, 1) := by decide +kernel
theorem d_LAW_1162 : decode code 1162 = .ok (.iadd, 1) := by decide +kernel
theorem d_LAW_1163 : decode code 1163 = .ok (.iaload, 1) := by decide +kernel
theorem d_LAW_1164 : decode code 1164 = .ok (.invokevirtual 155, 3) := by decide +kernel
theorem d_LAW_1167 : decode code 1167 = .ok (.lstore 6, 2) := by decide +kernel
theorem d_LAW_1169 : decode code 1169 = .ok (.aload_n 2, 1) := by decide +kernel
theorem d_LAW_1170 : decode code 1170 = .ok (.invokevirtual 105, 3) := by decide +kernel
theorem d_LAW_1173 : decode code 1173 = .ok (.iload 5, 2) := by decide +kernel
theorem d_LAW_1175 : decode code 1175 = .ok (.if_icmp .eq 5, 3) := by decide +kernel
theorem d_LAW_1178 : decode code 1178 = .ok (.iconst 0, 1) := by decide +kernel
theorem d_LAW_1179 : decode code 1179 = .ok (.ireturn, 1) := by decide +kernel
theorem d_LAW_1180 : decode code 1180 = .ok (.iload 5, 2) := by decide +kernel
theorem d_LAW_1182 : decode code 1182 = .ok (.ifCond .ne 14, 3) := by decide +kernel
theorem d_LAW_1185 : decode code 1185 = .ok (.aload_n 3, 1) := by decide +kernel
theorem d_LAW_1186 : decode code 1186 = .ok (.iconst 0, 1) := by decide +kernel
theorem d_LAW_1187 : decode code 1187 = .ok (.laload, 1) := by decide +kernel
theorem d_LAW_1188 : decode code 1188 = .ok (.lload 6, 2) := by decide +kernel
theorem d_LAW_1190 : decode code 1190 = .ok (.lcmp, 1) := by decide +kernel
theorem d_LAW_1191 : decode code 1191 = .ok (.ifCond .eq 5, 3) := by decide +kernel
theorem d_LAW_1194 : decode code 1194 = .ok (.iconst 0, 1) := by decide +kernel
theorem d_LAW_1195 : decode code 1195 = .ok (.ireturn, 1) := by decide +kernel
theorem d_LAW_1196 : decode code 1196 = .ok (.goto 979, 3) := by decide +kernel
theorem d_LAW_1199 : decode code 1199 = .ok (.aload_n 1, 1) := by decide +kernel
theorem d_LAW_1200 : decode code 1200 = .ok (.aload_n 0, 1) := by decide +kernel
theorem d_LAW_1201 : decode code 1201 = .ok (.iload 4, 2) := by decide +kernel
theorem d_LAW_1203 : decode code 1203 = .ok (.iconst 1, 1) := by decide +kernel
theorem d_LAW_1204 : decode code 1204 = .ok (.iadd, 1) := by decide +kernel
theorem d_LAW_1205 : decode code 1205 = .ok (.iaload, 1) := by decide +kernel
theorem d_LAW_1206 : decode code 1206 = .ok (.i2l, 1) := by decide +kernel
theorem d_LAW_1207 : decode code 1207 = .ok (.bipush 32, 2) := by decide +kernel
theorem d_LAW_1209 : decode code 1209 = .ok (.lshl, 1) := by decide +kernel
theorem d_LAW_1210 : decode code 1210 = .ok (.aload_n 0, 1) := by decide +kernel
theorem d_LAW_1211 : decode code 1211 = .ok (.iload 4, 2) := by decide +kernel
theorem d_LAW_1213 : decode code 1213 = .ok (.iconst 2, 1) := by decide +kernel
theorem d_LAW_1214 : decode code 1214 = .ok (.iadd, 1) := by decide +kernel
theorem d_LAW_1215 : decode code 1215 = .ok (.iaload, 1) := by decide +kernel
theorem d_LAW_1216 : decode code 1216 = .ok (.i2l, 1) := by decide +kernel
theorem d_LAW_1217 : decode code 1217 = .ok (.ldc2_w 97, 3) := by decide +kernel
theorem d_LAW_1220 : decode code 1220 = .ok (.land, 1) := by decide +kernel
theorem d_LAW_1221 : decode code 1221 = .ok (.lor, 1) := by decide +kernel
theorem d_LAW_1222 : decode code 1222 = .ok (.aload_n 0, 1) := by decide +kernel
theorem d_LAW_1223 : decode code 1223 = .ok (.iload 4, 2) := by decide +kernel
theorem d_LAW_1225 : decode code 1225 = .ok (.iconst 3, 1) := by decide +kernel
theorem d_LAW_1226 : decode code 1226 = .ok (.iadd, 1) := by decide +kernel
theorem d_LAW_1227 : decode code 1227 = .ok (.iaload, 1) := by decide +kernel
theorem d_LAW_1228 : decode code 1228 = .ok (.aload_n 0, 1) := by decide +kernel
theorem d_LAW_1229 : decode code 1229 = .ok (.iload 4, 2) := by decide +kernel
theorem d_LAW_1231 : decode code 1231 = .ok (.iconst 4, 1) := by decide +kernel
theorem d_LAW_1232 : decode code 1232 = .ok (.iadd, 1) := by decide +kernel
theorem d_LAW_1233 : decode code 1233 = .ok (.iaload, 1) := by decide +kernel
theorem d_LAW_1234 : decode code 1234 = .ok (.aload_n 0, 1) := by decide +kernel
theorem d_LAW_1235 : decode code 1235 = .ok (.iload 4, 2) := by decide +kernel
theorem d_LAW_1237 : decode code 1237 = .ok (.iconst 5, 1) := by decide +kernel
theorem d_LAW_1238 : decode code 1238 = .ok (.iadd, 1) := by decide +kernel
theorem d_LAW_1239 : decode code 1239 = .ok (.iaload, 1) := by decide +kernel
theorem d_LAW_1240 : decode code 1240 = .ok (.aload_n 3, 1) := by decide +kernel
theorem d_LAW_1241 : decode code 1241 = .ok (.invokestatic 156, 3) := by decide +kernel
theorem d_LAW_1244 : decode code 1244 = .ok (.istore 5, 2) := by decide +kernel
theorem d_LAW_1246 : decode code 1246 = .ok (.aload_n 2, 1) := by decide +kernel
theorem d_LAW_1247 : decode code 1247 = .ok (.aload_n 0, 1) := by decide +kernel
theorem d_LAW_1248 : decode code 1248 = .ok (.iload 4, 2) := by decide +kernel
theorem d_LAW_1250 : decode code 1250 = .ok (.iconst 1, 1) := by decide +kernel
theorem d_LAW_1251 : decode code 1251 = .ok (.iadd, 1) := by decide +kernel
theorem d_LAW_1252 : decode code 1252 = .ok (.iaload, 1) := by decide +kernel
theorem d_LAW_1253 : decode code 1253 = .ok (.i2l, 1) := by decide +kernel
theorem d_LAW_1254 : decode code 1254 = .ok (.bipush 32, 2) := by decide +kernel
theorem d_LAW_1256 : decode code 1256 = .ok (.lshl, 1) := by decide +kernel
theorem d_LAW_1257 : decode code 1257 = .ok (.aload_n 0, 1) := by decide +kernel
theorem d_LAW_1258 : decode code 1258 = .ok (.iload 4, 2) := by decide +kernel
theorem d_LAW_1260 : decode code 1260 = .ok (.iconst 2, 1) := by decide +kernel
theorem d_LAW_1261 : decode code 1261 = .ok (.iadd, 1) := by decide +kernel
theorem d_LAW_1262 : decode code 1262 = .ok (.iaload, 1) := by decide +kernel
theorem d_LAW_1263 : decode code 1263 = .ok (.i2l, 1) := by decide +kernel
theorem d_LAW_1264 : decode code 1264 = .ok (.ldc2_w 97, 3) := by decide +kernel
theorem d_LAW_1267 : decode code 1267 = .ok (.land, 1) := by decide +kernel
theorem d_LAW_1268 : decode code 1268 = .ok (.lor, 1) := by decide +kernel
theorem d_LAW_1269 : decode code 1269 = .ok (.aload_n 0, 1) := by decide +kernel
theorem d_LAW_1270 : decode code 1270 = .ok (.iload 4, 2) := by decide +kernel
theorem d_LAW_1272 : decode code 1272 = .ok (.iconst 3, 1) := by decide +kernel
theorem d_LAW_1273 : decode code 1273 = .ok (.iadd, 1) := by decide +kernel
theorem d_LAW_1274 : decode code 1274 = .ok (.iaload, 1) := by decide +kernel
theorem d_LAW_1275 : decode code 1275 = .ok (.aload_n 0, 1) := by decide +kernel
theorem d_LAW_1276 : decode code 1276 = .ok (.iload 4, 2) := by decide +kernel
theorem d_LAW_1278 : decode code 1278 = .ok (.iconst 4, 1) := by decide +kernel
theorem d_LAW_1279 : decode code 1279 = .ok (.iadd, 1) := by decide +kernel
theorem d_LAW_1280 : decode code 1280 = .ok (.iaload, 1) := by decide +kernel
theorem d_LAW_1281 : decode code 1281 = .ok (.aload_n 0, 1) := by decide +kernel
theorem d_LAW_1282 : decode code 1282 = .ok (.iload 4, 2) := by decide +kernel
theorem d_LAW_1284 : decode code 1284 = .ok (.iconst 5, 1) := by decide +kernel
theorem d_LAW_1285 : decode code 1285 = .ok (.iadd, 1) := by decide +kernel
theorem d_LAW_1286 : decode code 1286 = .ok (.iaload, 1) := by decide +kernel
theorem d_LAW_1287 : decode code 1287 = .ok (.invokevirtual 159, 3) := by decide +kernel
theorem d_LAW_1290 : decode code 1290 = .ok (.lstore 6, 2) := by decide +kernel
theorem d_LAW_1292 : decode code 1292 = .ok (.aload_n 2, 1) := by decide +kernel
theorem d_LAW_1293 : decode code 1293 = .ok (.invokevirtual 105, 3) := by decide +kernel
theorem d_LAW_1296 : decode code 1296 = .ok (.iload 5, 2) := by decide +kernel
theorem d_LAW_1298 : decode code 1298 = .ok (.if_icmp .eq 5, 3) := by decide +kernel
theorem d_LAW_1301 : decode code 1301 = .ok (.iconst 0, 1) := by decide +kernel
theorem d_LAW_1302 : decode code 1302 = .ok (.ireturn, 1) := by decide +kernel
theorem d_LAW_1303 : decode code 1303 = .ok (.iload 5, 2) := by decide +kernel
theorem d_LAW_1305 : decode code 1305 = .ok (.ifCond .ne 14, 3) := by decide +kernel
theorem d_LAW_1308 : decode code 1308 = .ok (.aload_n 3, 1) := by decide +kernel
theorem d_LAW_1309 : decode code 1309 = .ok (.iconst 0, 1) := by decide +kernel
theorem d_LAW_1310 : decode code 1310 = .ok (.laload, 1) := by decide +kernel
theorem d_LAW_1311 : decode code 1311 = .ok (.lload 6, 2) := by decide +kernel
theorem d_LAW_1313 : decode code 1313 = .ok (.lcmp, 1) := by decide +kernel
theorem d_LAW_1314 : decode code 1314 = .ok (.ifCond .eq 5, 3) := by decide +kernel
theorem d_LAW_1317 : decode code 1317 = .ok (.iconst 0, 1) := by decide +kernel
theorem d_LAW_1318 : decode code 1318 = .ok (.ireturn, 1) := by decide +kernel
theorem d_LAW_1319 : decode code 1319 = .ok (.goto 856, 3) := by decide +kernel
section
variable {p : Program} {l : Launch} {e : Env} {R : Room} {s : State} {m : MethodId} {args : Array Value} {below : List Frame} {meth : Method} {c : Code} {H : Heap} {locs : List Loc} {cells slots : Nat} {Q : State → Prop} {ls : Array Slot} {dC : Nat → ClassId} {dI : Nat → Nat → Nat} {hx hm o : Nat} {S : CS} {M : MS} {a : Int64} {b L : Nat} {xs : Nat → Int32}
set_option maxRecDepth 100000 in
set_option maxHeartbeats 1000000 in
theorem law_leap (C0 : Cx p s m meth c args R code "ZoneFilesLaw" 8 (some .boolean) 12 518) (hLX : LX s b L xs) (hno : NT l) (nf : Nat) {i : Int32} (h1 : vp_in (i + 1) L) (h2 : vp_in (i + 2) L) (h3 : vp_in (i + 3) L) (hLA : LA dC dI s hx hm o S M a H locs) (hl : lv_has ls 8 [(0, .ref b), (1, .ref hx), (2, .ref hm), (3, .ref o), (4, .int i)]) {S' : CS} {k : Int32} {ans : Int64} {kc ks : Nat} (hc : cq_leap nf S (xs (i + 1).toNatClampNeg) (xs (i + 2).toNatClampNeg) (xs (i + 3).toNatClampNeg) = some (k, ans, S', kc, ks)) {r0 : Int64} {M' : MS} (hm1 : f_Mo_leap nf (xs (i + 1).toNatClampNeg) (xs (i + 2).toNatClampNeg) (xs (i + 3).toNatClampNeg) M.1 M.2.1 M.2.2.1 M.2.2.2 = some (r0, M')) (ht : f_Mo_thrown nf M'.1 M'.2.1 M'.2.2.1 M'.2.2.2 = some k) (he : k = 0 → ans = r0) (hcell : cells + kc ≤ R.cells) (hslot : slots + ks ≤ R.slots)
    (kk : ∀ (H1 : Heap) (locs1 : List Loc) (a1 : Int64) (ls1 : Array Slot), LA dC dI s hx hm o S' M' a1 H1 locs1 → lv_has ls1 8 [(0, .ref b), (1, .ref hx), (2, .ref hm), (3, .ref o), (4, .int i)] → W p l e R s m args below meth c H1 locs1 (cells + kc) (slots + ks) Q (F0 m 2175 ls1 [])) : W p l e R s m args below meth c H locs cells slots Q (F0 m 797 ls []) := by
  obtain ⟨hx', hb, hr, hml, hown, hts, hlocks, hRf, hRl⟩ := id C0
  obtain ⟨vi, vj, va, vb⟩ := M'
  refine lv_aload_n hx' hb d_LAW_797 rfl (lv_at hl 1 rfl) ?_
  refine lv_aload_n hx' hb d_LAW_798 rfl (lv_at hl 0 rfl) ?_
  refine lv_iload hx' hb d_LAW_799 (lv_at hl 4 rfl) ?_
  refine lv_iconst (v := 1) hx' hb d_LAW_801 (by decide) ?_
  refine lv_iadd hx' hb d_LAW_802 ?_
  refine law_ld C0 hLX hLA h1 d_LAW_803 ?_
  refine lv_aload_n hx' hb d_LAW_804 rfl (lv_at hl 0 rfl) ?_
  refine lv_iload hx' hb d_LAW_805 (lv_at hl 4 rfl) ?_
  refine lv_iconst (v := 2) hx' hb d_LAW_807 (by decide) ?_
  refine lv_iadd hx' hb d_LAW_808 ?_
  refine law_ld C0 hLX hLA h2 d_LAW_809 ?_
  refine lv_aload_n hx' hb d_LAW_810 rfl (lv_at hl 0 rfl) ?_
  refine lv_iload hx' hb d_LAW_811 (lv_at hl 4 rfl) ?_
  refine lv_iconst (v := 3) hx' hb d_LAW_813 (by decide) ?_
  refine lv_iadd hx' hb d_LAW_814 ?_
  refine law_ld C0 hLX hLA h3 d_LAW_815 ?_
  refine lv_aload_n hx' hb d_LAW_816 rfl (lv_at hl 3 rfl) ?_
  refine law_W (y := y_LW_leap) (n := 5) (As := [.ref hx, .int (xs (i + 1).toNatClampNeg), .int (xs (i + 2).toNatClampNeg), .int (xs (i + 3).toNatClampNeg), .ref o]) (rest := []) C0 hLX hLA (fun ad cA za zad zcA cO f => q_leap l hno dC dI hx ad cA za zad zcA S nf (xs (i + 1).toNatClampNeg) (xs (i + 2).toNatClampNeg) (xs (i + 3).toNatClampNeg) hc o cO f) m_5_22 m_5_23 m_1_0 m_5_24 (by decide +kernel) ⟨Nat.le_trans (Nat.le_of_ble_eq_true rfl) hRf, Nat.le_trans (Nat.le_of_ble_eq_true rfl) hRl⟩ ⟨Nat.le_trans (Nat.le_of_ble_eq_true rfl) hRf, Nat.le_trans (Nat.le_of_ble_eq_true rfl) hRl⟩ rfl hl.1 rfl (Nat.le_of_ble_eq_true rfl) d_LAW_817 ⟨hcell, hslot⟩ (fun H locs a1 ha hLA => ?_)
  refine lv_istore (lv' := [(5, .int k), (0, .ref b), (1, .ref hx), (2, .ref hm), (3, .ref o), (4, .int i)]) hx' hb d_LAW_820 hl (by decide) rfl (fun ls hl => ?_)
  refine lv_aload_n hx' hb d_LAW_822 rfl (lv_at hl 3 rfl) ?_
  refine lv_aload_n hx' hb d_LAW_823 rfl (lv_at hl 1 rfl) ?_
  refine lv_iload hx' hb d_LAW_824 (lv_at hl 5 rfl) ?_
  refine lv_iconst (v := 1) hx' hb d_LAW_826 (by decide) ?_
  refine lv_iadd hx' hb d_LAW_827 ?_
  refine law_ld C0 hLX hLA h1 d_LAW_828 ?_
  refine lv_aload_n hx' hb d_LAW_829 rfl (lv_at hl 1 rfl) ?_
  refine lv_iload hx' hb d_LAW_830 (lv_at hl 5 rfl) ?_
  refine lv_iconst (v := 2) hx' hb d_LAW_832 (by decide) ?_
  refine lv_iadd hx' hb d_LAW_833 ?_
  refine law_ld C0 hLX hLA h2 d_LAW_834 ?_
  refine lv_aload_n hx' hb d_LAW_835 rfl (lv_at hl 1 rfl) ?_
  refine lv_iload hx' hb d_LAW_836 (lv_at hl 5 rfl) ?_
  refine lv_iconst (v := 3) hx' hb d_LAW_838 (by decide) ?_
  refine lv_iadd hx' hb d_LAW_839 ?_
  refine law_ld C0 hLX hLA h3 d_LAW_840 ?_
  refine law_M (As := [.int (xs (i + 1).toNatClampNeg), .int (xs (i + 2).toNatClampNeg), .int (xs (i + 3).toNatClampNeg)]) (rest := []) (M' := (vi, vj, va, vb)) C0 hLX hLA (fun r cM => OM.ofMo (fun sz => c_Mo_leap l dC dI hm r cM sz nf (xs (i + 1).toNatClampNeg) (xs (i + 2).toNatClampNeg) (xs (i + 3).toNatClampNeg) M.1 M.2.1 M.2.2.1 M.2.2.2 hm1)) (cwV 3 hts (gdV m_8_165 m_8_166 m_8_167 m_1_10 m_8_168) rfl rfl rfl (by decide +kernel) ⟨Nat.le_trans (Nat.le_of_ble_eq_true rfl) hRf, Nat.le_trans (Nat.le_of_ble_eq_true rfl) hRl⟩) rfl hl.1 rfl (Nat.le_of_ble_eq_true rfl) d_LAW_841 ⟨hcell, hslot⟩ rfl (fun H locs hLA => ?_)
  refine lv_lstore (lv' := [(6, .long r0), (5, .int k), (0, .ref b), (1, .ref hx), (2, .ref hm), (3, .ref o), (4, .int i)]) hx' hb d_LAW_844 hl (by decide) rfl (fun ls hl => ?_)
  refine lv_aload_n hx' hb d_LAW_846 rfl (lv_at hl 4 rfl) ?_
  refine law_M (As := []) (rest := []) (M' := (vi, vj, va, vb)) C0 hLX hLA (fun r cM => OM.ofRO (c_Mo_thrown l dC dI hm r cM nf vi vj va vb ht)) (cwV 0 hts (gdV m_7_105 m_7_106 m_7_107 m_1_10 m_7_108) rfl rfl rfl (by decide +kernel) ⟨Nat.le_trans (Nat.le_of_ble_eq_true rfl) hRf, Nat.le_trans (Nat.le_of_ble_eq_true rfl) hRl⟩) rfl hl.1 rfl (Nat.le_of_ble_eq_true rfl) d_LAW_847 ⟨hcell, hslot⟩ rfl (fun H locs hLA => ?_)
  refine lv_iload hx' hb d_LAW_850 (lv_at hl 1 rfl) ?_
  refine lv_icmp_eq (tgt := 857) hx' hb d_LAW_852 (by decide) (fun _ => ?_) (fun cc => absurd rfl cc)
  refine lv_iload hx' hb d_LAW_857 (lv_at hl 1 rfl) ?_
  refine lv_if_ne (tgt := 873) hx' hb d_LAW_859 (by decide) (fun ck => ?_) (fun ck => ?_)
  · refine lv_goto (tgt := 2175) hx' hb d_LAW_873 (by decide) ?_
    exact kk _ _ _ _ hLA (lv_sub hl [2, 3, 4, 5, 6] rfl)
  · refine lv_aload_n hx' hb d_LAW_862 rfl (lv_at hl 5 rfl) ?_
    refine lv_iconst (v := 0) hx' hb d_LAW_863 (by decide) ?_
    refine law_out C0 hLA d_LAW_864 ?_
    refine lv_lload hx' hb d_LAW_865 (lv_at hl 0 rfl) ?_
    refine lc_eq (tgt := 873) hx' hb d_LAW_867 d_LAW_868 (by decide) (fun _ => ?_) (fun cc => absurd ((ha ck).trans (he ck)) cc)
    refine lv_goto (tgt := 2175) hx' hb d_LAW_873 (by decide) ?_
    exact kk _ _ _ _ hLA (lv_sub hl [2, 3, 4, 5, 6] rfl)
set_option maxRecDepth 100000 in
set_option maxHeartbeats 1000000 in
theorem law_at (C0 : Cx p s m meth c args R code "ZoneFilesLaw" 8 (some .boolean) 12 518) (hLX : LX s b L xs) (hno : NT l) (nf : Nat) {i : Int32} (h1 : vp_in (i + 1) L) (h2 : vp_in (i + 2) L) (h3 : vp_in (i + 3) L) (h4 : vp_in (i + 4) L) (hLA : LA dC dI s hx hm o S M a H locs) (hl : lv_has ls 8 [(0, .ref b), (1, .ref hx), (2, .ref hm), (3, .ref o), (4, .int i)]) {S' : CS} {k : Int32} {ans : Int64} {kc ks : Nat} (hc : cq_at nf S (xs (i + 1).toNatClampNeg) (((xs (i + 2).toNatClampNeg).toInt64 <<< ((32 : Int32).toInt64 &&& 63)) ||| ((xs (i + 3).toNatClampNeg).toInt64 &&& 4294967295)) (xs (i + 4).toNatClampNeg) = some (k, ans, S', kc, ks)) {r0 : Int32} {M' : MS} (hm1 : f_Mo_at nf (xs (i + 1).toNatClampNeg) (((xs (i + 2).toNatClampNeg).toInt64 <<< ((32 : Int32).toInt64 &&& 63)) ||| ((xs (i + 3).toNatClampNeg).toInt64 &&& 4294967295)) (xs (i + 4).toNatClampNeg) M.1 M.2.1 M.2.2.1 M.2.2.2 = some (r0, M')) (ht : f_Mo_thrown nf M'.1 M'.2.1 M'.2.2.1 M'.2.2.2 = some k) (he : k = 0 → ans = r0.toInt64) (hcell : cells + kc ≤ R.cells) (hslot : slots + ks ≤ R.slots)
    (kk : ∀ (H1 : Heap) (locs1 : List Loc) (a1 : Int64) (ls1 : Array Slot), LA dC dI s hx hm o S' M' a1 H1 locs1 → lv_has ls1 8 [(0, .ref b), (1, .ref hx), (2, .ref hm), (3, .ref o), (4, .int i)] → W p l e R s m args below meth c H1 locs1 (cells + kc) (slots + ks) Q (F0 m 2175 ls1 [])) : W p l e R s m args below meth c H locs cells slots Q (F0 m 876 ls []) := by
  obtain ⟨hx', hb, hr, hml, hown, hts, hlocks, hRf, hRl⟩ := id C0
  obtain ⟨vi, vj, va, vb⟩ := M'
  refine lv_aload_n hx' hb d_LAW_876 rfl (lv_at hl 1 rfl) ?_
  refine lv_aload_n hx' hb d_LAW_877 rfl (lv_at hl 0 rfl) ?_
  refine lv_iload hx' hb d_LAW_878 (lv_at hl 4 rfl) ?_
  refine lv_iconst (v := 1) hx' hb d_LAW_880 (by decide) ?_
  refine lv_iadd hx' hb d_LAW_881 ?_
  refine law_ld C0 hLX hLA h1 d_LAW_882 ?_
  refine lv_aload_n hx' hb d_LAW_883 rfl (lv_at hl 0 rfl) ?_
  refine lv_iload hx' hb d_LAW_884 (lv_at hl 4 rfl) ?_
  refine lv_iconst (v := 2) hx' hb d_LAW_886 (by decide) ?_
  refine lv_iadd hx' hb d_LAW_887 ?_
  refine law_ld C0 hLX hLA h2 d_LAW_888 ?_
  refine lv_i2l hx' hb d_LAW_889 rfl ?_
  refine lv_bipush (v := 32) hx' hb d_LAW_890 (by decide) ?_
  refine lv_lshl hx' hb d_LAW_892 rfl ?_
  refine lv_aload_n hx' hb d_LAW_893 rfl (lv_at hl 0 rfl) ?_
  refine lv_iload hx' hb d_LAW_894 (lv_at hl 4 rfl) ?_
  refine lv_iconst (v := 3) hx' hb d_LAW_896 (by decide) ?_
  refine lv_iadd hx' hb d_LAW_897 ?_
  refine law_ld C0 hLX hLA h3 d_LAW_898 ?_
  refine lv_i2l hx' hb d_LAW_899 rfl ?_
  refine lv_ldc2 (v := 4294967295) hx' hb hown (hts (.constantLong "ZoneFilesLaw" 97 4294967295) m_8_234) d_LAW_900 ?_
  refine lv_land hx' hb d_LAW_903 ?_
  refine lv_lor hx' hb d_LAW_904 ?_
  refine lv_aload_n hx' hb d_LAW_905 rfl (lv_at hl 0 rfl) ?_
  refine lv_iload hx' hb d_LAW_906 (lv_at hl 4 rfl) ?_
  refine lv_iconst (v := 4) hx' hb d_LAW_908 (by decide) ?_
  refine lv_iadd hx' hb d_LAW_909 ?_
  refine law_ld C0 hLX hLA h4 d_LAW_910 ?_
  refine lv_aload_n hx' hb d_LAW_911 rfl (lv_at hl 3 rfl) ?_
  refine law_W (y := y_LW_at) (n := 5) (As := [.ref hx, .int (xs (i + 1).toNatClampNeg), .long (((xs (i + 2).toNatClampNeg).toInt64 <<< ((32 : Int32).toInt64 &&& 63)) ||| ((xs (i + 3).toNatClampNeg).toInt64 &&& 4294967295)), .int (xs (i + 4).toNatClampNeg), .ref o]) (rest := []) C0 hLX hLA (fun ad cA za zad zcA cO f => q_at l hno dC dI hx ad cA za zad zcA S nf (xs (i + 1).toNatClampNeg) (((xs (i + 2).toNatClampNeg).toInt64 <<< ((32 : Int32).toInt64 &&& 63)) ||| ((xs (i + 3).toNatClampNeg).toInt64 &&& 4294967295)) (xs (i + 4).toNatClampNeg) hc o cO f) m_5_29 m_5_30 m_1_0 m_5_31 (by decide +kernel) ⟨Nat.le_trans (Nat.le_of_ble_eq_true rfl) hRf, Nat.le_trans (Nat.le_of_ble_eq_true rfl) hRl⟩ ⟨Nat.le_trans (Nat.le_of_ble_eq_true rfl) hRf, Nat.le_trans (Nat.le_of_ble_eq_true rfl) hRl⟩ rfl hl.1 rfl (Nat.le_of_ble_eq_true rfl) d_LAW_912 ⟨hcell, hslot⟩ (fun H locs a1 ha hLA => ?_)
  refine lv_istore (lv' := [(5, .int k), (0, .ref b), (1, .ref hx), (2, .ref hm), (3, .ref o), (4, .int i)]) hx' hb d_LAW_915 hl (by decide) rfl (fun ls hl => ?_)
  refine lv_aload_n hx' hb d_LAW_917 rfl (lv_at hl 3 rfl) ?_
  refine lv_aload_n hx' hb d_LAW_918 rfl (lv_at hl 1 rfl) ?_
  refine lv_iload hx' hb d_LAW_919 (lv_at hl 5 rfl) ?_
  refine lv_iconst (v := 1) hx' hb d_LAW_921 (by decide) ?_
  refine lv_iadd hx' hb d_LAW_922 ?_
  refine law_ld C0 hLX hLA h1 d_LAW_923 ?_
  refine lv_aload_n hx' hb d_LAW_924 rfl (lv_at hl 1 rfl) ?_
  refine lv_iload hx' hb d_LAW_925 (lv_at hl 5 rfl) ?_
  refine lv_iconst (v := 2) hx' hb d_LAW_927 (by decide) ?_
  refine lv_iadd hx' hb d_LAW_928 ?_
  refine law_ld C0 hLX hLA h2 d_LAW_929 ?_
  refine lv_i2l hx' hb d_LAW_930 rfl ?_
  refine lv_bipush (v := 32) hx' hb d_LAW_931 (by decide) ?_
  refine lv_lshl hx' hb d_LAW_933 rfl ?_
  refine lv_aload_n hx' hb d_LAW_934 rfl (lv_at hl 1 rfl) ?_
  refine lv_iload hx' hb d_LAW_935 (lv_at hl 5 rfl) ?_
  refine lv_iconst (v := 3) hx' hb d_LAW_937 (by decide) ?_
  refine lv_iadd hx' hb d_LAW_938 ?_
  refine law_ld C0 hLX hLA h3 d_LAW_939 ?_
  refine lv_i2l hx' hb d_LAW_940 rfl ?_
  refine lv_ldc2 (v := 4294967295) hx' hb hown (hts (.constantLong "ZoneFilesLaw" 97 4294967295) m_8_234) d_LAW_941 ?_
  refine lv_land hx' hb d_LAW_944 ?_
  refine lv_lor hx' hb d_LAW_945 ?_
  refine lv_aload_n hx' hb d_LAW_946 rfl (lv_at hl 1 rfl) ?_
  refine lv_iload hx' hb d_LAW_947 (lv_at hl 5 rfl) ?_
  refine lv_iconst (v := 4) hx' hb d_LAW_949 (by decide) ?_
  refine lv_iadd hx' hb d_LAW_950 ?_
  refine law_ld C0 hLX hLA h4 d_LAW_951 ?_
  refine law_M (As := [.int (xs (i + 1).toNatClampNeg), .long (((xs (i + 2).toNatClampNeg).toInt64 <<< ((32 : Int32).toInt64 &&& 63)) ||| ((xs (i + 3).toNatClampNeg).toInt64 &&& 4294967295)), .int (xs (i + 4).toNatClampNeg)]) (rest := []) (M' := (vi, vj, va, vb)) C0 hLX hLA (fun r cM => OM.ofMo (fun sz => c_Mo_at l dC dI hm r cM sz nf (xs (i + 1).toNatClampNeg) (((xs (i + 2).toNatClampNeg).toInt64 <<< ((32 : Int32).toInt64 &&& 63)) ||| ((xs (i + 3).toNatClampNeg).toInt64 &&& 4294967295)) (xs (i + 4).toNatClampNeg) M.1 M.2.1 M.2.2.1 M.2.2.2 hm1)) (cwV 3 hts (gdV m_8_41 m_8_42 m_8_43 m_1_10 m_8_44) rfl rfl rfl (by decide +kernel) ⟨Nat.le_trans (Nat.le_of_ble_eq_true rfl) hRf, Nat.le_trans (Nat.le_of_ble_eq_true rfl) hRl⟩) rfl hl.1 rfl (Nat.le_of_ble_eq_true rfl) d_LAW_952 ⟨hcell, hslot⟩ rfl (fun H locs hLA => ?_)
  refine lv_istore (lv' := [(6, .int r0), (5, .int k), (0, .ref b), (1, .ref hx), (2, .ref hm), (3, .ref o), (4, .int i)]) hx' hb d_LAW_955 hl (by decide) rfl (fun ls hl => ?_)
  refine lv_aload_n hx' hb d_LAW_957 rfl (lv_at hl 4 rfl) ?_
  refine law_M (As := []) (rest := []) (M' := (vi, vj, va, vb)) C0 hLX hLA (fun r cM => OM.ofRO (c_Mo_thrown l dC dI hm r cM nf vi vj va vb ht)) (cwV 0 hts (gdV m_7_105 m_7_106 m_7_107 m_1_10 m_7_108) rfl rfl rfl (by decide +kernel) ⟨Nat.le_trans (Nat.le_of_ble_eq_true rfl) hRf, Nat.le_trans (Nat.le_of_ble_eq_true rfl) hRl⟩) rfl hl.1 rfl (Nat.le_of_ble_eq_true rfl) d_LAW_958 ⟨hcell, hslot⟩ rfl (fun H locs hLA => ?_)
  refine lv_iload hx' hb d_LAW_961 (lv_at hl 1 rfl) ?_
  refine lv_icmp_eq (tgt := 968) hx' hb d_LAW_963 (by decide) (fun _ => ?_) (fun cc => absurd rfl cc)
  refine lv_iload hx' hb d_LAW_968 (lv_at hl 1 rfl) ?_
  refine lv_if_ne (tgt := 985) hx' hb d_LAW_970 (by decide) (fun ck => ?_) (fun ck => ?_)
  · refine lv_goto (tgt := 2175) hx' hb d_LAW_985 (by decide) ?_
    exact kk _ _ _ _ hLA (lv_sub hl [2, 3, 4, 5, 6] rfl)
  · refine lv_aload_n hx' hb d_LAW_973 rfl (lv_at hl 5 rfl) ?_
    refine lv_iconst (v := 0) hx' hb d_LAW_974 (by decide) ?_
    refine law_out C0 hLA d_LAW_975 ?_
    refine lv_iload hx' hb d_LAW_976 (lv_at hl 0 rfl) ?_
    refine lv_i2l hx' hb d_LAW_978 rfl ?_
    refine lc_eq (tgt := 985) hx' hb d_LAW_979 d_LAW_980 (by decide) (fun _ => ?_) (fun cc => absurd ((ha ck).trans (he ck)) cc)
    refine lv_goto (tgt := 2175) hx' hb d_LAW_985 (by decide) ?_
    exact kk _ _ _ _ hLA (lv_sub hl [2, 3, 4, 5, 6] rfl)
set_option maxRecDepth 100000 in
set_option maxHeartbeats 1000000 in
theorem law_name (C0 : Cx p s m meth c args R code "ZoneFilesLaw" 8 (some .boolean) 12 518) (hLX : LX s b L xs) (hno : NT l) (nf : Nat) {i : Int32} (h1 : vp_in (i + 1) L) (h2 : vp_in (i + 2) L) (h3 : vp_in (i + 3) L) (h4 : vp_in (i + 4) L) (hLA : LA dC dI s hx hm o S M a H locs) (hl : lv_has ls 8 [(0, .ref b), (1, .ref hx), (2, .ref hm), (3, .ref o), (4, .int i)]) {S' : CS} {k : Int32} {ans : Int64} {kc ks : Nat} (hc : cq_name nf S (xs (i + 1).toNatClampNeg) (((xs (i + 2).toNatClampNeg).toInt64 <<< ((32 : Int32).toInt64 &&& 63)) ||| ((xs (i + 3).toNatClampNeg).toInt64 &&& 4294967295)) (xs (i + 4).toNatClampNeg) = some (k, ans, S', kc, ks)) {r0 : Int32} {M' : MS} (hm1 : f_Mo_name nf (xs (i + 1).toNatClampNeg) (((xs (i + 2).toNatClampNeg).toInt64 <<< ((32 : Int32).toInt64 &&& 63)) ||| ((xs (i + 3).toNatClampNeg).toInt64 &&& 4294967295)) (xs (i + 4).toNatClampNeg) M.1 M.2.1 M.2.2.1 M.2.2.2 = some (r0, M')) (ht : f_Mo_thrown nf M'.1 M'.2.1 M'.2.2.1 M'.2.2.2 = some k) (he : k = 0 → ans = r0.toInt64) (hcell : cells + kc ≤ R.cells) (hslot : slots + ks ≤ R.slots)
    (kk : ∀ (H1 : Heap) (locs1 : List Loc) (a1 : Int64) (ls1 : Array Slot), LA dC dI s hx hm o S' M' a1 H1 locs1 → lv_has ls1 8 [(0, .ref b), (1, .ref hx), (2, .ref hm), (3, .ref o), (4, .int i)] → W p l e R s m args below meth c H1 locs1 (cells + kc) (slots + ks) Q (F0 m 2175 ls1 [])) : W p l e R s m args below meth c H locs cells slots Q (F0 m 988 ls []) := by
  obtain ⟨hx', hb, hr, hml, hown, hts, hlocks, hRf, hRl⟩ := id C0
  obtain ⟨vi, vj, va, vb⟩ := M'
  refine lv_aload_n hx' hb d_LAW_988 rfl (lv_at hl 1 rfl) ?_
  refine lv_aload_n hx' hb d_LAW_989 rfl (lv_at hl 0 rfl) ?_
  refine lv_iload hx' hb d_LAW_990 (lv_at hl 4 rfl) ?_
  refine lv_iconst (v := 1) hx' hb d_LAW_992 (by decide) ?_
  refine lv_iadd hx' hb d_LAW_993 ?_
  refine law_ld C0 hLX hLA h1 d_LAW_994 ?_
  refine lv_aload_n hx' hb d_LAW_995 rfl (lv_at hl 0 rfl) ?_
  refine lv_iload hx' hb d_LAW_996 (lv_at hl 4 rfl) ?_
  refine lv_iconst (v := 2) hx' hb d_LAW_998 (by decide) ?_
  refine lv_iadd hx' hb d_LAW_999 ?_
  refine law_ld C0 hLX hLA h2 d_LAW_1000 ?_
  refine lv_i2l hx' hb d_LAW_1001 rfl ?_
  refine lv_bipush (v := 32) hx' hb d_LAW_1002 (by decide) ?_
  refine lv_lshl hx' hb d_LAW_1004 rfl ?_
  refine lv_aload_n hx' hb d_LAW_1005 rfl (lv_at hl 0 rfl) ?_
  refine lv_iload hx' hb d_LAW_1006 (lv_at hl 4 rfl) ?_
  refine lv_iconst (v := 3) hx' hb d_LAW_1008 (by decide) ?_
  refine lv_iadd hx' hb d_LAW_1009 ?_
  refine law_ld C0 hLX hLA h3 d_LAW_1010 ?_
  refine lv_i2l hx' hb d_LAW_1011 rfl ?_
  refine lv_ldc2 (v := 4294967295) hx' hb hown (hts (.constantLong "ZoneFilesLaw" 97 4294967295) m_8_234) d_LAW_1012 ?_
  refine lv_land hx' hb d_LAW_1015 ?_
  refine lv_lor hx' hb d_LAW_1016 ?_
  refine lv_aload_n hx' hb d_LAW_1017 rfl (lv_at hl 0 rfl) ?_
  refine lv_iload hx' hb d_LAW_1018 (lv_at hl 4 rfl) ?_
  refine lv_iconst (v := 4) hx' hb d_LAW_1020 (by decide) ?_
  refine lv_iadd hx' hb d_LAW_1021 ?_
  refine law_ld C0 hLX hLA h4 d_LAW_1022 ?_
  refine lv_aload_n hx' hb d_LAW_1023 rfl (lv_at hl 3 rfl) ?_
  refine law_W (y := y_LW_name) (n := 5) (As := [.ref hx, .int (xs (i + 1).toNatClampNeg), .long (((xs (i + 2).toNatClampNeg).toInt64 <<< ((32 : Int32).toInt64 &&& 63)) ||| ((xs (i + 3).toNatClampNeg).toInt64 &&& 4294967295)), .int (xs (i + 4).toNatClampNeg), .ref o]) (rest := []) C0 hLX hLA (fun ad cA za zad zcA cO f => q_name l hno dC dI hx ad cA za zad zcA S nf (xs (i + 1).toNatClampNeg) (((xs (i + 2).toNatClampNeg).toInt64 <<< ((32 : Int32).toInt64 &&& 63)) ||| ((xs (i + 3).toNatClampNeg).toInt64 &&& 4294967295)) (xs (i + 4).toNatClampNeg) hc o cO f) m_5_45 m_5_46 m_1_0 m_5_47 (by decide +kernel) ⟨Nat.le_trans (Nat.le_of_ble_eq_true rfl) hRf, Nat.le_trans (Nat.le_of_ble_eq_true rfl) hRl⟩ ⟨Nat.le_trans (Nat.le_of_ble_eq_true rfl) hRf, Nat.le_trans (Nat.le_of_ble_eq_true rfl) hRl⟩ rfl hl.1 rfl (Nat.le_of_ble_eq_true rfl) d_LAW_1024 ⟨hcell, hslot⟩ (fun H locs a1 ha hLA => ?_)
  refine lv_istore (lv' := [(5, .int k), (0, .ref b), (1, .ref hx), (2, .ref hm), (3, .ref o), (4, .int i)]) hx' hb d_LAW_1027 hl (by decide) rfl (fun ls hl => ?_)
  refine lv_aload_n hx' hb d_LAW_1029 rfl (lv_at hl 3 rfl) ?_
  refine lv_aload_n hx' hb d_LAW_1030 rfl (lv_at hl 1 rfl) ?_
  refine lv_iload hx' hb d_LAW_1031 (lv_at hl 5 rfl) ?_
  refine lv_iconst (v := 1) hx' hb d_LAW_1033 (by decide) ?_
  refine lv_iadd hx' hb d_LAW_1034 ?_
  refine law_ld C0 hLX hLA h1 d_LAW_1035 ?_
  refine lv_aload_n hx' hb d_LAW_1036 rfl (lv_at hl 1 rfl) ?_
  refine lv_iload hx' hb d_LAW_1037 (lv_at hl 5 rfl) ?_
  refine lv_iconst (v := 2) hx' hb d_LAW_1039 (by decide) ?_
  refine lv_iadd hx' hb d_LAW_1040 ?_
  refine law_ld C0 hLX hLA h2 d_LAW_1041 ?_
  refine lv_i2l hx' hb d_LAW_1042 rfl ?_
  refine lv_bipush (v := 32) hx' hb d_LAW_1043 (by decide) ?_
  refine lv_lshl hx' hb d_LAW_1045 rfl ?_
  refine lv_aload_n hx' hb d_LAW_1046 rfl (lv_at hl 1 rfl) ?_
  refine lv_iload hx' hb d_LAW_1047 (lv_at hl 5 rfl) ?_
  refine lv_iconst (v := 3) hx' hb d_LAW_1049 (by decide) ?_
  refine lv_iadd hx' hb d_LAW_1050 ?_
  refine law_ld C0 hLX hLA h3 d_LAW_1051 ?_
  refine lv_i2l hx' hb d_LAW_1052 rfl ?_
  refine lv_ldc2 (v := 4294967295) hx' hb hown (hts (.constantLong "ZoneFilesLaw" 97 4294967295) m_8_234) d_LAW_1053 ?_
  refine lv_land hx' hb d_LAW_1056 ?_
  refine lv_lor hx' hb d_LAW_1057 ?_
  refine lv_aload_n hx' hb d_LAW_1058 rfl (lv_at hl 1 rfl) ?_
  refine lv_iload hx' hb d_LAW_1059 (lv_at hl 5 rfl) ?_
  refine lv_iconst (v := 4) hx' hb d_LAW_1061 (by decide) ?_
  refine lv_iadd hx' hb d_LAW_1062 ?_
  refine law_ld C0 hLX hLA h4 d_LAW_1063 ?_
  refine law_M (As := [.int (xs (i + 1).toNatClampNeg), .long (((xs (i + 2).toNatClampNeg).toInt64 <<< ((32 : Int32).toInt64 &&& 63)) ||| ((xs (i + 3).toNatClampNeg).toInt64 &&& 4294967295)), .int (xs (i + 4).toNatClampNeg)]) (rest := []) (M' := (vi, vj, va, vb)) C0 hLX hLA (fun r cM => OM.ofMo (fun sz => c_Mo_name l dC dI hm r cM sz nf (xs (i + 1).toNatClampNeg) (((xs (i + 2).toNatClampNeg).toInt64 <<< ((32 : Int32).toInt64 &&& 63)) ||| ((xs (i + 3).toNatClampNeg).toInt64 &&& 4294967295)) (xs (i + 4).toNatClampNeg) M.1 M.2.1 M.2.2.1 M.2.2.2 hm1)) (cwV 3 hts (gdV m_8_54 m_8_55 m_8_56 m_1_10 m_8_57) rfl rfl rfl (by decide +kernel) ⟨Nat.le_trans (Nat.le_of_ble_eq_true rfl) hRf, Nat.le_trans (Nat.le_of_ble_eq_true rfl) hRl⟩) rfl hl.1 rfl (Nat.le_of_ble_eq_true rfl) d_LAW_1064 ⟨hcell, hslot⟩ rfl (fun H locs hLA => ?_)
  refine lv_istore (lv' := [(6, .int r0), (5, .int k), (0, .ref b), (1, .ref hx), (2, .ref hm), (3, .ref o), (4, .int i)]) hx' hb d_LAW_1067 hl (by decide) rfl (fun ls hl => ?_)
  refine lv_aload_n hx' hb d_LAW_1069 rfl (lv_at hl 4 rfl) ?_
  refine law_M (As := []) (rest := []) (M' := (vi, vj, va, vb)) C0 hLX hLA (fun r cM => OM.ofRO (c_Mo_thrown l dC dI hm r cM nf vi vj va vb ht)) (cwV 0 hts (gdV m_7_105 m_7_106 m_7_107 m_1_10 m_7_108) rfl rfl rfl (by decide +kernel) ⟨Nat.le_trans (Nat.le_of_ble_eq_true rfl) hRf, Nat.le_trans (Nat.le_of_ble_eq_true rfl) hRl⟩) rfl hl.1 rfl (Nat.le_of_ble_eq_true rfl) d_LAW_1070 ⟨hcell, hslot⟩ rfl (fun H locs hLA => ?_)
  refine lv_iload hx' hb d_LAW_1073 (lv_at hl 1 rfl) ?_
  refine lv_icmp_eq (tgt := 1080) hx' hb d_LAW_1075 (by decide) (fun _ => ?_) (fun cc => absurd rfl cc)
  refine lv_iload hx' hb d_LAW_1080 (lv_at hl 1 rfl) ?_
  refine lv_if_ne (tgt := 1097) hx' hb d_LAW_1082 (by decide) (fun ck => ?_) (fun ck => ?_)
  · refine lv_goto (tgt := 2175) hx' hb d_LAW_1097 (by decide) ?_
    exact kk _ _ _ _ hLA (lv_sub hl [2, 3, 4, 5, 6] rfl)
  · refine lv_aload_n hx' hb d_LAW_1085 rfl (lv_at hl 5 rfl) ?_
    refine lv_iconst (v := 0) hx' hb d_LAW_1086 (by decide) ?_
    refine law_out C0 hLA d_LAW_1087 ?_
    refine lv_iload hx' hb d_LAW_1088 (lv_at hl 0 rfl) ?_
    refine lv_i2l hx' hb d_LAW_1090 rfl ?_
    refine lc_eq (tgt := 1097) hx' hb d_LAW_1091 d_LAW_1092 (by decide) (fun _ => ?_) (fun cc => absurd ((ha ck).trans (he ck)) cc)
    refine lv_goto (tgt := 2175) hx' hb d_LAW_1097 (by decide) ?_
    exact kk _ _ _ _ hLA (lv_sub hl [2, 3, 4, 5, 6] rfl)
set_option maxRecDepth 100000 in
set_option maxHeartbeats 1000000 in
theorem law_clock (C0 : Cx p s m meth c args R code "ZoneFilesLaw" 8 (some .boolean) 12 518) (hLX : LX s b L xs) (hno : NT l) (nf : Nat) {i : Int32} (h1 : vp_in (i + 1) L) (h2 : vp_in (i + 2) L) (h3 : vp_in (i + 3) L) (hLA : LA dC dI s hx hm o S M a H locs) (hl : lv_has ls 8 [(0, .ref b), (1, .ref hx), (2, .ref hm), (3, .ref o), (4, .int i)]) {S' : CS} {k : Int32} {ans : Int64} {kc ks : Nat} (hc : cq_clock nf S (((xs (i + 1).toNatClampNeg).toInt64 <<< ((32 : Int32).toInt64 &&& 63)) ||| ((xs (i + 2).toNatClampNeg).toInt64 &&& 4294967295)) (xs (i + 3).toNatClampNeg) = some (k, ans, S', kc, ks)) {r0 : Int64} {M' : MS} (hm1 : f_Mo_clock nf (((xs (i + 1).toNatClampNeg).toInt64 <<< ((32 : Int32).toInt64 &&& 63)) ||| ((xs (i + 2).toNatClampNeg).toInt64 &&& 4294967295)) (xs (i + 3).toNatClampNeg) M.1 M.2.1 M.2.2.1 M.2.2.2 = some (r0, M')) (ht : f_Mo_thrown nf M'.1 M'.2.1 M'.2.2.1 M'.2.2.2 = some k) (he : k = 0 → ans = r0) (hcell : cells + kc ≤ R.cells) (hslot : slots + ks ≤ R.slots)
    (kk : ∀ (H1 : Heap) (locs1 : List Loc) (a1 : Int64) (ls1 : Array Slot), LA dC dI s hx hm o S' M' a1 H1 locs1 → lv_has ls1 8 [(0, .ref b), (1, .ref hx), (2, .ref hm), (3, .ref o), (4, .int i)] → W p l e R s m args below meth c H1 locs1 (cells + kc) (slots + ks) Q (F0 m 2175 ls1 [])) : W p l e R s m args below meth c H locs cells slots Q (F0 m 1100 ls []) := by
  obtain ⟨hx', hb, hr, hml, hown, hts, hlocks, hRf, hRl⟩ := id C0
  obtain ⟨vi, vj, va, vb⟩ := M'
  refine lv_aload_n hx' hb d_LAW_1100 rfl (lv_at hl 1 rfl) ?_
  refine lv_aload_n hx' hb d_LAW_1101 rfl (lv_at hl 0 rfl) ?_
  refine lv_iload hx' hb d_LAW_1102 (lv_at hl 4 rfl) ?_
  refine lv_iconst (v := 1) hx' hb d_LAW_1104 (by decide) ?_
  refine lv_iadd hx' hb d_LAW_1105 ?_
  refine law_ld C0 hLX hLA h1 d_LAW_1106 ?_
  refine lv_i2l hx' hb d_LAW_1107 rfl ?_
  refine lv_bipush (v := 32) hx' hb d_LAW_1108 (by decide) ?_
  refine lv_lshl hx' hb d_LAW_1110 rfl ?_
  refine lv_aload_n hx' hb d_LAW_1111 rfl (lv_at hl 0 rfl) ?_
  refine lv_iload hx' hb d_LAW_1112 (lv_at hl 4 rfl) ?_
  refine lv_iconst (v := 2) hx' hb d_LAW_1114 (by decide) ?_
  refine lv_iadd hx' hb d_LAW_1115 ?_
  refine law_ld C0 hLX hLA h2 d_LAW_1116 ?_
  refine lv_i2l hx' hb d_LAW_1117 rfl ?_
  refine lv_ldc2 (v := 4294967295) hx' hb hown (hts (.constantLong "ZoneFilesLaw" 97 4294967295) m_8_234) d_LAW_1118 ?_
  refine lv_land hx' hb d_LAW_1121 ?_
  refine lv_lor hx' hb d_LAW_1122 ?_
  refine lv_aload_n hx' hb d_LAW_1123 rfl (lv_at hl 0 rfl) ?_
  refine lv_iload hx' hb d_LAW_1124 (lv_at hl 4 rfl) ?_
  refine lv_iconst (v := 3) hx' hb d_LAW_1126 (by decide) ?_
  refine lv_iadd hx' hb d_LAW_1127 ?_
  refine law_ld C0 hLX hLA h3 d_LAW_1128 ?_
  refine lv_aload_n hx' hb d_LAW_1129 rfl (lv_at hl 3 rfl) ?_
  refine law_W (y := y_LW_clock) (n := 4) (As := [.ref hx, .long (((xs (i + 1).toNatClampNeg).toInt64 <<< ((32 : Int32).toInt64 &&& 63)) ||| ((xs (i + 2).toNatClampNeg).toInt64 &&& 4294967295)), .int (xs (i + 3).toNatClampNeg), .ref o]) (rest := []) C0 hLX hLA (fun ad cA za zad zcA cO f => q_clock l hno dC dI hx ad cA za zad zcA S nf (((xs (i + 1).toNatClampNeg).toInt64 <<< ((32 : Int32).toInt64 &&& 63)) ||| ((xs (i + 2).toNatClampNeg).toInt64 &&& 4294967295)) (xs (i + 3).toNatClampNeg) hc o cO f) m_5_70 m_5_71 m_1_0 m_5_72 (by decide +kernel) ⟨Nat.le_trans (Nat.le_of_ble_eq_true rfl) hRf, Nat.le_trans (Nat.le_of_ble_eq_true rfl) hRl⟩ ⟨Nat.le_trans (Nat.le_of_ble_eq_true rfl) hRf, Nat.le_trans (Nat.le_of_ble_eq_true rfl) hRl⟩ rfl hl.1 rfl (Nat.le_of_ble_eq_true rfl) d_LAW_1130 ⟨hcell, hslot⟩ (fun H locs a1 ha hLA => ?_)
  refine lv_istore (lv' := [(5, .int k), (0, .ref b), (1, .ref hx), (2, .ref hm), (3, .ref o), (4, .int i)]) hx' hb d_LAW_1133 hl (by decide) rfl (fun ls hl => ?_)
  refine lv_aload_n hx' hb d_LAW_1135 rfl (lv_at hl 3 rfl) ?_
  refine lv_aload_n hx' hb d_LAW_1136 rfl (lv_at hl 1 rfl) ?_
  refine lv_iload hx' hb d_LAW_1137 (lv_at hl 5 rfl) ?_
  refine lv_iconst (v := 1) hx' hb d_LAW_1139 (by decide) ?_
  refine lv_iadd hx' hb d_LAW_1140 ?_
  refine law_ld C0 hLX hLA h1 d_LAW_1141 ?_
  refine lv_i2l hx' hb d_LAW_1142 rfl ?_
  refine lv_bipush (v := 32) hx' hb d_LAW_1143 (by decide) ?_
  refine lv_lshl hx' hb d_LAW_1145 rfl ?_
  refine lv_aload_n hx' hb d_LAW_1146 rfl (lv_at hl 1 rfl) ?_
  refine lv_iload hx' hb d_LAW_1147 (lv_at hl 5 rfl) ?_
  refine lv_iconst (v := 2) hx' hb d_LAW_1149 (by decide) ?_
  refine lv_iadd hx' hb d_LAW_1150 ?_
  refine law_ld C0 hLX hLA h2 d_LAW_1151 ?_
  refine lv_i2l hx' hb d_LAW_1152 rfl ?_
  refine lv_ldc2 (v := 4294967295) hx' hb hown (hts (.constantLong "ZoneFilesLaw" 97 4294967295) m_8_234) d_LAW_1153 ?_
  refine lv_land hx' hb d_LAW_1156 ?_
  refine lv_lor hx' hb d_LAW_1157 ?_
  refine lv_aload_n hx' hb d_LAW_1158 rfl (lv_at hl 1 rfl) ?_
  refine lv_iload hx' hb d_LAW_1159 (lv_at hl 5 rfl) ?_
  refine lv_iconst (v := 3) hx' hb d_LAW_1161 (by decide) ?_
  refine lv_iadd hx' hb d_LAW_1162 ?_
  refine law_ld C0 hLX hLA h3 d_LAW_1163 ?_
  refine law_M (As := [.long (((xs (i + 1).toNatClampNeg).toInt64 <<< ((32 : Int32).toInt64 &&& 63)) ||| ((xs (i + 2).toNatClampNeg).toInt64 &&& 4294967295)), .int (xs (i + 3).toNatClampNeg)]) (rest := []) (M' := (vi, vj, va, vb)) C0 hLX hLA (fun r cM => OM.ofMo (fun sz => c_Mo_clock l dC dI hm r cM sz nf (((xs (i + 1).toNatClampNeg).toInt64 <<< ((32 : Int32).toInt64 &&& 63)) ||| ((xs (i + 2).toNatClampNeg).toInt64 &&& 4294967295)) (xs (i + 3).toNatClampNeg) M.1 M.2.1 M.2.2.1 M.2.2.2 hm1)) (cwV 2 hts (gdV m_8_28 m_8_29 m_8_30 m_1_10 m_8_31) rfl rfl rfl (by decide +kernel) ⟨Nat.le_trans (Nat.le_of_ble_eq_true rfl) hRf, Nat.le_trans (Nat.le_of_ble_eq_true rfl) hRl⟩) rfl hl.1 rfl (Nat.le_of_ble_eq_true rfl) d_LAW_1164 ⟨hcell, hslot⟩ rfl (fun H locs hLA => ?_)
  refine lv_lstore (lv' := [(6, .long r0), (5, .int k), (0, .ref b), (1, .ref hx), (2, .ref hm), (3, .ref o), (4, .int i)]) hx' hb d_LAW_1167 hl (by decide) rfl (fun ls hl => ?_)
  refine lv_aload_n hx' hb d_LAW_1169 rfl (lv_at hl 4 rfl) ?_
  refine law_M (As := []) (rest := []) (M' := (vi, vj, va, vb)) C0 hLX hLA (fun r cM => OM.ofRO (c_Mo_thrown l dC dI hm r cM nf vi vj va vb ht)) (cwV 0 hts (gdV m_7_105 m_7_106 m_7_107 m_1_10 m_7_108) rfl rfl rfl (by decide +kernel) ⟨Nat.le_trans (Nat.le_of_ble_eq_true rfl) hRf, Nat.le_trans (Nat.le_of_ble_eq_true rfl) hRl⟩) rfl hl.1 rfl (Nat.le_of_ble_eq_true rfl) d_LAW_1170 ⟨hcell, hslot⟩ rfl (fun H locs hLA => ?_)
  refine lv_iload hx' hb d_LAW_1173 (lv_at hl 1 rfl) ?_
  refine lv_icmp_eq (tgt := 1180) hx' hb d_LAW_1175 (by decide) (fun _ => ?_) (fun cc => absurd rfl cc)
  refine lv_iload hx' hb d_LAW_1180 (lv_at hl 1 rfl) ?_
  refine lv_if_ne (tgt := 1196) hx' hb d_LAW_1182 (by decide) (fun ck => ?_) (fun ck => ?_)
  · refine lv_goto (tgt := 2175) hx' hb d_LAW_1196 (by decide) ?_
    exact kk _ _ _ _ hLA (lv_sub hl [2, 3, 4, 5, 6] rfl)
  · refine lv_aload_n hx' hb d_LAW_1185 rfl (lv_at hl 5 rfl) ?_
    refine lv_iconst (v := 0) hx' hb d_LAW_1186 (by decide) ?_
    refine law_out C0 hLA d_LAW_1187 ?_
    refine lv_lload hx' hb d_LAW_1188 (lv_at hl 0 rfl) ?_
    refine lc_eq (tgt := 1196) hx' hb d_LAW_1190 d_LAW_1191 (by decide) (fun _ => ?_) (fun cc => absurd ((ha ck).trans (he ck)) cc)
    refine lv_goto (tgt := 2175) hx' hb d_LAW_1196 (by decide) ?_
    exact kk _ _ _ _ hLA (lv_sub hl [2, 3, 4, 5, 6] rfl)
set_option maxRecDepth 100000 in
set_option maxHeartbeats 1000000 in
theorem law_seconds (C0 : Cx p s m meth c args R code "ZoneFilesLaw" 8 (some .boolean) 12 518) (hLX : LX s b L xs) (hno : NT l) (nf : Nat) {i : Int32} (h1 : vp_in (i + 1) L) (h2 : vp_in (i + 2) L) (h3 : vp_in (i + 3) L) (h4 : vp_in (i + 4) L) (h5 : vp_in (i + 5) L) (hLA : LA dC dI s hx hm o S M a H locs) (hl : lv_has ls 8 [(0, .ref b), (1, .ref hx), (2, .ref hm), (3, .ref o), (4, .int i)]) {S' : CS} {k : Int32} {ans : Int64} {kc ks : Nat} (hc : cq_seconds nf S (((xs (i + 1).toNatClampNeg).toInt64 <<< ((32 : Int32).toInt64 &&& 63)) ||| ((xs (i + 2).toNatClampNeg).toInt64 &&& 4294967295)) (xs (i + 3).toNatClampNeg) (xs (i + 4).toNatClampNeg) (xs (i + 5).toNatClampNeg) = some (k, ans, S', kc, ks)) {r0 : Int64} {M' : MS} (hm1 : f_Mo_seconds nf (((xs (i + 1).toNatClampNeg).toInt64 <<< ((32 : Int32).toInt64 &&& 63)) ||| ((xs (i + 2).toNatClampNeg).toInt64 &&& 4294967295)) (xs (i + 3).toNatClampNeg) (xs (i + 4).toNatClampNeg) (xs (i + 5).toNatClampNeg) M.1 M.2.1 M.2.2.1 M.2.2.2 = some (r0, M')) (ht : f_Mo_thrown nf M'.1 M'.2.1 M'.2.2.1 M'.2.2.2 = some k) (he : k = 0 → ans = r0) (hcell : cells + kc ≤ R.cells) (hslot : slots + ks ≤ R.slots)
    (kk : ∀ (H1 : Heap) (locs1 : List Loc) (a1 : Int64) (ls1 : Array Slot), LA dC dI s hx hm o S' M' a1 H1 locs1 → lv_has ls1 8 [(0, .ref b), (1, .ref hx), (2, .ref hm), (3, .ref o), (4, .int i)] → W p l e R s m args below meth c H1 locs1 (cells + kc) (slots + ks) Q (F0 m 2175 ls1 [])) : W p l e R s m args below meth c H locs cells slots Q (F0 m 1199 ls []) := by
  obtain ⟨hx', hb, hr, hml, hown, hts, hlocks, hRf, hRl⟩ := id C0
  obtain ⟨vi, vj, va, vb⟩ := M'
  refine lv_aload_n hx' hb d_LAW_1199 rfl (lv_at hl 1 rfl) ?_
  refine lv_aload_n hx' hb d_LAW_1200 rfl (lv_at hl 0 rfl) ?_
  refine lv_iload hx' hb d_LAW_1201 (lv_at hl 4 rfl) ?_
  refine lv_iconst (v := 1) hx' hb d_LAW_1203 (by decide) ?_
  refine lv_iadd hx' hb d_LAW_1204 ?_
  refine law_ld C0 hLX hLA h1 d_LAW_1205 ?_
  refine lv_i2l hx' hb d_LAW_1206 rfl ?_
  refine lv_bipush (v := 32) hx' hb d_LAW_1207 (by decide) ?_
  refine lv_lshl hx' hb d_LAW_1209 rfl ?_
  refine lv_aload_n hx' hb d_LAW_1210 rfl (lv_at hl 0 rfl) ?_
  refine lv_iload hx' hb d_LAW_1211 (lv_at hl 4 rfl) ?_
  refine lv_iconst (v := 2) hx' hb d_LAW_1213 (by decide) ?_
  refine lv_iadd hx' hb d_LAW_1214 ?_
  refine law_ld C0 hLX hLA h2 d_LAW_1215 ?_
  refine lv_i2l hx' hb d_LAW_1216 rfl ?_
  refine lv_ldc2 (v := 4294967295) hx' hb hown (hts (.constantLong "ZoneFilesLaw" 97 4294967295) m_8_234) d_LAW_1217 ?_
  refine lv_land hx' hb d_LAW_1220 ?_
  refine lv_lor hx' hb d_LAW_1221 ?_
  refine lv_aload_n hx' hb d_LAW_1222 rfl (lv_at hl 0 rfl) ?_
  refine lv_iload hx' hb d_LAW_1223 (lv_at hl 4 rfl) ?_
  refine lv_iconst (v := 3) hx' hb d_LAW_1225 (by decide) ?_
  refine lv_iadd hx' hb d_LAW_1226 ?_
  refine law_ld C0 hLX hLA h3 d_LAW_1227 ?_
  refine lv_aload_n hx' hb d_LAW_1228 rfl (lv_at hl 0 rfl) ?_
  refine lv_iload hx' hb d_LAW_1229 (lv_at hl 4 rfl) ?_
  refine lv_iconst (v := 4) hx' hb d_LAW_1231 (by decide) ?_
  refine lv_iadd hx' hb d_LAW_1232 ?_
  refine law_ld C0 hLX hLA h4 d_LAW_1233 ?_
  refine lv_aload_n hx' hb d_LAW_1234 rfl (lv_at hl 0 rfl) ?_
  refine lv_iload hx' hb d_LAW_1235 (lv_at hl 4 rfl) ?_
  refine lv_iconst (v := 5) hx' hb d_LAW_1237 (by decide) ?_
  refine lv_iadd hx' hb d_LAW_1238 ?_
  refine law_ld C0 hLX hLA h5 d_LAW_1239 ?_
  refine lv_aload_n hx' hb d_LAW_1240 rfl (lv_at hl 3 rfl) ?_
  refine law_W (y := y_LW_seconds) (n := 6) (As := [.ref hx, .long (((xs (i + 1).toNatClampNeg).toInt64 <<< ((32 : Int32).toInt64 &&& 63)) ||| ((xs (i + 2).toNatClampNeg).toInt64 &&& 4294967295)), .int (xs (i + 3).toNatClampNeg), .int (xs (i + 4).toNatClampNeg), .int (xs (i + 5).toNatClampNeg), .ref o]) (rest := []) C0 hLX hLA (fun ad cA za zad zcA cO f => q_seconds l hno dC dI hx ad cA za zad zcA S nf (((xs (i + 1).toNatClampNeg).toInt64 <<< ((32 : Int32).toInt64 &&& 63)) ||| ((xs (i + 2).toNatClampNeg).toInt64 &&& 4294967295)) (xs (i + 3).toNatClampNeg) (xs (i + 4).toNatClampNeg) (xs (i + 5).toNatClampNeg) hc o cO f) m_5_95 m_5_96 m_1_0 m_5_97 (by decide +kernel) ⟨Nat.le_trans (Nat.le_of_ble_eq_true rfl) hRf, Nat.le_trans (Nat.le_of_ble_eq_true rfl) hRl⟩ ⟨Nat.le_trans (Nat.le_of_ble_eq_true rfl) hRf, Nat.le_trans (Nat.le_of_ble_eq_true rfl) hRl⟩ rfl hl.1 rfl (Nat.le_of_ble_eq_true rfl) d_LAW_1241 ⟨hcell, hslot⟩ (fun H locs a1 ha hLA => ?_)
  refine lv_istore (lv' := [(5, .int k), (0, .ref b), (1, .ref hx), (2, .ref hm), (3, .ref o), (4, .int i)]) hx' hb d_LAW_1244 hl (by decide) rfl (fun ls hl => ?_)
  refine lv_aload_n hx' hb d_LAW_1246 rfl (lv_at hl 3 rfl) ?_
  refine lv_aload_n hx' hb d_LAW_1247 rfl (lv_at hl 1 rfl) ?_
  refine lv_iload hx' hb d_LAW_1248 (lv_at hl 5 rfl) ?_
  refine lv_iconst (v := 1) hx' hb d_LAW_1250 (by decide) ?_
  refine lv_iadd hx' hb d_LAW_1251 ?_
  refine law_ld C0 hLX hLA h1 d_LAW_1252 ?_
  refine lv_i2l hx' hb d_LAW_1253 rfl ?_
  refine lv_bipush (v := 32) hx' hb d_LAW_1254 (by decide) ?_
  refine lv_lshl hx' hb d_LAW_1256 rfl ?_
  refine lv_aload_n hx' hb d_LAW_1257 rfl (lv_at hl 1 rfl) ?_
  refine lv_iload hx' hb d_LAW_1258 (lv_at hl 5 rfl) ?_
  refine lv_iconst (v := 2) hx' hb d_LAW_1260 (by decide) ?_
  refine lv_iadd hx' hb d_LAW_1261 ?_
  refine law_ld C0 hLX hLA h2 d_LAW_1262 ?_
  refine lv_i2l hx' hb d_LAW_1263 rfl ?_
  refine lv_ldc2 (v := 4294967295) hx' hb hown (hts (.constantLong "ZoneFilesLaw" 97 4294967295) m_8_234) d_LAW_1264 ?_
  refine lv_land hx' hb d_LAW_1267 ?_
  refine lv_lor hx' hb d_LAW_1268 ?_
  refine lv_aload_n hx' hb d_LAW_1269 rfl (lv_at hl 1 rfl) ?_
  refine lv_iload hx' hb d_LAW_1270 (lv_at hl 5 rfl) ?_
  refine lv_iconst (v := 3) hx' hb d_LAW_1272 (by decide) ?_
  refine lv_iadd hx' hb d_LAW_1273 ?_
  refine law_ld C0 hLX hLA h3 d_LAW_1274 ?_
  refine lv_aload_n hx' hb d_LAW_1275 rfl (lv_at hl 1 rfl) ?_
  refine lv_iload hx' hb d_LAW_1276 (lv_at hl 5 rfl) ?_
  refine lv_iconst (v := 4) hx' hb d_LAW_1278 (by decide) ?_
  refine lv_iadd hx' hb d_LAW_1279 ?_
  refine law_ld C0 hLX hLA h4 d_LAW_1280 ?_
  refine lv_aload_n hx' hb d_LAW_1281 rfl (lv_at hl 1 rfl) ?_
  refine lv_iload hx' hb d_LAW_1282 (lv_at hl 5 rfl) ?_
  refine lv_iconst (v := 5) hx' hb d_LAW_1284 (by decide) ?_
  refine lv_iadd hx' hb d_LAW_1285 ?_
  refine law_ld C0 hLX hLA h5 d_LAW_1286 ?_
  refine law_M (As := [.long (((xs (i + 1).toNatClampNeg).toInt64 <<< ((32 : Int32).toInt64 &&& 63)) ||| ((xs (i + 2).toNatClampNeg).toInt64 &&& 4294967295)), .int (xs (i + 3).toNatClampNeg), .int (xs (i + 4).toNatClampNeg), .int (xs (i + 5).toNatClampNeg)]) (rest := []) (M' := (vi, vj, va, vb)) C0 hLX hLA (fun r cM => OM.ofMo (fun sz => c_Mo_seconds l dC dI hm r cM sz nf (((xs (i + 1).toNatClampNeg).toInt64 <<< ((32 : Int32).toInt64 &&& 63)) ||| ((xs (i + 2).toNatClampNeg).toInt64 &&& 4294967295)) (xs (i + 3).toNatClampNeg) (xs (i + 4).toNatClampNeg) (xs (i + 5).toNatClampNeg) M.1 M.2.1 M.2.2.1 M.2.2.2 hm1)) (cwV 4 hts (gdV m_8_34 m_8_35 m_8_36 m_1_10 m_8_37) rfl rfl rfl (by decide +kernel) ⟨Nat.le_trans (Nat.le_of_ble_eq_true rfl) hRf, Nat.le_trans (Nat.le_of_ble_eq_true rfl) hRl⟩) rfl hl.1 rfl (Nat.le_of_ble_eq_true rfl) d_LAW_1287 ⟨hcell, hslot⟩ rfl (fun H locs hLA => ?_)
  refine lv_lstore (lv' := [(6, .long r0), (5, .int k), (0, .ref b), (1, .ref hx), (2, .ref hm), (3, .ref o), (4, .int i)]) hx' hb d_LAW_1290 hl (by decide) rfl (fun ls hl => ?_)
  refine lv_aload_n hx' hb d_LAW_1292 rfl (lv_at hl 4 rfl) ?_
  refine law_M (As := []) (rest := []) (M' := (vi, vj, va, vb)) C0 hLX hLA (fun r cM => OM.ofRO (c_Mo_thrown l dC dI hm r cM nf vi vj va vb ht)) (cwV 0 hts (gdV m_7_105 m_7_106 m_7_107 m_1_10 m_7_108) rfl rfl rfl (by decide +kernel) ⟨Nat.le_trans (Nat.le_of_ble_eq_true rfl) hRf, Nat.le_trans (Nat.le_of_ble_eq_true rfl) hRl⟩) rfl hl.1 rfl (Nat.le_of_ble_eq_true rfl) d_LAW_1293 ⟨hcell, hslot⟩ rfl (fun H locs hLA => ?_)
  refine lv_iload hx' hb d_LAW_1296 (lv_at hl 1 rfl) ?_
  refine lv_icmp_eq (tgt := 1303) hx' hb d_LAW_1298 (by decide) (fun _ => ?_) (fun cc => absurd rfl cc)
  refine lv_iload hx' hb d_LAW_1303 (lv_at hl 1 rfl) ?_
  refine lv_if_ne (tgt := 1319) hx' hb d_LAW_1305 (by decide) (fun ck => ?_) (fun ck => ?_)
  · refine lv_goto (tgt := 2175) hx' hb d_LAW_1319 (by decide) ?_
    exact kk _ _ _ _ hLA (lv_sub hl [2, 3, 4, 5, 6] rfl)
  · refine lv_aload_n hx' hb d_LAW_1308 rfl (lv_at hl 5 rfl) ?_
    refine lv_iconst (v := 0) hx' hb d_LAW_1309 (by decide) ?_
    refine law_out C0 hLA d_LAW_1310 ?_
    refine lv_lload hx' hb d_LAW_1311 (lv_at hl 0 rfl) ?_
    refine lc_eq (tgt := 1319) hx' hb d_LAW_1313 d_LAW_1314 (by decide) (fun _ => ?_) (fun cc => absurd ((ha ck).trans (he ck)) cc)
    refine lv_goto (tgt := 2175) hx' hb d_LAW_1319 (by decide) ?_
    exact kk _ _ _ _ hLA (lv_sub hl [2, 3, 4, 5, 6] rfl)
end
