theorem dL_law__822 : decode cL_law_ 822 = .ok (.aload_n 2, 1) := by decide +kernel
theorem dL_law__823 : decode cL_law_ 823 = .ok (.aload_n 0, 1) := by decide +kernel
theorem dL_law__824 : decode cL_law_ 824 = .ok (.iload 4, 2) := by decide +kernel
theorem dL_law__826 : decode cL_law_ 826 = .ok (.iconst 1, 1) := by decide +kernel
theorem dL_law__827 : decode cL_law_ 827 = .ok (.iadd, 1) := by decide +kernel
theorem dL_law__828 : decode cL_law_ 828 = .ok (.iaload, 1) := by decide +kernel
theorem dL_law__829 : decode cL_law_ 829 = .ok (.aload_n 0, 1) := by decide +kernel
theorem dL_law__830 : decode cL_law_ 830 = .ok (.iload 4, 2) := by decide +kernel
theorem dL_law__832 : decode cL_law_ 832 = .ok (.iconst 2, 1) := by decide +kernel
theorem dL_law__833 : decode cL_law_ 833 = .ok (.iadd, 1) := by decide +kernel
theorem dL_law__834 : decode cL_law_ 834 = .ok (.iaload, 1) := by decide +kernel
theorem dL_law__835 : decode cL_law_ 835 = .ok (.invokevirtual 170, 3) := by decide +kernel
theorem dL_law__838 : decode cL_law_ 838 = .ok (.istore 6, 2) := by decide +kernel
theorem dL_law__840 : decode cL_law_ 840 = .ok (.aload_n 2, 1) := by decide +kernel
theorem dL_law__841 : decode cL_law_ 841 = .ok (.invokevirtual 134, 3) := by decide +kernel
theorem dL_law__844 : decode cL_law_ 844 = .ok (.iload 5, 2) := by decide +kernel
theorem dL_law__846 : decode cL_law_ 846 = .ok (.if_icmp .eq 5, 3) := by decide +kernel
theorem dL_law__849 : decode cL_law_ 849 = .ok (.iconst 0, 1) := by decide +kernel
theorem dL_law__850 : decode cL_law_ 850 = .ok (.ireturn, 1) := by decide +kernel
theorem dL_law__851 : decode cL_law_ 851 = .ok (.iload 5, 2) := by decide +kernel
theorem dL_law__853 : decode cL_law_ 853 = .ok (.ifCond .ne 15, 3) := by decide +kernel
theorem dL_law__856 : decode cL_law_ 856 = .ok (.aload_n 3, 1) := by decide +kernel
theorem dL_law__857 : decode cL_law_ 857 = .ok (.iconst 0, 1) := by decide +kernel
theorem dL_law__858 : decode cL_law_ 858 = .ok (.laload, 1) := by decide +kernel
theorem dL_law__859 : decode cL_law_ 859 = .ok (.iload 6, 2) := by decide +kernel
theorem dL_law__861 : decode cL_law_ 861 = .ok (.i2l, 1) := by decide +kernel
theorem dL_law__862 : decode cL_law_ 862 = .ok (.lcmp, 1) := by decide +kernel
theorem dL_law__863 : decode cL_law_ 863 = .ok (.ifCond .eq 5, 3) := by decide +kernel
theorem dL_law__866 : decode cL_law_ 866 = .ok (.iconst 0, 1) := by decide +kernel
theorem dL_law__867 : decode cL_law_ 867 = .ok (.ireturn, 1) := by decide +kernel
theorem dL_law__868 : decode cL_law_ 868 = .ok (.goto 1789, 3) := by decide +kernel
theorem dL_law__871 : decode cL_law_ 871 = .ok (.aload_n 1, 1) := by decide +kernel
theorem dL_law__872 : decode cL_law_ 872 = .ok (.aload_n 0, 1) := by decide +kernel
theorem dL_law__873 : decode cL_law_ 873 = .ok (.iload 4, 2) := by decide +kernel
theorem dL_law__875 : decode cL_law_ 875 = .ok (.iconst 1, 1) := by decide +kernel
theorem dL_law__876 : decode cL_law_ 876 = .ok (.iadd, 1) := by decide +kernel
theorem dL_law__877 : decode cL_law_ 877 = .ok (.iaload, 1) := by decide +kernel
theorem dL_law__878 : decode cL_law_ 878 = .ok (.aload_n 0, 1) := by decide +kernel
theorem dL_law__879 : decode cL_law_ 879 = .ok (.iload 4, 2) := by decide +kernel
theorem dL_law__881 : decode cL_law_ 881 = .ok (.iconst 2, 1) := by decide +kernel
theorem dL_law__882 : decode cL_law_ 882 = .ok (.iadd, 1) := by decide +kernel
theorem dL_law__883 : decode cL_law_ 883 = .ok (.iaload, 1) := by decide +kernel
theorem dL_law__884 : decode cL_law_ 884 = .ok (.aload_n 3, 1) := by decide +kernel
theorem dL_law__885 : decode cL_law_ 885 = .ok (.invokestatic 171, 3) := by decide +kernel
theorem dL_law__888 : decode cL_law_ 888 = .ok (.istore 5, 2) := by decide +kernel
theorem dL_law__890 : decode cL_law_ 890 = .ok (.aload_n 2, 1) := by decide +kernel
theorem dL_law__891 : decode cL_law_ 891 = .ok (.aload_n 0, 1) := by decide +kernel
theorem dL_law__892 : decode cL_law_ 892 = .ok (.iload 4, 2) := by decide +kernel
theorem dL_law__894 : decode cL_law_ 894 = .ok (.iconst 1, 1) := by decide +kernel
theorem dL_law__895 : decode cL_law_ 895 = .ok (.iadd, 1) := by decide +kernel
theorem dL_law__896 : decode cL_law_ 896 = .ok (.iaload, 1) := by decide +kernel
theorem dL_law__897 : decode cL_law_ 897 = .ok (.aload_n 0, 1) := by decide +kernel
theorem dL_law__898 : decode cL_law_ 898 = .ok (.iload 4, 2) := by decide +kernel
theorem dL_law__900 : decode cL_law_ 900 = .ok (.iconst 2, 1) := by decide +kernel
theorem dL_law__901 : decode cL_law_ 901 = .ok (.iadd, 1) := by decide +kernel
theorem dL_law__902 : decode cL_law_ 902 = .ok (.iaload, 1) := by decide +kernel
theorem dL_law__903 : decode cL_law_ 903 = .ok (.invokevirtual 173, 3) := by decide +kernel
theorem dL_law__906 : decode cL_law_ 906 = .ok (.istore 6, 2) := by decide +kernel
theorem dL_law__908 : decode cL_law_ 908 = .ok (.aload_n 2, 1) := by decide +kernel
theorem dL_law__909 : decode cL_law_ 909 = .ok (.invokevirtual 134, 3) := by decide +kernel
theorem dL_law__912 : decode cL_law_ 912 = .ok (.iload 5, 2) := by decide +kernel
theorem dL_law__914 : decode cL_law_ 914 = .ok (.if_icmp .eq 5, 3) := by decide +kernel
theorem dL_law__917 : decode cL_law_ 917 = .ok (.iconst 0, 1) := by decide +kernel
theorem dL_law__918 : decode cL_law_ 918 = .ok (.ireturn, 1) := by decide +kernel
theorem dL_law__919 : decode cL_law_ 919 = .ok (.iload 5, 2) := by decide +kernel
theorem dL_law__921 : decode cL_law_ 921 = .ok (.ifCond .ne 15, 3) := by decide +kernel
theorem dL_law__924 : decode cL_law_ 924 = .ok (.aload_n 3, 1) := by decide +kernel
theorem dL_law__925 : decode cL_law_ 925 = .ok (.iconst 0, 1) := by decide +kernel
theorem dL_law__926 : decode cL_law_ 926 = .ok (.laload, 1) := by decide +kernel
theorem dL_law__927 : decode cL_law_ 927 = .ok (.iload 6, 2) := by decide +kernel
theorem dL_law__929 : decode cL_law_ 929 = .ok (.i2l, 1) := by decide +kernel
theorem dL_law__930 : decode cL_law_ 930 = .ok (.lcmp, 1) := by decide +kernel
theorem dL_law__931 : decode cL_law_ 931 = .ok (.ifCond .eq 5, 3) := by decide +kernel
theorem dL_law__934 : decode cL_law_ 934 = .ok (.iconst 0, 1) := by decide +kernel
theorem dL_law__935 : decode cL_law_ 935 = .ok (.ireturn, 1) := by decide +kernel
theorem dL_law__936 : decode cL_law_ 936 = .ok (.goto 1721, 3) := by decide +kernel
theorem dL_law__939 : decode cL_law_ 939 = .ok (.aload_n 1, 1) := by decide +kernel
theorem dL_law__940 : decode cL_law_ 940 = .ok (.aload_n 0, 1) := by decide +kernel
theorem dL_law__941 : decode cL_law_ 941 = .ok (.iload 4, 2) := by decide +kernel
theorem dL_law__943 : decode cL_law_ 943 = .ok (.iconst 1, 1) := by decide +kernel
theorem dL_law__944 : decode cL_law_ 944 = .ok (.iadd, 1) := by decide +kernel
theorem dL_law__945 : decode cL_law_ 945 = .ok (.iaload, 1) := by decide +kernel
theorem dL_law__946 : decode cL_law_ 946 = .ok (.aload_n 3, 1) := by decide +kernel
theorem dL_law__947 : decode cL_law_ 947 = .ok (.invokestatic 174, 3) := by decide +kernel
theorem dL_law__950 : decode cL_law_ 950 = .ok (.istore 5, 2) := by decide +kernel
theorem dL_law__952 : decode cL_law_ 952 = .ok (.aload_n 2, 1) := by decide +kernel
theorem dL_law__953 : decode cL_law_ 953 = .ok (.aload_n 0, 1) := by decide +kernel
theorem dL_law__954 : decode cL_law_ 954 = .ok (.iload 4, 2) := by decide +kernel
theorem dL_law__956 : decode cL_law_ 956 = .ok (.iconst 1, 1) := by decide +kernel
theorem dL_law__957 : decode cL_law_ 957 = .ok (.iadd, 1) := by decide +kernel
theorem dL_law__958 : decode cL_law_ 958 = .ok (.iaload, 1) := by decide +kernel
theorem dL_law__959 : decode cL_law_ 959 = .ok (.invokevirtual 176, 3) := by decide +kernel
theorem dL_law__962 : decode cL_law_ 962 = .ok (.istore 6, 2) := by decide +kernel
theorem dL_law__964 : decode cL_law_ 964 = .ok (.aload_n 2, 1) := by decide +kernel
theorem dL_law__965 : decode cL_law_ 965 = .ok (.invokevirtual 134, 3) := by decide +kernel
theorem dL_law__968 : decode cL_law_ 968 = .ok (.iload 5, 2) := by decide +kernel
theorem dL_law__970 : decode cL_law_ 970 = .ok (.if_icmp .eq 5, 3) := by decide +kernel
theorem dL_law__973 : decode cL_law_ 973 = .ok (.iconst 0, 1) := by decide +kernel
theorem dL_law__974 : decode cL_law_ 974 = .ok (.ireturn, 1) := by decide +kernel
theorem dL_law__975 : decode cL_law_ 975 = .ok (.iload 5, 2) := by decide +kernel
theorem dL_law__977 : decode cL_law_ 977 = .ok (.ifCond .ne 15, 3) := by decide +kernel
theorem dL_law__980 : decode cL_law_ 980 = .ok (.aload_n 3, 1) := by decide +kernel
theorem dL_law__981 : decode cL_law_ 981 = .ok (.iconst 0, 1) := by decide +kernel
theorem dL_law__982 : decode cL_law_ 982 = .ok (.laload, 1) := by decide +kernel
theorem dL_law__983 : decode cL_law_ 983 = .ok (.iload 6, 2) := by decide +kernel
theorem dL_law__985 : decode cL_law_ 985 = .ok (.i2l, 1) := by decide +kernel
theorem dL_law__986 : decode cL_law_ 986 = .ok (.lcmp, 1) := by decide +kernel
theorem dL_law__987 : decode cL_law_ 987 = .ok (.ifCond .eq 5, 3) := by decide +kernel
theorem dL_law__990 : decode cL_law_ 990 = .ok (.iconst 0, 1) := by decide +kernel
theorem dL_law__991 : decode cL_law_ 991 = .ok (.ireturn, 1) := by decide +kernel
theorem dL_law__992 : decode cL_law_ 992 = .ok (.goto 1665, 3) := by decide +kernel
theorem dL_law__995 : decode cL_law_ 995 = .ok (.aload_n 1, 1) := by decide +kernel
theorem dL_law__996 : decode cL_law_ 996 = .ok (.aload_n 0, 1) := by decide +kernel
theorem dL_law__997 : decode cL_law_ 997 = .ok (.iload 4, 2) := by decide +kernel
theorem dL_law__999 : decode cL_law_ 999 = .ok (.iconst 1, 1) := by decide +kernel
theorem dL_law__1000 : decode cL_law_ 1000 = .ok (.iadd, 1) := by decide +kernel
theorem dL_law__1001 : decode cL_law_ 1001 = .ok (.iaload, 1) := by decide +kernel
theorem dL_law__1002 : decode cL_law_ 1002 = .ok (.aload_n 0, 1) := by decide +kernel
theorem dL_law__1003 : decode cL_law_ 1003 = .ok (.iload 4, 2) := by decide +kernel
theorem dL_law__1005 : decode cL_law_ 1005 = .ok (.iconst 2, 1) := by decide +kernel
theorem dL_law__1006 : decode cL_law_ 1006 = .ok (.iadd, 1) := by decide +kernel
theorem dL_law__1007 : decode cL_law_ 1007 = .ok (.iaload, 1) := by decide +kernel
theorem dL_law__1008 : decode cL_law_ 1008 = .ok (.aload_n 3, 1) := by decide +kernel
theorem dL_law__1009 : decode cL_law_ 1009 = .ok (.invokestatic 177, 3) := by decide +kernel
theorem dL_law__1012 : decode cL_law_ 1012 = .ok (.istore 5, 2) := by decide +kernel
theorem dL_law__1014 : decode cL_law_ 1014 = .ok (.aload_n 2, 1) := by decide +kernel
theorem dL_law__1015 : decode cL_law_ 1015 = .ok (.aload_n 0, 1) := by decide +kernel
theorem dL_law__1016 : decode cL_law_ 1016 = .ok (.iload 4, 2) := by decide +kernel
theorem dL_law__1018 : decode cL_law_ 1018 = .ok (.iconst 1, 1) := by decide +kernel
theorem dL_law__1019 : decode cL_law_ 1019 = .ok (.iadd, 1) := by decide +kernel
theorem dL_law__1020 : decode cL_law_ 1020 = .ok (.iaload, 1) := by decide +kernel
theorem dL_law__1021 : decode cL_law_ 1021 = .ok (.aload_n 0, 1) := by decide +kernel
theorem dL_law__1022 : decode cL_law_ 1022 = .ok (.iload 4, 2) := by decide +kernel
theorem dL_law__1024 : decode cL_law_ 1024 = .ok (.iconst 2, 1) := by decide +kernel
theorem dL_law__1025 : decode cL_law_ 1025 = .ok (.iadd, 1) := by decide +kernel
theorem dL_law__1026 : decode cL_law_ 1026 = .ok (.iaload, 1) := by decide +kernel
theorem dL_law__1027 : decode cL_law_ 1027 = .ok (.invokevirtual 179, 3) := by decide +kernel
theorem dL_law__1030 : decode cL_law_ 1030 = .ok (.istore 6, 2) := by decide +kernel
theorem dL_law__1032 : decode cL_law_ 1032 = .ok (.aload_n 2, 1) := by decide +kernel
theorem dL_law__1033 : decode cL_law_ 1033 = .ok (.invokevirtual 134, 3) := by decide +kernel
theorem dL_law__1036 : decode cL_law_ 1036 = .ok (.iload 5, 2) := by decide +kernel
theorem dL_law__1038 : decode cL_law_ 1038 = .ok (.if_icmp .eq 5, 3) := by decide +kernel
theorem dL_law__1041 : decode cL_law_ 1041 = .ok (.iconst 0, 1) := by decide +kernel
theorem dL_law__1042 : decode cL_law_ 1042 = .ok (.ireturn, 1) := by decide +kernel
theorem dL_law__1043 : decode cL_law_ 1043 = .ok (.iload 5, 2) := by decide +kernel
theorem dL_law__1045 : decode cL_law_ 1045 = .ok (.ifCond .ne 15, 3) := by decide +kernel
theorem dL_law__1048 : decode cL_law_ 1048 = .ok (.aload_n 3, 1) := by decide +kernel
theorem dL_law__1049 : decode cL_law_ 1049 = .ok (.iconst 0, 1) := by decide +kernel
theorem dL_law__1050 : decode cL_law_ 1050 = .ok (.laload, 1) := by decide +kernel
theorem dL_law__1051 : decode cL_law_ 1051 = .ok (.iload 6, 2) := by decide +kernel
theorem dL_law__1053 : decode cL_law_ 1053 = .ok (.i2l, 1) := by decide +kernel
theorem dL_law__1054 : decode cL_law_ 1054 = .ok (.lcmp, 1) := by decide +kernel
theorem dL_law__1055 : decode cL_law_ 1055 = .ok (.ifCond .eq 5, 3) := by decide +kernel
theorem dL_law__1058 : decode cL_law_ 1058 = .ok (.iconst 0, 1) := by decide +kernel
theorem dL_law__1059 : decode cL_law_ 1059 = .ok (.ireturn, 1) := by decide +kernel
theorem dL_law__1060 : decode cL_law_ 1060 = .ok (.goto 1597, 3) := by decide +kernel
theorem dL_law__1063 : decode cL_law_ 1063 = .ok (.aload_n 1, 1) := by decide +kernel
theorem dL_law__1064 : decode cL_law_ 1064 = .ok (.aload_n 0, 1) := by decide +kernel
theorem dL_law__1065 : decode cL_law_ 1065 = .ok (.iload 4, 2) := by decide +kernel
theorem dL_law__1067 : decode cL_law_ 1067 = .ok (.iconst 1, 1) := by decide +kernel
theorem dL_law__1068 : decode cL_law_ 1068 = .ok (.iadd, 1) := by decide +kernel
theorem dL_law__1069 : decode cL_law_ 1069 = .ok (.iaload, 1) := by decide +kernel
theorem dL_law__1070 : decode cL_law_ 1070 = .ok (.aload_n 0, 1) := by decide +kernel
theorem dL_law__1071 : decode cL_law_ 1071 = .ok (.iload 4, 2) := by decide +kernel
theorem dL_law__1073 : decode cL_law_ 1073 = .ok (.iconst 2, 1) := by decide +kernel
theorem dL_law__1074 : decode cL_law_ 1074 = .ok (.iadd, 1) := by decide +kernel
theorem dL_law__1075 : decode cL_law_ 1075 = .ok (.iaload, 1) := by decide +kernel
theorem dL_law__1076 : decode cL_law_ 1076 = .ok (.aload_n 0, 1) := by decide +kernel
theorem dL_law__1077 : decode cL_law_ 1077 = .ok (.iload 4, 2) := by decide +kernel
theorem dL_law__1079 : decode cL_law_ 1079 = .ok (.iconst 3, 1) := by decide +kernel
theorem dL_law__1080 : decode cL_law_ 1080 = .ok (.iadd, 1) := by decide +kernel
theorem dL_law__1081 : decode cL_law_ 1081 = .ok (.iaload, 1) := by decide +kernel
theorem dL_law__1082 : decode cL_law_ 1082 = .ok (.aload_n 0, 1) := by decide +kernel
theorem dL_law__1083 : decode cL_law_ 1083 = .ok (.iload 4, 2) := by decide +kernel
theorem dL_law__1085 : decode cL_law_ 1085 = .ok (.iconst 4, 1) := by decide +kernel
theorem dL_law__1086 : decode cL_law_ 1086 = .ok (.iadd, 1) := by decide +kernel
theorem dL_law__1087 : decode cL_law_ 1087 = .ok (.iaload, 1) := by decide +kernel
theorem dL_law__1088 : decode cL_law_ 1088 = .ok (.aload_n 0, 1) := by decide +kernel
theorem dL_law__1089 : decode cL_law_ 1089 = .ok (.iload 4, 2) := by decide +kernel
theorem dL_law__1091 : decode cL_law_ 1091 = .ok (.iconst 5, 1) := by decide +kernel
theorem dL_law__1092 : decode cL_law_ 1092 = .ok (.iadd, 1) := by decide +kernel
theorem dL_law__1093 : decode cL_law_ 1093 = .ok (.iaload, 1) := by decide +kernel
theorem dL_law__1094 : decode cL_law_ 1094 = .ok (.aload_n 0, 1) := by decide +kernel
theorem dL_law__1095 : decode cL_law_ 1095 = .ok (.iload 4, 2) := by decide +kernel
theorem dL_law__1097 : decode cL_law_ 1097 = .ok (.bipush 6, 2) := by decide +kernel
theorem dL_law__1099 : decode cL_law_ 1099 = .ok (.iadd, 1) := by decide +kernel
theorem dL_law__1100 : decode cL_law_ 1100 = .ok (.iaload, 1) := by decide +kernel
theorem dL_law__1101 : decode cL_law_ 1101 = .ok (.aload_n 0, 1) := by decide +kernel
theorem dL_law__1102 : decode cL_law_ 1102 = .ok (.iload 4, 2) := by decide +kernel
theorem dL_law__1104 : decode cL_law_ 1104 = .ok (.bipush 7, 2) := by decide +kernel
theorem dL_law__1106 : decode cL_law_ 1106 = .ok (.iadd, 1) := by decide +kernel
theorem dL_law__1107 : decode cL_law_ 1107 = .ok (.iaload, 1) := by decide +kernel
theorem dL_law__1108 : decode cL_law_ 1108 = .ok (.aload_n 3, 1) := by decide +kernel
theorem dL_law__1109 : decode cL_law_ 1109 = .ok (.invokestatic 180, 3) := by decide +kernel
theorem dL_law__1112 : decode cL_law_ 1112 = .ok (.istore 5, 2) := by decide +kernel
theorem dL_law__1114 : decode cL_law_ 1114 = .ok (.aload_n 2, 1) := by decide +kernel
theorem dL_law__1115 : decode cL_law_ 1115 = .ok (.aload_n 0, 1) := by decide +kernel
theorem dL_law__1116 : decode cL_law_ 1116 = .ok (.iload 4, 2) := by decide +kernel
theorem dL_law__1118 : decode cL_law_ 1118 = .ok (.iconst 1, 1) := by decide +kernel
theorem dL_law__1119 : decode cL_law_ 1119 = .ok (.iadd, 1) := by decide +kernel
theorem dL_law__1120 : decode cL_law_ 1120 = .ok (.iaload, 1) := by decide +kernel
theorem dL_law__1121 : decode cL_law_ 1121 = .ok (.aload_n 0, 1) := by decide +kernel
theorem dL_law__1122 : decode cL_law_ 1122 = .ok (.iload 4, 2) := by decide +kernel
theorem dL_law__1124 : decode cL_law_ 1124 = .ok (.iconst 2, 1) := by decide +kernel
theorem dL_law__1125 : decode cL_law_ 1125 = .ok (.iadd, 1) := by decide +kernel
theorem dL_law__1126 : decode cL_law_ 1126 = .ok (.iaload, 1) := by decide +kernel
theorem dL_law__1127 : decode cL_law_ 1127 = .ok (.aload_n 0, 1) := by decide +kernel
theorem dL_law__1128 : decode cL_law_ 1128 = .ok (.iload 4, 2) := by decide +kernel
theorem dL_law__1130 : decode cL_law_ 1130 = .ok (.iconst 3, 1) := by decide +kernel
theorem dL_law__1131 : decode cL_law_ 1131 = .ok (.iadd, 1) := by decide +kernel
theorem dL_law__1132 : decode cL_law_ 1132 = .ok (.iaload, 1) := by decide +kernel
theorem dL_law__1133 : decode cL_law_ 1133 = .ok (.aload_n 0, 1) := by decide +kernel
theorem dL_law__1134 : decode cL_law_ 1134 = .ok (.iload 4, 2) := by decide +kernel
theorem dL_law__1136 : decode cL_law_ 1136 = .ok (.iconst 4, 1) := by decide +kernel
theorem dL_law__1137 : decode cL_law_ 1137 = .ok (.iadd, 1) := by decide +kernel
theorem dL_law__1138 : decode cL_law_ 1138 = .ok (.iaload, 1) := by decide +kernel
theorem dL_law__1139 : decode cL_law_ 1139 = .ok (.aload_n 0, 1) := by decide +kernel
theorem dL_law__1140 : decode cL_law_ 1140 = .ok (.iload 4, 2) := by decide +kernel
theorem dL_law__1142 : decode cL_law_ 1142 = .ok (.iconst 5, 1) := by decide +kernel
theorem dL_law__1143 : decode cL_law_ 1143 = .ok (.iadd, 1) := by decide +kernel
theorem dL_law__1144 : decode cL_law_ 1144 = .ok (.iaload, 1) := by decide +kernel
theorem dL_law__1145 : decode cL_law_ 1145 = .ok (.aload_n 0, 1) := by decide +kernel
theorem dL_law__1146 : decode cL_law_ 1146 = .ok (.iload 4, 2) := by decide +kernel
theorem dL_law__1148 : decode cL_law_ 1148 = .ok (.bipush 6, 2) := by decide +kernel
theorem dL_law__1150 : decode cL_law_ 1150 = .ok (.iadd, 1) := by decide +kernel
theorem dL_law__1151 : decode cL_law_ 1151 = .ok (.iaload, 1) := by decide +kernel
theorem dL_law__1152 : decode cL_law_ 1152 = .ok (.aload_n 0, 1) := by decide +kernel
theorem dL_law__1153 : decode cL_law_ 1153 = .ok (.iload 4, 2) := by decide +kernel
theorem dL_law__1155 : decode cL_law_ 1155 = .ok (.bipush 7, 2) := by decide +kernel
theorem dL_law__1157 : decode cL_law_ 1157 = .ok (.iadd, 1) := by decide +kernel
theorem dL_law__1158 : decode cL_law_ 1158 = .ok (.iaload, 1) := by decide +kernel
theorem dL_law__1159 : decode cL_law_ 1159 = .ok (.invokevirtual 183, 3) := by decide +kernel
theorem dL_law__1162 : decode cL_law_ 1162 = .ok (.istore 6, 2) := by decide +kernel
theorem dL_law__1164 : decode cL_law_ 1164 = .ok (.aload_n 2, 1) := by decide +kernel
theorem dL_law__1165 : decode cL_law_ 1165 = .ok (.invokevirtual 134, 3) := by decide +kernel
theorem dL_law__1168 : decode cL_law_ 1168 = .ok (.iload 5, 2) := by decide +kernel
theorem dL_law__1170 : decode cL_law_ 1170 = .ok (.if_icmp .eq 5, 3) := by decide +kernel
theorem dL_law__1173 : decode cL_law_ 1173 = .ok (.iconst 0, 1) := by decide +kernel
theorem dL_law__1174 : decode cL_law_ 1174 = .ok (.ireturn, 1) := by decide +kernel
theorem dL_law__1175 : decode cL_law_ 1175 = .ok (.iload 5, 2) := by decide +kernel
theorem dL_law__1177 : decode cL_law_ 1177 = .ok (.ifCond .ne 15, 3) := by decide +kernel
theorem dL_law__1180 : decode cL_law_ 1180 = .ok (.aload_n 3, 1) := by decide +kernel
theorem dL_law__1181 : decode cL_law_ 1181 = .ok (.iconst 0, 1) := by decide +kernel
theorem dL_law__1182 : decode cL_law_ 1182 = .ok (.laload, 1) := by decide +kernel
theorem dL_law__1183 : decode cL_law_ 1183 = .ok (.iload 6, 2) := by decide +kernel
theorem dL_law__1185 : decode cL_law_ 1185 = .ok (.i2l, 1) := by decide +kernel
theorem dL_law__1186 : decode cL_law_ 1186 = .ok (.lcmp, 1) := by decide +kernel
theorem dL_law__1187 : decode cL_law_ 1187 = .ok (.ifCond .eq 5, 3) := by decide +kernel
theorem dL_law__1190 : decode cL_law_ 1190 = .ok (.iconst 0, 1) := by decide +kernel
theorem dL_law__1191 : decode cL_law_ 1191 = .ok (.ireturn, 1) := by decide +kernel
theorem dL_law__1192 : decode cL_law_ 1192 = .ok (.goto 1465, 3) := by decide +kernel
theorem dL_law__1195 : decode cL_law_ 1195 = .ok (.aload_n 1, 1) := by decide +kernel
theorem dL_law__1196 : decode cL_law_ 1196 = .ok (.aload_n 0, 1) := by decide +kernel
theorem dL_law__1197 : decode cL_law_ 1197 = .ok (.iload 4, 2) := by decide +kernel
theorem dL_law__1199 : decode cL_law_ 1199 = .ok (.iconst 1, 1) := by decide +kernel
theorem dL_law__1200 : decode cL_law_ 1200 = .ok (.iadd, 1) := by decide +kernel
theorem dL_law__1201 : decode cL_law_ 1201 = .ok (.iaload, 1) := by decide +kernel
theorem dL_law__1202 : decode cL_law_ 1202 = .ok (.aload_n 0, 1) := by decide +kernel
theorem dL_law__1203 : decode cL_law_ 1203 = .ok (.iload 4, 2) := by decide +kernel
theorem dL_law__1205 : decode cL_law_ 1205 = .ok (.iconst 2, 1) := by decide +kernel
theorem dL_law__1206 : decode cL_law_ 1206 = .ok (.iadd, 1) := by decide +kernel
theorem dL_law__1207 : decode cL_law_ 1207 = .ok (.iaload, 1) := by decide +kernel
theorem dL_law__1208 : decode cL_law_ 1208 = .ok (.aload_n 3, 1) := by decide +kernel
theorem dL_law__1209 : decode cL_law_ 1209 = .ok (.invokestatic 184, 3) := by decide +kernel
theorem dL_law__1212 : decode cL_law_ 1212 = .ok (.istore 5, 2) := by decide +kernel
theorem dL_law__1214 : decode cL_law_ 1214 = .ok (.aload_n 2, 1) := by decide +kernel
theorem dL_law__1215 : decode cL_law_ 1215 = .ok (.aload_n 0, 1) := by decide +kernel
theorem dL_law__1216 : decode cL_law_ 1216 = .ok (.iload 4, 2) := by decide +kernel
theorem dL_law__1218 : decode cL_law_ 1218 = .ok (.iconst 1, 1) := by decide +kernel
theorem dL_law__1219 : decode cL_law_ 1219 = .ok (.iadd, 1) := by decide +kernel
theorem dL_law__1220 : decode cL_law_ 1220 = .ok (.iaload, 1) := by decide +kernel
theorem dL_law__1221 : decode cL_law_ 1221 = .ok (.aload_n 0, 1) := by decide +kernel
theorem dL_law__1222 : decode cL_law_ 1222 = .ok (.iload 4, 2) := by decide +kernel
theorem dL_law__1224 : decode cL_law_ 1224 = .ok (.iconst 2, 1) := by decide +kernel
theorem dL_law__1225 : decode cL_law_ 1225 = .ok (.iadd, 1) := by decide +kernel
theorem dL_law__1226 : decode cL_law_ 1226 = .ok (.iaload, 1) := by decide +kernel
theorem dL_law__1227 : decode cL_law_ 1227 = .ok (.invokevirtual 186, 3) := by decide +kernel
theorem dL_law__1230 : decode cL_law_ 1230 = .ok (.istore 6, 2) := by decide +kernel
theorem dL_law__1232 : decode cL_law_ 1232 = .ok (.aload_n 2, 1) := by decide +kernel
theorem dL_law__1233 : decode cL_law_ 1233 = .ok (.invokevirtual 134, 3) := by decide +kernel
theorem dL_law__1236 : decode cL_law_ 1236 = .ok (.iload 5, 2) := by decide +kernel
theorem dL_law__1238 : decode cL_law_ 1238 = .ok (.if_icmp .eq 5, 3) := by decide +kernel
theorem dL_law__1241 : decode cL_law_ 1241 = .ok (.iconst 0, 1) := by decide +kernel
theorem dL_law__1242 : decode cL_law_ 1242 = .ok (.ireturn, 1) := by decide +kernel
theorem dL_law__1243 : decode cL_law_ 1243 = .ok (.iload 5, 2) := by decide +kernel
theorem dL_law__1245 : decode cL_law_ 1245 = .ok (.ifCond .ne 15, 3) := by decide +kernel
theorem dL_law__1248 : decode cL_law_ 1248 = .ok (.aload_n 3, 1) := by decide +kernel
theorem dL_law__1249 : decode cL_law_ 1249 = .ok (.iconst 0, 1) := by decide +kernel
theorem dL_law__1250 : decode cL_law_ 1250 = .ok (.laload, 1) := by decide +kernel
theorem dL_law__1251 : decode cL_law_ 1251 = .ok (.iload 6, 2) := by decide +kernel
theorem dL_law__1253 : decode cL_law_ 1253 = .ok (.i2l, 1) := by decide +kernel
theorem dL_law__1254 : decode cL_law_ 1254 = .ok (.lcmp, 1) := by decide +kernel
theorem dL_law__1255 : decode cL_law_ 1255 = .ok (.ifCond .eq 5, 3) := by decide +kernel
theorem dL_law__1258 : decode cL_law_ 1258 = .ok (.iconst 0, 1) := by decide +kernel
theorem dL_law__1259 : decode cL_law_ 1259 = .ok (.ireturn, 1) := by decide +kernel
theorem dL_law__1260 : decode cL_law_ 1260 = .ok (.goto 1397, 3) := by decide +kernel
theorem dL_law__1263 : decode cL_law_ 1263 = .ok (.aload_n 1, 1) := by decide +kernel
theorem dL_law__1264 : decode cL_law_ 1264 = .ok (.aload_n 0, 1) := by decide +kernel
theorem dL_law__1265 : decode cL_law_ 1265 = .ok (.iload 4, 2) := by decide +kernel
theorem dL_law__1267 : decode cL_law_ 1267 = .ok (.iconst 1, 1) := by decide +kernel
theorem dL_law__1268 : decode cL_law_ 1268 = .ok (.iadd, 1) := by decide +kernel
theorem dL_law__1269 : decode cL_law_ 1269 = .ok (.iaload, 1) := by decide +kernel
theorem dL_law__1270 : decode cL_law_ 1270 = .ok (.aload_n 0, 1) := by decide +kernel
theorem dL_law__1271 : decode cL_law_ 1271 = .ok (.iload 4, 2) := by decide +kernel
theorem dL_law__1273 : decode cL_law_ 1273 = .ok (.iconst 2, 1) := by decide +kernel
theorem dL_law__1274 : decode cL_law_ 1274 = .ok (.iadd, 1) := by decide +kernel
theorem dL_law__1275 : decode cL_law_ 1275 = .ok (.iaload, 1) := by decide +kernel
theorem dL_law__1276 : decode cL_law_ 1276 = .ok (.aload_n 0, 1) := by decide +kernel
theorem dL_law__1277 : decode cL_law_ 1277 = .ok (.iload 4, 2) := by decide +kernel
theorem dL_law__1279 : decode cL_law_ 1279 = .ok (.iconst 3, 1) := by decide +kernel
theorem dL_law__1280 : decode cL_law_ 1280 = .ok (.iadd, 1) := by decide +kernel
theorem dL_law__1281 : decode cL_law_ 1281 = .ok (.iaload, 1) := by decide +kernel
theorem dL_law__1282 : decode cL_law_ 1282 = .ok (.aload_n 3, 1) := by decide +kernel
theorem dL_law__1283 : decode cL_law_ 1283 = .ok (.invokestatic 187, 3) := by decide +kernel
theorem dL_law__1286 : decode cL_law_ 1286 = .ok (.istore 5, 2) := by decide +kernel
theorem dL_law__1288 : decode cL_law_ 1288 = .ok (.aload_n 2, 1) := by decide +kernel
theorem dL_law__1289 : decode cL_law_ 1289 = .ok (.aload_n 0, 1) := by decide +kernel
theorem dL_law__1290 : decode cL_law_ 1290 = .ok (.iload 4, 2) := by decide +kernel
theorem dL_law__1292 : decode cL_law_ 1292 = .ok (.iconst 1, 1) := by decide +kernel
theorem dL_law__1293 : decode cL_law_ 1293 = .ok (.iadd, 1) := by decide +kernel
theorem dL_law__1294 : decode cL_law_ 1294 = .ok (.iaload, 1) := by decide +kernel
theorem dL_law__1295 : decode cL_law_ 1295 = .ok (.aload_n 0, 1) := by decide +kernel
theorem dL_law__1296 : decode cL_law_ 1296 = .ok (.iload 4, 2) := by decide +kernel
theorem dL_law__1298 : decode cL_law_ 1298 = .ok (.iconst 2, 1) := by decide +kernel
theorem dL_law__1299 : decode cL_law_ 1299 = .ok (.iadd, 1) := by decide +kernel
theorem dL_law__1300 : decode cL_law_ 1300 = .ok (.iaload, 1) := by decide +kernel
theorem dL_law__1301 : decode cL_law_ 1301 = .ok (.aload_n 0, 1) := by decide +kernel
theorem dL_law__1302 : decode cL_law_ 1302 = .ok (.iload 4, 2) := by decide +kernel
theorem dL_law__1304 : decode cL_law_ 1304 = .ok (.iconst 3, 1) := by decide +kernel
theorem dL_law__1305 : decode cL_law_ 1305 = .ok (.iadd, 1) := by decide +kernel
theorem dL_law__1306 : decode cL_law_ 1306 = .ok (.iaload, 1) := by decide +kernel
theorem dL_law__1307 : decode cL_law_ 1307 = .ok (.invokevirtual 190, 3) := by decide +kernel
theorem dL_law__1310 : decode cL_law_ 1310 = .ok (.istore 6, 2) := by decide +kernel
theorem dL_law__1312 : decode cL_law_ 1312 = .ok (.aload_n 2, 1) := by decide +kernel
theorem dL_law__1313 : decode cL_law_ 1313 = .ok (.invokevirtual 134, 3) := by decide +kernel
theorem dL_law__1316 : decode cL_law_ 1316 = .ok (.iload 5, 2) := by decide +kernel
theorem dL_law__1318 : decode cL_law_ 1318 = .ok (.if_icmp .eq 5, 3) := by decide +kernel
theorem dL_law__1321 : decode cL_law_ 1321 = .ok (.iconst 0, 1) := by decide +kernel
theorem dL_law__1322 : decode cL_law_ 1322 = .ok (.ireturn, 1) := by decide +kernel
theorem dL_law__1323 : decode cL_law_ 1323 = .ok (.iload 5, 2) := by decide +kernel
theorem dL_law__1325 : decode cL_law_ 1325 = .ok (.ifCond .ne 15, 3) := by decide +kernel
theorem dL_law__1328 : decode cL_law_ 1328 = .ok (.aload_n 3, 1) := by decide +kernel
theorem dL_law__1329 : decode cL_law_ 1329 = .ok (.iconst 0, 1) := by decide +kernel
theorem dL_law__1330 : decode cL_law_ 1330 = .ok (.laload, 1) := by decide +kernel
theorem dL_law__1331 : decode cL_law_ 1331 = .ok (.iload 6, 2) := by decide +kernel
theorem dL_law__1333 : decode cL_law_ 1333 = .ok (.i2l, 1) := by decide +kernel
theorem dL_law__1334 : decode cL_law_ 1334 = .ok (.lcmp, 1) := by decide +kernel
theorem dL_law__1335 : decode cL_law_ 1335 = .ok (.ifCond .eq 5, 3) := by decide +kernel
theorem dL_law__1338 : decode cL_law_ 1338 = .ok (.iconst 0, 1) := by decide +kernel
theorem dL_law__1339 : decode cL_law_ 1339 = .ok (.ireturn, 1) := by decide +kernel
theorem dL_law__1340 : decode cL_law_ 1340 = .ok (.goto 1317, 3) := by decide +kernel
theorem dL_law__1343 : decode cL_law_ 1343 = .ok (.aload_n 1, 1) := by decide +kernel
theorem dL_law__1344 : decode cL_law_ 1344 = .ok (.invokevirtual 191, 3) := by decide +kernel
theorem dL_law__1347 : decode cL_law_ 1347 = .ok (.aload_n 2, 1) := by decide +kernel
theorem dL_law__1348 : decode cL_law_ 1348 = .ok (.invokevirtual 194, 3) := by decide +kernel
theorem dL_law__1351 : decode cL_law_ 1351 = .ok (.if_icmp .eq 1306, 3) := by decide +kernel
theorem dL_law__1354 : decode cL_law_ 1354 = .ok (.iconst 0, 1) := by decide +kernel
theorem dL_law__1355 : decode cL_law_ 1355 = .ok (.ireturn, 1) := by decide +kernel
theorem dL_law__1356 : decode cL_law_ 1356 = .ok (.aload_n 1, 1) := by decide +kernel
theorem dL_law__1357 : decode cL_law_ 1357 = .ok (.aload_n 0, 1) := by decide +kernel
theorem dL_law__1358 : decode cL_law_ 1358 = .ok (.iload 4, 2) := by decide +kernel
theorem dL_law__1360 : decode cL_law_ 1360 = .ok (.iconst 1, 1) := by decide +kernel
theorem dL_law__1361 : decode cL_law_ 1361 = .ok (.iadd, 1) := by decide +kernel
theorem dL_law__1362 : decode cL_law_ 1362 = .ok (.iaload, 1) := by decide +kernel
theorem dL_law__1363 : decode cL_law_ 1363 = .ok (.aload_n 3, 1) := by decide +kernel
theorem dL_law__1364 : decode cL_law_ 1364 = .ok (.invokestatic 195, 3) := by decide +kernel
theorem dL_law__1367 : decode cL_law_ 1367 = .ok (.istore 5, 2) := by decide +kernel
theorem dL_law__1369 : decode cL_law_ 1369 = .ok (.aload_n 2, 1) := by decide +kernel
theorem dL_law__1370 : decode cL_law_ 1370 = .ok (.aload_n 0, 1) := by decide +kernel
theorem dL_law__1371 : decode cL_law_ 1371 = .ok (.iload 4, 2) := by decide +kernel
theorem dL_law__1373 : decode cL_law_ 1373 = .ok (.iconst 1, 1) := by decide +kernel
theorem dL_law__1374 : decode cL_law_ 1374 = .ok (.iadd, 1) := by decide +kernel
theorem dL_law__1375 : decode cL_law_ 1375 = .ok (.iaload, 1) := by decide +kernel
theorem dL_law__1376 : decode cL_law_ 1376 = .ok (.invokevirtual 197, 3) := by decide +kernel
theorem dL_law__1379 : decode cL_law_ 1379 = .ok (.istore 6, 2) := by decide +kernel
theorem dL_law__1381 : decode cL_law_ 1381 = .ok (.aload_n 2, 1) := by decide +kernel
theorem dL_law__1382 : decode cL_law_ 1382 = .ok (.invokevirtual 134, 3) := by decide +kernel
theorem dL_law__1385 : decode cL_law_ 1385 = .ok (.iload 5, 2) := by decide +kernel
theorem dL_law__1387 : decode cL_law_ 1387 = .ok (.if_icmp .eq 5, 3) := by decide +kernel
theorem dL_law__1390 : decode cL_law_ 1390 = .ok (.iconst 0, 1) := by decide +kernel
theorem dL_law__1391 : decode cL_law_ 1391 = .ok (.ireturn, 1) := by decide +kernel
theorem dL_law__1392 : decode cL_law_ 1392 = .ok (.iload 5, 2) := by decide +kernel
theorem dL_law__1394 : decode cL_law_ 1394 = .ok (.ifCond .ne 15, 3) := by decide +kernel
theorem dL_law__1397 : decode cL_law_ 1397 = .ok (.aload_n 3, 1) := by decide +kernel
theorem dL_law__1398 : decode cL_law_ 1398 = .ok (.iconst 0, 1) := by decide +kernel
theorem dL_law__1399 : decode cL_law_ 1399 = .ok (.laload, 1) := by decide +kernel
theorem dL_law__1400 : decode cL_law_ 1400 = .ok (.iload 6, 2) := by decide +kernel
theorem dL_law__1402 : decode cL_law_ 1402 = .ok (.i2l, 1) := by decide +kernel
theorem dL_law__1403 : decode cL_law_ 1403 = .ok (.lcmp, 1) := by decide +kernel
theorem dL_law__1404 : decode cL_law_ 1404 = .ok (.ifCond .eq 5, 3) := by decide +kernel
theorem dL_law__1407 : decode cL_law_ 1407 = .ok (.iconst 0, 1) := by decide +kernel
theorem dL_law__1408 : decode cL_law_ 1408 = .ok (.ireturn, 1) := by decide +kernel
theorem dL_law__1409 : decode cL_law_ 1409 = .ok (.goto 1248, 3) := by decide +kernel
theorem dL_law__1412 : decode cL_law_ 1412 = .ok (.aload_n 1, 1) := by decide +kernel
theorem dL_law__1413 : decode cL_law_ 1413 = .ok (.aload_n 0, 1) := by decide +kernel
theorem dL_law__1414 : decode cL_law_ 1414 = .ok (.iload 4, 2) := by decide +kernel
theorem dL_law__1416 : decode cL_law_ 1416 = .ok (.iconst 1, 1) := by decide +kernel
theorem dL_law__1417 : decode cL_law_ 1417 = .ok (.iadd, 1) := by decide +kernel
theorem dL_law__1418 : decode cL_law_ 1418 = .ok (.iaload, 1) := by decide +kernel
theorem dL_law__1419 : decode cL_law_ 1419 = .ok (.aload_n 3, 1) := by decide +kernel
theorem dL_law__1420 : decode cL_law_ 1420 = .ok (.invokestatic 198, 3) := by decide +kernel
theorem dL_law__1423 : decode cL_law_ 1423 = .ok (.istore 5, 2) := by decide +kernel
theorem dL_law__1425 : decode cL_law_ 1425 = .ok (.aload_n 2, 1) := by decide +kernel
theorem dL_law__1426 : decode cL_law_ 1426 = .ok (.aload_n 0, 1) := by decide +kernel
theorem dL_law__1427 : decode cL_law_ 1427 = .ok (.iload 4, 2) := by decide +kernel
theorem dL_law__1429 : decode cL_law_ 1429 = .ok (.iconst 1, 1) := by decide +kernel
theorem dL_law__1430 : decode cL_law_ 1430 = .ok (.iadd, 1) := by decide +kernel
theorem dL_law__1431 : decode cL_law_ 1431 = .ok (.iaload, 1) := by decide +kernel
theorem dL_law__1432 : decode cL_law_ 1432 = .ok (.invokevirtual 200, 3) := by decide +kernel
theorem dL_law__1435 : decode cL_law_ 1435 = .ok (.istore 6, 2) := by decide +kernel
theorem dL_law__1437 : decode cL_law_ 1437 = .ok (.aload_n 2, 1) := by decide +kernel
theorem dL_law__1438 : decode cL_law_ 1438 = .ok (.invokevirtual 134, 3) := by decide +kernel
theorem dL_law__1441 : decode cL_law_ 1441 = .ok (.iload 5, 2) := by decide +kernel
theorem dL_law__1443 : decode cL_law_ 1443 = .ok (.if_icmp .eq 5, 3) := by decide +kernel
theorem dL_law__1446 : decode cL_law_ 1446 = .ok (.iconst 0, 1) := by decide +kernel
theorem dL_law__1447 : decode cL_law_ 1447 = .ok (.ireturn, 1) := by decide +kernel
theorem dL_law__1448 : decode cL_law_ 1448 = .ok (.iload 5, 2) := by decide +kernel
theorem dL_law__1450 : decode cL_law_ 1450 = .ok (.ifCond .ne 15, 3) := by decide +kernel
theorem dL_law__1453 : decode cL_law_ 1453 = .ok (.aload_n 3, 1) := by decide +kernel
theorem dL_law__1454 : decode cL_law_ 1454 = .ok (.iconst 0, 1) := by decide +kernel
