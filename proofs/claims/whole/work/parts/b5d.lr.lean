-- THE LAW: words, decode rows
theorem dl_916 : decode lw_Y.2.1 916 = .ok (.iconst 2, 1) := by decide +kernel
theorem dl_917 : decode lw_Y.2.1 917 = .ok (.iadd, 1) := by decide +kernel
theorem dl_918 : decode lw_Y.2.1 918 = .ok (.iaload, 1) := by decide +kernel
theorem dl_919 : decode lw_Y.2.1 919 = .ok (.aload_n 0, 1) := by decide +kernel
theorem dl_920 : decode lw_Y.2.1 920 = .ok (.iload_n 3, 1) := by decide +kernel
theorem dl_921 : decode lw_Y.2.1 921 = .ok (.iconst 3, 1) := by decide +kernel
theorem dl_922 : decode lw_Y.2.1 922 = .ok (.iadd, 1) := by decide +kernel
theorem dl_923 : decode lw_Y.2.1 923 = .ok (.iaload, 1) := by decide +kernel
theorem dl_924 : decode lw_Y.2.1 924 = .ok (.aload_n 0, 1) := by decide +kernel
theorem dl_925 : decode lw_Y.2.1 925 = .ok (.iload_n 3, 1) := by decide +kernel
theorem dl_926 : decode lw_Y.2.1 926 = .ok (.iconst 4, 1) := by decide +kernel
theorem dl_927 : decode lw_Y.2.1 927 = .ok (.iadd, 1) := by decide +kernel
theorem dl_928 : decode lw_Y.2.1 928 = .ok (.iaload, 1) := by decide +kernel
theorem dl_929 : decode lw_Y.2.1 929 = .ok (.invokevirtual 102, 3) := by decide +kernel
theorem dl_932 : decode lw_Y.2.1 932 = .ok (.aload_n 2, 1) := by decide +kernel
theorem dl_933 : decode lw_Y.2.1 933 = .ok (.aload_n 0, 1) := by decide +kernel
theorem dl_934 : decode lw_Y.2.1 934 = .ok (.iload_n 3, 1) := by decide +kernel
theorem dl_935 : decode lw_Y.2.1 935 = .ok (.iconst 1, 1) := by decide +kernel
theorem dl_936 : decode lw_Y.2.1 936 = .ok (.iadd, 1) := by decide +kernel
theorem dl_937 : decode lw_Y.2.1 937 = .ok (.iaload, 1) := by decide +kernel
theorem dl_938 : decode lw_Y.2.1 938 = .ok (.aload_n 0, 1) := by decide +kernel
theorem dl_939 : decode lw_Y.2.1 939 = .ok (.iload_n 3, 1) := by decide +kernel
theorem dl_940 : decode lw_Y.2.1 940 = .ok (.iconst 2, 1) := by decide +kernel
theorem dl_941 : decode lw_Y.2.1 941 = .ok (.iadd, 1) := by decide +kernel
theorem dl_942 : decode lw_Y.2.1 942 = .ok (.iaload, 1) := by decide +kernel
theorem dl_943 : decode lw_Y.2.1 943 = .ok (.aload_n 0, 1) := by decide +kernel
theorem dl_944 : decode lw_Y.2.1 944 = .ok (.iload_n 3, 1) := by decide +kernel
theorem dl_945 : decode lw_Y.2.1 945 = .ok (.iconst 3, 1) := by decide +kernel
theorem dl_946 : decode lw_Y.2.1 946 = .ok (.iadd, 1) := by decide +kernel
theorem dl_947 : decode lw_Y.2.1 947 = .ok (.iaload, 1) := by decide +kernel
theorem dl_948 : decode lw_Y.2.1 948 = .ok (.aload_n 0, 1) := by decide +kernel
theorem dl_949 : decode lw_Y.2.1 949 = .ok (.iload_n 3, 1) := by decide +kernel
theorem dl_950 : decode lw_Y.2.1 950 = .ok (.iconst 4, 1) := by decide +kernel
theorem dl_951 : decode lw_Y.2.1 951 = .ok (.iadd, 1) := by decide +kernel
theorem dl_952 : decode lw_Y.2.1 952 = .ok (.iaload, 1) := by decide +kernel
theorem dl_953 : decode lw_Y.2.1 953 = .ok (.invokevirtual 105, 3) := by decide +kernel
theorem dl_956 : decode lw_Y.2.1 956 = .ok (.if_icmp .eq 467, 3) := by decide +kernel
theorem dl_959 : decode lw_Y.2.1 959 = .ok (.iconst 0, 1) := by decide +kernel
theorem dl_960 : decode lw_Y.2.1 960 = .ok (.ireturn, 1) := by decide +kernel
theorem dl_961 : decode lw_Y.2.1 961 = .ok (.aload_n 1, 1) := by decide +kernel
theorem dl_962 : decode lw_Y.2.1 962 = .ok (.aload_n 0, 1) := by decide +kernel
theorem dl_963 : decode lw_Y.2.1 963 = .ok (.iload_n 3, 1) := by decide +kernel
theorem dl_964 : decode lw_Y.2.1 964 = .ok (.iconst 1, 1) := by decide +kernel
theorem dl_965 : decode lw_Y.2.1 965 = .ok (.iadd, 1) := by decide +kernel
theorem dl_966 : decode lw_Y.2.1 966 = .ok (.iaload, 1) := by decide +kernel
theorem dl_967 : decode lw_Y.2.1 967 = .ok (.aload_n 0, 1) := by decide +kernel
theorem dl_968 : decode lw_Y.2.1 968 = .ok (.iload_n 3, 1) := by decide +kernel
theorem dl_969 : decode lw_Y.2.1 969 = .ok (.iconst 2, 1) := by decide +kernel
theorem dl_970 : decode lw_Y.2.1 970 = .ok (.iadd, 1) := by decide +kernel
theorem dl_971 : decode lw_Y.2.1 971 = .ok (.iaload, 1) := by decide +kernel
theorem dl_972 : decode lw_Y.2.1 972 = .ok (.aload_n 0, 1) := by decide +kernel
theorem dl_973 : decode lw_Y.2.1 973 = .ok (.iload_n 3, 1) := by decide +kernel
theorem dl_974 : decode lw_Y.2.1 974 = .ok (.iconst 3, 1) := by decide +kernel
theorem dl_975 : decode lw_Y.2.1 975 = .ok (.iadd, 1) := by decide +kernel
theorem dl_976 : decode lw_Y.2.1 976 = .ok (.iaload, 1) := by decide +kernel
theorem dl_977 : decode lw_Y.2.1 977 = .ok (.invokevirtual 106, 3) := by decide +kernel
theorem dl_980 : decode lw_Y.2.1 980 = .ok (.aload_n 2, 1) := by decide +kernel
theorem dl_981 : decode lw_Y.2.1 981 = .ok (.aload_n 0, 1) := by decide +kernel
theorem dl_982 : decode lw_Y.2.1 982 = .ok (.iload_n 3, 1) := by decide +kernel
theorem dl_983 : decode lw_Y.2.1 983 = .ok (.iconst 1, 1) := by decide +kernel
theorem dl_984 : decode lw_Y.2.1 984 = .ok (.iadd, 1) := by decide +kernel
theorem dl_985 : decode lw_Y.2.1 985 = .ok (.iaload, 1) := by decide +kernel
theorem dl_986 : decode lw_Y.2.1 986 = .ok (.aload_n 0, 1) := by decide +kernel
theorem dl_987 : decode lw_Y.2.1 987 = .ok (.iload_n 3, 1) := by decide +kernel
theorem dl_988 : decode lw_Y.2.1 988 = .ok (.iconst 2, 1) := by decide +kernel
theorem dl_989 : decode lw_Y.2.1 989 = .ok (.iadd, 1) := by decide +kernel
theorem dl_990 : decode lw_Y.2.1 990 = .ok (.iaload, 1) := by decide +kernel
theorem dl_991 : decode lw_Y.2.1 991 = .ok (.aload_n 0, 1) := by decide +kernel
theorem dl_992 : decode lw_Y.2.1 992 = .ok (.iload_n 3, 1) := by decide +kernel
theorem dl_993 : decode lw_Y.2.1 993 = .ok (.iconst 3, 1) := by decide +kernel
theorem dl_994 : decode lw_Y.2.1 994 = .ok (.iadd, 1) := by decide +kernel
theorem dl_995 : decode lw_Y.2.1 995 = .ok (.iaload, 1) := by decide +kernel
theorem dl_996 : decode lw_Y.2.1 996 = .ok (.invokevirtual 109, 3) := by decide +kernel
theorem dl_999 : decode lw_Y.2.1 999 = .ok (.if_icmp .eq 424, 3) := by decide +kernel
theorem dl_1002 : decode lw_Y.2.1 1002 = .ok (.iconst 0, 1) := by decide +kernel
theorem dl_1003 : decode lw_Y.2.1 1003 = .ok (.ireturn, 1) := by decide +kernel
theorem dl_1004 : decode lw_Y.2.1 1004 = .ok (.aload_n 1, 1) := by decide +kernel
theorem dl_1005 : decode lw_Y.2.1 1005 = .ok (.aload_n 0, 1) := by decide +kernel
theorem dl_1006 : decode lw_Y.2.1 1006 = .ok (.iload_n 3, 1) := by decide +kernel
theorem dl_1007 : decode lw_Y.2.1 1007 = .ok (.iconst 1, 1) := by decide +kernel
theorem dl_1008 : decode lw_Y.2.1 1008 = .ok (.iadd, 1) := by decide +kernel
theorem dl_1009 : decode lw_Y.2.1 1009 = .ok (.iaload, 1) := by decide +kernel
theorem dl_1010 : decode lw_Y.2.1 1010 = .ok (.aload_n 0, 1) := by decide +kernel
theorem dl_1011 : decode lw_Y.2.1 1011 = .ok (.iload_n 3, 1) := by decide +kernel
theorem dl_1012 : decode lw_Y.2.1 1012 = .ok (.iconst 2, 1) := by decide +kernel
theorem dl_1013 : decode lw_Y.2.1 1013 = .ok (.iadd, 1) := by decide +kernel
theorem dl_1014 : decode lw_Y.2.1 1014 = .ok (.iaload, 1) := by decide +kernel
theorem dl_1015 : decode lw_Y.2.1 1015 = .ok (.invokevirtual 110, 3) := by decide +kernel
theorem dl_1018 : decode lw_Y.2.1 1018 = .ok (.aload_n 2, 1) := by decide +kernel
theorem dl_1019 : decode lw_Y.2.1 1019 = .ok (.aload_n 0, 1) := by decide +kernel
theorem dl_1020 : decode lw_Y.2.1 1020 = .ok (.iload_n 3, 1) := by decide +kernel
theorem dl_1021 : decode lw_Y.2.1 1021 = .ok (.iconst 1, 1) := by decide +kernel
theorem dl_1022 : decode lw_Y.2.1 1022 = .ok (.iadd, 1) := by decide +kernel
theorem dl_1023 : decode lw_Y.2.1 1023 = .ok (.iaload, 1) := by decide +kernel
theorem dl_1024 : decode lw_Y.2.1 1024 = .ok (.aload_n 0, 1) := by decide +kernel
theorem dl_1025 : decode lw_Y.2.1 1025 = .ok (.iload_n 3, 1) := by decide +kernel
theorem dl_1026 : decode lw_Y.2.1 1026 = .ok (.iconst 2, 1) := by decide +kernel
theorem dl_1027 : decode lw_Y.2.1 1027 = .ok (.iadd, 1) := by decide +kernel
theorem dl_1028 : decode lw_Y.2.1 1028 = .ok (.iaload, 1) := by decide +kernel
theorem dl_1029 : decode lw_Y.2.1 1029 = .ok (.invokevirtual 113, 3) := by decide +kernel
theorem dl_1032 : decode lw_Y.2.1 1032 = .ok (.if_icmp .eq 391, 3) := by decide +kernel
theorem dl_1035 : decode lw_Y.2.1 1035 = .ok (.iconst 0, 1) := by decide +kernel
theorem dl_1036 : decode lw_Y.2.1 1036 = .ok (.ireturn, 1) := by decide +kernel
theorem dl_1037 : decode lw_Y.2.1 1037 = .ok (.aload_n 1, 1) := by decide +kernel
theorem dl_1038 : decode lw_Y.2.1 1038 = .ok (.aload_n 0, 1) := by decide +kernel
theorem dl_1039 : decode lw_Y.2.1 1039 = .ok (.iload_n 3, 1) := by decide +kernel
theorem dl_1040 : decode lw_Y.2.1 1040 = .ok (.iconst 1, 1) := by decide +kernel
theorem dl_1041 : decode lw_Y.2.1 1041 = .ok (.iadd, 1) := by decide +kernel
theorem dl_1042 : decode lw_Y.2.1 1042 = .ok (.iaload, 1) := by decide +kernel
theorem dl_1043 : decode lw_Y.2.1 1043 = .ok (.aload_n 0, 1) := by decide +kernel
theorem dl_1044 : decode lw_Y.2.1 1044 = .ok (.iload_n 3, 1) := by decide +kernel
theorem dl_1045 : decode lw_Y.2.1 1045 = .ok (.iconst 2, 1) := by decide +kernel
theorem dl_1046 : decode lw_Y.2.1 1046 = .ok (.iadd, 1) := by decide +kernel
theorem dl_1047 : decode lw_Y.2.1 1047 = .ok (.iaload, 1) := by decide +kernel
theorem dl_1048 : decode lw_Y.2.1 1048 = .ok (.invokevirtual 114, 3) := by decide +kernel
theorem dl_1051 : decode lw_Y.2.1 1051 = .ok (.aload_n 2, 1) := by decide +kernel
theorem dl_1052 : decode lw_Y.2.1 1052 = .ok (.aload_n 0, 1) := by decide +kernel
theorem dl_1053 : decode lw_Y.2.1 1053 = .ok (.iload_n 3, 1) := by decide +kernel
theorem dl_1054 : decode lw_Y.2.1 1054 = .ok (.iconst 1, 1) := by decide +kernel
theorem dl_1055 : decode lw_Y.2.1 1055 = .ok (.iadd, 1) := by decide +kernel
theorem dl_1056 : decode lw_Y.2.1 1056 = .ok (.iaload, 1) := by decide +kernel
theorem dl_1057 : decode lw_Y.2.1 1057 = .ok (.aload_n 0, 1) := by decide +kernel
theorem dl_1058 : decode lw_Y.2.1 1058 = .ok (.iload_n 3, 1) := by decide +kernel
theorem dl_1059 : decode lw_Y.2.1 1059 = .ok (.iconst 2, 1) := by decide +kernel
theorem dl_1060 : decode lw_Y.2.1 1060 = .ok (.iadd, 1) := by decide +kernel
theorem dl_1061 : decode lw_Y.2.1 1061 = .ok (.iaload, 1) := by decide +kernel
theorem dl_1062 : decode lw_Y.2.1 1062 = .ok (.invokevirtual 117, 3) := by decide +kernel
theorem dl_1065 : decode lw_Y.2.1 1065 = .ok (.if_icmp .eq 358, 3) := by decide +kernel
theorem dl_1068 : decode lw_Y.2.1 1068 = .ok (.iconst 0, 1) := by decide +kernel
theorem dl_1069 : decode lw_Y.2.1 1069 = .ok (.ireturn, 1) := by decide +kernel
theorem dl_1070 : decode lw_Y.2.1 1070 = .ok (.aload_n 1, 1) := by decide +kernel
theorem dl_1071 : decode lw_Y.2.1 1071 = .ok (.aload_n 0, 1) := by decide +kernel
theorem dl_1072 : decode lw_Y.2.1 1072 = .ok (.iload_n 3, 1) := by decide +kernel
theorem dl_1073 : decode lw_Y.2.1 1073 = .ok (.iconst 1, 1) := by decide +kernel
theorem dl_1074 : decode lw_Y.2.1 1074 = .ok (.iadd, 1) := by decide +kernel
theorem dl_1075 : decode lw_Y.2.1 1075 = .ok (.iaload, 1) := by decide +kernel
theorem dl_1076 : decode lw_Y.2.1 1076 = .ok (.invokevirtual 118, 3) := by decide +kernel
theorem dl_1079 : decode lw_Y.2.1 1079 = .ok (.aload_n 2, 1) := by decide +kernel
theorem dl_1080 : decode lw_Y.2.1 1080 = .ok (.aload_n 0, 1) := by decide +kernel
theorem dl_1081 : decode lw_Y.2.1 1081 = .ok (.iload_n 3, 1) := by decide +kernel
theorem dl_1082 : decode lw_Y.2.1 1082 = .ok (.iconst 1, 1) := by decide +kernel
theorem dl_1083 : decode lw_Y.2.1 1083 = .ok (.iadd, 1) := by decide +kernel
theorem dl_1084 : decode lw_Y.2.1 1084 = .ok (.iaload, 1) := by decide +kernel
theorem dl_1085 : decode lw_Y.2.1 1085 = .ok (.invokevirtual 121, 3) := by decide +kernel
theorem dl_1088 : decode lw_Y.2.1 1088 = .ok (.if_icmp .eq 335, 3) := by decide +kernel
theorem dl_1091 : decode lw_Y.2.1 1091 = .ok (.iconst 0, 1) := by decide +kernel
theorem dl_1092 : decode lw_Y.2.1 1092 = .ok (.ireturn, 1) := by decide +kernel
theorem dl_1093 : decode lw_Y.2.1 1093 = .ok (.aload_n 1, 1) := by decide +kernel
theorem dl_1094 : decode lw_Y.2.1 1094 = .ok (.aload_n 0, 1) := by decide +kernel
theorem dl_1095 : decode lw_Y.2.1 1095 = .ok (.iload_n 3, 1) := by decide +kernel
theorem dl_1096 : decode lw_Y.2.1 1096 = .ok (.iconst 1, 1) := by decide +kernel
theorem dl_1097 : decode lw_Y.2.1 1097 = .ok (.iadd, 1) := by decide +kernel
theorem dl_1098 : decode lw_Y.2.1 1098 = .ok (.iaload, 1) := by decide +kernel
theorem dl_1099 : decode lw_Y.2.1 1099 = .ok (.aload_n 0, 1) := by decide +kernel
theorem dl_1100 : decode lw_Y.2.1 1100 = .ok (.iload_n 3, 1) := by decide +kernel
theorem dl_1101 : decode lw_Y.2.1 1101 = .ok (.iconst 2, 1) := by decide +kernel
theorem dl_1102 : decode lw_Y.2.1 1102 = .ok (.iadd, 1) := by decide +kernel
theorem dl_1103 : decode lw_Y.2.1 1103 = .ok (.iaload, 1) := by decide +kernel
theorem dl_1104 : decode lw_Y.2.1 1104 = .ok (.invokevirtual 122, 3) := by decide +kernel
theorem dl_1107 : decode lw_Y.2.1 1107 = .ok (.aload_n 2, 1) := by decide +kernel
theorem dl_1108 : decode lw_Y.2.1 1108 = .ok (.aload_n 0, 1) := by decide +kernel
theorem dl_1109 : decode lw_Y.2.1 1109 = .ok (.iload_n 3, 1) := by decide +kernel
theorem dl_1110 : decode lw_Y.2.1 1110 = .ok (.iconst 1, 1) := by decide +kernel
theorem dl_1111 : decode lw_Y.2.1 1111 = .ok (.iadd, 1) := by decide +kernel
theorem dl_1112 : decode lw_Y.2.1 1112 = .ok (.iaload, 1) := by decide +kernel
theorem dl_1113 : decode lw_Y.2.1 1113 = .ok (.aload_n 0, 1) := by decide +kernel
theorem dl_1114 : decode lw_Y.2.1 1114 = .ok (.iload_n 3, 1) := by decide +kernel
theorem dl_1115 : decode lw_Y.2.1 1115 = .ok (.iconst 2, 1) := by decide +kernel
theorem dl_1116 : decode lw_Y.2.1 1116 = .ok (.iadd, 1) := by decide +kernel
theorem dl_1117 : decode lw_Y.2.1 1117 = .ok (.iaload, 1) := by decide +kernel
theorem dl_1118 : decode lw_Y.2.1 1118 = .ok (.invokevirtual 125, 3) := by decide +kernel
theorem dl_1121 : decode lw_Y.2.1 1121 = .ok (.if_icmp .eq 302, 3) := by decide +kernel
theorem dl_1124 : decode lw_Y.2.1 1124 = .ok (.iconst 0, 1) := by decide +kernel
theorem dl_1125 : decode lw_Y.2.1 1125 = .ok (.ireturn, 1) := by decide +kernel
theorem dl_1126 : decode lw_Y.2.1 1126 = .ok (.aload_n 1, 1) := by decide +kernel
theorem dl_1127 : decode lw_Y.2.1 1127 = .ok (.aload_n 0, 1) := by decide +kernel
theorem dl_1128 : decode lw_Y.2.1 1128 = .ok (.iload_n 3, 1) := by decide +kernel
theorem dl_1129 : decode lw_Y.2.1 1129 = .ok (.iconst 1, 1) := by decide +kernel
theorem dl_1130 : decode lw_Y.2.1 1130 = .ok (.iadd, 1) := by decide +kernel
theorem dl_1131 : decode lw_Y.2.1 1131 = .ok (.iaload, 1) := by decide +kernel
theorem dl_1132 : decode lw_Y.2.1 1132 = .ok (.aload_n 0, 1) := by decide +kernel
theorem dl_1133 : decode lw_Y.2.1 1133 = .ok (.iload_n 3, 1) := by decide +kernel
theorem dl_1134 : decode lw_Y.2.1 1134 = .ok (.iconst 2, 1) := by decide +kernel
theorem dl_1135 : decode lw_Y.2.1 1135 = .ok (.iadd, 1) := by decide +kernel
theorem dl_1136 : decode lw_Y.2.1 1136 = .ok (.iaload, 1) := by decide +kernel
theorem dl_1137 : decode lw_Y.2.1 1137 = .ok (.invokevirtual 126, 3) := by decide +kernel
theorem dl_1140 : decode lw_Y.2.1 1140 = .ok (.aload_n 2, 1) := by decide +kernel
theorem dl_1141 : decode lw_Y.2.1 1141 = .ok (.aload_n 0, 1) := by decide +kernel
theorem dl_1142 : decode lw_Y.2.1 1142 = .ok (.iload_n 3, 1) := by decide +kernel
theorem dl_1143 : decode lw_Y.2.1 1143 = .ok (.iconst 1, 1) := by decide +kernel
theorem dl_1144 : decode lw_Y.2.1 1144 = .ok (.iadd, 1) := by decide +kernel
theorem dl_1145 : decode lw_Y.2.1 1145 = .ok (.iaload, 1) := by decide +kernel
theorem dl_1146 : decode lw_Y.2.1 1146 = .ok (.aload_n 0, 1) := by decide +kernel
theorem dl_1147 : decode lw_Y.2.1 1147 = .ok (.iload_n 3, 1) := by decide +kernel
theorem dl_1148 : decode lw_Y.2.1 1148 = .ok (.iconst 2, 1) := by decide +kernel
theorem dl_1149 : decode lw_Y.2.1 1149 = .ok (.iadd, 1) := by decide +kernel
theorem dl_1150 : decode lw_Y.2.1 1150 = .ok (.iaload, 1) := by decide +kernel
theorem dl_1151 : decode lw_Y.2.1 1151 = .ok (.invokevirtual 129, 3) := by decide +kernel
theorem dl_1154 : decode lw_Y.2.1 1154 = .ok (.if_icmp .eq 269, 3) := by decide +kernel
theorem dl_1157 : decode lw_Y.2.1 1157 = .ok (.iconst 0, 1) := by decide +kernel
theorem dl_1158 : decode lw_Y.2.1 1158 = .ok (.ireturn, 1) := by decide +kernel
theorem dl_1159 : decode lw_Y.2.1 1159 = .ok (.aload_n 1, 1) := by decide +kernel
theorem dl_1160 : decode lw_Y.2.1 1160 = .ok (.aload_n 0, 1) := by decide +kernel
theorem dl_1161 : decode lw_Y.2.1 1161 = .ok (.iload_n 3, 1) := by decide +kernel
theorem dl_1162 : decode lw_Y.2.1 1162 = .ok (.iconst 1, 1) := by decide +kernel
theorem dl_1163 : decode lw_Y.2.1 1163 = .ok (.iadd, 1) := by decide +kernel
theorem dl_1164 : decode lw_Y.2.1 1164 = .ok (.iaload, 1) := by decide +kernel
theorem dl_1165 : decode lw_Y.2.1 1165 = .ok (.aload_n 0, 1) := by decide +kernel
theorem dl_1166 : decode lw_Y.2.1 1166 = .ok (.iload_n 3, 1) := by decide +kernel
theorem dl_1167 : decode lw_Y.2.1 1167 = .ok (.iconst 2, 1) := by decide +kernel
