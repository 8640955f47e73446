theorem dL_law__952 : decode cL_law_ 952 = .ok (.iconst 1, 1) := by decide +kernel
theorem dL_law__953 : decode cL_law_ 953 = .ok (.iadd, 1) := by decide +kernel
theorem dL_law__954 : decode cL_law_ 954 = .ok (.iaload, 1) := by decide +kernel
theorem dL_law__955 : decode cL_law_ 955 = .ok (.invokevirtual 158, 3) := by decide +kernel
theorem dL_law__958 : decode cL_law_ 958 = .ok (.istore 6, 2) := by decide +kernel
theorem dL_law__960 : decode cL_law_ 960 = .ok (.aload_n 2, 1) := by decide +kernel
theorem dL_law__961 : decode cL_law_ 961 = .ok (.invokevirtual 116, 3) := by decide +kernel
theorem dL_law__964 : decode cL_law_ 964 = .ok (.iload 5, 2) := by decide +kernel
theorem dL_law__966 : decode cL_law_ 966 = .ok (.if_icmp .eq 5, 3) := by decide +kernel
theorem dL_law__969 : decode cL_law_ 969 = .ok (.iconst 0, 1) := by decide +kernel
theorem dL_law__970 : decode cL_law_ 970 = .ok (.ireturn, 1) := by decide +kernel
theorem dL_law__971 : decode cL_law_ 971 = .ok (.iload 5, 2) := by decide +kernel
theorem dL_law__973 : decode cL_law_ 973 = .ok (.ifCond .ne 15, 3) := by decide +kernel
theorem dL_law__976 : decode cL_law_ 976 = .ok (.aload_n 3, 1) := by decide +kernel
theorem dL_law__977 : decode cL_law_ 977 = .ok (.iconst 0, 1) := by decide +kernel
theorem dL_law__978 : decode cL_law_ 978 = .ok (.laload, 1) := by decide +kernel
theorem dL_law__979 : decode cL_law_ 979 = .ok (.iload 6, 2) := by decide +kernel
theorem dL_law__981 : decode cL_law_ 981 = .ok (.i2l, 1) := by decide +kernel
theorem dL_law__982 : decode cL_law_ 982 = .ok (.lcmp, 1) := by decide +kernel
theorem dL_law__983 : decode cL_law_ 983 = .ok (.ifCond .eq 5, 3) := by decide +kernel
theorem dL_law__986 : decode cL_law_ 986 = .ok (.iconst 0, 1) := by decide +kernel
theorem dL_law__987 : decode cL_law_ 987 = .ok (.ireturn, 1) := by decide +kernel
theorem dL_law__988 : decode cL_law_ 988 = .ok (.goto 1259, 3) := by decide +kernel
theorem dL_law__991 : decode cL_law_ 991 = .ok (.aload_n 1, 1) := by decide +kernel
theorem dL_law__992 : decode cL_law_ 992 = .ok (.aload_n 0, 1) := by decide +kernel
theorem dL_law__993 : decode cL_law_ 993 = .ok (.iload 4, 2) := by decide +kernel
theorem dL_law__995 : decode cL_law_ 995 = .ok (.iconst 1, 1) := by decide +kernel
theorem dL_law__996 : decode cL_law_ 996 = .ok (.iadd, 1) := by decide +kernel
theorem dL_law__997 : decode cL_law_ 997 = .ok (.iaload, 1) := by decide +kernel
theorem dL_law__998 : decode cL_law_ 998 = .ok (.aload_n 3, 1) := by decide +kernel
theorem dL_law__999 : decode cL_law_ 999 = .ok (.invokestatic 159, 3) := by decide +kernel
theorem dL_law__1002 : decode cL_law_ 1002 = .ok (.istore 5, 2) := by decide +kernel
theorem dL_law__1004 : decode cL_law_ 1004 = .ok (.aload_n 2, 1) := by decide +kernel
theorem dL_law__1005 : decode cL_law_ 1005 = .ok (.aload_n 0, 1) := by decide +kernel
theorem dL_law__1006 : decode cL_law_ 1006 = .ok (.iload 4, 2) := by decide +kernel
theorem dL_law__1008 : decode cL_law_ 1008 = .ok (.iconst 1, 1) := by decide +kernel
theorem dL_law__1009 : decode cL_law_ 1009 = .ok (.iadd, 1) := by decide +kernel
theorem dL_law__1010 : decode cL_law_ 1010 = .ok (.iaload, 1) := by decide +kernel
theorem dL_law__1011 : decode cL_law_ 1011 = .ok (.invokevirtual 161, 3) := by decide +kernel
theorem dL_law__1014 : decode cL_law_ 1014 = .ok (.istore 6, 2) := by decide +kernel
theorem dL_law__1016 : decode cL_law_ 1016 = .ok (.aload_n 2, 1) := by decide +kernel
theorem dL_law__1017 : decode cL_law_ 1017 = .ok (.invokevirtual 116, 3) := by decide +kernel
theorem dL_law__1020 : decode cL_law_ 1020 = .ok (.iload 5, 2) := by decide +kernel
theorem dL_law__1022 : decode cL_law_ 1022 = .ok (.if_icmp .eq 5, 3) := by decide +kernel
theorem dL_law__1025 : decode cL_law_ 1025 = .ok (.iconst 0, 1) := by decide +kernel
theorem dL_law__1026 : decode cL_law_ 1026 = .ok (.ireturn, 1) := by decide +kernel
theorem dL_law__1027 : decode cL_law_ 1027 = .ok (.iload 5, 2) := by decide +kernel
theorem dL_law__1029 : decode cL_law_ 1029 = .ok (.ifCond .ne 15, 3) := by decide +kernel
theorem dL_law__1032 : decode cL_law_ 1032 = .ok (.aload_n 3, 1) := by decide +kernel
theorem dL_law__1033 : decode cL_law_ 1033 = .ok (.iconst 0, 1) := by decide +kernel
theorem dL_law__1034 : decode cL_law_ 1034 = .ok (.laload, 1) := by decide +kernel
theorem dL_law__1035 : decode cL_law_ 1035 = .ok (.iload 6, 2) := by decide +kernel
theorem dL_law__1037 : decode cL_law_ 1037 = .ok (.i2l, 1) := by decide +kernel
theorem dL_law__1038 : decode cL_law_ 1038 = .ok (.lcmp, 1) := by decide +kernel
theorem dL_law__1039 : decode cL_law_ 1039 = .ok (.ifCond .eq 5, 3) := by decide +kernel
theorem dL_law__1042 : decode cL_law_ 1042 = .ok (.iconst 0, 1) := by decide +kernel
theorem dL_law__1043 : decode cL_law_ 1043 = .ok (.ireturn, 1) := by decide +kernel
theorem dL_law__1044 : decode cL_law_ 1044 = .ok (.goto 1203, 3) := by decide +kernel
theorem dL_law__1047 : decode cL_law_ 1047 = .ok (.aload_n 1, 1) := by decide +kernel
theorem dL_law__1048 : decode cL_law_ 1048 = .ok (.invokevirtual 162, 3) := by decide +kernel
theorem dL_law__1051 : decode cL_law_ 1051 = .ok (.aload_n 2, 1) := by decide +kernel
theorem dL_law__1052 : decode cL_law_ 1052 = .ok (.invokevirtual 165, 3) := by decide +kernel
theorem dL_law__1055 : decode cL_law_ 1055 = .ok (.if_icmp .eq 1192, 3) := by decide +kernel
theorem dL_law__1058 : decode cL_law_ 1058 = .ok (.iconst 0, 1) := by decide +kernel
theorem dL_law__1059 : decode cL_law_ 1059 = .ok (.ireturn, 1) := by decide +kernel
theorem dL_law__1060 : decode cL_law_ 1060 = .ok (.aload_n 1, 1) := by decide +kernel
theorem dL_law__1061 : decode cL_law_ 1061 = .ok (.aload_n 0, 1) := by decide +kernel
theorem dL_law__1062 : decode cL_law_ 1062 = .ok (.iload 4, 2) := by decide +kernel
theorem dL_law__1064 : decode cL_law_ 1064 = .ok (.iconst 1, 1) := by decide +kernel
theorem dL_law__1065 : decode cL_law_ 1065 = .ok (.iadd, 1) := by decide +kernel
theorem dL_law__1066 : decode cL_law_ 1066 = .ok (.iaload, 1) := by decide +kernel
theorem dL_law__1067 : decode cL_law_ 1067 = .ok (.aload_n 3, 1) := by decide +kernel
theorem dL_law__1068 : decode cL_law_ 1068 = .ok (.invokestatic 166, 3) := by decide +kernel
theorem dL_law__1071 : decode cL_law_ 1071 = .ok (.istore 5, 2) := by decide +kernel
theorem dL_law__1073 : decode cL_law_ 1073 = .ok (.aload_n 2, 1) := by decide +kernel
theorem dL_law__1074 : decode cL_law_ 1074 = .ok (.aload_n 0, 1) := by decide +kernel
theorem dL_law__1075 : decode cL_law_ 1075 = .ok (.iload 4, 2) := by decide +kernel
theorem dL_law__1077 : decode cL_law_ 1077 = .ok (.iconst 1, 1) := by decide +kernel
theorem dL_law__1078 : decode cL_law_ 1078 = .ok (.iadd, 1) := by decide +kernel
theorem dL_law__1079 : decode cL_law_ 1079 = .ok (.iaload, 1) := by decide +kernel
theorem dL_law__1080 : decode cL_law_ 1080 = .ok (.invokevirtual 168, 3) := by decide +kernel
theorem dL_law__1083 : decode cL_law_ 1083 = .ok (.istore 6, 2) := by decide +kernel
theorem dL_law__1085 : decode cL_law_ 1085 = .ok (.aload_n 2, 1) := by decide +kernel
theorem dL_law__1086 : decode cL_law_ 1086 = .ok (.invokevirtual 116, 3) := by decide +kernel
theorem dL_law__1089 : decode cL_law_ 1089 = .ok (.iload 5, 2) := by decide +kernel
theorem dL_law__1091 : decode cL_law_ 1091 = .ok (.if_icmp .eq 5, 3) := by decide +kernel
theorem dL_law__1094 : decode cL_law_ 1094 = .ok (.iconst 0, 1) := by decide +kernel
theorem dL_law__1095 : decode cL_law_ 1095 = .ok (.ireturn, 1) := by decide +kernel
theorem dL_law__1096 : decode cL_law_ 1096 = .ok (.iload 5, 2) := by decide +kernel
theorem dL_law__1098 : decode cL_law_ 1098 = .ok (.ifCond .ne 15, 3) := by decide +kernel
theorem dL_law__1101 : decode cL_law_ 1101 = .ok (.aload_n 3, 1) := by decide +kernel
theorem dL_law__1102 : decode cL_law_ 1102 = .ok (.iconst 0, 1) := by decide +kernel
theorem dL_law__1103 : decode cL_law_ 1103 = .ok (.laload, 1) := by decide +kernel
theorem dL_law__1104 : decode cL_law_ 1104 = .ok (.iload 6, 2) := by decide +kernel
theorem dL_law__1106 : decode cL_law_ 1106 = .ok (.i2l, 1) := by decide +kernel
theorem dL_law__1107 : decode cL_law_ 1107 = .ok (.lcmp, 1) := by decide +kernel
theorem dL_law__1108 : decode cL_law_ 1108 = .ok (.ifCond .eq 5, 3) := by decide +kernel
theorem dL_law__1111 : decode cL_law_ 1111 = .ok (.iconst 0, 1) := by decide +kernel
theorem dL_law__1112 : decode cL_law_ 1112 = .ok (.ireturn, 1) := by decide +kernel
theorem dL_law__1113 : decode cL_law_ 1113 = .ok (.goto 1134, 3) := by decide +kernel
theorem dL_law__1116 : decode cL_law_ 1116 = .ok (.aload_n 1, 1) := by decide +kernel
theorem dL_law__1117 : decode cL_law_ 1117 = .ok (.invokevirtual 169, 3) := by decide +kernel
theorem dL_law__1120 : decode cL_law_ 1120 = .ok (.aload_n 2, 1) := by decide +kernel
theorem dL_law__1121 : decode cL_law_ 1121 = .ok (.invokevirtual 172, 3) := by decide +kernel
theorem dL_law__1124 : decode cL_law_ 1124 = .ok (.if_icmp .eq 1123, 3) := by decide +kernel
theorem dL_law__1127 : decode cL_law_ 1127 = .ok (.iconst 0, 1) := by decide +kernel
theorem dL_law__1128 : decode cL_law_ 1128 = .ok (.ireturn, 1) := by decide +kernel
theorem dL_law__1129 : decode cL_law_ 1129 = .ok (.aload_n 1, 1) := by decide +kernel
theorem dL_law__1130 : decode cL_law_ 1130 = .ok (.aload_n 0, 1) := by decide +kernel
theorem dL_law__1131 : decode cL_law_ 1131 = .ok (.iload 4, 2) := by decide +kernel
theorem dL_law__1133 : decode cL_law_ 1133 = .ok (.iconst 1, 1) := by decide +kernel
theorem dL_law__1134 : decode cL_law_ 1134 = .ok (.iadd, 1) := by decide +kernel
theorem dL_law__1135 : decode cL_law_ 1135 = .ok (.iaload, 1) := by decide +kernel
theorem dL_law__1136 : decode cL_law_ 1136 = .ok (.aload_n 3, 1) := by decide +kernel
theorem dL_law__1137 : decode cL_law_ 1137 = .ok (.invokestatic 173, 3) := by decide +kernel
theorem dL_law__1140 : decode cL_law_ 1140 = .ok (.istore 5, 2) := by decide +kernel
theorem dL_law__1142 : decode cL_law_ 1142 = .ok (.aload_n 2, 1) := by decide +kernel
theorem dL_law__1143 : decode cL_law_ 1143 = .ok (.aload_n 0, 1) := by decide +kernel
theorem dL_law__1144 : decode cL_law_ 1144 = .ok (.iload 4, 2) := by decide +kernel
theorem dL_law__1146 : decode cL_law_ 1146 = .ok (.iconst 1, 1) := by decide +kernel
theorem dL_law__1147 : decode cL_law_ 1147 = .ok (.iadd, 1) := by decide +kernel
theorem dL_law__1148 : decode cL_law_ 1148 = .ok (.iaload, 1) := by decide +kernel
theorem dL_law__1149 : decode cL_law_ 1149 = .ok (.invokevirtual 175, 3) := by decide +kernel
theorem dL_law__1152 : decode cL_law_ 1152 = .ok (.istore 6, 2) := by decide +kernel
theorem dL_law__1154 : decode cL_law_ 1154 = .ok (.aload_n 2, 1) := by decide +kernel
theorem dL_law__1155 : decode cL_law_ 1155 = .ok (.invokevirtual 116, 3) := by decide +kernel
theorem dL_law__1158 : decode cL_law_ 1158 = .ok (.iload 5, 2) := by decide +kernel
theorem dL_law__1160 : decode cL_law_ 1160 = .ok (.if_icmp .eq 5, 3) := by decide +kernel
theorem dL_law__1163 : decode cL_law_ 1163 = .ok (.iconst 0, 1) := by decide +kernel
theorem dL_law__1164 : decode cL_law_ 1164 = .ok (.ireturn, 1) := by decide +kernel
theorem dL_law__1165 : decode cL_law_ 1165 = .ok (.iload 5, 2) := by decide +kernel
theorem dL_law__1167 : decode cL_law_ 1167 = .ok (.ifCond .ne 15, 3) := by decide +kernel
theorem dL_law__1170 : decode cL_law_ 1170 = .ok (.aload_n 3, 1) := by decide +kernel
theorem dL_law__1171 : decode cL_law_ 1171 = .ok (.iconst 0, 1) := by decide +kernel
theorem dL_law__1172 : decode cL_law_ 1172 = .ok (.laload, 1) := by decide +kernel
theorem dL_law__1173 : decode cL_law_ 1173 = .ok (.iload 6, 2) := by decide +kernel
theorem dL_law__1175 : decode cL_law_ 1175 = .ok (.i2l, 1) := by decide +kernel
theorem dL_law__1176 : decode cL_law_ 1176 = .ok (.lcmp, 1) := by decide +kernel
theorem dL_law__1177 : decode cL_law_ 1177 = .ok (.ifCond .eq 5, 3) := by decide +kernel
theorem dL_law__1180 : decode cL_law_ 1180 = .ok (.iconst 0, 1) := by decide +kernel
theorem dL_law__1181 : decode cL_law_ 1181 = .ok (.ireturn, 1) := by decide +kernel
theorem dL_law__1182 : decode cL_law_ 1182 = .ok (.goto 1065, 3) := by decide +kernel
theorem dL_law__1185 : decode cL_law_ 1185 = .ok (.aload_n 1, 1) := by decide +kernel
theorem dL_law__1186 : decode cL_law_ 1186 = .ok (.invokevirtual 176, 3) := by decide +kernel
theorem dL_law__1189 : decode cL_law_ 1189 = .ok (.aload_n 2, 1) := by decide +kernel
theorem dL_law__1190 : decode cL_law_ 1190 = .ok (.invokevirtual 179, 3) := by decide +kernel
theorem dL_law__1193 : decode cL_law_ 1193 = .ok (.if_icmp .eq 1054, 3) := by decide +kernel
theorem dL_law__1196 : decode cL_law_ 1196 = .ok (.iconst 0, 1) := by decide +kernel
theorem dL_law__1197 : decode cL_law_ 1197 = .ok (.ireturn, 1) := by decide +kernel
theorem dL_law__1198 : decode cL_law_ 1198 = .ok (.aload_n 1, 1) := by decide +kernel
theorem dL_law__1199 : decode cL_law_ 1199 = .ok (.aload_n 0, 1) := by decide +kernel
theorem dL_law__1200 : decode cL_law_ 1200 = .ok (.iload 4, 2) := by decide +kernel
theorem dL_law__1202 : decode cL_law_ 1202 = .ok (.iconst 1, 1) := by decide +kernel
theorem dL_law__1203 : decode cL_law_ 1203 = .ok (.iadd, 1) := by decide +kernel
theorem dL_law__1204 : decode cL_law_ 1204 = .ok (.iaload, 1) := by decide +kernel
theorem dL_law__1205 : decode cL_law_ 1205 = .ok (.aload_n 0, 1) := by decide +kernel
theorem dL_law__1206 : decode cL_law_ 1206 = .ok (.iload 4, 2) := by decide +kernel
theorem dL_law__1208 : decode cL_law_ 1208 = .ok (.iconst 2, 1) := by decide +kernel
theorem dL_law__1209 : decode cL_law_ 1209 = .ok (.iadd, 1) := by decide +kernel
theorem dL_law__1210 : decode cL_law_ 1210 = .ok (.iaload, 1) := by decide +kernel
theorem dL_law__1211 : decode cL_law_ 1211 = .ok (.aload_n 3, 1) := by decide +kernel
theorem dL_law__1212 : decode cL_law_ 1212 = .ok (.invokestatic 180, 3) := by decide +kernel
theorem dL_law__1215 : decode cL_law_ 1215 = .ok (.istore 5, 2) := by decide +kernel
theorem dL_law__1217 : decode cL_law_ 1217 = .ok (.aload_n 2, 1) := by decide +kernel
theorem dL_law__1218 : decode cL_law_ 1218 = .ok (.aload_n 0, 1) := by decide +kernel
theorem dL_law__1219 : decode cL_law_ 1219 = .ok (.iload 4, 2) := by decide +kernel
theorem dL_law__1221 : decode cL_law_ 1221 = .ok (.iconst 1, 1) := by decide +kernel
theorem dL_law__1222 : decode cL_law_ 1222 = .ok (.iadd, 1) := by decide +kernel
theorem dL_law__1223 : decode cL_law_ 1223 = .ok (.iaload, 1) := by decide +kernel
