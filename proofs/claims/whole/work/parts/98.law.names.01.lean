theorem dL_law__918 : decode cL_law_ 918 = .ok (.istore 6, 2) := by decide +kernel
theorem dL_law__920 : decode cL_law_ 920 = .ok (.aload_n 2, 1) := by decide +kernel
theorem dL_law__921 : decode cL_law_ 921 = .ok (.invokevirtual 158, 3) := by decide +kernel
theorem dL_law__924 : decode cL_law_ 924 = .ok (.iload 5, 2) := by decide +kernel
theorem dL_law__926 : decode cL_law_ 926 = .ok (.if_icmp .eq 5, 3) := by decide +kernel
theorem dL_law__929 : decode cL_law_ 929 = .ok (.iconst 0, 1) := by decide +kernel
theorem dL_law__930 : decode cL_law_ 930 = .ok (.ireturn, 1) := by decide +kernel
theorem dL_law__931 : decode cL_law_ 931 = .ok (.iload 5, 2) := by decide +kernel
theorem dL_law__933 : decode cL_law_ 933 = .ok (.ifCond .ne 22, 3) := by decide +kernel
theorem dL_law__936 : decode cL_law_ 936 = .ok (.aload_n 3, 1) := by decide +kernel
theorem dL_law__937 : decode cL_law_ 937 = .ok (.iconst 0, 1) := by decide +kernel
theorem dL_law__938 : decode cL_law_ 938 = .ok (.laload, 1) := by decide +kernel
theorem dL_law__939 : decode cL_law_ 939 = .ok (.iload 6, 2) := by decide +kernel
theorem dL_law__941 : decode cL_law_ 941 = .ok (.ifCond .eq 7, 3) := by decide +kernel
theorem dL_law__944 : decode cL_law_ 944 = .ok (.lconst 1, 1) := by decide +kernel
theorem dL_law__945 : decode cL_law_ 945 = .ok (.goto 4, 3) := by decide +kernel
theorem dL_law__948 : decode cL_law_ 948 = .ok (.lconst 0, 1) := by decide +kernel
theorem dL_law__949 : decode cL_law_ 949 = .ok (.lcmp, 1) := by decide +kernel
theorem dL_law__950 : decode cL_law_ 950 = .ok (.ifCond .eq 5, 3) := by decide +kernel
theorem dL_law__953 : decode cL_law_ 953 = .ok (.iconst 0, 1) := by decide +kernel
theorem dL_law__954 : decode cL_law_ 954 = .ok (.ireturn, 1) := by decide +kernel
theorem dL_law__955 : decode cL_law_ 955 = .ok (.goto 2118, 3) := by decide +kernel
theorem dL_law__958 : decode cL_law_ 958 = .ok (.aload_n 1, 1) := by decide +kernel
theorem dL_law__959 : decode cL_law_ 959 = .ok (.aload_n 0, 1) := by decide +kernel
theorem dL_law__960 : decode cL_law_ 960 = .ok (.iload 4, 2) := by decide +kernel
theorem dL_law__962 : decode cL_law_ 962 = .ok (.iconst 1, 1) := by decide +kernel
theorem dL_law__963 : decode cL_law_ 963 = .ok (.iadd, 1) := by decide +kernel
theorem dL_law__964 : decode cL_law_ 964 = .ok (.iaload, 1) := by decide +kernel
theorem dL_law__965 : decode cL_law_ 965 = .ok (.aload_n 0, 1) := by decide +kernel
theorem dL_law__966 : decode cL_law_ 966 = .ok (.iload 4, 2) := by decide +kernel
theorem dL_law__968 : decode cL_law_ 968 = .ok (.iconst 2, 1) := by decide +kernel
theorem dL_law__969 : decode cL_law_ 969 = .ok (.iadd, 1) := by decide +kernel
theorem dL_law__970 : decode cL_law_ 970 = .ok (.iaload, 1) := by decide +kernel
theorem dL_law__971 : decode cL_law_ 971 = .ok (.ifCond .eq 7, 3) := by decide +kernel
theorem dL_law__974 : decode cL_law_ 974 = .ok (.iconst 1, 1) := by decide +kernel
theorem dL_law__975 : decode cL_law_ 975 = .ok (.goto 4, 3) := by decide +kernel
theorem dL_law__978 : decode cL_law_ 978 = .ok (.iconst 0, 1) := by decide +kernel
theorem dL_law__979 : decode cL_law_ 979 = .ok (.aload_n 3, 1) := by decide +kernel
theorem dL_law__980 : decode cL_law_ 980 = .ok (.invokestatic 192, 3) := by decide +kernel
theorem dL_law__983 : decode cL_law_ 983 = .ok (.istore 5, 2) := by decide +kernel
theorem dL_law__985 : decode cL_law_ 985 = .ok (.aload_n 2, 1) := by decide +kernel
theorem dL_law__986 : decode cL_law_ 986 = .ok (.aload_n 0, 1) := by decide +kernel
theorem dL_law__987 : decode cL_law_ 987 = .ok (.iload 4, 2) := by decide +kernel
theorem dL_law__989 : decode cL_law_ 989 = .ok (.iconst 1, 1) := by decide +kernel
theorem dL_law__990 : decode cL_law_ 990 = .ok (.iadd, 1) := by decide +kernel
theorem dL_law__991 : decode cL_law_ 991 = .ok (.iaload, 1) := by decide +kernel
theorem dL_law__992 : decode cL_law_ 992 = .ok (.aload_n 0, 1) := by decide +kernel
theorem dL_law__993 : decode cL_law_ 993 = .ok (.iload 4, 2) := by decide +kernel
theorem dL_law__995 : decode cL_law_ 995 = .ok (.iconst 2, 1) := by decide +kernel
theorem dL_law__996 : decode cL_law_ 996 = .ok (.iadd, 1) := by decide +kernel
theorem dL_law__997 : decode cL_law_ 997 = .ok (.iaload, 1) := by decide +kernel
theorem dL_law__998 : decode cL_law_ 998 = .ok (.ifCond .eq 7, 3) := by decide +kernel
theorem dL_law__1001 : decode cL_law_ 1001 = .ok (.iconst 1, 1) := by decide +kernel
theorem dL_law__1002 : decode cL_law_ 1002 = .ok (.goto 4, 3) := by decide +kernel
theorem dL_law__1005 : decode cL_law_ 1005 = .ok (.iconst 0, 1) := by decide +kernel
theorem dL_law__1006 : decode cL_law_ 1006 = .ok (.invokevirtual 195, 3) := by decide +kernel
theorem dL_law__1009 : decode cL_law_ 1009 = .ok (.istore 6, 2) := by decide +kernel
theorem dL_law__1011 : decode cL_law_ 1011 = .ok (.aload_n 2, 1) := by decide +kernel
theorem dL_law__1012 : decode cL_law_ 1012 = .ok (.invokevirtual 158, 3) := by decide +kernel
theorem dL_law__1015 : decode cL_law_ 1015 = .ok (.iload 5, 2) := by decide +kernel
theorem dL_law__1017 : decode cL_law_ 1017 = .ok (.if_icmp .eq 5, 3) := by decide +kernel
theorem dL_law__1020 : decode cL_law_ 1020 = .ok (.iconst 0, 1) := by decide +kernel
theorem dL_law__1021 : decode cL_law_ 1021 = .ok (.ireturn, 1) := by decide +kernel
theorem dL_law__1022 : decode cL_law_ 1022 = .ok (.iload 5, 2) := by decide +kernel
theorem dL_law__1024 : decode cL_law_ 1024 = .ok (.ifCond .ne 22, 3) := by decide +kernel
theorem dL_law__1027 : decode cL_law_ 1027 = .ok (.aload_n 3, 1) := by decide +kernel
theorem dL_law__1028 : decode cL_law_ 1028 = .ok (.iconst 0, 1) := by decide +kernel
theorem dL_law__1029 : decode cL_law_ 1029 = .ok (.laload, 1) := by decide +kernel
theorem dL_law__1030 : decode cL_law_ 1030 = .ok (.iload 6, 2) := by decide +kernel
theorem dL_law__1032 : decode cL_law_ 1032 = .ok (.ifCond .eq 7, 3) := by decide +kernel
theorem dL_law__1035 : decode cL_law_ 1035 = .ok (.lconst 1, 1) := by decide +kernel
theorem dL_law__1036 : decode cL_law_ 1036 = .ok (.goto 4, 3) := by decide +kernel
theorem dL_law__1039 : decode cL_law_ 1039 = .ok (.lconst 0, 1) := by decide +kernel
theorem dL_law__1040 : decode cL_law_ 1040 = .ok (.lcmp, 1) := by decide +kernel
theorem dL_law__1041 : decode cL_law_ 1041 = .ok (.ifCond .eq 5, 3) := by decide +kernel
theorem dL_law__1044 : decode cL_law_ 1044 = .ok (.iconst 0, 1) := by decide +kernel
theorem dL_law__1045 : decode cL_law_ 1045 = .ok (.ireturn, 1) := by decide +kernel
theorem dL_law__1046 : decode cL_law_ 1046 = .ok (.goto 2027, 3) := by decide +kernel
theorem dL_law__1049 : decode cL_law_ 1049 = .ok (.aload_n 1, 1) := by decide +kernel
theorem dL_law__1050 : decode cL_law_ 1050 = .ok (.aload_n 0, 1) := by decide +kernel
theorem dL_law__1051 : decode cL_law_ 1051 = .ok (.iload 4, 2) := by decide +kernel
theorem dL_law__1053 : decode cL_law_ 1053 = .ok (.iconst 1, 1) := by decide +kernel
theorem dL_law__1054 : decode cL_law_ 1054 = .ok (.iadd, 1) := by decide +kernel
theorem dL_law__1055 : decode cL_law_ 1055 = .ok (.iaload, 1) := by decide +kernel
theorem dL_law__1056 : decode cL_law_ 1056 = .ok (.aload_n 0, 1) := by decide +kernel
theorem dL_law__1057 : decode cL_law_ 1057 = .ok (.iload 4, 2) := by decide +kernel
theorem dL_law__1059 : decode cL_law_ 1059 = .ok (.iconst 2, 1) := by decide +kernel
theorem dL_law__1060 : decode cL_law_ 1060 = .ok (.iadd, 1) := by decide +kernel
theorem dL_law__1061 : decode cL_law_ 1061 = .ok (.iaload, 1) := by decide +kernel
theorem dL_law__1062 : decode cL_law_ 1062 = .ok (.aload_n 3, 1) := by decide +kernel
theorem dL_law__1063 : decode cL_law_ 1063 = .ok (.invokestatic 196, 3) := by decide +kernel
theorem dL_law__1066 : decode cL_law_ 1066 = .ok (.istore 5, 2) := by decide +kernel
theorem dL_law__1068 : decode cL_law_ 1068 = .ok (.aload_n 2, 1) := by decide +kernel
theorem dL_law__1069 : decode cL_law_ 1069 = .ok (.aload_n 0, 1) := by decide +kernel
theorem dL_law__1070 : decode cL_law_ 1070 = .ok (.iload 4, 2) := by decide +kernel
theorem dL_law__1072 : decode cL_law_ 1072 = .ok (.iconst 1, 1) := by decide +kernel
theorem dL_law__1073 : decode cL_law_ 1073 = .ok (.iadd, 1) := by decide +kernel
theorem dL_law__1074 : decode cL_law_ 1074 = .ok (.iaload, 1) := by decide +kernel
theorem dL_law__1075 : decode cL_law_ 1075 = .ok (.aload_n 0, 1) := by decide +kernel
theorem dL_law__1076 : decode cL_law_ 1076 = .ok (.iload 4, 2) := by decide +kernel
theorem dL_law__1078 : decode cL_law_ 1078 = .ok (.iconst 2, 1) := by decide +kernel
theorem dL_law__1079 : decode cL_law_ 1079 = .ok (.iadd, 1) := by decide +kernel
theorem dL_law__1080 : decode cL_law_ 1080 = .ok (.iaload, 1) := by decide +kernel
theorem dL_law__1081 : decode cL_law_ 1081 = .ok (.invokevirtual 198, 3) := by decide +kernel
theorem dL_law__1084 : decode cL_law_ 1084 = .ok (.istore 6, 2) := by decide +kernel
theorem dL_law__1086 : decode cL_law_ 1086 = .ok (.aload_n 2, 1) := by decide +kernel
theorem dL_law__1087 : decode cL_law_ 1087 = .ok (.invokevirtual 158, 3) := by decide +kernel
theorem dL_law__1090 : decode cL_law_ 1090 = .ok (.iload 5, 2) := by decide +kernel
theorem dL_law__1092 : decode cL_law_ 1092 = .ok (.if_icmp .eq 5, 3) := by decide +kernel
theorem dL_law__1095 : decode cL_law_ 1095 = .ok (.iconst 0, 1) := by decide +kernel
theorem dL_law__1096 : decode cL_law_ 1096 = .ok (.ireturn, 1) := by decide +kernel
theorem dL_law__1097 : decode cL_law_ 1097 = .ok (.iload 5, 2) := by decide +kernel
theorem dL_law__1099 : decode cL_law_ 1099 = .ok (.ifCond .ne 15, 3) := by decide +kernel
theorem dL_law__1102 : decode cL_law_ 1102 = .ok (.aload_n 3, 1) := by decide +kernel
theorem dL_law__1103 : decode cL_law_ 1103 = .ok (.iconst 0, 1) := by decide +kernel
theorem dL_law__1104 : decode cL_law_ 1104 = .ok (.laload, 1) := by decide +kernel
theorem dL_law__1105 : decode cL_law_ 1105 = .ok (.iload 6, 2) := by decide +kernel
theorem dL_law__1107 : decode cL_law_ 1107 = .ok (.i2l, 1) := by decide +kernel
theorem dL_law__1108 : decode cL_law_ 1108 = .ok (.lcmp, 1) := by decide +kernel
theorem dL_law__1109 : decode cL_law_ 1109 = .ok (.ifCond .eq 5, 3) := by decide +kernel
theorem dL_law__1112 : decode cL_law_ 1112 = .ok (.iconst 0, 1) := by decide +kernel
theorem dL_law__1113 : decode cL_law_ 1113 = .ok (.ireturn, 1) := by decide +kernel
theorem dL_law__1114 : decode cL_law_ 1114 = .ok (.goto 1959, 3) := by decide +kernel
theorem dL_law__1117 : decode cL_law_ 1117 = .ok (.aload_n 1, 1) := by decide +kernel
theorem dL_law__1118 : decode cL_law_ 1118 = .ok (.aload_n 0, 1) := by decide +kernel
theorem dL_law__1119 : decode cL_law_ 1119 = .ok (.iload 4, 2) := by decide +kernel
theorem dL_law__1121 : decode cL_law_ 1121 = .ok (.iconst 1, 1) := by decide +kernel
theorem dL_law__1122 : decode cL_law_ 1122 = .ok (.iadd, 1) := by decide +kernel
theorem dL_law__1123 : decode cL_law_ 1123 = .ok (.iaload, 1) := by decide +kernel
theorem dL_law__1124 : decode cL_law_ 1124 = .ok (.aload_n 3, 1) := by decide +kernel
theorem dL_law__1125 : decode cL_law_ 1125 = .ok (.invokestatic 199, 3) := by decide +kernel
theorem dL_law__1128 : decode cL_law_ 1128 = .ok (.istore 5, 2) := by decide +kernel
theorem dL_law__1130 : decode cL_law_ 1130 = .ok (.aload_n 2, 1) := by decide +kernel
theorem dL_law__1131 : decode cL_law_ 1131 = .ok (.aload_n 0, 1) := by decide +kernel
theorem dL_law__1132 : decode cL_law_ 1132 = .ok (.iload 4, 2) := by decide +kernel
theorem dL_law__1134 : decode cL_law_ 1134 = .ok (.iconst 1, 1) := by decide +kernel
theorem dL_law__1135 : decode cL_law_ 1135 = .ok (.iadd, 1) := by decide +kernel
theorem dL_law__1136 : decode cL_law_ 1136 = .ok (.iaload, 1) := by decide +kernel
theorem dL_law__1137 : decode cL_law_ 1137 = .ok (.invokevirtual 201, 3) := by decide +kernel
theorem dL_law__1140 : decode cL_law_ 1140 = .ok (.istore 6, 2) := by decide +kernel
theorem dL_law__1142 : decode cL_law_ 1142 = .ok (.aload_n 2, 1) := by decide +kernel
theorem dL_law__1143 : decode cL_law_ 1143 = .ok (.invokevirtual 158, 3) := by decide +kernel
theorem dL_law__1146 : decode cL_law_ 1146 = .ok (.iload 5, 2) := by decide +kernel
theorem dL_law__1148 : decode cL_law_ 1148 = .ok (.if_icmp .eq 5, 3) := by decide +kernel
theorem dL_law__1151 : decode cL_law_ 1151 = .ok (.iconst 0, 1) := by decide +kernel
theorem dL_law__1152 : decode cL_law_ 1152 = .ok (.ireturn, 1) := by decide +kernel
theorem dL_law__1153 : decode cL_law_ 1153 = .ok (.iload 5, 2) := by decide +kernel
theorem dL_law__1155 : decode cL_law_ 1155 = .ok (.ifCond .ne 15, 3) := by decide +kernel
theorem dL_law__1158 : decode cL_law_ 1158 = .ok (.aload_n 3, 1) := by decide +kernel
theorem dL_law__1159 : decode cL_law_ 1159 = .ok (.iconst 0, 1) := by decide +kernel
theorem dL_law__1160 : decode cL_law_ 1160 = .ok (.laload, 1) := by decide +kernel
theorem dL_law__1161 : decode cL_law_ 1161 = .ok (.iload 6, 2) := by decide +kernel
theorem dL_law__1163 : decode cL_law_ 1163 = .ok (.i2l, 1) := by decide +kernel
theorem dL_law__1164 : decode cL_law_ 1164 = .ok (.lcmp, 1) := by decide +kernel
theorem dL_law__1165 : decode cL_law_ 1165 = .ok (.ifCond .eq 5, 3) := by decide +kernel
theorem dL_law__1168 : decode cL_law_ 1168 = .ok (.iconst 0, 1) := by decide +kernel
theorem dL_law__1169 : decode cL_law_ 1169 = .ok (.ireturn, 1) := by decide +kernel
theorem dL_law__1170 : decode cL_law_ 1170 = .ok (.goto 1903, 3) := by decide +kernel
theorem dL_law__1173 : decode cL_law_ 1173 = .ok (.aload_n 1, 1) := by decide +kernel
theorem dL_law__1174 : decode cL_law_ 1174 = .ok (.aload_n 0, 1) := by decide +kernel
theorem dL_law__1175 : decode cL_law_ 1175 = .ok (.iload 4, 2) := by decide +kernel
theorem dL_law__1177 : decode cL_law_ 1177 = .ok (.iconst 1, 1) := by decide +kernel
theorem dL_law__1178 : decode cL_law_ 1178 = .ok (.iadd, 1) := by decide +kernel
theorem dL_law__1179 : decode cL_law_ 1179 = .ok (.iaload, 1) := by decide +kernel
theorem dL_law__1180 : decode cL_law_ 1180 = .ok (.invokevirtual 202, 3) := by decide +kernel
theorem dL_law__1183 : decode cL_law_ 1183 = .ok (.aload_n 2, 1) := by decide +kernel
theorem dL_law__1184 : decode cL_law_ 1184 = .ok (.aload_n 0, 1) := by decide +kernel
theorem dL_law__1185 : decode cL_law_ 1185 = .ok (.iload 4, 2) := by decide +kernel
theorem dL_law__1187 : decode cL_law_ 1187 = .ok (.iconst 1, 1) := by decide +kernel
theorem dL_law__1188 : decode cL_law_ 1188 = .ok (.iadd, 1) := by decide +kernel
theorem dL_law__1189 : decode cL_law_ 1189 = .ok (.iaload, 1) := by decide +kernel
theorem dL_law__1190 : decode cL_law_ 1190 = .ok (.invokevirtual 205, 3) := by decide +kernel
theorem dL_law__1193 : decode cL_law_ 1193 = .ok (.if_icmp .eq 1880, 3) := by decide +kernel
theorem dL_law__1196 : decode cL_law_ 1196 = .ok (.iconst 0, 1) := by decide +kernel
theorem dL_law__1197 : decode cL_law_ 1197 = .ok (.ireturn, 1) := by decide +kernel
theorem dL_law__1198 : decode cL_law_ 1198 = .ok (.aload_n 1, 1) := by decide +kernel
theorem dL_law__1199 : decode cL_law_ 1199 = .ok (.aload_n 0, 1) := by decide +kernel
theorem dL_law__1200 : decode cL_law_ 1200 = .ok (.iload 4, 2) := by decide +kernel
theorem dL_law__1202 : decode cL_law_ 1202 = .ok (.iconst 1, 1) := by decide +kernel
theorem dL_law__1203 : decode cL_law_ 1203 = .ok (.iadd, 1) := by decide +kernel
theorem dL_law__1204 : decode cL_law_ 1204 = .ok (.iaload, 1) := by decide +kernel
theorem dL_law__1205 : decode cL_law_ 1205 = .ok (.aload_n 0, 1) := by decide +kernel
theorem dL_law__1206 : decode cL_law_ 1206 = .ok (.iload 4, 2) := by decide +kernel
theorem dL_law__1208 : decode cL_law_ 1208 = .ok (.iconst 2, 1) := by decide +kernel
theorem dL_law__1209 : decode cL_law_ 1209 = .ok (.iadd, 1) := by decide +kernel
theorem dL_law__1210 : decode cL_law_ 1210 = .ok (.iaload, 1) := by decide +kernel
theorem dL_law__1211 : decode cL_law_ 1211 = .ok (.aload_n 3, 1) := by decide +kernel
theorem dL_law__1212 : decode cL_law_ 1212 = .ok (.invokestatic 206, 3) := by decide +kernel
theorem dL_law__1215 : decode cL_law_ 1215 = .ok (.istore 5, 2) := by decide +kernel
theorem dL_law__1217 : decode cL_law_ 1217 = .ok (.aload_n 2, 1) := by decide +kernel
theorem dL_law__1218 : decode cL_law_ 1218 = .ok (.aload_n 0, 1) := by decide +kernel
theorem dL_law__1219 : decode cL_law_ 1219 = .ok (.iload 4, 2) := by decide +kernel
theorem dL_law__1221 : decode cL_law_ 1221 = .ok (.iconst 1, 1) := by decide +kernel
theorem dL_law__1222 : decode cL_law_ 1222 = .ok (.iadd, 1) := by decide +kernel
theorem dL_law__1223 : decode cL_law_ 1223 = .ok (.iaload, 1) := by decide +kernel
theorem dL_law__1224 : decode cL_law_ 1224 = .ok (.aload_n 0, 1) := by decide +kernel
theorem dL_law__1225 : decode cL_law_ 1225 = .ok (.iload 4, 2) := by decide +kernel
theorem dL_law__1227 : decode cL_law_ 1227 = .ok (.iconst 2, 1) := by decide +kernel
theorem dL_law__1228 : decode cL_law_ 1228 = .ok (.iadd, 1) := by decide +kernel
theorem dL_law__1229 : decode cL_law_ 1229 = .ok (.iaload, 1) := by decide +kernel
theorem dL_law__1230 : decode cL_law_ 1230 = .ok (.invokevirtual 208, 3) := by decide +kernel
theorem dL_law__1233 : decode cL_law_ 1233 = .ok (.istore 6, 2) := by decide +kernel
theorem dL_law__1235 : decode cL_law_ 1235 = .ok (.aload_n 2, 1) := by decide +kernel
theorem dL_law__1236 : decode cL_law_ 1236 = .ok (.invokevirtual 158, 3) := by decide +kernel
theorem dL_law__1239 : decode cL_law_ 1239 = .ok (.iload 5, 2) := by decide +kernel
theorem dL_law__1241 : decode cL_law_ 1241 = .ok (.if_icmp .eq 5, 3) := by decide +kernel
theorem dL_law__1244 : decode cL_law_ 1244 = .ok (.iconst 0, 1) := by decide +kernel
theorem dL_law__1245 : decode cL_law_ 1245 = .ok (.ireturn, 1) := by decide +kernel
theorem dL_law__1246 : decode cL_law_ 1246 = .ok (.iload 5, 2) := by decide +kernel
theorem dL_law__1248 : decode cL_law_ 1248 = .ok (.ifCond .ne 15, 3) := by decide +kernel
theorem dL_law__1251 : decode cL_law_ 1251 = .ok (.aload_n 3, 1) := by decide +kernel
theorem dL_law__1252 : decode cL_law_ 1252 = .ok (.iconst 0, 1) := by decide +kernel
theorem dL_law__1253 : decode cL_law_ 1253 = .ok (.laload, 1) := by decide +kernel
theorem dL_law__1254 : decode cL_law_ 1254 = .ok (.iload 6, 2) := by decide +kernel
theorem dL_law__1256 : decode cL_law_ 1256 = .ok (.i2l, 1) := by decide +kernel
theorem dL_law__1257 : decode cL_law_ 1257 = .ok (.lcmp, 1) := by decide +kernel
theorem dL_law__1258 : decode cL_law_ 1258 = .ok (.ifCond .eq 5, 3) := by decide +kernel
theorem dL_law__1261 : decode cL_law_ 1261 = .ok (.iconst 0, 1) := by decide +kernel
theorem dL_law__1262 : decode cL_law_ 1262 = .ok (.ireturn, 1) := by decide +kernel
theorem dL_law__1263 : decode cL_law_ 1263 = .ok (.goto 1810, 3) := by decide +kernel
theorem dL_law__1266 : decode cL_law_ 1266 = .ok (.aload_n 1, 1) := by decide +kernel
theorem dL_law__1267 : decode cL_law_ 1267 = .ok (.aload_n 0, 1) := by decide +kernel
theorem dL_law__1268 : decode cL_law_ 1268 = .ok (.iload 4, 2) := by decide +kernel
theorem dL_law__1270 : decode cL_law_ 1270 = .ok (.iconst 1, 1) := by decide +kernel
theorem dL_law__1271 : decode cL_law_ 1271 = .ok (.iadd, 1) := by decide +kernel
theorem dL_law__1272 : decode cL_law_ 1272 = .ok (.iaload, 1) := by decide +kernel
theorem dL_law__1273 : decode cL_law_ 1273 = .ok (.aload_n 0, 1) := by decide +kernel
theorem dL_law__1274 : decode cL_law_ 1274 = .ok (.iload 4, 2) := by decide +kernel
theorem dL_law__1276 : decode cL_law_ 1276 = .ok (.iconst 2, 1) := by decide +kernel
theorem dL_law__1277 : decode cL_law_ 1277 = .ok (.iadd, 1) := by decide +kernel
theorem dL_law__1278 : decode cL_law_ 1278 = .ok (.iaload, 1) := by decide +kernel
theorem dL_law__1279 : decode cL_law_ 1279 = .ok (.aload_n 3, 1) := by decide +kernel
theorem dL_law__1280 : decode cL_law_ 1280 = .ok (.invokestatic 209, 3) := by decide +kernel
theorem dL_law__1283 : decode cL_law_ 1283 = .ok (.istore 5, 2) := by decide +kernel
theorem dL_law__1285 : decode cL_law_ 1285 = .ok (.aload_n 2, 1) := by decide +kernel
theorem dL_law__1286 : decode cL_law_ 1286 = .ok (.aload_n 0, 1) := by decide +kernel
theorem dL_law__1287 : decode cL_law_ 1287 = .ok (.iload 4, 2) := by decide +kernel
theorem dL_law__1289 : decode cL_law_ 1289 = .ok (.iconst 1, 1) := by decide +kernel
theorem dL_law__1290 : decode cL_law_ 1290 = .ok (.iadd, 1) := by decide +kernel
theorem dL_law__1291 : decode cL_law_ 1291 = .ok (.iaload, 1) := by decide +kernel
theorem dL_law__1292 : decode cL_law_ 1292 = .ok (.aload_n 0, 1) := by decide +kernel
theorem dL_law__1293 : decode cL_law_ 1293 = .ok (.iload 4, 2) := by decide +kernel
theorem dL_law__1295 : decode cL_law_ 1295 = .ok (.iconst 2, 1) := by decide +kernel
theorem dL_law__1296 : decode cL_law_ 1296 = .ok (.iadd, 1) := by decide +kernel
theorem dL_law__1297 : decode cL_law_ 1297 = .ok (.iaload, 1) := by decide +kernel
theorem dL_law__1298 : decode cL_law_ 1298 = .ok (.invokevirtual 211, 3) := by decide +kernel
theorem dL_law__1301 : decode cL_law_ 1301 = .ok (.istore 6, 2) := by decide +kernel
theorem dL_law__1303 : decode cL_law_ 1303 = .ok (.aload_n 2, 1) := by decide +kernel
theorem dL_law__1304 : decode cL_law_ 1304 = .ok (.invokevirtual 158, 3) := by decide +kernel
theorem dL_law__1307 : decode cL_law_ 1307 = .ok (.iload 5, 2) := by decide +kernel
theorem dL_law__1309 : decode cL_law_ 1309 = .ok (.if_icmp .eq 5, 3) := by decide +kernel
theorem dL_law__1312 : decode cL_law_ 1312 = .ok (.iconst 0, 1) := by decide +kernel
theorem dL_law__1313 : decode cL_law_ 1313 = .ok (.ireturn, 1) := by decide +kernel
theorem dL_law__1314 : decode cL_law_ 1314 = .ok (.iload 5, 2) := by decide +kernel
theorem dL_law__1316 : decode cL_law_ 1316 = .ok (.ifCond .ne 15, 3) := by decide +kernel
theorem dL_law__1319 : decode cL_law_ 1319 = .ok (.aload_n 3, 1) := by decide +kernel
theorem dL_law__1320 : decode cL_law_ 1320 = .ok (.iconst 0, 1) := by decide +kernel
theorem dL_law__1321 : decode cL_law_ 1321 = .ok (.laload, 1) := by decide +kernel
theorem dL_law__1322 : decode cL_law_ 1322 = .ok (.iload 6, 2) := by decide +kernel
theorem dL_law__1324 : decode cL_law_ 1324 = .ok (.i2l, 1) := by decide +kernel
theorem dL_law__1325 : decode cL_law_ 1325 = .ok (.lcmp, 1) := by decide +kernel
theorem dL_law__1326 : decode cL_law_ 1326 = .ok (.ifCond .eq 5, 3) := by decide +kernel
theorem dL_law__1329 : decode cL_law_ 1329 = .ok (.iconst 0, 1) := by decide +kernel
theorem dL_law__1330 : decode cL_law_ 1330 = .ok (.ireturn, 1) := by decide +kernel
theorem dL_law__1331 : decode cL_law_ 1331 = .ok (.goto 1742, 3) := by decide +kernel
theorem dL_law__1334 : decode cL_law_ 1334 = .ok (.aload_n 1, 1) := by decide +kernel
theorem dL_law__1335 : decode cL_law_ 1335 = .ok (.aload_n 0, 1) := by decide +kernel
theorem dL_law__1336 : decode cL_law_ 1336 = .ok (.iload 4, 2) := by decide +kernel
theorem dL_law__1338 : decode cL_law_ 1338 = .ok (.iconst 1, 1) := by decide +kernel
theorem dL_law__1339 : decode cL_law_ 1339 = .ok (.iadd, 1) := by decide +kernel
theorem dL_law__1340 : decode cL_law_ 1340 = .ok (.iaload, 1) := by decide +kernel
theorem dL_law__1341 : decode cL_law_ 1341 = .ok (.aload_n 0, 1) := by decide +kernel
theorem dL_law__1342 : decode cL_law_ 1342 = .ok (.iload 4, 2) := by decide +kernel
theorem dL_law__1344 : decode cL_law_ 1344 = .ok (.iconst 2, 1) := by decide +kernel
theorem dL_law__1345 : decode cL_law_ 1345 = .ok (.iadd, 1) := by decide +kernel
theorem dL_law__1346 : decode cL_law_ 1346 = .ok (.iaload, 1) := by decide +kernel
theorem dL_law__1347 : decode cL_law_ 1347 = .ok (.aload_n 3, 1) := by decide +kernel
theorem dL_law__1348 : decode cL_law_ 1348 = .ok (.invokestatic 212, 3) := by decide +kernel
theorem dL_law__1351 : decode cL_law_ 1351 = .ok (.istore 5, 2) := by decide +kernel
theorem dL_law__1353 : decode cL_law_ 1353 = .ok (.aload_n 2, 1) := by decide +kernel
theorem dL_law__1354 : decode cL_law_ 1354 = .ok (.aload_n 0, 1) := by decide +kernel
theorem dL_law__1355 : decode cL_law_ 1355 = .ok (.iload 4, 2) := by decide +kernel
theorem dL_law__1357 : decode cL_law_ 1357 = .ok (.iconst 1, 1) := by decide +kernel
theorem dL_law__1358 : decode cL_law_ 1358 = .ok (.iadd, 1) := by decide +kernel
theorem dL_law__1359 : decode cL_law_ 1359 = .ok (.iaload, 1) := by decide +kernel
theorem dL_law__1360 : decode cL_law_ 1360 = .ok (.aload_n 0, 1) := by decide +kernel
theorem dL_law__1361 : decode cL_law_ 1361 = .ok (.iload 4, 2) := by decide +kernel
theorem dL_law__1363 : decode cL_law_ 1363 = .ok (.iconst 2, 1) := by decide +kernel
theorem dL_law__1364 : decode cL_law_ 1364 = .ok (.iadd, 1) := by decide +kernel
theorem dL_law__1365 : decode cL_law_ 1365 = .ok (.iaload, 1) := by decide +kernel
theorem dL_law__1366 : decode cL_law_ 1366 = .ok (.invokevirtual 214, 3) := by decide +kernel
theorem dL_law__1369 : decode cL_law_ 1369 = .ok (.istore 6, 2) := by decide +kernel
theorem dL_law__1371 : decode cL_law_ 1371 = .ok (.aload_n 2, 1) := by decide +kernel
theorem dL_law__1372 : decode cL_law_ 1372 = .ok (.invokevirtual 158, 3) := by decide +kernel
theorem dL_law__1375 : decode cL_law_ 1375 = .ok (.iload 5, 2) := by decide +kernel
theorem dL_law__1377 : decode cL_law_ 1377 = .ok (.if_icmp .eq 5, 3) := by decide +kernel
theorem dL_law__1380 : decode cL_law_ 1380 = .ok (.iconst 0, 1) := by decide +kernel
theorem dL_law__1381 : decode cL_law_ 1381 = .ok (.ireturn, 1) := by decide +kernel
theorem dL_law__1382 : decode cL_law_ 1382 = .ok (.iload 5, 2) := by decide +kernel
theorem dL_law__1384 : decode cL_law_ 1384 = .ok (.ifCond .ne 15, 3) := by decide +kernel
theorem dL_law__1387 : decode cL_law_ 1387 = .ok (.aload_n 3, 1) := by decide +kernel
theorem dL_law__1388 : decode cL_law_ 1388 = .ok (.iconst 0, 1) := by decide +kernel
theorem dL_law__1389 : decode cL_law_ 1389 = .ok (.laload, 1) := by decide +kernel
theorem dL_law__1390 : decode cL_law_ 1390 = .ok (.iload 6, 2) := by decide +kernel
theorem dL_law__1392 : decode cL_law_ 1392 = .ok (.i2l, 1) := by decide +kernel
theorem dL_law__1393 : decode cL_law_ 1393 = .ok (.lcmp, 1) := by decide +kernel
theorem dL_law__1394 : decode cL_law_ 1394 = .ok (.ifCond .eq 5, 3) := by decide +kernel
theorem dL_law__1397 : decode cL_law_ 1397 = .ok (.iconst 0, 1) := by decide +kernel
theorem dL_law__1398 : decode cL_law_ 1398 = .ok (.ireturn, 1) := by decide +kernel
theorem dL_law__1399 : decode cL_law_ 1399 = .ok (.goto 1674, 3) := by decide +kernel
theorem dL_law__1402 : decode cL_law_ 1402 = .ok (.aload_n 1, 1) := by decide +kernel
theorem dL_law__1403 : decode cL_law_ 1403 = .ok (.aload_n 0, 1) := by decide +kernel
theorem dL_law__1404 : decode cL_law_ 1404 = .ok (.iload 4, 2) := by decide +kernel
theorem dL_law__1406 : decode cL_law_ 1406 = .ok (.iconst 1, 1) := by decide +kernel
theorem dL_law__1407 : decode cL_law_ 1407 = .ok (.iadd, 1) := by decide +kernel
theorem dL_law__1408 : decode cL_law_ 1408 = .ok (.iaload, 1) := by decide +kernel
theorem dL_law__1409 : decode cL_law_ 1409 = .ok (.aload_n 0, 1) := by decide +kernel
theorem dL_law__1410 : decode cL_law_ 1410 = .ok (.iload 4, 2) := by decide +kernel
theorem dL_law__1412 : decode cL_law_ 1412 = .ok (.iconst 2, 1) := by decide +kernel
theorem dL_law__1413 : decode cL_law_ 1413 = .ok (.iadd, 1) := by decide +kernel
theorem dL_law__1414 : decode cL_law_ 1414 = .ok (.iaload, 1) := by decide +kernel
theorem dL_law__1415 : decode cL_law_ 1415 = .ok (.aload_n 3, 1) := by decide +kernel
theorem dL_law__1416 : decode cL_law_ 1416 = .ok (.invokestatic 215, 3) := by decide +kernel
theorem dL_law__1419 : decode cL_law_ 1419 = .ok (.istore 5, 2) := by decide +kernel
theorem dL_law__1421 : decode cL_law_ 1421 = .ok (.aload_n 2, 1) := by decide +kernel
theorem dL_law__1422 : decode cL_law_ 1422 = .ok (.aload_n 0, 1) := by decide +kernel
theorem dL_law__1423 : decode cL_law_ 1423 = .ok (.iload 4, 2) := by decide +kernel
theorem dL_law__1425 : decode cL_law_ 1425 = .ok (.iconst 1, 1) := by decide +kernel
theorem dL_law__1426 : decode cL_law_ 1426 = .ok (.iadd, 1) := by decide +kernel
theorem dL_law__1427 : decode cL_law_ 1427 = .ok (.iaload, 1) := by decide +kernel
theorem dL_law__1428 : decode cL_law_ 1428 = .ok (.aload_n 0, 1) := by decide +kernel
theorem dL_law__1429 : decode cL_law_ 1429 = .ok (.iload 4, 2) := by decide +kernel
theorem dL_law__1431 : decode cL_law_ 1431 = .ok (.iconst 2, 1) := by decide +kernel
theorem dL_law__1432 : decode cL_law_ 1432 = .ok (.iadd, 1) := by decide +kernel
theorem dL_law__1433 : decode cL_law_ 1433 = .ok (.iaload, 1) := by decide +kernel
theorem dL_law__1434 : decode cL_law_ 1434 = .ok (.invokevirtual 217, 3) := by decide +kernel
theorem dL_law__1437 : decode cL_law_ 1437 = .ok (.istore 6, 2) := by decide +kernel
theorem dL_law__1439 : decode cL_law_ 1439 = .ok (.aload_n 2, 1) := by decide +kernel
theorem dL_law__1440 : decode cL_law_ 1440 = .ok (.invokevirtual 158, 3) := by decide +kernel
theorem dL_law__1443 : decode cL_law_ 1443 = .ok (.iload 5, 2) := by decide +kernel
theorem dL_law__1445 : decode cL_law_ 1445 = .ok (.if_icmp .eq 5, 3) := by decide +kernel
theorem dL_law__1448 : decode cL_law_ 1448 = .ok (.iconst 0, 1) := by decide +kernel
theorem dL_law__1449 : decode cL_law_ 1449 = .ok (.ireturn, 1) := by decide +kernel
theorem dL_law__1450 : decode cL_law_ 1450 = .ok (.iload 5, 2) := by decide +kernel
theorem dL_law__1452 : decode cL_law_ 1452 = .ok (.ifCond .ne 15, 3) := by decide +kernel
theorem dL_law__1455 : decode cL_law_ 1455 = .ok (.aload_n 3, 1) := by decide +kernel
theorem dL_law__1456 : decode cL_law_ 1456 = .ok (.iconst 0, 1) := by decide +kernel
theorem dL_law__1457 : decode cL_law_ 1457 = .ok (.laload, 1) := by decide +kernel
theorem dL_law__1458 : decode cL_law_ 1458 = .ok (.iload 6, 2) := by decide +kernel
theorem dL_law__1460 : decode cL_law_ 1460 = .ok (.i2l, 1) := by decide +kernel
theorem dL_law__1461 : decode cL_law_ 1461 = .ok (.lcmp, 1) := by decide +kernel
theorem dL_law__1462 : decode cL_law_ 1462 = .ok (.ifCond .eq 5, 3) := by decide +kernel
theorem dL_law__1465 : decode cL_law_ 1465 = .ok (.iconst 0, 1) := by decide +kernel
theorem dL_law__1466 : decode cL_law_ 1466 = .ok (.ireturn, 1) := by decide +kernel
theorem dL_law__1467 : decode cL_law_ 1467 = .ok (.goto 1606, 3) := by decide +kernel
theorem dL_law__1470 : decode cL_law_ 1470 = .ok (.aload_n 1, 1) := by decide +kernel
theorem dL_law__1471 : decode cL_law_ 1471 = .ok (.aload_n 0, 1) := by decide +kernel
theorem dL_law__1472 : decode cL_law_ 1472 = .ok (.iload 4, 2) := by decide +kernel
theorem dL_law__1474 : decode cL_law_ 1474 = .ok (.iconst 1, 1) := by decide +kernel
theorem dL_law__1475 : decode cL_law_ 1475 = .ok (.iadd, 1) := by decide +kernel
theorem dL_law__1476 : decode cL_law_ 1476 = .ok (.iaload, 1) := by decide +kernel
theorem dL_law__1477 : decode cL_law_ 1477 = .ok (.aload_n 0, 1) := by decide +kernel
theorem dL_law__1478 : decode cL_law_ 1478 = .ok (.iload 4, 2) := by decide +kernel
theorem dL_law__1480 : decode cL_law_ 1480 = .ok (.iconst 2, 1) := by decide +kernel
theorem dL_law__1481 : decode cL_law_ 1481 = .ok (.iadd, 1) := by decide +kernel
theorem dL_law__1482 : decode cL_law_ 1482 = .ok (.iaload, 1) := by decide +kernel
theorem dL_law__1483 : decode cL_law_ 1483 = .ok (.aload_n 3, 1) := by decide +kernel
theorem dL_law__1484 : decode cL_law_ 1484 = .ok (.invokestatic 218, 3) := by decide +kernel
theorem dL_law__1487 : decode cL_law_ 1487 = .ok (.istore 5, 2) := by decide +kernel
theorem dL_law__1489 : decode cL_law_ 1489 = .ok (.aload_n 2, 1) := by decide +kernel
theorem dL_law__1490 : decode cL_law_ 1490 = .ok (.aload_n 0, 1) := by decide +kernel
theorem dL_law__1491 : decode cL_law_ 1491 = .ok (.iload 4, 2) := by decide +kernel
theorem dL_law__1493 : decode cL_law_ 1493 = .ok (.iconst 1, 1) := by decide +kernel
theorem dL_law__1494 : decode cL_law_ 1494 = .ok (.iadd, 1) := by decide +kernel
theorem dL_law__1495 : decode cL_law_ 1495 = .ok (.iaload, 1) := by decide +kernel
theorem dL_law__1496 : decode cL_law_ 1496 = .ok (.aload_n 0, 1) := by decide +kernel
theorem dL_law__1497 : decode cL_law_ 1497 = .ok (.iload 4, 2) := by decide +kernel
theorem dL_law__1499 : decode cL_law_ 1499 = .ok (.iconst 2, 1) := by decide +kernel
theorem dL_law__1500 : decode cL_law_ 1500 = .ok (.iadd, 1) := by decide +kernel
theorem dL_law__1501 : decode cL_law_ 1501 = .ok (.iaload, 1) := by decide +kernel
theorem dL_law__1502 : decode cL_law_ 1502 = .ok (.invokevirtual 220, 3) := by decide +kernel
theorem dL_law__1505 : decode cL_law_ 1505 = .ok (.istore 6, 2) := by decide +kernel
theorem dL_law__1507 : decode cL_law_ 1507 = .ok (.aload_n 2, 1) := by decide +kernel
theorem dL_law__1508 : decode cL_law_ 1508 = .ok (.invokevirtual 158, 3) := by decide +kernel
theorem dL_law__1511 : decode cL_law_ 1511 = .ok (.iload 5, 2) := by decide +kernel
theorem dL_law__1513 : decode cL_law_ 1513 = .ok (.if_icmp .eq 5, 3) := by decide +kernel
theorem dL_law__1516 : decode cL_law_ 1516 = .ok (.iconst 0, 1) := by decide +kernel
theorem dL_law__1517 : decode cL_law_ 1517 = .ok (.ireturn, 1) := by decide +kernel
theorem dL_law__1518 : decode cL_law_ 1518 = .ok (.iload 5, 2) := by decide +kernel
theorem dL_law__1520 : decode cL_law_ 1520 = .ok (.ifCond .ne 15, 3) := by decide +kernel
theorem dL_law__1523 : decode cL_law_ 1523 = .ok (.aload_n 3, 1) := by decide +kernel
theorem dL_law__1524 : decode cL_law_ 1524 = .ok (.iconst 0, 1) := by decide +kernel
theorem dL_law__1525 : decode cL_law_ 1525 = .ok (.laload, 1) := by decide +kernel
theorem dL_law__1526 : decode cL_law_ 1526 = .ok (.iload 6, 2) := by decide +kernel
theorem dL_law__1528 : decode cL_law_ 1528 = .ok (.i2l, 1) := by decide +kernel
theorem dL_law__1529 : decode cL_law_ 1529 = .ok (.lcmp, 1) := by decide +kernel
theorem dL_law__1530 : decode cL_law_ 1530 = .ok (.ifCond .eq 5, 3) := by decide +kernel
theorem dL_law__1533 : decode cL_law_ 1533 = .ok (.iconst 0, 1) := by decide +kernel
theorem dL_law__1534 : decode cL_law_ 1534 = .ok (.ireturn, 1) := by decide +kernel
theorem dL_law__1535 : decode cL_law_ 1535 = .ok (.goto 1538, 3) := by decide +kernel
theorem dL_law__1538 : decode cL_law_ 1538 = .ok (.aload_n 1, 1) := by decide +kernel
theorem dL_law__1539 : decode cL_law_ 1539 = .ok (.aload_n 0, 1) := by decide +kernel
theorem dL_law__1540 : decode cL_law_ 1540 = .ok (.iload 4, 2) := by decide +kernel
theorem dL_law__1542 : decode cL_law_ 1542 = .ok (.iconst 1, 1) := by decide +kernel
theorem dL_law__1543 : decode cL_law_ 1543 = .ok (.iadd, 1) := by decide +kernel
theorem dL_law__1544 : decode cL_law_ 1544 = .ok (.iaload, 1) := by decide +kernel
theorem dL_law__1545 : decode cL_law_ 1545 = .ok (.aload_n 0, 1) := by decide +kernel
theorem dL_law__1546 : decode cL_law_ 1546 = .ok (.iload 4, 2) := by decide +kernel
theorem dL_law__1548 : decode cL_law_ 1548 = .ok (.iconst 2, 1) := by decide +kernel
theorem dL_law__1549 : decode cL_law_ 1549 = .ok (.iadd, 1) := by decide +kernel
theorem dL_law__1550 : decode cL_law_ 1550 = .ok (.iaload, 1) := by decide +kernel
theorem dL_law__1551 : decode cL_law_ 1551 = .ok (.aload_n 3, 1) := by decide +kernel
theorem dL_law__1552 : decode cL_law_ 1552 = .ok (.invokestatic 221, 3) := by decide +kernel
theorem dL_law__1555 : decode cL_law_ 1555 = .ok (.istore 5, 2) := by decide +kernel
theorem dL_law__1557 : decode cL_law_ 1557 = .ok (.aload_n 2, 1) := by decide +kernel
theorem dL_law__1558 : decode cL_law_ 1558 = .ok (.aload_n 0, 1) := by decide +kernel
theorem dL_law__1559 : decode cL_law_ 1559 = .ok (.iload 4, 2) := by decide +kernel
theorem dL_law__1561 : decode cL_law_ 1561 = .ok (.iconst 1, 1) := by decide +kernel
theorem dL_law__1562 : decode cL_law_ 1562 = .ok (.iadd, 1) := by decide +kernel
theorem dL_law__1563 : decode cL_law_ 1563 = .ok (.iaload, 1) := by decide +kernel
theorem dL_law__1564 : decode cL_law_ 1564 = .ok (.aload_n 0, 1) := by decide +kernel
theorem dL_law__1565 : decode cL_law_ 1565 = .ok (.iload 4, 2) := by decide +kernel
theorem dL_law__1567 : decode cL_law_ 1567 = .ok (.iconst 2, 1) := by decide +kernel
theorem dL_law__1568 : decode cL_law_ 1568 = .ok (.iadd, 1) := by decide +kernel
theorem dL_law__1569 : decode cL_law_ 1569 = .ok (.iaload, 1) := by decide +kernel
theorem dL_law__1570 : decode cL_law_ 1570 = .ok (.invokevirtual 223, 3) := by decide +kernel
theorem dL_law__1573 : decode cL_law_ 1573 = .ok (.istore 6, 2) := by decide +kernel
theorem dL_law__1575 : decode cL_law_ 1575 = .ok (.aload_n 2, 1) := by decide +kernel
theorem dL_law__1576 : decode cL_law_ 1576 = .ok (.invokevirtual 158, 3) := by decide +kernel
theorem dL_law__1579 : decode cL_law_ 1579 = .ok (.iload 5, 2) := by decide +kernel
theorem dL_law__1581 : decode cL_law_ 1581 = .ok (.if_icmp .eq 5, 3) := by decide +kernel
theorem dL_law__1584 : decode cL_law_ 1584 = .ok (.iconst 0, 1) := by decide +kernel
theorem dL_law__1585 : decode cL_law_ 1585 = .ok (.ireturn, 1) := by decide +kernel
theorem dL_law__1586 : decode cL_law_ 1586 = .ok (.iload 5, 2) := by decide +kernel
theorem dL_law__1588 : decode cL_law_ 1588 = .ok (.ifCond .ne 15, 3) := by decide +kernel
theorem dL_law__1591 : decode cL_law_ 1591 = .ok (.aload_n 3, 1) := by decide +kernel
theorem dL_law__1592 : decode cL_law_ 1592 = .ok (.iconst 0, 1) := by decide +kernel
theorem dL_law__1593 : decode cL_law_ 1593 = .ok (.laload, 1) := by decide +kernel
theorem dL_law__1594 : decode cL_law_ 1594 = .ok (.iload 6, 2) := by decide +kernel
theorem dL_law__1596 : decode cL_law_ 1596 = .ok (.i2l, 1) := by decide +kernel
theorem dL_law__1597 : decode cL_law_ 1597 = .ok (.lcmp, 1) := by decide +kernel
theorem dL_law__1598 : decode cL_law_ 1598 = .ok (.ifCond .eq 5, 3) := by decide +kernel
theorem dL_law__1601 : decode cL_law_ 1601 = .ok (.iconst 0, 1) := by decide +kernel
theorem dL_law__1602 : decode cL_law_ 1602 = .ok (.ireturn, 1) := by decide +kernel
theorem dL_law__1603 : decode cL_law_ 1603 = .ok (.goto 1470, 3) := by decide +kernel
theorem dL_law__1606 : decode cL_law_ 1606 = .ok (.aload_n 1, 1) := by decide +kernel
theorem dL_law__1607 : decode cL_law_ 1607 = .ok (.aload_n 0, 1) := by decide +kernel
theorem dL_law__1608 : decode cL_law_ 1608 = .ok (.iload 4, 2) := by decide +kernel
theorem dL_law__1610 : decode cL_law_ 1610 = .ok (.iconst 1, 1) := by decide +kernel
theorem dL_law__1611 : decode cL_law_ 1611 = .ok (.iadd, 1) := by decide +kernel
