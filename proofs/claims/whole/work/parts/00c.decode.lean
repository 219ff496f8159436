/-! DECODE ROWS (written by wip/gen/emit.py) -/
theorem d_law_0 : decode code 0 = .ok (.new 7, 3) := by decide +kernel
theorem d_law_1000 : decode code 1000 = .ok (.iaload, 1) := by decide +kernel
theorem d_law_1001 : decode code 1001 = .ok (.aload_n 0, 1) := by decide +kernel
theorem d_law_1002 : decode code 1002 = .ok (.iload_n 3, 1) := by decide +kernel
theorem d_law_1003 : decode code 1003 = .ok (.iconst 2, 1) := by decide +kernel
theorem d_law_1004 : decode code 1004 = .ok (.iadd, 1) := by decide +kernel
theorem d_law_1005 : decode code 1005 = .ok (.iaload, 1) := by decide +kernel
theorem d_law_1006 : decode code 1006 = .ok (.aload_n 0, 1) := by decide +kernel
theorem d_law_1007 : decode code 1007 = .ok (.iload_n 3, 1) := by decide +kernel
theorem d_law_1008 : decode code 1008 = .ok (.iconst 3, 1) := by decide +kernel
theorem d_law_1009 : decode code 1009 = .ok (.iadd, 1) := by decide +kernel
theorem d_law_1010 : decode code 1010 = .ok (.iaload, 1) := by decide +kernel
theorem d_law_1011 : decode code 1011 = .ok (.invokevirtual 120, 3) := by decide +kernel
theorem d_law_1014 : decode code 1014 = .ok (.if_icmp .eq 884, 3) := by decide +kernel
theorem d_law_1017 : decode code 1017 = .ok (.iconst 0, 1) := by decide +kernel
theorem d_law_1018 : decode code 1018 = .ok (.ireturn, 1) := by decide +kernel
theorem d_law_1019 : decode code 1019 = .ok (.aload_n 1, 1) := by decide +kernel
theorem d_law_1020 : decode code 1020 = .ok (.invokevirtual 121, 3) := by decide +kernel
theorem d_law_1023 : decode code 1023 = .ok (.aload_n 2, 1) := by decide +kernel
theorem d_law_1024 : decode code 1024 = .ok (.invokevirtual 124, 3) := by decide +kernel
theorem d_law_1027 : decode code 1027 = .ok (.if_icmp .eq 871, 3) := by decide +kernel
theorem d_law_1030 : decode code 1030 = .ok (.iconst 0, 1) := by decide +kernel
theorem d_law_1031 : decode code 1031 = .ok (.ireturn, 1) := by decide +kernel
theorem d_law_1032 : decode code 1032 = .ok (.aload_n 1, 1) := by decide +kernel
theorem d_law_1033 : decode code 1033 = .ok (.aload_n 0, 1) := by decide +kernel
theorem d_law_1034 : decode code 1034 = .ok (.iload_n 3, 1) := by decide +kernel
theorem d_law_1035 : decode code 1035 = .ok (.iconst 1, 1) := by decide +kernel
theorem d_law_1036 : decode code 1036 = .ok (.iadd, 1) := by decide +kernel
theorem d_law_1037 : decode code 1037 = .ok (.iaload, 1) := by decide +kernel
theorem d_law_1038 : decode code 1038 = .ok (.invokevirtual 125, 3) := by decide +kernel
theorem d_law_1041 : decode code 1041 = .ok (.aload_n 2, 1) := by decide +kernel
theorem d_law_1042 : decode code 1042 = .ok (.aload_n 0, 1) := by decide +kernel
theorem d_law_1043 : decode code 1043 = .ok (.iload_n 3, 1) := by decide +kernel
theorem d_law_1044 : decode code 1044 = .ok (.iconst 1, 1) := by decide +kernel
theorem d_law_1045 : decode code 1045 = .ok (.iadd, 1) := by decide +kernel
theorem d_law_1046 : decode code 1046 = .ok (.iaload, 1) := by decide +kernel
theorem d_law_1047 : decode code 1047 = .ok (.invokevirtual 128, 3) := by decide +kernel
theorem d_law_1050 : decode code 1050 = .ok (.if_icmp .eq 848, 3) := by decide +kernel
theorem d_law_1053 : decode code 1053 = .ok (.iconst 0, 1) := by decide +kernel
theorem d_law_1054 : decode code 1054 = .ok (.ireturn, 1) := by decide +kernel
theorem d_law_1055 : decode code 1055 = .ok (.aload_n 1, 1) := by decide +kernel
theorem d_law_1056 : decode code 1056 = .ok (.invokevirtual 129, 3) := by decide +kernel
theorem d_law_1059 : decode code 1059 = .ok (.aload_n 2, 1) := by decide +kernel
theorem d_law_1060 : decode code 1060 = .ok (.invokevirtual 132, 3) := by decide +kernel
theorem d_law_1063 : decode code 1063 = .ok (.if_icmp .eq 835, 3) := by decide +kernel
theorem d_law_1066 : decode code 1066 = .ok (.iconst 0, 1) := by decide +kernel
theorem d_law_1067 : decode code 1067 = .ok (.ireturn, 1) := by decide +kernel
theorem d_law_1068 : decode code 1068 = .ok (.aload_n 1, 1) := by decide +kernel
theorem d_law_1069 : decode code 1069 = .ok (.aload_n 0, 1) := by decide +kernel
theorem d_law_1070 : decode code 1070 = .ok (.iload_n 3, 1) := by decide +kernel
theorem d_law_1071 : decode code 1071 = .ok (.iconst 1, 1) := by decide +kernel
theorem d_law_1072 : decode code 1072 = .ok (.iadd, 1) := by decide +kernel
theorem d_law_1073 : decode code 1073 = .ok (.iaload, 1) := by decide +kernel
theorem d_law_1074 : decode code 1074 = .ok (.aload_n 0, 1) := by decide +kernel
theorem d_law_1075 : decode code 1075 = .ok (.iload_n 3, 1) := by decide +kernel
theorem d_law_1076 : decode code 1076 = .ok (.iconst 2, 1) := by decide +kernel
theorem d_law_1077 : decode code 1077 = .ok (.iadd, 1) := by decide +kernel
theorem d_law_1078 : decode code 1078 = .ok (.iaload, 1) := by decide +kernel
theorem d_law_1079 : decode code 1079 = .ok (.invokevirtual 133, 3) := by decide +kernel
theorem d_law_1082 : decode code 1082 = .ok (.aload_n 2, 1) := by decide +kernel
theorem d_law_1083 : decode code 1083 = .ok (.aload_n 0, 1) := by decide +kernel
theorem d_law_1084 : decode code 1084 = .ok (.iload_n 3, 1) := by decide +kernel
theorem d_law_1085 : decode code 1085 = .ok (.iconst 1, 1) := by decide +kernel
theorem d_law_1086 : decode code 1086 = .ok (.iadd, 1) := by decide +kernel
theorem d_law_1087 : decode code 1087 = .ok (.iaload, 1) := by decide +kernel
theorem d_law_1088 : decode code 1088 = .ok (.aload_n 0, 1) := by decide +kernel
theorem d_law_1089 : decode code 1089 = .ok (.iload_n 3, 1) := by decide +kernel
theorem d_law_1090 : decode code 1090 = .ok (.iconst 2, 1) := by decide +kernel
theorem d_law_1091 : decode code 1091 = .ok (.iadd, 1) := by decide +kernel
theorem d_law_1092 : decode code 1092 = .ok (.iaload, 1) := by decide +kernel
theorem d_law_1093 : decode code 1093 = .ok (.invokevirtual 136, 3) := by decide +kernel
theorem d_law_1096 : decode code 1096 = .ok (.if_icmp .eq 802, 3) := by decide +kernel
theorem d_law_1099 : decode code 1099 = .ok (.iconst 0, 1) := by decide +kernel
theorem d_law_11 : decode code 11 = .ok (.dup, 1) := by decide +kernel
theorem d_law_1100 : decode code 1100 = .ok (.ireturn, 1) := by decide +kernel
theorem d_law_1101 : decode code 1101 = .ok (.aload_n 1, 1) := by decide +kernel
theorem d_law_1102 : decode code 1102 = .ok (.aload_n 0, 1) := by decide +kernel
theorem d_law_1103 : decode code 1103 = .ok (.iload_n 3, 1) := by decide +kernel
theorem d_law_1104 : decode code 1104 = .ok (.iconst 1, 1) := by decide +kernel
theorem d_law_1105 : decode code 1105 = .ok (.iadd, 1) := by decide +kernel
theorem d_law_1106 : decode code 1106 = .ok (.iaload, 1) := by decide +kernel
theorem d_law_1107 : decode code 1107 = .ok (.invokevirtual 137, 3) := by decide +kernel
theorem d_law_1110 : decode code 1110 = .ok (.aload_n 2, 1) := by decide +kernel
theorem d_law_1111 : decode code 1111 = .ok (.aload_n 0, 1) := by decide +kernel
theorem d_law_1112 : decode code 1112 = .ok (.iload_n 3, 1) := by decide +kernel
theorem d_law_1113 : decode code 1113 = .ok (.iconst 1, 1) := by decide +kernel
theorem d_law_1114 : decode code 1114 = .ok (.iadd, 1) := by decide +kernel
theorem d_law_1115 : decode code 1115 = .ok (.iaload, 1) := by decide +kernel
theorem d_law_1116 : decode code 1116 = .ok (.invokevirtual 140, 3) := by decide +kernel
theorem d_law_1119 : decode code 1119 = .ok (.if_icmp .eq 779, 3) := by decide +kernel
theorem d_law_1122 : decode code 1122 = .ok (.iconst 0, 1) := by decide +kernel
theorem d_law_1123 : decode code 1123 = .ok (.ireturn, 1) := by decide +kernel
theorem d_law_1124 : decode code 1124 = .ok (.aload_n 1, 1) := by decide +kernel
theorem d_law_1125 : decode code 1125 = .ok (.invokevirtual 141, 3) := by decide +kernel
theorem d_law_1128 : decode code 1128 = .ok (.aload_n 2, 1) := by decide +kernel
theorem d_law_1129 : decode code 1129 = .ok (.invokevirtual 144, 3) := by decide +kernel
theorem d_law_1132 : decode code 1132 = .ok (.if_icmp .eq 766, 3) := by decide +kernel
theorem d_law_1135 : decode code 1135 = .ok (.iconst 0, 1) := by decide +kernel
theorem d_law_1136 : decode code 1136 = .ok (.ireturn, 1) := by decide +kernel
theorem d_law_1137 : decode code 1137 = .ok (.aload_n 1, 1) := by decide +kernel
theorem d_law_1138 : decode code 1138 = .ok (.aload_n 0, 1) := by decide +kernel
theorem d_law_1139 : decode code 1139 = .ok (.iload_n 3, 1) := by decide +kernel
theorem d_law_1140 : decode code 1140 = .ok (.iconst 1, 1) := by decide +kernel
theorem d_law_1141 : decode code 1141 = .ok (.iadd, 1) := by decide +kernel
theorem d_law_1142 : decode code 1142 = .ok (.iaload, 1) := by decide +kernel
theorem d_law_1143 : decode code 1143 = .ok (.invokevirtual 145, 3) := by decide +kernel
theorem d_law_1146 : decode code 1146 = .ok (.aload_n 2, 1) := by decide +kernel
theorem d_law_1147 : decode code 1147 = .ok (.aload_n 0, 1) := by decide +kernel
theorem d_law_1148 : decode code 1148 = .ok (.iload_n 3, 1) := by decide +kernel
theorem d_law_1149 : decode code 1149 = .ok (.iconst 1, 1) := by decide +kernel
theorem d_law_1150 : decode code 1150 = .ok (.iadd, 1) := by decide +kernel
theorem d_law_1151 : decode code 1151 = .ok (.iaload, 1) := by decide +kernel
theorem d_law_1152 : decode code 1152 = .ok (.invokevirtual 148, 3) := by decide +kernel
theorem d_law_1155 : decode code 1155 = .ok (.if_icmp .eq 743, 3) := by decide +kernel
theorem d_law_1158 : decode code 1158 = .ok (.iconst 0, 1) := by decide +kernel
theorem d_law_1159 : decode code 1159 = .ok (.ireturn, 1) := by decide +kernel
theorem d_law_1160 : decode code 1160 = .ok (.aload_n 1, 1) := by decide +kernel
theorem d_law_1161 : decode code 1161 = .ok (.aload_n 0, 1) := by decide +kernel
theorem d_law_1162 : decode code 1162 = .ok (.iload_n 3, 1) := by decide +kernel
theorem d_law_1163 : decode code 1163 = .ok (.iconst 1, 1) := by decide +kernel
theorem d_law_1164 : decode code 1164 = .ok (.iadd, 1) := by decide +kernel
theorem d_law_1165 : decode code 1165 = .ok (.iaload, 1) := by decide +kernel
theorem d_law_1166 : decode code 1166 = .ok (.aload_n 0, 1) := by decide +kernel
theorem d_law_1167 : decode code 1167 = .ok (.iload_n 3, 1) := by decide +kernel
theorem d_law_1168 : decode code 1168 = .ok (.iconst 2, 1) := by decide +kernel
theorem d_law_1169 : decode code 1169 = .ok (.iadd, 1) := by decide +kernel
theorem d_law_1170 : decode code 1170 = .ok (.iaload, 1) := by decide +kernel
theorem d_law_1171 : decode code 1171 = .ok (.invokevirtual 149, 3) := by decide +kernel
theorem d_law_1174 : decode code 1174 = .ok (.aload_n 2, 1) := by decide +kernel
theorem d_law_1175 : decode code 1175 = .ok (.aload_n 0, 1) := by decide +kernel
theorem d_law_1176 : decode code 1176 = .ok (.iload_n 3, 1) := by decide +kernel
theorem d_law_1177 : decode code 1177 = .ok (.iconst 1, 1) := by decide +kernel
theorem d_law_1178 : decode code 1178 = .ok (.iadd, 1) := by decide +kernel
theorem d_law_1179 : decode code 1179 = .ok (.iaload, 1) := by decide +kernel
theorem d_law_1180 : decode code 1180 = .ok (.aload_n 0, 1) := by decide +kernel
theorem d_law_1181 : decode code 1181 = .ok (.iload_n 3, 1) := by decide +kernel
theorem d_law_1182 : decode code 1182 = .ok (.iconst 2, 1) := by decide +kernel
theorem d_law_1183 : decode code 1183 = .ok (.iadd, 1) := by decide +kernel
theorem d_law_1184 : decode code 1184 = .ok (.iaload, 1) := by decide +kernel
theorem d_law_1185 : decode code 1185 = .ok (.invokevirtual 152, 3) := by decide +kernel
theorem d_law_1188 : decode code 1188 = .ok (.if_icmp .eq 710, 3) := by decide +kernel
theorem d_law_1191 : decode code 1191 = .ok (.iconst 0, 1) := by decide +kernel
theorem d_law_1192 : decode code 1192 = .ok (.ireturn, 1) := by decide +kernel
theorem d_law_1193 : decode code 1193 = .ok (.aload_n 1, 1) := by decide +kernel
theorem d_law_1194 : decode code 1194 = .ok (.aload_n 0, 1) := by decide +kernel
theorem d_law_1195 : decode code 1195 = .ok (.iload_n 3, 1) := by decide +kernel
theorem d_law_1196 : decode code 1196 = .ok (.iconst 1, 1) := by decide +kernel
theorem d_law_1197 : decode code 1197 = .ok (.iadd, 1) := by decide +kernel
theorem d_law_1198 : decode code 1198 = .ok (.iaload, 1) := by decide +kernel
theorem d_law_1199 : decode code 1199 = .ok (.invokevirtual 153, 3) := by decide +kernel
theorem d_law_12 : decode code 12 = .ok (.invokespecial 12, 3) := by decide +kernel
theorem d_law_1202 : decode code 1202 = .ok (.aload_n 2, 1) := by decide +kernel
theorem d_law_1203 : decode code 1203 = .ok (.aload_n 0, 1) := by decide +kernel
theorem d_law_1204 : decode code 1204 = .ok (.iload_n 3, 1) := by decide +kernel
theorem d_law_1205 : decode code 1205 = .ok (.iconst 1, 1) := by decide +kernel
theorem d_law_1206 : decode code 1206 = .ok (.iadd, 1) := by decide +kernel
theorem d_law_1207 : decode code 1207 = .ok (.iaload, 1) := by decide +kernel
theorem d_law_1208 : decode code 1208 = .ok (.invokevirtual 156, 3) := by decide +kernel
theorem d_law_1211 : decode code 1211 = .ok (.if_icmp .eq 687, 3) := by decide +kernel
theorem d_law_1214 : decode code 1214 = .ok (.iconst 0, 1) := by decide +kernel
theorem d_law_1215 : decode code 1215 = .ok (.ireturn, 1) := by decide +kernel
theorem d_law_1216 : decode code 1216 = .ok (.aload_n 1, 1) := by decide +kernel
theorem d_law_1217 : decode code 1217 = .ok (.aload_n 0, 1) := by decide +kernel
theorem d_law_1218 : decode code 1218 = .ok (.iload_n 3, 1) := by decide +kernel
theorem d_law_1219 : decode code 1219 = .ok (.iconst 1, 1) := by decide +kernel
theorem d_law_1220 : decode code 1220 = .ok (.iadd, 1) := by decide +kernel
theorem d_law_1221 : decode code 1221 = .ok (.iaload, 1) := by decide +kernel
theorem d_law_1222 : decode code 1222 = .ok (.aload_n 0, 1) := by decide +kernel
theorem d_law_1223 : decode code 1223 = .ok (.iload_n 3, 1) := by decide +kernel
theorem d_law_1224 : decode code 1224 = .ok (.iconst 2, 1) := by decide +kernel
theorem d_law_1225 : decode code 1225 = .ok (.iadd, 1) := by decide +kernel
theorem d_law_1226 : decode code 1226 = .ok (.iaload, 1) := by decide +kernel
theorem d_law_1227 : decode code 1227 = .ok (.invokevirtual 157, 3) := by decide +kernel
theorem d_law_1230 : decode code 1230 = .ok (.aload_n 2, 1) := by decide +kernel
theorem d_law_1231 : decode code 1231 = .ok (.aload_n 0, 1) := by decide +kernel
theorem d_law_1232 : decode code 1232 = .ok (.iload_n 3, 1) := by decide +kernel
theorem d_law_1233 : decode code 1233 = .ok (.iconst 1, 1) := by decide +kernel
theorem d_law_1234 : decode code 1234 = .ok (.iadd, 1) := by decide +kernel
theorem d_law_1235 : decode code 1235 = .ok (.iaload, 1) := by decide +kernel
theorem d_law_1236 : decode code 1236 = .ok (.aload_n 0, 1) := by decide +kernel
theorem d_law_1237 : decode code 1237 = .ok (.iload_n 3, 1) := by decide +kernel
theorem d_law_1238 : decode code 1238 = .ok (.iconst 2, 1) := by decide +kernel
theorem d_law_1239 : decode code 1239 = .ok (.iadd, 1) := by decide +kernel
theorem d_law_1240 : decode code 1240 = .ok (.iaload, 1) := by decide +kernel
theorem d_law_1241 : decode code 1241 = .ok (.invokevirtual 160, 3) := by decide +kernel
theorem d_law_1244 : decode code 1244 = .ok (.if_icmp .eq 654, 3) := by decide +kernel
theorem d_law_1247 : decode code 1247 = .ok (.iconst 0, 1) := by decide +kernel
theorem d_law_1248 : decode code 1248 = .ok (.ireturn, 1) := by decide +kernel
theorem d_law_1249 : decode code 1249 = .ok (.aload_n 1, 1) := by decide +kernel
theorem d_law_1250 : decode code 1250 = .ok (.aload_n 0, 1) := by decide +kernel
theorem d_law_1251 : decode code 1251 = .ok (.iload_n 3, 1) := by decide +kernel
theorem d_law_1252 : decode code 1252 = .ok (.iconst 1, 1) := by decide +kernel
theorem d_law_1253 : decode code 1253 = .ok (.iadd, 1) := by decide +kernel
theorem d_law_1254 : decode code 1254 = .ok (.iaload, 1) := by decide +kernel
theorem d_law_1255 : decode code 1255 = .ok (.aload_n 0, 1) := by decide +kernel
theorem d_law_1256 : decode code 1256 = .ok (.iload_n 3, 1) := by decide +kernel
theorem d_law_1257 : decode code 1257 = .ok (.iconst 2, 1) := by decide +kernel
theorem d_law_1258 : decode code 1258 = .ok (.iadd, 1) := by decide +kernel
theorem d_law_1259 : decode code 1259 = .ok (.iaload, 1) := by decide +kernel
theorem d_law_1260 : decode code 1260 = .ok (.invokevirtual 161, 3) := by decide +kernel
theorem d_law_1263 : decode code 1263 = .ok (.aload_n 2, 1) := by decide +kernel
theorem d_law_1264 : decode code 1264 = .ok (.aload_n 0, 1) := by decide +kernel
theorem d_law_1265 : decode code 1265 = .ok (.iload_n 3, 1) := by decide +kernel
theorem d_law_1266 : decode code 1266 = .ok (.iconst 1, 1) := by decide +kernel
theorem d_law_1267 : decode code 1267 = .ok (.iadd, 1) := by decide +kernel
theorem d_law_1268 : decode code 1268 = .ok (.iaload, 1) := by decide +kernel
theorem d_law_1269 : decode code 1269 = .ok (.aload_n 0, 1) := by decide +kernel
theorem d_law_1270 : decode code 1270 = .ok (.iload_n 3, 1) := by decide +kernel
theorem d_law_1271 : decode code 1271 = .ok (.iconst 2, 1) := by decide +kernel
theorem d_law_1272 : decode code 1272 = .ok (.iadd, 1) := by decide +kernel
theorem d_law_1273 : decode code 1273 = .ok (.iaload, 1) := by decide +kernel
theorem d_law_1274 : decode code 1274 = .ok (.invokevirtual 164, 3) := by decide +kernel
theorem d_law_1277 : decode code 1277 = .ok (.if_icmp .eq 621, 3) := by decide +kernel
theorem d_law_1280 : decode code 1280 = .ok (.iconst 0, 1) := by decide +kernel
theorem d_law_1281 : decode code 1281 = .ok (.ireturn, 1) := by decide +kernel
theorem d_law_1282 : decode code 1282 = .ok (.aload_n 1, 1) := by decide +kernel
theorem d_law_1283 : decode code 1283 = .ok (.invokevirtual 165, 3) := by decide +kernel
theorem d_law_1286 : decode code 1286 = .ok (.aload_n 2, 1) := by decide +kernel
theorem d_law_1287 : decode code 1287 = .ok (.invokevirtual 168, 3) := by decide +kernel
theorem d_law_1290 : decode code 1290 = .ok (.if_icmp .eq 608, 3) := by decide +kernel
theorem d_law_1293 : decode code 1293 = .ok (.iconst 0, 1) := by decide +kernel
theorem d_law_1294 : decode code 1294 = .ok (.ireturn, 1) := by decide +kernel
theorem d_law_1295 : decode code 1295 = .ok (.aload_n 1, 1) := by decide +kernel
theorem d_law_1296 : decode code 1296 = .ok (.aload_n 0, 1) := by decide +kernel
theorem d_law_1297 : decode code 1297 = .ok (.iload_n 3, 1) := by decide +kernel
theorem d_law_1298 : decode code 1298 = .ok (.iconst 1, 1) := by decide +kernel
theorem d_law_1299 : decode code 1299 = .ok (.iadd, 1) := by decide +kernel
theorem d_law_1300 : decode code 1300 = .ok (.iaload, 1) := by decide +kernel
theorem d_law_1301 : decode code 1301 = .ok (.aload_n 0, 1) := by decide +kernel
theorem d_law_1302 : decode code 1302 = .ok (.iload_n 3, 1) := by decide +kernel
theorem d_law_1303 : decode code 1303 = .ok (.iconst 2, 1) := by decide +kernel
theorem d_law_1304 : decode code 1304 = .ok (.iadd, 1) := by decide +kernel
theorem d_law_1305 : decode code 1305 = .ok (.iaload, 1) := by decide +kernel
theorem d_law_1306 : decode code 1306 = .ok (.invokevirtual 169, 3) := by decide +kernel
theorem d_law_1309 : decode code 1309 = .ok (.aload_n 2, 1) := by decide +kernel
theorem d_law_1310 : decode code 1310 = .ok (.aload_n 0, 1) := by decide +kernel
theorem d_law_1311 : decode code 1311 = .ok (.iload_n 3, 1) := by decide +kernel
theorem d_law_1312 : decode code 1312 = .ok (.iconst 1, 1) := by decide +kernel
theorem d_law_1313 : decode code 1313 = .ok (.iadd, 1) := by decide +kernel
theorem d_law_1314 : decode code 1314 = .ok (.iaload, 1) := by decide +kernel
theorem d_law_1315 : decode code 1315 = .ok (.aload_n 0, 1) := by decide +kernel
theorem d_law_1316 : decode code 1316 = .ok (.iload_n 3, 1) := by decide +kernel
theorem d_law_1317 : decode code 1317 = .ok (.iconst 2, 1) := by decide +kernel
theorem d_law_1318 : decode code 1318 = .ok (.iadd, 1) := by decide +kernel
theorem d_law_1319 : decode code 1319 = .ok (.iaload, 1) := by decide +kernel
theorem d_law_1320 : decode code 1320 = .ok (.invokevirtual 173, 3) := by decide +kernel
theorem d_law_1323 : decode code 1323 = .ok (.lcmp, 1) := by decide +kernel
theorem d_law_1324 : decode code 1324 = .ok (.ifCond .eq 574, 3) := by decide +kernel
theorem d_law_1327 : decode code 1327 = .ok (.iconst 0, 1) := by decide +kernel
theorem d_law_1328 : decode code 1328 = .ok (.ireturn, 1) := by decide +kernel
theorem d_law_1329 : decode code 1329 = .ok (.aload_n 1, 1) := by decide +kernel
theorem d_law_1330 : decode code 1330 = .ok (.aload_n 0, 1) := by decide +kernel
theorem d_law_1331 : decode code 1331 = .ok (.iload_n 3, 1) := by decide +kernel
theorem d_law_1332 : decode code 1332 = .ok (.iconst 1, 1) := by decide +kernel
theorem d_law_1333 : decode code 1333 = .ok (.iadd, 1) := by decide +kernel
theorem d_law_1334 : decode code 1334 = .ok (.iaload, 1) := by decide +kernel
theorem d_law_1335 : decode code 1335 = .ok (.aload_n 0, 1) := by decide +kernel
theorem d_law_1336 : decode code 1336 = .ok (.iload_n 3, 1) := by decide +kernel
theorem d_law_1337 : decode code 1337 = .ok (.iconst 2, 1) := by decide +kernel
theorem d_law_1338 : decode code 1338 = .ok (.iadd, 1) := by decide +kernel
theorem d_law_1339 : decode code 1339 = .ok (.iaload, 1) := by decide +kernel
theorem d_law_1340 : decode code 1340 = .ok (.aload_n 0, 1) := by decide +kernel
theorem d_law_1341 : decode code 1341 = .ok (.iload_n 3, 1) := by decide +kernel
theorem d_law_1342 : decode code 1342 = .ok (.iconst 3, 1) := by decide +kernel
theorem d_law_1343 : decode code 1343 = .ok (.iadd, 1) := by decide +kernel
theorem d_law_1344 : decode code 1344 = .ok (.iaload, 1) := by decide +kernel
theorem d_law_1345 : decode code 1345 = .ok (.invokevirtual 174, 3) := by decide +kernel
theorem d_law_1348 : decode code 1348 = .ok (.aload_n 2, 1) := by decide +kernel
theorem d_law_1349 : decode code 1349 = .ok (.aload_n 0, 1) := by decide +kernel
theorem d_law_1350 : decode code 1350 = .ok (.iload_n 3, 1) := by decide +kernel
theorem d_law_1351 : decode code 1351 = .ok (.iconst 1, 1) := by decide +kernel
theorem d_law_1352 : decode code 1352 = .ok (.iadd, 1) := by decide +kernel
theorem d_law_1353 : decode code 1353 = .ok (.iaload, 1) := by decide +kernel
theorem d_law_1354 : decode code 1354 = .ok (.aload_n 0, 1) := by decide +kernel
theorem d_law_1355 : decode code 1355 = .ok (.iload_n 3, 1) := by decide +kernel
theorem d_law_1356 : decode code 1356 = .ok (.iconst 2, 1) := by decide +kernel
theorem d_law_1357 : decode code 1357 = .ok (.iadd, 1) := by decide +kernel
theorem d_law_1358 : decode code 1358 = .ok (.iaload, 1) := by decide +kernel
theorem d_law_1359 : decode code 1359 = .ok (.aload_n 0, 1) := by decide +kernel
theorem d_law_1360 : decode code 1360 = .ok (.iload_n 3, 1) := by decide +kernel
theorem d_law_1361 : decode code 1361 = .ok (.iconst 3, 1) := by decide +kernel
theorem d_law_1362 : decode code 1362 = .ok (.iadd, 1) := by decide +kernel
theorem d_law_1363 : decode code 1363 = .ok (.iaload, 1) := by decide +kernel
theorem d_law_1364 : decode code 1364 = .ok (.invokevirtual 177, 3) := by decide +kernel
theorem d_law_1367 : decode code 1367 = .ok (.if_icmp .eq 531, 3) := by decide +kernel
theorem d_law_1370 : decode code 1370 = .ok (.iconst 0, 1) := by decide +kernel
theorem d_law_1371 : decode code 1371 = .ok (.ireturn, 1) := by decide +kernel
theorem d_law_1372 : decode code 1372 = .ok (.aload_n 1, 1) := by decide +kernel
theorem d_law_1373 : decode code 1373 = .ok (.aload_n 0, 1) := by decide +kernel
theorem d_law_1374 : decode code 1374 = .ok (.iload_n 3, 1) := by decide +kernel
theorem d_law_1375 : decode code 1375 = .ok (.iconst 1, 1) := by decide +kernel
theorem d_law_1376 : decode code 1376 = .ok (.iadd, 1) := by decide +kernel
theorem d_law_1377 : decode code 1377 = .ok (.iaload, 1) := by decide +kernel
theorem d_law_1378 : decode code 1378 = .ok (.aload_n 0, 1) := by decide +kernel
theorem d_law_1379 : decode code 1379 = .ok (.iload_n 3, 1) := by decide +kernel
theorem d_law_1380 : decode code 1380 = .ok (.iconst 2, 1) := by decide +kernel
theorem d_law_1381 : decode code 1381 = .ok (.iadd, 1) := by decide +kernel
theorem d_law_1382 : decode code 1382 = .ok (.iaload, 1) := by decide +kernel
theorem d_law_1383 : decode code 1383 = .ok (.aload_n 0, 1) := by decide +kernel
theorem d_law_1384 : decode code 1384 = .ok (.iload_n 3, 1) := by decide +kernel
theorem d_law_1385 : decode code 1385 = .ok (.iconst 3, 1) := by decide +kernel
theorem d_law_1386 : decode code 1386 = .ok (.iadd, 1) := by decide +kernel
theorem d_law_1387 : decode code 1387 = .ok (.iaload, 1) := by decide +kernel
theorem d_law_1388 : decode code 1388 = .ok (.invokevirtual 178, 3) := by decide +kernel
theorem d_law_1391 : decode code 1391 = .ok (.aload_n 2, 1) := by decide +kernel
theorem d_law_1392 : decode code 1392 = .ok (.aload_n 0, 1) := by decide +kernel
theorem d_law_1393 : decode code 1393 = .ok (.iload_n 3, 1) := by decide +kernel
theorem d_law_1394 : decode code 1394 = .ok (.iconst 1, 1) := by decide +kernel
theorem d_law_1395 : decode code 1395 = .ok (.iadd, 1) := by decide +kernel
theorem d_law_1396 : decode code 1396 = .ok (.iaload, 1) := by decide +kernel
theorem d_law_1397 : decode code 1397 = .ok (.aload_n 0, 1) := by decide +kernel
theorem d_law_1398 : decode code 1398 = .ok (.iload_n 3, 1) := by decide +kernel
theorem d_law_1399 : decode code 1399 = .ok (.iconst 2, 1) := by decide +kernel
theorem d_law_1400 : decode code 1400 = .ok (.iadd, 1) := by decide +kernel
theorem d_law_1401 : decode code 1401 = .ok (.iaload, 1) := by decide +kernel
theorem d_law_1402 : decode code 1402 = .ok (.aload_n 0, 1) := by decide +kernel
theorem d_law_1403 : decode code 1403 = .ok (.iload_n 3, 1) := by decide +kernel
theorem d_law_1404 : decode code 1404 = .ok (.iconst 3, 1) := by decide +kernel
theorem d_law_1405 : decode code 1405 = .ok (.iadd, 1) := by decide +kernel
theorem d_law_1406 : decode code 1406 = .ok (.iaload, 1) := by decide +kernel
theorem d_law_1407 : decode code 1407 = .ok (.invokevirtual 181, 3) := by decide +kernel
theorem d_law_1410 : decode code 1410 = .ok (.if_icmp .eq 488, 3) := by decide +kernel
theorem d_law_1413 : decode code 1413 = .ok (.iconst 0, 1) := by decide +kernel
theorem d_law_1414 : decode code 1414 = .ok (.ireturn, 1) := by decide +kernel
theorem d_law_1415 : decode code 1415 = .ok (.aload_n 1, 1) := by decide +kernel
theorem d_law_1416 : decode code 1416 = .ok (.aload_n 0, 1) := by decide +kernel
theorem d_law_1417 : decode code 1417 = .ok (.iload_n 3, 1) := by decide +kernel
theorem d_law_1418 : decode code 1418 = .ok (.iconst 1, 1) := by decide +kernel
theorem d_law_1419 : decode code 1419 = .ok (.iadd, 1) := by decide +kernel
theorem d_law_1420 : decode code 1420 = .ok (.iaload, 1) := by decide +kernel
theorem d_law_1421 : decode code 1421 = .ok (.aload_n 0, 1) := by decide +kernel
theorem d_law_1422 : decode code 1422 = .ok (.iload_n 3, 1) := by decide +kernel
theorem d_law_1423 : decode code 1423 = .ok (.iconst 2, 1) := by decide +kernel
theorem d_law_1424 : decode code 1424 = .ok (.iadd, 1) := by decide +kernel
theorem d_law_1425 : decode code 1425 = .ok (.iaload, 1) := by decide +kernel
theorem d_law_1426 : decode code 1426 = .ok (.invokevirtual 182, 3) := by decide +kernel
theorem d_law_1429 : decode code 1429 = .ok (.aload_n 2, 1) := by decide +kernel
theorem d_law_1430 : decode code 1430 = .ok (.aload_n 0, 1) := by decide +kernel
theorem d_law_1431 : decode code 1431 = .ok (.iload_n 3, 1) := by decide +kernel
theorem d_law_1432 : decode code 1432 = .ok (.iconst 1, 1) := by decide +kernel
theorem d_law_1433 : decode code 1433 = .ok (.iadd, 1) := by decide +kernel
theorem d_law_1434 : decode code 1434 = .ok (.iaload, 1) := by decide +kernel
theorem d_law_1435 : decode code 1435 = .ok (.aload_n 0, 1) := by decide +kernel
theorem d_law_1436 : decode code 1436 = .ok (.iload_n 3, 1) := by decide +kernel
theorem d_law_1437 : decode code 1437 = .ok (.iconst 2, 1) := by decide +kernel
theorem d_law_1438 : decode code 1438 = .ok (.iadd, 1) := by decide +kernel
theorem d_law_1439 : decode code 1439 = .ok (.iaload, 1) := by decide +kernel
theorem d_law_1440 : decode code 1440 = .ok (.invokevirtual 185, 3) := by decide +kernel
theorem d_law_1443 : decode code 1443 = .ok (.if_icmp .eq 455, 3) := by decide +kernel
theorem d_law_1446 : decode code 1446 = .ok (.iconst 0, 1) := by decide +kernel
theorem d_law_1447 : decode code 1447 = .ok (.ireturn, 1) := by decide +kernel
theorem d_law_1448 : decode code 1448 = .ok (.aload_n 1, 1) := by decide +kernel
theorem d_law_1449 : decode code 1449 = .ok (.aload_n 0, 1) := by decide +kernel
theorem d_law_1450 : decode code 1450 = .ok (.iload_n 3, 1) := by decide +kernel
theorem d_law_1451 : decode code 1451 = .ok (.iconst 1, 1) := by decide +kernel
theorem d_law_1452 : decode code 1452 = .ok (.iadd, 1) := by decide +kernel
theorem d_law_1453 : decode code 1453 = .ok (.iaload, 1) := by decide +kernel
theorem d_law_1454 : decode code 1454 = .ok (.invokevirtual 186, 3) := by decide +kernel
theorem d_law_1457 : decode code 1457 = .ok (.aload_n 2, 1) := by decide +kernel
theorem d_law_1458 : decode code 1458 = .ok (.aload_n 0, 1) := by decide +kernel
theorem d_law_1459 : decode code 1459 = .ok (.iload_n 3, 1) := by decide +kernel
theorem d_law_1460 : decode code 1460 = .ok (.iconst 1, 1) := by decide +kernel
theorem d_law_1461 : decode code 1461 = .ok (.iadd, 1) := by decide +kernel
theorem d_law_1462 : decode code 1462 = .ok (.iaload, 1) := by decide +kernel
theorem d_law_1463 : decode code 1463 = .ok (.invokevirtual 189, 3) := by decide +kernel
theorem d_law_1466 : decode code 1466 = .ok (.if_icmp .eq 432, 3) := by decide +kernel
theorem d_law_1469 : decode code 1469 = .ok (.iconst 0, 1) := by decide +kernel
theorem d_law_1470 : decode code 1470 = .ok (.ireturn, 1) := by decide +kernel
theorem d_law_1471 : decode code 1471 = .ok (.aload_n 1, 1) := by decide +kernel
theorem d_law_1472 : decode code 1472 = .ok (.aload_n 0, 1) := by decide +kernel
theorem d_law_1473 : decode code 1473 = .ok (.iload_n 3, 1) := by decide +kernel
theorem d_law_1474 : decode code 1474 = .ok (.iconst 1, 1) := by decide +kernel
theorem d_law_1475 : decode code 1475 = .ok (.iadd, 1) := by decide +kernel
theorem d_law_1476 : decode code 1476 = .ok (.iaload, 1) := by decide +kernel
theorem d_law_1477 : decode code 1477 = .ok (.aload_n 0, 1) := by decide +kernel
theorem d_law_1478 : decode code 1478 = .ok (.iload_n 3, 1) := by decide +kernel
theorem d_law_1479 : decode code 1479 = .ok (.iconst 2, 1) := by decide +kernel
theorem d_law_1480 : decode code 1480 = .ok (.iadd, 1) := by decide +kernel
theorem d_law_1481 : decode code 1481 = .ok (.iaload, 1) := by decide +kernel
theorem d_law_1482 : decode code 1482 = .ok (.invokevirtual 190, 3) := by decide +kernel
theorem d_law_1485 : decode code 1485 = .ok (.aload_n 2, 1) := by decide +kernel
theorem d_law_1486 : decode code 1486 = .ok (.aload_n 0, 1) := by decide +kernel
theorem d_law_1487 : decode code 1487 = .ok (.iload_n 3, 1) := by decide +kernel
theorem d_law_1488 : decode code 1488 = .ok (.iconst 1, 1) := by decide +kernel
theorem d_law_1489 : decode code 1489 = .ok (.iadd, 1) := by decide +kernel
theorem d_law_1490 : decode code 1490 = .ok (.iaload, 1) := by decide +kernel
theorem d_law_1491 : decode code 1491 = .ok (.aload_n 0, 1) := by decide +kernel
theorem d_law_1492 : decode code 1492 = .ok (.iload_n 3, 1) := by decide +kernel
theorem d_law_1493 : decode code 1493 = .ok (.iconst 2, 1) := by decide +kernel
theorem d_law_1494 : decode code 1494 = .ok (.iadd, 1) := by decide +kernel
theorem d_law_1495 : decode code 1495 = .ok (.iaload, 1) := by decide +kernel
theorem d_law_1496 : decode code 1496 = .ok (.invokevirtual 193, 3) := by decide +kernel
theorem d_law_1499 : decode code 1499 = .ok (.if_icmp .eq 399, 3) := by decide +kernel
theorem d_law_15 : decode code 15 = .ok (.astore_n 2, 1) := by decide +kernel
theorem d_law_1502 : decode code 1502 = .ok (.iconst 0, 1) := by decide +kernel
theorem d_law_1503 : decode code 1503 = .ok (.ireturn, 1) := by decide +kernel
theorem d_law_1504 : decode code 1504 = .ok (.aload_n 1, 1) := by decide +kernel
theorem d_law_1505 : decode code 1505 = .ok (.aload_n 0, 1) := by decide +kernel
theorem d_law_1506 : decode code 1506 = .ok (.iload_n 3, 1) := by decide +kernel
theorem d_law_1507 : decode code 1507 = .ok (.iconst 1, 1) := by decide +kernel
theorem d_law_1508 : decode code 1508 = .ok (.iadd, 1) := by decide +kernel
theorem d_law_1509 : decode code 1509 = .ok (.iaload, 1) := by decide +kernel
theorem d_law_1510 : decode code 1510 = .ok (.invokevirtual 194, 3) := by decide +kernel
theorem d_law_1513 : decode code 1513 = .ok (.aload_n 2, 1) := by decide +kernel
theorem d_law_1514 : decode code 1514 = .ok (.aload_n 0, 1) := by decide +kernel
theorem d_law_1515 : decode code 1515 = .ok (.iload_n 3, 1) := by decide +kernel
theorem d_law_1516 : decode code 1516 = .ok (.iconst 1, 1) := by decide +kernel
theorem d_law_1517 : decode code 1517 = .ok (.iadd, 1) := by decide +kernel
theorem d_law_1518 : decode code 1518 = .ok (.iaload, 1) := by decide +kernel
theorem d_law_1519 : decode code 1519 = .ok (.invokevirtual 197, 3) := by decide +kernel
theorem d_law_1522 : decode code 1522 = .ok (.if_icmp .eq 376, 3) := by decide +kernel
theorem d_law_1525 : decode code 1525 = .ok (.iconst 0, 1) := by decide +kernel
theorem d_law_1526 : decode code 1526 = .ok (.ireturn, 1) := by decide +kernel
theorem d_law_1527 : decode code 1527 = .ok (.aload_n 1, 1) := by decide +kernel
theorem d_law_1528 : decode code 1528 = .ok (.aload_n 0, 1) := by decide +kernel
theorem d_law_1529 : decode code 1529 = .ok (.iload_n 3, 1) := by decide +kernel
theorem d_law_1530 : decode code 1530 = .ok (.iconst 1, 1) := by decide +kernel
theorem d_law_1531 : decode code 1531 = .ok (.iadd, 1) := by decide +kernel
theorem d_law_1532 : decode code 1532 = .ok (.iaload, 1) := by decide +kernel
theorem d_law_1533 : decode code 1533 = .ok (.aload_n 0, 1) := by decide +kernel
theorem d_law_1534 : decode code 1534 = .ok (.iload_n 3, 1) := by decide +kernel
theorem d_law_1535 : decode code 1535 = .ok (.iconst 2, 1) := by decide +kernel
theorem d_law_1536 : decode code 1536 = .ok (.iadd, 1) := by decide +kernel
theorem d_law_1537 : decode code 1537 = .ok (.iaload, 1) := by decide +kernel
theorem d_law_1538 : decode code 1538 = .ok (.invokevirtual 198, 3) := by decide +kernel
theorem d_law_1541 : decode code 1541 = .ok (.aload_n 2, 1) := by decide +kernel
theorem d_law_1542 : decode code 1542 = .ok (.aload_n 0, 1) := by decide +kernel
theorem d_law_1543 : decode code 1543 = .ok (.iload_n 3, 1) := by decide +kernel
theorem d_law_1544 : decode code 1544 = .ok (.iconst 1, 1) := by decide +kernel
theorem d_law_1545 : decode code 1545 = .ok (.iadd, 1) := by decide +kernel
theorem d_law_1546 : decode code 1546 = .ok (.iaload, 1) := by decide +kernel
theorem d_law_1547 : decode code 1547 = .ok (.aload_n 0, 1) := by decide +kernel
theorem d_law_1548 : decode code 1548 = .ok (.iload_n 3, 1) := by decide +kernel
theorem d_law_1549 : decode code 1549 = .ok (.iconst 2, 1) := by decide +kernel
theorem d_law_1550 : decode code 1550 = .ok (.iadd, 1) := by decide +kernel
theorem d_law_1551 : decode code 1551 = .ok (.iaload, 1) := by decide +kernel
theorem d_law_1552 : decode code 1552 = .ok (.invokevirtual 201, 3) := by decide +kernel
theorem d_law_1555 : decode code 1555 = .ok (.if_icmp .eq 343, 3) := by decide +kernel
theorem d_law_1558 : decode code 1558 = .ok (.iconst 0, 1) := by decide +kernel
theorem d_law_1559 : decode code 1559 = .ok (.ireturn, 1) := by decide +kernel
theorem d_law_1560 : decode code 1560 = .ok (.aload_n 1, 1) := by decide +kernel
theorem d_law_1561 : decode code 1561 = .ok (.aload_n 0, 1) := by decide +kernel
theorem d_law_1562 : decode code 1562 = .ok (.iload_n 3, 1) := by decide +kernel
theorem d_law_1563 : decode code 1563 = .ok (.iconst 1, 1) := by decide +kernel
theorem d_law_1564 : decode code 1564 = .ok (.iadd, 1) := by decide +kernel
theorem d_law_1565 : decode code 1565 = .ok (.iaload, 1) := by decide +kernel
theorem d_law_1566 : decode code 1566 = .ok (.aload_n 0, 1) := by decide +kernel
theorem d_law_1567 : decode code 1567 = .ok (.iload_n 3, 1) := by decide +kernel
theorem d_law_1568 : decode code 1568 = .ok (.iconst 2, 1) := by decide +kernel
theorem d_law_1569 : decode code 1569 = .ok (.iadd, 1) := by decide +kernel
theorem d_law_1570 : decode code 1570 = .ok (.iaload, 1) := by decide +kernel
theorem d_law_1571 : decode code 1571 = .ok (.invokevirtual 202, 3) := by decide +kernel
theorem d_law_1574 : decode code 1574 = .ok (.aload_n 2, 1) := by decide +kernel
theorem d_law_1575 : decode code 1575 = .ok (.aload_n 0, 1) := by decide +kernel
theorem d_law_1576 : decode code 1576 = .ok (.iload_n 3, 1) := by decide +kernel
theorem d_law_1577 : decode code 1577 = .ok (.iconst 1, 1) := by decide +kernel
theorem d_law_1578 : decode code 1578 = .ok (.iadd, 1) := by decide +kernel
theorem d_law_1579 : decode code 1579 = .ok (.iaload, 1) := by decide +kernel
theorem d_law_1580 : decode code 1580 = .ok (.aload_n 0, 1) := by decide +kernel
theorem d_law_1581 : decode code 1581 = .ok (.iload_n 3, 1) := by decide +kernel
theorem d_law_1582 : decode code 1582 = .ok (.iconst 2, 1) := by decide +kernel
theorem d_law_1583 : decode code 1583 = .ok (.iadd, 1) := by decide +kernel
theorem d_law_1584 : decode code 1584 = .ok (.iaload, 1) := by decide +kernel
theorem d_law_1585 : decode code 1585 = .ok (.invokevirtual 205, 3) := by decide +kernel
theorem d_law_1588 : decode code 1588 = .ok (.lcmp, 1) := by decide +kernel
theorem d_law_1589 : decode code 1589 = .ok (.ifCond .eq 309, 3) := by decide +kernel
theorem d_law_1592 : decode code 1592 = .ok (.iconst 0, 1) := by decide +kernel
theorem d_law_1593 : decode code 1593 = .ok (.ireturn, 1) := by decide +kernel
theorem d_law_1594 : decode code 1594 = .ok (.aload_n 1, 1) := by decide +kernel
theorem d_law_1595 : decode code 1595 = .ok (.aload_n 0, 1) := by decide +kernel
theorem d_law_1596 : decode code 1596 = .ok (.iload_n 3, 1) := by decide +kernel
theorem d_law_1597 : decode code 1597 = .ok (.iconst 1, 1) := by decide +kernel
theorem d_law_1598 : decode code 1598 = .ok (.iadd, 1) := by decide +kernel
theorem d_law_1599 : decode code 1599 = .ok (.iaload, 1) := by decide +kernel
theorem d_law_16 : decode code 16 = .ok (.iconst 0, 1) := by decide +kernel
theorem d_law_1600 : decode code 1600 = .ok (.aload_n 0, 1) := by decide +kernel
theorem d_law_1601 : decode code 1601 = .ok (.iload_n 3, 1) := by decide +kernel
theorem d_law_1602 : decode code 1602 = .ok (.iconst 2, 1) := by decide +kernel
theorem d_law_1603 : decode code 1603 = .ok (.iadd, 1) := by decide +kernel
theorem d_law_1604 : decode code 1604 = .ok (.iaload, 1) := by decide +kernel
theorem d_law_1605 : decode code 1605 = .ok (.aload_n 0, 1) := by decide +kernel
theorem d_law_1606 : decode code 1606 = .ok (.iload_n 3, 1) := by decide +kernel
theorem d_law_1607 : decode code 1607 = .ok (.iconst 3, 1) := by decide +kernel
theorem d_law_1608 : decode code 1608 = .ok (.iadd, 1) := by decide +kernel
theorem d_law_1609 : decode code 1609 = .ok (.iaload, 1) := by decide +kernel
theorem d_law_1610 : decode code 1610 = .ok (.invokevirtual 206, 3) := by decide +kernel
theorem d_law_1613 : decode code 1613 = .ok (.aload_n 2, 1) := by decide +kernel
theorem d_law_1614 : decode code 1614 = .ok (.aload_n 0, 1) := by decide +kernel
theorem d_law_1615 : decode code 1615 = .ok (.iload_n 3, 1) := by decide +kernel
theorem d_law_1616 : decode code 1616 = .ok (.iconst 1, 1) := by decide +kernel
theorem d_law_1617 : decode code 1617 = .ok (.iadd, 1) := by decide +kernel
theorem d_law_1618 : decode code 1618 = .ok (.iaload, 1) := by decide +kernel
theorem d_law_1619 : decode code 1619 = .ok (.aload_n 0, 1) := by decide +kernel
theorem d_law_1620 : decode code 1620 = .ok (.iload_n 3, 1) := by decide +kernel
theorem d_law_1621 : decode code 1621 = .ok (.iconst 2, 1) := by decide +kernel
theorem d_law_1622 : decode code 1622 = .ok (.iadd, 1) := by decide +kernel
theorem d_law_1623 : decode code 1623 = .ok (.iaload, 1) := by decide +kernel
theorem d_law_1624 : decode code 1624 = .ok (.aload_n 0, 1) := by decide +kernel
theorem d_law_1625 : decode code 1625 = .ok (.iload_n 3, 1) := by decide +kernel
theorem d_law_1626 : decode code 1626 = .ok (.iconst 3, 1) := by decide +kernel
theorem d_law_1627 : decode code 1627 = .ok (.iadd, 1) := by decide +kernel
theorem d_law_1628 : decode code 1628 = .ok (.iaload, 1) := by decide +kernel
theorem d_law_1629 : decode code 1629 = .ok (.invokevirtual 209, 3) := by decide +kernel
theorem d_law_1632 : decode code 1632 = .ok (.if_icmp .eq 266, 3) := by decide +kernel
theorem d_law_1635 : decode code 1635 = .ok (.iconst 0, 1) := by decide +kernel
theorem d_law_1636 : decode code 1636 = .ok (.ireturn, 1) := by decide +kernel
theorem d_law_1637 : decode code 1637 = .ok (.aload_n 1, 1) := by decide +kernel
theorem d_law_1638 : decode code 1638 = .ok (.invokevirtual 210, 3) := by decide +kernel
theorem d_law_1641 : decode code 1641 = .ok (.aload_n 2, 1) := by decide +kernel
theorem d_law_1642 : decode code 1642 = .ok (.invokevirtual 213, 3) := by decide +kernel
theorem d_law_1645 : decode code 1645 = .ok (.if_icmp .eq 253, 3) := by decide +kernel
theorem d_law_1648 : decode code 1648 = .ok (.iconst 0, 1) := by decide +kernel
theorem d_law_1649 : decode code 1649 = .ok (.ireturn, 1) := by decide +kernel
theorem d_law_1650 : decode code 1650 = .ok (.aload_n 1, 1) := by decide +kernel
theorem d_law_1651 : decode code 1651 = .ok (.invokevirtual 214, 3) := by decide +kernel
theorem d_law_1654 : decode code 1654 = .ok (.aload_n 2, 1) := by decide +kernel
theorem d_law_1655 : decode code 1655 = .ok (.invokevirtual 217, 3) := by decide +kernel
theorem d_law_1658 : decode code 1658 = .ok (.if_icmp .eq 240, 3) := by decide +kernel
theorem d_law_1661 : decode code 1661 = .ok (.iconst 0, 1) := by decide +kernel
theorem d_law_1662 : decode code 1662 = .ok (.ireturn, 1) := by decide +kernel
theorem d_law_1663 : decode code 1663 = .ok (.aload_n 1, 1) := by decide +kernel
theorem d_law_1664 : decode code 1664 = .ok (.aload_n 0, 1) := by decide +kernel
theorem d_law_1665 : decode code 1665 = .ok (.iload_n 3, 1) := by decide +kernel
theorem d_law_1666 : decode code 1666 = .ok (.iconst 1, 1) := by decide +kernel
theorem d_law_1667 : decode code 1667 = .ok (.iadd, 1) := by decide +kernel
theorem d_law_1668 : decode code 1668 = .ok (.iaload, 1) := by decide +kernel
theorem d_law_1669 : decode code 1669 = .ok (.aload_n 0, 1) := by decide +kernel
theorem d_law_1670 : decode code 1670 = .ok (.iload_n 3, 1) := by decide +kernel
theorem d_law_1671 : decode code 1671 = .ok (.iconst 2, 1) := by decide +kernel
theorem d_law_1672 : decode code 1672 = .ok (.iadd, 1) := by decide +kernel
theorem d_law_1673 : decode code 1673 = .ok (.iaload, 1) := by decide +kernel
theorem d_law_1674 : decode code 1674 = .ok (.aload_n 0, 1) := by decide +kernel
theorem d_law_1675 : decode code 1675 = .ok (.iload_n 3, 1) := by decide +kernel
theorem d_law_1676 : decode code 1676 = .ok (.iconst 3, 1) := by decide +kernel
theorem d_law_1677 : decode code 1677 = .ok (.iadd, 1) := by decide +kernel
theorem d_law_1678 : decode code 1678 = .ok (.iaload, 1) := by decide +kernel
theorem d_law_1679 : decode code 1679 = .ok (.invokevirtual 218, 3) := by decide +kernel
theorem d_law_1682 : decode code 1682 = .ok (.aload_n 2, 1) := by decide +kernel
theorem d_law_1683 : decode code 1683 = .ok (.aload_n 0, 1) := by decide +kernel
theorem d_law_1684 : decode code 1684 = .ok (.iload_n 3, 1) := by decide +kernel
theorem d_law_1685 : decode code 1685 = .ok (.iconst 1, 1) := by decide +kernel
theorem d_law_1686 : decode code 1686 = .ok (.iadd, 1) := by decide +kernel
theorem d_law_1687 : decode code 1687 = .ok (.iaload, 1) := by decide +kernel
theorem d_law_1688 : decode code 1688 = .ok (.aload_n 0, 1) := by decide +kernel
theorem d_law_1689 : decode code 1689 = .ok (.iload_n 3, 1) := by decide +kernel
theorem d_law_1690 : decode code 1690 = .ok (.iconst 2, 1) := by decide +kernel
theorem d_law_1691 : decode code 1691 = .ok (.iadd, 1) := by decide +kernel
theorem d_law_1692 : decode code 1692 = .ok (.iaload, 1) := by decide +kernel
theorem d_law_1693 : decode code 1693 = .ok (.aload_n 0, 1) := by decide +kernel
theorem d_law_1694 : decode code 1694 = .ok (.iload_n 3, 1) := by decide +kernel
theorem d_law_1695 : decode code 1695 = .ok (.iconst 3, 1) := by decide +kernel
theorem d_law_1696 : decode code 1696 = .ok (.iadd, 1) := by decide +kernel
theorem d_law_1697 : decode code 1697 = .ok (.iaload, 1) := by decide +kernel
theorem d_law_1698 : decode code 1698 = .ok (.invokevirtual 221, 3) := by decide +kernel
theorem d_law_17 : decode code 17 = .ok (.istore_n 3, 1) := by decide +kernel
theorem d_law_1701 : decode code 1701 = .ok (.if_icmp .eq 197, 3) := by decide +kernel
theorem d_law_1704 : decode code 1704 = .ok (.iconst 0, 1) := by decide +kernel
theorem d_law_1705 : decode code 1705 = .ok (.ireturn, 1) := by decide +kernel
theorem d_law_1706 : decode code 1706 = .ok (.aload_n 1, 1) := by decide +kernel
theorem d_law_1707 : decode code 1707 = .ok (.aload_n 0, 1) := by decide +kernel
theorem d_law_1708 : decode code 1708 = .ok (.iload_n 3, 1) := by decide +kernel
theorem d_law_1709 : decode code 1709 = .ok (.iconst 1, 1) := by decide +kernel
theorem d_law_1710 : decode code 1710 = .ok (.iadd, 1) := by decide +kernel
theorem d_law_1711 : decode code 1711 = .ok (.iaload, 1) := by decide +kernel
theorem d_law_1712 : decode code 1712 = .ok (.aload_n 0, 1) := by decide +kernel
theorem d_law_1713 : decode code 1713 = .ok (.iload_n 3, 1) := by decide +kernel
theorem d_law_1714 : decode code 1714 = .ok (.iconst 2, 1) := by decide +kernel
theorem d_law_1715 : decode code 1715 = .ok (.iadd, 1) := by decide +kernel
theorem d_law_1716 : decode code 1716 = .ok (.iaload, 1) := by decide +kernel
theorem d_law_1717 : decode code 1717 = .ok (.aload_n 0, 1) := by decide +kernel
theorem d_law_1718 : decode code 1718 = .ok (.iload_n 3, 1) := by decide +kernel
theorem d_law_1719 : decode code 1719 = .ok (.iconst 3, 1) := by decide +kernel
theorem d_law_1720 : decode code 1720 = .ok (.iadd, 1) := by decide +kernel
theorem d_law_1721 : decode code 1721 = .ok (.iaload, 1) := by decide +kernel
theorem d_law_1722 : decode code 1722 = .ok (.invokevirtual 222, 3) := by decide +kernel
theorem d_law_1725 : decode code 1725 = .ok (.aload_n 2, 1) := by decide +kernel
theorem d_law_1726 : decode code 1726 = .ok (.aload_n 0, 1) := by decide +kernel
theorem d_law_1727 : decode code 1727 = .ok (.iload_n 3, 1) := by decide +kernel
theorem d_law_1728 : decode code 1728 = .ok (.iconst 1, 1) := by decide +kernel
theorem d_law_1729 : decode code 1729 = .ok (.iadd, 1) := by decide +kernel
theorem d_law_1730 : decode code 1730 = .ok (.iaload, 1) := by decide +kernel
theorem d_law_1731 : decode code 1731 = .ok (.aload_n 0, 1) := by decide +kernel
theorem d_law_1732 : decode code 1732 = .ok (.iload_n 3, 1) := by decide +kernel
theorem d_law_1733 : decode code 1733 = .ok (.iconst 2, 1) := by decide +kernel
theorem d_law_1734 : decode code 1734 = .ok (.iadd, 1) := by decide +kernel
theorem d_law_1735 : decode code 1735 = .ok (.iaload, 1) := by decide +kernel
theorem d_law_1736 : decode code 1736 = .ok (.aload_n 0, 1) := by decide +kernel
theorem d_law_1737 : decode code 1737 = .ok (.iload_n 3, 1) := by decide +kernel
theorem d_law_1738 : decode code 1738 = .ok (.iconst 3, 1) := by decide +kernel
theorem d_law_1739 : decode code 1739 = .ok (.iadd, 1) := by decide +kernel
theorem d_law_1740 : decode code 1740 = .ok (.iaload, 1) := by decide +kernel
theorem d_law_1741 : decode code 1741 = .ok (.invokevirtual 225, 3) := by decide +kernel
theorem d_law_1744 : decode code 1744 = .ok (.if_icmp .eq 154, 3) := by decide +kernel
theorem d_law_1747 : decode code 1747 = .ok (.iconst 0, 1) := by decide +kernel
theorem d_law_1748 : decode code 1748 = .ok (.ireturn, 1) := by decide +kernel
theorem d_law_1749 : decode code 1749 = .ok (.aload_n 1, 1) := by decide +kernel
theorem d_law_1750 : decode code 1750 = .ok (.aload_n 0, 1) := by decide +kernel
theorem d_law_1751 : decode code 1751 = .ok (.iload_n 3, 1) := by decide +kernel
theorem d_law_1752 : decode code 1752 = .ok (.iconst 1, 1) := by decide +kernel
theorem d_law_1753 : decode code 1753 = .ok (.iadd, 1) := by decide +kernel
theorem d_law_1754 : decode code 1754 = .ok (.iaload, 1) := by decide +kernel
theorem d_law_1755 : decode code 1755 = .ok (.aload_n 0, 1) := by decide +kernel
theorem d_law_1756 : decode code 1756 = .ok (.iload_n 3, 1) := by decide +kernel
theorem d_law_1757 : decode code 1757 = .ok (.iconst 2, 1) := by decide +kernel
theorem d_law_1758 : decode code 1758 = .ok (.iadd, 1) := by decide +kernel
theorem d_law_1759 : decode code 1759 = .ok (.iaload, 1) := by decide +kernel
theorem d_law_1760 : decode code 1760 = .ok (.aload_n 0, 1) := by decide +kernel
theorem d_law_1761 : decode code 1761 = .ok (.iload_n 3, 1) := by decide +kernel
theorem d_law_1762 : decode code 1762 = .ok (.iconst 3, 1) := by decide +kernel
theorem d_law_1763 : decode code 1763 = .ok (.iadd, 1) := by decide +kernel
theorem d_law_1764 : decode code 1764 = .ok (.iaload, 1) := by decide +kernel
theorem d_law_1765 : decode code 1765 = .ok (.aload_n 0, 1) := by decide +kernel
theorem d_law_1766 : decode code 1766 = .ok (.iload_n 3, 1) := by decide +kernel
theorem d_law_1767 : decode code 1767 = .ok (.iconst 4, 1) := by decide +kernel
theorem d_law_1768 : decode code 1768 = .ok (.iadd, 1) := by decide +kernel
theorem d_law_1769 : decode code 1769 = .ok (.iaload, 1) := by decide +kernel
theorem d_law_1770 : decode code 1770 = .ok (.aload_n 0, 1) := by decide +kernel
theorem d_law_1771 : decode code 1771 = .ok (.iload_n 3, 1) := by decide +kernel
theorem d_law_1772 : decode code 1772 = .ok (.iconst 5, 1) := by decide +kernel
theorem d_law_1773 : decode code 1773 = .ok (.iadd, 1) := by decide +kernel
theorem d_law_1774 : decode code 1774 = .ok (.iaload, 1) := by decide +kernel
theorem d_law_1775 : decode code 1775 = .ok (.invokevirtual 226, 3) := by decide +kernel
theorem d_law_1778 : decode code 1778 = .ok (.aload_n 2, 1) := by decide +kernel
theorem d_law_1779 : decode code 1779 = .ok (.aload_n 0, 1) := by decide +kernel
theorem d_law_1780 : decode code 1780 = .ok (.iload_n 3, 1) := by decide +kernel
theorem d_law_1781 : decode code 1781 = .ok (.iconst 1, 1) := by decide +kernel
theorem d_law_1782 : decode code 1782 = .ok (.iadd, 1) := by decide +kernel
theorem d_law_1783 : decode code 1783 = .ok (.iaload, 1) := by decide +kernel
theorem d_law_1784 : decode code 1784 = .ok (.aload_n 0, 1) := by decide +kernel
theorem d_law_1785 : decode code 1785 = .ok (.iload_n 3, 1) := by decide +kernel
theorem d_law_1786 : decode code 1786 = .ok (.iconst 2, 1) := by decide +kernel
theorem d_law_1787 : decode code 1787 = .ok (.iadd, 1) := by decide +kernel
theorem d_law_1788 : decode code 1788 = .ok (.iaload, 1) := by decide +kernel
theorem d_law_1789 : decode code 1789 = .ok (.aload_n 0, 1) := by decide +kernel
theorem d_law_1790 : decode code 1790 = .ok (.iload_n 3, 1) := by decide +kernel
theorem d_law_1791 : decode code 1791 = .ok (.iconst 3, 1) := by decide +kernel
theorem d_law_1792 : decode code 1792 = .ok (.iadd, 1) := by decide +kernel
theorem d_law_1793 : decode code 1793 = .ok (.iaload, 1) := by decide +kernel
theorem d_law_1794 : decode code 1794 = .ok (.aload_n 0, 1) := by decide +kernel
theorem d_law_1795 : decode code 1795 = .ok (.iload_n 3, 1) := by decide +kernel
theorem d_law_1796 : decode code 1796 = .ok (.iconst 4, 1) := by decide +kernel
theorem d_law_1797 : decode code 1797 = .ok (.iadd, 1) := by decide +kernel
theorem d_law_1798 : decode code 1798 = .ok (.iaload, 1) := by decide +kernel
theorem d_law_1799 : decode code 1799 = .ok (.aload_n 0, 1) := by decide +kernel
theorem d_law_18 : decode code 18 = .ok (.iload_n 3, 1) := by decide +kernel
theorem d_law_1800 : decode code 1800 = .ok (.iload_n 3, 1) := by decide +kernel
theorem d_law_1801 : decode code 1801 = .ok (.iconst 5, 1) := by decide +kernel
theorem d_law_1802 : decode code 1802 = .ok (.iadd, 1) := by decide +kernel
theorem d_law_1803 : decode code 1803 = .ok (.iaload, 1) := by decide +kernel
theorem d_law_1804 : decode code 1804 = .ok (.invokevirtual 230, 3) := by decide +kernel
theorem d_law_1807 : decode code 1807 = .ok (.if_icmp .eq 91, 3) := by decide +kernel
theorem d_law_1810 : decode code 1810 = .ok (.iconst 0, 1) := by decide +kernel
theorem d_law_1811 : decode code 1811 = .ok (.ireturn, 1) := by decide +kernel
theorem d_law_1812 : decode code 1812 = .ok (.aload_n 1, 1) := by decide +kernel
theorem d_law_1813 : decode code 1813 = .ok (.aload_n 0, 1) := by decide +kernel
theorem d_law_1814 : decode code 1814 = .ok (.iload_n 3, 1) := by decide +kernel
theorem d_law_1815 : decode code 1815 = .ok (.iconst 1, 1) := by decide +kernel
theorem d_law_1816 : decode code 1816 = .ok (.iadd, 1) := by decide +kernel
theorem d_law_1817 : decode code 1817 = .ok (.iaload, 1) := by decide +kernel
theorem d_law_1818 : decode code 1818 = .ok (.aload_n 0, 1) := by decide +kernel
theorem d_law_1819 : decode code 1819 = .ok (.iload_n 3, 1) := by decide +kernel
theorem d_law_1820 : decode code 1820 = .ok (.iconst 2, 1) := by decide +kernel
theorem d_law_1821 : decode code 1821 = .ok (.iadd, 1) := by decide +kernel
theorem d_law_1822 : decode code 1822 = .ok (.iaload, 1) := by decide +kernel
theorem d_law_1823 : decode code 1823 = .ok (.aload_n 0, 1) := by decide +kernel
theorem d_law_1824 : decode code 1824 = .ok (.iload_n 3, 1) := by decide +kernel
theorem d_law_1825 : decode code 1825 = .ok (.iconst 3, 1) := by decide +kernel
theorem d_law_1826 : decode code 1826 = .ok (.iadd, 1) := by decide +kernel
theorem d_law_1827 : decode code 1827 = .ok (.iaload, 1) := by decide +kernel
theorem d_law_1828 : decode code 1828 = .ok (.aload_n 0, 1) := by decide +kernel
theorem d_law_1829 : decode code 1829 = .ok (.iload_n 3, 1) := by decide +kernel
theorem d_law_1830 : decode code 1830 = .ok (.iconst 4, 1) := by decide +kernel
theorem d_law_1831 : decode code 1831 = .ok (.iadd, 1) := by decide +kernel
theorem d_law_1832 : decode code 1832 = .ok (.iaload, 1) := by decide +kernel
theorem d_law_1833 : decode code 1833 = .ok (.invokevirtual 231, 3) := by decide +kernel
theorem d_law_1836 : decode code 1836 = .ok (.aload_n 2, 1) := by decide +kernel
theorem d_law_1837 : decode code 1837 = .ok (.aload_n 0, 1) := by decide +kernel
theorem d_law_1838 : decode code 1838 = .ok (.iload_n 3, 1) := by decide +kernel
theorem d_law_1839 : decode code 1839 = .ok (.iconst 1, 1) := by decide +kernel
theorem d_law_1840 : decode code 1840 = .ok (.iadd, 1) := by decide +kernel
theorem d_law_1841 : decode code 1841 = .ok (.iaload, 1) := by decide +kernel
theorem d_law_1842 : decode code 1842 = .ok (.aload_n 0, 1) := by decide +kernel
theorem d_law_1843 : decode code 1843 = .ok (.iload_n 3, 1) := by decide +kernel
theorem d_law_1844 : decode code 1844 = .ok (.iconst 2, 1) := by decide +kernel
theorem d_law_1845 : decode code 1845 = .ok (.iadd, 1) := by decide +kernel
theorem d_law_1846 : decode code 1846 = .ok (.iaload, 1) := by decide +kernel
theorem d_law_1847 : decode code 1847 = .ok (.aload_n 0, 1) := by decide +kernel
theorem d_law_1848 : decode code 1848 = .ok (.iload_n 3, 1) := by decide +kernel
theorem d_law_1849 : decode code 1849 = .ok (.iconst 3, 1) := by decide +kernel
theorem d_law_1850 : decode code 1850 = .ok (.iadd, 1) := by decide +kernel
theorem d_law_1851 : decode code 1851 = .ok (.iaload, 1) := by decide +kernel
theorem d_law_1852 : decode code 1852 = .ok (.aload_n 0, 1) := by decide +kernel
theorem d_law_1853 : decode code 1853 = .ok (.iload_n 3, 1) := by decide +kernel
theorem d_law_1854 : decode code 1854 = .ok (.iconst 4, 1) := by decide +kernel
theorem d_law_1855 : decode code 1855 = .ok (.iadd, 1) := by decide +kernel
theorem d_law_1856 : decode code 1856 = .ok (.iaload, 1) := by decide +kernel
theorem d_law_1857 : decode code 1857 = .ok (.invokevirtual 234, 3) := by decide +kernel
theorem d_law_1860 : decode code 1860 = .ok (.if_icmp .eq 38, 3) := by decide +kernel
theorem d_law_1863 : decode code 1863 = .ok (.iconst 0, 1) := by decide +kernel
theorem d_law_1864 : decode code 1864 = .ok (.ireturn, 1) := by decide +kernel
theorem d_law_1865 : decode code 1865 = .ok (.aload_n 1, 1) := by decide +kernel
theorem d_law_1866 : decode code 1866 = .ok (.aload_n 0, 1) := by decide +kernel
theorem d_law_1867 : decode code 1867 = .ok (.iload_n 3, 1) := by decide +kernel
theorem d_law_1868 : decode code 1868 = .ok (.iconst 1, 1) := by decide +kernel
theorem d_law_1869 : decode code 1869 = .ok (.iadd, 1) := by decide +kernel
theorem d_law_1870 : decode code 1870 = .ok (.iaload, 1) := by decide +kernel
theorem d_law_1871 : decode code 1871 = .ok (.aload_n 0, 1) := by decide +kernel
theorem d_law_1872 : decode code 1872 = .ok (.iload_n 3, 1) := by decide +kernel
theorem d_law_1873 : decode code 1873 = .ok (.iconst 2, 1) := by decide +kernel
theorem d_law_1874 : decode code 1874 = .ok (.iadd, 1) := by decide +kernel
theorem d_law_1875 : decode code 1875 = .ok (.iaload, 1) := by decide +kernel
theorem d_law_1876 : decode code 1876 = .ok (.invokevirtual 235, 3) := by decide +kernel
theorem d_law_1879 : decode code 1879 = .ok (.aload_n 2, 1) := by decide +kernel
theorem d_law_1880 : decode code 1880 = .ok (.aload_n 0, 1) := by decide +kernel
theorem d_law_1881 : decode code 1881 = .ok (.iload_n 3, 1) := by decide +kernel
theorem d_law_1882 : decode code 1882 = .ok (.iconst 1, 1) := by decide +kernel
theorem d_law_1883 : decode code 1883 = .ok (.iadd, 1) := by decide +kernel
theorem d_law_1884 : decode code 1884 = .ok (.iaload, 1) := by decide +kernel
theorem d_law_1885 : decode code 1885 = .ok (.aload_n 0, 1) := by decide +kernel
theorem d_law_1886 : decode code 1886 = .ok (.iload_n 3, 1) := by decide +kernel
theorem d_law_1887 : decode code 1887 = .ok (.iconst 2, 1) := by decide +kernel
theorem d_law_1888 : decode code 1888 = .ok (.iadd, 1) := by decide +kernel
theorem d_law_1889 : decode code 1889 = .ok (.iaload, 1) := by decide +kernel
theorem d_law_1890 : decode code 1890 = .ok (.invokevirtual 238, 3) := by decide +kernel
theorem d_law_1893 : decode code 1893 = .ok (.if_icmp .eq 5, 3) := by decide +kernel
theorem d_law_1896 : decode code 1896 = .ok (.iconst 0, 1) := by decide +kernel
theorem d_law_1897 : decode code 1897 = .ok (.ireturn, 1) := by decide +kernel
theorem d_law_1898 : decode code 1898 = .ok (.iinc 3 6, 3) := by decide +kernel
theorem d_law_19 : decode code 19 = .ok (.aload_n 0, 1) := by decide +kernel
theorem d_law_1901 : decode code 1901 = .ok (.goto (-1883), 3) := by decide +kernel
theorem d_law_1904 : decode code 1904 = .ok (.iconst 1, 1) := by decide +kernel
theorem d_law_1905 : decode code 1905 = .ok (.ireturn, 1) := by decide +kernel
theorem d_law_20 : decode code 20 = .ok (.arraylength, 1) := by decide +kernel
theorem d_law_21 : decode code 21 = .ok (.bipush 6, 2) := by decide +kernel
theorem d_law_23 : decode code 23 = .ok (.isub, 1) := by decide +kernel
theorem d_law_24 : decode code 24 = .ok (.if_icmp .gt 1880, 3) := by decide +kernel
theorem d_law_264 : decode code 264 = .ok (.aload_n 1, 1) := by decide +kernel
theorem d_law_265 : decode code 265 = .ok (.aload_n 0, 1) := by decide +kernel
theorem d_law_266 : decode code 266 = .ok (.iload_n 3, 1) := by decide +kernel
theorem d_law_267 : decode code 267 = .ok (.iconst 1, 1) := by decide +kernel
theorem d_law_268 : decode code 268 = .ok (.iadd, 1) := by decide +kernel
theorem d_law_269 : decode code 269 = .ok (.iaload, 1) := by decide +kernel
theorem d_law_27 : decode code 27 = .ok (.aload_n 0, 1) := by decide +kernel
theorem d_law_270 : decode code 270 = .ok (.aload_n 0, 1) := by decide +kernel
theorem d_law_271 : decode code 271 = .ok (.iload_n 3, 1) := by decide +kernel
theorem d_law_272 : decode code 272 = .ok (.iconst 2, 1) := by decide +kernel
theorem d_law_273 : decode code 273 = .ok (.iadd, 1) := by decide +kernel
theorem d_law_274 : decode code 274 = .ok (.iaload, 1) := by decide +kernel
theorem d_law_275 : decode code 275 = .ok (.invokevirtual 13, 3) := by decide +kernel
theorem d_law_278 : decode code 278 = .ok (.aload_n 2, 1) := by decide +kernel
theorem d_law_279 : decode code 279 = .ok (.aload_n 0, 1) := by decide +kernel
theorem d_law_28 : decode code 28 = .ok (.iload_n 3, 1) := by decide +kernel
theorem d_law_280 : decode code 280 = .ok (.iload_n 3, 1) := by decide +kernel
theorem d_law_281 : decode code 281 = .ok (.iconst 1, 1) := by decide +kernel
theorem d_law_282 : decode code 282 = .ok (.iadd, 1) := by decide +kernel
theorem d_law_283 : decode code 283 = .ok (.iaload, 1) := by decide +kernel
theorem d_law_284 : decode code 284 = .ok (.aload_n 0, 1) := by decide +kernel
theorem d_law_285 : decode code 285 = .ok (.iload_n 3, 1) := by decide +kernel
theorem d_law_286 : decode code 286 = .ok (.iconst 2, 1) := by decide +kernel
theorem d_law_287 : decode code 287 = .ok (.iadd, 1) := by decide +kernel
theorem d_law_288 : decode code 288 = .ok (.iaload, 1) := by decide +kernel
theorem d_law_289 : decode code 289 = .ok (.invokevirtual 17, 3) := by decide +kernel
theorem d_law_29 : decode code 29 = .ok (.iaload, 1) := by decide +kernel
theorem d_law_292 : decode code 292 = .ok (.if_icmp .eq 1606, 3) := by decide +kernel
theorem d_law_295 : decode code 295 = .ok (.iconst 0, 1) := by decide +kernel
theorem d_law_296 : decode code 296 = .ok (.ireturn, 1) := by decide +kernel
theorem d_law_297 : decode code 297 = .ok (.aload_n 1, 1) := by decide +kernel
theorem d_law_298 : decode code 298 = .ok (.aload_n 0, 1) := by decide +kernel
theorem d_law_299 : decode code 299 = .ok (.iload_n 3, 1) := by decide +kernel
theorem d_law_3 : decode code 3 = .ok (.dup, 1) := by decide +kernel
theorem d_law_30 : decode code 30 = .ok (.bipush 63, 2) := by decide +kernel
theorem d_law_300 : decode code 300 = .ok (.iconst 1, 1) := by decide +kernel
theorem d_law_301 : decode code 301 = .ok (.iadd, 1) := by decide +kernel
theorem d_law_302 : decode code 302 = .ok (.iaload, 1) := by decide +kernel
theorem d_law_303 : decode code 303 = .ok (.aload_n 0, 1) := by decide +kernel
theorem d_law_304 : decode code 304 = .ok (.iload_n 3, 1) := by decide +kernel
theorem d_law_305 : decode code 305 = .ok (.iconst 2, 1) := by decide +kernel
theorem d_law_306 : decode code 306 = .ok (.iadd, 1) := by decide +kernel
theorem d_law_307 : decode code 307 = .ok (.iaload, 1) := by decide +kernel
theorem d_law_308 : decode code 308 = .ok (.invokevirtual 18, 3) := by decide +kernel
theorem d_law_311 : decode code 311 = .ok (.aload_n 2, 1) := by decide +kernel
theorem d_law_312 : decode code 312 = .ok (.aload_n 0, 1) := by decide +kernel
theorem d_law_313 : decode code 313 = .ok (.iload_n 3, 1) := by decide +kernel
theorem d_law_314 : decode code 314 = .ok (.iconst 1, 1) := by decide +kernel
theorem d_law_315 : decode code 315 = .ok (.iadd, 1) := by decide +kernel
theorem d_law_316 : decode code 316 = .ok (.iaload, 1) := by decide +kernel
theorem d_law_317 : decode code 317 = .ok (.aload_n 0, 1) := by decide +kernel
theorem d_law_318 : decode code 318 = .ok (.iload_n 3, 1) := by decide +kernel
theorem d_law_319 : decode code 319 = .ok (.iconst 2, 1) := by decide +kernel
theorem d_law_32 : decode code 32 = .ok (.iand, 1) := by decide +kernel
theorem d_law_320 : decode code 320 = .ok (.iadd, 1) := by decide +kernel
theorem d_law_321 : decode code 321 = .ok (.iaload, 1) := by decide +kernel
theorem d_law_322 : decode code 322 = .ok (.invokevirtual 21, 3) := by decide +kernel
theorem d_law_325 : decode code 325 = .ok (.if_icmp .eq 1573, 3) := by decide +kernel
theorem d_law_328 : decode code 328 = .ok (.iconst 0, 1) := by decide +kernel
theorem d_law_329 : decode code 329 = .ok (.ireturn, 1) := by decide +kernel
theorem d_law_33 : decode code 33 = .ok (.tableswitch 1865 0 53 #[231, 264, 297, 320, 373, 406, 469, 482, 505, 528, 561, 584, 617, 650, 673, 706, 719, 752, 775, 788, 801, 824, 867, 910, 943, 986, 999, 1022, 1035, 1068, 1091, 1104, 1127, 1160, 1183, 1216, 1249, 1262, 1296, 1339, 1382, 1415, 1438, 1471, 1494, 1527, 1561, 1604, 1617, 1630, 1673, 1716, 1779, 1832], 231) := by decide +kernel
theorem d_law_330 : decode code 330 = .ok (.aload_n 1, 1) := by decide +kernel
theorem d_law_331 : decode code 331 = .ok (.aload_n 0, 1) := by decide +kernel
theorem d_law_332 : decode code 332 = .ok (.iload_n 3, 1) := by decide +kernel
theorem d_law_333 : decode code 333 = .ok (.iconst 1, 1) := by decide +kernel
theorem d_law_334 : decode code 334 = .ok (.iadd, 1) := by decide +kernel
theorem d_law_335 : decode code 335 = .ok (.iaload, 1) := by decide +kernel
theorem d_law_336 : decode code 336 = .ok (.invokevirtual 22, 3) := by decide +kernel
theorem d_law_339 : decode code 339 = .ok (.aload_n 2, 1) := by decide +kernel
theorem d_law_340 : decode code 340 = .ok (.aload_n 0, 1) := by decide +kernel
theorem d_law_341 : decode code 341 = .ok (.iload_n 3, 1) := by decide +kernel
theorem d_law_342 : decode code 342 = .ok (.iconst 1, 1) := by decide +kernel
theorem d_law_343 : decode code 343 = .ok (.iadd, 1) := by decide +kernel
theorem d_law_344 : decode code 344 = .ok (.iaload, 1) := by decide +kernel
theorem d_law_345 : decode code 345 = .ok (.invokevirtual 26, 3) := by decide +kernel
theorem d_law_348 : decode code 348 = .ok (.if_icmp .eq 1550, 3) := by decide +kernel
theorem d_law_351 : decode code 351 = .ok (.iconst 0, 1) := by decide +kernel
theorem d_law_352 : decode code 352 = .ok (.ireturn, 1) := by decide +kernel
theorem d_law_353 : decode code 353 = .ok (.aload_n 1, 1) := by decide +kernel
theorem d_law_354 : decode code 354 = .ok (.aload_n 0, 1) := by decide +kernel
theorem d_law_355 : decode code 355 = .ok (.iload_n 3, 1) := by decide +kernel
theorem d_law_356 : decode code 356 = .ok (.iconst 1, 1) := by decide +kernel
theorem d_law_357 : decode code 357 = .ok (.iadd, 1) := by decide +kernel
theorem d_law_358 : decode code 358 = .ok (.iaload, 1) := by decide +kernel
theorem d_law_359 : decode code 359 = .ok (.aload_n 0, 1) := by decide +kernel
theorem d_law_360 : decode code 360 = .ok (.iload_n 3, 1) := by decide +kernel
theorem d_law_361 : decode code 361 = .ok (.iconst 2, 1) := by decide +kernel
theorem d_law_362 : decode code 362 = .ok (.iadd, 1) := by decide +kernel
theorem d_law_363 : decode code 363 = .ok (.iaload, 1) := by decide +kernel
theorem d_law_364 : decode code 364 = .ok (.aload_n 0, 1) := by decide +kernel
theorem d_law_365 : decode code 365 = .ok (.iload_n 3, 1) := by decide +kernel
theorem d_law_366 : decode code 366 = .ok (.iconst 3, 1) := by decide +kernel
theorem d_law_367 : decode code 367 = .ok (.iadd, 1) := by decide +kernel
theorem d_law_368 : decode code 368 = .ok (.iaload, 1) := by decide +kernel
theorem d_law_369 : decode code 369 = .ok (.aload_n 0, 1) := by decide +kernel
theorem d_law_370 : decode code 370 = .ok (.iload_n 3, 1) := by decide +kernel
theorem d_law_371 : decode code 371 = .ok (.iconst 4, 1) := by decide +kernel
theorem d_law_372 : decode code 372 = .ok (.iadd, 1) := by decide +kernel
theorem d_law_373 : decode code 373 = .ok (.iaload, 1) := by decide +kernel
theorem d_law_374 : decode code 374 = .ok (.invokevirtual 27, 3) := by decide +kernel
theorem d_law_377 : decode code 377 = .ok (.aload_n 2, 1) := by decide +kernel
theorem d_law_378 : decode code 378 = .ok (.aload_n 0, 1) := by decide +kernel
theorem d_law_379 : decode code 379 = .ok (.iload_n 3, 1) := by decide +kernel
theorem d_law_380 : decode code 380 = .ok (.iconst 1, 1) := by decide +kernel
theorem d_law_381 : decode code 381 = .ok (.iadd, 1) := by decide +kernel
theorem d_law_382 : decode code 382 = .ok (.iaload, 1) := by decide +kernel
theorem d_law_383 : decode code 383 = .ok (.aload_n 0, 1) := by decide +kernel
theorem d_law_384 : decode code 384 = .ok (.iload_n 3, 1) := by decide +kernel
theorem d_law_385 : decode code 385 = .ok (.iconst 2, 1) := by decide +kernel
theorem d_law_386 : decode code 386 = .ok (.iadd, 1) := by decide +kernel
theorem d_law_387 : decode code 387 = .ok (.iaload, 1) := by decide +kernel
theorem d_law_388 : decode code 388 = .ok (.aload_n 0, 1) := by decide +kernel
theorem d_law_389 : decode code 389 = .ok (.iload_n 3, 1) := by decide +kernel
theorem d_law_390 : decode code 390 = .ok (.iconst 3, 1) := by decide +kernel
theorem d_law_391 : decode code 391 = .ok (.iadd, 1) := by decide +kernel
theorem d_law_392 : decode code 392 = .ok (.iaload, 1) := by decide +kernel
theorem d_law_393 : decode code 393 = .ok (.aload_n 0, 1) := by decide +kernel
theorem d_law_394 : decode code 394 = .ok (.iload_n 3, 1) := by decide +kernel
theorem d_law_395 : decode code 395 = .ok (.iconst 4, 1) := by decide +kernel
theorem d_law_396 : decode code 396 = .ok (.iadd, 1) := by decide +kernel
theorem d_law_397 : decode code 397 = .ok (.iaload, 1) := by decide +kernel
theorem d_law_398 : decode code 398 = .ok (.invokevirtual 31, 3) := by decide +kernel
theorem d_law_4 : decode code 4 = .ok (.invokespecial 9, 3) := by decide +kernel
theorem d_law_401 : decode code 401 = .ok (.if_icmp .eq 1497, 3) := by decide +kernel
theorem d_law_404 : decode code 404 = .ok (.iconst 0, 1) := by decide +kernel
theorem d_law_405 : decode code 405 = .ok (.ireturn, 1) := by decide +kernel
theorem d_law_406 : decode code 406 = .ok (.aload_n 1, 1) := by decide +kernel
theorem d_law_407 : decode code 407 = .ok (.aload_n 0, 1) := by decide +kernel
theorem d_law_408 : decode code 408 = .ok (.iload_n 3, 1) := by decide +kernel
theorem d_law_409 : decode code 409 = .ok (.iconst 1, 1) := by decide +kernel
theorem d_law_410 : decode code 410 = .ok (.iadd, 1) := by decide +kernel
theorem d_law_411 : decode code 411 = .ok (.iaload, 1) := by decide +kernel
theorem d_law_412 : decode code 412 = .ok (.aload_n 0, 1) := by decide +kernel
theorem d_law_413 : decode code 413 = .ok (.iload_n 3, 1) := by decide +kernel
theorem d_law_414 : decode code 414 = .ok (.iconst 2, 1) := by decide +kernel
theorem d_law_415 : decode code 415 = .ok (.iadd, 1) := by decide +kernel
theorem d_law_416 : decode code 416 = .ok (.iaload, 1) := by decide +kernel
theorem d_law_417 : decode code 417 = .ok (.invokevirtual 32, 3) := by decide +kernel
theorem d_law_420 : decode code 420 = .ok (.aload_n 2, 1) := by decide +kernel
theorem d_law_421 : decode code 421 = .ok (.aload_n 0, 1) := by decide +kernel
theorem d_law_422 : decode code 422 = .ok (.iload_n 3, 1) := by decide +kernel
theorem d_law_423 : decode code 423 = .ok (.iconst 1, 1) := by decide +kernel
theorem d_law_424 : decode code 424 = .ok (.iadd, 1) := by decide +kernel
theorem d_law_425 : decode code 425 = .ok (.iaload, 1) := by decide +kernel
theorem d_law_426 : decode code 426 = .ok (.aload_n 0, 1) := by decide +kernel
theorem d_law_427 : decode code 427 = .ok (.iload_n 3, 1) := by decide +kernel
theorem d_law_428 : decode code 428 = .ok (.iconst 2, 1) := by decide +kernel
theorem d_law_429 : decode code 429 = .ok (.iadd, 1) := by decide +kernel
theorem d_law_430 : decode code 430 = .ok (.iaload, 1) := by decide +kernel
theorem d_law_431 : decode code 431 = .ok (.invokevirtual 35, 3) := by decide +kernel
theorem d_law_434 : decode code 434 = .ok (.if_icmp .eq 1464, 3) := by decide +kernel
theorem d_law_437 : decode code 437 = .ok (.iconst 0, 1) := by decide +kernel
theorem d_law_438 : decode code 438 = .ok (.ireturn, 1) := by decide +kernel
theorem d_law_439 : decode code 439 = .ok (.aload_n 1, 1) := by decide +kernel
theorem d_law_440 : decode code 440 = .ok (.aload_n 0, 1) := by decide +kernel
theorem d_law_441 : decode code 441 = .ok (.iload_n 3, 1) := by decide +kernel
theorem d_law_442 : decode code 442 = .ok (.iconst 1, 1) := by decide +kernel
theorem d_law_443 : decode code 443 = .ok (.iadd, 1) := by decide +kernel
theorem d_law_444 : decode code 444 = .ok (.iaload, 1) := by decide +kernel
theorem d_law_445 : decode code 445 = .ok (.i2l, 1) := by decide +kernel
theorem d_law_446 : decode code 446 = .ok (.bipush 32, 2) := by decide +kernel
theorem d_law_448 : decode code 448 = .ok (.lshl, 1) := by decide +kernel
theorem d_law_449 : decode code 449 = .ok (.aload_n 0, 1) := by decide +kernel
theorem d_law_450 : decode code 450 = .ok (.iload_n 3, 1) := by decide +kernel
theorem d_law_451 : decode code 451 = .ok (.iconst 2, 1) := by decide +kernel
theorem d_law_452 : decode code 452 = .ok (.iadd, 1) := by decide +kernel
theorem d_law_453 : decode code 453 = .ok (.iaload, 1) := by decide +kernel
theorem d_law_454 : decode code 454 = .ok (.i2l, 1) := by decide +kernel
theorem d_law_455 : decode code 455 = .ok (.ldc2_w 36, 3) := by decide +kernel
theorem d_law_458 : decode code 458 = .ok (.land, 1) := by decide +kernel
theorem d_law_459 : decode code 459 = .ok (.lor, 1) := by decide +kernel
theorem d_law_460 : decode code 460 = .ok (.aload_n 0, 1) := by decide +kernel
theorem d_law_461 : decode code 461 = .ok (.iload_n 3, 1) := by decide +kernel
theorem d_law_462 : decode code 462 = .ok (.iconst 3, 1) := by decide +kernel
theorem d_law_463 : decode code 463 = .ok (.iadd, 1) := by decide +kernel
theorem d_law_464 : decode code 464 = .ok (.iaload, 1) := by decide +kernel
theorem d_law_465 : decode code 465 = .ok (.invokevirtual 38, 3) := by decide +kernel
theorem d_law_468 : decode code 468 = .ok (.aload_n 2, 1) := by decide +kernel
theorem d_law_469 : decode code 469 = .ok (.aload_n 0, 1) := by decide +kernel
theorem d_law_470 : decode code 470 = .ok (.iload_n 3, 1) := by decide +kernel
theorem d_law_471 : decode code 471 = .ok (.iconst 1, 1) := by decide +kernel
theorem d_law_472 : decode code 472 = .ok (.iadd, 1) := by decide +kernel
theorem d_law_473 : decode code 473 = .ok (.iaload, 1) := by decide +kernel
theorem d_law_474 : decode code 474 = .ok (.i2l, 1) := by decide +kernel
theorem d_law_475 : decode code 475 = .ok (.bipush 32, 2) := by decide +kernel
theorem d_law_477 : decode code 477 = .ok (.lshl, 1) := by decide +kernel
theorem d_law_478 : decode code 478 = .ok (.aload_n 0, 1) := by decide +kernel
theorem d_law_479 : decode code 479 = .ok (.iload_n 3, 1) := by decide +kernel
theorem d_law_480 : decode code 480 = .ok (.iconst 2, 1) := by decide +kernel
theorem d_law_481 : decode code 481 = .ok (.iadd, 1) := by decide +kernel
theorem d_law_482 : decode code 482 = .ok (.iaload, 1) := by decide +kernel
theorem d_law_483 : decode code 483 = .ok (.i2l, 1) := by decide +kernel
theorem d_law_484 : decode code 484 = .ok (.ldc2_w 36, 3) := by decide +kernel
theorem d_law_487 : decode code 487 = .ok (.land, 1) := by decide +kernel
theorem d_law_488 : decode code 488 = .ok (.lor, 1) := by decide +kernel
theorem d_law_489 : decode code 489 = .ok (.aload_n 0, 1) := by decide +kernel
theorem d_law_490 : decode code 490 = .ok (.iload_n 3, 1) := by decide +kernel
theorem d_law_491 : decode code 491 = .ok (.iconst 3, 1) := by decide +kernel
theorem d_law_492 : decode code 492 = .ok (.iadd, 1) := by decide +kernel
theorem d_law_493 : decode code 493 = .ok (.iaload, 1) := by decide +kernel
theorem d_law_494 : decode code 494 = .ok (.invokevirtual 42, 3) := by decide +kernel
theorem d_law_497 : decode code 497 = .ok (.if_icmp .eq 1401, 3) := by decide +kernel
theorem d_law_500 : decode code 500 = .ok (.iconst 0, 1) := by decide +kernel
theorem d_law_501 : decode code 501 = .ok (.ireturn, 1) := by decide +kernel
theorem d_law_502 : decode code 502 = .ok (.aload_n 1, 1) := by decide +kernel
theorem d_law_503 : decode code 503 = .ok (.invokevirtual 43, 3) := by decide +kernel
theorem d_law_506 : decode code 506 = .ok (.aload_n 2, 1) := by decide +kernel
theorem d_law_507 : decode code 507 = .ok (.invokevirtual 47, 3) := by decide +kernel
theorem d_law_510 : decode code 510 = .ok (.if_icmp .eq 1388, 3) := by decide +kernel
theorem d_law_513 : decode code 513 = .ok (.iconst 0, 1) := by decide +kernel
theorem d_law_514 : decode code 514 = .ok (.ireturn, 1) := by decide +kernel
theorem d_law_515 : decode code 515 = .ok (.aload_n 1, 1) := by decide +kernel
theorem d_law_516 : decode code 516 = .ok (.aload_n 0, 1) := by decide +kernel
theorem d_law_517 : decode code 517 = .ok (.iload_n 3, 1) := by decide +kernel
theorem d_law_518 : decode code 518 = .ok (.iconst 1, 1) := by decide +kernel
theorem d_law_519 : decode code 519 = .ok (.iadd, 1) := by decide +kernel
theorem d_law_520 : decode code 520 = .ok (.iaload, 1) := by decide +kernel
theorem d_law_521 : decode code 521 = .ok (.invokevirtual 48, 3) := by decide +kernel
theorem d_law_524 : decode code 524 = .ok (.aload_n 2, 1) := by decide +kernel
theorem d_law_525 : decode code 525 = .ok (.aload_n 0, 1) := by decide +kernel
theorem d_law_526 : decode code 526 = .ok (.iload_n 3, 1) := by decide +kernel
theorem d_law_527 : decode code 527 = .ok (.iconst 1, 1) := by decide +kernel
theorem d_law_528 : decode code 528 = .ok (.iadd, 1) := by decide +kernel
theorem d_law_529 : decode code 529 = .ok (.iaload, 1) := by decide +kernel
theorem d_law_530 : decode code 530 = .ok (.invokevirtual 51, 3) := by decide +kernel
theorem d_law_533 : decode code 533 = .ok (.if_icmp .eq 1365, 3) := by decide +kernel
theorem d_law_536 : decode code 536 = .ok (.iconst 0, 1) := by decide +kernel
theorem d_law_537 : decode code 537 = .ok (.ireturn, 1) := by decide +kernel
theorem d_law_538 : decode code 538 = .ok (.aload_n 1, 1) := by decide +kernel
theorem d_law_539 : decode code 539 = .ok (.aload_n 0, 1) := by decide +kernel
theorem d_law_540 : decode code 540 = .ok (.iload_n 3, 1) := by decide +kernel
theorem d_law_541 : decode code 541 = .ok (.iconst 1, 1) := by decide +kernel
theorem d_law_542 : decode code 542 = .ok (.iadd, 1) := by decide +kernel
theorem d_law_543 : decode code 543 = .ok (.iaload, 1) := by decide +kernel
theorem d_law_544 : decode code 544 = .ok (.invokevirtual 52, 3) := by decide +kernel
theorem d_law_547 : decode code 547 = .ok (.aload_n 2, 1) := by decide +kernel
theorem d_law_548 : decode code 548 = .ok (.aload_n 0, 1) := by decide +kernel
theorem d_law_549 : decode code 549 = .ok (.iload_n 3, 1) := by decide +kernel
theorem d_law_550 : decode code 550 = .ok (.iconst 1, 1) := by decide +kernel
theorem d_law_551 : decode code 551 = .ok (.iadd, 1) := by decide +kernel
theorem d_law_552 : decode code 552 = .ok (.iaload, 1) := by decide +kernel
theorem d_law_553 : decode code 553 = .ok (.invokevirtual 55, 3) := by decide +kernel
theorem d_law_556 : decode code 556 = .ok (.if_icmp .eq 1342, 3) := by decide +kernel
theorem d_law_559 : decode code 559 = .ok (.iconst 0, 1) := by decide +kernel
theorem d_law_560 : decode code 560 = .ok (.ireturn, 1) := by decide +kernel
theorem d_law_561 : decode code 561 = .ok (.aload_n 1, 1) := by decide +kernel
theorem d_law_562 : decode code 562 = .ok (.aload_n 0, 1) := by decide +kernel
theorem d_law_563 : decode code 563 = .ok (.iload_n 3, 1) := by decide +kernel
theorem d_law_564 : decode code 564 = .ok (.iconst 1, 1) := by decide +kernel
theorem d_law_565 : decode code 565 = .ok (.iadd, 1) := by decide +kernel
theorem d_law_566 : decode code 566 = .ok (.iaload, 1) := by decide +kernel
theorem d_law_567 : decode code 567 = .ok (.aload_n 0, 1) := by decide +kernel
theorem d_law_568 : decode code 568 = .ok (.iload_n 3, 1) := by decide +kernel
theorem d_law_569 : decode code 569 = .ok (.iconst 2, 1) := by decide +kernel
theorem d_law_570 : decode code 570 = .ok (.iadd, 1) := by decide +kernel
theorem d_law_571 : decode code 571 = .ok (.iaload, 1) := by decide +kernel
theorem d_law_572 : decode code 572 = .ok (.invokevirtual 56, 3) := by decide +kernel
theorem d_law_575 : decode code 575 = .ok (.aload_n 2, 1) := by decide +kernel
theorem d_law_576 : decode code 576 = .ok (.aload_n 0, 1) := by decide +kernel
theorem d_law_577 : decode code 577 = .ok (.iload_n 3, 1) := by decide +kernel
theorem d_law_578 : decode code 578 = .ok (.iconst 1, 1) := by decide +kernel
theorem d_law_579 : decode code 579 = .ok (.iadd, 1) := by decide +kernel
theorem d_law_580 : decode code 580 = .ok (.iaload, 1) := by decide +kernel
theorem d_law_581 : decode code 581 = .ok (.aload_n 0, 1) := by decide +kernel
theorem d_law_582 : decode code 582 = .ok (.iload_n 3, 1) := by decide +kernel
theorem d_law_583 : decode code 583 = .ok (.iconst 2, 1) := by decide +kernel
theorem d_law_584 : decode code 584 = .ok (.iadd, 1) := by decide +kernel
theorem d_law_585 : decode code 585 = .ok (.iaload, 1) := by decide +kernel
theorem d_law_586 : decode code 586 = .ok (.invokevirtual 59, 3) := by decide +kernel
theorem d_law_589 : decode code 589 = .ok (.if_icmp .eq 1309, 3) := by decide +kernel
theorem d_law_592 : decode code 592 = .ok (.iconst 0, 1) := by decide +kernel
theorem d_law_593 : decode code 593 = .ok (.ireturn, 1) := by decide +kernel
theorem d_law_594 : decode code 594 = .ok (.aload_n 1, 1) := by decide +kernel
theorem d_law_595 : decode code 595 = .ok (.aload_n 0, 1) := by decide +kernel
theorem d_law_596 : decode code 596 = .ok (.iload_n 3, 1) := by decide +kernel
theorem d_law_597 : decode code 597 = .ok (.iconst 1, 1) := by decide +kernel
theorem d_law_598 : decode code 598 = .ok (.iadd, 1) := by decide +kernel
theorem d_law_599 : decode code 599 = .ok (.iaload, 1) := by decide +kernel
theorem d_law_600 : decode code 600 = .ok (.invokevirtual 60, 3) := by decide +kernel
theorem d_law_603 : decode code 603 = .ok (.aload_n 2, 1) := by decide +kernel
theorem d_law_604 : decode code 604 = .ok (.aload_n 0, 1) := by decide +kernel
theorem d_law_605 : decode code 605 = .ok (.iload_n 3, 1) := by decide +kernel
theorem d_law_606 : decode code 606 = .ok (.iconst 1, 1) := by decide +kernel
theorem d_law_607 : decode code 607 = .ok (.iadd, 1) := by decide +kernel
theorem d_law_608 : decode code 608 = .ok (.iaload, 1) := by decide +kernel
theorem d_law_609 : decode code 609 = .ok (.invokevirtual 63, 3) := by decide +kernel
theorem d_law_612 : decode code 612 = .ok (.if_icmp .eq 1286, 3) := by decide +kernel
theorem d_law_615 : decode code 615 = .ok (.iconst 0, 1) := by decide +kernel
theorem d_law_616 : decode code 616 = .ok (.ireturn, 1) := by decide +kernel
theorem d_law_617 : decode code 617 = .ok (.aload_n 1, 1) := by decide +kernel
theorem d_law_618 : decode code 618 = .ok (.aload_n 0, 1) := by decide +kernel
theorem d_law_619 : decode code 619 = .ok (.iload_n 3, 1) := by decide +kernel
theorem d_law_620 : decode code 620 = .ok (.iconst 1, 1) := by decide +kernel
theorem d_law_621 : decode code 621 = .ok (.iadd, 1) := by decide +kernel
theorem d_law_622 : decode code 622 = .ok (.iaload, 1) := by decide +kernel
theorem d_law_623 : decode code 623 = .ok (.aload_n 0, 1) := by decide +kernel
theorem d_law_624 : decode code 624 = .ok (.iload_n 3, 1) := by decide +kernel
theorem d_law_625 : decode code 625 = .ok (.iconst 2, 1) := by decide +kernel
theorem d_law_626 : decode code 626 = .ok (.iadd, 1) := by decide +kernel
theorem d_law_627 : decode code 627 = .ok (.iaload, 1) := by decide +kernel
theorem d_law_628 : decode code 628 = .ok (.invokevirtual 64, 3) := by decide +kernel
theorem d_law_631 : decode code 631 = .ok (.aload_n 2, 1) := by decide +kernel
theorem d_law_632 : decode code 632 = .ok (.aload_n 0, 1) := by decide +kernel
theorem d_law_633 : decode code 633 = .ok (.iload_n 3, 1) := by decide +kernel
theorem d_law_634 : decode code 634 = .ok (.iconst 1, 1) := by decide +kernel
theorem d_law_635 : decode code 635 = .ok (.iadd, 1) := by decide +kernel
theorem d_law_636 : decode code 636 = .ok (.iaload, 1) := by decide +kernel
theorem d_law_637 : decode code 637 = .ok (.aload_n 0, 1) := by decide +kernel
theorem d_law_638 : decode code 638 = .ok (.iload_n 3, 1) := by decide +kernel
theorem d_law_639 : decode code 639 = .ok (.iconst 2, 1) := by decide +kernel
theorem d_law_640 : decode code 640 = .ok (.iadd, 1) := by decide +kernel
theorem d_law_641 : decode code 641 = .ok (.iaload, 1) := by decide +kernel
theorem d_law_642 : decode code 642 = .ok (.invokevirtual 67, 3) := by decide +kernel
theorem d_law_645 : decode code 645 = .ok (.if_icmp .eq 1253, 3) := by decide +kernel
theorem d_law_648 : decode code 648 = .ok (.iconst 0, 1) := by decide +kernel
theorem d_law_649 : decode code 649 = .ok (.ireturn, 1) := by decide +kernel
theorem d_law_650 : decode code 650 = .ok (.aload_n 1, 1) := by decide +kernel
theorem d_law_651 : decode code 651 = .ok (.aload_n 0, 1) := by decide +kernel
theorem d_law_652 : decode code 652 = .ok (.iload_n 3, 1) := by decide +kernel
theorem d_law_653 : decode code 653 = .ok (.iconst 1, 1) := by decide +kernel
theorem d_law_654 : decode code 654 = .ok (.iadd, 1) := by decide +kernel
theorem d_law_655 : decode code 655 = .ok (.iaload, 1) := by decide +kernel
theorem d_law_656 : decode code 656 = .ok (.aload_n 0, 1) := by decide +kernel
theorem d_law_657 : decode code 657 = .ok (.iload_n 3, 1) := by decide +kernel
theorem d_law_658 : decode code 658 = .ok (.iconst 2, 1) := by decide +kernel
theorem d_law_659 : decode code 659 = .ok (.iadd, 1) := by decide +kernel
theorem d_law_660 : decode code 660 = .ok (.iaload, 1) := by decide +kernel
theorem d_law_661 : decode code 661 = .ok (.invokevirtual 68, 3) := by decide +kernel
theorem d_law_664 : decode code 664 = .ok (.aload_n 2, 1) := by decide +kernel
theorem d_law_665 : decode code 665 = .ok (.aload_n 0, 1) := by decide +kernel
theorem d_law_666 : decode code 666 = .ok (.iload_n 3, 1) := by decide +kernel
theorem d_law_667 : decode code 667 = .ok (.iconst 1, 1) := by decide +kernel
theorem d_law_668 : decode code 668 = .ok (.iadd, 1) := by decide +kernel
theorem d_law_669 : decode code 669 = .ok (.iaload, 1) := by decide +kernel
theorem d_law_670 : decode code 670 = .ok (.aload_n 0, 1) := by decide +kernel
theorem d_law_671 : decode code 671 = .ok (.iload_n 3, 1) := by decide +kernel
theorem d_law_672 : decode code 672 = .ok (.iconst 2, 1) := by decide +kernel
theorem d_law_673 : decode code 673 = .ok (.iadd, 1) := by decide +kernel
theorem d_law_674 : decode code 674 = .ok (.iaload, 1) := by decide +kernel
theorem d_law_675 : decode code 675 = .ok (.invokevirtual 71, 3) := by decide +kernel
theorem d_law_678 : decode code 678 = .ok (.if_icmp .eq 1220, 3) := by decide +kernel
theorem d_law_681 : decode code 681 = .ok (.iconst 0, 1) := by decide +kernel
theorem d_law_682 : decode code 682 = .ok (.ireturn, 1) := by decide +kernel
theorem d_law_683 : decode code 683 = .ok (.aload_n 1, 1) := by decide +kernel
theorem d_law_684 : decode code 684 = .ok (.aload_n 0, 1) := by decide +kernel
theorem d_law_685 : decode code 685 = .ok (.iload_n 3, 1) := by decide +kernel
theorem d_law_686 : decode code 686 = .ok (.iconst 1, 1) := by decide +kernel
theorem d_law_687 : decode code 687 = .ok (.iadd, 1) := by decide +kernel
theorem d_law_688 : decode code 688 = .ok (.iaload, 1) := by decide +kernel
theorem d_law_689 : decode code 689 = .ok (.invokevirtual 72, 3) := by decide +kernel
theorem d_law_692 : decode code 692 = .ok (.aload_n 2, 1) := by decide +kernel
theorem d_law_693 : decode code 693 = .ok (.aload_n 0, 1) := by decide +kernel
theorem d_law_694 : decode code 694 = .ok (.iload_n 3, 1) := by decide +kernel
theorem d_law_695 : decode code 695 = .ok (.iconst 1, 1) := by decide +kernel
theorem d_law_696 : decode code 696 = .ok (.iadd, 1) := by decide +kernel
theorem d_law_697 : decode code 697 = .ok (.iaload, 1) := by decide +kernel
theorem d_law_698 : decode code 698 = .ok (.invokevirtual 75, 3) := by decide +kernel
theorem d_law_7 : decode code 7 = .ok (.astore_n 1, 1) := by decide +kernel
theorem d_law_701 : decode code 701 = .ok (.if_icmp .eq 1197, 3) := by decide +kernel
theorem d_law_704 : decode code 704 = .ok (.iconst 0, 1) := by decide +kernel
theorem d_law_705 : decode code 705 = .ok (.ireturn, 1) := by decide +kernel
theorem d_law_706 : decode code 706 = .ok (.aload_n 1, 1) := by decide +kernel
theorem d_law_707 : decode code 707 = .ok (.aload_n 0, 1) := by decide +kernel
theorem d_law_708 : decode code 708 = .ok (.iload_n 3, 1) := by decide +kernel
theorem d_law_709 : decode code 709 = .ok (.iconst 1, 1) := by decide +kernel
theorem d_law_710 : decode code 710 = .ok (.iadd, 1) := by decide +kernel
theorem d_law_711 : decode code 711 = .ok (.iaload, 1) := by decide +kernel
theorem d_law_712 : decode code 712 = .ok (.aload_n 0, 1) := by decide +kernel
theorem d_law_713 : decode code 713 = .ok (.iload_n 3, 1) := by decide +kernel
theorem d_law_714 : decode code 714 = .ok (.iconst 2, 1) := by decide +kernel
theorem d_law_715 : decode code 715 = .ok (.iadd, 1) := by decide +kernel
theorem d_law_716 : decode code 716 = .ok (.iaload, 1) := by decide +kernel
theorem d_law_717 : decode code 717 = .ok (.invokevirtual 76, 3) := by decide +kernel
theorem d_law_720 : decode code 720 = .ok (.aload_n 2, 1) := by decide +kernel
theorem d_law_721 : decode code 721 = .ok (.aload_n 0, 1) := by decide +kernel
theorem d_law_722 : decode code 722 = .ok (.iload_n 3, 1) := by decide +kernel
theorem d_law_723 : decode code 723 = .ok (.iconst 1, 1) := by decide +kernel
theorem d_law_724 : decode code 724 = .ok (.iadd, 1) := by decide +kernel
theorem d_law_725 : decode code 725 = .ok (.iaload, 1) := by decide +kernel
theorem d_law_726 : decode code 726 = .ok (.aload_n 0, 1) := by decide +kernel
theorem d_law_727 : decode code 727 = .ok (.iload_n 3, 1) := by decide +kernel
theorem d_law_728 : decode code 728 = .ok (.iconst 2, 1) := by decide +kernel
theorem d_law_729 : decode code 729 = .ok (.iadd, 1) := by decide +kernel
theorem d_law_730 : decode code 730 = .ok (.iaload, 1) := by decide +kernel
theorem d_law_731 : decode code 731 = .ok (.invokevirtual 79, 3) := by decide +kernel
theorem d_law_734 : decode code 734 = .ok (.if_icmp .eq 1164, 3) := by decide +kernel
theorem d_law_737 : decode code 737 = .ok (.iconst 0, 1) := by decide +kernel
theorem d_law_738 : decode code 738 = .ok (.ireturn, 1) := by decide +kernel
theorem d_law_739 : decode code 739 = .ok (.aload_n 1, 1) := by decide +kernel
theorem d_law_740 : decode code 740 = .ok (.invokevirtual 80, 3) := by decide +kernel
theorem d_law_743 : decode code 743 = .ok (.aload_n 2, 1) := by decide +kernel
theorem d_law_744 : decode code 744 = .ok (.invokevirtual 83, 3) := by decide +kernel
theorem d_law_747 : decode code 747 = .ok (.if_icmp .eq 1151, 3) := by decide +kernel
theorem d_law_750 : decode code 750 = .ok (.iconst 0, 1) := by decide +kernel
theorem d_law_751 : decode code 751 = .ok (.ireturn, 1) := by decide +kernel
theorem d_law_752 : decode code 752 = .ok (.aload_n 1, 1) := by decide +kernel
theorem d_law_753 : decode code 753 = .ok (.aload_n 0, 1) := by decide +kernel
theorem d_law_754 : decode code 754 = .ok (.iload_n 3, 1) := by decide +kernel
theorem d_law_755 : decode code 755 = .ok (.iconst 1, 1) := by decide +kernel
theorem d_law_756 : decode code 756 = .ok (.iadd, 1) := by decide +kernel
theorem d_law_757 : decode code 757 = .ok (.iaload, 1) := by decide +kernel
theorem d_law_758 : decode code 758 = .ok (.aload_n 0, 1) := by decide +kernel
theorem d_law_759 : decode code 759 = .ok (.iload_n 3, 1) := by decide +kernel
theorem d_law_760 : decode code 760 = .ok (.iconst 2, 1) := by decide +kernel
theorem d_law_761 : decode code 761 = .ok (.iadd, 1) := by decide +kernel
theorem d_law_762 : decode code 762 = .ok (.iaload, 1) := by decide +kernel
theorem d_law_763 : decode code 763 = .ok (.invokevirtual 84, 3) := by decide +kernel
theorem d_law_766 : decode code 766 = .ok (.aload_n 2, 1) := by decide +kernel
theorem d_law_767 : decode code 767 = .ok (.aload_n 0, 1) := by decide +kernel
theorem d_law_768 : decode code 768 = .ok (.iload_n 3, 1) := by decide +kernel
theorem d_law_769 : decode code 769 = .ok (.iconst 1, 1) := by decide +kernel
theorem d_law_770 : decode code 770 = .ok (.iadd, 1) := by decide +kernel
theorem d_law_771 : decode code 771 = .ok (.iaload, 1) := by decide +kernel
theorem d_law_772 : decode code 772 = .ok (.aload_n 0, 1) := by decide +kernel
theorem d_law_773 : decode code 773 = .ok (.iload_n 3, 1) := by decide +kernel
theorem d_law_774 : decode code 774 = .ok (.iconst 2, 1) := by decide +kernel
theorem d_law_775 : decode code 775 = .ok (.iadd, 1) := by decide +kernel
theorem d_law_776 : decode code 776 = .ok (.iaload, 1) := by decide +kernel
theorem d_law_777 : decode code 777 = .ok (.invokevirtual 87, 3) := by decide +kernel
theorem d_law_780 : decode code 780 = .ok (.if_icmp .eq 1118, 3) := by decide +kernel
theorem d_law_783 : decode code 783 = .ok (.iconst 0, 1) := by decide +kernel
theorem d_law_784 : decode code 784 = .ok (.ireturn, 1) := by decide +kernel
theorem d_law_785 : decode code 785 = .ok (.aload_n 1, 1) := by decide +kernel
theorem d_law_786 : decode code 786 = .ok (.aload_n 0, 1) := by decide +kernel
theorem d_law_787 : decode code 787 = .ok (.iload_n 3, 1) := by decide +kernel
theorem d_law_788 : decode code 788 = .ok (.iconst 1, 1) := by decide +kernel
theorem d_law_789 : decode code 789 = .ok (.iadd, 1) := by decide +kernel
theorem d_law_790 : decode code 790 = .ok (.iaload, 1) := by decide +kernel
theorem d_law_791 : decode code 791 = .ok (.invokevirtual 88, 3) := by decide +kernel
theorem d_law_794 : decode code 794 = .ok (.aload_n 2, 1) := by decide +kernel
theorem d_law_795 : decode code 795 = .ok (.aload_n 0, 1) := by decide +kernel
theorem d_law_796 : decode code 796 = .ok (.iload_n 3, 1) := by decide +kernel
theorem d_law_797 : decode code 797 = .ok (.iconst 1, 1) := by decide +kernel
theorem d_law_798 : decode code 798 = .ok (.iadd, 1) := by decide +kernel
theorem d_law_799 : decode code 799 = .ok (.iaload, 1) := by decide +kernel
theorem d_law_8 : decode code 8 = .ok (.new 10, 3) := by decide +kernel
theorem d_law_800 : decode code 800 = .ok (.invokevirtual 91, 3) := by decide +kernel
theorem d_law_803 : decode code 803 = .ok (.if_icmp .eq 1095, 3) := by decide +kernel
theorem d_law_806 : decode code 806 = .ok (.iconst 0, 1) := by decide +kernel
theorem d_law_807 : decode code 807 = .ok (.ireturn, 1) := by decide +kernel
theorem d_law_808 : decode code 808 = .ok (.aload_n 1, 1) := by decide +kernel
theorem d_law_809 : decode code 809 = .ok (.invokevirtual 92, 3) := by decide +kernel
theorem d_law_812 : decode code 812 = .ok (.aload_n 2, 1) := by decide +kernel
theorem d_law_813 : decode code 813 = .ok (.invokevirtual 95, 3) := by decide +kernel
theorem d_law_816 : decode code 816 = .ok (.if_icmp .eq 1082, 3) := by decide +kernel
theorem d_law_819 : decode code 819 = .ok (.iconst 0, 1) := by decide +kernel
theorem d_law_820 : decode code 820 = .ok (.ireturn, 1) := by decide +kernel
theorem d_law_821 : decode code 821 = .ok (.aload_n 1, 1) := by decide +kernel
theorem d_law_822 : decode code 822 = .ok (.invokevirtual 96, 3) := by decide +kernel
theorem d_law_825 : decode code 825 = .ok (.aload_n 2, 1) := by decide +kernel
theorem d_law_826 : decode code 826 = .ok (.invokevirtual 99, 3) := by decide +kernel
theorem d_law_829 : decode code 829 = .ok (.if_icmp .eq 1069, 3) := by decide +kernel
theorem d_law_832 : decode code 832 = .ok (.iconst 0, 1) := by decide +kernel
theorem d_law_833 : decode code 833 = .ok (.ireturn, 1) := by decide +kernel
theorem d_law_834 : decode code 834 = .ok (.aload_n 1, 1) := by decide +kernel
theorem d_law_835 : decode code 835 = .ok (.aload_n 0, 1) := by decide +kernel
theorem d_law_836 : decode code 836 = .ok (.iload_n 3, 1) := by decide +kernel
theorem d_law_837 : decode code 837 = .ok (.iconst 1, 1) := by decide +kernel
theorem d_law_838 : decode code 838 = .ok (.iadd, 1) := by decide +kernel
theorem d_law_839 : decode code 839 = .ok (.iaload, 1) := by decide +kernel
theorem d_law_840 : decode code 840 = .ok (.invokevirtual 100, 3) := by decide +kernel
theorem d_law_843 : decode code 843 = .ok (.aload_n 2, 1) := by decide +kernel
theorem d_law_844 : decode code 844 = .ok (.aload_n 0, 1) := by decide +kernel
theorem d_law_845 : decode code 845 = .ok (.iload_n 3, 1) := by decide +kernel
theorem d_law_846 : decode code 846 = .ok (.iconst 1, 1) := by decide +kernel
theorem d_law_847 : decode code 847 = .ok (.iadd, 1) := by decide +kernel
theorem d_law_848 : decode code 848 = .ok (.iaload, 1) := by decide +kernel
theorem d_law_849 : decode code 849 = .ok (.invokevirtual 103, 3) := by decide +kernel
theorem d_law_852 : decode code 852 = .ok (.if_icmp .eq 1046, 3) := by decide +kernel
theorem d_law_855 : decode code 855 = .ok (.iconst 0, 1) := by decide +kernel
theorem d_law_856 : decode code 856 = .ok (.ireturn, 1) := by decide +kernel
theorem d_law_857 : decode code 857 = .ok (.aload_n 1, 1) := by decide +kernel
theorem d_law_858 : decode code 858 = .ok (.aload_n 0, 1) := by decide +kernel
theorem d_law_859 : decode code 859 = .ok (.iload_n 3, 1) := by decide +kernel
theorem d_law_860 : decode code 860 = .ok (.iconst 1, 1) := by decide +kernel
theorem d_law_861 : decode code 861 = .ok (.iadd, 1) := by decide +kernel
theorem d_law_862 : decode code 862 = .ok (.iaload, 1) := by decide +kernel
theorem d_law_863 : decode code 863 = .ok (.aload_n 0, 1) := by decide +kernel
theorem d_law_864 : decode code 864 = .ok (.iload_n 3, 1) := by decide +kernel
theorem d_law_865 : decode code 865 = .ok (.iconst 2, 1) := by decide +kernel
theorem d_law_866 : decode code 866 = .ok (.iadd, 1) := by decide +kernel
theorem d_law_867 : decode code 867 = .ok (.iaload, 1) := by decide +kernel
theorem d_law_868 : decode code 868 = .ok (.aload_n 0, 1) := by decide +kernel
theorem d_law_869 : decode code 869 = .ok (.iload_n 3, 1) := by decide +kernel
theorem d_law_870 : decode code 870 = .ok (.iconst 3, 1) := by decide +kernel
theorem d_law_871 : decode code 871 = .ok (.iadd, 1) := by decide +kernel
theorem d_law_872 : decode code 872 = .ok (.iaload, 1) := by decide +kernel
theorem d_law_873 : decode code 873 = .ok (.invokevirtual 104, 3) := by decide +kernel
theorem d_law_876 : decode code 876 = .ok (.aload_n 2, 1) := by decide +kernel
theorem d_law_877 : decode code 877 = .ok (.aload_n 0, 1) := by decide +kernel
theorem d_law_878 : decode code 878 = .ok (.iload_n 3, 1) := by decide +kernel
theorem d_law_879 : decode code 879 = .ok (.iconst 1, 1) := by decide +kernel
theorem d_law_880 : decode code 880 = .ok (.iadd, 1) := by decide +kernel
theorem d_law_881 : decode code 881 = .ok (.iaload, 1) := by decide +kernel
theorem d_law_882 : decode code 882 = .ok (.aload_n 0, 1) := by decide +kernel
theorem d_law_883 : decode code 883 = .ok (.iload_n 3, 1) := by decide +kernel
theorem d_law_884 : decode code 884 = .ok (.iconst 2, 1) := by decide +kernel
theorem d_law_885 : decode code 885 = .ok (.iadd, 1) := by decide +kernel
theorem d_law_886 : decode code 886 = .ok (.iaload, 1) := by decide +kernel
theorem d_law_887 : decode code 887 = .ok (.aload_n 0, 1) := by decide +kernel
theorem d_law_888 : decode code 888 = .ok (.iload_n 3, 1) := by decide +kernel
theorem d_law_889 : decode code 889 = .ok (.iconst 3, 1) := by decide +kernel
theorem d_law_890 : decode code 890 = .ok (.iadd, 1) := by decide +kernel
theorem d_law_891 : decode code 891 = .ok (.iaload, 1) := by decide +kernel
theorem d_law_892 : decode code 892 = .ok (.invokevirtual 108, 3) := by decide +kernel
theorem d_law_895 : decode code 895 = .ok (.if_icmp .eq 1003, 3) := by decide +kernel
theorem d_law_898 : decode code 898 = .ok (.iconst 0, 1) := by decide +kernel
theorem d_law_899 : decode code 899 = .ok (.ireturn, 1) := by decide +kernel
theorem d_law_900 : decode code 900 = .ok (.aload_n 1, 1) := by decide +kernel
theorem d_law_901 : decode code 901 = .ok (.aload_n 0, 1) := by decide +kernel
theorem d_law_902 : decode code 902 = .ok (.iload_n 3, 1) := by decide +kernel
theorem d_law_903 : decode code 903 = .ok (.iconst 1, 1) := by decide +kernel
theorem d_law_904 : decode code 904 = .ok (.iadd, 1) := by decide +kernel
theorem d_law_905 : decode code 905 = .ok (.iaload, 1) := by decide +kernel
theorem d_law_906 : decode code 906 = .ok (.aload_n 0, 1) := by decide +kernel
theorem d_law_907 : decode code 907 = .ok (.iload_n 3, 1) := by decide +kernel
theorem d_law_908 : decode code 908 = .ok (.iconst 2, 1) := by decide +kernel
theorem d_law_909 : decode code 909 = .ok (.iadd, 1) := by decide +kernel
theorem d_law_910 : decode code 910 = .ok (.iaload, 1) := by decide +kernel
theorem d_law_911 : decode code 911 = .ok (.aload_n 0, 1) := by decide +kernel
theorem d_law_912 : decode code 912 = .ok (.iload_n 3, 1) := by decide +kernel
theorem d_law_913 : decode code 913 = .ok (.iconst 3, 1) := by decide +kernel
theorem d_law_914 : decode code 914 = .ok (.iadd, 1) := by decide +kernel
theorem d_law_915 : decode code 915 = .ok (.iaload, 1) := by decide +kernel
theorem d_law_916 : decode code 916 = .ok (.invokevirtual 109, 3) := by decide +kernel
theorem d_law_919 : decode code 919 = .ok (.aload_n 2, 1) := by decide +kernel
theorem d_law_920 : decode code 920 = .ok (.aload_n 0, 1) := by decide +kernel
theorem d_law_921 : decode code 921 = .ok (.iload_n 3, 1) := by decide +kernel
theorem d_law_922 : decode code 922 = .ok (.iconst 1, 1) := by decide +kernel
theorem d_law_923 : decode code 923 = .ok (.iadd, 1) := by decide +kernel
theorem d_law_924 : decode code 924 = .ok (.iaload, 1) := by decide +kernel
theorem d_law_925 : decode code 925 = .ok (.aload_n 0, 1) := by decide +kernel
theorem d_law_926 : decode code 926 = .ok (.iload_n 3, 1) := by decide +kernel
theorem d_law_927 : decode code 927 = .ok (.iconst 2, 1) := by decide +kernel
theorem d_law_928 : decode code 928 = .ok (.iadd, 1) := by decide +kernel
theorem d_law_929 : decode code 929 = .ok (.iaload, 1) := by decide +kernel
theorem d_law_930 : decode code 930 = .ok (.aload_n 0, 1) := by decide +kernel
theorem d_law_931 : decode code 931 = .ok (.iload_n 3, 1) := by decide +kernel
theorem d_law_932 : decode code 932 = .ok (.iconst 3, 1) := by decide +kernel
theorem d_law_933 : decode code 933 = .ok (.iadd, 1) := by decide +kernel
theorem d_law_934 : decode code 934 = .ok (.iaload, 1) := by decide +kernel
theorem d_law_935 : decode code 935 = .ok (.invokevirtual 112, 3) := by decide +kernel
theorem d_law_938 : decode code 938 = .ok (.if_icmp .eq 960, 3) := by decide +kernel
theorem d_law_941 : decode code 941 = .ok (.iconst 0, 1) := by decide +kernel
theorem d_law_942 : decode code 942 = .ok (.ireturn, 1) := by decide +kernel
theorem d_law_943 : decode code 943 = .ok (.aload_n 1, 1) := by decide +kernel
theorem d_law_944 : decode code 944 = .ok (.aload_n 0, 1) := by decide +kernel
theorem d_law_945 : decode code 945 = .ok (.iload_n 3, 1) := by decide +kernel
theorem d_law_946 : decode code 946 = .ok (.iconst 1, 1) := by decide +kernel
theorem d_law_947 : decode code 947 = .ok (.iadd, 1) := by decide +kernel
theorem d_law_948 : decode code 948 = .ok (.iaload, 1) := by decide +kernel
theorem d_law_949 : decode code 949 = .ok (.aload_n 0, 1) := by decide +kernel
theorem d_law_950 : decode code 950 = .ok (.iload_n 3, 1) := by decide +kernel
theorem d_law_951 : decode code 951 = .ok (.iconst 2, 1) := by decide +kernel
theorem d_law_952 : decode code 952 = .ok (.iadd, 1) := by decide +kernel
theorem d_law_953 : decode code 953 = .ok (.iaload, 1) := by decide +kernel
theorem d_law_954 : decode code 954 = .ok (.invokevirtual 113, 3) := by decide +kernel
theorem d_law_957 : decode code 957 = .ok (.aload_n 2, 1) := by decide +kernel
theorem d_law_958 : decode code 958 = .ok (.aload_n 0, 1) := by decide +kernel
theorem d_law_959 : decode code 959 = .ok (.iload_n 3, 1) := by decide +kernel
theorem d_law_960 : decode code 960 = .ok (.iconst 1, 1) := by decide +kernel
theorem d_law_961 : decode code 961 = .ok (.iadd, 1) := by decide +kernel
theorem d_law_962 : decode code 962 = .ok (.iaload, 1) := by decide +kernel
theorem d_law_963 : decode code 963 = .ok (.aload_n 0, 1) := by decide +kernel
theorem d_law_964 : decode code 964 = .ok (.iload_n 3, 1) := by decide +kernel
theorem d_law_965 : decode code 965 = .ok (.iconst 2, 1) := by decide +kernel
theorem d_law_966 : decode code 966 = .ok (.iadd, 1) := by decide +kernel
theorem d_law_967 : decode code 967 = .ok (.iaload, 1) := by decide +kernel
theorem d_law_968 : decode code 968 = .ok (.invokevirtual 116, 3) := by decide +kernel
theorem d_law_971 : decode code 971 = .ok (.if_icmp .eq 927, 3) := by decide +kernel
theorem d_law_974 : decode code 974 = .ok (.iconst 0, 1) := by decide +kernel
theorem d_law_975 : decode code 975 = .ok (.ireturn, 1) := by decide +kernel
theorem d_law_976 : decode code 976 = .ok (.aload_n 1, 1) := by decide +kernel
theorem d_law_977 : decode code 977 = .ok (.aload_n 0, 1) := by decide +kernel
theorem d_law_978 : decode code 978 = .ok (.iload_n 3, 1) := by decide +kernel
theorem d_law_979 : decode code 979 = .ok (.iconst 1, 1) := by decide +kernel
theorem d_law_980 : decode code 980 = .ok (.iadd, 1) := by decide +kernel
theorem d_law_981 : decode code 981 = .ok (.iaload, 1) := by decide +kernel
theorem d_law_982 : decode code 982 = .ok (.aload_n 0, 1) := by decide +kernel
theorem d_law_983 : decode code 983 = .ok (.iload_n 3, 1) := by decide +kernel
theorem d_law_984 : decode code 984 = .ok (.iconst 2, 1) := by decide +kernel
theorem d_law_985 : decode code 985 = .ok (.iadd, 1) := by decide +kernel
theorem d_law_986 : decode code 986 = .ok (.iaload, 1) := by decide +kernel
theorem d_law_987 : decode code 987 = .ok (.aload_n 0, 1) := by decide +kernel
theorem d_law_988 : decode code 988 = .ok (.iload_n 3, 1) := by decide +kernel
theorem d_law_989 : decode code 989 = .ok (.iconst 3, 1) := by decide +kernel
theorem d_law_990 : decode code 990 = .ok (.iadd, 1) := by decide +kernel
theorem d_law_991 : decode code 991 = .ok (.iaload, 1) := by decide +kernel
theorem d_law_992 : decode code 992 = .ok (.invokevirtual 117, 3) := by decide +kernel
theorem d_law_995 : decode code 995 = .ok (.aload_n 2, 1) := by decide +kernel
theorem d_law_996 : decode code 996 = .ok (.aload_n 0, 1) := by decide +kernel
theorem d_law_997 : decode code 997 = .ok (.iload_n 3, 1) := by decide +kernel
theorem d_law_998 : decode code 998 = .ok (.iconst 1, 1) := by decide +kernel
theorem d_law_999 : decode code 999 = .ok (.iadd, 1) := by decide +kernel
