theorem d_L_law_1056 : decode b_L_law 1056 = .ok (.iconst 3, 1) := by decide +kernel
theorem d_L_law_1057 : decode b_L_law 1057 = .ok (.iadd, 1) := by decide +kernel
theorem d_L_law_1058 : decode b_L_law 1058 = .ok (.iaload, 1) := by decide +kernel
theorem d_L_law_1059 : decode b_L_law 1059 = .ok (.invokevirtual 133, 3) := by decide +kernel
theorem d_L_law_1062 : decode b_L_law 1062 = .ok (.aload_n 2, 1) := by decide +kernel
theorem d_L_law_1063 : decode b_L_law 1063 = .ok (.invokevirtual 87, 3) := by decide +kernel
theorem d_L_law_1066 : decode b_L_law 1066 = .ok (.iload 5, 2) := by decide +kernel
theorem d_L_law_1068 : decode b_L_law 1068 = .ok (.if_icmp .eq 5, 3) := by decide +kernel
theorem d_L_law_1071 : decode b_L_law 1071 = .ok (.iconst 0, 1) := by decide +kernel
theorem d_L_law_1072 : decode b_L_law 1072 = .ok (.ireturn, 1) := by decide +kernel
theorem d_L_law_1073 : decode b_L_law 1073 = .ok (.goto 288, 3) := by decide +kernel
theorem d_L_law_1076 : decode b_L_law 1076 = .ok (.aload_n 1, 1) := by decide +kernel
theorem d_L_law_1077 : decode b_L_law 1077 = .ok (.aload_n 0, 1) := by decide +kernel
theorem d_L_law_1078 : decode b_L_law 1078 = .ok (.iload 4, 2) := by decide +kernel
theorem d_L_law_1080 : decode b_L_law 1080 = .ok (.iconst 1, 1) := by decide +kernel
theorem d_L_law_1081 : decode b_L_law 1081 = .ok (.iadd, 1) := by decide +kernel
theorem d_L_law_1082 : decode b_L_law 1082 = .ok (.iaload, 1) := by decide +kernel
theorem d_L_law_1083 : decode b_L_law 1083 = .ok (.aload_n 0, 1) := by decide +kernel
theorem d_L_law_1084 : decode b_L_law 1084 = .ok (.iload 4, 2) := by decide +kernel
theorem d_L_law_1086 : decode b_L_law 1086 = .ok (.iconst 2, 1) := by decide +kernel
theorem d_L_law_1087 : decode b_L_law 1087 = .ok (.iadd, 1) := by decide +kernel
theorem d_L_law_1088 : decode b_L_law 1088 = .ok (.iaload, 1) := by decide +kernel
theorem d_L_law_1089 : decode b_L_law 1089 = .ok (.aload_n 0, 1) := by decide +kernel
theorem d_L_law_1090 : decode b_L_law 1090 = .ok (.iload 4, 2) := by decide +kernel
theorem d_L_law_1092 : decode b_L_law 1092 = .ok (.iconst 3, 1) := by decide +kernel
theorem d_L_law_1093 : decode b_L_law 1093 = .ok (.iadd, 1) := by decide +kernel
theorem d_L_law_1094 : decode b_L_law 1094 = .ok (.iaload, 1) := by decide +kernel
theorem d_L_law_1095 : decode b_L_law 1095 = .ok (.invokestatic 134, 3) := by decide +kernel
theorem d_L_law_1098 : decode b_L_law 1098 = .ok (.istore 5, 2) := by decide +kernel
theorem d_L_law_1100 : decode b_L_law 1100 = .ok (.aload_n 2, 1) := by decide +kernel
theorem d_L_law_1101 : decode b_L_law 1101 = .ok (.aload_n 0, 1) := by decide +kernel
theorem d_L_law_1102 : decode b_L_law 1102 = .ok (.iload 4, 2) := by decide +kernel
theorem d_L_law_1104 : decode b_L_law 1104 = .ok (.iconst 1, 1) := by decide +kernel
theorem d_L_law_1105 : decode b_L_law 1105 = .ok (.iadd, 1) := by decide +kernel
theorem d_L_law_1106 : decode b_L_law 1106 = .ok (.iaload, 1) := by decide +kernel
theorem d_L_law_1107 : decode b_L_law 1107 = .ok (.aload_n 0, 1) := by decide +kernel
theorem d_L_law_1108 : decode b_L_law 1108 = .ok (.iload 4, 2) := by decide +kernel
theorem d_L_law_1110 : decode b_L_law 1110 = .ok (.iconst 2, 1) := by decide +kernel
theorem d_L_law_1111 : decode b_L_law 1111 = .ok (.iadd, 1) := by decide +kernel
theorem d_L_law_1112 : decode b_L_law 1112 = .ok (.iaload, 1) := by decide +kernel
theorem d_L_law_1113 : decode b_L_law 1113 = .ok (.aload_n 0, 1) := by decide +kernel
theorem d_L_law_1114 : decode b_L_law 1114 = .ok (.iload 4, 2) := by decide +kernel
theorem d_L_law_1116 : decode b_L_law 1116 = .ok (.iconst 3, 1) := by decide +kernel
theorem d_L_law_1117 : decode b_L_law 1117 = .ok (.iadd, 1) := by decide +kernel
theorem d_L_law_1118 : decode b_L_law 1118 = .ok (.iaload, 1) := by decide +kernel
theorem d_L_law_1119 : decode b_L_law 1119 = .ok (.invokevirtual 136, 3) := by decide +kernel
theorem d_L_law_1122 : decode b_L_law 1122 = .ok (.aload_n 2, 1) := by decide +kernel
theorem d_L_law_1123 : decode b_L_law 1123 = .ok (.invokevirtual 87, 3) := by decide +kernel
theorem d_L_law_1126 : decode b_L_law 1126 = .ok (.iload 5, 2) := by decide +kernel
theorem d_L_law_1128 : decode b_L_law 1128 = .ok (.if_icmp .eq 5, 3) := by decide +kernel
theorem d_L_law_1131 : decode b_L_law 1131 = .ok (.iconst 0, 1) := by decide +kernel
theorem d_L_law_1132 : decode b_L_law 1132 = .ok (.ireturn, 1) := by decide +kernel
theorem d_L_law_1133 : decode b_L_law 1133 = .ok (.goto 228, 3) := by decide +kernel
theorem d_L_law_1136 : decode b_L_law 1136 = .ok (.aload_n 1, 1) := by decide +kernel
theorem d_L_law_1137 : decode b_L_law 1137 = .ok (.aload_n 0, 1) := by decide +kernel
theorem d_L_law_1138 : decode b_L_law 1138 = .ok (.iload 4, 2) := by decide +kernel
theorem d_L_law_1140 : decode b_L_law 1140 = .ok (.iconst 1, 1) := by decide +kernel
theorem d_L_law_1141 : decode b_L_law 1141 = .ok (.iadd, 1) := by decide +kernel
theorem d_L_law_1142 : decode b_L_law 1142 = .ok (.iaload, 1) := by decide +kernel
theorem d_L_law_1143 : decode b_L_law 1143 = .ok (.aload_n 0, 1) := by decide +kernel
theorem d_L_law_1144 : decode b_L_law 1144 = .ok (.iload 4, 2) := by decide +kernel
theorem d_L_law_1146 : decode b_L_law 1146 = .ok (.iconst 2, 1) := by decide +kernel
theorem d_L_law_1147 : decode b_L_law 1147 = .ok (.iadd, 1) := by decide +kernel
theorem d_L_law_1148 : decode b_L_law 1148 = .ok (.iaload, 1) := by decide +kernel
theorem d_L_law_1149 : decode b_L_law 1149 = .ok (.aload_n 3, 1) := by decide +kernel
theorem d_L_law_1150 : decode b_L_law 1150 = .ok (.invokestatic 137, 3) := by decide +kernel
theorem d_L_law_1153 : decode b_L_law 1153 = .ok (.istore 5, 2) := by decide +kernel
theorem d_L_law_1155 : decode b_L_law 1155 = .ok (.aload_n 2, 1) := by decide +kernel
theorem d_L_law_1156 : decode b_L_law 1156 = .ok (.aload_n 0, 1) := by decide +kernel
theorem d_L_law_1157 : decode b_L_law 1157 = .ok (.iload 4, 2) := by decide +kernel
theorem d_L_law_1159 : decode b_L_law 1159 = .ok (.iconst 1, 1) := by decide +kernel
theorem d_L_law_1160 : decode b_L_law 1160 = .ok (.iadd, 1) := by decide +kernel
theorem d_L_law_1161 : decode b_L_law 1161 = .ok (.iaload, 1) := by decide +kernel
theorem d_L_law_1162 : decode b_L_law 1162 = .ok (.aload_n 0, 1) := by decide +kernel
theorem d_L_law_1163 : decode b_L_law 1163 = .ok (.iload 4, 2) := by decide +kernel
theorem d_L_law_1165 : decode b_L_law 1165 = .ok (.iconst 2, 1) := by decide +kernel
theorem d_L_law_1166 : decode b_L_law 1166 = .ok (.iadd, 1) := by decide +kernel
theorem d_L_law_1167 : decode b_L_law 1167 = .ok (.iaload, 1) := by decide +kernel
theorem d_L_law_1168 : decode b_L_law 1168 = .ok (.invokevirtual 139, 3) := by decide +kernel
theorem d_L_law_1171 : decode b_L_law 1171 = .ok (.istore 6, 2) := by decide +kernel
theorem d_L_law_1173 : decode b_L_law 1173 = .ok (.aload_n 2, 1) := by decide +kernel
theorem d_L_law_1174 : decode b_L_law 1174 = .ok (.invokevirtual 87, 3) := by decide +kernel
theorem d_L_law_1177 : decode b_L_law 1177 = .ok (.iload 5, 2) := by decide +kernel
theorem d_L_law_1179 : decode b_L_law 1179 = .ok (.if_icmp .eq 5, 3) := by decide +kernel
theorem d_L_law_1182 : decode b_L_law 1182 = .ok (.iconst 0, 1) := by decide +kernel
theorem d_L_law_1183 : decode b_L_law 1183 = .ok (.ireturn, 1) := by decide +kernel
theorem d_L_law_1184 : decode b_L_law 1184 = .ok (.iload 5, 2) := by decide +kernel
theorem d_L_law_1186 : decode b_L_law 1186 = .ok (.ifCond .ne 15, 3) := by decide +kernel
theorem d_L_law_1189 : decode b_L_law 1189 = .ok (.aload_n 3, 1) := by decide +kernel
theorem d_L_law_1190 : decode b_L_law 1190 = .ok (.iconst 0, 1) := by decide +kernel
theorem d_L_law_1191 : decode b_L_law 1191 = .ok (.laload, 1) := by decide +kernel
theorem d_L_law_1192 : decode b_L_law 1192 = .ok (.iload 6, 2) := by decide +kernel
theorem d_L_law_1194 : decode b_L_law 1194 = .ok (.i2l, 1) := by decide +kernel
theorem d_L_law_1195 : decode b_L_law 1195 = .ok (.lcmp, 1) := by decide +kernel
theorem d_L_law_1196 : decode b_L_law 1196 = .ok (.ifCond .eq 5, 3) := by decide +kernel
theorem d_L_law_1199 : decode b_L_law 1199 = .ok (.iconst 0, 1) := by decide +kernel
theorem d_L_law_1200 : decode b_L_law 1200 = .ok (.ireturn, 1) := by decide +kernel
theorem d_L_law_1201 : decode b_L_law 1201 = .ok (.goto 160, 3) := by decide +kernel
theorem d_L_law_1204 : decode b_L_law 1204 = .ok (.aload_n 1, 1) := by decide +kernel
theorem d_L_law_1205 : decode b_L_law 1205 = .ok (.aload_n 0, 1) := by decide +kernel
theorem d_L_law_1206 : decode b_L_law 1206 = .ok (.iload 4, 2) := by decide +kernel
theorem d_L_law_1208 : decode b_L_law 1208 = .ok (.iconst 1, 1) := by decide +kernel
theorem d_L_law_1209 : decode b_L_law 1209 = .ok (.iadd, 1) := by decide +kernel
theorem d_L_law_1210 : decode b_L_law 1210 = .ok (.iaload, 1) := by decide +kernel
theorem d_L_law_1211 : decode b_L_law 1211 = .ok (.aload_n 0, 1) := by decide +kernel
theorem d_L_law_1212 : decode b_L_law 1212 = .ok (.iload 4, 2) := by decide +kernel
theorem d_L_law_1214 : decode b_L_law 1214 = .ok (.iconst 2, 1) := by decide +kernel
theorem d_L_law_1215 : decode b_L_law 1215 = .ok (.iadd, 1) := by decide +kernel
theorem d_L_law_1216 : decode b_L_law 1216 = .ok (.iaload, 1) := by decide +kernel
theorem d_L_law_1217 : decode b_L_law 1217 = .ok (.aload_n 0, 1) := by decide +kernel
theorem d_L_law_1218 : decode b_L_law 1218 = .ok (.iload 4, 2) := by decide +kernel
theorem d_L_law_1220 : decode b_L_law 1220 = .ok (.iconst 3, 1) := by decide +kernel
theorem d_L_law_1221 : decode b_L_law 1221 = .ok (.iadd, 1) := by decide +kernel
theorem d_L_law_1222 : decode b_L_law 1222 = .ok (.iaload, 1) := by decide +kernel
theorem d_L_law_1223 : decode b_L_law 1223 = .ok (.ifCond .eq 7, 3) := by decide +kernel
theorem d_L_law_1226 : decode b_L_law 1226 = .ok (.iconst 1, 1) := by decide +kernel
theorem d_L_law_1227 : decode b_L_law 1227 = .ok (.goto 4, 3) := by decide +kernel
theorem d_L_law_1230 : decode b_L_law 1230 = .ok (.iconst 0, 1) := by decide +kernel
theorem d_L_law_1231 : decode b_L_law 1231 = .ok (.invokestatic 140, 3) := by decide +kernel
theorem d_L_law_1234 : decode b_L_law 1234 = .ok (.istore 5, 2) := by decide +kernel
theorem d_L_law_1236 : decode b_L_law 1236 = .ok (.aload_n 2, 1) := by decide +kernel
theorem d_L_law_1237 : decode b_L_law 1237 = .ok (.aload_n 0, 1) := by decide +kernel
theorem d_L_law_1238 : decode b_L_law 1238 = .ok (.iload 4, 2) := by decide +kernel
theorem d_L_law_1240 : decode b_L_law 1240 = .ok (.iconst 1, 1) := by decide +kernel
theorem d_L_law_1241 : decode b_L_law 1241 = .ok (.iadd, 1) := by decide +kernel
theorem d_L_law_1242 : decode b_L_law 1242 = .ok (.iaload, 1) := by decide +kernel
theorem d_L_law_1243 : decode b_L_law 1243 = .ok (.aload_n 0, 1) := by decide +kernel
theorem d_L_law_1244 : decode b_L_law 1244 = .ok (.iload 4, 2) := by decide +kernel
theorem d_L_law_1246 : decode b_L_law 1246 = .ok (.iconst 2, 1) := by decide +kernel
theorem d_L_law_1247 : decode b_L_law 1247 = .ok (.iadd, 1) := by decide +kernel
theorem d_L_law_1248 : decode b_L_law 1248 = .ok (.iaload, 1) := by decide +kernel
theorem d_L_law_1249 : decode b_L_law 1249 = .ok (.aload_n 0, 1) := by decide +kernel
theorem d_L_law_1250 : decode b_L_law 1250 = .ok (.iload 4, 2) := by decide +kernel
theorem d_L_law_1252 : decode b_L_law 1252 = .ok (.iconst 3, 1) := by decide +kernel
theorem d_L_law_1253 : decode b_L_law 1253 = .ok (.iadd, 1) := by decide +kernel
theorem d_L_law_1254 : decode b_L_law 1254 = .ok (.iaload, 1) := by decide +kernel
theorem d_L_law_1255 : decode b_L_law 1255 = .ok (.ifCond .eq 7, 3) := by decide +kernel
theorem d_L_law_1258 : decode b_L_law 1258 = .ok (.iconst 1, 1) := by decide +kernel
theorem d_L_law_1259 : decode b_L_law 1259 = .ok (.goto 4, 3) := by decide +kernel
theorem d_L_law_1262 : decode b_L_law 1262 = .ok (.iconst 0, 1) := by decide +kernel
theorem d_L_law_1263 : decode b_L_law 1263 = .ok (.invokevirtual 143, 3) := by decide +kernel
theorem d_L_law_1266 : decode b_L_law 1266 = .ok (.aload_n 2, 1) := by decide +kernel
theorem d_L_law_1267 : decode b_L_law 1267 = .ok (.invokevirtual 87, 3) := by decide +kernel
theorem d_L_law_1270 : decode b_L_law 1270 = .ok (.iload 5, 2) := by decide +kernel
theorem d_L_law_1272 : decode b_L_law 1272 = .ok (.if_icmp .eq 5, 3) := by decide +kernel
theorem d_L_law_1275 : decode b_L_law 1275 = .ok (.iconst 0, 1) := by decide +kernel
theorem d_L_law_1276 : decode b_L_law 1276 = .ok (.ireturn, 1) := by decide +kernel
theorem d_L_law_1277 : decode b_L_law 1277 = .ok (.goto 84, 3) := by decide +kernel
theorem d_L_law_1280 : decode b_L_law 1280 = .ok (.aload_n 1, 1) := by decide +kernel
theorem d_L_law_1281 : decode b_L_law 1281 = .ok (.aload_n 0, 1) := by decide +kernel
theorem d_L_law_1282 : decode b_L_law 1282 = .ok (.iload 4, 2) := by decide +kernel
theorem d_L_law_1284 : decode b_L_law 1284 = .ok (.iconst 1, 1) := by decide +kernel
theorem d_L_law_1285 : decode b_L_law 1285 = .ok (.iadd, 1) := by decide +kernel
theorem d_L_law_1286 : decode b_L_law 1286 = .ok (.iaload, 1) := by decide +kernel
theorem d_L_law_1287 : decode b_L_law 1287 = .ok (.aload_n 0, 1) := by decide +kernel
theorem d_L_law_1288 : decode b_L_law 1288 = .ok (.iload 4, 2) := by decide +kernel
theorem d_L_law_1290 : decode b_L_law 1290 = .ok (.iconst 2, 1) := by decide +kernel
theorem d_L_law_1291 : decode b_L_law 1291 = .ok (.iadd, 1) := by decide +kernel
theorem d_L_law_1292 : decode b_L_law 1292 = .ok (.iaload, 1) := by decide +kernel
theorem d_L_law_1293 : decode b_L_law 1293 = .ok (.aload_n 3, 1) := by decide +kernel
theorem d_L_law_1294 : decode b_L_law 1294 = .ok (.invokestatic 144, 3) := by decide +kernel
theorem d_L_law_1297 : decode b_L_law 1297 = .ok (.istore 5, 2) := by decide +kernel
theorem d_L_law_1299 : decode b_L_law 1299 = .ok (.aload_n 2, 1) := by decide +kernel
theorem d_L_law_1300 : decode b_L_law 1300 = .ok (.aload_n 0, 1) := by decide +kernel
theorem d_L_law_1301 : decode b_L_law 1301 = .ok (.iload 4, 2) := by decide +kernel
theorem d_L_law_1303 : decode b_L_law 1303 = .ok (.iconst 1, 1) := by decide +kernel
theorem d_L_law_1304 : decode b_L_law 1304 = .ok (.iadd, 1) := by decide +kernel
theorem d_L_law_1305 : decode b_L_law 1305 = .ok (.iaload, 1) := by decide +kernel
theorem d_L_law_1306 : decode b_L_law 1306 = .ok (.aload_n 0, 1) := by decide +kernel
theorem d_L_law_1307 : decode b_L_law 1307 = .ok (.iload 4, 2) := by decide +kernel
theorem d_L_law_1309 : decode b_L_law 1309 = .ok (.iconst 2, 1) := by decide +kernel
theorem d_L_law_1310 : decode b_L_law 1310 = .ok (.iadd, 1) := by decide +kernel
theorem d_L_law_1311 : decode b_L_law 1311 = .ok (.iaload, 1) := by decide +kernel
theorem d_L_law_1312 : decode b_L_law 1312 = .ok (.invokevirtual 146, 3) := by decide +kernel
theorem d_L_law_1315 : decode b_L_law 1315 = .ok (.istore 6, 2) := by decide +kernel
theorem d_L_law_1317 : decode b_L_law 1317 = .ok (.aload_n 2, 1) := by decide +kernel
theorem d_L_law_1318 : decode b_L_law 1318 = .ok (.invokevirtual 87, 3) := by decide +kernel
theorem d_L_law_1321 : decode b_L_law 1321 = .ok (.iload 5, 2) := by decide +kernel
theorem d_L_law_1323 : decode b_L_law 1323 = .ok (.if_icmp .eq 5, 3) := by decide +kernel
theorem d_L_law_1326 : decode b_L_law 1326 = .ok (.iconst 0, 1) := by decide +kernel
theorem d_L_law_1327 : decode b_L_law 1327 = .ok (.ireturn, 1) := by decide +kernel
theorem d_L_law_1328 : decode b_L_law 1328 = .ok (.iload 5, 2) := by decide +kernel
theorem d_L_law_1330 : decode b_L_law 1330 = .ok (.ifCond .ne 15, 3) := by decide +kernel
theorem d_L_law_1333 : decode b_L_law 1333 = .ok (.aload_n 3, 1) := by decide +kernel
theorem d_L_law_1334 : decode b_L_law 1334 = .ok (.iconst 0, 1) := by decide +kernel
theorem d_L_law_1335 : decode b_L_law 1335 = .ok (.laload, 1) := by decide +kernel
theorem d_L_law_1336 : decode b_L_law 1336 = .ok (.iload 6, 2) := by decide +kernel
theorem d_L_law_1338 : decode b_L_law 1338 = .ok (.i2l, 1) := by decide +kernel
theorem d_L_law_1339 : decode b_L_law 1339 = .ok (.lcmp, 1) := by decide +kernel
theorem d_L_law_1340 : decode b_L_law 1340 = .ok (.ifCond .eq 5, 3) := by decide +kernel
theorem d_L_law_1343 : decode b_L_law 1343 = .ok (.iconst 0, 1) := by decide +kernel
theorem d_L_law_1344 : decode b_L_law 1344 = .ok (.ireturn, 1) := by decide +kernel
theorem d_L_law_1345 : decode b_L_law 1345 = .ok (.goto 16, 3) := by decide +kernel
theorem d_L_law_1348 : decode b_L_law 1348 = .ok (.aload_n 1, 1) := by decide +kernel
theorem d_L_law_1349 : decode b_L_law 1349 = .ok (.invokevirtual 147, 3) := by decide +kernel
theorem d_L_law_1352 : decode b_L_law 1352 = .ok (.aload_n 2, 1) := by decide +kernel
theorem d_L_law_1353 : decode b_L_law 1353 = .ok (.invokevirtual 150, 3) := by decide +kernel
theorem d_L_law_1356 : decode b_L_law 1356 = .ok (.if_icmp .eq 5, 3) := by decide +kernel
theorem d_L_law_1359 : decode b_L_law 1359 = .ok (.iconst 0, 1) := by decide +kernel
theorem d_L_law_1360 : decode b_L_law 1360 = .ok (.ireturn, 1) := by decide +kernel
theorem d_L_law_1361 : decode b_L_law 1361 = .ok (.iinc 4 5, 3) := by decide +kernel
theorem d_L_law_1364 : decode b_L_law 1364 = .ok (.goto (-1341), 3) := by decide +kernel
theorem d_L_law_1367 : decode b_L_law 1367 = .ok (.iconst 1, 1) := by decide +kernel
theorem d_L_law_1368 : decode b_L_law 1368 = .ok (.ireturn, 1) := by decide +kernel