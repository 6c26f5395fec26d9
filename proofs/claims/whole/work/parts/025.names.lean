theorem dL_law_1083 : decode cL_law 1083 = .ok (.iload 5, 2) := by decide +kernel
theorem dL_law_1085 : decode cL_law 1085 = .ok (.ifCond .ne 15, 3) := by decide +kernel
theorem dL_law_1088 : decode cL_law 1088 = .ok (.aload_n 3, 1) := by decide +kernel
theorem dL_law_1089 : decode cL_law 1089 = .ok (.iconst 0, 1) := by decide +kernel
theorem dL_law_1090 : decode cL_law 1090 = .ok (.laload, 1) := by decide +kernel
theorem dL_law_1091 : decode cL_law 1091 = .ok (.iload 6, 2) := by decide +kernel
theorem dL_law_1093 : decode cL_law 1093 = .ok (.i2l, 1) := by decide +kernel
theorem dL_law_1094 : decode cL_law 1094 = .ok (.lcmp, 1) := by decide +kernel
theorem dL_law_1095 : decode cL_law 1095 = .ok (.ifCond .eq 5, 3) := by decide +kernel
theorem dL_law_1098 : decode cL_law 1098 = .ok (.iconst 0, 1) := by decide +kernel
theorem dL_law_1099 : decode cL_law 1099 = .ok (.ireturn, 1) := by decide +kernel
theorem dL_law_1100 : decode cL_law 1100 = .ok (.goto 1070, 3) := by decide +kernel
theorem dL_law_1103 : decode cL_law 1103 = .ok (.aload_n 1, 1) := by decide +kernel
theorem dL_law_1104 : decode cL_law 1104 = .ok (.aload_n 0, 1) := by decide +kernel
theorem dL_law_1105 : decode cL_law 1105 = .ok (.iload 4, 2) := by decide +kernel
theorem dL_law_1107 : decode cL_law 1107 = .ok (.iconst 1, 1) := by decide +kernel
theorem dL_law_1108 : decode cL_law 1108 = .ok (.iadd, 1) := by decide +kernel
theorem dL_law_1109 : decode cL_law 1109 = .ok (.iaload, 1) := by decide +kernel
theorem dL_law_1110 : decode cL_law 1110 = .ok (.aload_n 3, 1) := by decide +kernel
theorem dL_law_1111 : decode cL_law 1111 = .ok (.invokestatic 167, 3) := by decide +kernel
theorem dL_law_1114 : decode cL_law 1114 = .ok (.istore 5, 2) := by decide +kernel
theorem dL_law_1116 : decode cL_law 1116 = .ok (.aload_n 2, 1) := by decide +kernel
theorem dL_law_1117 : decode cL_law 1117 = .ok (.aload_n 0, 1) := by decide +kernel
theorem dL_law_1118 : decode cL_law 1118 = .ok (.iload 4, 2) := by decide +kernel
theorem dL_law_1120 : decode cL_law 1120 = .ok (.iconst 1, 1) := by decide +kernel
theorem dL_law_1121 : decode cL_law 1121 = .ok (.iadd, 1) := by decide +kernel
theorem dL_law_1122 : decode cL_law 1122 = .ok (.iaload, 1) := by decide +kernel
theorem dL_law_1123 : decode cL_law 1123 = .ok (.invokevirtual 169, 3) := by decide +kernel
theorem dL_law_1126 : decode cL_law 1126 = .ok (.istore 6, 2) := by decide +kernel
theorem dL_law_1128 : decode cL_law 1128 = .ok (.aload_n 2, 1) := by decide +kernel
theorem dL_law_1129 : decode cL_law 1129 = .ok (.invokevirtual 114, 3) := by decide +kernel
theorem dL_law_1132 : decode cL_law 1132 = .ok (.iload 5, 2) := by decide +kernel
theorem dL_law_1134 : decode cL_law 1134 = .ok (.if_icmp .eq 5, 3) := by decide +kernel
theorem dL_law_1137 : decode cL_law 1137 = .ok (.iconst 0, 1) := by decide +kernel
theorem dL_law_1138 : decode cL_law 1138 = .ok (.ireturn, 1) := by decide +kernel
theorem dL_law_1139 : decode cL_law 1139 = .ok (.iload 5, 2) := by decide +kernel
theorem dL_law_1141 : decode cL_law 1141 = .ok (.ifCond .ne 15, 3) := by decide +kernel
theorem dL_law_1144 : decode cL_law 1144 = .ok (.aload_n 3, 1) := by decide +kernel
theorem dL_law_1145 : decode cL_law 1145 = .ok (.iconst 0, 1) := by decide +kernel
theorem dL_law_1146 : decode cL_law 1146 = .ok (.laload, 1) := by decide +kernel
theorem dL_law_1147 : decode cL_law 1147 = .ok (.iload 6, 2) := by decide +kernel
theorem dL_law_1149 : decode cL_law 1149 = .ok (.i2l, 1) := by decide +kernel
theorem dL_law_1150 : decode cL_law 1150 = .ok (.lcmp, 1) := by decide +kernel
theorem dL_law_1151 : decode cL_law 1151 = .ok (.ifCond .eq 5, 3) := by decide +kernel
theorem dL_law_1154 : decode cL_law 1154 = .ok (.iconst 0, 1) := by decide +kernel
theorem dL_law_1155 : decode cL_law 1155 = .ok (.ireturn, 1) := by decide +kernel
theorem dL_law_1156 : decode cL_law 1156 = .ok (.goto 1014, 3) := by decide +kernel
theorem dL_law_1159 : decode cL_law 1159 = .ok (.aload_n 1, 1) := by decide +kernel
theorem dL_law_1160 : decode cL_law 1160 = .ok (.aload_n 0, 1) := by decide +kernel
theorem dL_law_1161 : decode cL_law 1161 = .ok (.iload 4, 2) := by decide +kernel
theorem dL_law_1163 : decode cL_law 1163 = .ok (.iconst 1, 1) := by decide +kernel
theorem dL_law_1164 : decode cL_law 1164 = .ok (.iadd, 1) := by decide +kernel
theorem dL_law_1165 : decode cL_law 1165 = .ok (.iaload, 1) := by decide +kernel
theorem dL_law_1166 : decode cL_law 1166 = .ok (.aload_n 3, 1) := by decide +kernel
theorem dL_law_1167 : decode cL_law 1167 = .ok (.invokestatic 170, 3) := by decide +kernel
theorem dL_law_1170 : decode cL_law 1170 = .ok (.istore 5, 2) := by decide +kernel
theorem dL_law_1172 : decode cL_law 1172 = .ok (.aload_n 2, 1) := by decide +kernel
theorem dL_law_1173 : decode cL_law 1173 = .ok (.aload_n 0, 1) := by decide +kernel
theorem dL_law_1174 : decode cL_law 1174 = .ok (.iload 4, 2) := by decide +kernel
theorem dL_law_1176 : decode cL_law 1176 = .ok (.iconst 1, 1) := by decide +kernel
theorem dL_law_1177 : decode cL_law 1177 = .ok (.iadd, 1) := by decide +kernel
theorem dL_law_1178 : decode cL_law 1178 = .ok (.iaload, 1) := by decide +kernel
theorem dL_law_1179 : decode cL_law 1179 = .ok (.invokevirtual 172, 3) := by decide +kernel
theorem dL_law_1182 : decode cL_law 1182 = .ok (.istore 6, 2) := by decide +kernel
theorem dL_law_1184 : decode cL_law 1184 = .ok (.aload_n 2, 1) := by decide +kernel
theorem dL_law_1185 : decode cL_law 1185 = .ok (.invokevirtual 114, 3) := by decide +kernel
theorem dL_law_1188 : decode cL_law 1188 = .ok (.iload 5, 2) := by decide +kernel
theorem dL_law_1190 : decode cL_law 1190 = .ok (.if_icmp .eq 5, 3) := by decide +kernel
theorem dL_law_1193 : decode cL_law 1193 = .ok (.iconst 0, 1) := by decide +kernel
theorem dL_law_1194 : decode cL_law 1194 = .ok (.ireturn, 1) := by decide +kernel
theorem dL_law_1195 : decode cL_law 1195 = .ok (.iload 5, 2) := by decide +kernel
theorem dL_law_1197 : decode cL_law 1197 = .ok (.ifCond .ne 15, 3) := by decide +kernel
theorem dL_law_1200 : decode cL_law 1200 = .ok (.aload_n 3, 1) := by decide +kernel
theorem dL_law_1201 : decode cL_law 1201 = .ok (.iconst 0, 1) := by decide +kernel
theorem dL_law_1202 : decode cL_law 1202 = .ok (.laload, 1) := by decide +kernel
theorem dL_law_1203 : decode cL_law 1203 = .ok (.iload 6, 2) := by decide +kernel
theorem dL_law_1205 : decode cL_law 1205 = .ok (.i2l, 1) := by decide +kernel
theorem dL_law_1206 : decode cL_law 1206 = .ok (.lcmp, 1) := by decide +kernel
theorem dL_law_1207 : decode cL_law 1207 = .ok (.ifCond .eq 5, 3) := by decide +kernel
theorem dL_law_1210 : decode cL_law 1210 = .ok (.iconst 0, 1) := by decide +kernel
theorem dL_law_1211 : decode cL_law 1211 = .ok (.ireturn, 1) := by decide +kernel
theorem dL_law_1212 : decode cL_law 1212 = .ok (.goto 958, 3) := by decide +kernel
theorem dL_law_1215 : decode cL_law 1215 = .ok (.aload_n 1, 1) := by decide +kernel
theorem dL_law_1216 : decode cL_law 1216 = .ok (.aload_n 0, 1) := by decide +kernel
theorem dL_law_1217 : decode cL_law 1217 = .ok (.iload 4, 2) := by decide +kernel
theorem dL_law_1219 : decode cL_law 1219 = .ok (.iconst 1, 1) := by decide +kernel
theorem dL_law_1220 : decode cL_law 1220 = .ok (.iadd, 1) := by decide +kernel
theorem dL_law_1221 : decode cL_law 1221 = .ok (.iaload, 1) := by decide +kernel
theorem dL_law_1222 : decode cL_law 1222 = .ok (.aload_n 3, 1) := by decide +kernel
theorem dL_law_1223 : decode cL_law 1223 = .ok (.invokestatic 173, 3) := by decide +kernel
theorem dL_law_1226 : decode cL_law 1226 = .ok (.istore 5, 2) := by decide +kernel
theorem dL_law_1228 : decode cL_law 1228 = .ok (.aload_n 2, 1) := by decide +kernel
theorem dL_law_1229 : decode cL_law 1229 = .ok (.aload_n 0, 1) := by decide +kernel
theorem dL_law_1230 : decode cL_law 1230 = .ok (.iload 4, 2) := by decide +kernel
theorem dL_law_1232 : decode cL_law 1232 = .ok (.iconst 1, 1) := by decide +kernel
theorem dL_law_1233 : decode cL_law 1233 = .ok (.iadd, 1) := by decide +kernel
theorem dL_law_1234 : decode cL_law 1234 = .ok (.iaload, 1) := by decide +kernel
theorem dL_law_1235 : decode cL_law 1235 = .ok (.invokevirtual 175, 3) := by decide +kernel
theorem dL_law_1238 : decode cL_law 1238 = .ok (.istore 6, 2) := by decide +kernel
theorem dL_law_1240 : decode cL_law 1240 = .ok (.aload_n 2, 1) := by decide +kernel
theorem dL_law_1241 : decode cL_law 1241 = .ok (.invokevirtual 114, 3) := by decide +kernel
theorem dL_law_1244 : decode cL_law 1244 = .ok (.iload 5, 2) := by decide +kernel
theorem dL_law_1246 : decode cL_law 1246 = .ok (.if_icmp .eq 5, 3) := by decide +kernel
theorem dL_law_1249 : decode cL_law 1249 = .ok (.iconst 0, 1) := by decide +kernel
theorem dL_law_1250 : decode cL_law 1250 = .ok (.ireturn, 1) := by decide +kernel
theorem dL_law_1251 : decode cL_law 1251 = .ok (.iload 5, 2) := by decide +kernel
theorem dL_law_1253 : decode cL_law 1253 = .ok (.ifCond .ne 15, 3) := by decide +kernel
theorem dL_law_1256 : decode cL_law 1256 = .ok (.aload_n 3, 1) := by decide +kernel
theorem dL_law_1257 : decode cL_law 1257 = .ok (.iconst 0, 1) := by decide +kernel
theorem dL_law_1258 : decode cL_law 1258 = .ok (.laload, 1) := by decide +kernel
theorem dL_law_1259 : decode cL_law 1259 = .ok (.iload 6, 2) := by decide +kernel
theorem dL_law_1261 : decode cL_law 1261 = .ok (.i2l, 1) := by decide +kernel
theorem dL_law_1262 : decode cL_law 1262 = .ok (.lcmp, 1) := by decide +kernel
theorem dL_law_1263 : decode cL_law 1263 = .ok (.ifCond .eq 5, 3) := by decide +kernel
theorem dL_law_1266 : decode cL_law 1266 = .ok (.iconst 0, 1) := by decide +kernel
theorem dL_law_1267 : decode cL_law 1267 = .ok (.ireturn, 1) := by decide +kernel
theorem dL_law_1268 : decode cL_law 1268 = .ok (.goto 902, 3) := by decide +kernel
theorem dL_law_1271 : decode cL_law 1271 = .ok (.aload_n 1, 1) := by decide +kernel
theorem dL_law_1272 : decode cL_law 1272 = .ok (.invokevirtual 176, 3) := by decide +kernel
theorem dL_law_1275 : decode cL_law 1275 = .ok (.aload_n 2, 1) := by decide +kernel
theorem dL_law_1276 : decode cL_law 1276 = .ok (.invokevirtual 179, 3) := by decide +kernel
theorem dL_law_1279 : decode cL_law 1279 = .ok (.if_icmp .eq 891, 3) := by decide +kernel
theorem dL_law_1282 : decode cL_law 1282 = .ok (.iconst 0, 1) := by decide +kernel
theorem dL_law_1283 : decode cL_law 1283 = .ok (.ireturn, 1) := by decide +kernel
theorem dL_law_1284 : decode cL_law 1284 = .ok (.aload_n 1, 1) := by decide +kernel
theorem dL_law_1285 : decode cL_law 1285 = .ok (.aload_n 0, 1) := by decide +kernel
theorem dL_law_1286 : decode cL_law 1286 = .ok (.iload 4, 2) := by decide +kernel
theorem dL_law_1288 : decode cL_law 1288 = .ok (.iconst 1, 1) := by decide +kernel
theorem dL_law_1289 : decode cL_law 1289 = .ok (.iadd, 1) := by decide +kernel
theorem dL_law_1290 : decode cL_law 1290 = .ok (.iaload, 1) := by decide +kernel
theorem dL_law_1291 : decode cL_law 1291 = .ok (.aload_n 3, 1) := by decide +kernel
theorem dL_law_1292 : decode cL_law 1292 = .ok (.invokestatic 180, 3) := by decide +kernel
theorem dL_law_1295 : decode cL_law 1295 = .ok (.istore 5, 2) := by decide +kernel
theorem dL_law_1297 : decode cL_law 1297 = .ok (.aload_n 2, 1) := by decide +kernel
theorem dL_law_1298 : decode cL_law 1298 = .ok (.aload_n 0, 1) := by decide +kernel
theorem dL_law_1299 : decode cL_law 1299 = .ok (.iload 4, 2) := by decide +kernel
theorem dL_law_1301 : decode cL_law 1301 = .ok (.iconst 1, 1) := by decide +kernel
theorem dL_law_1302 : decode cL_law 1302 = .ok (.iadd, 1) := by decide +kernel
theorem dL_law_1303 : decode cL_law 1303 = .ok (.iaload, 1) := by decide +kernel
theorem dL_law_1304 : decode cL_law 1304 = .ok (.invokevirtual 182, 3) := by decide +kernel
theorem dL_law_1307 : decode cL_law 1307 = .ok (.istore 6, 2) := by decide +kernel
theorem dL_law_1309 : decode cL_law 1309 = .ok (.aload_n 2, 1) := by decide +kernel
theorem dL_law_1310 : decode cL_law 1310 = .ok (.invokevirtual 114, 3) := by decide +kernel
theorem dL_law_1313 : decode cL_law 1313 = .ok (.iload 5, 2) := by decide +kernel
theorem dL_law_1315 : decode cL_law 1315 = .ok (.if_icmp .eq 5, 3) := by decide +kernel
theorem dL_law_1318 : decode cL_law 1318 = .ok (.iconst 0, 1) := by decide +kernel
theorem dL_law_1319 : decode cL_law 1319 = .ok (.ireturn, 1) := by decide +kernel
theorem dL_law_1320 : decode cL_law 1320 = .ok (.iload 5, 2) := by decide +kernel
theorem dL_law_1322 : decode cL_law 1322 = .ok (.ifCond .ne 15, 3) := by decide +kernel
theorem dL_law_1325 : decode cL_law 1325 = .ok (.aload_n 3, 1) := by decide +kernel
theorem dL_law_1326 : decode cL_law 1326 = .ok (.iconst 0, 1) := by decide +kernel
theorem dL_law_1327 : decode cL_law 1327 = .ok (.laload, 1) := by decide +kernel
theorem dL_law_1328 : decode cL_law 1328 = .ok (.iload 6, 2) := by decide +kernel
theorem dL_law_1330 : decode cL_law 1330 = .ok (.i2l, 1) := by decide +kernel
theorem dL_law_1331 : decode cL_law 1331 = .ok (.lcmp, 1) := by decide +kernel
theorem dL_law_1332 : decode cL_law 1332 = .ok (.ifCond .eq 5, 3) := by decide +kernel
theorem dL_law_1335 : decode cL_law 1335 = .ok (.iconst 0, 1) := by decide +kernel
theorem dL_law_1336 : decode cL_law 1336 = .ok (.ireturn, 1) := by decide +kernel
theorem dL_law_1337 : decode cL_law 1337 = .ok (.goto 833, 3) := by decide +kernel
theorem dL_law_1340 : decode cL_law 1340 = .ok (.aload_n 1, 1) := by decide +kernel
theorem dL_law_1341 : decode cL_law 1341 = .ok (.aload_n 0, 1) := by decide +kernel
theorem dL_law_1342 : decode cL_law 1342 = .ok (.iload 4, 2) := by decide +kernel
theorem dL_law_1344 : decode cL_law 1344 = .ok (.iconst 1, 1) := by decide +kernel
theorem dL_law_1345 : decode cL_law 1345 = .ok (.iadd, 1) := by decide +kernel
theorem dL_law_1346 : decode cL_law 1346 = .ok (.iaload, 1) := by decide +kernel
theorem dL_law_1347 : decode cL_law 1347 = .ok (.aload_n 3, 1) := by decide +kernel
theorem dL_law_1348 : decode cL_law 1348 = .ok (.invokestatic 183, 3) := by decide +kernel
theorem dL_law_1351 : decode cL_law 1351 = .ok (.istore 5, 2) := by decide +kernel
theorem dL_law_1353 : decode cL_law 1353 = .ok (.aload_n 2, 1) := by decide +kernel
theorem dL_law_1354 : decode cL_law 1354 = .ok (.aload_n 0, 1) := by decide +kernel
theorem dL_law_1355 : decode cL_law 1355 = .ok (.iload 4, 2) := by decide +kernel
theorem dL_law_1357 : decode cL_law 1357 = .ok (.iconst 1, 1) := by decide +kernel
theorem dL_law_1358 : decode cL_law 1358 = .ok (.iadd, 1) := by decide +kernel
theorem dL_law_1359 : decode cL_law 1359 = .ok (.iaload, 1) := by decide +kernel
theorem dL_law_1360 : decode cL_law 1360 = .ok (.invokevirtual 185, 3) := by decide +kernel
theorem dL_law_1363 : decode cL_law 1363 = .ok (.istore 6, 2) := by decide +kernel
theorem dL_law_1365 : decode cL_law 1365 = .ok (.aload_n 2, 1) := by decide +kernel
theorem dL_law_1366 : decode cL_law 1366 = .ok (.invokevirtual 114, 3) := by decide +kernel
theorem dL_law_1369 : decode cL_law 1369 = .ok (.iload 5, 2) := by decide +kernel
theorem dL_law_1371 : decode cL_law 1371 = .ok (.if_icmp .eq 5, 3) := by decide +kernel
theorem dL_law_1374 : decode cL_law 1374 = .ok (.iconst 0, 1) := by decide +kernel
theorem dL_law_1375 : decode cL_law 1375 = .ok (.ireturn, 1) := by decide +kernel
theorem dL_law_1376 : decode cL_law 1376 = .ok (.iload 5, 2) := by decide +kernel
theorem dL_law_1378 : decode cL_law 1378 = .ok (.ifCond .ne 15, 3) := by decide +kernel
theorem dL_law_1381 : decode cL_law 1381 = .ok (.aload_n 3, 1) := by decide +kernel
theorem dL_law_1382 : decode cL_law 1382 = .ok (.iconst 0, 1) := by decide +kernel
theorem dL_law_1383 : decode cL_law 1383 = .ok (.laload, 1) := by decide +kernel
theorem dL_law_1384 : decode cL_law 1384 = .ok (.iload 6, 2) := by decide +kernel
theorem dL_law_1386 : decode cL_law 1386 = .ok (.i2l, 1) := by decide +kernel
theorem dL_law_1387 : decode cL_law 1387 = .ok (.lcmp, 1) := by decide +kernel
theorem dL_law_1388 : decode cL_law 1388 = .ok (.ifCond .eq 5, 3) := by decide +kernel
theorem dL_law_1391 : decode cL_law 1391 = .ok (.iconst 0, 1) := by decide +kernel
theorem dL_law_1392 : decode cL_law 1392 = .ok (.ireturn, 1) := by decide +kernel
theorem dL_law_1393 : decode cL_law 1393 = .ok (.goto 777, 3) := by decide +kernel
theorem dL_law_1396 : decode cL_law 1396 = .ok (.aload_n 1, 1) := by decide +kernel
theorem dL_law_1397 : decode cL_law 1397 = .ok (.invokevirtual 186, 3) := by decide +kernel
theorem dL_law_1400 : decode cL_law 1400 = .ok (.aload_n 2, 1) := by decide +kernel
theorem dL_law_1401 : decode cL_law 1401 = .ok (.invokevirtual 189, 3) := by decide +kernel
theorem dL_law_1404 : decode cL_law 1404 = .ok (.if_icmp .eq 766, 3) := by decide +kernel
theorem dL_law_1407 : decode cL_law 1407 = .ok (.iconst 0, 1) := by decide +kernel
theorem dL_law_1408 : decode cL_law 1408 = .ok (.ireturn, 1) := by decide +kernel
theorem dL_law_1409 : decode cL_law 1409 = .ok (.aload_n 1, 1) := by decide +kernel
theorem dL_law_1410 : decode cL_law 1410 = .ok (.invokevirtual 190, 3) := by decide +kernel
theorem dL_law_1413 : decode cL_law 1413 = .ok (.aload_n 2, 1) := by decide +kernel
theorem dL_law_1414 : decode cL_law 1414 = .ok (.invokevirtual 193, 3) := by decide +kernel
theorem dL_law_1417 : decode cL_law 1417 = .ok (.if_icmp .eq 753, 3) := by decide +kernel
theorem dL_law_1420 : decode cL_law 1420 = .ok (.iconst 0, 1) := by decide +kernel
theorem dL_law_1421 : decode cL_law 1421 = .ok (.ireturn, 1) := by decide +kernel
theorem dL_law_1422 : decode cL_law 1422 = .ok (.aload_n 1, 1) := by decide +kernel
theorem dL_law_1423 : decode cL_law 1423 = .ok (.aload_n 0, 1) := by decide +kernel
theorem dL_law_1424 : decode cL_law 1424 = .ok (.iload 4, 2) := by decide +kernel
theorem dL_law_1426 : decode cL_law 1426 = .ok (.iconst 1, 1) := by decide +kernel
theorem dL_law_1427 : decode cL_law 1427 = .ok (.iadd, 1) := by decide +kernel
theorem dL_law_1428 : decode cL_law 1428 = .ok (.iaload, 1) := by decide +kernel
theorem dL_law_1429 : decode cL_law 1429 = .ok (.aload_n 3, 1) := by decide +kernel
theorem dL_law_1430 : decode cL_law 1430 = .ok (.invokestatic 194, 3) := by decide +kernel
theorem dL_law_1433 : decode cL_law 1433 = .ok (.istore 5, 2) := by decide +kernel
theorem dL_law_1435 : decode cL_law 1435 = .ok (.aload_n 2, 1) := by decide +kernel
theorem dL_law_1436 : decode cL_law 1436 = .ok (.aload_n 0, 1) := by decide +kernel
theorem dL_law_1437 : decode cL_law 1437 = .ok (.iload 4, 2) := by decide +kernel
theorem dL_law_1439 : decode cL_law 1439 = .ok (.iconst 1, 1) := by decide +kernel
theorem dL_law_1440 : decode cL_law 1440 = .ok (.iadd, 1) := by decide +kernel
theorem dL_law_1441 : decode cL_law 1441 = .ok (.iaload, 1) := by decide +kernel
theorem dL_law_1442 : decode cL_law 1442 = .ok (.invokevirtual 196, 3) := by decide +kernel
theorem dL_law_1445 : decode cL_law 1445 = .ok (.istore 6, 2) := by decide +kernel
theorem dL_law_1447 : decode cL_law 1447 = .ok (.aload_n 2, 1) := by decide +kernel
theorem dL_law_1448 : decode cL_law 1448 = .ok (.invokevirtual 114, 3) := by decide +kernel
theorem dL_law_1451 : decode cL_law 1451 = .ok (.iload 5, 2) := by decide +kernel
theorem dL_law_1453 : decode cL_law 1453 = .ok (.if_icmp .eq 5, 3) := by decide +kernel
theorem dL_law_1456 : decode cL_law 1456 = .ok (.iconst 0, 1) := by decide +kernel
theorem dL_law_1457 : decode cL_law 1457 = .ok (.ireturn, 1) := by decide +kernel
theorem dL_law_1458 : decode cL_law 1458 = .ok (.iload 5, 2) := by decide +kernel
theorem dL_law_1460 : decode cL_law 1460 = .ok (.ifCond .ne 15, 3) := by decide +kernel
theorem dL_law_1463 : decode cL_law 1463 = .ok (.aload_n 3, 1) := by decide +kernel
theorem dL_law_1464 : decode cL_law 1464 = .ok (.iconst 0, 1) := by decide +kernel
theorem dL_law_1465 : decode cL_law 1465 = .ok (.laload, 1) := by decide +kernel
theorem dL_law_1466 : decode cL_law 1466 = .ok (.iload 6, 2) := by decide +kernel
theorem dL_law_1468 : decode cL_law 1468 = .ok (.i2l, 1) := by decide +kernel
theorem dL_law_1469 : decode cL_law 1469 = .ok (.lcmp, 1) := by decide +kernel
theorem dL_law_1470 : decode cL_law 1470 = .ok (.ifCond .eq 5, 3) := by decide +kernel
theorem dL_law_1473 : decode cL_law 1473 = .ok (.iconst 0, 1) := by decide +kernel
theorem dL_law_1474 : decode cL_law 1474 = .ok (.ireturn, 1) := by decide +kernel
theorem dL_law_1475 : decode cL_law 1475 = .ok (.goto 695, 3) := by decide +kernel
theorem dL_law_1478 : decode cL_law 1478 = .ok (.aload_n 1, 1) := by decide +kernel
theorem dL_law_1479 : decode cL_law 1479 = .ok (.aload_n 0, 1) := by decide +kernel
theorem dL_law_1480 : decode cL_law 1480 = .ok (.iload 4, 2) := by decide +kernel
theorem dL_law_1482 : decode cL_law 1482 = .ok (.iconst 1, 1) := by decide +kernel
theorem dL_law_1483 : decode cL_law 1483 = .ok (.iadd, 1) := by decide +kernel
theorem dL_law_1484 : decode cL_law 1484 = .ok (.iaload, 1) := by decide +kernel
theorem dL_law_1485 : decode cL_law 1485 = .ok (.aload_n 0, 1) := by decide +kernel
theorem dL_law_1486 : decode cL_law 1486 = .ok (.iload 4, 2) := by decide +kernel
theorem dL_law_1488 : decode cL_law 1488 = .ok (.iconst 2, 1) := by decide +kernel
theorem dL_law_1489 : decode cL_law 1489 = .ok (.iadd, 1) := by decide +kernel
theorem dL_law_1490 : decode cL_law 1490 = .ok (.iaload, 1) := by decide +kernel
theorem dL_law_1491 : decode cL_law 1491 = .ok (.aload_n 3, 1) := by decide +kernel
theorem dL_law_1492 : decode cL_law 1492 = .ok (.invokestatic 197, 3) := by decide +kernel
theorem dL_law_1495 : decode cL_law 1495 = .ok (.istore 5, 2) := by decide +kernel
theorem dL_law_1497 : decode cL_law 1497 = .ok (.aload_n 2, 1) := by decide +kernel
theorem dL_law_1498 : decode cL_law 1498 = .ok (.aload_n 0, 1) := by decide +kernel
theorem dL_law_1499 : decode cL_law 1499 = .ok (.iload 4, 2) := by decide +kernel
theorem dL_law_1501 : decode cL_law 1501 = .ok (.iconst 1, 1) := by decide +kernel
theorem dL_law_1502 : decode cL_law 1502 = .ok (.iadd, 1) := by decide +kernel
theorem dL_law_1503 : decode cL_law 1503 = .ok (.iaload, 1) := by decide +kernel
theorem dL_law_1504 : decode cL_law 1504 = .ok (.aload_n 0, 1) := by decide +kernel
theorem dL_law_1505 : decode cL_law 1505 = .ok (.iload 4, 2) := by decide +kernel
theorem dL_law_1507 : decode cL_law 1507 = .ok (.iconst 2, 1) := by decide +kernel
theorem dL_law_1508 : decode cL_law 1508 = .ok (.iadd, 1) := by decide +kernel
theorem dL_law_1509 : decode cL_law 1509 = .ok (.iaload, 1) := by decide +kernel
theorem dL_law_1510 : decode cL_law 1510 = .ok (.invokevirtual 199, 3) := by decide +kernel
theorem dL_law_1513 : decode cL_law 1513 = .ok (.istore 6, 2) := by decide +kernel
theorem dL_law_1515 : decode cL_law 1515 = .ok (.aload_n 2, 1) := by decide +kernel
theorem dL_law_1516 : decode cL_law 1516 = .ok (.invokevirtual 114, 3) := by decide +kernel
theorem dL_law_1519 : decode cL_law 1519 = .ok (.iload 5, 2) := by decide +kernel
theorem dL_law_1521 : decode cL_law 1521 = .ok (.if_icmp .eq 5, 3) := by decide +kernel
theorem dL_law_1524 : decode cL_law 1524 = .ok (.iconst 0, 1) := by decide +kernel
theorem dL_law_1525 : decode cL_law 1525 = .ok (.ireturn, 1) := by decide +kernel
theorem dL_law_1526 : decode cL_law 1526 = .ok (.iload 5, 2) := by decide +kernel
theorem dL_law_1528 : decode cL_law 1528 = .ok (.ifCond .ne 15, 3) := by decide +kernel
theorem dL_law_1531 : decode cL_law 1531 = .ok (.aload_n 3, 1) := by decide +kernel
theorem dL_law_1532 : decode cL_law 1532 = .ok (.iconst 0, 1) := by decide +kernel
theorem dL_law_1533 : decode cL_law 1533 = .ok (.laload, 1) := by decide +kernel
theorem dL_law_1534 : decode cL_law 1534 = .ok (.iload 6, 2) := by decide +kernel
theorem dL_law_1536 : decode cL_law 1536 = .ok (.i2l, 1) := by decide +kernel
theorem dL_law_1537 : decode cL_law 1537 = .ok (.lcmp, 1) := by decide +kernel
theorem dL_law_1538 : decode cL_law 1538 = .ok (.ifCond .eq 5, 3) := by decide +kernel
theorem dL_law_1541 : decode cL_law 1541 = .ok (.iconst 0, 1) := by decide +kernel
theorem dL_law_1542 : decode cL_law 1542 = .ok (.ireturn, 1) := by decide +kernel
theorem dL_law_1543 : decode cL_law 1543 = .ok (.goto 627, 3) := by decide +kernel
theorem dL_law_1546 : decode cL_law 1546 = .ok (.aload_n 1, 1) := by decide +kernel
theorem dL_law_1547 : decode cL_law 1547 = .ok (.invokevirtual 200, 3) := by decide +kernel
theorem dL_law_1550 : decode cL_law 1550 = .ok (.aload_n 2, 1) := by decide +kernel
theorem dL_law_1551 : decode cL_law 1551 = .ok (.invokevirtual 203, 3) := by decide +kernel
theorem dL_law_1554 : decode cL_law 1554 = .ok (.if_icmp .eq 616, 3) := by decide +kernel
theorem dL_law_1557 : decode cL_law 1557 = .ok (.iconst 0, 1) := by decide +kernel
theorem dL_law_1558 : decode cL_law 1558 = .ok (.ireturn, 1) := by decide +kernel
theorem dL_law_1559 : decode cL_law 1559 = .ok (.aload_n 1, 1) := by decide +kernel
theorem dL_law_1560 : decode cL_law 1560 = .ok (.aload_n 0, 1) := by decide +kernel
theorem dL_law_1561 : decode cL_law 1561 = .ok (.iload 4, 2) := by decide +kernel
theorem dL_law_1563 : decode cL_law 1563 = .ok (.iconst 1, 1) := by decide +kernel
theorem dL_law_1564 : decode cL_law 1564 = .ok (.iadd, 1) := by decide +kernel
theorem dL_law_1565 : decode cL_law 1565 = .ok (.iaload, 1) := by decide +kernel
theorem dL_law_1566 : decode cL_law 1566 = .ok (.aload_n 3, 1) := by decide +kernel
theorem dL_law_1567 : decode cL_law 1567 = .ok (.invokestatic 204, 3) := by decide +kernel
theorem dL_law_1570 : decode cL_law 1570 = .ok (.istore 5, 2) := by decide +kernel
theorem dL_law_1572 : decode cL_law 1572 = .ok (.aload_n 2, 1) := by decide +kernel
theorem dL_law_1573 : decode cL_law 1573 = .ok (.aload_n 0, 1) := by decide +kernel
theorem dL_law_1574 : decode cL_law 1574 = .ok (.iload 4, 2) := by decide +kernel
theorem dL_law_1576 : decode cL_law 1576 = .ok (.iconst 1, 1) := by decide +kernel
theorem dL_law_1577 : decode cL_law 1577 = .ok (.iadd, 1) := by decide +kernel
theorem dL_law_1578 : decode cL_law 1578 = .ok (.iaload, 1) := by decide +kernel
theorem dL_law_1579 : decode cL_law 1579 = .ok (.invokevirtual 206, 3) := by decide +kernel
theorem dL_law_1582 : decode cL_law 1582 = .ok (.istore 6, 2) := by decide +kernel
theorem dL_law_1584 : decode cL_law 1584 = .ok (.aload_n 2, 1) := by decide +kernel
theorem dL_law_1585 : decode cL_law 1585 = .ok (.invokevirtual 114, 3) := by decide +kernel
theorem dL_law_1588 : decode cL_law 1588 = .ok (.iload 5, 2) := by decide +kernel
theorem dL_law_1590 : decode cL_law 1590 = .ok (.if_icmp .eq 5, 3) := by decide +kernel
theorem dL_law_1593 : decode cL_law 1593 = .ok (.iconst 0, 1) := by decide +kernel
theorem dL_law_1594 : decode cL_law 1594 = .ok (.ireturn, 1) := by decide +kernel
theorem dL_law_1595 : decode cL_law 1595 = .ok (.iload 5, 2) := by decide +kernel
theorem dL_law_1597 : decode cL_law 1597 = .ok (.ifCond .ne 15, 3) := by decide +kernel
theorem dL_law_1600 : decode cL_law 1600 = .ok (.aload_n 3, 1) := by decide +kernel
theorem dL_law_1601 : decode cL_law 1601 = .ok (.iconst 0, 1) := by decide +kernel
theorem dL_law_1602 : decode cL_law 1602 = .ok (.laload, 1) := by decide +kernel
theorem dL_law_1603 : decode cL_law 1603 = .ok (.iload 6, 2) := by decide +kernel
theorem dL_law_1605 : decode cL_law 1605 = .ok (.i2l, 1) := by decide +kernel
theorem dL_law_1606 : decode cL_law 1606 = .ok (.lcmp, 1) := by decide +kernel
theorem dL_law_1607 : decode cL_law 1607 = .ok (.ifCond .eq 5, 3) := by decide +kernel
theorem dL_law_1610 : decode cL_law 1610 = .ok (.iconst 0, 1) := by decide +kernel
theorem dL_law_1611 : decode cL_law 1611 = .ok (.ireturn, 1) := by decide +kernel
theorem dL_law_1612 : decode cL_law 1612 = .ok (.goto 558, 3) := by decide +kernel
theorem dL_law_1615 : decode cL_law 1615 = .ok (.aload_n 1, 1) := by decide +kernel
theorem dL_law_1616 : decode cL_law 1616 = .ok (.aload_n 0, 1) := by decide +kernel
theorem dL_law_1617 : decode cL_law 1617 = .ok (.iload 4, 2) := by decide +kernel
theorem dL_law_1619 : decode cL_law 1619 = .ok (.iconst 1, 1) := by decide +kernel
theorem dL_law_1620 : decode cL_law 1620 = .ok (.iadd, 1) := by decide +kernel
theorem dL_law_1621 : decode cL_law 1621 = .ok (.iaload, 1) := by decide +kernel
theorem dL_law_1622 : decode cL_law 1622 = .ok (.aload_n 3, 1) := by decide +kernel
theorem dL_law_1623 : decode cL_law 1623 = .ok (.invokestatic 207, 3) := by decide +kernel
theorem dL_law_1626 : decode cL_law 1626 = .ok (.istore 5, 2) := by decide +kernel
theorem dL_law_1628 : decode cL_law 1628 = .ok (.aload_n 2, 1) := by decide +kernel
theorem dL_law_1629 : decode cL_law 1629 = .ok (.aload_n 0, 1) := by decide +kernel
theorem dL_law_1630 : decode cL_law 1630 = .ok (.iload 4, 2) := by decide +kernel
theorem dL_law_1632 : decode cL_law 1632 = .ok (.iconst 1, 1) := by decide +kernel
theorem dL_law_1633 : decode cL_law 1633 = .ok (.iadd, 1) := by decide +kernel
theorem dL_law_1634 : decode cL_law 1634 = .ok (.iaload, 1) := by decide +kernel
theorem dL_law_1635 : decode cL_law 1635 = .ok (.invokevirtual 209, 3) := by decide +kernel
theorem dL_law_1638 : decode cL_law 1638 = .ok (.istore 6, 2) := by decide +kernel
theorem dL_law_1640 : decode cL_law 1640 = .ok (.aload_n 2, 1) := by decide +kernel
theorem dL_law_1641 : decode cL_law 1641 = .ok (.invokevirtual 114, 3) := by decide +kernel
theorem dL_law_1644 : decode cL_law 1644 = .ok (.iload 5, 2) := by decide +kernel
theorem dL_law_1646 : decode cL_law 1646 = .ok (.if_icmp .eq 5, 3) := by decide +kernel
theorem dL_law_1649 : decode cL_law 1649 = .ok (.iconst 0, 1) := by decide +kernel
theorem dL_law_1650 : decode cL_law 1650 = .ok (.ireturn, 1) := by decide +kernel
theorem dL_law_1651 : decode cL_law 1651 = .ok (.iload 5, 2) := by decide +kernel
theorem dL_law_1653 : decode cL_law 1653 = .ok (.ifCond .ne 15, 3) := by decide +kernel
theorem dL_law_1656 : decode cL_law 1656 = .ok (.aload_n 3, 1) := by decide +kernel
theorem dL_law_1657 : decode cL_law 1657 = .ok (.iconst 0, 1) := by decide +kernel
theorem dL_law_1658 : decode cL_law 1658 = .ok (.laload, 1) := by decide +kernel
theorem dL_law_1659 : decode cL_law 1659 = .ok (.iload 6, 2) := by decide +kernel
theorem dL_law_1661 : decode cL_law 1661 = .ok (.i2l, 1) := by decide +kernel
theorem dL_law_1662 : decode cL_law 1662 = .ok (.lcmp, 1) := by decide +kernel
theorem dL_law_1663 : decode cL_law 1663 = .ok (.ifCond .eq 5, 3) := by decide +kernel
theorem dL_law_1666 : decode cL_law 1666 = .ok (.iconst 0, 1) := by decide +kernel
theorem dL_law_1667 : decode cL_law 1667 = .ok (.ireturn, 1) := by decide +kernel
theorem dL_law_1668 : decode cL_law 1668 = .ok (.goto 502, 3) := by decide +kernel
theorem dL_law_1671 : decode cL_law 1671 = .ok (.aload_n 1, 1) := by decide +kernel
theorem dL_law_1672 : decode cL_law 1672 = .ok (.aload_n 0, 1) := by decide +kernel
theorem dL_law_1673 : decode cL_law 1673 = .ok (.iload 4, 2) := by decide +kernel
theorem dL_law_1675 : decode cL_law 1675 = .ok (.iconst 1, 1) := by decide +kernel
theorem dL_law_1676 : decode cL_law 1676 = .ok (.iadd, 1) := by decide +kernel
theorem dL_law_1677 : decode cL_law 1677 = .ok (.iaload, 1) := by decide +kernel
theorem dL_law_1678 : decode cL_law 1678 = .ok (.aload_n 3, 1) := by decide +kernel
theorem dL_law_1679 : decode cL_law 1679 = .ok (.invokestatic 210, 3) := by decide +kernel
theorem dL_law_1682 : decode cL_law 1682 = .ok (.istore 5, 2) := by decide +kernel
theorem dL_law_1684 : decode cL_law 1684 = .ok (.aload_n 2, 1) := by decide +kernel
theorem dL_law_1685 : decode cL_law 1685 = .ok (.aload_n 0, 1) := by decide +kernel
theorem dL_law_1686 : decode cL_law 1686 = .ok (.iload 4, 2) := by decide +kernel
theorem dL_law_1688 : decode cL_law 1688 = .ok (.iconst 1, 1) := by decide +kernel
theorem dL_law_1689 : decode cL_law 1689 = .ok (.iadd, 1) := by decide +kernel
theorem dL_law_1690 : decode cL_law 1690 = .ok (.iaload, 1) := by decide +kernel
theorem dL_law_1691 : decode cL_law 1691 = .ok (.invokevirtual 212, 3) := by decide +kernel
theorem dL_law_1694 : decode cL_law 1694 = .ok (.istore 6, 2) := by decide +kernel
theorem dL_law_1696 : decode cL_law 1696 = .ok (.aload_n 2, 1) := by decide +kernel
theorem dL_law_1697 : decode cL_law 1697 = .ok (.invokevirtual 114, 3) := by decide +kernel
theorem dL_law_1700 : decode cL_law 1700 = .ok (.iload 5, 2) := by decide +kernel
theorem dL_law_1702 : decode cL_law 1702 = .ok (.if_icmp .eq 5, 3) := by decide +kernel
theorem dL_law_1705 : decode cL_law 1705 = .ok (.iconst 0, 1) := by decide +kernel
theorem dL_law_1706 : decode cL_law 1706 = .ok (.ireturn, 1) := by decide +kernel
theorem dL_law_1707 : decode cL_law 1707 = .ok (.iload 5, 2) := by decide +kernel
theorem dL_law_1709 : decode cL_law 1709 = .ok (.ifCond .ne 15, 3) := by decide +kernel
theorem dL_law_1712 : decode cL_law 1712 = .ok (.aload_n 3, 1) := by decide +kernel
theorem dL_law_1713 : decode cL_law 1713 = .ok (.iconst 0, 1) := by decide +kernel
theorem dL_law_1714 : decode cL_law 1714 = .ok (.laload, 1) := by decide +kernel
theorem dL_law_1715 : decode cL_law 1715 = .ok (.iload 6, 2) := by decide +kernel
theorem dL_law_1717 : decode cL_law 1717 = .ok (.i2l, 1) := by decide +kernel
theorem dL_law_1718 : decode cL_law 1718 = .ok (.lcmp, 1) := by decide +kernel
theorem dL_law_1719 : decode cL_law 1719 = .ok (.ifCond .eq 5, 3) := by decide +kernel
theorem dL_law_1722 : decode cL_law 1722 = .ok (.iconst 0, 1) := by decide +kernel
theorem dL_law_1723 : decode cL_law 1723 = .ok (.ireturn, 1) := by decide +kernel
theorem dL_law_1724 : decode cL_law 1724 = .ok (.goto 446, 3) := by decide +kernel
theorem dL_law_1727 : decode cL_law 1727 = .ok (.aload_n 1, 1) := by decide +kernel
theorem dL_law_1728 : decode cL_law 1728 = .ok (.aload_n 0, 1) := by decide +kernel
theorem dL_law_1729 : decode cL_law 1729 = .ok (.iload 4, 2) := by decide +kernel
theorem dL_law_1731 : decode cL_law 1731 = .ok (.iconst 1, 1) := by decide +kernel
theorem dL_law_1732 : decode cL_law 1732 = .ok (.iadd, 1) := by decide +kernel
theorem dL_law_1733 : decode cL_law 1733 = .ok (.iaload, 1) := by decide +kernel
theorem dL_law_1734 : decode cL_law 1734 = .ok (.aload_n 3, 1) := by decide +kernel
theorem dL_law_1735 : decode cL_law 1735 = .ok (.invokestatic 213, 3) := by decide +kernel
theorem dL_law_1738 : decode cL_law 1738 = .ok (.istore 5, 2) := by decide +kernel
theorem dL_law_1740 : decode cL_law 1740 = .ok (.aload_n 2, 1) := by decide +kernel
theorem dL_law_1741 : decode cL_law 1741 = .ok (.aload_n 0, 1) := by decide +kernel
theorem dL_law_1742 : decode cL_law 1742 = .ok (.iload 4, 2) := by decide +kernel
theorem dL_law_1744 : decode cL_law 1744 = .ok (.iconst 1, 1) := by decide +kernel
theorem dL_law_1745 : decode cL_law 1745 = .ok (.iadd, 1) := by decide +kernel
theorem dL_law_1746 : decode cL_law 1746 = .ok (.iaload, 1) := by decide +kernel
theorem dL_law_1747 : decode cL_law 1747 = .ok (.invokevirtual 215, 3) := by decide +kernel
theorem dL_law_1750 : decode cL_law 1750 = .ok (.istore 6, 2) := by decide +kernel
theorem dL_law_1752 : decode cL_law 1752 = .ok (.aload_n 2, 1) := by decide +kernel
theorem dL_law_1753 : decode cL_law 1753 = .ok (.invokevirtual 114, 3) := by decide +kernel
theorem dL_law_1756 : decode cL_law 1756 = .ok (.iload 5, 2) := by decide +kernel
theorem dL_law_1758 : decode cL_law 1758 = .ok (.if_icmp .eq 5, 3) := by decide +kernel
theorem dL_law_1761 : decode cL_law 1761 = .ok (.iconst 0, 1) := by decide +kernel
theorem dL_law_1762 : decode cL_law 1762 = .ok (.ireturn, 1) := by decide +kernel
theorem dL_law_1763 : decode cL_law 1763 = .ok (.iload 5, 2) := by decide +kernel
theorem dL_law_1765 : decode cL_law 1765 = .ok (.ifCond .ne 15, 3) := by decide +kernel
theorem dL_law_1768 : decode cL_law 1768 = .ok (.aload_n 3, 1) := by decide +kernel
theorem dL_law_1769 : decode cL_law 1769 = .ok (.iconst 0, 1) := by decide +kernel
theorem dL_law_1770 : decode cL_law 1770 = .ok (.laload, 1) := by decide +kernel
theorem dL_law_1771 : decode cL_law 1771 = .ok (.iload 6, 2) := by decide +kernel
theorem dL_law_1773 : decode cL_law 1773 = .ok (.i2l, 1) := by decide +kernel
theorem dL_law_1774 : decode cL_law 1774 = .ok (.lcmp, 1) := by decide +kernel
theorem dL_law_1775 : decode cL_law 1775 = .ok (.ifCond .eq 5, 3) := by decide +kernel
theorem dL_law_1778 : decode cL_law 1778 = .ok (.iconst 0, 1) := by decide +kernel
theorem dL_law_1779 : decode cL_law 1779 = .ok (.ireturn, 1) := by decide +kernel
theorem dL_law_1780 : decode cL_law 1780 = .ok (.goto 390, 3) := by decide +kernel
theorem dL_law_1783 : decode cL_law 1783 = .ok (.aload_n 1, 1) := by decide +kernel
theorem dL_law_1784 : decode cL_law 1784 = .ok (.aload_n 0, 1) := by decide +kernel
theorem dL_law_1785 : decode cL_law 1785 = .ok (.iload 4, 2) := by decide +kernel
theorem dL_law_1787 : decode cL_law 1787 = .ok (.iconst 1, 1) := by decide +kernel
theorem dL_law_1788 : decode cL_law 1788 = .ok (.iadd, 1) := by decide +kernel
theorem dL_law_1789 : decode cL_law 1789 = .ok (.iaload, 1) := by decide +kernel
theorem dL_law_1790 : decode cL_law 1790 = .ok (.aload_n 0, 1) := by decide +kernel
theorem dL_law_1791 : decode cL_law 1791 = .ok (.iload 4, 2) := by decide +kernel
theorem dL_law_1793 : decode cL_law 1793 = .ok (.iconst 2, 1) := by decide +kernel
theorem dL_law_1794 : decode cL_law 1794 = .ok (.iadd, 1) := by decide +kernel
theorem dL_law_1795 : decode cL_law 1795 = .ok (.iaload, 1) := by decide +kernel
theorem dL_law_1796 : decode cL_law 1796 = .ok (.aload_n 0, 1) := by decide +kernel
theorem dL_law_1797 : decode cL_law 1797 = .ok (.iload 4, 2) := by decide +kernel
theorem dL_law_1799 : decode cL_law 1799 = .ok (.iconst 3, 1) := by decide +kernel
theorem dL_law_1800 : decode cL_law 1800 = .ok (.iadd, 1) := by decide +kernel
theorem dL_law_1801 : decode cL_law 1801 = .ok (.iaload, 1) := by decide +kernel
theorem dL_law_1802 : decode cL_law 1802 = .ok (.aload_n 3, 1) := by decide +kernel
theorem dL_law_1803 : decode cL_law 1803 = .ok (.invokestatic 216, 3) := by decide +kernel
theorem dL_law_1806 : decode cL_law 1806 = .ok (.istore 5, 2) := by decide +kernel
theorem dL_law_1808 : decode cL_law 1808 = .ok (.aload_n 2, 1) := by decide +kernel
theorem dL_law_1809 : decode cL_law 1809 = .ok (.aload_n 0, 1) := by decide +kernel
theorem dL_law_1810 : decode cL_law 1810 = .ok (.iload 4, 2) := by decide +kernel
theorem dL_law_1812 : decode cL_law 1812 = .ok (.iconst 1, 1) := by decide +kernel
theorem dL_law_1813 : decode cL_law 1813 = .ok (.iadd, 1) := by decide +kernel
theorem dL_law_1814 : decode cL_law 1814 = .ok (.iaload, 1) := by decide +kernel
theorem dL_law_1815 : decode cL_law 1815 = .ok (.aload_n 0, 1) := by decide +kernel
theorem dL_law_1816 : decode cL_law 1816 = .ok (.iload 4, 2) := by decide +kernel
theorem dL_law_1818 : decode cL_law 1818 = .ok (.iconst 2, 1) := by decide +kernel
theorem dL_law_1819 : decode cL_law 1819 = .ok (.iadd, 1) := by decide +kernel
theorem dL_law_1820 : decode cL_law 1820 = .ok (.iaload, 1) := by decide +kernel
theorem dL_law_1821 : decode cL_law 1821 = .ok (.aload_n 0, 1) := by decide +kernel
theorem dL_law_1822 : decode cL_law 1822 = .ok (.iload 4, 2) := by decide +kernel
theorem dL_law_1824 : decode cL_law 1824 = .ok (.iconst 3, 1) := by decide +kernel
theorem dL_law_1825 : decode cL_law 1825 = .ok (.iadd, 1) := by decide +kernel
theorem dL_law_1826 : decode cL_law 1826 = .ok (.iaload, 1) := by decide +kernel
theorem dL_law_1827 : decode cL_law 1827 = .ok (.invokevirtual 218, 3) := by decide +kernel
theorem dL_law_1830 : decode cL_law 1830 = .ok (.istore 6, 2) := by decide +kernel
theorem dL_law_1832 : decode cL_law 1832 = .ok (.aload_n 2, 1) := by decide +kernel
theorem dL_law_1833 : decode cL_law 1833 = .ok (.invokevirtual 114, 3) := by decide +kernel
theorem dL_law_1836 : decode cL_law 1836 = .ok (.iload 5, 2) := by decide +kernel
theorem dL_law_1838 : decode cL_law 1838 = .ok (.if_icmp .eq 5, 3) := by decide +kernel
theorem dL_law_1841 : decode cL_law 1841 = .ok (.iconst 0, 1) := by decide +kernel
theorem dL_law_1842 : decode cL_law 1842 = .ok (.ireturn, 1) := by decide +kernel
theorem dL_law_1843 : decode cL_law 1843 = .ok (.iload 5, 2) := by decide +kernel
theorem dL_law_1845 : decode cL_law 1845 = .ok (.ifCond .ne 15, 3) := by decide +kernel
theorem dL_law_1848 : decode cL_law 1848 = .ok (.aload_n 3, 1) := by decide +kernel
theorem dL_law_1849 : decode cL_law 1849 = .ok (.iconst 0, 1) := by decide +kernel
theorem dL_law_1850 : decode cL_law 1850 = .ok (.laload, 1) := by decide +kernel
theorem dL_law_1851 : decode cL_law 1851 = .ok (.iload 6, 2) := by decide +kernel
theorem dL_law_1853 : decode cL_law 1853 = .ok (.i2l, 1) := by decide +kernel
theorem dL_law_1854 : decode cL_law 1854 = .ok (.lcmp, 1) := by decide +kernel
theorem dL_law_1855 : decode cL_law 1855 = .ok (.ifCond .eq 5, 3) := by decide +kernel
theorem dL_law_1858 : decode cL_law 1858 = .ok (.iconst 0, 1) := by decide +kernel
theorem dL_law_1859 : decode cL_law 1859 = .ok (.ireturn, 1) := by decide +kernel
theorem dL_law_1860 : decode cL_law 1860 = .ok (.goto 310, 3) := by decide +kernel
theorem dL_law_1863 : decode cL_law 1863 = .ok (.aload_n 1, 1) := by decide +kernel
theorem dL_law_1864 : decode cL_law 1864 = .ok (.aload_n 0, 1) := by decide +kernel
theorem dL_law_1865 : decode cL_law 1865 = .ok (.iload 4, 2) := by decide +kernel
theorem dL_law_1867 : decode cL_law 1867 = .ok (.iconst 1, 1) := by decide +kernel
theorem dL_law_1868 : decode cL_law 1868 = .ok (.iadd, 1) := by decide +kernel
theorem dL_law_1869 : decode cL_law 1869 = .ok (.iaload, 1) := by decide +kernel
theorem dL_law_1870 : decode cL_law 1870 = .ok (.aload_n 3, 1) := by decide +kernel
theorem dL_law_1871 : decode cL_law 1871 = .ok (.invokestatic 219, 3) := by decide +kernel
theorem dL_law_1874 : decode cL_law 1874 = .ok (.istore 5, 2) := by decide +kernel
theorem dL_law_1876 : decode cL_law 1876 = .ok (.aload_n 2, 1) := by decide +kernel
theorem dL_law_1877 : decode cL_law 1877 = .ok (.aload_n 0, 1) := by decide +kernel
theorem dL_law_1878 : decode cL_law 1878 = .ok (.iload 4, 2) := by decide +kernel
theorem dL_law_1880 : decode cL_law 1880 = .ok (.iconst 1, 1) := by decide +kernel
theorem dL_law_1881 : decode cL_law 1881 = .ok (.iadd, 1) := by decide +kernel
theorem dL_law_1882 : decode cL_law 1882 = .ok (.iaload, 1) := by decide +kernel
theorem dL_law_1883 : decode cL_law 1883 = .ok (.invokevirtual 221, 3) := by decide +kernel
theorem dL_law_1886 : decode cL_law 1886 = .ok (.istore 6, 2) := by decide +kernel
theorem dL_law_1888 : decode cL_law 1888 = .ok (.aload_n 2, 1) := by decide +kernel
theorem dL_law_1889 : decode cL_law 1889 = .ok (.invokevirtual 114, 3) := by decide +kernel
theorem dL_law_1892 : decode cL_law 1892 = .ok (.iload 5, 2) := by decide +kernel
theorem dL_law_1894 : decode cL_law 1894 = .ok (.if_icmp .eq 5, 3) := by decide +kernel
theorem dL_law_1897 : decode cL_law 1897 = .ok (.iconst 0, 1) := by decide +kernel
theorem dL_law_1898 : decode cL_law 1898 = .ok (.ireturn, 1) := by decide +kernel
theorem dL_law_1899 : decode cL_law 1899 = .ok (.iload 5, 2) := by decide +kernel
theorem dL_law_1901 : decode cL_law 1901 = .ok (.ifCond .ne 15, 3) := by decide +kernel
theorem dL_law_1904 : decode cL_law 1904 = .ok (.aload_n 3, 1) := by decide +kernel
theorem dL_law_1905 : decode cL_law 1905 = .ok (.iconst 0, 1) := by decide +kernel
theorem dL_law_1906 : decode cL_law 1906 = .ok (.laload, 1) := by decide +kernel
theorem dL_law_1907 : decode cL_law 1907 = .ok (.iload 6, 2) := by decide +kernel
theorem dL_law_1909 : decode cL_law 1909 = .ok (.i2l, 1) := by decide +kernel
theorem dL_law_1910 : decode cL_law 1910 = .ok (.lcmp, 1) := by decide +kernel
theorem dL_law_1911 : decode cL_law 1911 = .ok (.ifCond .eq 5, 3) := by decide +kernel
theorem dL_law_1914 : decode cL_law 1914 = .ok (.iconst 0, 1) := by decide +kernel
theorem dL_law_1915 : decode cL_law 1915 = .ok (.ireturn, 1) := by decide +kernel
theorem dL_law_1916 : decode cL_law 1916 = .ok (.goto 254, 3) := by decide +kernel
theorem dL_law_1919 : decode cL_law 1919 = .ok (.aload_n 1, 1) := by decide +kernel
theorem dL_law_1920 : decode cL_law 1920 = .ok (.aload_n 0, 1) := by decide +kernel
theorem dL_law_1921 : decode cL_law 1921 = .ok (.iload 4, 2) := by decide +kernel
theorem dL_law_1923 : decode cL_law 1923 = .ok (.iconst 1, 1) := by decide +kernel
theorem dL_law_1924 : decode cL_law 1924 = .ok (.iadd, 1) := by decide +kernel
theorem dL_law_1925 : decode cL_law 1925 = .ok (.iaload, 1) := by decide +kernel
theorem dL_law_1926 : decode cL_law 1926 = .ok (.aload_n 3, 1) := by decide +kernel
theorem dL_law_1927 : decode cL_law 1927 = .ok (.invokestatic 222, 3) := by decide +kernel
theorem dL_law_1930 : decode cL_law 1930 = .ok (.istore 5, 2) := by decide +kernel
theorem dL_law_1932 : decode cL_law 1932 = .ok (.aload_n 2, 1) := by decide +kernel
theorem dL_law_1933 : decode cL_law 1933 = .ok (.aload_n 0, 1) := by decide +kernel
theorem dL_law_1934 : decode cL_law 1934 = .ok (.iload 4, 2) := by decide +kernel
theorem dL_law_1936 : decode cL_law 1936 = .ok (.iconst 1, 1) := by decide +kernel
theorem dL_law_1937 : decode cL_law 1937 = .ok (.iadd, 1) := by decide +kernel
theorem dL_law_1938 : decode cL_law 1938 = .ok (.iaload, 1) := by decide +kernel
theorem dL_law_1939 : decode cL_law 1939 = .ok (.invokevirtual 224, 3) := by decide +kernel
theorem dL_law_1942 : decode cL_law 1942 = .ok (.istore 6, 2) := by decide +kernel
theorem dL_law_1944 : decode cL_law 1944 = .ok (.aload_n 2, 1) := by decide +kernel
theorem dL_law_1945 : decode cL_law 1945 = .ok (.invokevirtual 114, 3) := by decide +kernel
theorem dL_law_1948 : decode cL_law 1948 = .ok (.iload 5, 2) := by decide +kernel
theorem dL_law_1950 : decode cL_law 1950 = .ok (.if_icmp .eq 5, 3) := by decide +kernel
theorem dL_law_1953 : decode cL_law 1953 = .ok (.iconst 0, 1) := by decide +kernel
theorem dL_law_1954 : decode cL_law 1954 = .ok (.ireturn, 1) := by decide +kernel
theorem dL_law_1955 : decode cL_law 1955 = .ok (.iload 5, 2) := by decide +kernel
theorem dL_law_1957 : decode cL_law 1957 = .ok (.ifCond .ne 15, 3) := by decide +kernel
theorem dL_law_1960 : decode cL_law 1960 = .ok (.aload_n 3, 1) := by decide +kernel
theorem dL_law_1961 : decode cL_law 1961 = .ok (.iconst 0, 1) := by decide +kernel
theorem dL_law_1962 : decode cL_law 1962 = .ok (.laload, 1) := by decide +kernel
theorem dL_law_1963 : decode cL_law 1963 = .ok (.iload 6, 2) := by decide +kernel
theorem dL_law_1965 : decode cL_law 1965 = .ok (.i2l, 1) := by decide +kernel
theorem dL_law_1966 : decode cL_law 1966 = .ok (.lcmp, 1) := by decide +kernel
theorem dL_law_1967 : decode cL_law 1967 = .ok (.ifCond .eq 5, 3) := by decide +kernel
theorem dL_law_1970 : decode cL_law 1970 = .ok (.iconst 0, 1) := by decide +kernel
theorem dL_law_1971 : decode cL_law 1971 = .ok (.ireturn, 1) := by decide +kernel
theorem dL_law_1972 : decode cL_law 1972 = .ok (.goto 198, 3) := by decide +kernel
theorem dL_law_1975 : decode cL_law 1975 = .ok (.aload_n 1, 1) := by decide +kernel
theorem dL_law_1976 : decode cL_law 1976 = .ok (.invokevirtual 225, 3) := by decide +kernel
theorem dL_law_1979 : decode cL_law 1979 = .ok (.aload_n 2, 1) := by decide +kernel
theorem dL_law_1980 : decode cL_law 1980 = .ok (.invokevirtual 228, 3) := by decide +kernel
theorem dL_law_1983 : decode cL_law 1983 = .ok (.goto 187, 3) := by decide +kernel
theorem dL_law_1986 : decode cL_law 1986 = .ok (.aload_n 1, 1) := by decide +kernel
theorem dL_law_1987 : decode cL_law 1987 = .ok (.aload_n 0, 1) := by decide +kernel
theorem dL_law_1988 : decode cL_law 1988 = .ok (.iload 4, 2) := by decide +kernel
theorem dL_law_1990 : decode cL_law 1990 = .ok (.iconst 1, 1) := by decide +kernel
theorem dL_law_1991 : decode cL_law 1991 = .ok (.iadd, 1) := by decide +kernel
theorem dL_law_1992 : decode cL_law 1992 = .ok (.iaload, 1) := by decide +kernel
theorem dL_law_1993 : decode cL_law 1993 = .ok (.aload_n 0, 1) := by decide +kernel
theorem dL_law_1994 : decode cL_law 1994 = .ok (.iload 4, 2) := by decide +kernel
theorem dL_law_1996 : decode cL_law 1996 = .ok (.iconst 2, 1) := by decide +kernel
theorem dL_law_1997 : decode cL_law 1997 = .ok (.iadd, 1) := by decide +kernel
theorem dL_law_1998 : decode cL_law 1998 = .ok (.iaload, 1) := by decide +kernel
theorem dL_law_1999 : decode cL_law 1999 = .ok (.aload_n 0, 1) := by decide +kernel
theorem dL_law_2000 : decode cL_law 2000 = .ok (.iload 4, 2) := by decide +kernel
theorem dL_law_2002 : decode cL_law 2002 = .ok (.iconst 3, 1) := by decide +kernel
theorem dL_law_2003 : decode cL_law 2003 = .ok (.iadd, 1) := by decide +kernel
theorem dL_law_2004 : decode cL_law 2004 = .ok (.iaload, 1) := by decide +kernel
theorem dL_law_2005 : decode cL_law 2005 = .ok (.aload_n 3, 1) := by decide +kernel
theorem dL_law_2006 : decode cL_law 2006 = .ok (.invokestatic 229, 3) := by decide +kernel
theorem dL_law_2009 : decode cL_law 2009 = .ok (.istore 5, 2) := by decide +kernel
theorem dL_law_2011 : decode cL_law 2011 = .ok (.aload_n 2, 1) := by decide +kernel
theorem dL_law_2012 : decode cL_law 2012 = .ok (.aload_n 0, 1) := by decide +kernel
theorem dL_law_2013 : decode cL_law 2013 = .ok (.iload 4, 2) := by decide +kernel
theorem dL_law_2015 : decode cL_law 2015 = .ok (.iconst 1, 1) := by decide +kernel
theorem dL_law_2016 : decode cL_law 2016 = .ok (.iadd, 1) := by decide +kernel
theorem dL_law_2017 : decode cL_law 2017 = .ok (.iaload, 1) := by decide +kernel
theorem dL_law_2018 : decode cL_law 2018 = .ok (.aload_n 0, 1) := by decide +kernel
theorem dL_law_2019 : decode cL_law 2019 = .ok (.iload 4, 2) := by decide +kernel
theorem dL_law_2021 : decode cL_law 2021 = .ok (.iconst 2, 1) := by decide +kernel
theorem dL_law_2022 : decode cL_law 2022 = .ok (.iadd, 1) := by decide +kernel
theorem dL_law_2023 : decode cL_law 2023 = .ok (.iaload, 1) := by decide +kernel
theorem dL_law_2024 : decode cL_law 2024 = .ok (.aload_n 0, 1) := by decide +kernel
theorem dL_law_2025 : decode cL_law 2025 = .ok (.iload 4, 2) := by decide +kernel
theorem dL_law_2027 : decode cL_law 2027 = .ok (.iconst 3, 1) := by decide +kernel
theorem dL_law_2028 : decode cL_law 2028 = .ok (.iadd, 1) := by decide +kernel
theorem dL_law_2029 : decode cL_law 2029 = .ok (.iaload, 1) := by decide +kernel
theorem dL_law_2030 : decode cL_law 2030 = .ok (.invokevirtual 231, 3) := by decide +kernel
theorem dL_law_2033 : decode cL_law 2033 = .ok (.istore 6, 2) := by decide +kernel
theorem dL_law_2035 : decode cL_law 2035 = .ok (.aload_n 2, 1) := by decide +kernel
theorem dL_law_2036 : decode cL_law 2036 = .ok (.invokevirtual 114, 3) := by decide +kernel
theorem dL_law_2039 : decode cL_law 2039 = .ok (.iload 5, 2) := by decide +kernel
theorem dL_law_2041 : decode cL_law 2041 = .ok (.if_icmp .eq 5, 3) := by decide +kernel
theorem dL_law_2044 : decode cL_law 2044 = .ok (.iconst 0, 1) := by decide +kernel
theorem dL_law_2045 : decode cL_law 2045 = .ok (.ireturn, 1) := by decide +kernel
theorem dL_law_2046 : decode cL_law 2046 = .ok (.iload 5, 2) := by decide +kernel
theorem dL_law_2048 : decode cL_law 2048 = .ok (.ifCond .ne 15, 3) := by decide +kernel
theorem dL_law_2051 : decode cL_law 2051 = .ok (.aload_n 3, 1) := by decide +kernel
theorem dL_law_2052 : decode cL_law 2052 = .ok (.iconst 0, 1) := by decide +kernel
theorem dL_law_2053 : decode cL_law 2053 = .ok (.laload, 1) := by decide +kernel
theorem dL_law_2054 : decode cL_law 2054 = .ok (.iload 6, 2) := by decide +kernel
theorem dL_law_2056 : decode cL_law 2056 = .ok (.i2l, 1) := by decide +kernel
theorem dL_law_2057 : decode cL_law 2057 = .ok (.lcmp, 1) := by decide +kernel
theorem dL_law_2058 : decode cL_law 2058 = .ok (.ifCond .eq 5, 3) := by decide +kernel
theorem dL_law_2061 : decode cL_law 2061 = .ok (.iconst 0, 1) := by decide +kernel
theorem dL_law_2062 : decode cL_law 2062 = .ok (.ireturn, 1) := by decide +kernel
theorem dL_law_2063 : decode cL_law 2063 = .ok (.goto 107, 3) := by decide +kernel
theorem dL_law_2066 : decode cL_law 2066 = .ok (.aload_n 1, 1) := by decide +kernel
theorem dL_law_2067 : decode cL_law 2067 = .ok (.aload_n 0, 1) := by decide +kernel
theorem dL_law_2068 : decode cL_law 2068 = .ok (.iload 4, 2) := by decide +kernel
theorem dL_law_2070 : decode cL_law 2070 = .ok (.iconst 1, 1) := by decide +kernel
theorem dL_law_2071 : decode cL_law 2071 = .ok (.iadd, 1) := by decide +kernel
theorem dL_law_2072 : decode cL_law 2072 = .ok (.iaload, 1) := by decide +kernel
theorem dL_law_2073 : decode cL_law 2073 = .ok (.aload_n 0, 1) := by decide +kernel
theorem dL_law_2074 : decode cL_law 2074 = .ok (.iload 4, 2) := by decide +kernel
theorem dL_law_2076 : decode cL_law 2076 = .ok (.iconst 2, 1) := by decide +kernel
theorem dL_law_2077 : decode cL_law 2077 = .ok (.iadd, 1) := by decide +kernel
theorem dL_law_2078 : decode cL_law 2078 = .ok (.iaload, 1) := by decide +kernel
theorem dL_law_2079 : decode cL_law 2079 = .ok (.aload_n 0, 1) := by decide +kernel
theorem dL_law_2080 : decode cL_law 2080 = .ok (.iload 4, 2) := by decide +kernel
theorem dL_law_2082 : decode cL_law 2082 = .ok (.iconst 3, 1) := by decide +kernel
theorem dL_law_2083 : decode cL_law 2083 = .ok (.iadd, 1) := by decide +kernel
theorem dL_law_2084 : decode cL_law 2084 = .ok (.iaload, 1) := by decide +kernel
theorem dL_law_2085 : decode cL_law 2085 = .ok (.aload_n 3, 1) := by decide +kernel
theorem dL_law_2086 : decode cL_law 2086 = .ok (.invokestatic 232, 3) := by decide +kernel
theorem dL_law_2089 : decode cL_law 2089 = .ok (.istore 5, 2) := by decide +kernel
theorem dL_law_2091 : decode cL_law 2091 = .ok (.aload_n 2, 1) := by decide +kernel
theorem dL_law_2092 : decode cL_law 2092 = .ok (.aload_n 0, 1) := by decide +kernel
theorem dL_law_2093 : decode cL_law 2093 = .ok (.iload 4, 2) := by decide +kernel
theorem dL_law_2095 : decode cL_law 2095 = .ok (.iconst 1, 1) := by decide +kernel
theorem dL_law_2096 : decode cL_law 2096 = .ok (.iadd, 1) := by decide +kernel
theorem dL_law_2097 : decode cL_law 2097 = .ok (.iaload, 1) := by decide +kernel
theorem dL_law_2098 : decode cL_law 2098 = .ok (.aload_n 0, 1) := by decide +kernel
theorem dL_law_2099 : decode cL_law 2099 = .ok (.iload 4, 2) := by decide +kernel
theorem dL_law_2101 : decode cL_law 2101 = .ok (.iconst 2, 1) := by decide +kernel
theorem dL_law_2102 : decode cL_law 2102 = .ok (.iadd, 1) := by decide +kernel
theorem dL_law_2103 : decode cL_law 2103 = .ok (.iaload, 1) := by decide +kernel
theorem dL_law_2104 : decode cL_law 2104 = .ok (.aload_n 0, 1) := by decide +kernel
theorem dL_law_2105 : decode cL_law 2105 = .ok (.iload 4, 2) := by decide +kernel
theorem dL_law_2107 : decode cL_law 2107 = .ok (.iconst 3, 1) := by decide +kernel
theorem dL_law_2108 : decode cL_law 2108 = .ok (.iadd, 1) := by decide +kernel
theorem dL_law_2109 : decode cL_law 2109 = .ok (.iaload, 1) := by decide +kernel
theorem dL_law_2110 : decode cL_law 2110 = .ok (.invokevirtual 234, 3) := by decide +kernel
theorem dL_law_2113 : decode cL_law 2113 = .ok (.istore 6, 2) := by decide +kernel
theorem dL_law_2115 : decode cL_law 2115 = .ok (.aload_n 2, 1) := by decide +kernel
theorem dL_law_2116 : decode cL_law 2116 = .ok (.invokevirtual 114, 3) := by decide +kernel
theorem dL_law_2119 : decode cL_law 2119 = .ok (.iload 5, 2) := by decide +kernel
theorem dL_law_2121 : decode cL_law 2121 = .ok (.if_icmp .eq 5, 3) := by decide +kernel
theorem dL_law_2124 : decode cL_law 2124 = .ok (.iconst 0, 1) := by decide +kernel
theorem dL_law_2125 : decode cL_law 2125 = .ok (.ireturn, 1) := by decide +kernel
theorem dL_law_2126 : decode cL_law 2126 = .ok (.iload 5, 2) := by decide +kernel
theorem dL_law_2128 : decode cL_law 2128 = .ok (.ifCond .ne 15, 3) := by decide +kernel
theorem dL_law_2131 : decode cL_law 2131 = .ok (.aload_n 3, 1) := by decide +kernel
theorem dL_law_2132 : decode cL_law 2132 = .ok (.iconst 0, 1) := by decide +kernel
theorem dL_law_2133 : decode cL_law 2133 = .ok (.laload, 1) := by decide +kernel
theorem dL_law_2134 : decode cL_law 2134 = .ok (.iload 6, 2) := by decide +kernel
theorem dL_law_2136 : decode cL_law 2136 = .ok (.i2l, 1) := by decide +kernel
theorem dL_law_2137 : decode cL_law 2137 = .ok (.lcmp, 1) := by decide +kernel
theorem dL_law_2138 : decode cL_law 2138 = .ok (.ifCond .eq 5, 3) := by decide +kernel
theorem dL_law_2141 : decode cL_law 2141 = .ok (.iconst 0, 1) := by decide +kernel
theorem dL_law_2142 : decode cL_law 2142 = .ok (.ireturn, 1) := by decide +kernel
theorem dL_law_2143 : decode cL_law 2143 = .ok (.goto 27, 3) := by decide +kernel
theorem dL_law_2146 : decode cL_law 2146 = .ok (.aload_n 1, 1) := by decide +kernel
theorem dL_law_2147 : decode cL_law 2147 = .ok (.invokevirtual 235, 3) := by decide +kernel
theorem dL_law_2150 : decode cL_law 2150 = .ok (.aload_n 2, 1) := by decide +kernel
theorem dL_law_2151 : decode cL_law 2151 = .ok (.invokevirtual 238, 3) := by decide +kernel
theorem dL_law_2154 : decode cL_law 2154 = .ok (.goto 16, 3) := by decide +kernel
theorem dL_law_2157 : decode cL_law 2157 = .ok (.aload_n 1, 1) := by decide +kernel
theorem dL_law_2158 : decode cL_law 2158 = .ok (.invokevirtual 239, 3) := by decide +kernel
theorem dL_law_2161 : decode cL_law 2161 = .ok (.aload_n 2, 1) := by decide +kernel
theorem dL_law_2162 : decode cL_law 2162 = .ok (.invokevirtual 243, 3) := by decide +kernel
theorem dL_law_2165 : decode cL_law 2165 = .ok (.if_icmp .eq 5, 3) := by decide +kernel
theorem dL_law_2168 : decode cL_law 2168 = .ok (.iconst 0, 1) := by decide +kernel
theorem dL_law_2169 : decode cL_law 2169 = .ok (.ireturn, 1) := by decide +kernel
theorem dL_law_2170 : decode cL_law 2170 = .ok (.iinc 4 6, 3) := by decide +kernel
theorem dL_law_2173 : decode cL_law 2173 = .ok (.goto (-2150), 3) := by decide +kernel
theorem dL_law_2176 : decode cL_law 2176 = .ok (.iconst 1, 1) := by decide +kernel
theorem dL_law_2177 : decode cL_law 2177 = .ok (.ireturn, 1) := by decide +kernel
abbrev vwCl : List vw_C := [(RX0, TX0, 7), (RX1, TX1, 6), (RX2, TX2, 18), (RX3, TX3, 6), (RX4, TX4, 9), (RX5, TX5, 5), (RX6, TX6, 2), (RX7, TX7, 5), (RX8, TX8, 6), (RX9, TX9, 4), (RX10, TX10, 6), (RX11, TX11, 13), (RX12, TX12, 64)]
