theorem dL_law_1098 : decode code 1098 = .ok (.invokevirtual 103, 3) := by decide +kernel
theorem dL_law_1101 : decode code 1101 = .ok (.aload_n 2, 1) := by decide +kernel
theorem dL_law_1102 : decode code 1102 = .ok (.aload_n 0, 1) := by decide +kernel
theorem dL_law_1103 : decode code 1103 = .ok (.iload 4, 2) := by decide +kernel
theorem dL_law_1105 : decode code 1105 = .ok (.iconst 1, 1) := by decide +kernel
theorem dL_law_1106 : decode code 1106 = .ok (.iadd, 1) := by decide +kernel
theorem dL_law_1107 : decode code 1107 = .ok (.iaload, 1) := by decide +kernel
theorem dL_law_1108 : decode code 1108 = .ok (.invokevirtual 106, 3) := by decide +kernel
theorem dL_law_1111 : decode code 1111 = .ok (.if_icmp .eq 959, 3) := by decide +kernel
theorem dL_law_1116 : decode code 1116 = .ok (.aload_n 1, 1) := by decide +kernel
theorem dL_law_1117 : decode code 1117 = .ok (.aload_n 0, 1) := by decide +kernel
theorem dL_law_1118 : decode code 1118 = .ok (.iload 4, 2) := by decide +kernel
theorem dL_law_1120 : decode code 1120 = .ok (.iconst 1, 1) := by decide +kernel
theorem dL_law_1121 : decode code 1121 = .ok (.iadd, 1) := by decide +kernel
theorem dL_law_1122 : decode code 1122 = .ok (.iaload, 1) := by decide +kernel
theorem dL_law_1123 : decode code 1123 = .ok (.aload_n 0, 1) := by decide +kernel
theorem dL_law_1124 : decode code 1124 = .ok (.iload 4, 2) := by decide +kernel
theorem dL_law_1126 : decode code 1126 = .ok (.iconst 2, 1) := by decide +kernel
theorem dL_law_1127 : decode code 1127 = .ok (.iadd, 1) := by decide +kernel
theorem dL_law_1128 : decode code 1128 = .ok (.iaload, 1) := by decide +kernel
theorem dL_law_1129 : decode code 1129 = .ok (.invokevirtual 107, 3) := by decide +kernel
theorem dL_law_1132 : decode code 1132 = .ok (.aload_n 2, 1) := by decide +kernel
theorem dL_law_1133 : decode code 1133 = .ok (.aload_n 0, 1) := by decide +kernel
theorem dL_law_1134 : decode code 1134 = .ok (.iload 4, 2) := by decide +kernel
theorem dL_law_1136 : decode code 1136 = .ok (.iconst 1, 1) := by decide +kernel
theorem dL_law_1137 : decode code 1137 = .ok (.iadd, 1) := by decide +kernel
theorem dL_law_1138 : decode code 1138 = .ok (.iaload, 1) := by decide +kernel
theorem dL_law_1139 : decode code 1139 = .ok (.aload_n 0, 1) := by decide +kernel
theorem dL_law_1140 : decode code 1140 = .ok (.iload 4, 2) := by decide +kernel
theorem dL_law_1142 : decode code 1142 = .ok (.iconst 2, 1) := by decide +kernel
theorem dL_law_1143 : decode code 1143 = .ok (.iadd, 1) := by decide +kernel
theorem dL_law_1144 : decode code 1144 = .ok (.iaload, 1) := by decide +kernel
theorem dL_law_1145 : decode code 1145 = .ok (.invokevirtual 111, 3) := by decide +kernel
theorem dL_law_1148 : decode code 1148 = .ok (.if_icmp .eq 922, 3) := by decide +kernel
theorem dL_law_1153 : decode code 1153 = .ok (.aload_n 1, 1) := by decide +kernel
theorem dL_law_1154 : decode code 1154 = .ok (.aload_n 0, 1) := by decide +kernel
theorem dL_law_1155 : decode code 1155 = .ok (.iload 4, 2) := by decide +kernel
theorem dL_law_1157 : decode code 1157 = .ok (.iconst 1, 1) := by decide +kernel
theorem dL_law_1158 : decode code 1158 = .ok (.iadd, 1) := by decide +kernel
theorem dL_law_1159 : decode code 1159 = .ok (.iaload, 1) := by decide +kernel
theorem dL_law_1160 : decode code 1160 = .ok (.invokevirtual 112, 3) := by decide +kernel
theorem dL_law_1163 : decode code 1163 = .ok (.aload_n 2, 1) := by decide +kernel
theorem dL_law_1164 : decode code 1164 = .ok (.aload_n 0, 1) := by decide +kernel
theorem dL_law_1165 : decode code 1165 = .ok (.iload 4, 2) := by decide +kernel
theorem dL_law_1167 : decode code 1167 = .ok (.iconst 1, 1) := by decide +kernel
theorem dL_law_1168 : decode code 1168 = .ok (.iadd, 1) := by decide +kernel
theorem dL_law_1169 : decode code 1169 = .ok (.iaload, 1) := by decide +kernel
theorem dL_law_1170 : decode code 1170 = .ok (.invokevirtual 115, 3) := by decide +kernel
theorem dL_law_1173 : decode code 1173 = .ok (.if_icmp .eq 897, 3) := by decide +kernel
theorem dL_law_1178 : decode code 1178 = .ok (.aload_n 1, 1) := by decide +kernel
theorem dL_law_1179 : decode code 1179 = .ok (.aload_n 0, 1) := by decide +kernel
theorem dL_law_1180 : decode code 1180 = .ok (.iload 4, 2) := by decide +kernel
theorem dL_law_1182 : decode code 1182 = .ok (.iconst 1, 1) := by decide +kernel
theorem dL_law_1183 : decode code 1183 = .ok (.iadd, 1) := by decide +kernel
theorem dL_law_1184 : decode code 1184 = .ok (.iaload, 1) := by decide +kernel
theorem dL_law_1185 : decode code 1185 = .ok (.invokevirtual 116, 3) := by decide +kernel
theorem dL_law_1188 : decode code 1188 = .ok (.aload_n 2, 1) := by decide +kernel
theorem dL_law_1189 : decode code 1189 = .ok (.aload_n 0, 1) := by decide +kernel
theorem dL_law_1190 : decode code 1190 = .ok (.iload 4, 2) := by decide +kernel
theorem dL_law_1192 : decode code 1192 = .ok (.iconst 1, 1) := by decide +kernel
theorem dL_law_1193 : decode code 1193 = .ok (.iadd, 1) := by decide +kernel
theorem dL_law_1194 : decode code 1194 = .ok (.iaload, 1) := by decide +kernel
theorem dL_law_1195 : decode code 1195 = .ok (.invokevirtual 119, 3) := by decide +kernel
theorem dL_law_1198 : decode code 1198 = .ok (.if_icmp .eq 872, 3) := by decide +kernel
theorem dL_law_1203 : decode code 1203 = .ok (.aload_n 1, 1) := by decide +kernel
theorem dL_law_1204 : decode code 1204 = .ok (.aload_n 0, 1) := by decide +kernel
theorem dL_law_1205 : decode code 1205 = .ok (.iload 4, 2) := by decide +kernel
theorem dL_law_1207 : decode code 1207 = .ok (.iconst 1, 1) := by decide +kernel
theorem dL_law_1208 : decode code 1208 = .ok (.iadd, 1) := by decide +kernel
theorem dL_law_1209 : decode code 1209 = .ok (.iaload, 1) := by decide +kernel
theorem dL_law_1210 : decode code 1210 = .ok (.invokevirtual 120, 3) := by decide +kernel
theorem dL_law_1213 : decode code 1213 = .ok (.aload_n 2, 1) := by decide +kernel
theorem dL_law_1214 : decode code 1214 = .ok (.aload_n 0, 1) := by decide +kernel
theorem dL_law_1215 : decode code 1215 = .ok (.iload 4, 2) := by decide +kernel
theorem dL_law_1217 : decode code 1217 = .ok (.iconst 1, 1) := by decide +kernel
theorem dL_law_1218 : decode code 1218 = .ok (.iadd, 1) := by decide +kernel
theorem dL_law_1219 : decode code 1219 = .ok (.iaload, 1) := by decide +kernel
theorem dL_law_1220 : decode code 1220 = .ok (.invokevirtual 123, 3) := by decide +kernel
theorem dL_law_1223 : decode code 1223 = .ok (.if_icmp .eq 847, 3) := by decide +kernel
theorem dL_law_1228 : decode code 1228 = .ok (.aload_n 1, 1) := by decide +kernel
theorem dL_law_1229 : decode code 1229 = .ok (.aload_n 0, 1) := by decide +kernel
theorem dL_law_1230 : decode code 1230 = .ok (.iload 4, 2) := by decide +kernel
theorem dL_law_1232 : decode code 1232 = .ok (.iconst 1, 1) := by decide +kernel
theorem dL_law_1233 : decode code 1233 = .ok (.iadd, 1) := by decide +kernel
theorem dL_law_1234 : decode code 1234 = .ok (.iaload, 1) := by decide +kernel
theorem dL_law_1235 : decode code 1235 = .ok (.invokevirtual 124, 3) := by decide +kernel
theorem dL_law_1238 : decode code 1238 = .ok (.aload_n 2, 1) := by decide +kernel
theorem dL_law_1239 : decode code 1239 = .ok (.aload_n 0, 1) := by decide +kernel
theorem dL_law_1240 : decode code 1240 = .ok (.iload 4, 2) := by decide +kernel
theorem dL_law_1242 : decode code 1242 = .ok (.iconst 1, 1) := by decide +kernel
theorem dL_law_1243 : decode code 1243 = .ok (.iadd, 1) := by decide +kernel
theorem dL_law_1244 : decode code 1244 = .ok (.iaload, 1) := by decide +kernel
theorem dL_law_1245 : decode code 1245 = .ok (.invokevirtual 127, 3) := by decide +kernel
theorem dL_law_1248 : decode code 1248 = .ok (.if_icmp .eq 822, 3) := by decide +kernel
theorem dL_law_1253 : decode code 1253 = .ok (.aload_n 1, 1) := by decide +kernel
theorem dL_law_1254 : decode code 1254 = .ok (.aload_n 0, 1) := by decide +kernel
theorem dL_law_1255 : decode code 1255 = .ok (.iload 4, 2) := by decide +kernel
theorem dL_law_1257 : decode code 1257 = .ok (.iconst 1, 1) := by decide +kernel
theorem dL_law_1258 : decode code 1258 = .ok (.iadd, 1) := by decide +kernel
theorem dL_law_1259 : decode code 1259 = .ok (.iaload, 1) := by decide +kernel
theorem dL_law_1260 : decode code 1260 = .ok (.aload_n 0, 1) := by decide +kernel
theorem dL_law_1261 : decode code 1261 = .ok (.iload 4, 2) := by decide +kernel
theorem dL_law_1263 : decode code 1263 = .ok (.iconst 2, 1) := by decide +kernel
theorem dL_law_1264 : decode code 1264 = .ok (.iadd, 1) := by decide +kernel
theorem dL_law_1265 : decode code 1265 = .ok (.iaload, 1) := by decide +kernel
theorem dL_law_1266 : decode code 1266 = .ok (.invokevirtual 128, 3) := by decide +kernel
theorem dL_law_1269 : decode code 1269 = .ok (.aload_n 2, 1) := by decide +kernel
theorem dL_law_1270 : decode code 1270 = .ok (.aload_n 0, 1) := by decide +kernel
theorem dL_law_1271 : decode code 1271 = .ok (.iload 4, 2) := by decide +kernel
theorem dL_law_1273 : decode code 1273 = .ok (.iconst 1, 1) := by decide +kernel
theorem dL_law_1274 : decode code 1274 = .ok (.iadd, 1) := by decide +kernel
theorem dL_law_1275 : decode code 1275 = .ok (.iaload, 1) := by decide +kernel
theorem dL_law_1276 : decode code 1276 = .ok (.aload_n 0, 1) := by decide +kernel
theorem dL_law_1277 : decode code 1277 = .ok (.iload 4, 2) := by decide +kernel
theorem dL_law_1279 : decode code 1279 = .ok (.iconst 2, 1) := by decide +kernel
theorem dL_law_1280 : decode code 1280 = .ok (.iadd, 1) := by decide +kernel
theorem dL_law_1281 : decode code 1281 = .ok (.iaload, 1) := by decide +kernel
theorem dL_law_1282 : decode code 1282 = .ok (.invokevirtual 131, 3) := by decide +kernel
theorem dL_law_1285 : decode code 1285 = .ok (.if_icmp .eq 785, 3) := by decide +kernel
theorem dL_law_1290 : decode code 1290 = .ok (.aload_n 1, 1) := by decide +kernel
theorem dL_law_1291 : decode code 1291 = .ok (.aload_n 0, 1) := by decide +kernel
theorem dL_law_1292 : decode code 1292 = .ok (.iload 4, 2) := by decide +kernel
theorem dL_law_1294 : decode code 1294 = .ok (.iconst 1, 1) := by decide +kernel
theorem dL_law_1295 : decode code 1295 = .ok (.iadd, 1) := by decide +kernel
theorem dL_law_1296 : decode code 1296 = .ok (.iaload, 1) := by decide +kernel
theorem dL_law_1297 : decode code 1297 = .ok (.aload_n 0, 1) := by decide +kernel
theorem dL_law_1298 : decode code 1298 = .ok (.iload 4, 2) := by decide +kernel
theorem dL_law_1300 : decode code 1300 = .ok (.iconst 2, 1) := by decide +kernel
theorem dL_law_1301 : decode code 1301 = .ok (.iadd, 1) := by decide +kernel
theorem dL_law_1302 : decode code 1302 = .ok (.iaload, 1) := by decide +kernel
theorem dL_law_1303 : decode code 1303 = .ok (.invokevirtual 132, 3) := by decide +kernel
theorem dL_law_1306 : decode code 1306 = .ok (.aload_n 2, 1) := by decide +kernel
theorem dL_law_1307 : decode code 1307 = .ok (.aload_n 0, 1) := by decide +kernel
theorem dL_law_1308 : decode code 1308 = .ok (.iload 4, 2) := by decide +kernel
theorem dL_law_1310 : decode code 1310 = .ok (.iconst 1, 1) := by decide +kernel
theorem dL_law_1311 : decode code 1311 = .ok (.iadd, 1) := by decide +kernel
theorem dL_law_1312 : decode code 1312 = .ok (.iaload, 1) := by decide +kernel
theorem dL_law_1313 : decode code 1313 = .ok (.aload_n 0, 1) := by decide +kernel
theorem dL_law_1314 : decode code 1314 = .ok (.iload 4, 2) := by decide +kernel
theorem dL_law_1316 : decode code 1316 = .ok (.iconst 2, 1) := by decide +kernel
theorem dL_law_1317 : decode code 1317 = .ok (.iadd, 1) := by decide +kernel
theorem dL_law_1318 : decode code 1318 = .ok (.iaload, 1) := by decide +kernel
theorem dL_law_1319 : decode code 1319 = .ok (.invokevirtual 135, 3) := by decide +kernel
theorem dL_law_1322 : decode code 1322 = .ok (.if_icmp .eq 748, 3) := by decide +kernel
theorem dL_law_1327 : decode code 1327 = .ok (.aload_n 1, 1) := by decide +kernel
theorem dL_law_1328 : decode code 1328 = .ok (.aload_n 0, 1) := by decide +kernel
theorem dL_law_1329 : decode code 1329 = .ok (.iload 4, 2) := by decide +kernel
theorem dL_law_1331 : decode code 1331 = .ok (.iconst 1, 1) := by decide +kernel
theorem dL_law_1332 : decode code 1332 = .ok (.iadd, 1) := by decide +kernel
theorem dL_law_1333 : decode code 1333 = .ok (.iaload, 1) := by decide +kernel
theorem dL_law_1334 : decode code 1334 = .ok (.aload_n 0, 1) := by decide +kernel
theorem dL_law_1335 : decode code 1335 = .ok (.iload 4, 2) := by decide +kernel
theorem dL_law_1337 : decode code 1337 = .ok (.iconst 2, 1) := by decide +kernel
theorem dL_law_1338 : decode code 1338 = .ok (.iadd, 1) := by decide +kernel
theorem dL_law_1339 : decode code 1339 = .ok (.iaload, 1) := by decide +kernel
theorem dL_law_1340 : decode code 1340 = .ok (.aload_n 0, 1) := by decide +kernel
theorem dL_law_1341 : decode code 1341 = .ok (.iload 4, 2) := by decide +kernel
theorem dL_law_1343 : decode code 1343 = .ok (.iconst 3, 1) := by decide +kernel
theorem dL_law_1344 : decode code 1344 = .ok (.iadd, 1) := by decide +kernel
theorem dL_law_1345 : decode code 1345 = .ok (.iaload, 1) := by decide +kernel
theorem dL_law_1346 : decode code 1346 = .ok (.invokevirtual 136, 3) := by decide +kernel
theorem dL_law_1349 : decode code 1349 = .ok (.aload_n 2, 1) := by decide +kernel
theorem dL_law_1350 : decode code 1350 = .ok (.aload_n 0, 1) := by decide +kernel
theorem dL_law_1351 : decode code 1351 = .ok (.iload 4, 2) := by decide +kernel
theorem dL_law_1353 : decode code 1353 = .ok (.iconst 1, 1) := by decide +kernel
theorem dL_law_1354 : decode code 1354 = .ok (.iadd, 1) := by decide +kernel
theorem dL_law_1355 : decode code 1355 = .ok (.iaload, 1) := by decide +kernel
theorem dL_law_1356 : decode code 1356 = .ok (.aload_n 0, 1) := by decide +kernel
theorem dL_law_1357 : decode code 1357 = .ok (.iload 4, 2) := by decide +kernel
theorem dL_law_1359 : decode code 1359 = .ok (.iconst 2, 1) := by decide +kernel
theorem dL_law_1360 : decode code 1360 = .ok (.iadd, 1) := by decide +kernel
theorem dL_law_1361 : decode code 1361 = .ok (.iaload, 1) := by decide +kernel
theorem dL_law_1362 : decode code 1362 = .ok (.aload_n 0, 1) := by decide +kernel
theorem dL_law_1363 : decode code 1363 = .ok (.iload 4, 2) := by decide +kernel
theorem dL_law_1365 : decode code 1365 = .ok (.iconst 3, 1) := by decide +kernel
theorem dL_law_1366 : decode code 1366 = .ok (.iadd, 1) := by decide +kernel
theorem dL_law_1367 : decode code 1367 = .ok (.iaload, 1) := by decide +kernel
theorem dL_law_1368 : decode code 1368 = .ok (.invokevirtual 139, 3) := by decide +kernel
theorem dL_law_1371 : decode code 1371 = .ok (.if_icmp .eq 699, 3) := by decide +kernel
theorem dL_law_1376 : decode code 1376 = .ok (.aload_n 1, 1) := by decide +kernel
theorem dL_law_1377 : decode code 1377 = .ok (.aload_n 0, 1) := by decide +kernel
theorem dL_law_1378 : decode code 1378 = .ok (.iload 4, 2) := by decide +kernel
theorem dL_law_1380 : decode code 1380 = .ok (.iconst 1, 1) := by decide +kernel
theorem dL_law_1381 : decode code 1381 = .ok (.iadd, 1) := by decide +kernel
theorem dL_law_1382 : decode code 1382 = .ok (.iaload, 1) := by decide +kernel
theorem dL_law_1383 : decode code 1383 = .ok (.aload_n 0, 1) := by decide +kernel
theorem dL_law_1384 : decode code 1384 = .ok (.iload 4, 2) := by decide +kernel
theorem dL_law_1386 : decode code 1386 = .ok (.iconst 2, 1) := by decide +kernel
theorem dL_law_1387 : decode code 1387 = .ok (.iadd, 1) := by decide +kernel
theorem dL_law_1388 : decode code 1388 = .ok (.iaload, 1) := by decide +kernel
theorem dL_law_1389 : decode code 1389 = .ok (.aload_n 0, 1) := by decide +kernel
theorem dL_law_1390 : decode code 1390 = .ok (.iload 4, 2) := by decide +kernel
theorem dL_law_1392 : decode code 1392 = .ok (.iconst 3, 1) := by decide +kernel
theorem dL_law_1393 : decode code 1393 = .ok (.iadd, 1) := by decide +kernel
theorem dL_law_1394 : decode code 1394 = .ok (.iaload, 1) := by decide +kernel
theorem dL_law_1395 : decode code 1395 = .ok (.invokevirtual 140, 3) := by decide +kernel
theorem dL_law_1398 : decode code 1398 = .ok (.aload_n 2, 1) := by decide +kernel
theorem dL_law_1399 : decode code 1399 = .ok (.aload_n 0, 1) := by decide +kernel
theorem dL_law_1400 : decode code 1400 = .ok (.iload 4, 2) := by decide +kernel
theorem dL_law_1402 : decode code 1402 = .ok (.iconst 1, 1) := by decide +kernel
theorem dL_law_1403 : decode code 1403 = .ok (.iadd, 1) := by decide +kernel
theorem dL_law_1404 : decode code 1404 = .ok (.iaload, 1) := by decide +kernel
theorem dL_law_1405 : decode code 1405 = .ok (.aload_n 0, 1) := by decide +kernel
theorem dL_law_1406 : decode code 1406 = .ok (.iload 4, 2) := by decide +kernel
theorem dL_law_1408 : decode code 1408 = .ok (.iconst 2, 1) := by decide +kernel
theorem dL_law_1409 : decode code 1409 = .ok (.iadd, 1) := by decide +kernel
theorem dL_law_1410 : decode code 1410 = .ok (.iaload, 1) := by decide +kernel
theorem dL_law_1411 : decode code 1411 = .ok (.aload_n 0, 1) := by decide +kernel
theorem dL_law_1412 : decode code 1412 = .ok (.iload 4, 2) := by decide +kernel
theorem dL_law_1414 : decode code 1414 = .ok (.iconst 3, 1) := by decide +kernel
theorem dL_law_1415 : decode code 1415 = .ok (.iadd, 1) := by decide +kernel
theorem dL_law_1416 : decode code 1416 = .ok (.iaload, 1) := by decide +kernel
theorem dL_law_1417 : decode code 1417 = .ok (.invokevirtual 143, 3) := by decide +kernel
theorem dL_law_1420 : decode code 1420 = .ok (.if_icmp .eq 650, 3) := by decide +kernel
theorem dL_law_1425 : decode code 1425 = .ok (.aload_n 1, 1) := by decide +kernel
theorem dL_law_1426 : decode code 1426 = .ok (.invokevirtual 144, 3) := by decide +kernel
theorem dL_law_1429 : decode code 1429 = .ok (.aload_n 2, 1) := by decide +kernel
theorem dL_law_1430 : decode code 1430 = .ok (.invokevirtual 147, 3) := by decide +kernel
theorem dL_law_1433 : decode code 1433 = .ok (.if_icmp .eq 637, 3) := by decide +kernel
theorem dL_law_1438 : decode code 1438 = .ok (.aload_n 1, 1) := by decide +kernel
theorem dL_law_1439 : decode code 1439 = .ok (.aload_n 0, 1) := by decide +kernel
theorem dL_law_1440 : decode code 1440 = .ok (.iload 4, 2) := by decide +kernel
theorem dL_law_1442 : decode code 1442 = .ok (.iconst 1, 1) := by decide +kernel
theorem dL_law_1443 : decode code 1443 = .ok (.iadd, 1) := by decide +kernel
theorem dL_law_1444 : decode code 1444 = .ok (.iaload, 1) := by decide +kernel
theorem dL_law_1445 : decode code 1445 = .ok (.invokevirtual 148, 3) := by decide +kernel
theorem dL_law_1448 : decode code 1448 = .ok (.aload_n 2, 1) := by decide +kernel
theorem dL_law_1449 : decode code 1449 = .ok (.aload_n 0, 1) := by decide +kernel
theorem dL_law_1450 : decode code 1450 = .ok (.iload 4, 2) := by decide +kernel
theorem dL_law_1452 : decode code 1452 = .ok (.iconst 1, 1) := by decide +kernel
theorem dL_law_1453 : decode code 1453 = .ok (.iadd, 1) := by decide +kernel
theorem dL_law_1454 : decode code 1454 = .ok (.iaload, 1) := by decide +kernel
theorem dL_law_1455 : decode code 1455 = .ok (.invokevirtual 151, 3) := by decide +kernel
theorem dL_law_1458 : decode code 1458 = .ok (.if_icmp .eq 612, 3) := by decide +kernel
theorem dL_law_1463 : decode code 1463 = .ok (.aload_n 1, 1) := by decide +kernel
theorem dL_law_1464 : decode code 1464 = .ok (.aload_n 0, 1) := by decide +kernel
theorem dL_law_1465 : decode code 1465 = .ok (.iload 4, 2) := by decide +kernel
theorem dL_law_1467 : decode code 1467 = .ok (.iconst 1, 1) := by decide +kernel
theorem dL_law_1468 : decode code 1468 = .ok (.iadd, 1) := by decide +kernel
theorem dL_law_1469 : decode code 1469 = .ok (.iaload, 1) := by decide +kernel
theorem dL_law_1470 : decode code 1470 = .ok (.aload_n 0, 1) := by decide +kernel
theorem dL_law_1471 : decode code 1471 = .ok (.iload 4, 2) := by decide +kernel
theorem dL_law_1473 : decode code 1473 = .ok (.iconst 2, 1) := by decide +kernel
theorem dL_law_1474 : decode code 1474 = .ok (.iadd, 1) := by decide +kernel
theorem dL_law_1475 : decode code 1475 = .ok (.iaload, 1) := by decide +kernel
theorem dL_law_1476 : decode code 1476 = .ok (.invokevirtual 152, 3) := by decide +kernel
theorem dL_law_1479 : decode code 1479 = .ok (.aload_n 2, 1) := by decide +kernel
theorem dL_law_1480 : decode code 1480 = .ok (.aload_n 0, 1) := by decide +kernel
theorem dL_law_1481 : decode code 1481 = .ok (.iload 4, 2) := by decide +kernel
theorem dL_law_1483 : decode code 1483 = .ok (.iconst 1, 1) := by decide +kernel
theorem dL_law_1484 : decode code 1484 = .ok (.iadd, 1) := by decide +kernel
theorem dL_law_1485 : decode code 1485 = .ok (.iaload, 1) := by decide +kernel
theorem dL_law_1486 : decode code 1486 = .ok (.aload_n 0, 1) := by decide +kernel
theorem dL_law_1487 : decode code 1487 = .ok (.iload 4, 2) := by decide +kernel
theorem dL_law_1489 : decode code 1489 = .ok (.iconst 2, 1) := by decide +kernel
theorem dL_law_1490 : decode code 1490 = .ok (.iadd, 1) := by decide +kernel
theorem dL_law_1491 : decode code 1491 = .ok (.iaload, 1) := by decide +kernel
theorem dL_law_1492 : decode code 1492 = .ok (.invokevirtual 155, 3) := by decide +kernel
theorem dL_law_1495 : decode code 1495 = .ok (.if_icmp .eq 575, 3) := by decide +kernel
theorem dL_law_1500 : decode code 1500 = .ok (.aload_n 1, 1) := by decide +kernel
theorem dL_law_1501 : decode code 1501 = .ok (.aload_n 0, 1) := by decide +kernel
theorem dL_law_1502 : decode code 1502 = .ok (.iload 4, 2) := by decide +kernel
theorem dL_law_1504 : decode code 1504 = .ok (.iconst 1, 1) := by decide +kernel
theorem dL_law_1505 : decode code 1505 = .ok (.iadd, 1) := by decide +kernel
theorem dL_law_1506 : decode code 1506 = .ok (.iaload, 1) := by decide +kernel
theorem dL_law_1507 : decode code 1507 = .ok (.aload_n 0, 1) := by decide +kernel
theorem dL_law_1508 : decode code 1508 = .ok (.iload 4, 2) := by decide +kernel
theorem dL_law_1510 : decode code 1510 = .ok (.iconst 2, 1) := by decide +kernel
theorem dL_law_1511 : decode code 1511 = .ok (.iadd, 1) := by decide +kernel
theorem dL_law_1512 : decode code 1512 = .ok (.iaload, 1) := by decide +kernel
theorem dL_law_1513 : decode code 1513 = .ok (.invokevirtual 156, 3) := by decide +kernel
theorem dL_law_1516 : decode code 1516 = .ok (.aload_n 2, 1) := by decide +kernel
theorem dL_law_1517 : decode code 1517 = .ok (.aload_n 0, 1) := by decide +kernel
theorem dL_law_1518 : decode code 1518 = .ok (.iload 4, 2) := by decide +kernel
theorem dL_law_1520 : decode code 1520 = .ok (.iconst 1, 1) := by decide +kernel
theorem dL_law_1521 : decode code 1521 = .ok (.iadd, 1) := by decide +kernel
theorem dL_law_1522 : decode code 1522 = .ok (.iaload, 1) := by decide +kernel
theorem dL_law_1523 : decode code 1523 = .ok (.aload_n 0, 1) := by decide +kernel
theorem dL_law_1524 : decode code 1524 = .ok (.iload 4, 2) := by decide +kernel
theorem dL_law_1526 : decode code 1526 = .ok (.iconst 2, 1) := by decide +kernel
theorem dL_law_1527 : decode code 1527 = .ok (.iadd, 1) := by decide +kernel
theorem dL_law_1528 : decode code 1528 = .ok (.iaload, 1) := by decide +kernel
theorem dL_law_1529 : decode code 1529 = .ok (.invokevirtual 159, 3) := by decide +kernel
theorem dL_law_1532 : decode code 1532 = .ok (.if_icmp .eq 538, 3) := by decide +kernel
theorem dL_law_1537 : decode code 1537 = .ok (.aload_n 1, 1) := by decide +kernel
theorem dL_law_1538 : decode code 1538 = .ok (.aload_n 0, 1) := by decide +kernel
theorem dL_law_1539 : decode code 1539 = .ok (.iload 4, 2) := by decide +kernel
theorem dL_law_1541 : decode code 1541 = .ok (.iconst 1, 1) := by decide +kernel
theorem dL_law_1542 : decode code 1542 = .ok (.iadd, 1) := by decide +kernel
theorem dL_law_1543 : decode code 1543 = .ok (.iaload, 1) := by decide +kernel
theorem dL_law_1544 : decode code 1544 = .ok (.invokevirtual 160, 3) := by decide +kernel
theorem dL_law_1547 : decode code 1547 = .ok (.aload_n 2, 1) := by decide +kernel
theorem dL_law_1548 : decode code 1548 = .ok (.aload_n 0, 1) := by decide +kernel
theorem dL_law_1549 : decode code 1549 = .ok (.iload 4, 2) := by decide +kernel
theorem dL_law_1551 : decode code 1551 = .ok (.iconst 1, 1) := by decide +kernel
theorem dL_law_1552 : decode code 1552 = .ok (.iadd, 1) := by decide +kernel
theorem dL_law_1553 : decode code 1553 = .ok (.iaload, 1) := by decide +kernel
theorem dL_law_1554 : decode code 1554 = .ok (.invokevirtual 163, 3) := by decide +kernel
theorem dL_law_1557 : decode code 1557 = .ok (.if_icmp .eq 513, 3) := by decide +kernel
theorem dL_law_1562 : decode code 1562 = .ok (.aload_n 1, 1) := by decide +kernel
theorem dL_law_1563 : decode code 1563 = .ok (.invokevirtual 164, 3) := by decide +kernel
theorem dL_law_1566 : decode code 1566 = .ok (.aload_n 2, 1) := by decide +kernel
theorem dL_law_1567 : decode code 1567 = .ok (.invokevirtual 167, 3) := by decide +kernel
theorem dL_law_1570 : decode code 1570 = .ok (.if_icmp .eq 500, 3) := by decide +kernel
theorem dL_law_1575 : decode code 1575 = .ok (.aload_n 1, 1) := by decide +kernel
theorem dL_law_1576 : decode code 1576 = .ok (.invokevirtual 168, 3) := by decide +kernel
theorem dL_law_1579 : decode code 1579 = .ok (.aload_n 2, 1) := by decide +kernel
theorem dL_law_1580 : decode code 1580 = .ok (.invokevirtual 171, 3) := by decide +kernel
theorem dL_law_1583 : decode code 1583 = .ok (.if_icmp .eq 487, 3) := by decide +kernel
theorem dL_law_1588 : decode code 1588 = .ok (.aload_n 1, 1) := by decide +kernel
theorem dL_law_1589 : decode code 1589 = .ok (.aload_n 0, 1) := by decide +kernel
theorem dL_law_1590 : decode code 1590 = .ok (.iload 4, 2) := by decide +kernel
theorem dL_law_1592 : decode code 1592 = .ok (.iconst 1, 1) := by decide +kernel
theorem dL_law_1593 : decode code 1593 = .ok (.iadd, 1) := by decide +kernel
theorem dL_law_1594 : decode code 1594 = .ok (.iaload, 1) := by decide +kernel
theorem dL_law_1595 : decode code 1595 = .ok (.aload_n 0, 1) := by decide +kernel
theorem dL_law_1596 : decode code 1596 = .ok (.iload 4, 2) := by decide +kernel
theorem dL_law_1598 : decode code 1598 = .ok (.iconst 2, 1) := by decide +kernel
theorem dL_law_1599 : decode code 1599 = .ok (.iadd, 1) := by decide +kernel
theorem dL_law_1600 : decode code 1600 = .ok (.iaload, 1) := by decide +kernel
theorem dL_law_1601 : decode code 1601 = .ok (.invokevirtual 172, 3) := by decide +kernel
theorem dL_law_1604 : decode code 1604 = .ok (.aload_n 2, 1) := by decide +kernel
theorem dL_law_1605 : decode code 1605 = .ok (.aload_n 0, 1) := by decide +kernel
theorem dL_law_1606 : decode code 1606 = .ok (.iload 4, 2) := by decide +kernel
theorem dL_law_1608 : decode code 1608 = .ok (.iconst 1, 1) := by decide +kernel
theorem dL_law_1609 : decode code 1609 = .ok (.iadd, 1) := by decide +kernel
theorem dL_law_1610 : decode code 1610 = .ok (.iaload, 1) := by decide +kernel
theorem dL_law_1611 : decode code 1611 = .ok (.aload_n 0, 1) := by decide +kernel
theorem dL_law_1612 : decode code 1612 = .ok (.iload 4, 2) := by decide +kernel
theorem dL_law_1614 : decode code 1614 = .ok (.iconst 2, 1) := by decide +kernel
theorem dL_law_1615 : decode code 1615 = .ok (.iadd, 1) := by decide +kernel
theorem dL_law_1616 : decode code 1616 = .ok (.iaload, 1) := by decide +kernel
theorem dL_law_1617 : decode code 1617 = .ok (.invokevirtual 175, 3) := by decide +kernel
theorem dL_law_1620 : decode code 1620 = .ok (.if_icmp .eq 450, 3) := by decide +kernel
theorem dL_law_1625 : decode code 1625 = .ok (.aload_n 1, 1) := by decide +kernel
theorem dL_law_1626 : decode code 1626 = .ok (.aload_n 0, 1) := by decide +kernel
theorem dL_law_1627 : decode code 1627 = .ok (.iload 4, 2) := by decide +kernel
theorem dL_law_1629 : decode code 1629 = .ok (.iconst 1, 1) := by decide +kernel
theorem dL_law_1630 : decode code 1630 = .ok (.iadd, 1) := by decide +kernel
theorem dL_law_1631 : decode code 1631 = .ok (.iaload, 1) := by decide +kernel
theorem dL_law_1632 : decode code 1632 = .ok (.invokevirtual 176, 3) := by decide +kernel
theorem dL_law_1635 : decode code 1635 = .ok (.aload_n 2, 1) := by decide +kernel
theorem dL_law_1636 : decode code 1636 = .ok (.aload_n 0, 1) := by decide +kernel
theorem dL_law_1637 : decode code 1637 = .ok (.iload 4, 2) := by decide +kernel
theorem dL_law_1639 : decode code 1639 = .ok (.iconst 1, 1) := by decide +kernel
theorem dL_law_1640 : decode code 1640 = .ok (.iadd, 1) := by decide +kernel
theorem dL_law_1641 : decode code 1641 = .ok (.iaload, 1) := by decide +kernel
theorem dL_law_1642 : decode code 1642 = .ok (.invokevirtual 179, 3) := by decide +kernel
theorem dL_law_1645 : decode code 1645 = .ok (.if_icmp .eq 425, 3) := by decide +kernel
theorem dL_law_1650 : decode code 1650 = .ok (.aload_n 1, 1) := by decide +kernel
theorem dL_law_1651 : decode code 1651 = .ok (.aload_n 0, 1) := by decide +kernel
theorem dL_law_1652 : decode code 1652 = .ok (.iload 4, 2) := by decide +kernel
theorem dL_law_1654 : decode code 1654 = .ok (.iconst 1, 1) := by decide +kernel
theorem dL_law_1655 : decode code 1655 = .ok (.iadd, 1) := by decide +kernel
theorem dL_law_1656 : decode code 1656 = .ok (.iaload, 1) := by decide +kernel
theorem dL_law_1657 : decode code 1657 = .ok (.invokevirtual 180, 3) := by decide +kernel
theorem dL_law_1660 : decode code 1660 = .ok (.aload_n 2, 1) := by decide +kernel
theorem dL_law_1661 : decode code 1661 = .ok (.aload_n 0, 1) := by decide +kernel
theorem dL_law_1662 : decode code 1662 = .ok (.iload 4, 2) := by decide +kernel
theorem dL_law_1664 : decode code 1664 = .ok (.iconst 1, 1) := by decide +kernel
theorem dL_law_1665 : decode code 1665 = .ok (.iadd, 1) := by decide +kernel
theorem dL_law_1666 : decode code 1666 = .ok (.iaload, 1) := by decide +kernel
theorem dL_law_1667 : decode code 1667 = .ok (.invokevirtual 183, 3) := by decide +kernel
theorem dL_law_1670 : decode code 1670 = .ok (.if_icmp .eq 400, 3) := by decide +kernel
theorem dL_law_1675 : decode code 1675 = .ok (.aload_n 1, 1) := by decide +kernel
theorem dL_law_1676 : decode code 1676 = .ok (.aload_n 0, 1) := by decide +kernel
theorem dL_law_1677 : decode code 1677 = .ok (.iload 4, 2) := by decide +kernel
theorem dL_law_1679 : decode code 1679 = .ok (.iconst 1, 1) := by decide +kernel
theorem dL_law_1680 : decode code 1680 = .ok (.iadd, 1) := by decide +kernel
theorem dL_law_1681 : decode code 1681 = .ok (.iaload, 1) := by decide +kernel
theorem dL_law_1682 : decode code 1682 = .ok (.aload_n 0, 1) := by decide +kernel
theorem dL_law_1683 : decode code 1683 = .ok (.iload 4, 2) := by decide +kernel
theorem dL_law_1685 : decode code 1685 = .ok (.iconst 2, 1) := by decide +kernel
theorem dL_law_1686 : decode code 1686 = .ok (.iadd, 1) := by decide +kernel
theorem dL_law_1687 : decode code 1687 = .ok (.iaload, 1) := by decide +kernel
theorem dL_law_1688 : decode code 1688 = .ok (.aload_n 0, 1) := by decide +kernel
theorem dL_law_1689 : decode code 1689 = .ok (.iload 4, 2) := by decide +kernel
theorem dL_law_1691 : decode code 1691 = .ok (.iconst 3, 1) := by decide +kernel
theorem dL_law_1692 : decode code 1692 = .ok (.iadd, 1) := by decide +kernel
theorem dL_law_1693 : decode code 1693 = .ok (.iaload, 1) := by decide +kernel
theorem dL_law_1694 : decode code 1694 = .ok (.invokevirtual 184, 3) := by decide +kernel
theorem dL_law_1697 : decode code 1697 = .ok (.aload_n 2, 1) := by decide +kernel
theorem dL_law_1698 : decode code 1698 = .ok (.aload_n 0, 1) := by decide +kernel
theorem dL_law_1699 : decode code 1699 = .ok (.iload 4, 2) := by decide +kernel
theorem dL_law_1701 : decode code 1701 = .ok (.iconst 1, 1) := by decide +kernel
theorem dL_law_1702 : decode code 1702 = .ok (.iadd, 1) := by decide +kernel
theorem dL_law_1703 : decode code 1703 = .ok (.iaload, 1) := by decide +kernel
theorem dL_law_1704 : decode code 1704 = .ok (.aload_n 0, 1) := by decide +kernel
theorem dL_law_1705 : decode code 1705 = .ok (.iload 4, 2) := by decide +kernel
theorem dL_law_1707 : decode code 1707 = .ok (.iconst 2, 1) := by decide +kernel
theorem dL_law_1708 : decode code 1708 = .ok (.iadd, 1) := by decide +kernel
theorem dL_law_1709 : decode code 1709 = .ok (.iaload, 1) := by decide +kernel
theorem dL_law_1710 : decode code 1710 = .ok (.aload_n 0, 1) := by decide +kernel
theorem dL_law_1711 : decode code 1711 = .ok (.iload 4, 2) := by decide +kernel
theorem dL_law_1713 : decode code 1713 = .ok (.iconst 3, 1) := by decide +kernel
theorem dL_law_1714 : decode code 1714 = .ok (.iadd, 1) := by decide +kernel
theorem dL_law_1715 : decode code 1715 = .ok (.iaload, 1) := by decide +kernel
theorem dL_law_1716 : decode code 1716 = .ok (.invokevirtual 187, 3) := by decide +kernel
theorem dL_law_1719 : decode code 1719 = .ok (.if_icmp .eq 351, 3) := by decide +kernel
theorem dL_law_1724 : decode code 1724 = .ok (.aload_n 1, 1) := by decide +kernel
theorem dL_law_1725 : decode code 1725 = .ok (.aload_n 0, 1) := by decide +kernel
theorem dL_law_1726 : decode code 1726 = .ok (.iload 4, 2) := by decide +kernel
theorem dL_law_1728 : decode code 1728 = .ok (.iconst 1, 1) := by decide +kernel
theorem dL_law_1729 : decode code 1729 = .ok (.iadd, 1) := by decide +kernel
theorem dL_law_1730 : decode code 1730 = .ok (.iaload, 1) := by decide +kernel
theorem dL_law_1731 : decode code 1731 = .ok (.invokevirtual 188, 3) := by decide +kernel
theorem dL_law_1734 : decode code 1734 = .ok (.aload_n 2, 1) := by decide +kernel
theorem dL_law_1735 : decode code 1735 = .ok (.aload_n 0, 1) := by decide +kernel
theorem dL_law_1736 : decode code 1736 = .ok (.iload 4, 2) := by decide +kernel
theorem dL_law_1738 : decode code 1738 = .ok (.iconst 1, 1) := by decide +kernel
theorem dL_law_1739 : decode code 1739 = .ok (.iadd, 1) := by decide +kernel
theorem dL_law_1740 : decode code 1740 = .ok (.iaload, 1) := by decide +kernel
theorem dL_law_1741 : decode code 1741 = .ok (.invokevirtual 191, 3) := by decide +kernel
theorem dL_law_1744 : decode code 1744 = .ok (.if_icmp .eq 326, 3) := by decide +kernel
theorem dL_law_1749 : decode code 1749 = .ok (.aload_n 1, 1) := by decide +kernel
theorem dL_law_1750 : decode code 1750 = .ok (.aload_n 0, 1) := by decide +kernel
theorem dL_law_1751 : decode code 1751 = .ok (.iload 4, 2) := by decide +kernel
theorem dL_law_1753 : decode code 1753 = .ok (.iconst 1, 1) := by decide +kernel
theorem dL_law_1754 : decode code 1754 = .ok (.iadd, 1) := by decide +kernel
theorem dL_law_1755 : decode code 1755 = .ok (.iaload, 1) := by decide +kernel
theorem dL_law_1756 : decode code 1756 = .ok (.invokevirtual 192, 3) := by decide +kernel
theorem dL_law_1759 : decode code 1759 = .ok (.aload_n 2, 1) := by decide +kernel
theorem dL_law_1760 : decode code 1760 = .ok (.aload_n 0, 1) := by decide +kernel
theorem dL_law_1761 : decode code 1761 = .ok (.iload 4, 2) := by decide +kernel
theorem dL_law_1763 : decode code 1763 = .ok (.iconst 1, 1) := by decide +kernel
theorem dL_law_1764 : decode code 1764 = .ok (.iadd, 1) := by decide +kernel
theorem dL_law_1765 : decode code 1765 = .ok (.iaload, 1) := by decide +kernel
theorem dL_law_1766 : decode code 1766 = .ok (.invokevirtual 195, 3) := by decide +kernel
theorem dL_law_1769 : decode code 1769 = .ok (.if_icmp .eq 301, 3) := by decide +kernel
theorem dL_law_1774 : decode code 1774 = .ok (.aload_n 1, 1) := by decide +kernel
theorem dL_law_1775 : decode code 1775 = .ok (.aload_n 0, 1) := by decide +kernel
theorem dL_law_1776 : decode code 1776 = .ok (.iload 4, 2) := by decide +kernel
theorem dL_law_1778 : decode code 1778 = .ok (.iconst 1, 1) := by decide +kernel
theorem dL_law_1779 : decode code 1779 = .ok (.iadd, 1) := by decide +kernel
theorem dL_law_1780 : decode code 1780 = .ok (.iaload, 1) := by decide +kernel
theorem dL_law_1781 : decode code 1781 = .ok (.invokevirtual 196, 3) := by decide +kernel
theorem dL_law_1784 : decode code 1784 = .ok (.aload_n 2, 1) := by decide +kernel
theorem dL_law_1785 : decode code 1785 = .ok (.aload_n 0, 1) := by decide +kernel
theorem dL_law_1786 : decode code 1786 = .ok (.iload 4, 2) := by decide +kernel
theorem dL_law_1788 : decode code 1788 = .ok (.iconst 1, 1) := by decide +kernel
theorem dL_law_1789 : decode code 1789 = .ok (.iadd, 1) := by decide +kernel
theorem dL_law_1790 : decode code 1790 = .ok (.iaload, 1) := by decide +kernel
theorem dL_law_1791 : decode code 1791 = .ok (.invokevirtual 199, 3) := by decide +kernel
theorem dL_law_1794 : decode code 1794 = .ok (.if_icmp .eq 276, 3) := by decide +kernel
theorem dL_law_1799 : decode code 1799 = .ok (.aload_n 1, 1) := by decide +kernel
theorem dL_law_1800 : decode code 1800 = .ok (.aload_n 0, 1) := by decide +kernel
theorem dL_law_1801 : decode code 1801 = .ok (.iload 4, 2) := by decide +kernel
theorem dL_law_1803 : decode code 1803 = .ok (.iconst 1, 1) := by decide +kernel
theorem dL_law_1804 : decode code 1804 = .ok (.iadd, 1) := by decide +kernel
theorem dL_law_1805 : decode code 1805 = .ok (.iaload, 1) := by decide +kernel
theorem dL_law_1806 : decode code 1806 = .ok (.invokevirtual 200, 3) := by decide +kernel
theorem dL_law_1809 : decode code 1809 = .ok (.aload_n 2, 1) := by decide +kernel
theorem dL_law_1810 : decode code 1810 = .ok (.aload_n 0, 1) := by decide +kernel
theorem dL_law_1811 : decode code 1811 = .ok (.iload 4, 2) := by decide +kernel
theorem dL_law_1813 : decode code 1813 = .ok (.iconst 1, 1) := by decide +kernel
theorem dL_law_1814 : decode code 1814 = .ok (.iadd, 1) := by decide +kernel
theorem dL_law_1815 : decode code 1815 = .ok (.iaload, 1) := by decide +kernel
theorem dL_law_1816 : decode code 1816 = .ok (.invokevirtual 203, 3) := by decide +kernel
theorem dL_law_1819 : decode code 1819 = .ok (.if_icmp .eq 251, 3) := by decide +kernel
theorem dL_law_1824 : decode code 1824 = .ok (.aload_n 1, 1) := by decide +kernel
theorem dL_law_1825 : decode code 1825 = .ok (.aload_n 0, 1) := by decide +kernel
theorem dL_law_1826 : decode code 1826 = .ok (.iload 4, 2) := by decide +kernel
theorem dL_law_1828 : decode code 1828 = .ok (.iconst 1, 1) := by decide +kernel
theorem dL_law_1829 : decode code 1829 = .ok (.iadd, 1) := by decide +kernel
theorem dL_law_1830 : decode code 1830 = .ok (.iaload, 1) := by decide +kernel
theorem dL_law_1831 : decode code 1831 = .ok (.aload_n 0, 1) := by decide +kernel
theorem dL_law_1832 : decode code 1832 = .ok (.iload 4, 2) := by decide +kernel
theorem dL_law_1834 : decode code 1834 = .ok (.iconst 2, 1) := by decide +kernel
theorem dL_law_1835 : decode code 1835 = .ok (.iadd, 1) := by decide +kernel
theorem dL_law_1836 : decode code 1836 = .ok (.iaload, 1) := by decide +kernel
theorem dL_law_1837 : decode code 1837 = .ok (.aload_n 0, 1) := by decide +kernel
theorem dL_law_1838 : decode code 1838 = .ok (.iload 4, 2) := by decide +kernel
theorem dL_law_1840 : decode code 1840 = .ok (.iconst 3, 1) := by decide +kernel
theorem dL_law_1841 : decode code 1841 = .ok (.iadd, 1) := by decide +kernel
theorem dL_law_1842 : decode code 1842 = .ok (.iaload, 1) := by decide +kernel
theorem dL_law_1843 : decode code 1843 = .ok (.i2l, 1) := by decide +kernel
theorem dL_law_1844 : decode code 1844 = .ok (.bipush 32, 2) := by decide +kernel
theorem dL_law_1846 : decode code 1846 = .ok (.lshl, 1) := by decide +kernel
theorem dL_law_1847 : decode code 1847 = .ok (.aload_n 0, 1) := by decide +kernel
theorem dL_law_1848 : decode code 1848 = .ok (.iload 4, 2) := by decide +kernel
theorem dL_law_1850 : decode code 1850 = .ok (.iconst 4, 1) := by decide +kernel
theorem dL_law_1851 : decode code 1851 = .ok (.iadd, 1) := by decide +kernel
theorem dL_law_1852 : decode code 1852 = .ok (.iaload, 1) := by decide +kernel
theorem dL_law_1853 : decode code 1853 = .ok (.i2l, 1) := by decide +kernel
theorem dL_law_1854 : decode code 1854 = .ok (.ldc2_w 204, 3) := by decide +kernel
theorem dL_law_1857 : decode code 1857 = .ok (.land, 1) := by decide +kernel
theorem dL_law_1858 : decode code 1858 = .ok (.lor, 1) := by decide +kernel
theorem dL_law_1859 : decode code 1859 = .ok (.invokevirtual 206, 3) := by decide +kernel
theorem dL_law_1862 : decode code 1862 = .ok (.aload_n 2, 1) := by decide +kernel
theorem dL_law_1863 : decode code 1863 = .ok (.aload_n 0, 1) := by decide +kernel
theorem dL_law_1864 : decode code 1864 = .ok (.iload 4, 2) := by decide +kernel
theorem dL_law_1866 : decode code 1866 = .ok (.iconst 1, 1) := by decide +kernel
theorem dL_law_1867 : decode code 1867 = .ok (.iadd, 1) := by decide +kernel
theorem dL_law_1868 : decode code 1868 = .ok (.iaload, 1) := by decide +kernel
theorem dL_law_1869 : decode code 1869 = .ok (.aload_n 0, 1) := by decide +kernel
theorem dL_law_1870 : decode code 1870 = .ok (.iload 4, 2) := by decide +kernel
theorem dL_law_1872 : decode code 1872 = .ok (.iconst 2, 1) := by decide +kernel
theorem dL_law_1873 : decode code 1873 = .ok (.iadd, 1) := by decide +kernel
theorem dL_law_1874 : decode code 1874 = .ok (.iaload, 1) := by decide +kernel
theorem dL_law_1875 : decode code 1875 = .ok (.aload_n 0, 1) := by decide +kernel
theorem dL_law_1876 : decode code 1876 = .ok (.iload 4, 2) := by decide +kernel
theorem dL_law_1878 : decode code 1878 = .ok (.iconst 3, 1) := by decide +kernel
theorem dL_law_1879 : decode code 1879 = .ok (.iadd, 1) := by decide +kernel
theorem dL_law_1880 : decode code 1880 = .ok (.iaload, 1) := by decide +kernel
theorem dL_law_1881 : decode code 1881 = .ok (.i2l, 1) := by decide +kernel
theorem dL_law_1882 : decode code 1882 = .ok (.bipush 32, 2) := by decide +kernel
theorem dL_law_1884 : decode code 1884 = .ok (.lshl, 1) := by decide +kernel
theorem dL_law_1885 : decode code 1885 = .ok (.aload_n 0, 1) := by decide +kernel
theorem dL_law_1886 : decode code 1886 = .ok (.iload 4, 2) := by decide +kernel
theorem dL_law_1888 : decode code 1888 = .ok (.iconst 4, 1) := by decide +kernel
theorem dL_law_1889 : decode code 1889 = .ok (.iadd, 1) := by decide +kernel
theorem dL_law_1890 : decode code 1890 = .ok (.iaload, 1) := by decide +kernel
theorem dL_law_1891 : decode code 1891 = .ok (.i2l, 1) := by decide +kernel
theorem dL_law_1892 : decode code 1892 = .ok (.ldc2_w 204, 3) := by decide +kernel
theorem dL_law_1895 : decode code 1895 = .ok (.land, 1) := by decide +kernel
theorem dL_law_1896 : decode code 1896 = .ok (.lor, 1) := by decide +kernel
theorem dL_law_1897 : decode code 1897 = .ok (.invokevirtual 210, 3) := by decide +kernel
theorem dL_law_1900 : decode code 1900 = .ok (.if_icmp .eq 170, 3) := by decide +kernel
theorem dL_law_1905 : decode code 1905 = .ok (.aload_n 1, 1) := by decide +kernel
theorem dL_law_1906 : decode code 1906 = .ok (.aload_n 0, 1) := by decide +kernel
theorem dL_law_1907 : decode code 1907 = .ok (.iload 4, 2) := by decide +kernel
theorem dL_law_1909 : decode code 1909 = .ok (.iconst 1, 1) := by decide +kernel
theorem dL_law_1910 : decode code 1910 = .ok (.iadd, 1) := by decide +kernel
theorem dL_law_1911 : decode code 1911 = .ok (.iaload, 1) := by decide +kernel
theorem dL_law_1912 : decode code 1912 = .ok (.aload_n 0, 1) := by decide +kernel
theorem dL_law_1913 : decode code 1913 = .ok (.iload 4, 2) := by decide +kernel
theorem dL_law_1915 : decode code 1915 = .ok (.iconst 2, 1) := by decide +kernel
theorem dL_law_1916 : decode code 1916 = .ok (.iadd, 1) := by decide +kernel
theorem dL_law_1917 : decode code 1917 = .ok (.iaload, 1) := by decide +kernel
theorem dL_law_1918 : decode code 1918 = .ok (.aload_n 3, 1) := by decide +kernel
theorem dL_law_1919 : decode code 1919 = .ok (.invokestatic 211, 3) := by decide +kernel
theorem dL_law_1922 : decode code 1922 = .ok (.istore 5, 2) := by decide +kernel
theorem dL_law_1924 : decode code 1924 = .ok (.aload_n 2, 1) := by decide +kernel
theorem dL_law_1925 : decode code 1925 = .ok (.aload_n 0, 1) := by decide +kernel
theorem dL_law_1926 : decode code 1926 = .ok (.iload 4, 2) := by decide +kernel
theorem dL_law_1928 : decode code 1928 = .ok (.iconst 1, 1) := by decide +kernel
theorem dL_law_1929 : decode code 1929 = .ok (.iadd, 1) := by decide +kernel
theorem dL_law_1930 : decode code 1930 = .ok (.iaload, 1) := by decide +kernel
theorem dL_law_1931 : decode code 1931 = .ok (.aload_n 0, 1) := by decide +kernel
theorem dL_law_1932 : decode code 1932 = .ok (.iload 4, 2) := by decide +kernel
theorem dL_law_1934 : decode code 1934 = .ok (.iconst 2, 1) := by decide +kernel
theorem dL_law_1935 : decode code 1935 = .ok (.iadd, 1) := by decide +kernel
theorem dL_law_1936 : decode code 1936 = .ok (.iaload, 1) := by decide +kernel
theorem dL_law_1937 : decode code 1937 = .ok (.invokevirtual 214, 3) := by decide +kernel
theorem dL_law_1940 : decode code 1940 = .ok (.lstore 6, 2) := by decide +kernel
theorem dL_law_1942 : decode code 1942 = .ok (.aload_n 2, 1) := by decide +kernel
theorem dL_law_1943 : decode code 1943 = .ok (.invokevirtual 63, 3) := by decide +kernel
theorem dL_law_1946 : decode code 1946 = .ok (.iload 5, 2) := by decide +kernel
theorem dL_law_1948 : decode code 1948 = .ok (.if_icmp .eq 5, 3) := by decide +kernel
theorem dL_law_1953 : decode code 1953 = .ok (.iload 5, 2) := by decide +kernel
theorem dL_law_1955 : decode code 1955 = .ok (.ifCond .ne 14, 3) := by decide +kernel
theorem dL_law_1958 : decode code 1958 = .ok (.aload_n 3, 1) := by decide +kernel
theorem dL_law_1959 : decode code 1959 = .ok (.iconst 0, 1) := by decide +kernel
theorem dL_law_1960 : decode code 1960 = .ok (.laload, 1) := by decide +kernel
theorem dL_law_1961 : decode code 1961 = .ok (.lload 6, 2) := by decide +kernel
theorem dL_law_1963 : decode code 1963 = .ok (.lcmp, 1) := by decide +kernel
theorem dL_law_1964 : decode code 1964 = .ok (.ifCond .eq 5, 3) := by decide +kernel
theorem dL_law_1969 : decode code 1969 = .ok (.goto 101, 3) := by decide +kernel
theorem dL_law_1972 : decode code 1972 = .ok (.aload_n 1, 1) := by decide +kernel
theorem dL_law_1973 : decode code 1973 = .ok (.aload_n 0, 1) := by decide +kernel
theorem dL_law_1974 : decode code 1974 = .ok (.iload 4, 2) := by decide +kernel
theorem dL_law_1976 : decode code 1976 = .ok (.iconst 1, 1) := by decide +kernel
theorem dL_law_1977 : decode code 1977 = .ok (.iadd, 1) := by decide +kernel
theorem dL_law_1978 : decode code 1978 = .ok (.iaload, 1) := by decide +kernel
theorem dL_law_1979 : decode code 1979 = .ok (.aload_n 0, 1) := by decide +kernel
theorem dL_law_1980 : decode code 1980 = .ok (.iload 4, 2) := by decide +kernel
theorem dL_law_1982 : decode code 1982 = .ok (.iconst 2, 1) := by decide +kernel
theorem dL_law_1983 : decode code 1983 = .ok (.iadd, 1) := by decide +kernel
theorem dL_law_1984 : decode code 1984 = .ok (.iaload, 1) := by decide +kernel
theorem dL_law_1985 : decode code 1985 = .ok (.aload_n 0, 1) := by decide +kernel
theorem dL_law_1986 : decode code 1986 = .ok (.iload 4, 2) := by decide +kernel
theorem dL_law_1988 : decode code 1988 = .ok (.iconst 3, 1) := by decide +kernel
theorem dL_law_1989 : decode code 1989 = .ok (.iadd, 1) := by decide +kernel
theorem dL_law_1990 : decode code 1990 = .ok (.iaload, 1) := by decide +kernel
theorem dL_law_1991 : decode code 1991 = .ok (.aload_n 0, 1) := by decide +kernel
theorem dL_law_1992 : decode code 1992 = .ok (.iload 4, 2) := by decide +kernel
theorem dL_law_1994 : decode code 1994 = .ok (.iconst 4, 1) := by decide +kernel
theorem dL_law_1995 : decode code 1995 = .ok (.iadd, 1) := by decide +kernel
theorem dL_law_1996 : decode code 1996 = .ok (.iaload, 1) := by decide +kernel
theorem dL_law_1997 : decode code 1997 = .ok (.aload_n 0, 1) := by decide +kernel
theorem dL_law_1998 : decode code 1998 = .ok (.iload 4, 2) := by decide +kernel
theorem dL_law_2000 : decode code 2000 = .ok (.iconst 5, 1) := by decide +kernel
theorem dL_law_2001 : decode code 2001 = .ok (.iadd, 1) := by decide +kernel
theorem dL_law_2002 : decode code 2002 = .ok (.iaload, 1) := by decide +kernel
theorem dL_law_2003 : decode code 2003 = .ok (.invokevirtual 215, 3) := by decide +kernel
theorem dL_law_2006 : decode code 2006 = .ok (.aload_n 2, 1) := by decide +kernel
theorem dL_law_2007 : decode code 2007 = .ok (.aload_n 0, 1) := by decide +kernel
theorem dL_law_2008 : decode code 2008 = .ok (.iload 4, 2) := by decide +kernel
theorem dL_law_2010 : decode code 2010 = .ok (.iconst 1, 1) := by decide +kernel
theorem dL_law_2011 : decode code 2011 = .ok (.iadd, 1) := by decide +kernel
theorem dL_law_2012 : decode code 2012 = .ok (.iaload, 1) := by decide +kernel
theorem dL_law_2013 : decode code 2013 = .ok (.aload_n 0, 1) := by decide +kernel
theorem dL_law_2014 : decode code 2014 = .ok (.iload 4, 2) := by decide +kernel
theorem dL_law_2016 : decode code 2016 = .ok (.iconst 2, 1) := by decide +kernel
theorem dL_law_2017 : decode code 2017 = .ok (.iadd, 1) := by decide +kernel
theorem dL_law_2018 : decode code 2018 = .ok (.iaload, 1) := by decide +kernel
theorem dL_law_2019 : decode code 2019 = .ok (.aload_n 0, 1) := by decide +kernel
theorem dL_law_2020 : decode code 2020 = .ok (.iload 4, 2) := by decide +kernel
theorem dL_law_2022 : decode code 2022 = .ok (.iconst 3, 1) := by decide +kernel
theorem dL_law_2023 : decode code 2023 = .ok (.iadd, 1) := by decide +kernel
theorem dL_law_2024 : decode code 2024 = .ok (.iaload, 1) := by decide +kernel
theorem dL_law_2025 : decode code 2025 = .ok (.aload_n 0, 1) := by decide +kernel
theorem dL_law_2026 : decode code 2026 = .ok (.iload 4, 2) := by decide +kernel
theorem dL_law_2028 : decode code 2028 = .ok (.iconst 4, 1) := by decide +kernel
theorem dL_law_2029 : decode code 2029 = .ok (.iadd, 1) := by decide +kernel
theorem dL_law_2030 : decode code 2030 = .ok (.iaload, 1) := by decide +kernel
theorem dL_law_2031 : decode code 2031 = .ok (.aload_n 0, 1) := by decide +kernel
theorem dL_law_2032 : decode code 2032 = .ok (.iload 4, 2) := by decide +kernel
theorem dL_law_2034 : decode code 2034 = .ok (.iconst 5, 1) := by decide +kernel
theorem dL_law_2035 : decode code 2035 = .ok (.iadd, 1) := by decide +kernel
theorem dL_law_2036 : decode code 2036 = .ok (.iaload, 1) := by decide +kernel
theorem dL_law_2037 : decode code 2037 = .ok (.invokevirtual 218, 3) := by decide +kernel
theorem dL_law_2040 : decode code 2040 = .ok (.if_icmp .eq 30, 3) := by decide +kernel
theorem dL_law_2045 : decode code 2045 = .ok (.aload_n 1, 1) := by decide +kernel
theorem dL_law_2046 : decode code 2046 = .ok (.aload_n 0, 1) := by decide +kernel
theorem dL_law_2047 : decode code 2047 = .ok (.iload 4, 2) := by decide +kernel
theorem dL_law_2049 : decode code 2049 = .ok (.iconst 1, 1) := by decide +kernel
theorem dL_law_2050 : decode code 2050 = .ok (.iadd, 1) := by decide +kernel
theorem dL_law_2051 : decode code 2051 = .ok (.iaload, 1) := by decide +kernel
theorem dL_law_2052 : decode code 2052 = .ok (.invokevirtual 219, 3) := by decide +kernel
theorem dL_law_2055 : decode code 2055 = .ok (.aload_n 2, 1) := by decide +kernel
theorem dL_law_2056 : decode code 2056 = .ok (.aload_n 0, 1) := by decide +kernel
theorem dL_law_2057 : decode code 2057 = .ok (.iload 4, 2) := by decide +kernel
theorem dL_law_2059 : decode code 2059 = .ok (.iconst 1, 1) := by decide +kernel
theorem dL_law_2060 : decode code 2060 = .ok (.iadd, 1) := by decide +kernel
theorem dL_law_2061 : decode code 2061 = .ok (.iaload, 1) := by decide +kernel
theorem dL_law_2062 : decode code 2062 = .ok (.invokevirtual 222, 3) := by decide +kernel
theorem dL_law_2065 : decode code 2065 = .ok (.if_icmp .eq 5, 3) := by decide +kernel
theorem dL_law_2070 : decode code 2070 = .ok (.iinc 4 6, 3) := by decide +kernel
theorem dL_law_2073 : decode code 2073 = .ok (.goto (-2050), 3) := by decide +kernel
theorem dL_law_2076 : decode code 2076 = .ok (.iconst 1, 1) := by decide +kernel
theorem dL_law_2077 : decode code 2077 = .ok (.ireturn, 1) := by decide +kernel
