theorem dL_1144 : decode code 1144 = .ok (.iaload, 1) := by decide +kernel
theorem dL_1145 : decode code 1145 = .ok (.invokevirtual 138, 3) := by decide +kernel
theorem dL_1148 : decode code 1148 = .ok (.if_icmp .eq 268, 3) := by decide +kernel
theorem dL_1153 : decode code 1153 = .ok (.aload_n 1, 1) := by decide +kernel
theorem dL_1154 : decode code 1154 = .ok (.aload_n 0, 1) := by decide +kernel
theorem dL_1155 : decode code 1155 = .ok (.iload_n 3, 1) := by decide +kernel
theorem dL_1156 : decode code 1156 = .ok (.iconst 1, 1) := by decide +kernel
theorem dL_1157 : decode code 1157 = .ok (.iadd, 1) := by decide +kernel
theorem dL_1158 : decode code 1158 = .ok (.iaload, 1) := by decide +kernel
theorem dL_1159 : decode code 1159 = .ok (.invokevirtual 139, 3) := by decide +kernel
theorem dL_1162 : decode code 1162 = .ok (.aload_n 2, 1) := by decide +kernel
theorem dL_1163 : decode code 1163 = .ok (.aload_n 0, 1) := by decide +kernel
theorem dL_1164 : decode code 1164 = .ok (.iload_n 3, 1) := by decide +kernel
theorem dL_1165 : decode code 1165 = .ok (.iconst 1, 1) := by decide +kernel
theorem dL_1166 : decode code 1166 = .ok (.iadd, 1) := by decide +kernel
theorem dL_1167 : decode code 1167 = .ok (.iaload, 1) := by decide +kernel
theorem dL_1168 : decode code 1168 = .ok (.invokevirtual 142, 3) := by decide +kernel
theorem dL_1171 : decode code 1171 = .ok (.if_icmp .eq 245, 3) := by decide +kernel
theorem dL_1176 : decode code 1176 = .ok (.aload_n 1, 1) := by decide +kernel
theorem dL_1177 : decode code 1177 = .ok (.aload_n 0, 1) := by decide +kernel
theorem dL_1178 : decode code 1178 = .ok (.iload_n 3, 1) := by decide +kernel
theorem dL_1179 : decode code 1179 = .ok (.iconst 1, 1) := by decide +kernel
theorem dL_1180 : decode code 1180 = .ok (.iadd, 1) := by decide +kernel
theorem dL_1181 : decode code 1181 = .ok (.iaload, 1) := by decide +kernel
theorem dL_1182 : decode code 1182 = .ok (.aload_n 0, 1) := by decide +kernel
theorem dL_1183 : decode code 1183 = .ok (.iload_n 3, 1) := by decide +kernel
theorem dL_1184 : decode code 1184 = .ok (.iconst 2, 1) := by decide +kernel
theorem dL_1185 : decode code 1185 = .ok (.iadd, 1) := by decide +kernel
theorem dL_1186 : decode code 1186 = .ok (.iaload, 1) := by decide +kernel
theorem dL_1187 : decode code 1187 = .ok (.invokevirtual 143, 3) := by decide +kernel
theorem dL_1190 : decode code 1190 = .ok (.aload_n 2, 1) := by decide +kernel
theorem dL_1191 : decode code 1191 = .ok (.aload_n 0, 1) := by decide +kernel
theorem dL_1192 : decode code 1192 = .ok (.iload_n 3, 1) := by decide +kernel
theorem dL_1193 : decode code 1193 = .ok (.iconst 1, 1) := by decide +kernel
theorem dL_1194 : decode code 1194 = .ok (.iadd, 1) := by decide +kernel
theorem dL_1195 : decode code 1195 = .ok (.iaload, 1) := by decide +kernel
theorem dL_1196 : decode code 1196 = .ok (.aload_n 0, 1) := by decide +kernel
theorem dL_1197 : decode code 1197 = .ok (.iload_n 3, 1) := by decide +kernel
theorem dL_1198 : decode code 1198 = .ok (.iconst 2, 1) := by decide +kernel
theorem dL_1199 : decode code 1199 = .ok (.iadd, 1) := by decide +kernel
theorem dL_1200 : decode code 1200 = .ok (.iaload, 1) := by decide +kernel
theorem dL_1201 : decode code 1201 = .ok (.invokevirtual 146, 3) := by decide +kernel
theorem dL_1204 : decode code 1204 = .ok (.if_icmp .eq 212, 3) := by decide +kernel
theorem dL_1209 : decode code 1209 = .ok (.aload_n 1, 1) := by decide +kernel
theorem dL_1210 : decode code 1210 = .ok (.invokevirtual 147, 3) := by decide +kernel
theorem dL_1213 : decode code 1213 = .ok (.aload_n 2, 1) := by decide +kernel
theorem dL_1214 : decode code 1214 = .ok (.invokevirtual 150, 3) := by decide +kernel
theorem dL_1217 : decode code 1217 = .ok (.if_icmp .eq 199, 3) := by decide +kernel
theorem dL_1222 : decode code 1222 = .ok (.aload_n 1, 1) := by decide +kernel
theorem dL_1223 : decode code 1223 = .ok (.aload_n 0, 1) := by decide +kernel
theorem dL_1224 : decode code 1224 = .ok (.iload_n 3, 1) := by decide +kernel
theorem dL_1225 : decode code 1225 = .ok (.iconst 1, 1) := by decide +kernel
theorem dL_1226 : decode code 1226 = .ok (.iadd, 1) := by decide +kernel
theorem dL_1227 : decode code 1227 = .ok (.iaload, 1) := by decide +kernel
theorem dL_1228 : decode code 1228 = .ok (.invokevirtual 151, 3) := by decide +kernel
theorem dL_1231 : decode code 1231 = .ok (.aload_n 2, 1) := by decide +kernel
theorem dL_1232 : decode code 1232 = .ok (.aload_n 0, 1) := by decide +kernel
theorem dL_1233 : decode code 1233 = .ok (.iload_n 3, 1) := by decide +kernel
theorem dL_1234 : decode code 1234 = .ok (.iconst 1, 1) := by decide +kernel
theorem dL_1235 : decode code 1235 = .ok (.iadd, 1) := by decide +kernel
theorem dL_1236 : decode code 1236 = .ok (.iaload, 1) := by decide +kernel
theorem dL_1237 : decode code 1237 = .ok (.invokevirtual 154, 3) := by decide +kernel
theorem dL_1240 : decode code 1240 = .ok (.if_icmp .eq 176, 3) := by decide +kernel
theorem dL_1245 : decode code 1245 = .ok (.aload_n 1, 1) := by decide +kernel
theorem dL_1246 : decode code 1246 = .ok (.aload_n 0, 1) := by decide +kernel
theorem dL_1247 : decode code 1247 = .ok (.iload_n 3, 1) := by decide +kernel
theorem dL_1248 : decode code 1248 = .ok (.iconst 1, 1) := by decide +kernel
theorem dL_1249 : decode code 1249 = .ok (.iadd, 1) := by decide +kernel
theorem dL_1250 : decode code 1250 = .ok (.iaload, 1) := by decide +kernel
theorem dL_1251 : decode code 1251 = .ok (.invokevirtual 155, 3) := by decide +kernel
theorem dL_1254 : decode code 1254 = .ok (.aload_n 2, 1) := by decide +kernel
theorem dL_1255 : decode code 1255 = .ok (.aload_n 0, 1) := by decide +kernel
theorem dL_1256 : decode code 1256 = .ok (.iload_n 3, 1) := by decide +kernel
theorem dL_1257 : decode code 1257 = .ok (.iconst 1, 1) := by decide +kernel
theorem dL_1258 : decode code 1258 = .ok (.iadd, 1) := by decide +kernel
theorem dL_1259 : decode code 1259 = .ok (.iaload, 1) := by decide +kernel
theorem dL_1260 : decode code 1260 = .ok (.invokevirtual 158, 3) := by decide +kernel
theorem dL_1263 : decode code 1263 = .ok (.if_icmp .eq 153, 3) := by decide +kernel
theorem dL_1268 : decode code 1268 = .ok (.aload_n 1, 1) := by decide +kernel
theorem dL_1269 : decode code 1269 = .ok (.aload_n 0, 1) := by decide +kernel
theorem dL_1270 : decode code 1270 = .ok (.iload_n 3, 1) := by decide +kernel
theorem dL_1271 : decode code 1271 = .ok (.iconst 1, 1) := by decide +kernel
theorem dL_1272 : decode code 1272 = .ok (.iadd, 1) := by decide +kernel
theorem dL_1273 : decode code 1273 = .ok (.iaload, 1) := by decide +kernel
theorem dL_1274 : decode code 1274 = .ok (.aload_n 0, 1) := by decide +kernel
theorem dL_1275 : decode code 1275 = .ok (.iload_n 3, 1) := by decide +kernel
theorem dL_1276 : decode code 1276 = .ok (.iconst 2, 1) := by decide +kernel
theorem dL_1277 : decode code 1277 = .ok (.iadd, 1) := by decide +kernel
theorem dL_1278 : decode code 1278 = .ok (.iaload, 1) := by decide +kernel
theorem dL_1279 : decode code 1279 = .ok (.invokevirtual 159, 3) := by decide +kernel
theorem dL_1282 : decode code 1282 = .ok (.aload_n 2, 1) := by decide +kernel
theorem dL_1283 : decode code 1283 = .ok (.aload_n 0, 1) := by decide +kernel
theorem dL_1284 : decode code 1284 = .ok (.iload_n 3, 1) := by decide +kernel
theorem dL_1285 : decode code 1285 = .ok (.iconst 1, 1) := by decide +kernel
theorem dL_1286 : decode code 1286 = .ok (.iadd, 1) := by decide +kernel
theorem dL_1287 : decode code 1287 = .ok (.iaload, 1) := by decide +kernel
theorem dL_1288 : decode code 1288 = .ok (.aload_n 0, 1) := by decide +kernel
theorem dL_1289 : decode code 1289 = .ok (.iload_n 3, 1) := by decide +kernel
theorem dL_1290 : decode code 1290 = .ok (.iconst 2, 1) := by decide +kernel
theorem dL_1291 : decode code 1291 = .ok (.iadd, 1) := by decide +kernel
theorem dL_1292 : decode code 1292 = .ok (.iaload, 1) := by decide +kernel
theorem dL_1293 : decode code 1293 = .ok (.invokevirtual 162, 3) := by decide +kernel
theorem dL_1296 : decode code 1296 = .ok (.if_icmp .eq 120, 3) := by decide +kernel
theorem dL_1301 : decode code 1301 = .ok (.aload_n 1, 1) := by decide +kernel
theorem dL_1302 : decode code 1302 = .ok (.aload_n 0, 1) := by decide +kernel
theorem dL_1303 : decode code 1303 = .ok (.iload_n 3, 1) := by decide +kernel
theorem dL_1304 : decode code 1304 = .ok (.iconst 1, 1) := by decide +kernel
theorem dL_1305 : decode code 1305 = .ok (.iadd, 1) := by decide +kernel
theorem dL_1306 : decode code 1306 = .ok (.iaload, 1) := by decide +kernel
theorem dL_1307 : decode code 1307 = .ok (.aload_n 0, 1) := by decide +kernel
theorem dL_1308 : decode code 1308 = .ok (.iload_n 3, 1) := by decide +kernel
theorem dL_1309 : decode code 1309 = .ok (.iconst 2, 1) := by decide +kernel
theorem dL_1310 : decode code 1310 = .ok (.iadd, 1) := by decide +kernel
theorem dL_1311 : decode code 1311 = .ok (.iaload, 1) := by decide +kernel
theorem dL_1312 : decode code 1312 = .ok (.invokevirtual 163, 3) := by decide +kernel
theorem dL_1315 : decode code 1315 = .ok (.aload_n 2, 1) := by decide +kernel
theorem dL_1316 : decode code 1316 = .ok (.aload_n 0, 1) := by decide +kernel
theorem dL_1317 : decode code 1317 = .ok (.iload_n 3, 1) := by decide +kernel
theorem dL_1318 : decode code 1318 = .ok (.iconst 1, 1) := by decide +kernel
theorem dL_1319 : decode code 1319 = .ok (.iadd, 1) := by decide +kernel
theorem dL_1320 : decode code 1320 = .ok (.iaload, 1) := by decide +kernel
theorem dL_1321 : decode code 1321 = .ok (.aload_n 0, 1) := by decide +kernel
theorem dL_1322 : decode code 1322 = .ok (.iload_n 3, 1) := by decide +kernel
theorem dL_1323 : decode code 1323 = .ok (.iconst 2, 1) := by decide +kernel
theorem dL_1324 : decode code 1324 = .ok (.iadd, 1) := by decide +kernel
theorem dL_1325 : decode code 1325 = .ok (.iaload, 1) := by decide +kernel
theorem dL_1326 : decode code 1326 = .ok (.invokevirtual 166, 3) := by decide +kernel
theorem dL_1329 : decode code 1329 = .ok (.if_icmp .eq 87, 3) := by decide +kernel
theorem dL_1334 : decode code 1334 = .ok (.aload_n 1, 1) := by decide +kernel
theorem dL_1335 : decode code 1335 = .ok (.aload_n 0, 1) := by decide +kernel
theorem dL_1336 : decode code 1336 = .ok (.iload_n 3, 1) := by decide +kernel
theorem dL_1337 : decode code 1337 = .ok (.iconst 1, 1) := by decide +kernel
theorem dL_1338 : decode code 1338 = .ok (.iadd, 1) := by decide +kernel
theorem dL_1339 : decode code 1339 = .ok (.iaload, 1) := by decide +kernel
theorem dL_1340 : decode code 1340 = .ok (.invokevirtual 167, 3) := by decide +kernel
theorem dL_1343 : decode code 1343 = .ok (.aload_n 2, 1) := by decide +kernel
theorem dL_1344 : decode code 1344 = .ok (.aload_n 0, 1) := by decide +kernel
theorem dL_1345 : decode code 1345 = .ok (.iload_n 3, 1) := by decide +kernel
theorem dL_1346 : decode code 1346 = .ok (.iconst 1, 1) := by decide +kernel
theorem dL_1347 : decode code 1347 = .ok (.iadd, 1) := by decide +kernel
theorem dL_1348 : decode code 1348 = .ok (.iaload, 1) := by decide +kernel
theorem dL_1349 : decode code 1349 = .ok (.invokevirtual 170, 3) := by decide +kernel
theorem dL_1352 : decode code 1352 = .ok (.if_icmp .eq 64, 3) := by decide +kernel
theorem dL_1357 : decode code 1357 = .ok (.aload_n 1, 1) := by decide +kernel
theorem dL_1358 : decode code 1358 = .ok (.aload_n 0, 1) := by decide +kernel
theorem dL_1359 : decode code 1359 = .ok (.iload_n 3, 1) := by decide +kernel
theorem dL_1360 : decode code 1360 = .ok (.iconst 1, 1) := by decide +kernel
theorem dL_1361 : decode code 1361 = .ok (.iadd, 1) := by decide +kernel
theorem dL_1362 : decode code 1362 = .ok (.iaload, 1) := by decide +kernel
theorem dL_1363 : decode code 1363 = .ok (.invokevirtual 171, 3) := by decide +kernel
theorem dL_1366 : decode code 1366 = .ok (.aload_n 2, 1) := by decide +kernel
theorem dL_1367 : decode code 1367 = .ok (.aload_n 0, 1) := by decide +kernel
theorem dL_1368 : decode code 1368 = .ok (.iload_n 3, 1) := by decide +kernel
theorem dL_1369 : decode code 1369 = .ok (.iconst 1, 1) := by decide +kernel
theorem dL_1370 : decode code 1370 = .ok (.iadd, 1) := by decide +kernel
theorem dL_1371 : decode code 1371 = .ok (.iaload, 1) := by decide +kernel
theorem dL_1372 : decode code 1372 = .ok (.invokevirtual 174, 3) := by decide +kernel
theorem dL_1375 : decode code 1375 = .ok (.if_icmp .eq 41, 3) := by decide +kernel
theorem dL_1380 : decode code 1380 = .ok (.aload_n 1, 1) := by decide +kernel
theorem dL_1381 : decode code 1381 = .ok (.aload_n 0, 1) := by decide +kernel
theorem dL_1382 : decode code 1382 = .ok (.iload_n 3, 1) := by decide +kernel
theorem dL_1383 : decode code 1383 = .ok (.iconst 1, 1) := by decide +kernel
theorem dL_1384 : decode code 1384 = .ok (.iadd, 1) := by decide +kernel
theorem dL_1385 : decode code 1385 = .ok (.iaload, 1) := by decide +kernel
theorem dL_1386 : decode code 1386 = .ok (.invokevirtual 175, 3) := by decide +kernel
theorem dL_1389 : decode code 1389 = .ok (.aload_n 2, 1) := by decide +kernel
theorem dL_1390 : decode code 1390 = .ok (.aload_n 0, 1) := by decide +kernel
theorem dL_1391 : decode code 1391 = .ok (.iload_n 3, 1) := by decide +kernel
theorem dL_1392 : decode code 1392 = .ok (.iconst 1, 1) := by decide +kernel
theorem dL_1393 : decode code 1393 = .ok (.iadd, 1) := by decide +kernel
theorem dL_1394 : decode code 1394 = .ok (.iaload, 1) := by decide +kernel
theorem dL_1395 : decode code 1395 = .ok (.invokevirtual 178, 3) := by decide +kernel
theorem dL_1398 : decode code 1398 = .ok (.if_icmp .eq 18, 3) := by decide +kernel
theorem dL_1403 : decode code 1403 = .ok (.aload_n 1, 1) := by decide +kernel
theorem dL_1404 : decode code 1404 = .ok (.invokevirtual 179, 3) := by decide +kernel
theorem dL_1407 : decode code 1407 = .ok (.aload_n 2, 1) := by decide +kernel
theorem dL_1408 : decode code 1408 = .ok (.invokevirtual 182, 3) := by decide +kernel
theorem dL_1411 : decode code 1411 = .ok (.if_icmp .eq 5, 3) := by decide +kernel
theorem dL_1416 : decode code 1416 = .ok (.iinc 3 6, 3) := by decide +kernel
theorem dL_1419 : decode code 1419 = .ok (.goto (-1401), 3) := by decide +kernel
theorem dL_1422 : decode code 1422 = .ok (.iconst 1, 1) := by decide +kernel
theorem dL_1423 : decode code 1423 = .ok (.ireturn, 1) := by decide +kernel
