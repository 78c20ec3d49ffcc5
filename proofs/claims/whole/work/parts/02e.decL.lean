/-! decode rows of the law's body, 5 -/
theorem dL_law_1238 : decode code 1238 = .ok (.iload 6, 2) := by decide +kernel
theorem dL_law_1240 : decode code 1240 = .ok (.ifCond .eq 7, 3) := by decide +kernel
theorem dL_law_1243 : decode code 1243 = .ok (.lconst 1, 1) := by decide +kernel
theorem dL_law_1244 : decode code 1244 = .ok (.goto 4, 3) := by decide +kernel
theorem dL_law_1247 : decode code 1247 = .ok (.lconst 0, 1) := by decide +kernel
theorem dL_law_1248 : decode code 1248 = .ok (.lcmp, 1) := by decide +kernel
theorem dL_law_1249 : decode code 1249 = .ok (.ifCond .eq 5, 3) := by decide +kernel
theorem dL_law_1252 : decode code 1252 = .ok (.iconst 0, 1) := by decide +kernel
theorem dL_law_1253 : decode code 1253 = .ok (.ireturn, 1) := by decide +kernel
theorem dL_law_1254 : decode code 1254 = .ok (.goto 2227, 3) := by decide +kernel
theorem dL_law_1257 : decode code 1257 = .ok (.aload_n 1, 1) := by decide +kernel
theorem dL_law_1258 : decode code 1258 = .ok (.aload_n 0, 1) := by decide +kernel
theorem dL_law_1259 : decode code 1259 = .ok (.iload 4, 2) := by decide +kernel
theorem dL_law_1261 : decode code 1261 = .ok (.iconst 1, 1) := by decide +kernel
theorem dL_law_1262 : decode code 1262 = .ok (.iadd, 1) := by decide +kernel
theorem dL_law_1263 : decode code 1263 = .ok (.iaload, 1) := by decide +kernel
theorem dL_law_1264 : decode code 1264 = .ok (.aload_n 3, 1) := by decide +kernel
theorem dL_law_1265 : decode code 1265 = .ok (.invokestatic 243, 3) := by decide +kernel
theorem dL_law_1268 : decode code 1268 = .ok (.istore 5, 2) := by decide +kernel
theorem dL_law_1270 : decode code 1270 = .ok (.aload_n 2, 1) := by decide +kernel
theorem dL_law_1271 : decode code 1271 = .ok (.aload_n 0, 1) := by decide +kernel
theorem dL_law_1272 : decode code 1272 = .ok (.iload 4, 2) := by decide +kernel
theorem dL_law_1274 : decode code 1274 = .ok (.iconst 1, 1) := by decide +kernel
theorem dL_law_1275 : decode code 1275 = .ok (.iadd, 1) := by decide +kernel
theorem dL_law_1276 : decode code 1276 = .ok (.iaload, 1) := by decide +kernel
theorem dL_law_1277 : decode code 1277 = .ok (.invokevirtual 245, 3) := by decide +kernel
theorem dL_law_1280 : decode code 1280 = .ok (.istore 6, 2) := by decide +kernel
theorem dL_law_1282 : decode code 1282 = .ok (.aload_n 2, 1) := by decide +kernel
theorem dL_law_1283 : decode code 1283 = .ok (.invokevirtual 166, 3) := by decide +kernel
theorem dL_law_1286 : decode code 1286 = .ok (.iload 5, 2) := by decide +kernel
theorem dL_law_1288 : decode code 1288 = .ok (.if_icmp .eq 5, 3) := by decide +kernel
theorem dL_law_1291 : decode code 1291 = .ok (.iconst 0, 1) := by decide +kernel
theorem dL_law_1292 : decode code 1292 = .ok (.ireturn, 1) := by decide +kernel
theorem dL_law_1293 : decode code 1293 = .ok (.iload 5, 2) := by decide +kernel
theorem dL_law_1295 : decode code 1295 = .ok (.ifCond .ne 15, 3) := by decide +kernel
theorem dL_law_1298 : decode code 1298 = .ok (.aload_n 3, 1) := by decide +kernel
theorem dL_law_1299 : decode code 1299 = .ok (.iconst 0, 1) := by decide +kernel
theorem dL_law_1300 : decode code 1300 = .ok (.laload, 1) := by decide +kernel
theorem dL_law_1301 : decode code 1301 = .ok (.iload 6, 2) := by decide +kernel
theorem dL_law_1303 : decode code 1303 = .ok (.i2l, 1) := by decide +kernel
theorem dL_law_1304 : decode code 1304 = .ok (.lcmp, 1) := by decide +kernel
theorem dL_law_1305 : decode code 1305 = .ok (.ifCond .eq 5, 3) := by decide +kernel
theorem dL_law_1308 : decode code 1308 = .ok (.iconst 0, 1) := by decide +kernel
theorem dL_law_1309 : decode code 1309 = .ok (.ireturn, 1) := by decide +kernel
theorem dL_law_1310 : decode code 1310 = .ok (.goto 2171, 3) := by decide +kernel
theorem dL_law_1313 : decode code 1313 = .ok (.aload_n 1, 1) := by decide +kernel
theorem dL_law_1314 : decode code 1314 = .ok (.aload_n 0, 1) := by decide +kernel
theorem dL_law_1315 : decode code 1315 = .ok (.iload 4, 2) := by decide +kernel
theorem dL_law_1317 : decode code 1317 = .ok (.iconst 1, 1) := by decide +kernel
theorem dL_law_1318 : decode code 1318 = .ok (.iadd, 1) := by decide +kernel
theorem dL_law_1319 : decode code 1319 = .ok (.iaload, 1) := by decide +kernel
theorem dL_law_1320 : decode code 1320 = .ok (.aload_n 0, 1) := by decide +kernel
theorem dL_law_1321 : decode code 1321 = .ok (.iload 4, 2) := by decide +kernel
theorem dL_law_1323 : decode code 1323 = .ok (.iconst 2, 1) := by decide +kernel
theorem dL_law_1324 : decode code 1324 = .ok (.iadd, 1) := by decide +kernel
theorem dL_law_1325 : decode code 1325 = .ok (.iaload, 1) := by decide +kernel
theorem dL_law_1326 : decode code 1326 = .ok (.aload_n 3, 1) := by decide +kernel
theorem dL_law_1327 : decode code 1327 = .ok (.invokestatic 246, 3) := by decide +kernel
theorem dL_law_1330 : decode code 1330 = .ok (.istore 5, 2) := by decide +kernel
theorem dL_law_1332 : decode code 1332 = .ok (.aload_n 2, 1) := by decide +kernel
theorem dL_law_1333 : decode code 1333 = .ok (.aload_n 0, 1) := by decide +kernel
theorem dL_law_1334 : decode code 1334 = .ok (.iload 4, 2) := by decide +kernel
theorem dL_law_1336 : decode code 1336 = .ok (.iconst 1, 1) := by decide +kernel
theorem dL_law_1337 : decode code 1337 = .ok (.iadd, 1) := by decide +kernel
theorem dL_law_1338 : decode code 1338 = .ok (.iaload, 1) := by decide +kernel
theorem dL_law_1339 : decode code 1339 = .ok (.aload_n 0, 1) := by decide +kernel
theorem dL_law_1340 : decode code 1340 = .ok (.iload 4, 2) := by decide +kernel
theorem dL_law_1342 : decode code 1342 = .ok (.iconst 2, 1) := by decide +kernel
theorem dL_law_1343 : decode code 1343 = .ok (.iadd, 1) := by decide +kernel
theorem dL_law_1344 : decode code 1344 = .ok (.iaload, 1) := by decide +kernel
theorem dL_law_1345 : decode code 1345 = .ok (.invokevirtual 248, 3) := by decide +kernel
theorem dL_law_1348 : decode code 1348 = .ok (.istore 6, 2) := by decide +kernel
theorem dL_law_1350 : decode code 1350 = .ok (.aload_n 2, 1) := by decide +kernel
theorem dL_law_1351 : decode code 1351 = .ok (.invokevirtual 166, 3) := by decide +kernel
theorem dL_law_1354 : decode code 1354 = .ok (.iload 5, 2) := by decide +kernel
theorem dL_law_1356 : decode code 1356 = .ok (.if_icmp .eq 5, 3) := by decide +kernel
theorem dL_law_1359 : decode code 1359 = .ok (.iconst 0, 1) := by decide +kernel
theorem dL_law_1360 : decode code 1360 = .ok (.ireturn, 1) := by decide +kernel
theorem dL_law_1361 : decode code 1361 = .ok (.iload 5, 2) := by decide +kernel
theorem dL_law_1363 : decode code 1363 = .ok (.ifCond .ne 15, 3) := by decide +kernel
theorem dL_law_1366 : decode code 1366 = .ok (.aload_n 3, 1) := by decide +kernel
theorem dL_law_1367 : decode code 1367 = .ok (.iconst 0, 1) := by decide +kernel
theorem dL_law_1368 : decode code 1368 = .ok (.laload, 1) := by decide +kernel
theorem dL_law_1369 : decode code 1369 = .ok (.iload 6, 2) := by decide +kernel
theorem dL_law_1371 : decode code 1371 = .ok (.i2l, 1) := by decide +kernel
theorem dL_law_1372 : decode code 1372 = .ok (.lcmp, 1) := by decide +kernel
theorem dL_law_1373 : decode code 1373 = .ok (.ifCond .eq 5, 3) := by decide +kernel
theorem dL_law_1376 : decode code 1376 = .ok (.iconst 0, 1) := by decide +kernel
theorem dL_law_1377 : decode code 1377 = .ok (.ireturn, 1) := by decide +kernel
theorem dL_law_1378 : decode code 1378 = .ok (.goto 2103, 3) := by decide +kernel
theorem dL_law_1381 : decode code 1381 = .ok (.aload_n 1, 1) := by decide +kernel
theorem dL_law_1382 : decode code 1382 = .ok (.aload_n 0, 1) := by decide +kernel
theorem dL_law_1383 : decode code 1383 = .ok (.iload 4, 2) := by decide +kernel
theorem dL_law_1385 : decode code 1385 = .ok (.iconst 1, 1) := by decide +kernel
theorem dL_law_1386 : decode code 1386 = .ok (.iadd, 1) := by decide +kernel
theorem dL_law_1387 : decode code 1387 = .ok (.iaload, 1) := by decide +kernel
theorem dL_law_1388 : decode code 1388 = .ok (.aload_n 0, 1) := by decide +kernel
theorem dL_law_1389 : decode code 1389 = .ok (.iload 4, 2) := by decide +kernel
theorem dL_law_1391 : decode code 1391 = .ok (.iconst 2, 1) := by decide +kernel
theorem dL_law_1392 : decode code 1392 = .ok (.iadd, 1) := by decide +kernel
theorem dL_law_1393 : decode code 1393 = .ok (.iaload, 1) := by decide +kernel
theorem dL_law_1394 : decode code 1394 = .ok (.aload_n 3, 1) := by decide +kernel
theorem dL_law_1395 : decode code 1395 = .ok (.invokestatic 249, 3) := by decide +kernel
theorem dL_law_1398 : decode code 1398 = .ok (.istore 5, 2) := by decide +kernel
theorem dL_law_1400 : decode code 1400 = .ok (.aload_n 2, 1) := by decide +kernel
theorem dL_law_1401 : decode code 1401 = .ok (.aload_n 0, 1) := by decide +kernel
theorem dL_law_1402 : decode code 1402 = .ok (.iload 4, 2) := by decide +kernel
theorem dL_law_1404 : decode code 1404 = .ok (.iconst 1, 1) := by decide +kernel
theorem dL_law_1405 : decode code 1405 = .ok (.iadd, 1) := by decide +kernel
theorem dL_law_1406 : decode code 1406 = .ok (.iaload, 1) := by decide +kernel
theorem dL_law_1407 : decode code 1407 = .ok (.aload_n 0, 1) := by decide +kernel
theorem dL_law_1408 : decode code 1408 = .ok (.iload 4, 2) := by decide +kernel
theorem dL_law_1410 : decode code 1410 = .ok (.iconst 2, 1) := by decide +kernel
theorem dL_law_1411 : decode code 1411 = .ok (.iadd, 1) := by decide +kernel
theorem dL_law_1412 : decode code 1412 = .ok (.iaload, 1) := by decide +kernel
theorem dL_law_1413 : decode code 1413 = .ok (.invokevirtual 251, 3) := by decide +kernel
theorem dL_law_1416 : decode code 1416 = .ok (.istore 6, 2) := by decide +kernel
theorem dL_law_1418 : decode code 1418 = .ok (.aload_n 2, 1) := by decide +kernel
theorem dL_law_1419 : decode code 1419 = .ok (.invokevirtual 166, 3) := by decide +kernel
theorem dL_law_1422 : decode code 1422 = .ok (.iload 5, 2) := by decide +kernel
theorem dL_law_1424 : decode code 1424 = .ok (.if_icmp .eq 5, 3) := by decide +kernel
theorem dL_law_1427 : decode code 1427 = .ok (.iconst 0, 1) := by decide +kernel
theorem dL_law_1428 : decode code 1428 = .ok (.ireturn, 1) := by decide +kernel
theorem dL_law_1429 : decode code 1429 = .ok (.iload 5, 2) := by decide +kernel
theorem dL_law_1431 : decode code 1431 = .ok (.ifCond .ne 15, 3) := by decide +kernel
theorem dL_law_1434 : decode code 1434 = .ok (.aload_n 3, 1) := by decide +kernel
theorem dL_law_1435 : decode code 1435 = .ok (.iconst 0, 1) := by decide +kernel
theorem dL_law_1436 : decode code 1436 = .ok (.laload, 1) := by decide +kernel
theorem dL_law_1437 : decode code 1437 = .ok (.iload 6, 2) := by decide +kernel
theorem dL_law_1439 : decode code 1439 = .ok (.i2l, 1) := by decide +kernel
theorem dL_law_1440 : decode code 1440 = .ok (.lcmp, 1) := by decide +kernel
theorem dL_law_1441 : decode code 1441 = .ok (.ifCond .eq 5, 3) := by decide +kernel
theorem dL_law_1444 : decode code 1444 = .ok (.iconst 0, 1) := by decide +kernel
theorem dL_law_1445 : decode code 1445 = .ok (.ireturn, 1) := by decide +kernel
theorem dL_law_1446 : decode code 1446 = .ok (.goto 2035, 3) := by decide +kernel
theorem dL_law_1449 : decode code 1449 = .ok (.aload_n 1, 1) := by decide +kernel
theorem dL_law_1450 : decode code 1450 = .ok (.aload_n 0, 1) := by decide +kernel
theorem dL_law_1451 : decode code 1451 = .ok (.iload 4, 2) := by decide +kernel
theorem dL_law_1453 : decode code 1453 = .ok (.iconst 1, 1) := by decide +kernel
theorem dL_law_1454 : decode code 1454 = .ok (.iadd, 1) := by decide +kernel
theorem dL_law_1455 : decode code 1455 = .ok (.iaload, 1) := by decide +kernel
theorem dL_law_1456 : decode code 1456 = .ok (.aload_n 0, 1) := by decide +kernel
theorem dL_law_1457 : decode code 1457 = .ok (.iload 4, 2) := by decide +kernel
theorem dL_law_1459 : decode code 1459 = .ok (.iconst 2, 1) := by decide +kernel
theorem dL_law_1460 : decode code 1460 = .ok (.iadd, 1) := by decide +kernel
theorem dL_law_1461 : decode code 1461 = .ok (.iaload, 1) := by decide +kernel
theorem dL_law_1462 : decode code 1462 = .ok (.ifCond .eq 7, 3) := by decide +kernel
theorem dL_law_1465 : decode code 1465 = .ok (.iconst 1, 1) := by decide +kernel
theorem dL_law_1466 : decode code 1466 = .ok (.goto 4, 3) := by decide +kernel
theorem dL_law_1469 : decode code 1469 = .ok (.iconst 0, 1) := by decide +kernel
