/-! decode rows of the law, as printed -/
theorem dL_law_1276 : decode code 1276 = .ok (.iconst 2, 1) := by decide +kernel
theorem dL_law_1277 : decode code 1277 = .ok (.iadd, 1) := by decide +kernel
theorem dL_law_1278 : decode code 1278 = .ok (.iaload, 1) := by decide +kernel
theorem dL_law_1279 : decode code 1279 = .ok (.aload_n 0, 1) := by decide +kernel
theorem dL_law_1280 : decode code 1280 = .ok (.iload 4, 2) := by decide +kernel
theorem dL_law_1282 : decode code 1282 = .ok (.iconst 3, 1) := by decide +kernel
theorem dL_law_1283 : decode code 1283 = .ok (.iadd, 1) := by decide +kernel
theorem dL_law_1284 : decode code 1284 = .ok (.iaload, 1) := by decide +kernel
theorem dL_law_1285 : decode code 1285 = .ok (.aload_n 0, 1) := by decide +kernel
theorem dL_law_1286 : decode code 1286 = .ok (.iload 4, 2) := by decide +kernel
theorem dL_law_1288 : decode code 1288 = .ok (.iconst 4, 1) := by decide +kernel
theorem dL_law_1289 : decode code 1289 = .ok (.iadd, 1) := by decide +kernel
theorem dL_law_1290 : decode code 1290 = .ok (.iaload, 1) := by decide +kernel
theorem dL_law_1291 : decode code 1291 = .ok (.aload_n 3, 1) := by decide +kernel
theorem dL_law_1292 : decode code 1292 = .ok (.invokestatic 173, 3) := by decide +kernel
theorem dL_law_1295 : decode code 1295 = .ok (.istore 5, 2) := by decide +kernel
theorem dL_law_1297 : decode code 1297 = .ok (.aload_n 2, 1) := by decide +kernel
theorem dL_law_1298 : decode code 1298 = .ok (.aload_n 0, 1) := by decide +kernel
theorem dL_law_1299 : decode code 1299 = .ok (.iload 4, 2) := by decide +kernel
theorem dL_law_1301 : decode code 1301 = .ok (.iconst 1, 1) := by decide +kernel
theorem dL_law_1302 : decode code 1302 = .ok (.iadd, 1) := by decide +kernel
theorem dL_law_1303 : decode code 1303 = .ok (.iaload, 1) := by decide +kernel
theorem dL_law_1304 : decode code 1304 = .ok (.aload_n 0, 1) := by decide +kernel
theorem dL_law_1305 : decode code 1305 = .ok (.iload 4, 2) := by decide +kernel
theorem dL_law_1307 : decode code 1307 = .ok (.iconst 2, 1) := by decide +kernel
theorem dL_law_1308 : decode code 1308 = .ok (.iadd, 1) := by decide +kernel
theorem dL_law_1309 : decode code 1309 = .ok (.iaload, 1) := by decide +kernel
theorem dL_law_1310 : decode code 1310 = .ok (.aload_n 0, 1) := by decide +kernel
theorem dL_law_1311 : decode code 1311 = .ok (.iload 4, 2) := by decide +kernel
theorem dL_law_1313 : decode code 1313 = .ok (.iconst 3, 1) := by decide +kernel
theorem dL_law_1314 : decode code 1314 = .ok (.iadd, 1) := by decide +kernel
theorem dL_law_1315 : decode code 1315 = .ok (.iaload, 1) := by decide +kernel
theorem dL_law_1316 : decode code 1316 = .ok (.aload_n 0, 1) := by decide +kernel
theorem dL_law_1317 : decode code 1317 = .ok (.iload 4, 2) := by decide +kernel
theorem dL_law_1319 : decode code 1319 = .ok (.iconst 4, 1) := by decide +kernel
theorem dL_law_1320 : decode code 1320 = .ok (.iadd, 1) := by decide +kernel
theorem dL_law_1321 : decode code 1321 = .ok (.iaload, 1) := by decide +kernel
theorem dL_law_1322 : decode code 1322 = .ok (.invokevirtual 178, 3) := by decide +kernel
theorem dL_law_1325 : decode code 1325 = .ok (.istore 6, 2) := by decide +kernel
theorem dL_law_1327 : decode code 1327 = .ok (.aload_n 2, 1) := by decide +kernel
theorem dL_law_1328 : decode code 1328 = .ok (.invokevirtual 179, 3) := by decide +kernel
theorem dL_law_1331 : decode code 1331 = .ok (.iload 5, 2) := by decide +kernel
theorem dL_law_1333 : decode code 1333 = .ok (.if_icmp .eq 5, 3) := by decide +kernel
theorem dL_law_1336 : decode code 1336 = .ok (.iconst 0, 1) := by decide +kernel
theorem dL_law_1337 : decode code 1337 = .ok (.ireturn, 1) := by decide +kernel
theorem dL_law_1338 : decode code 1338 = .ok (.iload 5, 2) := by decide +kernel
theorem dL_law_1340 : decode code 1340 = .ok (.ifCond .ne 15, 3) := by decide +kernel
theorem dL_law_1343 : decode code 1343 = .ok (.aload_n 3, 1) := by decide +kernel
theorem dL_law_1344 : decode code 1344 = .ok (.iconst 0, 1) := by decide +kernel
theorem dL_law_1345 : decode code 1345 = .ok (.laload, 1) := by decide +kernel
theorem dL_law_1346 : decode code 1346 = .ok (.iload 6, 2) := by decide +kernel
theorem dL_law_1348 : decode code 1348 = .ok (.i2l, 1) := by decide +kernel
theorem dL_law_1349 : decode code 1349 = .ok (.lcmp, 1) := by decide +kernel
theorem dL_law_1350 : decode code 1350 = .ok (.ifCond .eq 5, 3) := by decide +kernel
theorem dL_law_1353 : decode code 1353 = .ok (.iconst 0, 1) := by decide +kernel
theorem dL_law_1354 : decode code 1354 = .ok (.ireturn, 1) := by decide +kernel
theorem dL_law_1355 : decode code 1355 = .ok (.goto 130, 3) := by decide +kernel
theorem dL_law_1358 : decode code 1358 = .ok (.aload_n 1, 1) := by decide +kernel
theorem dL_law_1359 : decode code 1359 = .ok (.aload_n 0, 1) := by decide +kernel
theorem dL_law_1360 : decode code 1360 = .ok (.iload 4, 2) := by decide +kernel
theorem dL_law_1362 : decode code 1362 = .ok (.iconst 1, 1) := by decide +kernel
theorem dL_law_1363 : decode code 1363 = .ok (.iadd, 1) := by decide +kernel
theorem dL_law_1364 : decode code 1364 = .ok (.iaload, 1) := by decide +kernel
theorem dL_law_1365 : decode code 1365 = .ok (.aload_n 0, 1) := by decide +kernel
theorem dL_law_1366 : decode code 1366 = .ok (.iload 4, 2) := by decide +kernel
theorem dL_law_1368 : decode code 1368 = .ok (.iconst 2, 1) := by decide +kernel
theorem dL_law_1369 : decode code 1369 = .ok (.iadd, 1) := by decide +kernel
theorem dL_law_1370 : decode code 1370 = .ok (.iaload, 1) := by decide +kernel
theorem dL_law_1371 : decode code 1371 = .ok (.aload_n 0, 1) := by decide +kernel
theorem dL_law_1372 : decode code 1372 = .ok (.iload 4, 2) := by decide +kernel
theorem dL_law_1374 : decode code 1374 = .ok (.iconst 3, 1) := by decide +kernel
theorem dL_law_1375 : decode code 1375 = .ok (.iadd, 1) := by decide +kernel
theorem dL_law_1376 : decode code 1376 = .ok (.iaload, 1) := by decide +kernel
theorem dL_law_1377 : decode code 1377 = .ok (.invokevirtual 182, 3) := by decide +kernel
theorem dL_law_1380 : decode code 1380 = .ok (.aload_n 2, 1) := by decide +kernel
theorem dL_law_1381 : decode code 1381 = .ok (.aload_n 0, 1) := by decide +kernel
theorem dL_law_1382 : decode code 1382 = .ok (.iload 4, 2) := by decide +kernel
theorem dL_law_1384 : decode code 1384 = .ok (.iconst 1, 1) := by decide +kernel
theorem dL_law_1385 : decode code 1385 = .ok (.iadd, 1) := by decide +kernel
theorem dL_law_1386 : decode code 1386 = .ok (.iaload, 1) := by decide +kernel
theorem dL_law_1387 : decode code 1387 = .ok (.aload_n 0, 1) := by decide +kernel
theorem dL_law_1388 : decode code 1388 = .ok (.iload 4, 2) := by decide +kernel
theorem dL_law_1390 : decode code 1390 = .ok (.iconst 2, 1) := by decide +kernel
theorem dL_law_1391 : decode code 1391 = .ok (.iadd, 1) := by decide +kernel
theorem dL_law_1392 : decode code 1392 = .ok (.iaload, 1) := by decide +kernel
theorem dL_law_1393 : decode code 1393 = .ok (.aload_n 0, 1) := by decide +kernel
theorem dL_law_1394 : decode code 1394 = .ok (.iload 4, 2) := by decide +kernel
theorem dL_law_1396 : decode code 1396 = .ok (.iconst 3, 1) := by decide +kernel
theorem dL_law_1397 : decode code 1397 = .ok (.iadd, 1) := by decide +kernel
theorem dL_law_1398 : decode code 1398 = .ok (.iaload, 1) := by decide +kernel
theorem dL_law_1399 : decode code 1399 = .ok (.invokevirtual 186, 3) := by decide +kernel
theorem dL_law_1402 : decode code 1402 = .ok (.if_icmp .eq 83, 3) := by decide +kernel
theorem dL_law_1405 : decode code 1405 = .ok (.iconst 0, 1) := by decide +kernel
theorem dL_law_1406 : decode code 1406 = .ok (.ireturn, 1) := by decide +kernel
theorem dL_law_1407 : decode code 1407 = .ok (.aload_n 1, 1) := by decide +kernel
theorem dL_law_1408 : decode code 1408 = .ok (.aload_n 0, 1) := by decide +kernel
theorem dL_law_1409 : decode code 1409 = .ok (.iload 4, 2) := by decide +kernel
theorem dL_law_1411 : decode code 1411 = .ok (.iconst 1, 1) := by decide +kernel
theorem dL_law_1412 : decode code 1412 = .ok (.iadd, 1) := by decide +kernel
theorem dL_law_1413 : decode code 1413 = .ok (.iaload, 1) := by decide +kernel
theorem dL_law_1414 : decode code 1414 = .ok (.aload_n 0, 1) := by decide +kernel
theorem dL_law_1415 : decode code 1415 = .ok (.iload 4, 2) := by decide +kernel
theorem dL_law_1417 : decode code 1417 = .ok (.iconst 2, 1) := by decide +kernel
theorem dL_law_1418 : decode code 1418 = .ok (.iadd, 1) := by decide +kernel
theorem dL_law_1419 : decode code 1419 = .ok (.iaload, 1) := by decide +kernel
theorem dL_law_1420 : decode code 1420 = .ok (.ifCond .eq 7, 3) := by decide +kernel
theorem dL_law_1423 : decode code 1423 = .ok (.iconst 1, 1) := by decide +kernel
theorem dL_law_1424 : decode code 1424 = .ok (.goto 4, 3) := by decide +kernel
theorem dL_law_1427 : decode code 1427 = .ok (.iconst 0, 1) := by decide +kernel
theorem dL_law_1428 : decode code 1428 = .ok (.invokevirtual 187, 3) := by decide +kernel
theorem dL_law_1431 : decode code 1431 = .ok (.aload_n 2, 1) := by decide +kernel
theorem dL_law_1432 : decode code 1432 = .ok (.aload_n 0, 1) := by decide +kernel
theorem dL_law_1433 : decode code 1433 = .ok (.iload 4, 2) := by decide +kernel
theorem dL_law_1435 : decode code 1435 = .ok (.iconst 1, 1) := by decide +kernel
theorem dL_law_1436 : decode code 1436 = .ok (.iadd, 1) := by decide +kernel
theorem dL_law_1437 : decode code 1437 = .ok (.iaload, 1) := by decide +kernel
theorem dL_law_1438 : decode code 1438 = .ok (.aload_n 0, 1) := by decide +kernel
theorem dL_law_1439 : decode code 1439 = .ok (.iload 4, 2) := by decide +kernel
theorem dL_law_1441 : decode code 1441 = .ok (.iconst 2, 1) := by decide +kernel
theorem dL_law_1442 : decode code 1442 = .ok (.iadd, 1) := by decide +kernel
theorem dL_law_1443 : decode code 1443 = .ok (.iaload, 1) := by decide +kernel
theorem dL_law_1444 : decode code 1444 = .ok (.ifCond .eq 7, 3) := by decide +kernel
theorem dL_law_1447 : decode code 1447 = .ok (.iconst 1, 1) := by decide +kernel
theorem dL_law_1448 : decode code 1448 = .ok (.goto 4, 3) := by decide +kernel
theorem dL_law_1451 : decode code 1451 = .ok (.iconst 0, 1) := by decide +kernel
theorem dL_law_1452 : decode code 1452 = .ok (.invokevirtual 191, 3) := by decide +kernel
theorem dL_law_1455 : decode code 1455 = .ok (.if_icmp .eq 30, 3) := by decide +kernel
theorem dL_law_1458 : decode code 1458 = .ok (.iconst 0, 1) := by decide +kernel
theorem dL_law_1459 : decode code 1459 = .ok (.ireturn, 1) := by decide +kernel
theorem dL_law_1460 : decode code 1460 = .ok (.aload_n 1, 1) := by decide +kernel
theorem dL_law_1461 : decode code 1461 = .ok (.aload_n 0, 1) := by decide +kernel
theorem dL_law_1462 : decode code 1462 = .ok (.iload 4, 2) := by decide +kernel
theorem dL_law_1464 : decode code 1464 = .ok (.iconst 1, 1) := by decide +kernel
theorem dL_law_1465 : decode code 1465 = .ok (.iadd, 1) := by decide +kernel
theorem dL_law_1466 : decode code 1466 = .ok (.iaload, 1) := by decide +kernel
theorem dL_law_1467 : decode code 1467 = .ok (.invokevirtual 192, 3) := by decide +kernel
theorem dL_law_1470 : decode code 1470 = .ok (.aload_n 2, 1) := by decide +kernel
theorem dL_law_1471 : decode code 1471 = .ok (.aload_n 0, 1) := by decide +kernel
theorem dL_law_1472 : decode code 1472 = .ok (.iload 4, 2) := by decide +kernel
theorem dL_law_1474 : decode code 1474 = .ok (.iconst 1, 1) := by decide +kernel
theorem dL_law_1475 : decode code 1475 = .ok (.iadd, 1) := by decide +kernel
theorem dL_law_1476 : decode code 1476 = .ok (.iaload, 1) := by decide +kernel
theorem dL_law_1477 : decode code 1477 = .ok (.invokevirtual 195, 3) := by decide +kernel
theorem dL_law_1480 : decode code 1480 = .ok (.if_icmp .eq 5, 3) := by decide +kernel
theorem dL_law_1483 : decode code 1483 = .ok (.iconst 0, 1) := by decide +kernel
theorem dL_law_1484 : decode code 1484 = .ok (.ireturn, 1) := by decide +kernel
theorem dL_law_1485 : decode code 1485 = .ok (.iinc 4 7, 3) := by decide +kernel
theorem dL_law_1488 : decode code 1488 = .ok (.goto (-1465), 3) := by decide +kernel
theorem dL_law_1491 : decode code 1491 = .ok (.iconst 1, 1) := by decide +kernel
theorem dL_law_1492 : decode code 1492 = .ok (.ireturn, 1) := by decide +kernel
