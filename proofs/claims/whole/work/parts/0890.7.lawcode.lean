theorem d_L_law_1261 : decode cL_law 1261 = .ok (.aload_n 2, 1) := by decide +kernel
theorem d_L_law_1262 : decode cL_law 1262 = .ok (.invokevirtual 85, 3) := by decide +kernel
theorem d_L_law_1265 : decode cL_law 1265 = .ok (.iload 5, 2) := by decide +kernel
theorem d_L_law_1267 : decode cL_law 1267 = .ok (.if_icmp .eq 5, 3) := by decide +kernel
theorem d_L_law_1270 : decode cL_law 1270 = .ok (.iconst 0, 1) := by decide +kernel
theorem d_L_law_1271 : decode cL_law 1271 = .ok (.ireturn, 1) := by decide +kernel
theorem d_L_law_1272 : decode cL_law 1272 = .ok (.iload 5, 2) := by decide +kernel
theorem d_L_law_1274 : decode cL_law 1274 = .ok (.ifCond .ne 15, 3) := by decide +kernel
theorem d_L_law_1277 : decode cL_law 1277 = .ok (.aload_n 3, 1) := by decide +kernel
theorem d_L_law_1278 : decode cL_law 1278 = .ok (.iconst 0, 1) := by decide +kernel
theorem d_L_law_1279 : decode cL_law 1279 = .ok (.laload, 1) := by decide +kernel
theorem d_L_law_1280 : decode cL_law 1280 = .ok (.iload 6, 2) := by decide +kernel
theorem d_L_law_1282 : decode cL_law 1282 = .ok (.i2l, 1) := by decide +kernel
theorem d_L_law_1283 : decode cL_law 1283 = .ok (.lcmp, 1) := by decide +kernel
theorem d_L_law_1284 : decode cL_law 1284 = .ok (.ifCond .eq 5, 3) := by decide +kernel
theorem d_L_law_1287 : decode cL_law 1287 = .ok (.iconst 0, 1) := by decide +kernel
theorem d_L_law_1288 : decode cL_law 1288 = .ok (.ireturn, 1) := by decide +kernel
theorem d_L_law_1289 : decode cL_law 1289 = .ok (.goto 178, 3) := by decide +kernel
theorem d_L_law_1292 : decode cL_law 1292 = .ok (.aload_n 1, 1) := by decide +kernel
theorem d_L_law_1293 : decode cL_law 1293 = .ok (.aload_n 0, 1) := by decide +kernel
theorem d_L_law_1294 : decode cL_law 1294 = .ok (.iload 4, 2) := by decide +kernel
theorem d_L_law_1296 : decode cL_law 1296 = .ok (.iconst 1, 1) := by decide +kernel
theorem d_L_law_1297 : decode cL_law 1297 = .ok (.iadd, 1) := by decide +kernel
theorem d_L_law_1298 : decode cL_law 1298 = .ok (.iaload, 1) := by decide +kernel
theorem d_L_law_1299 : decode cL_law 1299 = .ok (.aload_n 0, 1) := by decide +kernel
theorem d_L_law_1300 : decode cL_law 1300 = .ok (.iload 4, 2) := by decide +kernel
theorem d_L_law_1302 : decode cL_law 1302 = .ok (.iconst 2, 1) := by decide +kernel
theorem d_L_law_1303 : decode cL_law 1303 = .ok (.iadd, 1) := by decide +kernel
theorem d_L_law_1304 : decode cL_law 1304 = .ok (.iaload, 1) := by decide +kernel
theorem d_L_law_1305 : decode cL_law 1305 = .ok (.aload_n 3, 1) := by decide +kernel
theorem d_L_law_1306 : decode cL_law 1306 = .ok (.invokestatic 146, 3) := by decide +kernel
theorem d_L_law_1309 : decode cL_law 1309 = .ok (.istore 5, 2) := by decide +kernel
theorem d_L_law_1311 : decode cL_law 1311 = .ok (.aload_n 2, 1) := by decide +kernel
theorem d_L_law_1312 : decode cL_law 1312 = .ok (.aload_n 0, 1) := by decide +kernel
theorem d_L_law_1313 : decode cL_law 1313 = .ok (.iload 4, 2) := by decide +kernel
theorem d_L_law_1315 : decode cL_law 1315 = .ok (.iconst 1, 1) := by decide +kernel
theorem d_L_law_1316 : decode cL_law 1316 = .ok (.iadd, 1) := by decide +kernel
theorem d_L_law_1317 : decode cL_law 1317 = .ok (.iaload, 1) := by decide +kernel
theorem d_L_law_1318 : decode cL_law 1318 = .ok (.aload_n 0, 1) := by decide +kernel
theorem d_L_law_1319 : decode cL_law 1319 = .ok (.iload 4, 2) := by decide +kernel
theorem d_L_law_1321 : decode cL_law 1321 = .ok (.iconst 2, 1) := by decide +kernel
theorem d_L_law_1322 : decode cL_law 1322 = .ok (.iadd, 1) := by decide +kernel
theorem d_L_law_1323 : decode cL_law 1323 = .ok (.iaload, 1) := by decide +kernel
theorem d_L_law_1324 : decode cL_law 1324 = .ok (.invokevirtual 148, 3) := by decide +kernel
theorem d_L_law_1327 : decode cL_law 1327 = .ok (.istore 6, 2) := by decide +kernel
theorem d_L_law_1329 : decode cL_law 1329 = .ok (.aload_n 2, 1) := by decide +kernel
theorem d_L_law_1330 : decode cL_law 1330 = .ok (.invokevirtual 85, 3) := by decide +kernel
theorem d_L_law_1333 : decode cL_law 1333 = .ok (.iload 5, 2) := by decide +kernel
theorem d_L_law_1335 : decode cL_law 1335 = .ok (.if_icmp .eq 5, 3) := by decide +kernel
theorem d_L_law_1338 : decode cL_law 1338 = .ok (.iconst 0, 1) := by decide +kernel
theorem d_L_law_1339 : decode cL_law 1339 = .ok (.ireturn, 1) := by decide +kernel
theorem d_L_law_1340 : decode cL_law 1340 = .ok (.iload 5, 2) := by decide +kernel
theorem d_L_law_1342 : decode cL_law 1342 = .ok (.ifCond .ne 15, 3) := by decide +kernel
theorem d_L_law_1345 : decode cL_law 1345 = .ok (.aload_n 3, 1) := by decide +kernel
theorem d_L_law_1346 : decode cL_law 1346 = .ok (.iconst 0, 1) := by decide +kernel
theorem d_L_law_1347 : decode cL_law 1347 = .ok (.laload, 1) := by decide +kernel
theorem d_L_law_1348 : decode cL_law 1348 = .ok (.iload 6, 2) := by decide +kernel
theorem d_L_law_1350 : decode cL_law 1350 = .ok (.i2l, 1) := by decide +kernel
theorem d_L_law_1351 : decode cL_law 1351 = .ok (.lcmp, 1) := by decide +kernel
theorem d_L_law_1352 : decode cL_law 1352 = .ok (.ifCond .eq 5, 3) := by decide +kernel
theorem d_L_law_1355 : decode cL_law 1355 = .ok (.iconst 0, 1) := by decide +kernel
theorem d_L_law_1356 : decode cL_law 1356 = .ok (.ireturn, 1) := by decide +kernel
theorem d_L_law_1357 : decode cL_law 1357 = .ok (.goto 110, 3) := by decide +kernel
theorem d_L_law_1360 : decode cL_law 1360 = .ok (.aload_n 1, 1) := by decide +kernel
theorem d_L_law_1361 : decode cL_law 1361 = .ok (.aload_n 0, 1) := by decide +kernel
theorem d_L_law_1362 : decode cL_law 1362 = .ok (.iload 4, 2) := by decide +kernel
theorem d_L_law_1364 : decode cL_law 1364 = .ok (.iconst 1, 1) := by decide +kernel
theorem d_L_law_1365 : decode cL_law 1365 = .ok (.iadd, 1) := by decide +kernel
theorem d_L_law_1366 : decode cL_law 1366 = .ok (.iaload, 1) := by decide +kernel
theorem d_L_law_1367 : decode cL_law 1367 = .ok (.aload_n 0, 1) := by decide +kernel
theorem d_L_law_1368 : decode cL_law 1368 = .ok (.iload 4, 2) := by decide +kernel
theorem d_L_law_1370 : decode cL_law 1370 = .ok (.iconst 2, 1) := by decide +kernel
theorem d_L_law_1371 : decode cL_law 1371 = .ok (.iadd, 1) := by decide +kernel
theorem d_L_law_1372 : decode cL_law 1372 = .ok (.iaload, 1) := by decide +kernel
theorem d_L_law_1373 : decode cL_law 1373 = .ok (.aload_n 3, 1) := by decide +kernel
theorem d_L_law_1374 : decode cL_law 1374 = .ok (.invokestatic 149, 3) := by decide +kernel
theorem d_L_law_1377 : decode cL_law 1377 = .ok (.istore 5, 2) := by decide +kernel
theorem d_L_law_1379 : decode cL_law 1379 = .ok (.aload_n 2, 1) := by decide +kernel
theorem d_L_law_1380 : decode cL_law 1380 = .ok (.aload_n 0, 1) := by decide +kernel
theorem d_L_law_1381 : decode cL_law 1381 = .ok (.iload 4, 2) := by decide +kernel
theorem d_L_law_1383 : decode cL_law 1383 = .ok (.iconst 1, 1) := by decide +kernel
theorem d_L_law_1384 : decode cL_law 1384 = .ok (.iadd, 1) := by decide +kernel
theorem d_L_law_1385 : decode cL_law 1385 = .ok (.iaload, 1) := by decide +kernel
theorem d_L_law_1386 : decode cL_law 1386 = .ok (.aload_n 0, 1) := by decide +kernel
theorem d_L_law_1387 : decode cL_law 1387 = .ok (.iload 4, 2) := by decide +kernel
theorem d_L_law_1389 : decode cL_law 1389 = .ok (.iconst 2, 1) := by decide +kernel
theorem d_L_law_1390 : decode cL_law 1390 = .ok (.iadd, 1) := by decide +kernel
theorem d_L_law_1391 : decode cL_law 1391 = .ok (.iaload, 1) := by decide +kernel
theorem d_L_law_1392 : decode cL_law 1392 = .ok (.invokevirtual 151, 3) := by decide +kernel
theorem d_L_law_1395 : decode cL_law 1395 = .ok (.istore 6, 2) := by decide +kernel
theorem d_L_law_1397 : decode cL_law 1397 = .ok (.aload_n 2, 1) := by decide +kernel
theorem d_L_law_1398 : decode cL_law 1398 = .ok (.invokevirtual 85, 3) := by decide +kernel
theorem d_L_law_1401 : decode cL_law 1401 = .ok (.iload 5, 2) := by decide +kernel
theorem d_L_law_1403 : decode cL_law 1403 = .ok (.if_icmp .eq 5, 3) := by decide +kernel
theorem d_L_law_1406 : decode cL_law 1406 = .ok (.iconst 0, 1) := by decide +kernel
theorem d_L_law_1407 : decode cL_law 1407 = .ok (.ireturn, 1) := by decide +kernel
theorem d_L_law_1408 : decode cL_law 1408 = .ok (.iload 5, 2) := by decide +kernel
theorem d_L_law_1410 : decode cL_law 1410 = .ok (.ifCond .ne 15, 3) := by decide +kernel
theorem d_L_law_1413 : decode cL_law 1413 = .ok (.aload_n 3, 1) := by decide +kernel
theorem d_L_law_1414 : decode cL_law 1414 = .ok (.iconst 0, 1) := by decide +kernel
theorem d_L_law_1415 : decode cL_law 1415 = .ok (.laload, 1) := by decide +kernel
theorem d_L_law_1416 : decode cL_law 1416 = .ok (.iload 6, 2) := by decide +kernel
theorem d_L_law_1418 : decode cL_law 1418 = .ok (.i2l, 1) := by decide +kernel
theorem d_L_law_1419 : decode cL_law 1419 = .ok (.lcmp, 1) := by decide +kernel
theorem d_L_law_1420 : decode cL_law 1420 = .ok (.ifCond .eq 5, 3) := by decide +kernel
theorem d_L_law_1423 : decode cL_law 1423 = .ok (.iconst 0, 1) := by decide +kernel
theorem d_L_law_1424 : decode cL_law 1424 = .ok (.ireturn, 1) := by decide +kernel
theorem d_L_law_1425 : decode cL_law 1425 = .ok (.goto 42, 3) := by decide +kernel
theorem d_L_law_1428 : decode cL_law 1428 = .ok (.aload_n 1, 1) := by decide +kernel
theorem d_L_law_1429 : decode cL_law 1429 = .ok (.invokevirtual 152, 3) := by decide +kernel
