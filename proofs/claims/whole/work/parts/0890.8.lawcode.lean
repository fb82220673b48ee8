theorem d_L_law_1432 : decode cL_law 1432 = .ok (.aload_n 2, 1) := by decide +kernel
theorem d_L_law_1433 : decode cL_law 1433 = .ok (.invokevirtual 156, 3) := by decide +kernel
theorem d_L_law_1436 : decode cL_law 1436 = .ok (.lcmp, 1) := by decide +kernel
theorem d_L_law_1437 : decode cL_law 1437 = .ok (.ifCond .eq 30, 3) := by decide +kernel
theorem d_L_law_1440 : decode cL_law 1440 = .ok (.iconst 0, 1) := by decide +kernel
theorem d_L_law_1441 : decode cL_law 1441 = .ok (.ireturn, 1) := by decide +kernel
theorem d_L_law_1442 : decode cL_law 1442 = .ok (.aload_n 1, 1) := by decide +kernel
theorem d_L_law_1443 : decode cL_law 1443 = .ok (.aload_n 0, 1) := by decide +kernel
theorem d_L_law_1444 : decode cL_law 1444 = .ok (.iload 4, 2) := by decide +kernel
theorem d_L_law_1446 : decode cL_law 1446 = .ok (.iconst 1, 1) := by decide +kernel
theorem d_L_law_1447 : decode cL_law 1447 = .ok (.iadd, 1) := by decide +kernel
theorem d_L_law_1448 : decode cL_law 1448 = .ok (.iaload, 1) := by decide +kernel
theorem d_L_law_1449 : decode cL_law 1449 = .ok (.invokevirtual 157, 3) := by decide +kernel
theorem d_L_law_1452 : decode cL_law 1452 = .ok (.aload_n 2, 1) := by decide +kernel
theorem d_L_law_1453 : decode cL_law 1453 = .ok (.aload_n 0, 1) := by decide +kernel
theorem d_L_law_1454 : decode cL_law 1454 = .ok (.iload 4, 2) := by decide +kernel
theorem d_L_law_1456 : decode cL_law 1456 = .ok (.iconst 1, 1) := by decide +kernel
theorem d_L_law_1457 : decode cL_law 1457 = .ok (.iadd, 1) := by decide +kernel
theorem d_L_law_1458 : decode cL_law 1458 = .ok (.iaload, 1) := by decide +kernel
theorem d_L_law_1459 : decode cL_law 1459 = .ok (.invokevirtual 160, 3) := by decide +kernel
theorem d_L_law_1462 : decode cL_law 1462 = .ok (.if_icmp .eq 5, 3) := by decide +kernel
theorem d_L_law_1465 : decode cL_law 1465 = .ok (.iconst 0, 1) := by decide +kernel
theorem d_L_law_1466 : decode cL_law 1466 = .ok (.ireturn, 1) := by decide +kernel
theorem d_L_law_1467 : decode cL_law 1467 = .ok (.iinc 4 6, 3) := by decide +kernel
theorem d_L_law_1470 : decode cL_law 1470 = .ok (.goto (-1447), 3) := by decide +kernel
theorem d_L_law_1473 : decode cL_law 1473 = .ok (.iconst 1, 1) := by decide +kernel
theorem d_L_law_1474 : decode cL_law 1474 = .ok (.ireturn, 1) := by decide +kernel
