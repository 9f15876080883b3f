theorem dL_1372 : decode code 1372 = .ok (.invokevirtual 173, 3) := by decide +kernel
theorem dL_1375 : decode code 1375 = .ok (.if_icmp .eq 28, 3) := by decide +kernel
theorem dL_1378 : decode code 1378 = .ok (.iconst 0, 1) := by decide +kernel
theorem dL_1379 : decode code 1379 = .ok (.ireturn, 1) := by decide +kernel
theorem dL_1380 : decode code 1380 = .ok (.aload_n 1, 1) := by decide +kernel
theorem dL_1381 : decode code 1381 = .ok (.aload_n 0, 1) := by decide +kernel
theorem dL_1382 : decode code 1382 = .ok (.iload_n 3, 1) := by decide +kernel
theorem dL_1383 : decode code 1383 = .ok (.iconst 1, 1) := by decide +kernel
theorem dL_1384 : decode code 1384 = .ok (.iadd, 1) := by decide +kernel
theorem dL_1385 : decode code 1385 = .ok (.iaload, 1) := by decide +kernel
theorem dL_1386 : decode code 1386 = .ok (.invokevirtual 174, 3) := by decide +kernel
theorem dL_1389 : decode code 1389 = .ok (.aload_n 2, 1) := by decide +kernel
theorem dL_1390 : decode code 1390 = .ok (.aload_n 0, 1) := by decide +kernel
theorem dL_1391 : decode code 1391 = .ok (.iload_n 3, 1) := by decide +kernel
theorem dL_1392 : decode code 1392 = .ok (.iconst 1, 1) := by decide +kernel
theorem dL_1393 : decode code 1393 = .ok (.iadd, 1) := by decide +kernel
theorem dL_1394 : decode code 1394 = .ok (.iaload, 1) := by decide +kernel
theorem dL_1395 : decode code 1395 = .ok (.invokevirtual 177, 3) := by decide +kernel
theorem dL_1398 : decode code 1398 = .ok (.if_icmp .eq 5, 3) := by decide +kernel
theorem dL_1401 : decode code 1401 = .ok (.iconst 0, 1) := by decide +kernel
theorem dL_1402 : decode code 1402 = .ok (.ireturn, 1) := by decide +kernel
theorem dL_1403 : decode code 1403 = .ok (.iinc 3 6, 3) := by decide +kernel
theorem dL_1406 : decode code 1406 = .ok (.goto (-1388), 3) := by decide +kernel
theorem dL_1409 : decode code 1409 = .ok (.iconst 1, 1) := by decide +kernel
theorem dL_1410 : decode code 1410 = .ok (.ireturn, 1) := by decide +kernel
