theorem dL_1210 : decode code 1210 = .ok (.iaload, 1) := by decide +kernel
theorem dL_1211 : decode code 1211 = .ok (.invokevirtual 145, 3) := by decide +kernel
theorem dL_1214 : decode code 1214 = .ok (.if_icmp .eq 189, 3) := by decide +kernel
theorem dL_1217 : decode code 1217 = .ok (.iconst 0, 1) := by decide +kernel
theorem dL_1218 : decode code 1218 = .ok (.ireturn, 1) := by decide +kernel
theorem dL_1219 : decode code 1219 = .ok (.aload_n 1, 1) := by decide +kernel
theorem dL_1220 : decode code 1220 = .ok (.aload_n 0, 1) := by decide +kernel
theorem dL_1221 : decode code 1221 = .ok (.iload_n 3, 1) := by decide +kernel
theorem dL_1222 : decode code 1222 = .ok (.iconst 1, 1) := by decide +kernel
theorem dL_1223 : decode code 1223 = .ok (.iadd, 1) := by decide +kernel
theorem dL_1224 : decode code 1224 = .ok (.iaload, 1) := by decide +kernel
theorem dL_1225 : decode code 1225 = .ok (.invokevirtual 146, 3) := by decide +kernel
theorem dL_1228 : decode code 1228 = .ok (.aload_n 2, 1) := by decide +kernel
theorem dL_1229 : decode code 1229 = .ok (.aload_n 0, 1) := by decide +kernel
theorem dL_1230 : decode code 1230 = .ok (.iload_n 3, 1) := by decide +kernel
theorem dL_1231 : decode code 1231 = .ok (.iconst 1, 1) := by decide +kernel
theorem dL_1232 : decode code 1232 = .ok (.iadd, 1) := by decide +kernel
theorem dL_1233 : decode code 1233 = .ok (.iaload, 1) := by decide +kernel
theorem dL_1234 : decode code 1234 = .ok (.invokevirtual 149, 3) := by decide +kernel
theorem dL_1237 : decode code 1237 = .ok (.if_icmp .eq 166, 3) := by decide +kernel
theorem dL_1240 : decode code 1240 = .ok (.iconst 0, 1) := by decide +kernel
theorem dL_1241 : decode code 1241 = .ok (.ireturn, 1) := by decide +kernel
theorem dL_1242 : decode code 1242 = .ok (.aload_n 1, 1) := by decide +kernel
theorem dL_1243 : decode code 1243 = .ok (.aload_n 0, 1) := by decide +kernel
theorem dL_1244 : decode code 1244 = .ok (.iload_n 3, 1) := by decide +kernel
theorem dL_1245 : decode code 1245 = .ok (.iconst 1, 1) := by decide +kernel
theorem dL_1246 : decode code 1246 = .ok (.iadd, 1) := by decide +kernel
theorem dL_1247 : decode code 1247 = .ok (.iaload, 1) := by decide +kernel
theorem dL_1248 : decode code 1248 = .ok (.aload_n 0, 1) := by decide +kernel
theorem dL_1249 : decode code 1249 = .ok (.iload_n 3, 1) := by decide +kernel
theorem dL_1250 : decode code 1250 = .ok (.iconst 2, 1) := by decide +kernel
theorem dL_1251 : decode code 1251 = .ok (.iadd, 1) := by decide +kernel
theorem dL_1252 : decode code 1252 = .ok (.iaload, 1) := by decide +kernel
theorem dL_1253 : decode code 1253 = .ok (.invokevirtual 150, 3) := by decide +kernel
theorem dL_1256 : decode code 1256 = .ok (.aload_n 2, 1) := by decide +kernel
theorem dL_1257 : decode code 1257 = .ok (.aload_n 0, 1) := by decide +kernel
theorem dL_1258 : decode code 1258 = .ok (.iload_n 3, 1) := by decide +kernel
theorem dL_1259 : decode code 1259 = .ok (.iconst 1, 1) := by decide +kernel
theorem dL_1260 : decode code 1260 = .ok (.iadd, 1) := by decide +kernel
theorem dL_1261 : decode code 1261 = .ok (.iaload, 1) := by decide +kernel
theorem dL_1262 : decode code 1262 = .ok (.aload_n 0, 1) := by decide +kernel
theorem dL_1263 : decode code 1263 = .ok (.iload_n 3, 1) := by decide +kernel
theorem dL_1264 : decode code 1264 = .ok (.iconst 2, 1) := by decide +kernel
theorem dL_1265 : decode code 1265 = .ok (.iadd, 1) := by decide +kernel
theorem dL_1266 : decode code 1266 = .ok (.iaload, 1) := by decide +kernel
theorem dL_1267 : decode code 1267 = .ok (.invokevirtual 153, 3) := by decide +kernel
theorem dL_1270 : decode code 1270 = .ok (.if_icmp .eq 133, 3) := by decide +kernel
theorem dL_1273 : decode code 1273 = .ok (.iconst 0, 1) := by decide +kernel
theorem dL_1274 : decode code 1274 = .ok (.ireturn, 1) := by decide +kernel
theorem dL_1275 : decode code 1275 = .ok (.aload_n 1, 1) := by decide +kernel
theorem dL_1276 : decode code 1276 = .ok (.aload_n 0, 1) := by decide +kernel
theorem dL_1277 : decode code 1277 = .ok (.iload_n 3, 1) := by decide +kernel
theorem dL_1278 : decode code 1278 = .ok (.iconst 1, 1) := by decide +kernel
theorem dL_1279 : decode code 1279 = .ok (.iadd, 1) := by decide +kernel
theorem dL_1280 : decode code 1280 = .ok (.iaload, 1) := by decide +kernel
theorem dL_1281 : decode code 1281 = .ok (.aload_n 0, 1) := by decide +kernel
theorem dL_1282 : decode code 1282 = .ok (.iload_n 3, 1) := by decide +kernel
theorem dL_1283 : decode code 1283 = .ok (.iconst 2, 1) := by decide +kernel
theorem dL_1284 : decode code 1284 = .ok (.iadd, 1) := by decide +kernel
theorem dL_1285 : decode code 1285 = .ok (.iaload, 1) := by decide +kernel
theorem dL_1286 : decode code 1286 = .ok (.aload_n 0, 1) := by decide +kernel
theorem dL_1287 : decode code 1287 = .ok (.iload_n 3, 1) := by decide +kernel
theorem dL_1288 : decode code 1288 = .ok (.iconst 3, 1) := by decide +kernel
theorem dL_1289 : decode code 1289 = .ok (.iadd, 1) := by decide +kernel
theorem dL_1290 : decode code 1290 = .ok (.iaload, 1) := by decide +kernel
theorem dL_1291 : decode code 1291 = .ok (.invokevirtual 154, 3) := by decide +kernel
theorem dL_1294 : decode code 1294 = .ok (.aload_n 2, 1) := by decide +kernel
theorem dL_1295 : decode code 1295 = .ok (.aload_n 0, 1) := by decide +kernel
theorem dL_1296 : decode code 1296 = .ok (.iload_n 3, 1) := by decide +kernel
theorem dL_1297 : decode code 1297 = .ok (.iconst 1, 1) := by decide +kernel
theorem dL_1298 : decode code 1298 = .ok (.iadd, 1) := by decide +kernel
theorem dL_1299 : decode code 1299 = .ok (.iaload, 1) := by decide +kernel
theorem dL_1300 : decode code 1300 = .ok (.aload_n 0, 1) := by decide +kernel
theorem dL_1301 : decode code 1301 = .ok (.iload_n 3, 1) := by decide +kernel
theorem dL_1302 : decode code 1302 = .ok (.iconst 2, 1) := by decide +kernel
theorem dL_1303 : decode code 1303 = .ok (.iadd, 1) := by decide +kernel
theorem dL_1304 : decode code 1304 = .ok (.iaload, 1) := by decide +kernel
theorem dL_1305 : decode code 1305 = .ok (.aload_n 0, 1) := by decide +kernel
theorem dL_1306 : decode code 1306 = .ok (.iload_n 3, 1) := by decide +kernel
theorem dL_1307 : decode code 1307 = .ok (.iconst 3, 1) := by decide +kernel
theorem dL_1308 : decode code 1308 = .ok (.iadd, 1) := by decide +kernel
theorem dL_1309 : decode code 1309 = .ok (.iaload, 1) := by decide +kernel
theorem dL_1310 : decode code 1310 = .ok (.invokevirtual 157, 3) := by decide +kernel
theorem dL_1313 : decode code 1313 = .ok (.if_icmp .eq 90, 3) := by decide +kernel
theorem dL_1316 : decode code 1316 = .ok (.iconst 0, 1) := by decide +kernel
theorem dL_1317 : decode code 1317 = .ok (.ireturn, 1) := by decide +kernel
theorem dL_1318 : decode code 1318 = .ok (.aload_n 1, 1) := by decide +kernel
theorem dL_1319 : decode code 1319 = .ok (.invokevirtual 158, 3) := by decide +kernel
theorem dL_1322 : decode code 1322 = .ok (.aload_n 2, 1) := by decide +kernel
theorem dL_1323 : decode code 1323 = .ok (.invokevirtual 161, 3) := by decide +kernel
theorem dL_1326 : decode code 1326 = .ok (.if_icmp .eq 77, 3) := by decide +kernel
theorem dL_1329 : decode code 1329 = .ok (.iconst 0, 1) := by decide +kernel
theorem dL_1330 : decode code 1330 = .ok (.ireturn, 1) := by decide +kernel
theorem dL_1331 : decode code 1331 = .ok (.aload_n 1, 1) := by decide +kernel
theorem dL_1332 : decode code 1332 = .ok (.invokevirtual 162, 3) := by decide +kernel
theorem dL_1335 : decode code 1335 = .ok (.aload_n 2, 1) := by decide +kernel
theorem dL_1336 : decode code 1336 = .ok (.invokevirtual 165, 3) := by decide +kernel
theorem dL_1339 : decode code 1339 = .ok (.if_icmp .eq 64, 3) := by decide +kernel
theorem dL_1342 : decode code 1342 = .ok (.iconst 0, 1) := by decide +kernel
theorem dL_1343 : decode code 1343 = .ok (.ireturn, 1) := by decide +kernel
theorem dL_1344 : decode code 1344 = .ok (.aload_n 1, 1) := by decide +kernel
theorem dL_1345 : decode code 1345 = .ok (.invokevirtual 166, 3) := by decide +kernel
theorem dL_1348 : decode code 1348 = .ok (.aload_n 2, 1) := by decide +kernel
theorem dL_1349 : decode code 1349 = .ok (.invokevirtual 169, 3) := by decide +kernel
theorem dL_1352 : decode code 1352 = .ok (.if_icmp .eq 51, 3) := by decide +kernel
theorem dL_1355 : decode code 1355 = .ok (.iconst 0, 1) := by decide +kernel
theorem dL_1356 : decode code 1356 = .ok (.ireturn, 1) := by decide +kernel
theorem dL_1357 : decode code 1357 = .ok (.aload_n 1, 1) := by decide +kernel
theorem dL_1358 : decode code 1358 = .ok (.aload_n 0, 1) := by decide +kernel
theorem dL_1359 : decode code 1359 = .ok (.iload_n 3, 1) := by decide +kernel
theorem dL_1360 : decode code 1360 = .ok (.iconst 1, 1) := by decide +kernel
theorem dL_1361 : decode code 1361 = .ok (.iadd, 1) := by decide +kernel
theorem dL_1362 : decode code 1362 = .ok (.iaload, 1) := by decide +kernel
theorem dL_1363 : decode code 1363 = .ok (.invokevirtual 170, 3) := by decide +kernel
theorem dL_1366 : decode code 1366 = .ok (.aload_n 2, 1) := by decide +kernel
theorem dL_1367 : decode code 1367 = .ok (.aload_n 0, 1) := by decide +kernel
theorem dL_1368 : decode code 1368 = .ok (.iload_n 3, 1) := by decide +kernel
theorem dL_1369 : decode code 1369 = .ok (.iconst 1, 1) := by decide +kernel
theorem dL_1370 : decode code 1370 = .ok (.iadd, 1) := by decide +kernel
theorem dL_1371 : decode code 1371 = .ok (.iaload, 1) := by decide +kernel
