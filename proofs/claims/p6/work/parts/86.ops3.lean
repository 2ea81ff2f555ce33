theorem dL_law_1205 : decode cL_law 1205 = .ok (.aload_n 1, 1) := by decide +kernel
theorem dL_law_1206 : decode cL_law 1206 = .ok (.aload_n 0, 1) := by decide +kernel
theorem dL_law_1207 : decode cL_law 1207 = .ok (.iload 4, 2) := by decide +kernel
theorem dL_law_1209 : decode cL_law 1209 = .ok (.iconst 1, 1) := by decide +kernel
theorem dL_law_1210 : decode cL_law 1210 = .ok (.iadd, 1) := by decide +kernel
theorem dL_law_1211 : decode cL_law 1211 = .ok (.iaload, 1) := by decide +kernel
theorem dL_law_1215 : decode cL_law 1215 = .ok (.pop, 1) := by decide +kernel
theorem dL_law_1216 : decode cL_law 1216 = .ok (.aload_n 2, 1) := by decide +kernel
theorem dL_law_1217 : decode cL_law 1217 = .ok (.aload_n 0, 1) := by decide +kernel
theorem dL_law_1218 : decode cL_law 1218 = .ok (.iload 4, 2) := by decide +kernel
theorem dL_law_1220 : decode cL_law 1220 = .ok (.iconst 1, 1) := by decide +kernel
theorem dL_law_1221 : decode cL_law 1221 = .ok (.iadd, 1) := by decide +kernel
theorem dL_law_1222 : decode cL_law 1222 = .ok (.iaload, 1) := by decide +kernel
theorem dL_law_1226 : decode cL_law 1226 = .ok (.pop, 1) := by decide +kernel
theorem dL_law_1227 : decode cL_law 1227 = .ok (.goto 254, 3) := by decide +kernel
theorem dL_law_1230 : decode cL_law 1230 = .ok (.aload_n 1, 1) := by decide +kernel
theorem dL_law_1231 : decode cL_law 1231 = .ok (.aload_n 0, 1) := by decide +kernel
theorem dL_law_1232 : decode cL_law 1232 = .ok (.iload 4, 2) := by decide +kernel
theorem dL_law_1234 : decode cL_law 1234 = .ok (.iconst 1, 1) := by decide +kernel
theorem dL_law_1235 : decode cL_law 1235 = .ok (.iadd, 1) := by decide +kernel
theorem dL_law_1236 : decode cL_law 1236 = .ok (.iaload, 1) := by decide +kernel
theorem dL_law_1237 : decode cL_law 1237 = .ok (.aload_n 0, 1) := by decide +kernel
theorem dL_law_1238 : decode cL_law 1238 = .ok (.iload 4, 2) := by decide +kernel
theorem dL_law_1240 : decode cL_law 1240 = .ok (.iconst 2, 1) := by decide +kernel
theorem dL_law_1241 : decode cL_law 1241 = .ok (.iadd, 1) := by decide +kernel
theorem dL_law_1242 : decode cL_law 1242 = .ok (.iaload, 1) := by decide +kernel
theorem dL_law_1246 : decode cL_law 1246 = .ok (.pop, 1) := by decide +kernel
theorem dL_law_1247 : decode cL_law 1247 = .ok (.aload_n 2, 1) := by decide +kernel
theorem dL_law_1248 : decode cL_law 1248 = .ok (.aload_n 0, 1) := by decide +kernel
theorem dL_law_1249 : decode cL_law 1249 = .ok (.iload 4, 2) := by decide +kernel
theorem dL_law_1251 : decode cL_law 1251 = .ok (.iconst 1, 1) := by decide +kernel
theorem dL_law_1252 : decode cL_law 1252 = .ok (.iadd, 1) := by decide +kernel
theorem dL_law_1253 : decode cL_law 1253 = .ok (.iaload, 1) := by decide +kernel
theorem dL_law_1254 : decode cL_law 1254 = .ok (.aload_n 0, 1) := by decide +kernel
theorem dL_law_1255 : decode cL_law 1255 = .ok (.iload 4, 2) := by decide +kernel
theorem dL_law_1257 : decode cL_law 1257 = .ok (.iconst 2, 1) := by decide +kernel
theorem dL_law_1258 : decode cL_law 1258 = .ok (.iadd, 1) := by decide +kernel
theorem dL_law_1259 : decode cL_law 1259 = .ok (.iaload, 1) := by decide +kernel
theorem dL_law_1263 : decode cL_law 1263 = .ok (.pop, 1) := by decide +kernel
theorem dL_law_1264 : decode cL_law 1264 = .ok (.goto 217, 3) := by decide +kernel
theorem dL_law_1267 : decode cL_law 1267 = .ok (.aload_n 1, 1) := by decide +kernel
theorem dL_law_1268 : decode cL_law 1268 = .ok (.aload_n 0, 1) := by decide +kernel
theorem dL_law_1269 : decode cL_law 1269 = .ok (.iload 4, 2) := by decide +kernel
theorem dL_law_1271 : decode cL_law 1271 = .ok (.iconst 1, 1) := by decide +kernel
theorem dL_law_1272 : decode cL_law 1272 = .ok (.iadd, 1) := by decide +kernel
theorem dL_law_1273 : decode cL_law 1273 = .ok (.iaload, 1) := by decide +kernel
theorem dL_law_1274 : decode cL_law 1274 = .ok (.aload_n 0, 1) := by decide +kernel
theorem dL_law_1275 : decode cL_law 1275 = .ok (.iload 4, 2) := by decide +kernel
theorem dL_law_1277 : decode cL_law 1277 = .ok (.iconst 2, 1) := by decide +kernel
theorem dL_law_1278 : decode cL_law 1278 = .ok (.iadd, 1) := by decide +kernel
theorem dL_law_1279 : decode cL_law 1279 = .ok (.iaload, 1) := by decide +kernel
theorem dL_law_1283 : decode cL_law 1283 = .ok (.pop, 1) := by decide +kernel
theorem dL_law_1284 : decode cL_law 1284 = .ok (.aload_n 2, 1) := by decide +kernel
theorem dL_law_1285 : decode cL_law 1285 = .ok (.aload_n 0, 1) := by decide +kernel
theorem dL_law_1286 : decode cL_law 1286 = .ok (.iload 4, 2) := by decide +kernel
theorem dL_law_1288 : decode cL_law 1288 = .ok (.iconst 1, 1) := by decide +kernel
theorem dL_law_1289 : decode cL_law 1289 = .ok (.iadd, 1) := by decide +kernel
theorem dL_law_1290 : decode cL_law 1290 = .ok (.iaload, 1) := by decide +kernel
theorem dL_law_1291 : decode cL_law 1291 = .ok (.aload_n 0, 1) := by decide +kernel
theorem dL_law_1292 : decode cL_law 1292 = .ok (.iload 4, 2) := by decide +kernel
theorem dL_law_1294 : decode cL_law 1294 = .ok (.iconst 2, 1) := by decide +kernel
theorem dL_law_1295 : decode cL_law 1295 = .ok (.iadd, 1) := by decide +kernel
theorem dL_law_1296 : decode cL_law 1296 = .ok (.iaload, 1) := by decide +kernel
theorem dL_law_1300 : decode cL_law 1300 = .ok (.pop, 1) := by decide +kernel
theorem dL_law_1301 : decode cL_law 1301 = .ok (.goto 180, 3) := by decide +kernel
theorem dL_law_1304 : decode cL_law 1304 = .ok (.aload_n 1, 1) := by decide +kernel
theorem dL_law_1305 : decode cL_law 1305 = .ok (.aload_n 0, 1) := by decide +kernel
theorem dL_law_1306 : decode cL_law 1306 = .ok (.iload 4, 2) := by decide +kernel
theorem dL_law_1308 : decode cL_law 1308 = .ok (.iconst 1, 1) := by decide +kernel
theorem dL_law_1309 : decode cL_law 1309 = .ok (.iadd, 1) := by decide +kernel
theorem dL_law_1310 : decode cL_law 1310 = .ok (.iaload, 1) := by decide +kernel
theorem dL_law_1311 : decode cL_law 1311 = .ok (.aload_n 0, 1) := by decide +kernel
theorem dL_law_1312 : decode cL_law 1312 = .ok (.iload 4, 2) := by decide +kernel
theorem dL_law_1314 : decode cL_law 1314 = .ok (.iconst 2, 1) := by decide +kernel
theorem dL_law_1315 : decode cL_law 1315 = .ok (.iadd, 1) := by decide +kernel
theorem dL_law_1316 : decode cL_law 1316 = .ok (.iaload, 1) := by decide +kernel
theorem dL_law_1317 : decode cL_law 1317 = .ok (.aload_n 0, 1) := by decide +kernel
theorem dL_law_1318 : decode cL_law 1318 = .ok (.iload 4, 2) := by decide +kernel
theorem dL_law_1320 : decode cL_law 1320 = .ok (.iconst 3, 1) := by decide +kernel
theorem dL_law_1321 : decode cL_law 1321 = .ok (.iadd, 1) := by decide +kernel
theorem dL_law_1322 : decode cL_law 1322 = .ok (.iaload, 1) := by decide +kernel
theorem dL_law_1323 : decode cL_law 1323 = .ok (.aload_n 0, 1) := by decide +kernel
theorem dL_law_1324 : decode cL_law 1324 = .ok (.iload 4, 2) := by decide +kernel
theorem dL_law_1326 : decode cL_law 1326 = .ok (.iconst 4, 1) := by decide +kernel
theorem dL_law_1327 : decode cL_law 1327 = .ok (.iadd, 1) := by decide +kernel
theorem dL_law_1328 : decode cL_law 1328 = .ok (.iaload, 1) := by decide +kernel
theorem dL_law_1329 : decode cL_law 1329 = .ok (.ifCond .eq 7, 3) := by decide +kernel
theorem dL_law_1336 : decode cL_law 1336 = .ok (.iconst 0, 1) := by decide +kernel
theorem dL_law_1337 : decode cL_law 1337 = .ok (.aload_n 0, 1) := by decide +kernel
theorem dL_law_1338 : decode cL_law 1338 = .ok (.iload 4, 2) := by decide +kernel
theorem dL_law_1340 : decode cL_law 1340 = .ok (.iconst 5, 1) := by decide +kernel
theorem dL_law_1341 : decode cL_law 1341 = .ok (.iadd, 1) := by decide +kernel
theorem dL_law_1342 : decode cL_law 1342 = .ok (.iaload, 1) := by decide +kernel
theorem dL_law_1346 : decode cL_law 1346 = .ok (.pop, 1) := by decide +kernel
theorem dL_law_1347 : decode cL_law 1347 = .ok (.aload_n 2, 1) := by decide +kernel
theorem dL_law_1348 : decode cL_law 1348 = .ok (.aload_n 0, 1) := by decide +kernel
theorem dL_law_1349 : decode cL_law 1349 = .ok (.iload 4, 2) := by decide +kernel
theorem dL_law_1351 : decode cL_law 1351 = .ok (.iconst 1, 1) := by decide +kernel
theorem dL_law_1352 : decode cL_law 1352 = .ok (.iadd, 1) := by decide +kernel
theorem dL_law_1353 : decode cL_law 1353 = .ok (.iaload, 1) := by decide +kernel
theorem dL_law_1354 : decode cL_law 1354 = .ok (.aload_n 0, 1) := by decide +kernel
theorem dL_law_1355 : decode cL_law 1355 = .ok (.iload 4, 2) := by decide +kernel
theorem dL_law_1357 : decode cL_law 1357 = .ok (.iconst 2, 1) := by decide +kernel
theorem dL_law_1358 : decode cL_law 1358 = .ok (.iadd, 1) := by decide +kernel
theorem dL_law_1359 : decode cL_law 1359 = .ok (.iaload, 1) := by decide +kernel
theorem dL_law_1360 : decode cL_law 1360 = .ok (.aload_n 0, 1) := by decide +kernel
theorem dL_law_1361 : decode cL_law 1361 = .ok (.iload 4, 2) := by decide +kernel
theorem dL_law_1363 : decode cL_law 1363 = .ok (.iconst 3, 1) := by decide +kernel
theorem dL_law_1364 : decode cL_law 1364 = .ok (.iadd, 1) := by decide +kernel
theorem dL_law_1365 : decode cL_law 1365 = .ok (.iaload, 1) := by decide +kernel
theorem dL_law_1366 : decode cL_law 1366 = .ok (.aload_n 0, 1) := by decide +kernel
theorem dL_law_1367 : decode cL_law 1367 = .ok (.iload 4, 2) := by decide +kernel
theorem dL_law_1369 : decode cL_law 1369 = .ok (.iconst 4, 1) := by decide +kernel
theorem dL_law_1370 : decode cL_law 1370 = .ok (.iadd, 1) := by decide +kernel
theorem dL_law_1371 : decode cL_law 1371 = .ok (.iaload, 1) := by decide +kernel
theorem dL_law_1372 : decode cL_law 1372 = .ok (.ifCond .eq 7, 3) := by decide +kernel
theorem dL_law_1379 : decode cL_law 1379 = .ok (.iconst 0, 1) := by decide +kernel
theorem dL_law_1380 : decode cL_law 1380 = .ok (.aload_n 0, 1) := by decide +kernel
theorem dL_law_1381 : decode cL_law 1381 = .ok (.iload 4, 2) := by decide +kernel
theorem dL_law_1383 : decode cL_law 1383 = .ok (.iconst 5, 1) := by decide +kernel
theorem dL_law_1384 : decode cL_law 1384 = .ok (.iadd, 1) := by decide +kernel
theorem dL_law_1385 : decode cL_law 1385 = .ok (.iaload, 1) := by decide +kernel
theorem dL_law_1389 : decode cL_law 1389 = .ok (.pop, 1) := by decide +kernel
theorem dL_law_1390 : decode cL_law 1390 = .ok (.goto 91, 3) := by decide +kernel
theorem dL_law_1332 : decode cL_law 1332 = .ok (.iconst 1, 1) := by decide +kernel
theorem dL_law_1333 : decode cL_law 1333 = .ok (.goto 4, 3) := by decide +kernel
theorem dL_law_1375 : decode cL_law 1375 = .ok (.iconst 1, 1) := by decide +kernel
theorem dL_law_1376 : decode cL_law 1376 = .ok (.goto 4, 3) := by decide +kernel
theorem dL_law_1393 : decode cL_law 1393 = .ok (.aload_n 1, 1) := by decide +kernel
theorem dL_law_1394 : decode cL_law 1394 = .ok (.aload_n 0, 1) := by decide +kernel
theorem dL_law_1395 : decode cL_law 1395 = .ok (.iload 4, 2) := by decide +kernel
theorem dL_law_1397 : decode cL_law 1397 = .ok (.iconst 1, 1) := by decide +kernel
theorem dL_law_1398 : decode cL_law 1398 = .ok (.iadd, 1) := by decide +kernel
theorem dL_law_1399 : decode cL_law 1399 = .ok (.iaload, 1) := by decide +kernel
theorem dL_law_1400 : decode cL_law 1400 = .ok (.aload_n 0, 1) := by decide +kernel
theorem dL_law_1401 : decode cL_law 1401 = .ok (.iload 4, 2) := by decide +kernel
theorem dL_law_1403 : decode cL_law 1403 = .ok (.iconst 2, 1) := by decide +kernel
theorem dL_law_1404 : decode cL_law 1404 = .ok (.iadd, 1) := by decide +kernel
theorem dL_law_1405 : decode cL_law 1405 = .ok (.iaload, 1) := by decide +kernel
theorem dL_law_1409 : decode cL_law 1409 = .ok (.pop, 1) := by decide +kernel
theorem dL_law_1410 : decode cL_law 1410 = .ok (.aload_n 2, 1) := by decide +kernel
theorem dL_law_1411 : decode cL_law 1411 = .ok (.aload_n 0, 1) := by decide +kernel
theorem dL_law_1412 : decode cL_law 1412 = .ok (.iload 4, 2) := by decide +kernel
theorem dL_law_1414 : decode cL_law 1414 = .ok (.iconst 1, 1) := by decide +kernel
theorem dL_law_1415 : decode cL_law 1415 = .ok (.iadd, 1) := by decide +kernel
theorem dL_law_1416 : decode cL_law 1416 = .ok (.iaload, 1) := by decide +kernel
theorem dL_law_1417 : decode cL_law 1417 = .ok (.aload_n 0, 1) := by decide +kernel
theorem dL_law_1418 : decode cL_law 1418 = .ok (.iload 4, 2) := by decide +kernel
theorem dL_law_1420 : decode cL_law 1420 = .ok (.iconst 2, 1) := by decide +kernel
theorem dL_law_1421 : decode cL_law 1421 = .ok (.iadd, 1) := by decide +kernel
theorem dL_law_1422 : decode cL_law 1422 = .ok (.iaload, 1) := by decide +kernel
theorem dL_law_1426 : decode cL_law 1426 = .ok (.pop, 1) := by decide +kernel
theorem dL_law_1427 : decode cL_law 1427 = .ok (.goto 54, 3) := by decide +kernel
theorem dL_law_1430 : decode cL_law 1430 = .ok (.aload_n 1, 1) := by decide +kernel
theorem dL_law_1434 : decode cL_law 1434 = .ok (.pop, 1) := by decide +kernel
theorem dL_law_1435 : decode cL_law 1435 = .ok (.aload_n 2, 1) := by decide +kernel
theorem dL_law_1439 : decode cL_law 1439 = .ok (.pop, 1) := by decide +kernel
theorem dL_law_1440 : decode cL_law 1440 = .ok (.goto 41, 3) := by decide +kernel
theorem dL_law_1443 : decode cL_law 1443 = .ok (.aload_n 1, 1) := by decide +kernel
theorem dL_law_1447 : decode cL_law 1447 = .ok (.pop, 1) := by decide +kernel
theorem dL_law_1448 : decode cL_law 1448 = .ok (.aload_n 2, 1) := by decide +kernel
theorem dL_law_1452 : decode cL_law 1452 = .ok (.pop, 1) := by decide +kernel
theorem dL_law_1453 : decode cL_law 1453 = .ok (.goto 28, 3) := by decide +kernel
theorem dL_law_1456 : decode cL_law 1456 = .ok (.aload_n 1, 1) := by decide +kernel
theorem dL_law_1457 : decode cL_law 1457 = .ok (.aload_n 0, 1) := by decide +kernel
theorem dL_law_1458 : decode cL_law 1458 = .ok (.iload 4, 2) := by decide +kernel
theorem dL_law_1460 : decode cL_law 1460 = .ok (.iconst 1, 1) := by decide +kernel
theorem dL_law_1461 : decode cL_law 1461 = .ok (.iadd, 1) := by decide +kernel
theorem dL_law_1462 : decode cL_law 1462 = .ok (.iaload, 1) := by decide +kernel
theorem dL_law_1466 : decode cL_law 1466 = .ok (.pop, 1) := by decide +kernel
theorem dL_law_1467 : decode cL_law 1467 = .ok (.aload_n 2, 1) := by decide +kernel
theorem dL_law_1468 : decode cL_law 1468 = .ok (.aload_n 0, 1) := by decide +kernel
theorem dL_law_1469 : decode cL_law 1469 = .ok (.iload 4, 2) := by decide +kernel
theorem dL_law_1471 : decode cL_law 1471 = .ok (.iconst 1, 1) := by decide +kernel
theorem dL_law_1472 : decode cL_law 1472 = .ok (.iadd, 1) := by decide +kernel
theorem dL_law_1473 : decode cL_law 1473 = .ok (.iaload, 1) := by decide +kernel
theorem dL_law_1477 : decode cL_law 1477 = .ok (.pop, 1) := by decide +kernel
theorem dL_law_1478 : decode cL_law 1478 = .ok (.goto 3, 3) := by decide +kernel
set_option maxHeartbeats 4000000 in
set_option maxRecDepth 100000 in
theorem law_op_24 {p : Program} {l : Launch} {e : Env} {s : State} {m : MethodId} {below : List Frame} {meth : Method} {c : Code} {dC : Nat → ClassId} {dI : Nat → Nat → Nat} {b : Nat} {L : Nat} {xs : Nat → Int32} {A AX AM AO : Nat → Prop} {Q : State → Prop} (hx : p.tables.exec = Jvm.exec) (hb : c.code = cL_law) (hml : c.maxLocals = 7) (hown : s.vm.findClass RL = some m.cls) (hT : ∀ w ∈ pw_T, w.before #[Value.ref b] s = true) (hA : ∀ q, s.heap.size ≤ q → A q) (hAX : ∀ q, AX q → A q) (hAM : ∀ q, AM q → A q) (hAO : ∀ q, AO q → A q) (hd1 : ∀ q, AX q → ¬ AM q) (hd2 : ∀ q, AX q → ¬ AO q) (hd3 : ∀ q, AM q → ¬ AO q) (hXs : va_X b L xs s s.heap) (hbl : b < s.heap.size) (hbA : ¬ A b) (hL : L ≤ 3584) {kc ks : Nat} (hkc : kc + 4 ≤ 601024) (hks : ks + 24 ≤ 7293034) {vi : Int32} {xx mm oo : Nat} {rr_bytes : Int32} {rr_fault : Int32} {rr_place : Int32} {f_rr_tape : Nat → Int32} {dX : DD} {cn_hour : Int32} {ci_hour : Int32} {xx_imageKept : Int32} {rd_count : Int32} {rd_knownFirst : Int32} {mm_taped : Int32} {mm_lastFault : Int32} {mm_lastPlace : Int32} {f_mm_tape : Nat → Int32} {dM : DD} {mm_next : Int32} {mm_imageNext : Int32} {mm_hasImage : Int32} {mm_readings : Int32} {mm_knownBy : Int32} {mm_thrown : Int32} (hv0 : 0 ≤ vi.toInt) (hv1 : vi.toInt + 7 ≤ (L : Int)) (hbt : rr_bytes.toInt = mm_taped.toInt) (hta : BTt f_rr_tape f_mm_tape rr_bytes.toInt) (hfa : rr_fault = mm_lastFault) (hpl : rr_place = mm_lastPlace) (hdd : dX = dM) (hho : cn_hour.toInt = mm_next.toInt) (hih : ci_hour.toInt = mm_imageNext.toInt) (him : xx_imageKept.toInt = mm_hasImage.toInt) (hrc : rd_count.toInt = mm_readings.toInt) (hrk : rd_knownFirst.toInt = mm_knownBy.toInt) {H : Heap} {locs : List Loc} {ls : Array Slot} (hX : XW dC dI AX s H xx rr_bytes rr_fault rr_place f_rr_tape dX cn_hour ci_hour xx_imageKept rd_count rd_knownFirst) (hM : MW dC dI AM s H mm mm_taped mm_lastFault mm_lastPlace f_mm_tape dM mm_next mm_imageNext mm_hasImage mm_readings mm_knownBy mm_thrown) (hO : OW dC dI AO s H oo) (hS : va_S A s.heap H locs) (hl : lv_has ls 7 [(4, .int vi), (3, .ref oo), (2, .ref mm), (1, .ref xx), (0, .ref b)]) (kk : ∀ (H1 : Heap) (locs1 : List Loc) (ls1 : Array Slot) (n_rr_bytes : Int32) (n_rr_fault : Int32) (n_rr_place : Int32) (n_f_rr_tape : Nat → Int32) (n_dX : DD) (n_cn_hour : Int32) (n_ci_hour : Int32) (n_xx_imageKept : Int32) (n_rd_count : Int32) (n_rd_knownFirst : Int32) (n_mm_taped : Int32) (n_mm_lastFault : Int32) (n_mm_lastPlace : Int32) (n_f_mm_tape : Nat → Int32) (n_dM : DD) (n_mm_next : Int32) (n_mm_imageNext : Int32) (n_mm_hasImage : Int32) (n_mm_readings : Int32) (n_mm_knownBy : Int32) (n_mm_thrown : Int32), n_rr_bytes.toInt = n_mm_taped.toInt → BTt n_f_rr_tape n_f_mm_tape n_rr_bytes.toInt → n_rr_fault = n_mm_lastFault → n_rr_place = n_mm_lastPlace → n_dX = n_dM → n_cn_hour.toInt = n_mm_next.toInt → n_ci_hour.toInt = n_mm_imageNext.toInt → n_xx_imageKept.toInt = n_mm_hasImage.toInt → n_rd_count.toInt = n_mm_readings.toInt → n_rd_knownFirst.toInt = n_mm_knownBy.toInt → XW dC dI AX s H1 xx n_rr_bytes n_rr_fault n_rr_place n_f_rr_tape n_dX n_cn_hour n_ci_hour n_xx_imageKept n_rd_count n_rd_knownFirst → MW dC dI AM s H1 mm n_mm_taped n_mm_lastFault n_mm_lastPlace n_f_mm_tape n_dM n_mm_next n_mm_imageNext n_mm_hasImage n_mm_readings n_mm_knownBy n_mm_thrown → OW dC dI AO s H1 oo → va_S A s.heap H1 locs1 → lv_has ls1 7 [(4, .int vi), (3, .ref oo), (2, .ref mm), (1, .ref xx), (0, .ref b)] → W p l e room_1 s m #[Value.ref b] below meth c H1 locs1 (kc + 1) (ks + 6) Q (F0 m 1481 ls1 [])) : W p l e room_1 s m #[Value.ref b] below meth c H locs kc ks Q (F0 m 1205 ls []) := by
  refine lv_aload_n hx hb dL_law_1205 rfl (lv_at hl 3 rfl) ?_
  refine lv_aload_n hx hb dL_law_1206 rfl (lv_at hl 4 rfl) ?_
  refine lv_iload hx hb dL_law_1207 (lv_at hl 0 rfl) ?_
  refine lv_iconst (v := 1) hx hb dL_law_1209 (by decide) ?_
  refine lv_iadd hx hb dL_law_1210 ?_
  refine lv_topi (fun z_1 ez_1 => ?_)
  have kz_1 : z_1.toInt = vi.toInt + 1 := ti_add ez_1 rfl (by decide) (by omega) (by omega)
  clear ez_1
  refine va_sld hx hb hXs hbl hbA hS (vp_in_iff.mpr (by omega)) dL_law_1211 ?_
  refine lv_topi (fun z_2 ez_2 => ?_)
  refine xs_24 hx hb hml hown hT hA hAX (by omega) (by omega) hl hX hS (fun r_3 H_3 lo_3 hX hfr hz hS => ?_)
  have hM := hM.keep (fun q hq h => hfr q hq (fun z => hd1 q z h))
  have hO := hO.keep (fun q hq h => hfr q hq (fun z => hd2 q z h))
  clear hfr hz
  refine lv_pop hx hb dL_law_1215 rfl ?_
  refine lv_aload_n hx hb dL_law_1216 rfl (lv_at hl 2 rfl) ?_
  refine lv_aload_n hx hb dL_law_1217 rfl (lv_at hl 4 rfl) ?_
  refine lv_iload hx hb dL_law_1218 (lv_at hl 0 rfl) ?_
  refine lv_iconst (v := 1) hx hb dL_law_1220 (by decide) ?_
  refine lv_iadd hx hb dL_law_1221 ?_
  refine lv_topi (fun z_4 ez_4 => ?_)
  have kz_4 : z_4.toInt = vi.toInt + 1 := ti_add ez_4 rfl (by decide) (by omega) (by omega)
  clear ez_4
  refine va_sld hx hb hXs hbl hbA hS (vp_in_iff.mpr (by omega)) dL_law_1222 ?_
  refine lv_topi (fun z_5 ez_5 => ?_)
  have hq_6 : z_2 = z_5 := ez_2.trans ((congrArg (fun q : Int32 => xs q.toNatClampNeg) (Int32.toInt_inj.mp (by omega))).trans ez_5.symm)
  clear ez_5
  subst hq_6
  refine ms_24 hx hb hml hown hT hA hAM (by omega) (by omega) hl hM hS (fun r_7 H_7 lo_7 b7_mm_thrown hM hfr hz hS => ?_)
  have hX := hX.keep (fun q hq h => hfr q hq (fun z => hd1 q h z))
  have hO := hO.keep (fun q hq h => hfr q hq (fun z => hd3 q z h))
  clear hfr hz
  refine lv_pop hx hb dL_law_1226 rfl ?_
  refine lv_goto (tgt := 1481) hx hb dL_law_1227 (by decide) ?_
  refine W.widen (k := kc + 1) (n := ks + 6) (by omega) (by omega) ?_
  exact kk H_7 lo_7 _ rr_bytes rr_fault rr_place f_rr_tape dX cn_hour ci_hour xx_imageKept rd_count rd_knownFirst mm_taped mm_lastFault mm_lastPlace f_mm_tape dM mm_next mm_imageNext mm_hasImage mm_readings mm_knownBy b7_mm_thrown hbt hta hfa hpl hdd hho hih him hrc hrk hX hM hO hS (lv_sub hl [0, 1, 2, 3, 4] rfl)
set_option maxHeartbeats 4000000 in
set_option maxRecDepth 100000 in
theorem law_op_25 {p : Program} {l : Launch} {e : Env} {s : State} {m : MethodId} {below : List Frame} {meth : Method} {c : Code} {dC : Nat → ClassId} {dI : Nat → Nat → Nat} {b : Nat} {L : Nat} {xs : Nat → Int32} {A AX AM AO : Nat → Prop} {Q : State → Prop} (hx : p.tables.exec = Jvm.exec) (hb : c.code = cL_law) (hml : c.maxLocals = 7) (hown : s.vm.findClass RL = some m.cls) (hT : ∀ w ∈ pw_T, w.before #[Value.ref b] s = true) (hA : ∀ q, s.heap.size ≤ q → A q) (hAX : ∀ q, AX q → A q) (hAM : ∀ q, AM q → A q) (hAO : ∀ q, AO q → A q) (hd1 : ∀ q, AX q → ¬ AM q) (hd2 : ∀ q, AX q → ¬ AO q) (hd3 : ∀ q, AM q → ¬ AO q) (hXs : va_X b L xs s s.heap) (hbl : b < s.heap.size) (hbA : ¬ A b) (hL : L ≤ 3584) {kc ks : Nat} (hkc : kc + 4 ≤ 601024) (hks : ks + 24 ≤ 7293034) {vi : Int32} {xx mm oo : Nat} {rr_bytes : Int32} {rr_fault : Int32} {rr_place : Int32} {f_rr_tape : Nat → Int32} {dX : DD} {cn_hour : Int32} {ci_hour : Int32} {xx_imageKept : Int32} {rd_count : Int32} {rd_knownFirst : Int32} {mm_taped : Int32} {mm_lastFault : Int32} {mm_lastPlace : Int32} {f_mm_tape : Nat → Int32} {dM : DD} {mm_next : Int32} {mm_imageNext : Int32} {mm_hasImage : Int32} {mm_readings : Int32} {mm_knownBy : Int32} {mm_thrown : Int32} (hv0 : 0 ≤ vi.toInt) (hv1 : vi.toInt + 7 ≤ (L : Int)) (hbt : rr_bytes.toInt = mm_taped.toInt) (hta : BTt f_rr_tape f_mm_tape rr_bytes.toInt) (hfa : rr_fault = mm_lastFault) (hpl : rr_place = mm_lastPlace) (hdd : dX = dM) (hho : cn_hour.toInt = mm_next.toInt) (hih : ci_hour.toInt = mm_imageNext.toInt) (him : xx_imageKept.toInt = mm_hasImage.toInt) (hrc : rd_count.toInt = mm_readings.toInt) (hrk : rd_knownFirst.toInt = mm_knownBy.toInt) {H : Heap} {locs : List Loc} {ls : Array Slot} (hX : XW dC dI AX s H xx rr_bytes rr_fault rr_place f_rr_tape dX cn_hour ci_hour xx_imageKept rd_count rd_knownFirst) (hM : MW dC dI AM s H mm mm_taped mm_lastFault mm_lastPlace f_mm_tape dM mm_next mm_imageNext mm_hasImage mm_readings mm_knownBy mm_thrown) (hO : OW dC dI AO s H oo) (hS : va_S A s.heap H locs) (hl : lv_has ls 7 [(4, .int vi), (3, .ref oo), (2, .ref mm), (1, .ref xx), (0, .ref b)]) (kk : ∀ (H1 : Heap) (locs1 : List Loc) (ls1 : Array Slot) (n_rr_bytes : Int32) (n_rr_fault : Int32) (n_rr_place : Int32) (n_f_rr_tape : Nat → Int32) (n_dX : DD) (n_cn_hour : Int32) (n_ci_hour : Int32) (n_xx_imageKept : Int32) (n_rd_count : Int32) (n_rd_knownFirst : Int32) (n_mm_taped : Int32) (n_mm_lastFault : Int32) (n_mm_lastPlace : Int32) (n_f_mm_tape : Nat → Int32) (n_dM : DD) (n_mm_next : Int32) (n_mm_imageNext : Int32) (n_mm_hasImage : Int32) (n_mm_readings : Int32) (n_mm_knownBy : Int32) (n_mm_thrown : Int32), n_rr_bytes.toInt = n_mm_taped.toInt → BTt n_f_rr_tape n_f_mm_tape n_rr_bytes.toInt → n_rr_fault = n_mm_lastFault → n_rr_place = n_mm_lastPlace → n_dX = n_dM → n_cn_hour.toInt = n_mm_next.toInt → n_ci_hour.toInt = n_mm_imageNext.toInt → n_xx_imageKept.toInt = n_mm_hasImage.toInt → n_rd_count.toInt = n_mm_readings.toInt → n_rd_knownFirst.toInt = n_mm_knownBy.toInt → XW dC dI AX s H1 xx n_rr_bytes n_rr_fault n_rr_place n_f_rr_tape n_dX n_cn_hour n_ci_hour n_xx_imageKept n_rd_count n_rd_knownFirst → MW dC dI AM s H1 mm n_mm_taped n_mm_lastFault n_mm_lastPlace n_f_mm_tape n_dM n_mm_next n_mm_imageNext n_mm_hasImage n_mm_readings n_mm_knownBy n_mm_thrown → OW dC dI AO s H1 oo → va_S A s.heap H1 locs1 → lv_has ls1 7 [(4, .int vi), (3, .ref oo), (2, .ref mm), (1, .ref xx), (0, .ref b)] → W p l e room_1 s m #[Value.ref b] below meth c H1 locs1 (kc + 1) (ks + 6) Q (F0 m 1481 ls1 [])) : W p l e room_1 s m #[Value.ref b] below meth c H locs kc ks Q (F0 m 1230 ls []) := by
  refine lv_aload_n hx hb dL_law_1230 rfl (lv_at hl 3 rfl) ?_
  refine lv_aload_n hx hb dL_law_1231 rfl (lv_at hl 4 rfl) ?_
  refine lv_iload hx hb dL_law_1232 (lv_at hl 0 rfl) ?_
  refine lv_iconst (v := 1) hx hb dL_law_1234 (by decide) ?_
  refine lv_iadd hx hb dL_law_1235 ?_
  refine lv_topi (fun z_1 ez_1 => ?_)
  have kz_1 : z_1.toInt = vi.toInt + 1 := ti_add ez_1 rfl (by decide) (by omega) (by omega)
  clear ez_1
  refine va_sld hx hb hXs hbl hbA hS (vp_in_iff.mpr (by omega)) dL_law_1236 ?_
  refine lv_topi (fun z_2 ez_2 => ?_)
  refine lv_aload_n hx hb dL_law_1237 rfl (lv_at hl 4 rfl) ?_
  refine lv_iload hx hb dL_law_1238 (lv_at hl 0 rfl) ?_
  refine lv_iconst (v := 2) hx hb dL_law_1240 (by decide) ?_
  refine lv_iadd hx hb dL_law_1241 ?_
  refine lv_topi (fun z_3 ez_3 => ?_)
  have kz_3 : z_3.toInt = vi.toInt + 2 := ti_add ez_3 rfl (by decide) (by omega) (by omega)
  clear ez_3
  refine va_sld hx hb hXs hbl hbA hS (vp_in_iff.mpr (by omega)) dL_law_1242 ?_
  refine lv_topi (fun z_4 ez_4 => ?_)
  refine xs_25 hx hb hml hown hT hA hAX (by omega) (by omega) hl hX hS (fun r_5 H_5 lo_5 hX hfr hz hS => ?_)
  have hM := hM.keep (fun q hq h => hfr q hq (fun z => hd1 q z h))
  have hO := hO.keep (fun q hq h => hfr q hq (fun z => hd2 q z h))
  clear hfr hz
  refine lv_pop hx hb dL_law_1246 rfl ?_
  refine lv_aload_n hx hb dL_law_1247 rfl (lv_at hl 2 rfl) ?_
  refine lv_aload_n hx hb dL_law_1248 rfl (lv_at hl 4 rfl) ?_
  refine lv_iload hx hb dL_law_1249 (lv_at hl 0 rfl) ?_
  refine lv_iconst (v := 1) hx hb dL_law_1251 (by decide) ?_
  refine lv_iadd hx hb dL_law_1252 ?_
  refine lv_topi (fun z_6 ez_6 => ?_)
  have kz_6 : z_6.toInt = vi.toInt + 1 := ti_add ez_6 rfl (by decide) (by omega) (by omega)
  clear ez_6
  refine va_sld hx hb hXs hbl hbA hS (vp_in_iff.mpr (by omega)) dL_law_1253 ?_
  refine lv_topi (fun z_7 ez_7 => ?_)
  have hq_8 : z_2 = z_7 := ez_2.trans ((congrArg (fun q : Int32 => xs q.toNatClampNeg) (Int32.toInt_inj.mp (by omega))).trans ez_7.symm)
  clear ez_7
  subst hq_8
  refine lv_aload_n hx hb dL_law_1254 rfl (lv_at hl 4 rfl) ?_
  refine lv_iload hx hb dL_law_1255 (lv_at hl 0 rfl) ?_
  refine lv_iconst (v := 2) hx hb dL_law_1257 (by decide) ?_
  refine lv_iadd hx hb dL_law_1258 ?_
  refine lv_topi (fun z_9 ez_9 => ?_)
  have kz_9 : z_9.toInt = vi.toInt + 2 := ti_add ez_9 rfl (by decide) (by omega) (by omega)
  clear ez_9
  refine va_sld hx hb hXs hbl hbA hS (vp_in_iff.mpr (by omega)) dL_law_1259 ?_
  refine lv_topi (fun z_10 ez_10 => ?_)
  have hq_11 : z_4 = z_10 := ez_4.trans ((congrArg (fun q : Int32 => xs q.toNatClampNeg) (Int32.toInt_inj.mp (by omega))).trans ez_10.symm)
  clear ez_10
  subst hq_11
  refine ms_25 hx hb hml hown hT hA hAM (by omega) (by omega) hl hM hS (fun r_12 H_12 lo_12 b12_mm_thrown hM hfr hz hS => ?_)
  have hX := hX.keep (fun q hq h => hfr q hq (fun z => hd1 q h z))
  have hO := hO.keep (fun q hq h => hfr q hq (fun z => hd3 q z h))
  clear hfr hz
  refine lv_pop hx hb dL_law_1263 rfl ?_
  refine lv_goto (tgt := 1481) hx hb dL_law_1264 (by decide) ?_
  refine W.widen (k := kc + 1) (n := ks + 6) (by omega) (by omega) ?_
  exact kk H_12 lo_12 _ rr_bytes rr_fault rr_place f_rr_tape dX cn_hour ci_hour xx_imageKept rd_count rd_knownFirst mm_taped mm_lastFault mm_lastPlace f_mm_tape dM mm_next mm_imageNext mm_hasImage mm_readings mm_knownBy b12_mm_thrown hbt hta hfa hpl hdd hho hih him hrc hrk hX hM hO hS (lv_sub hl [0, 1, 2, 3, 4] rfl)
set_option maxHeartbeats 4000000 in
set_option maxRecDepth 100000 in
theorem law_op_26 {p : Program} {l : Launch} {e : Env} {s : State} {m : MethodId} {below : List Frame} {meth : Method} {c : Code} {dC : Nat → ClassId} {dI : Nat → Nat → Nat} {b : Nat} {L : Nat} {xs : Nat → Int32} {A AX AM AO : Nat → Prop} {Q : State → Prop} (hx : p.tables.exec = Jvm.exec) (hb : c.code = cL_law) (hml : c.maxLocals = 7) (hown : s.vm.findClass RL = some m.cls) (hT : ∀ w ∈ pw_T, w.before #[Value.ref b] s = true) (hA : ∀ q, s.heap.size ≤ q → A q) (hAX : ∀ q, AX q → A q) (hAM : ∀ q, AM q → A q) (hAO : ∀ q, AO q → A q) (hd1 : ∀ q, AX q → ¬ AM q) (hd2 : ∀ q, AX q → ¬ AO q) (hd3 : ∀ q, AM q → ¬ AO q) (hXs : va_X b L xs s s.heap) (hbl : b < s.heap.size) (hbA : ¬ A b) (hL : L ≤ 3584) {kc ks : Nat} (hkc : kc + 4 ≤ 601024) (hks : ks + 24 ≤ 7293034) {vi : Int32} {xx mm oo : Nat} {rr_bytes : Int32} {rr_fault : Int32} {rr_place : Int32} {f_rr_tape : Nat → Int32} {dX : DD} {cn_hour : Int32} {ci_hour : Int32} {xx_imageKept : Int32} {rd_count : Int32} {rd_knownFirst : Int32} {mm_taped : Int32} {mm_lastFault : Int32} {mm_lastPlace : Int32} {f_mm_tape : Nat → Int32} {dM : DD} {mm_next : Int32} {mm_imageNext : Int32} {mm_hasImage : Int32} {mm_readings : Int32} {mm_knownBy : Int32} {mm_thrown : Int32} (hv0 : 0 ≤ vi.toInt) (hv1 : vi.toInt + 7 ≤ (L : Int)) (hbt : rr_bytes.toInt = mm_taped.toInt) (hta : BTt f_rr_tape f_mm_tape rr_bytes.toInt) (hfa : rr_fault = mm_lastFault) (hpl : rr_place = mm_lastPlace) (hdd : dX = dM) (hho : cn_hour.toInt = mm_next.toInt) (hih : ci_hour.toInt = mm_imageNext.toInt) (him : xx_imageKept.toInt = mm_hasImage.toInt) (hrc : rd_count.toInt = mm_readings.toInt) (hrk : rd_knownFirst.toInt = mm_knownBy.toInt) {H : Heap} {locs : List Loc} {ls : Array Slot} (hX : XW dC dI AX s H xx rr_bytes rr_fault rr_place f_rr_tape dX cn_hour ci_hour xx_imageKept rd_count rd_knownFirst) (hM : MW dC dI AM s H mm mm_taped mm_lastFault mm_lastPlace f_mm_tape dM mm_next mm_imageNext mm_hasImage mm_readings mm_knownBy mm_thrown) (hO : OW dC dI AO s H oo) (hS : va_S A s.heap H locs) (hl : lv_has ls 7 [(4, .int vi), (3, .ref oo), (2, .ref mm), (1, .ref xx), (0, .ref b)]) (kk : ∀ (H1 : Heap) (locs1 : List Loc) (ls1 : Array Slot) (n_rr_bytes : Int32) (n_rr_fault : Int32) (n_rr_place : Int32) (n_f_rr_tape : Nat → Int32) (n_dX : DD) (n_cn_hour : Int32) (n_ci_hour : Int32) (n_xx_imageKept : Int32) (n_rd_count : Int32) (n_rd_knownFirst : Int32) (n_mm_taped : Int32) (n_mm_lastFault : Int32) (n_mm_lastPlace : Int32) (n_f_mm_tape : Nat → Int32) (n_dM : DD) (n_mm_next : Int32) (n_mm_imageNext : Int32) (n_mm_hasImage : Int32) (n_mm_readings : Int32) (n_mm_knownBy : Int32) (n_mm_thrown : Int32), n_rr_bytes.toInt = n_mm_taped.toInt → BTt n_f_rr_tape n_f_mm_tape n_rr_bytes.toInt → n_rr_fault = n_mm_lastFault → n_rr_place = n_mm_lastPlace → n_dX = n_dM → n_cn_hour.toInt = n_mm_next.toInt → n_ci_hour.toInt = n_mm_imageNext.toInt → n_xx_imageKept.toInt = n_mm_hasImage.toInt → n_rd_count.toInt = n_mm_readings.toInt → n_rd_knownFirst.toInt = n_mm_knownBy.toInt → XW dC dI AX s H1 xx n_rr_bytes n_rr_fault n_rr_place n_f_rr_tape n_dX n_cn_hour n_ci_hour n_xx_imageKept n_rd_count n_rd_knownFirst → MW dC dI AM s H1 mm n_mm_taped n_mm_lastFault n_mm_lastPlace n_f_mm_tape n_dM n_mm_next n_mm_imageNext n_mm_hasImage n_mm_readings n_mm_knownBy n_mm_thrown → OW dC dI AO s H1 oo → va_S A s.heap H1 locs1 → lv_has ls1 7 [(4, .int vi), (3, .ref oo), (2, .ref mm), (1, .ref xx), (0, .ref b)] → W p l e room_1 s m #[Value.ref b] below meth c H1 locs1 (kc + 1) (ks + 6) Q (F0 m 1481 ls1 [])) : W p l e room_1 s m #[Value.ref b] below meth c H locs kc ks Q (F0 m 1267 ls []) := by
  refine lv_aload_n hx hb dL_law_1267 rfl (lv_at hl 3 rfl) ?_
  refine lv_aload_n hx hb dL_law_1268 rfl (lv_at hl 4 rfl) ?_
  refine lv_iload hx hb dL_law_1269 (lv_at hl 0 rfl) ?_
  refine lv_iconst (v := 1) hx hb dL_law_1271 (by decide) ?_
  refine lv_iadd hx hb dL_law_1272 ?_
  refine lv_topi (fun z_1 ez_1 => ?_)
  have kz_1 : z_1.toInt = vi.toInt + 1 := ti_add ez_1 rfl (by decide) (by omega) (by omega)
  clear ez_1
  refine va_sld hx hb hXs hbl hbA hS (vp_in_iff.mpr (by omega)) dL_law_1273 ?_
  refine lv_topi (fun z_2 ez_2 => ?_)
  refine lv_aload_n hx hb dL_law_1274 rfl (lv_at hl 4 rfl) ?_
  refine lv_iload hx hb dL_law_1275 (lv_at hl 0 rfl) ?_
  refine lv_iconst (v := 2) hx hb dL_law_1277 (by decide) ?_
  refine lv_iadd hx hb dL_law_1278 ?_
  refine lv_topi (fun z_3 ez_3 => ?_)
  have kz_3 : z_3.toInt = vi.toInt + 2 := ti_add ez_3 rfl (by decide) (by omega) (by omega)
  clear ez_3
  refine va_sld hx hb hXs hbl hbA hS (vp_in_iff.mpr (by omega)) dL_law_1279 ?_
  refine lv_topi (fun z_4 ez_4 => ?_)
  refine xs_26 hx hb hml hown hT hA hAX (by omega) (by omega) hl hX hS (fun r_5 H_5 lo_5 hX hfr hz hS => ?_)
  have hM := hM.keep (fun q hq h => hfr q hq (fun z => hd1 q z h))
  have hO := hO.keep (fun q hq h => hfr q hq (fun z => hd2 q z h))
  clear hfr hz
  refine lv_pop hx hb dL_law_1283 rfl ?_
  refine lv_aload_n hx hb dL_law_1284 rfl (lv_at hl 2 rfl) ?_
  refine lv_aload_n hx hb dL_law_1285 rfl (lv_at hl 4 rfl) ?_
  refine lv_iload hx hb dL_law_1286 (lv_at hl 0 rfl) ?_
  refine lv_iconst (v := 1) hx hb dL_law_1288 (by decide) ?_
  refine lv_iadd hx hb dL_law_1289 ?_
  refine lv_topi (fun z_6 ez_6 => ?_)
  have kz_6 : z_6.toInt = vi.toInt + 1 := ti_add ez_6 rfl (by decide) (by omega) (by omega)
  clear ez_6
  refine va_sld hx hb hXs hbl hbA hS (vp_in_iff.mpr (by omega)) dL_law_1290 ?_
  refine lv_topi (fun z_7 ez_7 => ?_)
  have hq_8 : z_2 = z_7 := ez_2.trans ((congrArg (fun q : Int32 => xs q.toNatClampNeg) (Int32.toInt_inj.mp (by omega))).trans ez_7.symm)
  clear ez_7
  subst hq_8
  refine lv_aload_n hx hb dL_law_1291 rfl (lv_at hl 4 rfl) ?_
  refine lv_iload hx hb dL_law_1292 (lv_at hl 0 rfl) ?_
  refine lv_iconst (v := 2) hx hb dL_law_1294 (by decide) ?_
  refine lv_iadd hx hb dL_law_1295 ?_
  refine lv_topi (fun z_9 ez_9 => ?_)
  have kz_9 : z_9.toInt = vi.toInt + 2 := ti_add ez_9 rfl (by decide) (by omega) (by omega)
  clear ez_9
  refine va_sld hx hb hXs hbl hbA hS (vp_in_iff.mpr (by omega)) dL_law_1296 ?_
  refine lv_topi (fun z_10 ez_10 => ?_)
  have hq_11 : z_4 = z_10 := ez_4.trans ((congrArg (fun q : Int32 => xs q.toNatClampNeg) (Int32.toInt_inj.mp (by omega))).trans ez_10.symm)
  clear ez_10
  subst hq_11
  refine ms_26 hx hb hml hown hT hA hAM (by omega) (by omega) hl hM hS (fun r_12 H_12 lo_12 b12_mm_thrown hM hfr hz hS => ?_)
  have hX := hX.keep (fun q hq h => hfr q hq (fun z => hd1 q h z))
  have hO := hO.keep (fun q hq h => hfr q hq (fun z => hd3 q z h))
  clear hfr hz
  refine lv_pop hx hb dL_law_1300 rfl ?_
  refine lv_goto (tgt := 1481) hx hb dL_law_1301 (by decide) ?_
  refine W.widen (k := kc + 1) (n := ks + 6) (by omega) (by omega) ?_
  exact kk H_12 lo_12 _ rr_bytes rr_fault rr_place f_rr_tape dX cn_hour ci_hour xx_imageKept rd_count rd_knownFirst mm_taped mm_lastFault mm_lastPlace f_mm_tape dM mm_next mm_imageNext mm_hasImage mm_readings mm_knownBy b12_mm_thrown hbt hta hfa hpl hdd hho hih him hrc hrk hX hM hO hS (lv_sub hl [0, 1, 2, 3, 4] rfl)
set_option maxHeartbeats 4000000 in
set_option maxRecDepth 100000 in
theorem law_op_27 {p : Program} {l : Launch} {e : Env} {s : State} {m : MethodId} {below : List Frame} {meth : Method} {c : Code} {dC : Nat → ClassId} {dI : Nat → Nat → Nat} {b : Nat} {L : Nat} {xs : Nat → Int32} {A AX AM AO : Nat → Prop} {Q : State → Prop} (hx : p.tables.exec = Jvm.exec) (hb : c.code = cL_law) (hml : c.maxLocals = 7) (hown : s.vm.findClass RL = some m.cls) (hT : ∀ w ∈ pw_T, w.before #[Value.ref b] s = true) (hA : ∀ q, s.heap.size ≤ q → A q) (hAX : ∀ q, AX q → A q) (hAM : ∀ q, AM q → A q) (hAO : ∀ q, AO q → A q) (hd1 : ∀ q, AX q → ¬ AM q) (hd2 : ∀ q, AX q → ¬ AO q) (hd3 : ∀ q, AM q → ¬ AO q) (hXs : va_X b L xs s s.heap) (hbl : b < s.heap.size) (hbA : ¬ A b) (hL : L ≤ 3584) {kc ks : Nat} (hkc : kc + 4 ≤ 601024) (hks : ks + 24 ≤ 7293034) {vi : Int32} {xx mm oo : Nat} {rr_bytes : Int32} {rr_fault : Int32} {rr_place : Int32} {f_rr_tape : Nat → Int32} {dX : DD} {cn_hour : Int32} {ci_hour : Int32} {xx_imageKept : Int32} {rd_count : Int32} {rd_knownFirst : Int32} {mm_taped : Int32} {mm_lastFault : Int32} {mm_lastPlace : Int32} {f_mm_tape : Nat → Int32} {dM : DD} {mm_next : Int32} {mm_imageNext : Int32} {mm_hasImage : Int32} {mm_readings : Int32} {mm_knownBy : Int32} {mm_thrown : Int32} (hv0 : 0 ≤ vi.toInt) (hv1 : vi.toInt + 7 ≤ (L : Int)) (hbt : rr_bytes.toInt = mm_taped.toInt) (hta : BTt f_rr_tape f_mm_tape rr_bytes.toInt) (hfa : rr_fault = mm_lastFault) (hpl : rr_place = mm_lastPlace) (hdd : dX = dM) (hho : cn_hour.toInt = mm_next.toInt) (hih : ci_hour.toInt = mm_imageNext.toInt) (him : xx_imageKept.toInt = mm_hasImage.toInt) (hrc : rd_count.toInt = mm_readings.toInt) (hrk : rd_knownFirst.toInt = mm_knownBy.toInt) {H : Heap} {locs : List Loc} {ls : Array Slot} (hX : XW dC dI AX s H xx rr_bytes rr_fault rr_place f_rr_tape dX cn_hour ci_hour xx_imageKept rd_count rd_knownFirst) (hM : MW dC dI AM s H mm mm_taped mm_lastFault mm_lastPlace f_mm_tape dM mm_next mm_imageNext mm_hasImage mm_readings mm_knownBy mm_thrown) (hO : OW dC dI AO s H oo) (hS : va_S A s.heap H locs) (hl : lv_has ls 7 [(4, .int vi), (3, .ref oo), (2, .ref mm), (1, .ref xx), (0, .ref b)]) (kk : ∀ (H1 : Heap) (locs1 : List Loc) (ls1 : Array Slot) (n_rr_bytes : Int32) (n_rr_fault : Int32) (n_rr_place : Int32) (n_f_rr_tape : Nat → Int32) (n_dX : DD) (n_cn_hour : Int32) (n_ci_hour : Int32) (n_xx_imageKept : Int32) (n_rd_count : Int32) (n_rd_knownFirst : Int32) (n_mm_taped : Int32) (n_mm_lastFault : Int32) (n_mm_lastPlace : Int32) (n_f_mm_tape : Nat → Int32) (n_dM : DD) (n_mm_next : Int32) (n_mm_imageNext : Int32) (n_mm_hasImage : Int32) (n_mm_readings : Int32) (n_mm_knownBy : Int32) (n_mm_thrown : Int32), n_rr_bytes.toInt = n_mm_taped.toInt → BTt n_f_rr_tape n_f_mm_tape n_rr_bytes.toInt → n_rr_fault = n_mm_lastFault → n_rr_place = n_mm_lastPlace → n_dX = n_dM → n_cn_hour.toInt = n_mm_next.toInt → n_ci_hour.toInt = n_mm_imageNext.toInt → n_xx_imageKept.toInt = n_mm_hasImage.toInt → n_rd_count.toInt = n_mm_readings.toInt → n_rd_knownFirst.toInt = n_mm_knownBy.toInt → XW dC dI AX s H1 xx n_rr_bytes n_rr_fault n_rr_place n_f_rr_tape n_dX n_cn_hour n_ci_hour n_xx_imageKept n_rd_count n_rd_knownFirst → MW dC dI AM s H1 mm n_mm_taped n_mm_lastFault n_mm_lastPlace n_f_mm_tape n_dM n_mm_next n_mm_imageNext n_mm_hasImage n_mm_readings n_mm_knownBy n_mm_thrown → OW dC dI AO s H1 oo → va_S A s.heap H1 locs1 → lv_has ls1 7 [(4, .int vi), (3, .ref oo), (2, .ref mm), (1, .ref xx), (0, .ref b)] → W p l e room_1 s m #[Value.ref b] below meth c H1 locs1 (kc + 1) (ks + 6) Q (F0 m 1481 ls1 [])) : W p l e room_1 s m #[Value.ref b] below meth c H locs kc ks Q (F0 m 1304 ls []) := by
  refine lv_aload_n hx hb dL_law_1304 rfl (lv_at hl 3 rfl) ?_
  refine lv_aload_n hx hb dL_law_1305 rfl (lv_at hl 4 rfl) ?_
  refine lv_iload hx hb dL_law_1306 (lv_at hl 0 rfl) ?_
  refine lv_iconst (v := 1) hx hb dL_law_1308 (by decide) ?_
  refine lv_iadd hx hb dL_law_1309 ?_
  refine lv_topi (fun z_1 ez_1 => ?_)
  have kz_1 : z_1.toInt = vi.toInt + 1 := ti_add ez_1 rfl (by decide) (by omega) (by omega)
  clear ez_1
  refine va_sld hx hb hXs hbl hbA hS (vp_in_iff.mpr (by omega)) dL_law_1310 ?_
  refine lv_topi (fun z_2 ez_2 => ?_)
  refine lv_aload_n hx hb dL_law_1311 rfl (lv_at hl 4 rfl) ?_
  refine lv_iload hx hb dL_law_1312 (lv_at hl 0 rfl) ?_
  refine lv_iconst (v := 2) hx hb dL_law_1314 (by decide) ?_
  refine lv_iadd hx hb dL_law_1315 ?_
  refine lv_topi (fun z_3 ez_3 => ?_)
  have kz_3 : z_3.toInt = vi.toInt + 2 := ti_add ez_3 rfl (by decide) (by omega) (by omega)
  clear ez_3
  refine va_sld hx hb hXs hbl hbA hS (vp_in_iff.mpr (by omega)) dL_law_1316 ?_
  refine lv_topi (fun z_4 ez_4 => ?_)
  refine lv_aload_n hx hb dL_law_1317 rfl (lv_at hl 4 rfl) ?_
  refine lv_iload hx hb dL_law_1318 (lv_at hl 0 rfl) ?_
  refine lv_iconst (v := 3) hx hb dL_law_1320 (by decide) ?_
  refine lv_iadd hx hb dL_law_1321 ?_
  refine lv_topi (fun z_5 ez_5 => ?_)
  have kz_5 : z_5.toInt = vi.toInt + 3 := ti_add ez_5 rfl (by decide) (by omega) (by omega)
  clear ez_5
  refine va_sld hx hb hXs hbl hbA hS (vp_in_iff.mpr (by omega)) dL_law_1322 ?_
  refine lv_topi (fun z_6 ez_6 => ?_)
  refine lv_aload_n hx hb dL_law_1323 rfl (lv_at hl 4 rfl) ?_
  refine lv_iload hx hb dL_law_1324 (lv_at hl 0 rfl) ?_
  refine lv_iconst (v := 4) hx hb dL_law_1326 (by decide) ?_
  refine lv_iadd hx hb dL_law_1327 ?_
  refine lv_topi (fun z_7 ez_7 => ?_)
  have kz_7 : z_7.toInt = vi.toInt + 4 := ti_add ez_7 rfl (by decide) (by omega) (by omega)
  clear ez_7
  refine va_sld hx hb hXs hbl hbA hS (vp_in_iff.mpr (by omega)) dL_law_1328 ?_
  refine lv_topi (fun z_8 ez_8 => ?_)
  refine lv_if_eq (tgt := 1336) hx hb dL_law_1329 (by decide) (fun c_9 => ?_) (fun c_9 => ?_)
  · have kc_9 := il_eq c_9
    have := (by decide : (0 : Int32).toInt = 0)
    refine lv_iconst (v := 0) hx hb dL_law_1336 (by decide) ?_
    refine lv_aload_n hx hb dL_law_1337 rfl (lv_at hl 4 rfl) ?_
    refine lv_iload hx hb dL_law_1338 (lv_at hl 0 rfl) ?_
    refine lv_iconst (v := 5) hx hb dL_law_1340 (by decide) ?_
    refine lv_iadd hx hb dL_law_1341 ?_
    refine lv_topi (fun z_10 ez_10 => ?_)
    have kz_10 : z_10.toInt = vi.toInt + 5 := ti_add ez_10 rfl (by decide) (by omega) (by omega)
    clear ez_10
    refine va_sld hx hb hXs hbl hbA hS (vp_in_iff.mpr (by omega)) dL_law_1342 ?_
    refine lv_topi (fun z_11 ez_11 => ?_)
    refine xs_27 hx hb hml hown hT hA hAX (by omega) (by omega) hl (by decide) hX hS (fun r_12 H_12 lo_12 hX hfr hz hS => ?_)
    have hM := hM.keep (fun q hq h => hfr q hq (fun z => hd1 q z h))
    have hO := hO.keep (fun q hq h => hfr q hq (fun z => hd2 q z h))
    clear hfr hz
    refine lv_pop hx hb dL_law_1346 rfl ?_
    refine lv_aload_n hx hb dL_law_1347 rfl (lv_at hl 2 rfl) ?_
    refine lv_aload_n hx hb dL_law_1348 rfl (lv_at hl 4 rfl) ?_
    refine lv_iload hx hb dL_law_1349 (lv_at hl 0 rfl) ?_
    refine lv_iconst (v := 1) hx hb dL_law_1351 (by decide) ?_
    refine lv_iadd hx hb dL_law_1352 ?_
    refine lv_topi (fun z_13 ez_13 => ?_)
    have kz_13 : z_13.toInt = vi.toInt + 1 := ti_add ez_13 rfl (by decide) (by omega) (by omega)
    clear ez_13
    refine va_sld hx hb hXs hbl hbA hS (vp_in_iff.mpr (by omega)) dL_law_1353 ?_
    refine lv_topi (fun z_14 ez_14 => ?_)
    have hq_15 : z_2 = z_14 := ez_2.trans ((congrArg (fun q : Int32 => xs q.toNatClampNeg) (Int32.toInt_inj.mp (by omega))).trans ez_14.symm)
    clear ez_14
    subst hq_15
    refine lv_aload_n hx hb dL_law_1354 rfl (lv_at hl 4 rfl) ?_
    refine lv_iload hx hb dL_law_1355 (lv_at hl 0 rfl) ?_
    refine lv_iconst (v := 2) hx hb dL_law_1357 (by decide) ?_
    refine lv_iadd hx hb dL_law_1358 ?_
    refine lv_topi (fun z_16 ez_16 => ?_)
    have kz_16 : z_16.toInt = vi.toInt + 2 := ti_add ez_16 rfl (by decide) (by omega) (by omega)
    clear ez_16
    refine va_sld hx hb hXs hbl hbA hS (vp_in_iff.mpr (by omega)) dL_law_1359 ?_
    refine lv_topi (fun z_17 ez_17 => ?_)
    have hq_18 : z_4 = z_17 := ez_4.trans ((congrArg (fun q : Int32 => xs q.toNatClampNeg) (Int32.toInt_inj.mp (by omega))).trans ez_17.symm)
    clear ez_17
    subst hq_18
    refine lv_aload_n hx hb dL_law_1360 rfl (lv_at hl 4 rfl) ?_
    refine lv_iload hx hb dL_law_1361 (lv_at hl 0 rfl) ?_
    refine lv_iconst (v := 3) hx hb dL_law_1363 (by decide) ?_
    refine lv_iadd hx hb dL_law_1364 ?_
    refine lv_topi (fun z_19 ez_19 => ?_)
    have kz_19 : z_19.toInt = vi.toInt + 3 := ti_add ez_19 rfl (by decide) (by omega) (by omega)
    clear ez_19
    refine va_sld hx hb hXs hbl hbA hS (vp_in_iff.mpr (by omega)) dL_law_1365 ?_
    refine lv_topi (fun z_20 ez_20 => ?_)
    have hq_21 : z_6 = z_20 := ez_6.trans ((congrArg (fun q : Int32 => xs q.toNatClampNeg) (Int32.toInt_inj.mp (by omega))).trans ez_20.symm)
    clear ez_20
    subst hq_21
    refine lv_aload_n hx hb dL_law_1366 rfl (lv_at hl 4 rfl) ?_
    refine lv_iload hx hb dL_law_1367 (lv_at hl 0 rfl) ?_
    refine lv_iconst (v := 4) hx hb dL_law_1369 (by decide) ?_
    refine lv_iadd hx hb dL_law_1370 ?_
    refine lv_topi (fun z_22 ez_22 => ?_)
    have kz_22 : z_22.toInt = vi.toInt + 4 := ti_add ez_22 rfl (by decide) (by omega) (by omega)
    clear ez_22
    refine va_sld hx hb hXs hbl hbA hS (vp_in_iff.mpr (by omega)) dL_law_1371 ?_
    refine lv_topi (fun z_23 ez_23 => ?_)
    have hq_24 : z_8 = z_23 := ez_8.trans ((congrArg (fun q : Int32 => xs q.toNatClampNeg) (Int32.toInt_inj.mp (by omega))).trans ez_23.symm)
    clear ez_23
    subst hq_24
    refine lv_if_eq (tgt := 1379) hx hb dL_law_1372 (by decide) (fun c_25 => ?_) (fun c_25 => False.elim (by have := il_ne c_25; have := (by decide : (0 : Int32).toInt = 0); omega))
    have kc_25 := il_eq c_25
    have := (by decide : (0 : Int32).toInt = 0)
    refine lv_iconst (v := 0) hx hb dL_law_1379 (by decide) ?_
    refine lv_aload_n hx hb dL_law_1380 rfl (lv_at hl 4 rfl) ?_
    refine lv_iload hx hb dL_law_1381 (lv_at hl 0 rfl) ?_
    refine lv_iconst (v := 5) hx hb dL_law_1383 (by decide) ?_
    refine lv_iadd hx hb dL_law_1384 ?_
    refine lv_topi (fun z_26 ez_26 => ?_)
    have kz_26 : z_26.toInt = vi.toInt + 5 := ti_add ez_26 rfl (by decide) (by omega) (by omega)
    clear ez_26
    refine va_sld hx hb hXs hbl hbA hS (vp_in_iff.mpr (by omega)) dL_law_1385 ?_
    refine lv_topi (fun z_27 ez_27 => ?_)
    have hq_28 : z_11 = z_27 := ez_11.trans ((congrArg (fun q : Int32 => xs q.toNatClampNeg) (Int32.toInt_inj.mp (by omega))).trans ez_27.symm)
    clear ez_27
    subst hq_28
    refine ms_27 hx hb hml hown hT hA hAM (by omega) (by omega) hl (by decide) hM hS (fun r_29 H_29 lo_29 b29_mm_thrown hM hfr hz hS => ?_)
    have hX := hX.keep (fun q hq h => hfr q hq (fun z => hd1 q h z))
    have hO := hO.keep (fun q hq h => hfr q hq (fun z => hd3 q z h))
    clear hfr hz
    refine lv_pop hx hb dL_law_1389 rfl ?_
    refine lv_goto (tgt := 1481) hx hb dL_law_1390 (by decide) ?_
    refine W.widen (k := kc + 1) (n := ks + 6) (by omega) (by omega) ?_
    exact kk H_29 lo_29 _ rr_bytes rr_fault rr_place f_rr_tape dX cn_hour ci_hour xx_imageKept rd_count rd_knownFirst mm_taped mm_lastFault mm_lastPlace f_mm_tape dM mm_next mm_imageNext mm_hasImage mm_readings mm_knownBy b29_mm_thrown hbt hta hfa hpl hdd hho hih him hrc hrk hX hM hO hS (lv_sub hl [0, 1, 2, 3, 4] rfl)
  · have kc_9 := il_ne c_9
    have := (by decide : (0 : Int32).toInt = 0)
    refine lv_iconst (v := 1) hx hb dL_law_1332 (by decide) ?_
    refine lv_goto (tgt := 1337) hx hb dL_law_1333 (by decide) ?_
    refine lv_aload_n hx hb dL_law_1337 rfl (lv_at hl 4 rfl) ?_
    refine lv_iload hx hb dL_law_1338 (lv_at hl 0 rfl) ?_
    refine lv_iconst (v := 5) hx hb dL_law_1340 (by decide) ?_
    refine lv_iadd hx hb dL_law_1341 ?_
    refine lv_topi (fun z_30 ez_30 => ?_)
    have kz_30 : z_30.toInt = vi.toInt + 5 := ti_add ez_30 rfl (by decide) (by omega) (by omega)
    clear ez_30
    refine va_sld hx hb hXs hbl hbA hS (vp_in_iff.mpr (by omega)) dL_law_1342 ?_
    refine lv_topi (fun z_31 ez_31 => ?_)
    refine xs_27 hx hb hml hown hT hA hAX (by omega) (by omega) hl (by decide) hX hS (fun r_32 H_32 lo_32 hX hfr hz hS => ?_)
    have hM := hM.keep (fun q hq h => hfr q hq (fun z => hd1 q z h))
    have hO := hO.keep (fun q hq h => hfr q hq (fun z => hd2 q z h))
    clear hfr hz
    refine lv_pop hx hb dL_law_1346 rfl ?_
    refine lv_aload_n hx hb dL_law_1347 rfl (lv_at hl 2 rfl) ?_
    refine lv_aload_n hx hb dL_law_1348 rfl (lv_at hl 4 rfl) ?_
    refine lv_iload hx hb dL_law_1349 (lv_at hl 0 rfl) ?_
    refine lv_iconst (v := 1) hx hb dL_law_1351 (by decide) ?_
    refine lv_iadd hx hb dL_law_1352 ?_
    refine lv_topi (fun z_33 ez_33 => ?_)
    have kz_33 : z_33.toInt = vi.toInt + 1 := ti_add ez_33 rfl (by decide) (by omega) (by omega)
    clear ez_33
    refine va_sld hx hb hXs hbl hbA hS (vp_in_iff.mpr (by omega)) dL_law_1353 ?_
    refine lv_topi (fun z_34 ez_34 => ?_)
    have hq_35 : z_2 = z_34 := ez_2.trans ((congrArg (fun q : Int32 => xs q.toNatClampNeg) (Int32.toInt_inj.mp (by omega))).trans ez_34.symm)
    clear ez_34
    subst hq_35
    refine lv_aload_n hx hb dL_law_1354 rfl (lv_at hl 4 rfl) ?_
    refine lv_iload hx hb dL_law_1355 (lv_at hl 0 rfl) ?_
    refine lv_iconst (v := 2) hx hb dL_law_1357 (by decide) ?_
    refine lv_iadd hx hb dL_law_1358 ?_
    refine lv_topi (fun z_36 ez_36 => ?_)
    have kz_36 : z_36.toInt = vi.toInt + 2 := ti_add ez_36 rfl (by decide) (by omega) (by omega)
    clear ez_36
    refine va_sld hx hb hXs hbl hbA hS (vp_in_iff.mpr (by omega)) dL_law_1359 ?_
    refine lv_topi (fun z_37 ez_37 => ?_)
    have hq_38 : z_4 = z_37 := ez_4.trans ((congrArg (fun q : Int32 => xs q.toNatClampNeg) (Int32.toInt_inj.mp (by omega))).trans ez_37.symm)
    clear ez_37
    subst hq_38
    refine lv_aload_n hx hb dL_law_1360 rfl (lv_at hl 4 rfl) ?_
    refine lv_iload hx hb dL_law_1361 (lv_at hl 0 rfl) ?_
    refine lv_iconst (v := 3) hx hb dL_law_1363 (by decide) ?_
    refine lv_iadd hx hb dL_law_1364 ?_
    refine lv_topi (fun z_39 ez_39 => ?_)
    have kz_39 : z_39.toInt = vi.toInt + 3 := ti_add ez_39 rfl (by decide) (by omega) (by omega)
    clear ez_39
    refine va_sld hx hb hXs hbl hbA hS (vp_in_iff.mpr (by omega)) dL_law_1365 ?_
    refine lv_topi (fun z_40 ez_40 => ?_)
    have hq_41 : z_6 = z_40 := ez_6.trans ((congrArg (fun q : Int32 => xs q.toNatClampNeg) (Int32.toInt_inj.mp (by omega))).trans ez_40.symm)
    clear ez_40
    subst hq_41
    refine lv_aload_n hx hb dL_law_1366 rfl (lv_at hl 4 rfl) ?_
    refine lv_iload hx hb dL_law_1367 (lv_at hl 0 rfl) ?_
    refine lv_iconst (v := 4) hx hb dL_law_1369 (by decide) ?_
    refine lv_iadd hx hb dL_law_1370 ?_
    refine lv_topi (fun z_42 ez_42 => ?_)
    have kz_42 : z_42.toInt = vi.toInt + 4 := ti_add ez_42 rfl (by decide) (by omega) (by omega)
    clear ez_42
    refine va_sld hx hb hXs hbl hbA hS (vp_in_iff.mpr (by omega)) dL_law_1371 ?_
    refine lv_topi (fun z_43 ez_43 => ?_)
    have hq_44 : z_8 = z_43 := ez_8.trans ((congrArg (fun q : Int32 => xs q.toNatClampNeg) (Int32.toInt_inj.mp (by omega))).trans ez_43.symm)
    clear ez_43
    subst hq_44
    refine lv_if_eq (tgt := 1379) hx hb dL_law_1372 (by decide) (fun c_45 => False.elim (by have := il_eq c_45; have := (by decide : (0 : Int32).toInt = 0); omega)) (fun c_45 => ?_)
    have kc_45 := il_ne c_45
    have := (by decide : (0 : Int32).toInt = 0)
    refine lv_iconst (v := 1) hx hb dL_law_1375 (by decide) ?_
    refine lv_goto (tgt := 1380) hx hb dL_law_1376 (by decide) ?_
    refine lv_aload_n hx hb dL_law_1380 rfl (lv_at hl 4 rfl) ?_
    refine lv_iload hx hb dL_law_1381 (lv_at hl 0 rfl) ?_
    refine lv_iconst (v := 5) hx hb dL_law_1383 (by decide) ?_
    refine lv_iadd hx hb dL_law_1384 ?_
    refine lv_topi (fun z_46 ez_46 => ?_)
    have kz_46 : z_46.toInt = vi.toInt + 5 := ti_add ez_46 rfl (by decide) (by omega) (by omega)
    clear ez_46
    refine va_sld hx hb hXs hbl hbA hS (vp_in_iff.mpr (by omega)) dL_law_1385 ?_
    refine lv_topi (fun z_47 ez_47 => ?_)
    have hq_48 : z_31 = z_47 := ez_31.trans ((congrArg (fun q : Int32 => xs q.toNatClampNeg) (Int32.toInt_inj.mp (by omega))).trans ez_47.symm)
    clear ez_47
    subst hq_48
    refine ms_27 hx hb hml hown hT hA hAM (by omega) (by omega) hl (by decide) hM hS (fun r_49 H_49 lo_49 b49_mm_thrown hM hfr hz hS => ?_)
    have hX := hX.keep (fun q hq h => hfr q hq (fun z => hd1 q h z))
    have hO := hO.keep (fun q hq h => hfr q hq (fun z => hd3 q z h))
    clear hfr hz
    refine lv_pop hx hb dL_law_1389 rfl ?_
    refine lv_goto (tgt := 1481) hx hb dL_law_1390 (by decide) ?_
    refine W.widen (k := kc + 1) (n := ks + 6) (by omega) (by omega) ?_
    exact kk H_49 lo_49 _ rr_bytes rr_fault rr_place f_rr_tape dX cn_hour ci_hour xx_imageKept rd_count rd_knownFirst mm_taped mm_lastFault mm_lastPlace f_mm_tape dM mm_next mm_imageNext mm_hasImage mm_readings mm_knownBy b49_mm_thrown hbt hta hfa hpl hdd hho hih him hrc hrk hX hM hO hS (lv_sub hl [0, 1, 2, 3, 4] rfl)
set_option maxHeartbeats 4000000 in
set_option maxRecDepth 100000 in
theorem law_op_28 {p : Program} {l : Launch} {e : Env} {s : State} {m : MethodId} {below : List Frame} {meth : Method} {c : Code} {dC : Nat → ClassId} {dI : Nat → Nat → Nat} {b : Nat} {L : Nat} {xs : Nat → Int32} {A AX AM AO : Nat → Prop} {Q : State → Prop} (hx : p.tables.exec = Jvm.exec) (hb : c.code = cL_law) (hml : c.maxLocals = 7) (hown : s.vm.findClass RL = some m.cls) (hT : ∀ w ∈ pw_T, w.before #[Value.ref b] s = true) (hA : ∀ q, s.heap.size ≤ q → A q) (hAX : ∀ q, AX q → A q) (hAM : ∀ q, AM q → A q) (hAO : ∀ q, AO q → A q) (hd1 : ∀ q, AX q → ¬ AM q) (hd2 : ∀ q, AX q → ¬ AO q) (hd3 : ∀ q, AM q → ¬ AO q) (hXs : va_X b L xs s s.heap) (hbl : b < s.heap.size) (hbA : ¬ A b) (hL : L ≤ 3584) {kc ks : Nat} (hkc : kc + 4 ≤ 601024) (hks : ks + 24 ≤ 7293034) {vi : Int32} {xx mm oo : Nat} {rr_bytes : Int32} {rr_fault : Int32} {rr_place : Int32} {f_rr_tape : Nat → Int32} {dX : DD} {cn_hour : Int32} {ci_hour : Int32} {xx_imageKept : Int32} {rd_count : Int32} {rd_knownFirst : Int32} {mm_taped : Int32} {mm_lastFault : Int32} {mm_lastPlace : Int32} {f_mm_tape : Nat → Int32} {dM : DD} {mm_next : Int32} {mm_imageNext : Int32} {mm_hasImage : Int32} {mm_readings : Int32} {mm_knownBy : Int32} {mm_thrown : Int32} (hv0 : 0 ≤ vi.toInt) (hv1 : vi.toInt + 7 ≤ (L : Int)) (hbt : rr_bytes.toInt = mm_taped.toInt) (hta : BTt f_rr_tape f_mm_tape rr_bytes.toInt) (hfa : rr_fault = mm_lastFault) (hpl : rr_place = mm_lastPlace) (hdd : dX = dM) (hho : cn_hour.toInt = mm_next.toInt) (hih : ci_hour.toInt = mm_imageNext.toInt) (him : xx_imageKept.toInt = mm_hasImage.toInt) (hrc : rd_count.toInt = mm_readings.toInt) (hrk : rd_knownFirst.toInt = mm_knownBy.toInt) {H : Heap} {locs : List Loc} {ls : Array Slot} (hX : XW dC dI AX s H xx rr_bytes rr_fault rr_place f_rr_tape dX cn_hour ci_hour xx_imageKept rd_count rd_knownFirst) (hM : MW dC dI AM s H mm mm_taped mm_lastFault mm_lastPlace f_mm_tape dM mm_next mm_imageNext mm_hasImage mm_readings mm_knownBy mm_thrown) (hO : OW dC dI AO s H oo) (hS : va_S A s.heap H locs) (hl : lv_has ls 7 [(4, .int vi), (3, .ref oo), (2, .ref mm), (1, .ref xx), (0, .ref b)]) (kk : ∀ (H1 : Heap) (locs1 : List Loc) (ls1 : Array Slot) (n_rr_bytes : Int32) (n_rr_fault : Int32) (n_rr_place : Int32) (n_f_rr_tape : Nat → Int32) (n_dX : DD) (n_cn_hour : Int32) (n_ci_hour : Int32) (n_xx_imageKept : Int32) (n_rd_count : Int32) (n_rd_knownFirst : Int32) (n_mm_taped : Int32) (n_mm_lastFault : Int32) (n_mm_lastPlace : Int32) (n_f_mm_tape : Nat → Int32) (n_dM : DD) (n_mm_next : Int32) (n_mm_imageNext : Int32) (n_mm_hasImage : Int32) (n_mm_readings : Int32) (n_mm_knownBy : Int32) (n_mm_thrown : Int32), n_rr_bytes.toInt = n_mm_taped.toInt → BTt n_f_rr_tape n_f_mm_tape n_rr_bytes.toInt → n_rr_fault = n_mm_lastFault → n_rr_place = n_mm_lastPlace → n_dX = n_dM → n_cn_hour.toInt = n_mm_next.toInt → n_ci_hour.toInt = n_mm_imageNext.toInt → n_xx_imageKept.toInt = n_mm_hasImage.toInt → n_rd_count.toInt = n_mm_readings.toInt → n_rd_knownFirst.toInt = n_mm_knownBy.toInt → XW dC dI AX s H1 xx n_rr_bytes n_rr_fault n_rr_place n_f_rr_tape n_dX n_cn_hour n_ci_hour n_xx_imageKept n_rd_count n_rd_knownFirst → MW dC dI AM s H1 mm n_mm_taped n_mm_lastFault n_mm_lastPlace n_f_mm_tape n_dM n_mm_next n_mm_imageNext n_mm_hasImage n_mm_readings n_mm_knownBy n_mm_thrown → OW dC dI AO s H1 oo → va_S A s.heap H1 locs1 → lv_has ls1 7 [(4, .int vi), (3, .ref oo), (2, .ref mm), (1, .ref xx), (0, .ref b)] → W p l e room_1 s m #[Value.ref b] below meth c H1 locs1 (kc + 1) (ks + 6) Q (F0 m 1481 ls1 [])) : W p l e room_1 s m #[Value.ref b] below meth c H locs kc ks Q (F0 m 1393 ls []) := by
  refine lv_aload_n hx hb dL_law_1393 rfl (lv_at hl 3 rfl) ?_
  refine lv_aload_n hx hb dL_law_1394 rfl (lv_at hl 4 rfl) ?_
  refine lv_iload hx hb dL_law_1395 (lv_at hl 0 rfl) ?_
  refine lv_iconst (v := 1) hx hb dL_law_1397 (by decide) ?_
  refine lv_iadd hx hb dL_law_1398 ?_
  refine lv_topi (fun z_1 ez_1 => ?_)
  have kz_1 : z_1.toInt = vi.toInt + 1 := ti_add ez_1 rfl (by decide) (by omega) (by omega)
  clear ez_1
  refine va_sld hx hb hXs hbl hbA hS (vp_in_iff.mpr (by omega)) dL_law_1399 ?_
  refine lv_topi (fun z_2 ez_2 => ?_)
  refine lv_aload_n hx hb dL_law_1400 rfl (lv_at hl 4 rfl) ?_
  refine lv_iload hx hb dL_law_1401 (lv_at hl 0 rfl) ?_
  refine lv_iconst (v := 2) hx hb dL_law_1403 (by decide) ?_
  refine lv_iadd hx hb dL_law_1404 ?_
  refine lv_topi (fun z_3 ez_3 => ?_)
  have kz_3 : z_3.toInt = vi.toInt + 2 := ti_add ez_3 rfl (by decide) (by omega) (by omega)
  clear ez_3
  refine va_sld hx hb hXs hbl hbA hS (vp_in_iff.mpr (by omega)) dL_law_1405 ?_
  refine lv_topi (fun z_4 ez_4 => ?_)
  refine xs_28 hx hb hml hown hT hA hAX (by omega) (by omega) hl hX hS (fun r_5 H_5 lo_5 hX hfr hz hS => ?_)
  have hM := hM.keep (fun q hq h => hfr q hq (fun z => hd1 q z h))
  have hO := hO.keep (fun q hq h => hfr q hq (fun z => hd2 q z h))
  clear hfr hz
  refine lv_pop hx hb dL_law_1409 rfl ?_
  refine lv_aload_n hx hb dL_law_1410 rfl (lv_at hl 2 rfl) ?_
  refine lv_aload_n hx hb dL_law_1411 rfl (lv_at hl 4 rfl) ?_
  refine lv_iload hx hb dL_law_1412 (lv_at hl 0 rfl) ?_
  refine lv_iconst (v := 1) hx hb dL_law_1414 (by decide) ?_
  refine lv_iadd hx hb dL_law_1415 ?_
  refine lv_topi (fun z_6 ez_6 => ?_)
  have kz_6 : z_6.toInt = vi.toInt + 1 := ti_add ez_6 rfl (by decide) (by omega) (by omega)
  clear ez_6
  refine va_sld hx hb hXs hbl hbA hS (vp_in_iff.mpr (by omega)) dL_law_1416 ?_
  refine lv_topi (fun z_7 ez_7 => ?_)
  have hq_8 : z_2 = z_7 := ez_2.trans ((congrArg (fun q : Int32 => xs q.toNatClampNeg) (Int32.toInt_inj.mp (by omega))).trans ez_7.symm)
  clear ez_7
  subst hq_8
  refine lv_aload_n hx hb dL_law_1417 rfl (lv_at hl 4 rfl) ?_
  refine lv_iload hx hb dL_law_1418 (lv_at hl 0 rfl) ?_
  refine lv_iconst (v := 2) hx hb dL_law_1420 (by decide) ?_
  refine lv_iadd hx hb dL_law_1421 ?_
  refine lv_topi (fun z_9 ez_9 => ?_)
  have kz_9 : z_9.toInt = vi.toInt + 2 := ti_add ez_9 rfl (by decide) (by omega) (by omega)
  clear ez_9
  refine va_sld hx hb hXs hbl hbA hS (vp_in_iff.mpr (by omega)) dL_law_1422 ?_
  refine lv_topi (fun z_10 ez_10 => ?_)
  have hq_11 : z_4 = z_10 := ez_4.trans ((congrArg (fun q : Int32 => xs q.toNatClampNeg) (Int32.toInt_inj.mp (by omega))).trans ez_10.symm)
  clear ez_10
  subst hq_11
  refine ms_28 hx hb hml hown hT hA hAM (by omega) (by omega) hl hM hS (fun r_12 H_12 lo_12 b12_mm_thrown hM hfr hz hS => ?_)
  have hX := hX.keep (fun q hq h => hfr q hq (fun z => hd1 q h z))
  have hO := hO.keep (fun q hq h => hfr q hq (fun z => hd3 q z h))
  clear hfr hz
  refine lv_pop hx hb dL_law_1426 rfl ?_
  refine lv_goto (tgt := 1481) hx hb dL_law_1427 (by decide) ?_
  refine W.widen (k := kc + 1) (n := ks + 6) (by omega) (by omega) ?_
  exact kk H_12 lo_12 _ rr_bytes rr_fault rr_place f_rr_tape dX cn_hour ci_hour xx_imageKept rd_count rd_knownFirst mm_taped mm_lastFault mm_lastPlace f_mm_tape dM mm_next mm_imageNext mm_hasImage mm_readings mm_knownBy b12_mm_thrown hbt hta hfa hpl hdd hho hih him hrc hrk hX hM hO hS (lv_sub hl [0, 1, 2, 3, 4] rfl)
set_option maxHeartbeats 4000000 in
set_option maxRecDepth 100000 in
theorem law_op_29 {p : Program} {l : Launch} {e : Env} {s : State} {m : MethodId} {below : List Frame} {meth : Method} {c : Code} {dC : Nat → ClassId} {dI : Nat → Nat → Nat} {b : Nat} {L : Nat} {xs : Nat → Int32} {A AX AM AO : Nat → Prop} {Q : State → Prop} (hx : p.tables.exec = Jvm.exec) (hb : c.code = cL_law) (hml : c.maxLocals = 7) (hown : s.vm.findClass RL = some m.cls) (hT : ∀ w ∈ pw_T, w.before #[Value.ref b] s = true) (hA : ∀ q, s.heap.size ≤ q → A q) (hAX : ∀ q, AX q → A q) (hAM : ∀ q, AM q → A q) (hAO : ∀ q, AO q → A q) (hd1 : ∀ q, AX q → ¬ AM q) (hd2 : ∀ q, AX q → ¬ AO q) (hd3 : ∀ q, AM q → ¬ AO q) (hXs : va_X b L xs s s.heap) (hbl : b < s.heap.size) (hbA : ¬ A b) (hL : L ≤ 3584) {kc ks : Nat} (hkc : kc + 4 ≤ 601024) (hks : ks + 24 ≤ 7293034) {vi : Int32} {xx mm oo : Nat} {rr_bytes : Int32} {rr_fault : Int32} {rr_place : Int32} {f_rr_tape : Nat → Int32} {dX : DD} {cn_hour : Int32} {ci_hour : Int32} {xx_imageKept : Int32} {rd_count : Int32} {rd_knownFirst : Int32} {mm_taped : Int32} {mm_lastFault : Int32} {mm_lastPlace : Int32} {f_mm_tape : Nat → Int32} {dM : DD} {mm_next : Int32} {mm_imageNext : Int32} {mm_hasImage : Int32} {mm_readings : Int32} {mm_knownBy : Int32} {mm_thrown : Int32} (hv0 : 0 ≤ vi.toInt) (hv1 : vi.toInt + 7 ≤ (L : Int)) (hbt : rr_bytes.toInt = mm_taped.toInt) (hta : BTt f_rr_tape f_mm_tape rr_bytes.toInt) (hfa : rr_fault = mm_lastFault) (hpl : rr_place = mm_lastPlace) (hdd : dX = dM) (hho : cn_hour.toInt = mm_next.toInt) (hih : ci_hour.toInt = mm_imageNext.toInt) (him : xx_imageKept.toInt = mm_hasImage.toInt) (hrc : rd_count.toInt = mm_readings.toInt) (hrk : rd_knownFirst.toInt = mm_knownBy.toInt) {H : Heap} {locs : List Loc} {ls : Array Slot} (hX : XW dC dI AX s H xx rr_bytes rr_fault rr_place f_rr_tape dX cn_hour ci_hour xx_imageKept rd_count rd_knownFirst) (hM : MW dC dI AM s H mm mm_taped mm_lastFault mm_lastPlace f_mm_tape dM mm_next mm_imageNext mm_hasImage mm_readings mm_knownBy mm_thrown) (hO : OW dC dI AO s H oo) (hS : va_S A s.heap H locs) (hl : lv_has ls 7 [(4, .int vi), (3, .ref oo), (2, .ref mm), (1, .ref xx), (0, .ref b)]) (kk : ∀ (H1 : Heap) (locs1 : List Loc) (ls1 : Array Slot) (n_rr_bytes : Int32) (n_rr_fault : Int32) (n_rr_place : Int32) (n_f_rr_tape : Nat → Int32) (n_dX : DD) (n_cn_hour : Int32) (n_ci_hour : Int32) (n_xx_imageKept : Int32) (n_rd_count : Int32) (n_rd_knownFirst : Int32) (n_mm_taped : Int32) (n_mm_lastFault : Int32) (n_mm_lastPlace : Int32) (n_f_mm_tape : Nat → Int32) (n_dM : DD) (n_mm_next : Int32) (n_mm_imageNext : Int32) (n_mm_hasImage : Int32) (n_mm_readings : Int32) (n_mm_knownBy : Int32) (n_mm_thrown : Int32), n_rr_bytes.toInt = n_mm_taped.toInt → BTt n_f_rr_tape n_f_mm_tape n_rr_bytes.toInt → n_rr_fault = n_mm_lastFault → n_rr_place = n_mm_lastPlace → n_dX = n_dM → n_cn_hour.toInt = n_mm_next.toInt → n_ci_hour.toInt = n_mm_imageNext.toInt → n_xx_imageKept.toInt = n_mm_hasImage.toInt → n_rd_count.toInt = n_mm_readings.toInt → n_rd_knownFirst.toInt = n_mm_knownBy.toInt → XW dC dI AX s H1 xx n_rr_bytes n_rr_fault n_rr_place n_f_rr_tape n_dX n_cn_hour n_ci_hour n_xx_imageKept n_rd_count n_rd_knownFirst → MW dC dI AM s H1 mm n_mm_taped n_mm_lastFault n_mm_lastPlace n_f_mm_tape n_dM n_mm_next n_mm_imageNext n_mm_hasImage n_mm_readings n_mm_knownBy n_mm_thrown → OW dC dI AO s H1 oo → va_S A s.heap H1 locs1 → lv_has ls1 7 [(4, .int vi), (3, .ref oo), (2, .ref mm), (1, .ref xx), (0, .ref b)] → W p l e room_1 s m #[Value.ref b] below meth c H1 locs1 (kc + 1) (ks + 6) Q (F0 m 1481 ls1 [])) : W p l e room_1 s m #[Value.ref b] below meth c H locs kc ks Q (F0 m 1430 ls []) := by
  refine lv_aload_n hx hb dL_law_1430 rfl (lv_at hl 3 rfl) ?_
  refine xs_29 hx hb hml hown hT hA hAX (by omega) (by omega) hl hX hS (fun r_1 H_1 lo_1 b1_ci_hour b1_xx_imageKept hX ho1_0 hfr hz hS => ?_)
  have hM := hM.keep (fun q hq h => hfr q hq (fun z => hd1 q z h))
  have hO := hO.keep (fun q hq h => hfr q hq (fun z => hd2 q z h))
  clear hfr hz
  refine lv_pop hx hb dL_law_1434 rfl ?_
  refine lv_aload_n hx hb dL_law_1435 rfl (lv_at hl 2 rfl) ?_
  refine ms_29 hx hb hml hown hT hA hAM (by omega) (by omega) hl hM hS (fun r_2 H_2 lo_2 b2_mm_imageNext b2_mm_hasImage b2_mm_thrown hM ho2_0 hfr hz hS => ?_)
  have hX := hX.keep (fun q hq h => hfr q hq (fun z => hd1 q h z))
  have hO := hO.keep (fun q hq h => hfr q hq (fun z => hd3 q z h))
  clear hfr hz
  have hag1 : r_1.toInt = r_2.toInt := by omega
  refine lv_pop hx hb dL_law_1439 rfl ?_
  refine lv_goto (tgt := 1481) hx hb dL_law_1440 (by decide) ?_
  refine W.widen (k := kc + 1) (n := ks + 6) (by omega) (by omega) ?_
  exact kk H_2 lo_2 _ rr_bytes rr_fault rr_place f_rr_tape dX cn_hour b1_ci_hour b1_xx_imageKept rd_count rd_knownFirst mm_taped mm_lastFault mm_lastPlace f_mm_tape dM mm_next b2_mm_imageNext b2_mm_hasImage mm_readings mm_knownBy b2_mm_thrown hbt hta hfa hpl hdd hho (by omega) (by omega) hrc hrk hX hM hO hS (lv_sub hl [0, 1, 2, 3, 4] rfl)
set_option maxHeartbeats 4000000 in
set_option maxRecDepth 100000 in
theorem law_op_30 {p : Program} {l : Launch} {e : Env} {s : State} {m : MethodId} {below : List Frame} {meth : Method} {c : Code} {dC : Nat → ClassId} {dI : Nat → Nat → Nat} {b : Nat} {L : Nat} {xs : Nat → Int32} {A AX AM AO : Nat → Prop} {Q : State → Prop} (hx : p.tables.exec = Jvm.exec) (hb : c.code = cL_law) (hml : c.maxLocals = 7) (hown : s.vm.findClass RL = some m.cls) (hT : ∀ w ∈ pw_T, w.before #[Value.ref b] s = true) (hA : ∀ q, s.heap.size ≤ q → A q) (hAX : ∀ q, AX q → A q) (hAM : ∀ q, AM q → A q) (hAO : ∀ q, AO q → A q) (hd1 : ∀ q, AX q → ¬ AM q) (hd2 : ∀ q, AX q → ¬ AO q) (hd3 : ∀ q, AM q → ¬ AO q) (hXs : va_X b L xs s s.heap) (hbl : b < s.heap.size) (hbA : ¬ A b) (hL : L ≤ 3584) {kc ks : Nat} (hkc : kc + 4 ≤ 601024) (hks : ks + 24 ≤ 7293034) {vi : Int32} {xx mm oo : Nat} {rr_bytes : Int32} {rr_fault : Int32} {rr_place : Int32} {f_rr_tape : Nat → Int32} {dX : DD} {cn_hour : Int32} {ci_hour : Int32} {xx_imageKept : Int32} {rd_count : Int32} {rd_knownFirst : Int32} {mm_taped : Int32} {mm_lastFault : Int32} {mm_lastPlace : Int32} {f_mm_tape : Nat → Int32} {dM : DD} {mm_next : Int32} {mm_imageNext : Int32} {mm_hasImage : Int32} {mm_readings : Int32} {mm_knownBy : Int32} {mm_thrown : Int32} (hv0 : 0 ≤ vi.toInt) (hv1 : vi.toInt + 7 ≤ (L : Int)) (hbt : rr_bytes.toInt = mm_taped.toInt) (hta : BTt f_rr_tape f_mm_tape rr_bytes.toInt) (hfa : rr_fault = mm_lastFault) (hpl : rr_place = mm_lastPlace) (hdd : dX = dM) (hho : cn_hour.toInt = mm_next.toInt) (hih : ci_hour.toInt = mm_imageNext.toInt) (him : xx_imageKept.toInt = mm_hasImage.toInt) (hrc : rd_count.toInt = mm_readings.toInt) (hrk : rd_knownFirst.toInt = mm_knownBy.toInt) {H : Heap} {locs : List Loc} {ls : Array Slot} (hX : XW dC dI AX s H xx rr_bytes rr_fault rr_place f_rr_tape dX cn_hour ci_hour xx_imageKept rd_count rd_knownFirst) (hM : MW dC dI AM s H mm mm_taped mm_lastFault mm_lastPlace f_mm_tape dM mm_next mm_imageNext mm_hasImage mm_readings mm_knownBy mm_thrown) (hO : OW dC dI AO s H oo) (hS : va_S A s.heap H locs) (hl : lv_has ls 7 [(4, .int vi), (3, .ref oo), (2, .ref mm), (1, .ref xx), (0, .ref b)]) (kk : ∀ (H1 : Heap) (locs1 : List Loc) (ls1 : Array Slot) (n_rr_bytes : Int32) (n_rr_fault : Int32) (n_rr_place : Int32) (n_f_rr_tape : Nat → Int32) (n_dX : DD) (n_cn_hour : Int32) (n_ci_hour : Int32) (n_xx_imageKept : Int32) (n_rd_count : Int32) (n_rd_knownFirst : Int32) (n_mm_taped : Int32) (n_mm_lastFault : Int32) (n_mm_lastPlace : Int32) (n_f_mm_tape : Nat → Int32) (n_dM : DD) (n_mm_next : Int32) (n_mm_imageNext : Int32) (n_mm_hasImage : Int32) (n_mm_readings : Int32) (n_mm_knownBy : Int32) (n_mm_thrown : Int32), n_rr_bytes.toInt = n_mm_taped.toInt → BTt n_f_rr_tape n_f_mm_tape n_rr_bytes.toInt → n_rr_fault = n_mm_lastFault → n_rr_place = n_mm_lastPlace → n_dX = n_dM → n_cn_hour.toInt = n_mm_next.toInt → n_ci_hour.toInt = n_mm_imageNext.toInt → n_xx_imageKept.toInt = n_mm_hasImage.toInt → n_rd_count.toInt = n_mm_readings.toInt → n_rd_knownFirst.toInt = n_mm_knownBy.toInt → XW dC dI AX s H1 xx n_rr_bytes n_rr_fault n_rr_place n_f_rr_tape n_dX n_cn_hour n_ci_hour n_xx_imageKept n_rd_count n_rd_knownFirst → MW dC dI AM s H1 mm n_mm_taped n_mm_lastFault n_mm_lastPlace n_f_mm_tape n_dM n_mm_next n_mm_imageNext n_mm_hasImage n_mm_readings n_mm_knownBy n_mm_thrown → OW dC dI AO s H1 oo → va_S A s.heap H1 locs1 → lv_has ls1 7 [(4, .int vi), (3, .ref oo), (2, .ref mm), (1, .ref xx), (0, .ref b)] → W p l e room_1 s m #[Value.ref b] below meth c H1 locs1 (kc + 1) (ks + 6) Q (F0 m 1481 ls1 [])) : W p l e room_1 s m #[Value.ref b] below meth c H locs kc ks Q (F0 m 1443 ls []) := by
  refine lv_aload_n hx hb dL_law_1443 rfl (lv_at hl 3 rfl) ?_
  refine xs_30 hx hb hml hown hT hA hAX (by omega) (by omega) hl hX hS (fun r_1 H_1 lo_1 b1_cn_hour hX ho1_0 hfr hz hS => ?_)
  have hM := hM.keep (fun q hq h => hfr q hq (fun z => hd1 q z h))
  have hO := hO.keep (fun q hq h => hfr q hq (fun z => hd2 q z h))
  clear hfr hz
  refine lv_pop hx hb dL_law_1447 rfl ?_
  refine lv_aload_n hx hb dL_law_1448 rfl (lv_at hl 2 rfl) ?_
  refine ms_30 hx hb hml hown hT hA hAM (by omega) (by omega) hl hM hS (fun r_2 H_2 lo_2 b2_mm_next b2_mm_thrown hM ho2_0 hfr hz hS => ?_)
  have hX := hX.keep (fun q hq h => hfr q hq (fun z => hd1 q h z))
  have hO := hO.keep (fun q hq h => hfr q hq (fun z => hd3 q z h))
  clear hfr hz
  have hag1 : r_1.toInt = r_2.toInt := by omega
  refine lv_pop hx hb dL_law_1452 rfl ?_
  refine lv_goto (tgt := 1481) hx hb dL_law_1453 (by decide) ?_
  refine W.widen (k := kc + 1) (n := ks + 6) (by omega) (by omega) ?_
  exact kk H_2 lo_2 _ rr_bytes rr_fault rr_place f_rr_tape dX b1_cn_hour ci_hour xx_imageKept rd_count rd_knownFirst mm_taped mm_lastFault mm_lastPlace f_mm_tape dM b2_mm_next mm_imageNext mm_hasImage mm_readings mm_knownBy b2_mm_thrown hbt hta hfa hpl hdd (by omega) hih him hrc hrk hX hM hO hS (lv_sub hl [0, 1, 2, 3, 4] rfl)
set_option maxHeartbeats 4000000 in
set_option maxRecDepth 100000 in
theorem law_op_31 {p : Program} {l : Launch} {e : Env} {s : State} {m : MethodId} {below : List Frame} {meth : Method} {c : Code} {dC : Nat → ClassId} {dI : Nat → Nat → Nat} {b : Nat} {L : Nat} {xs : Nat → Int32} {A AX AM AO : Nat → Prop} {Q : State → Prop} (hx : p.tables.exec = Jvm.exec) (hb : c.code = cL_law) (hml : c.maxLocals = 7) (hown : s.vm.findClass RL = some m.cls) (hT : ∀ w ∈ pw_T, w.before #[Value.ref b] s = true) (hA : ∀ q, s.heap.size ≤ q → A q) (hAX : ∀ q, AX q → A q) (hAM : ∀ q, AM q → A q) (hAO : ∀ q, AO q → A q) (hd1 : ∀ q, AX q → ¬ AM q) (hd2 : ∀ q, AX q → ¬ AO q) (hd3 : ∀ q, AM q → ¬ AO q) (hXs : va_X b L xs s s.heap) (hbl : b < s.heap.size) (hbA : ¬ A b) (hL : L ≤ 3584) {kc ks : Nat} (hkc : kc + 4 ≤ 601024) (hks : ks + 24 ≤ 7293034) {vi : Int32} {xx mm oo : Nat} {rr_bytes : Int32} {rr_fault : Int32} {rr_place : Int32} {f_rr_tape : Nat → Int32} {dX : DD} {cn_hour : Int32} {ci_hour : Int32} {xx_imageKept : Int32} {rd_count : Int32} {rd_knownFirst : Int32} {mm_taped : Int32} {mm_lastFault : Int32} {mm_lastPlace : Int32} {f_mm_tape : Nat → Int32} {dM : DD} {mm_next : Int32} {mm_imageNext : Int32} {mm_hasImage : Int32} {mm_readings : Int32} {mm_knownBy : Int32} {mm_thrown : Int32} (hv0 : 0 ≤ vi.toInt) (hv1 : vi.toInt + 7 ≤ (L : Int)) (hbt : rr_bytes.toInt = mm_taped.toInt) (hta : BTt f_rr_tape f_mm_tape rr_bytes.toInt) (hfa : rr_fault = mm_lastFault) (hpl : rr_place = mm_lastPlace) (hdd : dX = dM) (hho : cn_hour.toInt = mm_next.toInt) (hih : ci_hour.toInt = mm_imageNext.toInt) (him : xx_imageKept.toInt = mm_hasImage.toInt) (hrc : rd_count.toInt = mm_readings.toInt) (hrk : rd_knownFirst.toInt = mm_knownBy.toInt) {H : Heap} {locs : List Loc} {ls : Array Slot} (hX : XW dC dI AX s H xx rr_bytes rr_fault rr_place f_rr_tape dX cn_hour ci_hour xx_imageKept rd_count rd_knownFirst) (hM : MW dC dI AM s H mm mm_taped mm_lastFault mm_lastPlace f_mm_tape dM mm_next mm_imageNext mm_hasImage mm_readings mm_knownBy mm_thrown) (hO : OW dC dI AO s H oo) (hS : va_S A s.heap H locs) (hl : lv_has ls 7 [(4, .int vi), (3, .ref oo), (2, .ref mm), (1, .ref xx), (0, .ref b)]) (kk : ∀ (H1 : Heap) (locs1 : List Loc) (ls1 : Array Slot) (n_rr_bytes : Int32) (n_rr_fault : Int32) (n_rr_place : Int32) (n_f_rr_tape : Nat → Int32) (n_dX : DD) (n_cn_hour : Int32) (n_ci_hour : Int32) (n_xx_imageKept : Int32) (n_rd_count : Int32) (n_rd_knownFirst : Int32) (n_mm_taped : Int32) (n_mm_lastFault : Int32) (n_mm_lastPlace : Int32) (n_f_mm_tape : Nat → Int32) (n_dM : DD) (n_mm_next : Int32) (n_mm_imageNext : Int32) (n_mm_hasImage : Int32) (n_mm_readings : Int32) (n_mm_knownBy : Int32) (n_mm_thrown : Int32), n_rr_bytes.toInt = n_mm_taped.toInt → BTt n_f_rr_tape n_f_mm_tape n_rr_bytes.toInt → n_rr_fault = n_mm_lastFault → n_rr_place = n_mm_lastPlace → n_dX = n_dM → n_cn_hour.toInt = n_mm_next.toInt → n_ci_hour.toInt = n_mm_imageNext.toInt → n_xx_imageKept.toInt = n_mm_hasImage.toInt → n_rd_count.toInt = n_mm_readings.toInt → n_rd_knownFirst.toInt = n_mm_knownBy.toInt → XW dC dI AX s H1 xx n_rr_bytes n_rr_fault n_rr_place n_f_rr_tape n_dX n_cn_hour n_ci_hour n_xx_imageKept n_rd_count n_rd_knownFirst → MW dC dI AM s H1 mm n_mm_taped n_mm_lastFault n_mm_lastPlace n_f_mm_tape n_dM n_mm_next n_mm_imageNext n_mm_hasImage n_mm_readings n_mm_knownBy n_mm_thrown → OW dC dI AO s H1 oo → va_S A s.heap H1 locs1 → lv_has ls1 7 [(4, .int vi), (3, .ref oo), (2, .ref mm), (1, .ref xx), (0, .ref b)] → W p l e room_1 s m #[Value.ref b] below meth c H1 locs1 (kc + 1) (ks + 6) Q (F0 m 1481 ls1 [])) : W p l e room_1 s m #[Value.ref b] below meth c H locs kc ks Q (F0 m 1456 ls []) := by
  refine lv_aload_n hx hb dL_law_1456 rfl (lv_at hl 3 rfl) ?_
  refine lv_aload_n hx hb dL_law_1457 rfl (lv_at hl 4 rfl) ?_
  refine lv_iload hx hb dL_law_1458 (lv_at hl 0 rfl) ?_
  refine lv_iconst (v := 1) hx hb dL_law_1460 (by decide) ?_
  refine lv_iadd hx hb dL_law_1461 ?_
  refine lv_topi (fun z_1 ez_1 => ?_)
  have kz_1 : z_1.toInt = vi.toInt + 1 := ti_add ez_1 rfl (by decide) (by omega) (by omega)
  clear ez_1
  refine va_sld hx hb hXs hbl hbA hS (vp_in_iff.mpr (by omega)) dL_law_1462 ?_
  refine lv_topi (fun z_2 ez_2 => ?_)
  refine xs_31 hx hb hml hown hT hA hAX (by omega) (by omega) hl hX hS (fun r_3 H_3 lo_3 hX hfr hz hS => ?_)
  have hM := hM.keep (fun q hq h => hfr q hq (fun z => hd1 q z h))
  have hO := hO.keep (fun q hq h => hfr q hq (fun z => hd2 q z h))
  clear hfr hz
  refine lv_pop hx hb dL_law_1466 rfl ?_
  refine lv_aload_n hx hb dL_law_1467 rfl (lv_at hl 2 rfl) ?_
  refine lv_aload_n hx hb dL_law_1468 rfl (lv_at hl 4 rfl) ?_
  refine lv_iload hx hb dL_law_1469 (lv_at hl 0 rfl) ?_
  refine lv_iconst (v := 1) hx hb dL_law_1471 (by decide) ?_
  refine lv_iadd hx hb dL_law_1472 ?_
  refine lv_topi (fun z_4 ez_4 => ?_)
  have kz_4 : z_4.toInt = vi.toInt + 1 := ti_add ez_4 rfl (by decide) (by omega) (by omega)
  clear ez_4
  refine va_sld hx hb hXs hbl hbA hS (vp_in_iff.mpr (by omega)) dL_law_1473 ?_
  refine lv_topi (fun z_5 ez_5 => ?_)
  have hq_6 : z_2 = z_5 := ez_2.trans ((congrArg (fun q : Int32 => xs q.toNatClampNeg) (Int32.toInt_inj.mp (by omega))).trans ez_5.symm)
  clear ez_5
  subst hq_6
  refine ms_31 hx hb hml hown hT hA hAM (by omega) (by omega) hl hM hS (fun r_7 H_7 lo_7 b7_mm_thrown hM hfr hz hS => ?_)
  have hX := hX.keep (fun q hq h => hfr q hq (fun z => hd1 q h z))
  have hO := hO.keep (fun q hq h => hfr q hq (fun z => hd3 q z h))
  clear hfr hz
  refine lv_pop hx hb dL_law_1477 rfl ?_
  refine lv_goto (tgt := 1481) hx hb dL_law_1478 (by decide) ?_
  refine W.widen (k := kc + 1) (n := ks + 6) (by omega) (by omega) ?_
  exact kk H_7 lo_7 _ rr_bytes rr_fault rr_place f_rr_tape dX cn_hour ci_hour xx_imageKept rd_count rd_knownFirst mm_taped mm_lastFault mm_lastPlace f_mm_tape dM mm_next mm_imageNext mm_hasImage mm_readings mm_knownBy b7_mm_thrown hbt hta hfa hpl hdd hho hih him hrc hrk hX hM hO hS (lv_sub hl [0, 1, 2, 3, 4] rfl)
