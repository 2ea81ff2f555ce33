theorem dL_law_1177 : decode cL_law 1177 = .ok (.aload_n 1, 1) := by decide +kernel
theorem dL_law_1178 : decode cL_law 1178 = .ok (.aload_n 0, 1) := by decide +kernel
theorem dL_law_1179 : decode cL_law 1179 = .ok (.iload 4, 2) := by decide +kernel
theorem dL_law_1181 : decode cL_law 1181 = .ok (.iconst 1, 1) := by decide +kernel
theorem dL_law_1182 : decode cL_law 1182 = .ok (.iadd, 1) := by decide +kernel
theorem dL_law_1183 : decode cL_law 1183 = .ok (.iaload, 1) := by decide +kernel
theorem dL_law_1187 : decode cL_law 1187 = .ok (.pop, 1) := by decide +kernel
theorem dL_law_1188 : decode cL_law 1188 = .ok (.aload_n 2, 1) := by decide +kernel
theorem dL_law_1189 : decode cL_law 1189 = .ok (.aload_n 0, 1) := by decide +kernel
theorem dL_law_1190 : decode cL_law 1190 = .ok (.iload 4, 2) := by decide +kernel
theorem dL_law_1192 : decode cL_law 1192 = .ok (.iconst 1, 1) := by decide +kernel
theorem dL_law_1193 : decode cL_law 1193 = .ok (.iadd, 1) := by decide +kernel
theorem dL_law_1194 : decode cL_law 1194 = .ok (.iaload, 1) := by decide +kernel
theorem dL_law_1198 : decode cL_law 1198 = .ok (.pop, 1) := by decide +kernel
theorem dL_law_1199 : decode cL_law 1199 = .ok (.goto 254, 3) := by decide +kernel
theorem dL_law_1202 : decode cL_law 1202 = .ok (.aload_n 1, 1) := by decide +kernel
theorem dL_law_1203 : decode cL_law 1203 = .ok (.aload_n 0, 1) := by decide +kernel
theorem dL_law_1204 : decode cL_law 1204 = .ok (.iload 4, 2) := by decide +kernel
theorem dL_law_1206 : decode cL_law 1206 = .ok (.iconst 1, 1) := by decide +kernel
theorem dL_law_1207 : decode cL_law 1207 = .ok (.iadd, 1) := by decide +kernel
theorem dL_law_1208 : decode cL_law 1208 = .ok (.iaload, 1) := by decide +kernel
theorem dL_law_1209 : decode cL_law 1209 = .ok (.aload_n 0, 1) := by decide +kernel
theorem dL_law_1210 : decode cL_law 1210 = .ok (.iload 4, 2) := by decide +kernel
theorem dL_law_1212 : decode cL_law 1212 = .ok (.iconst 2, 1) := by decide +kernel
theorem dL_law_1213 : decode cL_law 1213 = .ok (.iadd, 1) := by decide +kernel
theorem dL_law_1214 : decode cL_law 1214 = .ok (.iaload, 1) := by decide +kernel
theorem dL_law_1218 : decode cL_law 1218 = .ok (.pop, 1) := by decide +kernel
theorem dL_law_1219 : decode cL_law 1219 = .ok (.aload_n 2, 1) := by decide +kernel
theorem dL_law_1220 : decode cL_law 1220 = .ok (.aload_n 0, 1) := by decide +kernel
theorem dL_law_1221 : decode cL_law 1221 = .ok (.iload 4, 2) := by decide +kernel
theorem dL_law_1223 : decode cL_law 1223 = .ok (.iconst 1, 1) := by decide +kernel
theorem dL_law_1224 : decode cL_law 1224 = .ok (.iadd, 1) := by decide +kernel
theorem dL_law_1225 : decode cL_law 1225 = .ok (.iaload, 1) := by decide +kernel
theorem dL_law_1226 : decode cL_law 1226 = .ok (.aload_n 0, 1) := by decide +kernel
theorem dL_law_1227 : decode cL_law 1227 = .ok (.iload 4, 2) := by decide +kernel
theorem dL_law_1229 : decode cL_law 1229 = .ok (.iconst 2, 1) := by decide +kernel
theorem dL_law_1230 : decode cL_law 1230 = .ok (.iadd, 1) := by decide +kernel
theorem dL_law_1231 : decode cL_law 1231 = .ok (.iaload, 1) := by decide +kernel
theorem dL_law_1235 : decode cL_law 1235 = .ok (.pop, 1) := by decide +kernel
theorem dL_law_1236 : decode cL_law 1236 = .ok (.goto 217, 3) := by decide +kernel
theorem dL_law_1239 : decode cL_law 1239 = .ok (.aload_n 1, 1) := by decide +kernel
theorem dL_law_1240 : decode cL_law 1240 = .ok (.aload_n 0, 1) := by decide +kernel
theorem dL_law_1241 : decode cL_law 1241 = .ok (.iload 4, 2) := by decide +kernel
theorem dL_law_1243 : decode cL_law 1243 = .ok (.iconst 1, 1) := by decide +kernel
theorem dL_law_1244 : decode cL_law 1244 = .ok (.iadd, 1) := by decide +kernel
theorem dL_law_1245 : decode cL_law 1245 = .ok (.iaload, 1) := by decide +kernel
theorem dL_law_1246 : decode cL_law 1246 = .ok (.aload_n 0, 1) := by decide +kernel
theorem dL_law_1247 : decode cL_law 1247 = .ok (.iload 4, 2) := by decide +kernel
theorem dL_law_1249 : decode cL_law 1249 = .ok (.iconst 2, 1) := by decide +kernel
theorem dL_law_1250 : decode cL_law 1250 = .ok (.iadd, 1) := by decide +kernel
theorem dL_law_1251 : decode cL_law 1251 = .ok (.iaload, 1) := by decide +kernel
theorem dL_law_1255 : decode cL_law 1255 = .ok (.pop, 1) := by decide +kernel
theorem dL_law_1256 : decode cL_law 1256 = .ok (.aload_n 2, 1) := by decide +kernel
theorem dL_law_1257 : decode cL_law 1257 = .ok (.aload_n 0, 1) := by decide +kernel
theorem dL_law_1258 : decode cL_law 1258 = .ok (.iload 4, 2) := by decide +kernel
theorem dL_law_1260 : decode cL_law 1260 = .ok (.iconst 1, 1) := by decide +kernel
theorem dL_law_1261 : decode cL_law 1261 = .ok (.iadd, 1) := by decide +kernel
theorem dL_law_1262 : decode cL_law 1262 = .ok (.iaload, 1) := by decide +kernel
theorem dL_law_1263 : decode cL_law 1263 = .ok (.aload_n 0, 1) := by decide +kernel
theorem dL_law_1264 : decode cL_law 1264 = .ok (.iload 4, 2) := by decide +kernel
theorem dL_law_1266 : decode cL_law 1266 = .ok (.iconst 2, 1) := by decide +kernel
theorem dL_law_1267 : decode cL_law 1267 = .ok (.iadd, 1) := by decide +kernel
theorem dL_law_1268 : decode cL_law 1268 = .ok (.iaload, 1) := by decide +kernel
theorem dL_law_1272 : decode cL_law 1272 = .ok (.pop, 1) := by decide +kernel
theorem dL_law_1273 : decode cL_law 1273 = .ok (.goto 180, 3) := by decide +kernel
theorem dL_law_1276 : decode cL_law 1276 = .ok (.aload_n 1, 1) := by decide +kernel
theorem dL_law_1277 : decode cL_law 1277 = .ok (.aload_n 0, 1) := by decide +kernel
theorem dL_law_1278 : decode cL_law 1278 = .ok (.iload 4, 2) := by decide +kernel
theorem dL_law_1280 : decode cL_law 1280 = .ok (.iconst 1, 1) := by decide +kernel
theorem dL_law_1281 : decode cL_law 1281 = .ok (.iadd, 1) := by decide +kernel
theorem dL_law_1282 : decode cL_law 1282 = .ok (.iaload, 1) := by decide +kernel
theorem dL_law_1283 : decode cL_law 1283 = .ok (.aload_n 0, 1) := by decide +kernel
theorem dL_law_1284 : decode cL_law 1284 = .ok (.iload 4, 2) := by decide +kernel
theorem dL_law_1286 : decode cL_law 1286 = .ok (.iconst 2, 1) := by decide +kernel
theorem dL_law_1287 : decode cL_law 1287 = .ok (.iadd, 1) := by decide +kernel
theorem dL_law_1288 : decode cL_law 1288 = .ok (.iaload, 1) := by decide +kernel
theorem dL_law_1289 : decode cL_law 1289 = .ok (.aload_n 0, 1) := by decide +kernel
theorem dL_law_1290 : decode cL_law 1290 = .ok (.iload 4, 2) := by decide +kernel
theorem dL_law_1292 : decode cL_law 1292 = .ok (.iconst 3, 1) := by decide +kernel
theorem dL_law_1293 : decode cL_law 1293 = .ok (.iadd, 1) := by decide +kernel
theorem dL_law_1294 : decode cL_law 1294 = .ok (.iaload, 1) := by decide +kernel
theorem dL_law_1295 : decode cL_law 1295 = .ok (.aload_n 0, 1) := by decide +kernel
theorem dL_law_1296 : decode cL_law 1296 = .ok (.iload 4, 2) := by decide +kernel
theorem dL_law_1298 : decode cL_law 1298 = .ok (.iconst 4, 1) := by decide +kernel
theorem dL_law_1299 : decode cL_law 1299 = .ok (.iadd, 1) := by decide +kernel
theorem dL_law_1300 : decode cL_law 1300 = .ok (.iaload, 1) := by decide +kernel
theorem dL_law_1301 : decode cL_law 1301 = .ok (.ifCond .eq 7, 3) := by decide +kernel
theorem dL_law_1308 : decode cL_law 1308 = .ok (.iconst 0, 1) := by decide +kernel
theorem dL_law_1309 : decode cL_law 1309 = .ok (.aload_n 0, 1) := by decide +kernel
theorem dL_law_1310 : decode cL_law 1310 = .ok (.iload 4, 2) := by decide +kernel
theorem dL_law_1312 : decode cL_law 1312 = .ok (.iconst 5, 1) := by decide +kernel
theorem dL_law_1313 : decode cL_law 1313 = .ok (.iadd, 1) := by decide +kernel
theorem dL_law_1314 : decode cL_law 1314 = .ok (.iaload, 1) := by decide +kernel
theorem dL_law_1318 : decode cL_law 1318 = .ok (.pop, 1) := by decide +kernel
theorem dL_law_1319 : decode cL_law 1319 = .ok (.aload_n 2, 1) := by decide +kernel
theorem dL_law_1320 : decode cL_law 1320 = .ok (.aload_n 0, 1) := by decide +kernel
theorem dL_law_1321 : decode cL_law 1321 = .ok (.iload 4, 2) := by decide +kernel
theorem dL_law_1323 : decode cL_law 1323 = .ok (.iconst 1, 1) := by decide +kernel
theorem dL_law_1324 : decode cL_law 1324 = .ok (.iadd, 1) := by decide +kernel
theorem dL_law_1325 : decode cL_law 1325 = .ok (.iaload, 1) := by decide +kernel
theorem dL_law_1326 : decode cL_law 1326 = .ok (.aload_n 0, 1) := by decide +kernel
theorem dL_law_1327 : decode cL_law 1327 = .ok (.iload 4, 2) := by decide +kernel
theorem dL_law_1329 : decode cL_law 1329 = .ok (.iconst 2, 1) := by decide +kernel
theorem dL_law_1330 : decode cL_law 1330 = .ok (.iadd, 1) := by decide +kernel
theorem dL_law_1331 : decode cL_law 1331 = .ok (.iaload, 1) := by decide +kernel
theorem dL_law_1332 : decode cL_law 1332 = .ok (.aload_n 0, 1) := by decide +kernel
theorem dL_law_1333 : decode cL_law 1333 = .ok (.iload 4, 2) := by decide +kernel
theorem dL_law_1335 : decode cL_law 1335 = .ok (.iconst 3, 1) := by decide +kernel
theorem dL_law_1336 : decode cL_law 1336 = .ok (.iadd, 1) := by decide +kernel
theorem dL_law_1337 : decode cL_law 1337 = .ok (.iaload, 1) := by decide +kernel
theorem dL_law_1338 : decode cL_law 1338 = .ok (.aload_n 0, 1) := by decide +kernel
theorem dL_law_1339 : decode cL_law 1339 = .ok (.iload 4, 2) := by decide +kernel
theorem dL_law_1341 : decode cL_law 1341 = .ok (.iconst 4, 1) := by decide +kernel
theorem dL_law_1342 : decode cL_law 1342 = .ok (.iadd, 1) := by decide +kernel
theorem dL_law_1343 : decode cL_law 1343 = .ok (.iaload, 1) := by decide +kernel
theorem dL_law_1344 : decode cL_law 1344 = .ok (.ifCond .eq 7, 3) := by decide +kernel
theorem dL_law_1351 : decode cL_law 1351 = .ok (.iconst 0, 1) := by decide +kernel
theorem dL_law_1352 : decode cL_law 1352 = .ok (.aload_n 0, 1) := by decide +kernel
theorem dL_law_1353 : decode cL_law 1353 = .ok (.iload 4, 2) := by decide +kernel
theorem dL_law_1355 : decode cL_law 1355 = .ok (.iconst 5, 1) := by decide +kernel
theorem dL_law_1356 : decode cL_law 1356 = .ok (.iadd, 1) := by decide +kernel
theorem dL_law_1357 : decode cL_law 1357 = .ok (.iaload, 1) := by decide +kernel
theorem dL_law_1361 : decode cL_law 1361 = .ok (.pop, 1) := by decide +kernel
theorem dL_law_1362 : decode cL_law 1362 = .ok (.goto 91, 3) := by decide +kernel
theorem dL_law_1304 : decode cL_law 1304 = .ok (.iconst 1, 1) := by decide +kernel
theorem dL_law_1305 : decode cL_law 1305 = .ok (.goto 4, 3) := by decide +kernel
theorem dL_law_1347 : decode cL_law 1347 = .ok (.iconst 1, 1) := by decide +kernel
theorem dL_law_1348 : decode cL_law 1348 = .ok (.goto 4, 3) := by decide +kernel
theorem dL_law_1365 : decode cL_law 1365 = .ok (.aload_n 1, 1) := by decide +kernel
theorem dL_law_1366 : decode cL_law 1366 = .ok (.aload_n 0, 1) := by decide +kernel
theorem dL_law_1367 : decode cL_law 1367 = .ok (.iload 4, 2) := by decide +kernel
theorem dL_law_1369 : decode cL_law 1369 = .ok (.iconst 1, 1) := by decide +kernel
theorem dL_law_1370 : decode cL_law 1370 = .ok (.iadd, 1) := by decide +kernel
theorem dL_law_1371 : decode cL_law 1371 = .ok (.iaload, 1) := by decide +kernel
theorem dL_law_1372 : decode cL_law 1372 = .ok (.aload_n 0, 1) := by decide +kernel
theorem dL_law_1373 : decode cL_law 1373 = .ok (.iload 4, 2) := by decide +kernel
theorem dL_law_1375 : decode cL_law 1375 = .ok (.iconst 2, 1) := by decide +kernel
theorem dL_law_1376 : decode cL_law 1376 = .ok (.iadd, 1) := by decide +kernel
theorem dL_law_1377 : decode cL_law 1377 = .ok (.iaload, 1) := by decide +kernel
theorem dL_law_1381 : decode cL_law 1381 = .ok (.pop, 1) := by decide +kernel
theorem dL_law_1382 : decode cL_law 1382 = .ok (.aload_n 2, 1) := by decide +kernel
theorem dL_law_1383 : decode cL_law 1383 = .ok (.aload_n 0, 1) := by decide +kernel
theorem dL_law_1384 : decode cL_law 1384 = .ok (.iload 4, 2) := by decide +kernel
theorem dL_law_1386 : decode cL_law 1386 = .ok (.iconst 1, 1) := by decide +kernel
theorem dL_law_1387 : decode cL_law 1387 = .ok (.iadd, 1) := by decide +kernel
theorem dL_law_1388 : decode cL_law 1388 = .ok (.iaload, 1) := by decide +kernel
theorem dL_law_1389 : decode cL_law 1389 = .ok (.aload_n 0, 1) := by decide +kernel
theorem dL_law_1390 : decode cL_law 1390 = .ok (.iload 4, 2) := by decide +kernel
theorem dL_law_1392 : decode cL_law 1392 = .ok (.iconst 2, 1) := by decide +kernel
theorem dL_law_1393 : decode cL_law 1393 = .ok (.iadd, 1) := by decide +kernel
theorem dL_law_1394 : decode cL_law 1394 = .ok (.iaload, 1) := by decide +kernel
theorem dL_law_1398 : decode cL_law 1398 = .ok (.pop, 1) := by decide +kernel
theorem dL_law_1399 : decode cL_law 1399 = .ok (.goto 54, 3) := by decide +kernel
theorem dL_law_1402 : decode cL_law 1402 = .ok (.aload_n 1, 1) := by decide +kernel
theorem dL_law_1406 : decode cL_law 1406 = .ok (.pop, 1) := by decide +kernel
theorem dL_law_1407 : decode cL_law 1407 = .ok (.aload_n 2, 1) := by decide +kernel
theorem dL_law_1411 : decode cL_law 1411 = .ok (.pop, 1) := by decide +kernel
theorem dL_law_1412 : decode cL_law 1412 = .ok (.goto 41, 3) := by decide +kernel
theorem dL_law_1415 : decode cL_law 1415 = .ok (.aload_n 1, 1) := by decide +kernel
theorem dL_law_1419 : decode cL_law 1419 = .ok (.aload_n 2, 1) := by decide +kernel
theorem dL_law_1423 : decode cL_law 1423 = .ok (.if_icmp .eq 30, 3) := by decide +kernel
theorem dL_law_1428 : decode cL_law 1428 = .ok (.aload_n 1, 1) := by decide +kernel
theorem dL_law_1429 : decode cL_law 1429 = .ok (.aload_n 0, 1) := by decide +kernel
theorem dL_law_1430 : decode cL_law 1430 = .ok (.iload 4, 2) := by decide +kernel
theorem dL_law_1432 : decode cL_law 1432 = .ok (.iconst 1, 1) := by decide +kernel
theorem dL_law_1433 : decode cL_law 1433 = .ok (.iadd, 1) := by decide +kernel
theorem dL_law_1434 : decode cL_law 1434 = .ok (.iaload, 1) := by decide +kernel
theorem dL_law_1438 : decode cL_law 1438 = .ok (.pop, 1) := by decide +kernel
theorem dL_law_1439 : decode cL_law 1439 = .ok (.aload_n 2, 1) := by decide +kernel
theorem dL_law_1440 : decode cL_law 1440 = .ok (.aload_n 0, 1) := by decide +kernel
theorem dL_law_1441 : decode cL_law 1441 = .ok (.iload 4, 2) := by decide +kernel
theorem dL_law_1443 : decode cL_law 1443 = .ok (.iconst 1, 1) := by decide +kernel
theorem dL_law_1444 : decode cL_law 1444 = .ok (.iadd, 1) := by decide +kernel
theorem dL_law_1445 : decode cL_law 1445 = .ok (.iaload, 1) := by decide +kernel
theorem dL_law_1449 : decode cL_law 1449 = .ok (.pop, 1) := by decide +kernel
theorem dL_law_1450 : decode cL_law 1450 = .ok (.goto 3, 3) := by decide +kernel
set_option maxHeartbeats 4000000 in
set_option maxRecDepth 100000 in
theorem law_op_24 {p : Program} {l : Launch} {e : Env} {s : State} {m : MethodId} {below : List Frame} {meth : Method} {c : Code} {dC : Nat → ClassId} {dI : Nat → Nat → Nat} {b : Nat} {L : Nat} {xs : Nat → Int32} {A AX AM AO : Nat → Prop} {Q : State → Prop} (hx : p.tables.exec = Jvm.exec) (hb : c.code = cL_law) (hml : c.maxLocals = 7) (hown : s.vm.findClass RL = some m.cls) (hT : ∀ w ∈ pw_T, w.before #[Value.ref b] s = true) (hA : ∀ q, s.heap.size ≤ q → A q) (hAX : ∀ q, AX q → A q) (hAM : ∀ q, AM q → A q) (hAO : ∀ q, AO q → A q) (hd1 : ∀ q, AX q → ¬ AM q) (hd2 : ∀ q, AX q → ¬ AO q) (hd3 : ∀ q, AM q → ¬ AO q) (hXs : va_X b L xs s s.heap) (hbl : b < s.heap.size) (hbA : ¬ A b) (hL : L ≤ 3584) {kc ks : Nat} (hkc : kc + 4 ≤ 601024) (hks : ks + 24 ≤ 7293034) {vi : Int32} {xx mm oo : Nat} {rr_bytes : Int32} {rr_fault : Int32} {rr_place : Int32} {f_rr_tape : Nat → Int32} {dX : DD} {cn_hour : Int32} {ci_hour : Int32} {xx_imageKept : Int32} {rd_count : Int32} {rd_knownFirst : Int32} {mm_taped : Int32} {mm_lastFault : Int32} {mm_lastPlace : Int32} {f_mm_tape : Nat → Int32} {dM : DD} {mm_next : Int32} {mm_imageNext : Int32} {mm_hasImage : Int32} {mm_readings : Int32} {mm_knownBy : Int32} (hv0 : 0 ≤ vi.toInt) (hv1 : vi.toInt + 7 ≤ (L : Int)) (hbt : rr_bytes.toInt = mm_taped.toInt) (hta : BTt f_rr_tape f_mm_tape rr_bytes.toInt) (hfa : rr_fault = mm_lastFault) (hpl : rr_place = mm_lastPlace) (hdd : dX = dM) (hho : cn_hour.toInt = mm_next.toInt) (hih : ci_hour.toInt = mm_imageNext.toInt) (him : xx_imageKept.toInt = mm_hasImage.toInt) (hrc : rd_count.toInt = mm_readings.toInt) (hrk : rd_knownFirst.toInt = mm_knownBy.toInt) {H : Heap} {locs : List Loc} {ls : Array Slot} (hX : XW dC dI AX s H xx rr_bytes rr_fault rr_place f_rr_tape dX cn_hour ci_hour xx_imageKept rd_count rd_knownFirst) (hM : MW dC dI AM s H mm mm_taped mm_lastFault mm_lastPlace f_mm_tape dM mm_next mm_imageNext mm_hasImage mm_readings mm_knownBy) (hO : OW dC dI AO s H oo) (hS : va_S A s.heap H locs) (hl : lv_has ls 7 [(4, .int vi), (3, .ref oo), (2, .ref mm), (1, .ref xx), (0, .ref b)]) (kk : ∀ (H1 : Heap) (locs1 : List Loc) (ls1 : Array Slot) (n_rr_bytes : Int32) (n_rr_fault : Int32) (n_rr_place : Int32) (n_f_rr_tape : Nat → Int32) (n_dX : DD) (n_cn_hour : Int32) (n_ci_hour : Int32) (n_xx_imageKept : Int32) (n_rd_count : Int32) (n_rd_knownFirst : Int32) (n_mm_taped : Int32) (n_mm_lastFault : Int32) (n_mm_lastPlace : Int32) (n_f_mm_tape : Nat → Int32) (n_dM : DD) (n_mm_next : Int32) (n_mm_imageNext : Int32) (n_mm_hasImage : Int32) (n_mm_readings : Int32) (n_mm_knownBy : Int32), n_rr_bytes.toInt = n_mm_taped.toInt → BTt n_f_rr_tape n_f_mm_tape n_rr_bytes.toInt → n_rr_fault = n_mm_lastFault → n_rr_place = n_mm_lastPlace → n_dX = n_dM → n_cn_hour.toInt = n_mm_next.toInt → n_ci_hour.toInt = n_mm_imageNext.toInt → n_xx_imageKept.toInt = n_mm_hasImage.toInt → n_rd_count.toInt = n_mm_readings.toInt → n_rd_knownFirst.toInt = n_mm_knownBy.toInt → XW dC dI AX s H1 xx n_rr_bytes n_rr_fault n_rr_place n_f_rr_tape n_dX n_cn_hour n_ci_hour n_xx_imageKept n_rd_count n_rd_knownFirst → MW dC dI AM s H1 mm n_mm_taped n_mm_lastFault n_mm_lastPlace n_f_mm_tape n_dM n_mm_next n_mm_imageNext n_mm_hasImage n_mm_readings n_mm_knownBy → OW dC dI AO s H1 oo → va_S A s.heap H1 locs1 → lv_has ls1 7 [(4, .int vi), (3, .ref oo), (2, .ref mm), (1, .ref xx), (0, .ref b)] → W p l e room_1 s m #[Value.ref b] below meth c H1 locs1 (kc + 1) (ks + 6) Q (F0 m 1453 ls1 [])) : W p l e room_1 s m #[Value.ref b] below meth c H locs kc ks Q (F0 m 1177 ls []) := by
  refine lv_aload_n hx hb dL_law_1177 rfl (lv_at hl 3 rfl) ?_
  refine lv_aload_n hx hb dL_law_1178 rfl (lv_at hl 4 rfl) ?_
  refine lv_iload hx hb dL_law_1179 (lv_at hl 0 rfl) ?_
  refine lv_iconst (v := 1) hx hb dL_law_1181 (by decide) ?_
  refine lv_iadd hx hb dL_law_1182 ?_
  refine lv_topi (fun z_1 ez_1 => ?_)
  have kz_1 : z_1.toInt = vi.toInt + 1 := ti_add ez_1 rfl (by decide) (by omega) (by omega)
  clear ez_1
  refine va_sld hx hb hXs hbl hbA hS (vp_in_iff.mpr (by omega)) dL_law_1183 ?_
  refine lv_topi (fun z_2 ez_2 => ?_)
  refine xs_24 hx hb hml hown hT hA hAX (by omega) (by omega) hl hX hS (fun r_3 H_3 lo_3 hX hfr hz hS => ?_)
  have hM := hM.keep (fun q hq h => hfr q hq (fun z => hd1 q z h))
  have hO := hO.keep (fun q hq h => hfr q hq (fun z => hd2 q z h))
  clear hfr hz
  refine lv_pop hx hb dL_law_1187 rfl ?_
  refine lv_aload_n hx hb dL_law_1188 rfl (lv_at hl 2 rfl) ?_
  refine lv_aload_n hx hb dL_law_1189 rfl (lv_at hl 4 rfl) ?_
  refine lv_iload hx hb dL_law_1190 (lv_at hl 0 rfl) ?_
  refine lv_iconst (v := 1) hx hb dL_law_1192 (by decide) ?_
  refine lv_iadd hx hb dL_law_1193 ?_
  refine lv_topi (fun z_4 ez_4 => ?_)
  have kz_4 : z_4.toInt = vi.toInt + 1 := ti_add ez_4 rfl (by decide) (by omega) (by omega)
  clear ez_4
  refine va_sld hx hb hXs hbl hbA hS (vp_in_iff.mpr (by omega)) dL_law_1194 ?_
  refine lv_topi (fun z_5 ez_5 => ?_)
  have hq_6 : z_2 = z_5 := ez_2.trans ((congrArg (fun q : Int32 => xs q.toNatClampNeg) (Int32.toInt_inj.mp (by omega))).trans ez_5.symm)
  clear ez_5
  subst hq_6
  refine ms_24 hx hb hml hown hT hA hAM (by omega) (by omega) hl hM hS (fun r_7 H_7 lo_7 hM hfr hz hS => ?_)
  have hX := hX.keep (fun q hq h => hfr q hq (fun z => hd1 q h z))
  have hO := hO.keep (fun q hq h => hfr q hq (fun z => hd3 q z h))
  clear hfr hz
  refine lv_pop hx hb dL_law_1198 rfl ?_
  refine lv_goto (tgt := 1453) hx hb dL_law_1199 (by decide) ?_
  refine W.widen (k := kc + 1) (n := ks + 6) (by omega) (by omega) ?_
  exact kk H_7 lo_7 _ rr_bytes rr_fault rr_place f_rr_tape dX cn_hour ci_hour xx_imageKept rd_count rd_knownFirst mm_taped mm_lastFault mm_lastPlace f_mm_tape dM mm_next mm_imageNext mm_hasImage mm_readings mm_knownBy hbt hta hfa hpl hdd hho hih him hrc hrk hX hM hO hS (lv_sub hl [0, 1, 2, 3, 4] rfl)
set_option maxHeartbeats 4000000 in
set_option maxRecDepth 100000 in
theorem law_op_25 {p : Program} {l : Launch} {e : Env} {s : State} {m : MethodId} {below : List Frame} {meth : Method} {c : Code} {dC : Nat → ClassId} {dI : Nat → Nat → Nat} {b : Nat} {L : Nat} {xs : Nat → Int32} {A AX AM AO : Nat → Prop} {Q : State → Prop} (hx : p.tables.exec = Jvm.exec) (hb : c.code = cL_law) (hml : c.maxLocals = 7) (hown : s.vm.findClass RL = some m.cls) (hT : ∀ w ∈ pw_T, w.before #[Value.ref b] s = true) (hA : ∀ q, s.heap.size ≤ q → A q) (hAX : ∀ q, AX q → A q) (hAM : ∀ q, AM q → A q) (hAO : ∀ q, AO q → A q) (hd1 : ∀ q, AX q → ¬ AM q) (hd2 : ∀ q, AX q → ¬ AO q) (hd3 : ∀ q, AM q → ¬ AO q) (hXs : va_X b L xs s s.heap) (hbl : b < s.heap.size) (hbA : ¬ A b) (hL : L ≤ 3584) {kc ks : Nat} (hkc : kc + 4 ≤ 601024) (hks : ks + 24 ≤ 7293034) {vi : Int32} {xx mm oo : Nat} {rr_bytes : Int32} {rr_fault : Int32} {rr_place : Int32} {f_rr_tape : Nat → Int32} {dX : DD} {cn_hour : Int32} {ci_hour : Int32} {xx_imageKept : Int32} {rd_count : Int32} {rd_knownFirst : Int32} {mm_taped : Int32} {mm_lastFault : Int32} {mm_lastPlace : Int32} {f_mm_tape : Nat → Int32} {dM : DD} {mm_next : Int32} {mm_imageNext : Int32} {mm_hasImage : Int32} {mm_readings : Int32} {mm_knownBy : Int32} (hv0 : 0 ≤ vi.toInt) (hv1 : vi.toInt + 7 ≤ (L : Int)) (hbt : rr_bytes.toInt = mm_taped.toInt) (hta : BTt f_rr_tape f_mm_tape rr_bytes.toInt) (hfa : rr_fault = mm_lastFault) (hpl : rr_place = mm_lastPlace) (hdd : dX = dM) (hho : cn_hour.toInt = mm_next.toInt) (hih : ci_hour.toInt = mm_imageNext.toInt) (him : xx_imageKept.toInt = mm_hasImage.toInt) (hrc : rd_count.toInt = mm_readings.toInt) (hrk : rd_knownFirst.toInt = mm_knownBy.toInt) {H : Heap} {locs : List Loc} {ls : Array Slot} (hX : XW dC dI AX s H xx rr_bytes rr_fault rr_place f_rr_tape dX cn_hour ci_hour xx_imageKept rd_count rd_knownFirst) (hM : MW dC dI AM s H mm mm_taped mm_lastFault mm_lastPlace f_mm_tape dM mm_next mm_imageNext mm_hasImage mm_readings mm_knownBy) (hO : OW dC dI AO s H oo) (hS : va_S A s.heap H locs) (hl : lv_has ls 7 [(4, .int vi), (3, .ref oo), (2, .ref mm), (1, .ref xx), (0, .ref b)]) (kk : ∀ (H1 : Heap) (locs1 : List Loc) (ls1 : Array Slot) (n_rr_bytes : Int32) (n_rr_fault : Int32) (n_rr_place : Int32) (n_f_rr_tape : Nat → Int32) (n_dX : DD) (n_cn_hour : Int32) (n_ci_hour : Int32) (n_xx_imageKept : Int32) (n_rd_count : Int32) (n_rd_knownFirst : Int32) (n_mm_taped : Int32) (n_mm_lastFault : Int32) (n_mm_lastPlace : Int32) (n_f_mm_tape : Nat → Int32) (n_dM : DD) (n_mm_next : Int32) (n_mm_imageNext : Int32) (n_mm_hasImage : Int32) (n_mm_readings : Int32) (n_mm_knownBy : Int32), n_rr_bytes.toInt = n_mm_taped.toInt → BTt n_f_rr_tape n_f_mm_tape n_rr_bytes.toInt → n_rr_fault = n_mm_lastFault → n_rr_place = n_mm_lastPlace → n_dX = n_dM → n_cn_hour.toInt = n_mm_next.toInt → n_ci_hour.toInt = n_mm_imageNext.toInt → n_xx_imageKept.toInt = n_mm_hasImage.toInt → n_rd_count.toInt = n_mm_readings.toInt → n_rd_knownFirst.toInt = n_mm_knownBy.toInt → XW dC dI AX s H1 xx n_rr_bytes n_rr_fault n_rr_place n_f_rr_tape n_dX n_cn_hour n_ci_hour n_xx_imageKept n_rd_count n_rd_knownFirst → MW dC dI AM s H1 mm n_mm_taped n_mm_lastFault n_mm_lastPlace n_f_mm_tape n_dM n_mm_next n_mm_imageNext n_mm_hasImage n_mm_readings n_mm_knownBy → OW dC dI AO s H1 oo → va_S A s.heap H1 locs1 → lv_has ls1 7 [(4, .int vi), (3, .ref oo), (2, .ref mm), (1, .ref xx), (0, .ref b)] → W p l e room_1 s m #[Value.ref b] below meth c H1 locs1 (kc + 1) (ks + 6) Q (F0 m 1453 ls1 [])) : W p l e room_1 s m #[Value.ref b] below meth c H locs kc ks Q (F0 m 1202 ls []) := by
  refine lv_aload_n hx hb dL_law_1202 rfl (lv_at hl 3 rfl) ?_
  refine lv_aload_n hx hb dL_law_1203 rfl (lv_at hl 4 rfl) ?_
  refine lv_iload hx hb dL_law_1204 (lv_at hl 0 rfl) ?_
  refine lv_iconst (v := 1) hx hb dL_law_1206 (by decide) ?_
  refine lv_iadd hx hb dL_law_1207 ?_
  refine lv_topi (fun z_1 ez_1 => ?_)
  have kz_1 : z_1.toInt = vi.toInt + 1 := ti_add ez_1 rfl (by decide) (by omega) (by omega)
  clear ez_1
  refine va_sld hx hb hXs hbl hbA hS (vp_in_iff.mpr (by omega)) dL_law_1208 ?_
  refine lv_topi (fun z_2 ez_2 => ?_)
  refine lv_aload_n hx hb dL_law_1209 rfl (lv_at hl 4 rfl) ?_
  refine lv_iload hx hb dL_law_1210 (lv_at hl 0 rfl) ?_
  refine lv_iconst (v := 2) hx hb dL_law_1212 (by decide) ?_
  refine lv_iadd hx hb dL_law_1213 ?_
  refine lv_topi (fun z_3 ez_3 => ?_)
  have kz_3 : z_3.toInt = vi.toInt + 2 := ti_add ez_3 rfl (by decide) (by omega) (by omega)
  clear ez_3
  refine va_sld hx hb hXs hbl hbA hS (vp_in_iff.mpr (by omega)) dL_law_1214 ?_
  refine lv_topi (fun z_4 ez_4 => ?_)
  refine xs_25 hx hb hml hown hT hA hAX (by omega) (by omega) hl hX hS (fun r_5 H_5 lo_5 hX hfr hz hS => ?_)
  have hM := hM.keep (fun q hq h => hfr q hq (fun z => hd1 q z h))
  have hO := hO.keep (fun q hq h => hfr q hq (fun z => hd2 q z h))
  clear hfr hz
  refine lv_pop hx hb dL_law_1218 rfl ?_
  refine lv_aload_n hx hb dL_law_1219 rfl (lv_at hl 2 rfl) ?_
  refine lv_aload_n hx hb dL_law_1220 rfl (lv_at hl 4 rfl) ?_
  refine lv_iload hx hb dL_law_1221 (lv_at hl 0 rfl) ?_
  refine lv_iconst (v := 1) hx hb dL_law_1223 (by decide) ?_
  refine lv_iadd hx hb dL_law_1224 ?_
  refine lv_topi (fun z_6 ez_6 => ?_)
  have kz_6 : z_6.toInt = vi.toInt + 1 := ti_add ez_6 rfl (by decide) (by omega) (by omega)
  clear ez_6
  refine va_sld hx hb hXs hbl hbA hS (vp_in_iff.mpr (by omega)) dL_law_1225 ?_
  refine lv_topi (fun z_7 ez_7 => ?_)
  have hq_8 : z_2 = z_7 := ez_2.trans ((congrArg (fun q : Int32 => xs q.toNatClampNeg) (Int32.toInt_inj.mp (by omega))).trans ez_7.symm)
  clear ez_7
  subst hq_8
  refine lv_aload_n hx hb dL_law_1226 rfl (lv_at hl 4 rfl) ?_
  refine lv_iload hx hb dL_law_1227 (lv_at hl 0 rfl) ?_
  refine lv_iconst (v := 2) hx hb dL_law_1229 (by decide) ?_
  refine lv_iadd hx hb dL_law_1230 ?_
  refine lv_topi (fun z_9 ez_9 => ?_)
  have kz_9 : z_9.toInt = vi.toInt + 2 := ti_add ez_9 rfl (by decide) (by omega) (by omega)
  clear ez_9
  refine va_sld hx hb hXs hbl hbA hS (vp_in_iff.mpr (by omega)) dL_law_1231 ?_
  refine lv_topi (fun z_10 ez_10 => ?_)
  have hq_11 : z_4 = z_10 := ez_4.trans ((congrArg (fun q : Int32 => xs q.toNatClampNeg) (Int32.toInt_inj.mp (by omega))).trans ez_10.symm)
  clear ez_10
  subst hq_11
  refine ms_25 hx hb hml hown hT hA hAM (by omega) (by omega) hl hM hS (fun r_12 H_12 lo_12 hM hfr hz hS => ?_)
  have hX := hX.keep (fun q hq h => hfr q hq (fun z => hd1 q h z))
  have hO := hO.keep (fun q hq h => hfr q hq (fun z => hd3 q z h))
  clear hfr hz
  refine lv_pop hx hb dL_law_1235 rfl ?_
  refine lv_goto (tgt := 1453) hx hb dL_law_1236 (by decide) ?_
  refine W.widen (k := kc + 1) (n := ks + 6) (by omega) (by omega) ?_
  exact kk H_12 lo_12 _ rr_bytes rr_fault rr_place f_rr_tape dX cn_hour ci_hour xx_imageKept rd_count rd_knownFirst mm_taped mm_lastFault mm_lastPlace f_mm_tape dM mm_next mm_imageNext mm_hasImage mm_readings mm_knownBy hbt hta hfa hpl hdd hho hih him hrc hrk hX hM hO hS (lv_sub hl [0, 1, 2, 3, 4] rfl)
set_option maxHeartbeats 4000000 in
set_option maxRecDepth 100000 in
theorem law_op_26 {p : Program} {l : Launch} {e : Env} {s : State} {m : MethodId} {below : List Frame} {meth : Method} {c : Code} {dC : Nat → ClassId} {dI : Nat → Nat → Nat} {b : Nat} {L : Nat} {xs : Nat → Int32} {A AX AM AO : Nat → Prop} {Q : State → Prop} (hx : p.tables.exec = Jvm.exec) (hb : c.code = cL_law) (hml : c.maxLocals = 7) (hown : s.vm.findClass RL = some m.cls) (hT : ∀ w ∈ pw_T, w.before #[Value.ref b] s = true) (hA : ∀ q, s.heap.size ≤ q → A q) (hAX : ∀ q, AX q → A q) (hAM : ∀ q, AM q → A q) (hAO : ∀ q, AO q → A q) (hd1 : ∀ q, AX q → ¬ AM q) (hd2 : ∀ q, AX q → ¬ AO q) (hd3 : ∀ q, AM q → ¬ AO q) (hXs : va_X b L xs s s.heap) (hbl : b < s.heap.size) (hbA : ¬ A b) (hL : L ≤ 3584) {kc ks : Nat} (hkc : kc + 4 ≤ 601024) (hks : ks + 24 ≤ 7293034) {vi : Int32} {xx mm oo : Nat} {rr_bytes : Int32} {rr_fault : Int32} {rr_place : Int32} {f_rr_tape : Nat → Int32} {dX : DD} {cn_hour : Int32} {ci_hour : Int32} {xx_imageKept : Int32} {rd_count : Int32} {rd_knownFirst : Int32} {mm_taped : Int32} {mm_lastFault : Int32} {mm_lastPlace : Int32} {f_mm_tape : Nat → Int32} {dM : DD} {mm_next : Int32} {mm_imageNext : Int32} {mm_hasImage : Int32} {mm_readings : Int32} {mm_knownBy : Int32} (hv0 : 0 ≤ vi.toInt) (hv1 : vi.toInt + 7 ≤ (L : Int)) (hbt : rr_bytes.toInt = mm_taped.toInt) (hta : BTt f_rr_tape f_mm_tape rr_bytes.toInt) (hfa : rr_fault = mm_lastFault) (hpl : rr_place = mm_lastPlace) (hdd : dX = dM) (hho : cn_hour.toInt = mm_next.toInt) (hih : ci_hour.toInt = mm_imageNext.toInt) (him : xx_imageKept.toInt = mm_hasImage.toInt) (hrc : rd_count.toInt = mm_readings.toInt) (hrk : rd_knownFirst.toInt = mm_knownBy.toInt) {H : Heap} {locs : List Loc} {ls : Array Slot} (hX : XW dC dI AX s H xx rr_bytes rr_fault rr_place f_rr_tape dX cn_hour ci_hour xx_imageKept rd_count rd_knownFirst) (hM : MW dC dI AM s H mm mm_taped mm_lastFault mm_lastPlace f_mm_tape dM mm_next mm_imageNext mm_hasImage mm_readings mm_knownBy) (hO : OW dC dI AO s H oo) (hS : va_S A s.heap H locs) (hl : lv_has ls 7 [(4, .int vi), (3, .ref oo), (2, .ref mm), (1, .ref xx), (0, .ref b)]) (kk : ∀ (H1 : Heap) (locs1 : List Loc) (ls1 : Array Slot) (n_rr_bytes : Int32) (n_rr_fault : Int32) (n_rr_place : Int32) (n_f_rr_tape : Nat → Int32) (n_dX : DD) (n_cn_hour : Int32) (n_ci_hour : Int32) (n_xx_imageKept : Int32) (n_rd_count : Int32) (n_rd_knownFirst : Int32) (n_mm_taped : Int32) (n_mm_lastFault : Int32) (n_mm_lastPlace : Int32) (n_f_mm_tape : Nat → Int32) (n_dM : DD) (n_mm_next : Int32) (n_mm_imageNext : Int32) (n_mm_hasImage : Int32) (n_mm_readings : Int32) (n_mm_knownBy : Int32), n_rr_bytes.toInt = n_mm_taped.toInt → BTt n_f_rr_tape n_f_mm_tape n_rr_bytes.toInt → n_rr_fault = n_mm_lastFault → n_rr_place = n_mm_lastPlace → n_dX = n_dM → n_cn_hour.toInt = n_mm_next.toInt → n_ci_hour.toInt = n_mm_imageNext.toInt → n_xx_imageKept.toInt = n_mm_hasImage.toInt → n_rd_count.toInt = n_mm_readings.toInt → n_rd_knownFirst.toInt = n_mm_knownBy.toInt → XW dC dI AX s H1 xx n_rr_bytes n_rr_fault n_rr_place n_f_rr_tape n_dX n_cn_hour n_ci_hour n_xx_imageKept n_rd_count n_rd_knownFirst → MW dC dI AM s H1 mm n_mm_taped n_mm_lastFault n_mm_lastPlace n_f_mm_tape n_dM n_mm_next n_mm_imageNext n_mm_hasImage n_mm_readings n_mm_knownBy → OW dC dI AO s H1 oo → va_S A s.heap H1 locs1 → lv_has ls1 7 [(4, .int vi), (3, .ref oo), (2, .ref mm), (1, .ref xx), (0, .ref b)] → W p l e room_1 s m #[Value.ref b] below meth c H1 locs1 (kc + 1) (ks + 6) Q (F0 m 1453 ls1 [])) : W p l e room_1 s m #[Value.ref b] below meth c H locs kc ks Q (F0 m 1239 ls []) := by
  refine lv_aload_n hx hb dL_law_1239 rfl (lv_at hl 3 rfl) ?_
  refine lv_aload_n hx hb dL_law_1240 rfl (lv_at hl 4 rfl) ?_
  refine lv_iload hx hb dL_law_1241 (lv_at hl 0 rfl) ?_
  refine lv_iconst (v := 1) hx hb dL_law_1243 (by decide) ?_
  refine lv_iadd hx hb dL_law_1244 ?_
  refine lv_topi (fun z_1 ez_1 => ?_)
  have kz_1 : z_1.toInt = vi.toInt + 1 := ti_add ez_1 rfl (by decide) (by omega) (by omega)
  clear ez_1
  refine va_sld hx hb hXs hbl hbA hS (vp_in_iff.mpr (by omega)) dL_law_1245 ?_
  refine lv_topi (fun z_2 ez_2 => ?_)
  refine lv_aload_n hx hb dL_law_1246 rfl (lv_at hl 4 rfl) ?_
  refine lv_iload hx hb dL_law_1247 (lv_at hl 0 rfl) ?_
  refine lv_iconst (v := 2) hx hb dL_law_1249 (by decide) ?_
  refine lv_iadd hx hb dL_law_1250 ?_
  refine lv_topi (fun z_3 ez_3 => ?_)
  have kz_3 : z_3.toInt = vi.toInt + 2 := ti_add ez_3 rfl (by decide) (by omega) (by omega)
  clear ez_3
  refine va_sld hx hb hXs hbl hbA hS (vp_in_iff.mpr (by omega)) dL_law_1251 ?_
  refine lv_topi (fun z_4 ez_4 => ?_)
  refine xs_26 hx hb hml hown hT hA hAX (by omega) (by omega) hl hX hS (fun r_5 H_5 lo_5 hX hfr hz hS => ?_)
  have hM := hM.keep (fun q hq h => hfr q hq (fun z => hd1 q z h))
  have hO := hO.keep (fun q hq h => hfr q hq (fun z => hd2 q z h))
  clear hfr hz
  refine lv_pop hx hb dL_law_1255 rfl ?_
  refine lv_aload_n hx hb dL_law_1256 rfl (lv_at hl 2 rfl) ?_
  refine lv_aload_n hx hb dL_law_1257 rfl (lv_at hl 4 rfl) ?_
  refine lv_iload hx hb dL_law_1258 (lv_at hl 0 rfl) ?_
  refine lv_iconst (v := 1) hx hb dL_law_1260 (by decide) ?_
  refine lv_iadd hx hb dL_law_1261 ?_
  refine lv_topi (fun z_6 ez_6 => ?_)
  have kz_6 : z_6.toInt = vi.toInt + 1 := ti_add ez_6 rfl (by decide) (by omega) (by omega)
  clear ez_6
  refine va_sld hx hb hXs hbl hbA hS (vp_in_iff.mpr (by omega)) dL_law_1262 ?_
  refine lv_topi (fun z_7 ez_7 => ?_)
  have hq_8 : z_2 = z_7 := ez_2.trans ((congrArg (fun q : Int32 => xs q.toNatClampNeg) (Int32.toInt_inj.mp (by omega))).trans ez_7.symm)
  clear ez_7
  subst hq_8
  refine lv_aload_n hx hb dL_law_1263 rfl (lv_at hl 4 rfl) ?_
  refine lv_iload hx hb dL_law_1264 (lv_at hl 0 rfl) ?_
  refine lv_iconst (v := 2) hx hb dL_law_1266 (by decide) ?_
  refine lv_iadd hx hb dL_law_1267 ?_
  refine lv_topi (fun z_9 ez_9 => ?_)
  have kz_9 : z_9.toInt = vi.toInt + 2 := ti_add ez_9 rfl (by decide) (by omega) (by omega)
  clear ez_9
  refine va_sld hx hb hXs hbl hbA hS (vp_in_iff.mpr (by omega)) dL_law_1268 ?_
  refine lv_topi (fun z_10 ez_10 => ?_)
  have hq_11 : z_4 = z_10 := ez_4.trans ((congrArg (fun q : Int32 => xs q.toNatClampNeg) (Int32.toInt_inj.mp (by omega))).trans ez_10.symm)
  clear ez_10
  subst hq_11
  refine ms_26 hx hb hml hown hT hA hAM (by omega) (by omega) hl hM hS (fun r_12 H_12 lo_12 hM hfr hz hS => ?_)
  have hX := hX.keep (fun q hq h => hfr q hq (fun z => hd1 q h z))
  have hO := hO.keep (fun q hq h => hfr q hq (fun z => hd3 q z h))
  clear hfr hz
  refine lv_pop hx hb dL_law_1272 rfl ?_
  refine lv_goto (tgt := 1453) hx hb dL_law_1273 (by decide) ?_
  refine W.widen (k := kc + 1) (n := ks + 6) (by omega) (by omega) ?_
  exact kk H_12 lo_12 _ rr_bytes rr_fault rr_place f_rr_tape dX cn_hour ci_hour xx_imageKept rd_count rd_knownFirst mm_taped mm_lastFault mm_lastPlace f_mm_tape dM mm_next mm_imageNext mm_hasImage mm_readings mm_knownBy hbt hta hfa hpl hdd hho hih him hrc hrk hX hM hO hS (lv_sub hl [0, 1, 2, 3, 4] rfl)
set_option maxHeartbeats 4000000 in
set_option maxRecDepth 100000 in
theorem law_op_27 {p : Program} {l : Launch} {e : Env} {s : State} {m : MethodId} {below : List Frame} {meth : Method} {c : Code} {dC : Nat → ClassId} {dI : Nat → Nat → Nat} {b : Nat} {L : Nat} {xs : Nat → Int32} {A AX AM AO : Nat → Prop} {Q : State → Prop} (hx : p.tables.exec = Jvm.exec) (hb : c.code = cL_law) (hml : c.maxLocals = 7) (hown : s.vm.findClass RL = some m.cls) (hT : ∀ w ∈ pw_T, w.before #[Value.ref b] s = true) (hA : ∀ q, s.heap.size ≤ q → A q) (hAX : ∀ q, AX q → A q) (hAM : ∀ q, AM q → A q) (hAO : ∀ q, AO q → A q) (hd1 : ∀ q, AX q → ¬ AM q) (hd2 : ∀ q, AX q → ¬ AO q) (hd3 : ∀ q, AM q → ¬ AO q) (hXs : va_X b L xs s s.heap) (hbl : b < s.heap.size) (hbA : ¬ A b) (hL : L ≤ 3584) {kc ks : Nat} (hkc : kc + 4 ≤ 601024) (hks : ks + 24 ≤ 7293034) {vi : Int32} {xx mm oo : Nat} {rr_bytes : Int32} {rr_fault : Int32} {rr_place : Int32} {f_rr_tape : Nat → Int32} {dX : DD} {cn_hour : Int32} {ci_hour : Int32} {xx_imageKept : Int32} {rd_count : Int32} {rd_knownFirst : Int32} {mm_taped : Int32} {mm_lastFault : Int32} {mm_lastPlace : Int32} {f_mm_tape : Nat → Int32} {dM : DD} {mm_next : Int32} {mm_imageNext : Int32} {mm_hasImage : Int32} {mm_readings : Int32} {mm_knownBy : Int32} (hv0 : 0 ≤ vi.toInt) (hv1 : vi.toInt + 7 ≤ (L : Int)) (hbt : rr_bytes.toInt = mm_taped.toInt) (hta : BTt f_rr_tape f_mm_tape rr_bytes.toInt) (hfa : rr_fault = mm_lastFault) (hpl : rr_place = mm_lastPlace) (hdd : dX = dM) (hho : cn_hour.toInt = mm_next.toInt) (hih : ci_hour.toInt = mm_imageNext.toInt) (him : xx_imageKept.toInt = mm_hasImage.toInt) (hrc : rd_count.toInt = mm_readings.toInt) (hrk : rd_knownFirst.toInt = mm_knownBy.toInt) {H : Heap} {locs : List Loc} {ls : Array Slot} (hX : XW dC dI AX s H xx rr_bytes rr_fault rr_place f_rr_tape dX cn_hour ci_hour xx_imageKept rd_count rd_knownFirst) (hM : MW dC dI AM s H mm mm_taped mm_lastFault mm_lastPlace f_mm_tape dM mm_next mm_imageNext mm_hasImage mm_readings mm_knownBy) (hO : OW dC dI AO s H oo) (hS : va_S A s.heap H locs) (hl : lv_has ls 7 [(4, .int vi), (3, .ref oo), (2, .ref mm), (1, .ref xx), (0, .ref b)]) (kk : ∀ (H1 : Heap) (locs1 : List Loc) (ls1 : Array Slot) (n_rr_bytes : Int32) (n_rr_fault : Int32) (n_rr_place : Int32) (n_f_rr_tape : Nat → Int32) (n_dX : DD) (n_cn_hour : Int32) (n_ci_hour : Int32) (n_xx_imageKept : Int32) (n_rd_count : Int32) (n_rd_knownFirst : Int32) (n_mm_taped : Int32) (n_mm_lastFault : Int32) (n_mm_lastPlace : Int32) (n_f_mm_tape : Nat → Int32) (n_dM : DD) (n_mm_next : Int32) (n_mm_imageNext : Int32) (n_mm_hasImage : Int32) (n_mm_readings : Int32) (n_mm_knownBy : Int32), n_rr_bytes.toInt = n_mm_taped.toInt → BTt n_f_rr_tape n_f_mm_tape n_rr_bytes.toInt → n_rr_fault = n_mm_lastFault → n_rr_place = n_mm_lastPlace → n_dX = n_dM → n_cn_hour.toInt = n_mm_next.toInt → n_ci_hour.toInt = n_mm_imageNext.toInt → n_xx_imageKept.toInt = n_mm_hasImage.toInt → n_rd_count.toInt = n_mm_readings.toInt → n_rd_knownFirst.toInt = n_mm_knownBy.toInt → XW dC dI AX s H1 xx n_rr_bytes n_rr_fault n_rr_place n_f_rr_tape n_dX n_cn_hour n_ci_hour n_xx_imageKept n_rd_count n_rd_knownFirst → MW dC dI AM s H1 mm n_mm_taped n_mm_lastFault n_mm_lastPlace n_f_mm_tape n_dM n_mm_next n_mm_imageNext n_mm_hasImage n_mm_readings n_mm_knownBy → OW dC dI AO s H1 oo → va_S A s.heap H1 locs1 → lv_has ls1 7 [(4, .int vi), (3, .ref oo), (2, .ref mm), (1, .ref xx), (0, .ref b)] → W p l e room_1 s m #[Value.ref b] below meth c H1 locs1 (kc + 1) (ks + 6) Q (F0 m 1453 ls1 [])) : W p l e room_1 s m #[Value.ref b] below meth c H locs kc ks Q (F0 m 1276 ls []) := by
  refine lv_aload_n hx hb dL_law_1276 rfl (lv_at hl 3 rfl) ?_
  refine lv_aload_n hx hb dL_law_1277 rfl (lv_at hl 4 rfl) ?_
  refine lv_iload hx hb dL_law_1278 (lv_at hl 0 rfl) ?_
  refine lv_iconst (v := 1) hx hb dL_law_1280 (by decide) ?_
  refine lv_iadd hx hb dL_law_1281 ?_
  refine lv_topi (fun z_1 ez_1 => ?_)
  have kz_1 : z_1.toInt = vi.toInt + 1 := ti_add ez_1 rfl (by decide) (by omega) (by omega)
  clear ez_1
  refine va_sld hx hb hXs hbl hbA hS (vp_in_iff.mpr (by omega)) dL_law_1282 ?_
  refine lv_topi (fun z_2 ez_2 => ?_)
  refine lv_aload_n hx hb dL_law_1283 rfl (lv_at hl 4 rfl) ?_
  refine lv_iload hx hb dL_law_1284 (lv_at hl 0 rfl) ?_
  refine lv_iconst (v := 2) hx hb dL_law_1286 (by decide) ?_
  refine lv_iadd hx hb dL_law_1287 ?_
  refine lv_topi (fun z_3 ez_3 => ?_)
  have kz_3 : z_3.toInt = vi.toInt + 2 := ti_add ez_3 rfl (by decide) (by omega) (by omega)
  clear ez_3
  refine va_sld hx hb hXs hbl hbA hS (vp_in_iff.mpr (by omega)) dL_law_1288 ?_
  refine lv_topi (fun z_4 ez_4 => ?_)
  refine lv_aload_n hx hb dL_law_1289 rfl (lv_at hl 4 rfl) ?_
  refine lv_iload hx hb dL_law_1290 (lv_at hl 0 rfl) ?_
  refine lv_iconst (v := 3) hx hb dL_law_1292 (by decide) ?_
  refine lv_iadd hx hb dL_law_1293 ?_
  refine lv_topi (fun z_5 ez_5 => ?_)
  have kz_5 : z_5.toInt = vi.toInt + 3 := ti_add ez_5 rfl (by decide) (by omega) (by omega)
  clear ez_5
  refine va_sld hx hb hXs hbl hbA hS (vp_in_iff.mpr (by omega)) dL_law_1294 ?_
  refine lv_topi (fun z_6 ez_6 => ?_)
  refine lv_aload_n hx hb dL_law_1295 rfl (lv_at hl 4 rfl) ?_
  refine lv_iload hx hb dL_law_1296 (lv_at hl 0 rfl) ?_
  refine lv_iconst (v := 4) hx hb dL_law_1298 (by decide) ?_
  refine lv_iadd hx hb dL_law_1299 ?_
  refine lv_topi (fun z_7 ez_7 => ?_)
  have kz_7 : z_7.toInt = vi.toInt + 4 := ti_add ez_7 rfl (by decide) (by omega) (by omega)
  clear ez_7
  refine va_sld hx hb hXs hbl hbA hS (vp_in_iff.mpr (by omega)) dL_law_1300 ?_
  refine lv_topi (fun z_8 ez_8 => ?_)
  refine lv_if_eq (tgt := 1308) hx hb dL_law_1301 (by decide) (fun c_9 => ?_) (fun c_9 => ?_)
  · have kc_9 := il_eq c_9
    have := (by decide : (0 : Int32).toInt = 0)
    refine lv_iconst (v := 0) hx hb dL_law_1308 (by decide) ?_
    refine lv_aload_n hx hb dL_law_1309 rfl (lv_at hl 4 rfl) ?_
    refine lv_iload hx hb dL_law_1310 (lv_at hl 0 rfl) ?_
    refine lv_iconst (v := 5) hx hb dL_law_1312 (by decide) ?_
    refine lv_iadd hx hb dL_law_1313 ?_
    refine lv_topi (fun z_10 ez_10 => ?_)
    have kz_10 : z_10.toInt = vi.toInt + 5 := ti_add ez_10 rfl (by decide) (by omega) (by omega)
    clear ez_10
    refine va_sld hx hb hXs hbl hbA hS (vp_in_iff.mpr (by omega)) dL_law_1314 ?_
    refine lv_topi (fun z_11 ez_11 => ?_)
    refine xs_27 hx hb hml hown hT hA hAX (by omega) (by omega) hl (by decide) hX hS (fun r_12 H_12 lo_12 hX hfr hz hS => ?_)
    have hM := hM.keep (fun q hq h => hfr q hq (fun z => hd1 q z h))
    have hO := hO.keep (fun q hq h => hfr q hq (fun z => hd2 q z h))
    clear hfr hz
    refine lv_pop hx hb dL_law_1318 rfl ?_
    refine lv_aload_n hx hb dL_law_1319 rfl (lv_at hl 2 rfl) ?_
    refine lv_aload_n hx hb dL_law_1320 rfl (lv_at hl 4 rfl) ?_
    refine lv_iload hx hb dL_law_1321 (lv_at hl 0 rfl) ?_
    refine lv_iconst (v := 1) hx hb dL_law_1323 (by decide) ?_
    refine lv_iadd hx hb dL_law_1324 ?_
    refine lv_topi (fun z_13 ez_13 => ?_)
    have kz_13 : z_13.toInt = vi.toInt + 1 := ti_add ez_13 rfl (by decide) (by omega) (by omega)
    clear ez_13
    refine va_sld hx hb hXs hbl hbA hS (vp_in_iff.mpr (by omega)) dL_law_1325 ?_
    refine lv_topi (fun z_14 ez_14 => ?_)
    have hq_15 : z_2 = z_14 := ez_2.trans ((congrArg (fun q : Int32 => xs q.toNatClampNeg) (Int32.toInt_inj.mp (by omega))).trans ez_14.symm)
    clear ez_14
    subst hq_15
    refine lv_aload_n hx hb dL_law_1326 rfl (lv_at hl 4 rfl) ?_
    refine lv_iload hx hb dL_law_1327 (lv_at hl 0 rfl) ?_
    refine lv_iconst (v := 2) hx hb dL_law_1329 (by decide) ?_
    refine lv_iadd hx hb dL_law_1330 ?_
    refine lv_topi (fun z_16 ez_16 => ?_)
    have kz_16 : z_16.toInt = vi.toInt + 2 := ti_add ez_16 rfl (by decide) (by omega) (by omega)
    clear ez_16
    refine va_sld hx hb hXs hbl hbA hS (vp_in_iff.mpr (by omega)) dL_law_1331 ?_
    refine lv_topi (fun z_17 ez_17 => ?_)
    have hq_18 : z_4 = z_17 := ez_4.trans ((congrArg (fun q : Int32 => xs q.toNatClampNeg) (Int32.toInt_inj.mp (by omega))).trans ez_17.symm)
    clear ez_17
    subst hq_18
    refine lv_aload_n hx hb dL_law_1332 rfl (lv_at hl 4 rfl) ?_
    refine lv_iload hx hb dL_law_1333 (lv_at hl 0 rfl) ?_
    refine lv_iconst (v := 3) hx hb dL_law_1335 (by decide) ?_
    refine lv_iadd hx hb dL_law_1336 ?_
    refine lv_topi (fun z_19 ez_19 => ?_)
    have kz_19 : z_19.toInt = vi.toInt + 3 := ti_add ez_19 rfl (by decide) (by omega) (by omega)
    clear ez_19
    refine va_sld hx hb hXs hbl hbA hS (vp_in_iff.mpr (by omega)) dL_law_1337 ?_
    refine lv_topi (fun z_20 ez_20 => ?_)
    have hq_21 : z_6 = z_20 := ez_6.trans ((congrArg (fun q : Int32 => xs q.toNatClampNeg) (Int32.toInt_inj.mp (by omega))).trans ez_20.symm)
    clear ez_20
    subst hq_21
    refine lv_aload_n hx hb dL_law_1338 rfl (lv_at hl 4 rfl) ?_
    refine lv_iload hx hb dL_law_1339 (lv_at hl 0 rfl) ?_
    refine lv_iconst (v := 4) hx hb dL_law_1341 (by decide) ?_
    refine lv_iadd hx hb dL_law_1342 ?_
    refine lv_topi (fun z_22 ez_22 => ?_)
    have kz_22 : z_22.toInt = vi.toInt + 4 := ti_add ez_22 rfl (by decide) (by omega) (by omega)
    clear ez_22
    refine va_sld hx hb hXs hbl hbA hS (vp_in_iff.mpr (by omega)) dL_law_1343 ?_
    refine lv_topi (fun z_23 ez_23 => ?_)
    have hq_24 : z_8 = z_23 := ez_8.trans ((congrArg (fun q : Int32 => xs q.toNatClampNeg) (Int32.toInt_inj.mp (by omega))).trans ez_23.symm)
    clear ez_23
    subst hq_24
    refine lv_if_eq (tgt := 1351) hx hb dL_law_1344 (by decide) (fun c_25 => ?_) (fun c_25 => False.elim (by have := il_ne c_25; have := (by decide : (0 : Int32).toInt = 0); omega))
    have kc_25 := il_eq c_25
    have := (by decide : (0 : Int32).toInt = 0)
    refine lv_iconst (v := 0) hx hb dL_law_1351 (by decide) ?_
    refine lv_aload_n hx hb dL_law_1352 rfl (lv_at hl 4 rfl) ?_
    refine lv_iload hx hb dL_law_1353 (lv_at hl 0 rfl) ?_
    refine lv_iconst (v := 5) hx hb dL_law_1355 (by decide) ?_
    refine lv_iadd hx hb dL_law_1356 ?_
    refine lv_topi (fun z_26 ez_26 => ?_)
    have kz_26 : z_26.toInt = vi.toInt + 5 := ti_add ez_26 rfl (by decide) (by omega) (by omega)
    clear ez_26
    refine va_sld hx hb hXs hbl hbA hS (vp_in_iff.mpr (by omega)) dL_law_1357 ?_
    refine lv_topi (fun z_27 ez_27 => ?_)
    have hq_28 : z_11 = z_27 := ez_11.trans ((congrArg (fun q : Int32 => xs q.toNatClampNeg) (Int32.toInt_inj.mp (by omega))).trans ez_27.symm)
    clear ez_27
    subst hq_28
    refine ms_27 hx hb hml hown hT hA hAM (by omega) (by omega) hl (by decide) hM hS (fun r_29 H_29 lo_29 hM hfr hz hS => ?_)
    have hX := hX.keep (fun q hq h => hfr q hq (fun z => hd1 q h z))
    have hO := hO.keep (fun q hq h => hfr q hq (fun z => hd3 q z h))
    clear hfr hz
    refine lv_pop hx hb dL_law_1361 rfl ?_
    refine lv_goto (tgt := 1453) hx hb dL_law_1362 (by decide) ?_
    refine W.widen (k := kc + 1) (n := ks + 6) (by omega) (by omega) ?_
    exact kk H_29 lo_29 _ rr_bytes rr_fault rr_place f_rr_tape dX cn_hour ci_hour xx_imageKept rd_count rd_knownFirst mm_taped mm_lastFault mm_lastPlace f_mm_tape dM mm_next mm_imageNext mm_hasImage mm_readings mm_knownBy hbt hta hfa hpl hdd hho hih him hrc hrk hX hM hO hS (lv_sub hl [0, 1, 2, 3, 4] rfl)
  · have kc_9 := il_ne c_9
    have := (by decide : (0 : Int32).toInt = 0)
    refine lv_iconst (v := 1) hx hb dL_law_1304 (by decide) ?_
    refine lv_goto (tgt := 1309) hx hb dL_law_1305 (by decide) ?_
    refine lv_aload_n hx hb dL_law_1309 rfl (lv_at hl 4 rfl) ?_
    refine lv_iload hx hb dL_law_1310 (lv_at hl 0 rfl) ?_
    refine lv_iconst (v := 5) hx hb dL_law_1312 (by decide) ?_
    refine lv_iadd hx hb dL_law_1313 ?_
    refine lv_topi (fun z_30 ez_30 => ?_)
    have kz_30 : z_30.toInt = vi.toInt + 5 := ti_add ez_30 rfl (by decide) (by omega) (by omega)
    clear ez_30
    refine va_sld hx hb hXs hbl hbA hS (vp_in_iff.mpr (by omega)) dL_law_1314 ?_
    refine lv_topi (fun z_31 ez_31 => ?_)
    refine xs_27 hx hb hml hown hT hA hAX (by omega) (by omega) hl (by decide) hX hS (fun r_32 H_32 lo_32 hX hfr hz hS => ?_)
    have hM := hM.keep (fun q hq h => hfr q hq (fun z => hd1 q z h))
    have hO := hO.keep (fun q hq h => hfr q hq (fun z => hd2 q z h))
    clear hfr hz
    refine lv_pop hx hb dL_law_1318 rfl ?_
    refine lv_aload_n hx hb dL_law_1319 rfl (lv_at hl 2 rfl) ?_
    refine lv_aload_n hx hb dL_law_1320 rfl (lv_at hl 4 rfl) ?_
    refine lv_iload hx hb dL_law_1321 (lv_at hl 0 rfl) ?_
    refine lv_iconst (v := 1) hx hb dL_law_1323 (by decide) ?_
    refine lv_iadd hx hb dL_law_1324 ?_
    refine lv_topi (fun z_33 ez_33 => ?_)
    have kz_33 : z_33.toInt = vi.toInt + 1 := ti_add ez_33 rfl (by decide) (by omega) (by omega)
    clear ez_33
    refine va_sld hx hb hXs hbl hbA hS (vp_in_iff.mpr (by omega)) dL_law_1325 ?_
    refine lv_topi (fun z_34 ez_34 => ?_)
    have hq_35 : z_2 = z_34 := ez_2.trans ((congrArg (fun q : Int32 => xs q.toNatClampNeg) (Int32.toInt_inj.mp (by omega))).trans ez_34.symm)
    clear ez_34
    subst hq_35
    refine lv_aload_n hx hb dL_law_1326 rfl (lv_at hl 4 rfl) ?_
    refine lv_iload hx hb dL_law_1327 (lv_at hl 0 rfl) ?_
    refine lv_iconst (v := 2) hx hb dL_law_1329 (by decide) ?_
    refine lv_iadd hx hb dL_law_1330 ?_
    refine lv_topi (fun z_36 ez_36 => ?_)
    have kz_36 : z_36.toInt = vi.toInt + 2 := ti_add ez_36 rfl (by decide) (by omega) (by omega)
    clear ez_36
    refine va_sld hx hb hXs hbl hbA hS (vp_in_iff.mpr (by omega)) dL_law_1331 ?_
    refine lv_topi (fun z_37 ez_37 => ?_)
    have hq_38 : z_4 = z_37 := ez_4.trans ((congrArg (fun q : Int32 => xs q.toNatClampNeg) (Int32.toInt_inj.mp (by omega))).trans ez_37.symm)
    clear ez_37
    subst hq_38
    refine lv_aload_n hx hb dL_law_1332 rfl (lv_at hl 4 rfl) ?_
    refine lv_iload hx hb dL_law_1333 (lv_at hl 0 rfl) ?_
    refine lv_iconst (v := 3) hx hb dL_law_1335 (by decide) ?_
    refine lv_iadd hx hb dL_law_1336 ?_
    refine lv_topi (fun z_39 ez_39 => ?_)
    have kz_39 : z_39.toInt = vi.toInt + 3 := ti_add ez_39 rfl (by decide) (by omega) (by omega)
    clear ez_39
    refine va_sld hx hb hXs hbl hbA hS (vp_in_iff.mpr (by omega)) dL_law_1337 ?_
    refine lv_topi (fun z_40 ez_40 => ?_)
    have hq_41 : z_6 = z_40 := ez_6.trans ((congrArg (fun q : Int32 => xs q.toNatClampNeg) (Int32.toInt_inj.mp (by omega))).trans ez_40.symm)
    clear ez_40
    subst hq_41
    refine lv_aload_n hx hb dL_law_1338 rfl (lv_at hl 4 rfl) ?_
    refine lv_iload hx hb dL_law_1339 (lv_at hl 0 rfl) ?_
    refine lv_iconst (v := 4) hx hb dL_law_1341 (by decide) ?_
    refine lv_iadd hx hb dL_law_1342 ?_
    refine lv_topi (fun z_42 ez_42 => ?_)
    have kz_42 : z_42.toInt = vi.toInt + 4 := ti_add ez_42 rfl (by decide) (by omega) (by omega)
    clear ez_42
    refine va_sld hx hb hXs hbl hbA hS (vp_in_iff.mpr (by omega)) dL_law_1343 ?_
    refine lv_topi (fun z_43 ez_43 => ?_)
    have hq_44 : z_8 = z_43 := ez_8.trans ((congrArg (fun q : Int32 => xs q.toNatClampNeg) (Int32.toInt_inj.mp (by omega))).trans ez_43.symm)
    clear ez_43
    subst hq_44
    refine lv_if_eq (tgt := 1351) hx hb dL_law_1344 (by decide) (fun c_45 => False.elim (by have := il_eq c_45; have := (by decide : (0 : Int32).toInt = 0); omega)) (fun c_45 => ?_)
    have kc_45 := il_ne c_45
    have := (by decide : (0 : Int32).toInt = 0)
    refine lv_iconst (v := 1) hx hb dL_law_1347 (by decide) ?_
    refine lv_goto (tgt := 1352) hx hb dL_law_1348 (by decide) ?_
    refine lv_aload_n hx hb dL_law_1352 rfl (lv_at hl 4 rfl) ?_
    refine lv_iload hx hb dL_law_1353 (lv_at hl 0 rfl) ?_
    refine lv_iconst (v := 5) hx hb dL_law_1355 (by decide) ?_
    refine lv_iadd hx hb dL_law_1356 ?_
    refine lv_topi (fun z_46 ez_46 => ?_)
    have kz_46 : z_46.toInt = vi.toInt + 5 := ti_add ez_46 rfl (by decide) (by omega) (by omega)
    clear ez_46
    refine va_sld hx hb hXs hbl hbA hS (vp_in_iff.mpr (by omega)) dL_law_1357 ?_
    refine lv_topi (fun z_47 ez_47 => ?_)
    have hq_48 : z_31 = z_47 := ez_31.trans ((congrArg (fun q : Int32 => xs q.toNatClampNeg) (Int32.toInt_inj.mp (by omega))).trans ez_47.symm)
    clear ez_47
    subst hq_48
    refine ms_27 hx hb hml hown hT hA hAM (by omega) (by omega) hl (by decide) hM hS (fun r_49 H_49 lo_49 hM hfr hz hS => ?_)
    have hX := hX.keep (fun q hq h => hfr q hq (fun z => hd1 q h z))
    have hO := hO.keep (fun q hq h => hfr q hq (fun z => hd3 q z h))
    clear hfr hz
    refine lv_pop hx hb dL_law_1361 rfl ?_
    refine lv_goto (tgt := 1453) hx hb dL_law_1362 (by decide) ?_
    refine W.widen (k := kc + 1) (n := ks + 6) (by omega) (by omega) ?_
    exact kk H_49 lo_49 _ rr_bytes rr_fault rr_place f_rr_tape dX cn_hour ci_hour xx_imageKept rd_count rd_knownFirst mm_taped mm_lastFault mm_lastPlace f_mm_tape dM mm_next mm_imageNext mm_hasImage mm_readings mm_knownBy hbt hta hfa hpl hdd hho hih him hrc hrk hX hM hO hS (lv_sub hl [0, 1, 2, 3, 4] rfl)
set_option maxHeartbeats 4000000 in
set_option maxRecDepth 100000 in
theorem law_op_28 {p : Program} {l : Launch} {e : Env} {s : State} {m : MethodId} {below : List Frame} {meth : Method} {c : Code} {dC : Nat → ClassId} {dI : Nat → Nat → Nat} {b : Nat} {L : Nat} {xs : Nat → Int32} {A AX AM AO : Nat → Prop} {Q : State → Prop} (hx : p.tables.exec = Jvm.exec) (hb : c.code = cL_law) (hml : c.maxLocals = 7) (hown : s.vm.findClass RL = some m.cls) (hT : ∀ w ∈ pw_T, w.before #[Value.ref b] s = true) (hA : ∀ q, s.heap.size ≤ q → A q) (hAX : ∀ q, AX q → A q) (hAM : ∀ q, AM q → A q) (hAO : ∀ q, AO q → A q) (hd1 : ∀ q, AX q → ¬ AM q) (hd2 : ∀ q, AX q → ¬ AO q) (hd3 : ∀ q, AM q → ¬ AO q) (hXs : va_X b L xs s s.heap) (hbl : b < s.heap.size) (hbA : ¬ A b) (hL : L ≤ 3584) {kc ks : Nat} (hkc : kc + 4 ≤ 601024) (hks : ks + 24 ≤ 7293034) {vi : Int32} {xx mm oo : Nat} {rr_bytes : Int32} {rr_fault : Int32} {rr_place : Int32} {f_rr_tape : Nat → Int32} {dX : DD} {cn_hour : Int32} {ci_hour : Int32} {xx_imageKept : Int32} {rd_count : Int32} {rd_knownFirst : Int32} {mm_taped : Int32} {mm_lastFault : Int32} {mm_lastPlace : Int32} {f_mm_tape : Nat → Int32} {dM : DD} {mm_next : Int32} {mm_imageNext : Int32} {mm_hasImage : Int32} {mm_readings : Int32} {mm_knownBy : Int32} (hv0 : 0 ≤ vi.toInt) (hv1 : vi.toInt + 7 ≤ (L : Int)) (hbt : rr_bytes.toInt = mm_taped.toInt) (hta : BTt f_rr_tape f_mm_tape rr_bytes.toInt) (hfa : rr_fault = mm_lastFault) (hpl : rr_place = mm_lastPlace) (hdd : dX = dM) (hho : cn_hour.toInt = mm_next.toInt) (hih : ci_hour.toInt = mm_imageNext.toInt) (him : xx_imageKept.toInt = mm_hasImage.toInt) (hrc : rd_count.toInt = mm_readings.toInt) (hrk : rd_knownFirst.toInt = mm_knownBy.toInt) {H : Heap} {locs : List Loc} {ls : Array Slot} (hX : XW dC dI AX s H xx rr_bytes rr_fault rr_place f_rr_tape dX cn_hour ci_hour xx_imageKept rd_count rd_knownFirst) (hM : MW dC dI AM s H mm mm_taped mm_lastFault mm_lastPlace f_mm_tape dM mm_next mm_imageNext mm_hasImage mm_readings mm_knownBy) (hO : OW dC dI AO s H oo) (hS : va_S A s.heap H locs) (hl : lv_has ls 7 [(4, .int vi), (3, .ref oo), (2, .ref mm), (1, .ref xx), (0, .ref b)]) (kk : ∀ (H1 : Heap) (locs1 : List Loc) (ls1 : Array Slot) (n_rr_bytes : Int32) (n_rr_fault : Int32) (n_rr_place : Int32) (n_f_rr_tape : Nat → Int32) (n_dX : DD) (n_cn_hour : Int32) (n_ci_hour : Int32) (n_xx_imageKept : Int32) (n_rd_count : Int32) (n_rd_knownFirst : Int32) (n_mm_taped : Int32) (n_mm_lastFault : Int32) (n_mm_lastPlace : Int32) (n_f_mm_tape : Nat → Int32) (n_dM : DD) (n_mm_next : Int32) (n_mm_imageNext : Int32) (n_mm_hasImage : Int32) (n_mm_readings : Int32) (n_mm_knownBy : Int32), n_rr_bytes.toInt = n_mm_taped.toInt → BTt n_f_rr_tape n_f_mm_tape n_rr_bytes.toInt → n_rr_fault = n_mm_lastFault → n_rr_place = n_mm_lastPlace → n_dX = n_dM → n_cn_hour.toInt = n_mm_next.toInt → n_ci_hour.toInt = n_mm_imageNext.toInt → n_xx_imageKept.toInt = n_mm_hasImage.toInt → n_rd_count.toInt = n_mm_readings.toInt → n_rd_knownFirst.toInt = n_mm_knownBy.toInt → XW dC dI AX s H1 xx n_rr_bytes n_rr_fault n_rr_place n_f_rr_tape n_dX n_cn_hour n_ci_hour n_xx_imageKept n_rd_count n_rd_knownFirst → MW dC dI AM s H1 mm n_mm_taped n_mm_lastFault n_mm_lastPlace n_f_mm_tape n_dM n_mm_next n_mm_imageNext n_mm_hasImage n_mm_readings n_mm_knownBy → OW dC dI AO s H1 oo → va_S A s.heap H1 locs1 → lv_has ls1 7 [(4, .int vi), (3, .ref oo), (2, .ref mm), (1, .ref xx), (0, .ref b)] → W p l e room_1 s m #[Value.ref b] below meth c H1 locs1 (kc + 1) (ks + 6) Q (F0 m 1453 ls1 [])) : W p l e room_1 s m #[Value.ref b] below meth c H locs kc ks Q (F0 m 1365 ls []) := by
  refine lv_aload_n hx hb dL_law_1365 rfl (lv_at hl 3 rfl) ?_
  refine lv_aload_n hx hb dL_law_1366 rfl (lv_at hl 4 rfl) ?_
  refine lv_iload hx hb dL_law_1367 (lv_at hl 0 rfl) ?_
  refine lv_iconst (v := 1) hx hb dL_law_1369 (by decide) ?_
  refine lv_iadd hx hb dL_law_1370 ?_
  refine lv_topi (fun z_1 ez_1 => ?_)
  have kz_1 : z_1.toInt = vi.toInt + 1 := ti_add ez_1 rfl (by decide) (by omega) (by omega)
  clear ez_1
  refine va_sld hx hb hXs hbl hbA hS (vp_in_iff.mpr (by omega)) dL_law_1371 ?_
  refine lv_topi (fun z_2 ez_2 => ?_)
  refine lv_aload_n hx hb dL_law_1372 rfl (lv_at hl 4 rfl) ?_
  refine lv_iload hx hb dL_law_1373 (lv_at hl 0 rfl) ?_
  refine lv_iconst (v := 2) hx hb dL_law_1375 (by decide) ?_
  refine lv_iadd hx hb dL_law_1376 ?_
  refine lv_topi (fun z_3 ez_3 => ?_)
  have kz_3 : z_3.toInt = vi.toInt + 2 := ti_add ez_3 rfl (by decide) (by omega) (by omega)
  clear ez_3
  refine va_sld hx hb hXs hbl hbA hS (vp_in_iff.mpr (by omega)) dL_law_1377 ?_
  refine lv_topi (fun z_4 ez_4 => ?_)
  refine xs_28 hx hb hml hown hT hA hAX (by omega) (by omega) hl hX hS (fun r_5 H_5 lo_5 hX hfr hz hS => ?_)
  have hM := hM.keep (fun q hq h => hfr q hq (fun z => hd1 q z h))
  have hO := hO.keep (fun q hq h => hfr q hq (fun z => hd2 q z h))
  clear hfr hz
  refine lv_pop hx hb dL_law_1381 rfl ?_
  refine lv_aload_n hx hb dL_law_1382 rfl (lv_at hl 2 rfl) ?_
  refine lv_aload_n hx hb dL_law_1383 rfl (lv_at hl 4 rfl) ?_
  refine lv_iload hx hb dL_law_1384 (lv_at hl 0 rfl) ?_
  refine lv_iconst (v := 1) hx hb dL_law_1386 (by decide) ?_
  refine lv_iadd hx hb dL_law_1387 ?_
  refine lv_topi (fun z_6 ez_6 => ?_)
  have kz_6 : z_6.toInt = vi.toInt + 1 := ti_add ez_6 rfl (by decide) (by omega) (by omega)
  clear ez_6
  refine va_sld hx hb hXs hbl hbA hS (vp_in_iff.mpr (by omega)) dL_law_1388 ?_
  refine lv_topi (fun z_7 ez_7 => ?_)
  have hq_8 : z_2 = z_7 := ez_2.trans ((congrArg (fun q : Int32 => xs q.toNatClampNeg) (Int32.toInt_inj.mp (by omega))).trans ez_7.symm)
  clear ez_7
  subst hq_8
  refine lv_aload_n hx hb dL_law_1389 rfl (lv_at hl 4 rfl) ?_
  refine lv_iload hx hb dL_law_1390 (lv_at hl 0 rfl) ?_
  refine lv_iconst (v := 2) hx hb dL_law_1392 (by decide) ?_
  refine lv_iadd hx hb dL_law_1393 ?_
  refine lv_topi (fun z_9 ez_9 => ?_)
  have kz_9 : z_9.toInt = vi.toInt + 2 := ti_add ez_9 rfl (by decide) (by omega) (by omega)
  clear ez_9
  refine va_sld hx hb hXs hbl hbA hS (vp_in_iff.mpr (by omega)) dL_law_1394 ?_
  refine lv_topi (fun z_10 ez_10 => ?_)
  have hq_11 : z_4 = z_10 := ez_4.trans ((congrArg (fun q : Int32 => xs q.toNatClampNeg) (Int32.toInt_inj.mp (by omega))).trans ez_10.symm)
  clear ez_10
  subst hq_11
  refine ms_28 hx hb hml hown hT hA hAM (by omega) (by omega) hl hM hS (fun r_12 H_12 lo_12 hM hfr hz hS => ?_)
  have hX := hX.keep (fun q hq h => hfr q hq (fun z => hd1 q h z))
  have hO := hO.keep (fun q hq h => hfr q hq (fun z => hd3 q z h))
  clear hfr hz
  refine lv_pop hx hb dL_law_1398 rfl ?_
  refine lv_goto (tgt := 1453) hx hb dL_law_1399 (by decide) ?_
  refine W.widen (k := kc + 1) (n := ks + 6) (by omega) (by omega) ?_
  exact kk H_12 lo_12 _ rr_bytes rr_fault rr_place f_rr_tape dX cn_hour ci_hour xx_imageKept rd_count rd_knownFirst mm_taped mm_lastFault mm_lastPlace f_mm_tape dM mm_next mm_imageNext mm_hasImage mm_readings mm_knownBy hbt hta hfa hpl hdd hho hih him hrc hrk hX hM hO hS (lv_sub hl [0, 1, 2, 3, 4] rfl)
set_option maxHeartbeats 4000000 in
set_option maxRecDepth 100000 in
theorem law_op_29 {p : Program} {l : Launch} {e : Env} {s : State} {m : MethodId} {below : List Frame} {meth : Method} {c : Code} {dC : Nat → ClassId} {dI : Nat → Nat → Nat} {b : Nat} {L : Nat} {xs : Nat → Int32} {A AX AM AO : Nat → Prop} {Q : State → Prop} (hx : p.tables.exec = Jvm.exec) (hb : c.code = cL_law) (hml : c.maxLocals = 7) (hown : s.vm.findClass RL = some m.cls) (hT : ∀ w ∈ pw_T, w.before #[Value.ref b] s = true) (hA : ∀ q, s.heap.size ≤ q → A q) (hAX : ∀ q, AX q → A q) (hAM : ∀ q, AM q → A q) (hAO : ∀ q, AO q → A q) (hd1 : ∀ q, AX q → ¬ AM q) (hd2 : ∀ q, AX q → ¬ AO q) (hd3 : ∀ q, AM q → ¬ AO q) (hXs : va_X b L xs s s.heap) (hbl : b < s.heap.size) (hbA : ¬ A b) (hL : L ≤ 3584) {kc ks : Nat} (hkc : kc + 4 ≤ 601024) (hks : ks + 24 ≤ 7293034) {vi : Int32} {xx mm oo : Nat} {rr_bytes : Int32} {rr_fault : Int32} {rr_place : Int32} {f_rr_tape : Nat → Int32} {dX : DD} {cn_hour : Int32} {ci_hour : Int32} {xx_imageKept : Int32} {rd_count : Int32} {rd_knownFirst : Int32} {mm_taped : Int32} {mm_lastFault : Int32} {mm_lastPlace : Int32} {f_mm_tape : Nat → Int32} {dM : DD} {mm_next : Int32} {mm_imageNext : Int32} {mm_hasImage : Int32} {mm_readings : Int32} {mm_knownBy : Int32} (hv0 : 0 ≤ vi.toInt) (hv1 : vi.toInt + 7 ≤ (L : Int)) (hbt : rr_bytes.toInt = mm_taped.toInt) (hta : BTt f_rr_tape f_mm_tape rr_bytes.toInt) (hfa : rr_fault = mm_lastFault) (hpl : rr_place = mm_lastPlace) (hdd : dX = dM) (hho : cn_hour.toInt = mm_next.toInt) (hih : ci_hour.toInt = mm_imageNext.toInt) (him : xx_imageKept.toInt = mm_hasImage.toInt) (hrc : rd_count.toInt = mm_readings.toInt) (hrk : rd_knownFirst.toInt = mm_knownBy.toInt) {H : Heap} {locs : List Loc} {ls : Array Slot} (hX : XW dC dI AX s H xx rr_bytes rr_fault rr_place f_rr_tape dX cn_hour ci_hour xx_imageKept rd_count rd_knownFirst) (hM : MW dC dI AM s H mm mm_taped mm_lastFault mm_lastPlace f_mm_tape dM mm_next mm_imageNext mm_hasImage mm_readings mm_knownBy) (hO : OW dC dI AO s H oo) (hS : va_S A s.heap H locs) (hl : lv_has ls 7 [(4, .int vi), (3, .ref oo), (2, .ref mm), (1, .ref xx), (0, .ref b)]) (kk : ∀ (H1 : Heap) (locs1 : List Loc) (ls1 : Array Slot) (n_rr_bytes : Int32) (n_rr_fault : Int32) (n_rr_place : Int32) (n_f_rr_tape : Nat → Int32) (n_dX : DD) (n_cn_hour : Int32) (n_ci_hour : Int32) (n_xx_imageKept : Int32) (n_rd_count : Int32) (n_rd_knownFirst : Int32) (n_mm_taped : Int32) (n_mm_lastFault : Int32) (n_mm_lastPlace : Int32) (n_f_mm_tape : Nat → Int32) (n_dM : DD) (n_mm_next : Int32) (n_mm_imageNext : Int32) (n_mm_hasImage : Int32) (n_mm_readings : Int32) (n_mm_knownBy : Int32), n_rr_bytes.toInt = n_mm_taped.toInt → BTt n_f_rr_tape n_f_mm_tape n_rr_bytes.toInt → n_rr_fault = n_mm_lastFault → n_rr_place = n_mm_lastPlace → n_dX = n_dM → n_cn_hour.toInt = n_mm_next.toInt → n_ci_hour.toInt = n_mm_imageNext.toInt → n_xx_imageKept.toInt = n_mm_hasImage.toInt → n_rd_count.toInt = n_mm_readings.toInt → n_rd_knownFirst.toInt = n_mm_knownBy.toInt → XW dC dI AX s H1 xx n_rr_bytes n_rr_fault n_rr_place n_f_rr_tape n_dX n_cn_hour n_ci_hour n_xx_imageKept n_rd_count n_rd_knownFirst → MW dC dI AM s H1 mm n_mm_taped n_mm_lastFault n_mm_lastPlace n_f_mm_tape n_dM n_mm_next n_mm_imageNext n_mm_hasImage n_mm_readings n_mm_knownBy → OW dC dI AO s H1 oo → va_S A s.heap H1 locs1 → lv_has ls1 7 [(4, .int vi), (3, .ref oo), (2, .ref mm), (1, .ref xx), (0, .ref b)] → W p l e room_1 s m #[Value.ref b] below meth c H1 locs1 (kc + 1) (ks + 6) Q (F0 m 1453 ls1 [])) : W p l e room_1 s m #[Value.ref b] below meth c H locs kc ks Q (F0 m 1402 ls []) := by
  refine lv_aload_n hx hb dL_law_1402 rfl (lv_at hl 3 rfl) ?_
  refine xs_29 hx hb hml hown hT hA hAX (by omega) (by omega) hl hX hS (fun r_1 H_1 lo_1 b1_ci_hour b1_xx_imageKept hX ho1_0 hfr hz hS => ?_)
  have hM := hM.keep (fun q hq h => hfr q hq (fun z => hd1 q z h))
  have hO := hO.keep (fun q hq h => hfr q hq (fun z => hd2 q z h))
  clear hfr hz
  refine lv_pop hx hb dL_law_1406 rfl ?_
  refine lv_aload_n hx hb dL_law_1407 rfl (lv_at hl 2 rfl) ?_
  refine ms_29 hx hb hml hown hT hA hAM (by omega) (by omega) hl hM hS (fun r_2 H_2 lo_2 b2_mm_imageNext b2_mm_hasImage hM ho2_0 hfr hz hS => ?_)
  have hX := hX.keep (fun q hq h => hfr q hq (fun z => hd1 q h z))
  have hO := hO.keep (fun q hq h => hfr q hq (fun z => hd3 q z h))
  clear hfr hz
  have hag1 : r_1.toInt = r_2.toInt := by omega
  refine lv_pop hx hb dL_law_1411 rfl ?_
  refine lv_goto (tgt := 1453) hx hb dL_law_1412 (by decide) ?_
  refine W.widen (k := kc + 1) (n := ks + 6) (by omega) (by omega) ?_
  exact kk H_2 lo_2 _ rr_bytes rr_fault rr_place f_rr_tape dX cn_hour b1_ci_hour b1_xx_imageKept rd_count rd_knownFirst mm_taped mm_lastFault mm_lastPlace f_mm_tape dM mm_next b2_mm_imageNext b2_mm_hasImage mm_readings mm_knownBy hbt hta hfa hpl hdd hho (by omega) (by omega) hrc hrk hX hM hO hS (lv_sub hl [0, 1, 2, 3, 4] rfl)
set_option maxHeartbeats 4000000 in
set_option maxRecDepth 100000 in
theorem law_op_30 {p : Program} {l : Launch} {e : Env} {s : State} {m : MethodId} {below : List Frame} {meth : Method} {c : Code} {dC : Nat → ClassId} {dI : Nat → Nat → Nat} {b : Nat} {L : Nat} {xs : Nat → Int32} {A AX AM AO : Nat → Prop} {Q : State → Prop} (hx : p.tables.exec = Jvm.exec) (hb : c.code = cL_law) (hml : c.maxLocals = 7) (hown : s.vm.findClass RL = some m.cls) (hT : ∀ w ∈ pw_T, w.before #[Value.ref b] s = true) (hA : ∀ q, s.heap.size ≤ q → A q) (hAX : ∀ q, AX q → A q) (hAM : ∀ q, AM q → A q) (hAO : ∀ q, AO q → A q) (hd1 : ∀ q, AX q → ¬ AM q) (hd2 : ∀ q, AX q → ¬ AO q) (hd3 : ∀ q, AM q → ¬ AO q) (hXs : va_X b L xs s s.heap) (hbl : b < s.heap.size) (hbA : ¬ A b) (hL : L ≤ 3584) {kc ks : Nat} (hkc : kc + 4 ≤ 601024) (hks : ks + 24 ≤ 7293034) {vi : Int32} {xx mm oo : Nat} {rr_bytes : Int32} {rr_fault : Int32} {rr_place : Int32} {f_rr_tape : Nat → Int32} {dX : DD} {cn_hour : Int32} {ci_hour : Int32} {xx_imageKept : Int32} {rd_count : Int32} {rd_knownFirst : Int32} {mm_taped : Int32} {mm_lastFault : Int32} {mm_lastPlace : Int32} {f_mm_tape : Nat → Int32} {dM : DD} {mm_next : Int32} {mm_imageNext : Int32} {mm_hasImage : Int32} {mm_readings : Int32} {mm_knownBy : Int32} (hv0 : 0 ≤ vi.toInt) (hv1 : vi.toInt + 7 ≤ (L : Int)) (hbt : rr_bytes.toInt = mm_taped.toInt) (hta : BTt f_rr_tape f_mm_tape rr_bytes.toInt) (hfa : rr_fault = mm_lastFault) (hpl : rr_place = mm_lastPlace) (hdd : dX = dM) (hho : cn_hour.toInt = mm_next.toInt) (hih : ci_hour.toInt = mm_imageNext.toInt) (him : xx_imageKept.toInt = mm_hasImage.toInt) (hrc : rd_count.toInt = mm_readings.toInt) (hrk : rd_knownFirst.toInt = mm_knownBy.toInt) {H : Heap} {locs : List Loc} {ls : Array Slot} (hX : XW dC dI AX s H xx rr_bytes rr_fault rr_place f_rr_tape dX cn_hour ci_hour xx_imageKept rd_count rd_knownFirst) (hM : MW dC dI AM s H mm mm_taped mm_lastFault mm_lastPlace f_mm_tape dM mm_next mm_imageNext mm_hasImage mm_readings mm_knownBy) (hO : OW dC dI AO s H oo) (hS : va_S A s.heap H locs) (hl : lv_has ls 7 [(4, .int vi), (3, .ref oo), (2, .ref mm), (1, .ref xx), (0, .ref b)]) (kk : ∀ (H1 : Heap) (locs1 : List Loc) (ls1 : Array Slot) (n_rr_bytes : Int32) (n_rr_fault : Int32) (n_rr_place : Int32) (n_f_rr_tape : Nat → Int32) (n_dX : DD) (n_cn_hour : Int32) (n_ci_hour : Int32) (n_xx_imageKept : Int32) (n_rd_count : Int32) (n_rd_knownFirst : Int32) (n_mm_taped : Int32) (n_mm_lastFault : Int32) (n_mm_lastPlace : Int32) (n_f_mm_tape : Nat → Int32) (n_dM : DD) (n_mm_next : Int32) (n_mm_imageNext : Int32) (n_mm_hasImage : Int32) (n_mm_readings : Int32) (n_mm_knownBy : Int32), n_rr_bytes.toInt = n_mm_taped.toInt → BTt n_f_rr_tape n_f_mm_tape n_rr_bytes.toInt → n_rr_fault = n_mm_lastFault → n_rr_place = n_mm_lastPlace → n_dX = n_dM → n_cn_hour.toInt = n_mm_next.toInt → n_ci_hour.toInt = n_mm_imageNext.toInt → n_xx_imageKept.toInt = n_mm_hasImage.toInt → n_rd_count.toInt = n_mm_readings.toInt → n_rd_knownFirst.toInt = n_mm_knownBy.toInt → XW dC dI AX s H1 xx n_rr_bytes n_rr_fault n_rr_place n_f_rr_tape n_dX n_cn_hour n_ci_hour n_xx_imageKept n_rd_count n_rd_knownFirst → MW dC dI AM s H1 mm n_mm_taped n_mm_lastFault n_mm_lastPlace n_f_mm_tape n_dM n_mm_next n_mm_imageNext n_mm_hasImage n_mm_readings n_mm_knownBy → OW dC dI AO s H1 oo → va_S A s.heap H1 locs1 → lv_has ls1 7 [(4, .int vi), (3, .ref oo), (2, .ref mm), (1, .ref xx), (0, .ref b)] → W p l e room_1 s m #[Value.ref b] below meth c H1 locs1 (kc + 1) (ks + 6) Q (F0 m 1453 ls1 [])) : W p l e room_1 s m #[Value.ref b] below meth c H locs kc ks Q (F0 m 1415 ls []) := by
  refine lv_aload_n hx hb dL_law_1415 rfl (lv_at hl 3 rfl) ?_
  refine xs_30 hx hb hml hown hT hA hAX (by omega) (by omega) hl hX hS (fun r_1 H_1 lo_1 b1_cn_hour hX ho1_0 hfr hz hS => ?_)
  have hM := hM.keep (fun q hq h => hfr q hq (fun z => hd1 q z h))
  have hO := hO.keep (fun q hq h => hfr q hq (fun z => hd2 q z h))
  clear hfr hz
  refine lv_aload_n hx hb dL_law_1419 rfl (lv_at hl 2 rfl) ?_
  refine ms_30 hx hb hml hown hT hA hAM (by omega) (by omega) hl hM hS (fun r_2 H_2 lo_2 b2_mm_next hM ho2_0 hfr hz hS => ?_)
  have hX := hX.keep (fun q hq h => hfr q hq (fun z => hd1 q h z))
  have hO := hO.keep (fun q hq h => hfr q hq (fun z => hd3 q z h))
  clear hfr hz
  have hag1 : r_1.toInt = r_2.toInt := by omega
  refine lv_icmp_eq (tgt := 1453) hx hb dL_law_1423 (by decide) (fun c_3 => ?_) (fun c_3 => False.elim (by have := il_ne c_3; omega))
  have kc_3 := il_eq c_3
  have := Int32.toInt_lt r_1; have := Int32.le_toInt r_1
  have := Int32.toInt_lt r_2; have := Int32.le_toInt r_2
  refine W.widen (k := kc + 1) (n := ks + 6) (by omega) (by omega) ?_
  exact kk H_2 lo_2 _ rr_bytes rr_fault rr_place f_rr_tape dX b1_cn_hour ci_hour xx_imageKept rd_count rd_knownFirst mm_taped mm_lastFault mm_lastPlace f_mm_tape dM b2_mm_next mm_imageNext mm_hasImage mm_readings mm_knownBy hbt hta hfa hpl hdd (by omega) hih him hrc hrk hX hM hO hS (lv_sub hl [0, 1, 2, 3, 4] rfl)
set_option maxHeartbeats 4000000 in
set_option maxRecDepth 100000 in
theorem law_op_31 {p : Program} {l : Launch} {e : Env} {s : State} {m : MethodId} {below : List Frame} {meth : Method} {c : Code} {dC : Nat → ClassId} {dI : Nat → Nat → Nat} {b : Nat} {L : Nat} {xs : Nat → Int32} {A AX AM AO : Nat → Prop} {Q : State → Prop} (hx : p.tables.exec = Jvm.exec) (hb : c.code = cL_law) (hml : c.maxLocals = 7) (hown : s.vm.findClass RL = some m.cls) (hT : ∀ w ∈ pw_T, w.before #[Value.ref b] s = true) (hA : ∀ q, s.heap.size ≤ q → A q) (hAX : ∀ q, AX q → A q) (hAM : ∀ q, AM q → A q) (hAO : ∀ q, AO q → A q) (hd1 : ∀ q, AX q → ¬ AM q) (hd2 : ∀ q, AX q → ¬ AO q) (hd3 : ∀ q, AM q → ¬ AO q) (hXs : va_X b L xs s s.heap) (hbl : b < s.heap.size) (hbA : ¬ A b) (hL : L ≤ 3584) {kc ks : Nat} (hkc : kc + 4 ≤ 601024) (hks : ks + 24 ≤ 7293034) {vi : Int32} {xx mm oo : Nat} {rr_bytes : Int32} {rr_fault : Int32} {rr_place : Int32} {f_rr_tape : Nat → Int32} {dX : DD} {cn_hour : Int32} {ci_hour : Int32} {xx_imageKept : Int32} {rd_count : Int32} {rd_knownFirst : Int32} {mm_taped : Int32} {mm_lastFault : Int32} {mm_lastPlace : Int32} {f_mm_tape : Nat → Int32} {dM : DD} {mm_next : Int32} {mm_imageNext : Int32} {mm_hasImage : Int32} {mm_readings : Int32} {mm_knownBy : Int32} (hv0 : 0 ≤ vi.toInt) (hv1 : vi.toInt + 7 ≤ (L : Int)) (hbt : rr_bytes.toInt = mm_taped.toInt) (hta : BTt f_rr_tape f_mm_tape rr_bytes.toInt) (hfa : rr_fault = mm_lastFault) (hpl : rr_place = mm_lastPlace) (hdd : dX = dM) (hho : cn_hour.toInt = mm_next.toInt) (hih : ci_hour.toInt = mm_imageNext.toInt) (him : xx_imageKept.toInt = mm_hasImage.toInt) (hrc : rd_count.toInt = mm_readings.toInt) (hrk : rd_knownFirst.toInt = mm_knownBy.toInt) {H : Heap} {locs : List Loc} {ls : Array Slot} (hX : XW dC dI AX s H xx rr_bytes rr_fault rr_place f_rr_tape dX cn_hour ci_hour xx_imageKept rd_count rd_knownFirst) (hM : MW dC dI AM s H mm mm_taped mm_lastFault mm_lastPlace f_mm_tape dM mm_next mm_imageNext mm_hasImage mm_readings mm_knownBy) (hO : OW dC dI AO s H oo) (hS : va_S A s.heap H locs) (hl : lv_has ls 7 [(4, .int vi), (3, .ref oo), (2, .ref mm), (1, .ref xx), (0, .ref b)]) (kk : ∀ (H1 : Heap) (locs1 : List Loc) (ls1 : Array Slot) (n_rr_bytes : Int32) (n_rr_fault : Int32) (n_rr_place : Int32) (n_f_rr_tape : Nat → Int32) (n_dX : DD) (n_cn_hour : Int32) (n_ci_hour : Int32) (n_xx_imageKept : Int32) (n_rd_count : Int32) (n_rd_knownFirst : Int32) (n_mm_taped : Int32) (n_mm_lastFault : Int32) (n_mm_lastPlace : Int32) (n_f_mm_tape : Nat → Int32) (n_dM : DD) (n_mm_next : Int32) (n_mm_imageNext : Int32) (n_mm_hasImage : Int32) (n_mm_readings : Int32) (n_mm_knownBy : Int32), n_rr_bytes.toInt = n_mm_taped.toInt → BTt n_f_rr_tape n_f_mm_tape n_rr_bytes.toInt → n_rr_fault = n_mm_lastFault → n_rr_place = n_mm_lastPlace → n_dX = n_dM → n_cn_hour.toInt = n_mm_next.toInt → n_ci_hour.toInt = n_mm_imageNext.toInt → n_xx_imageKept.toInt = n_mm_hasImage.toInt → n_rd_count.toInt = n_mm_readings.toInt → n_rd_knownFirst.toInt = n_mm_knownBy.toInt → XW dC dI AX s H1 xx n_rr_bytes n_rr_fault n_rr_place n_f_rr_tape n_dX n_cn_hour n_ci_hour n_xx_imageKept n_rd_count n_rd_knownFirst → MW dC dI AM s H1 mm n_mm_taped n_mm_lastFault n_mm_lastPlace n_f_mm_tape n_dM n_mm_next n_mm_imageNext n_mm_hasImage n_mm_readings n_mm_knownBy → OW dC dI AO s H1 oo → va_S A s.heap H1 locs1 → lv_has ls1 7 [(4, .int vi), (3, .ref oo), (2, .ref mm), (1, .ref xx), (0, .ref b)] → W p l e room_1 s m #[Value.ref b] below meth c H1 locs1 (kc + 1) (ks + 6) Q (F0 m 1453 ls1 [])) : W p l e room_1 s m #[Value.ref b] below meth c H locs kc ks Q (F0 m 1428 ls []) := by
  refine lv_aload_n hx hb dL_law_1428 rfl (lv_at hl 3 rfl) ?_
  refine lv_aload_n hx hb dL_law_1429 rfl (lv_at hl 4 rfl) ?_
  refine lv_iload hx hb dL_law_1430 (lv_at hl 0 rfl) ?_
  refine lv_iconst (v := 1) hx hb dL_law_1432 (by decide) ?_
  refine lv_iadd hx hb dL_law_1433 ?_
  refine lv_topi (fun z_1 ez_1 => ?_)
  have kz_1 : z_1.toInt = vi.toInt + 1 := ti_add ez_1 rfl (by decide) (by omega) (by omega)
  clear ez_1
  refine va_sld hx hb hXs hbl hbA hS (vp_in_iff.mpr (by omega)) dL_law_1434 ?_
  refine lv_topi (fun z_2 ez_2 => ?_)
  refine xs_31 hx hb hml hown hT hA hAX (by omega) (by omega) hl hX hS (fun r_3 H_3 lo_3 hX hfr hz hS => ?_)
  have hM := hM.keep (fun q hq h => hfr q hq (fun z => hd1 q z h))
  have hO := hO.keep (fun q hq h => hfr q hq (fun z => hd2 q z h))
  clear hfr hz
  refine lv_pop hx hb dL_law_1438 rfl ?_
  refine lv_aload_n hx hb dL_law_1439 rfl (lv_at hl 2 rfl) ?_
  refine lv_aload_n hx hb dL_law_1440 rfl (lv_at hl 4 rfl) ?_
  refine lv_iload hx hb dL_law_1441 (lv_at hl 0 rfl) ?_
  refine lv_iconst (v := 1) hx hb dL_law_1443 (by decide) ?_
  refine lv_iadd hx hb dL_law_1444 ?_
  refine lv_topi (fun z_4 ez_4 => ?_)
  have kz_4 : z_4.toInt = vi.toInt + 1 := ti_add ez_4 rfl (by decide) (by omega) (by omega)
  clear ez_4
  refine va_sld hx hb hXs hbl hbA hS (vp_in_iff.mpr (by omega)) dL_law_1445 ?_
  refine lv_topi (fun z_5 ez_5 => ?_)
  have hq_6 : z_2 = z_5 := ez_2.trans ((congrArg (fun q : Int32 => xs q.toNatClampNeg) (Int32.toInt_inj.mp (by omega))).trans ez_5.symm)
  clear ez_5
  subst hq_6
  refine ms_31 hx hb hml hown hT hA hAM (by omega) (by omega) hl hM hS (fun r_7 H_7 lo_7 hM hfr hz hS => ?_)
  have hX := hX.keep (fun q hq h => hfr q hq (fun z => hd1 q h z))
  have hO := hO.keep (fun q hq h => hfr q hq (fun z => hd3 q z h))
  clear hfr hz
  refine lv_pop hx hb dL_law_1449 rfl ?_
  refine lv_goto (tgt := 1453) hx hb dL_law_1450 (by decide) ?_
  refine W.widen (k := kc + 1) (n := ks + 6) (by omega) (by omega) ?_
  exact kk H_7 lo_7 _ rr_bytes rr_fault rr_place f_rr_tape dX cn_hour ci_hour xx_imageKept rd_count rd_knownFirst mm_taped mm_lastFault mm_lastPlace f_mm_tape dM mm_next mm_imageNext mm_hasImage mm_readings mm_knownBy hbt hta hfa hpl hdd hho hih him hrc hrk hX hM hO hS (lv_sub hl [0, 1, 2, 3, 4] rfl)
