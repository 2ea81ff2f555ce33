theorem dL_law_1178 : decode cL_law 1178 = .ok (.aload_n 1, 1) := by decide +kernel
theorem dL_law_1179 : decode cL_law 1179 = .ok (.aload_n 0, 1) := by decide +kernel
theorem dL_law_1180 : decode cL_law 1180 = .ok (.iload 4, 2) := by decide +kernel
theorem dL_law_1182 : decode cL_law 1182 = .ok (.iconst 1, 1) := by decide +kernel
theorem dL_law_1183 : decode cL_law 1183 = .ok (.iadd, 1) := by decide +kernel
theorem dL_law_1184 : decode cL_law 1184 = .ok (.iaload, 1) := by decide +kernel
theorem dL_law_1188 : decode cL_law 1188 = .ok (.pop, 1) := by decide +kernel
theorem dL_law_1189 : decode cL_law 1189 = .ok (.aload_n 2, 1) := by decide +kernel
theorem dL_law_1190 : decode cL_law 1190 = .ok (.aload_n 0, 1) := by decide +kernel
theorem dL_law_1191 : decode cL_law 1191 = .ok (.iload 4, 2) := by decide +kernel
theorem dL_law_1193 : decode cL_law 1193 = .ok (.iconst 1, 1) := by decide +kernel
theorem dL_law_1194 : decode cL_law 1194 = .ok (.iadd, 1) := by decide +kernel
theorem dL_law_1195 : decode cL_law 1195 = .ok (.iaload, 1) := by decide +kernel
theorem dL_law_1199 : decode cL_law 1199 = .ok (.pop, 1) := by decide +kernel
theorem dL_law_1200 : decode cL_law 1200 = .ok (.goto 254, 3) := by decide +kernel
theorem dL_law_1203 : decode cL_law 1203 = .ok (.aload_n 1, 1) := by decide +kernel
theorem dL_law_1204 : decode cL_law 1204 = .ok (.aload_n 0, 1) := by decide +kernel
theorem dL_law_1205 : decode cL_law 1205 = .ok (.iload 4, 2) := by decide +kernel
theorem dL_law_1207 : decode cL_law 1207 = .ok (.iconst 1, 1) := by decide +kernel
theorem dL_law_1208 : decode cL_law 1208 = .ok (.iadd, 1) := by decide +kernel
theorem dL_law_1209 : decode cL_law 1209 = .ok (.iaload, 1) := by decide +kernel
theorem dL_law_1210 : decode cL_law 1210 = .ok (.aload_n 0, 1) := by decide +kernel
theorem dL_law_1211 : decode cL_law 1211 = .ok (.iload 4, 2) := by decide +kernel
theorem dL_law_1213 : decode cL_law 1213 = .ok (.iconst 2, 1) := by decide +kernel
theorem dL_law_1214 : decode cL_law 1214 = .ok (.iadd, 1) := by decide +kernel
theorem dL_law_1215 : decode cL_law 1215 = .ok (.iaload, 1) := by decide +kernel
theorem dL_law_1219 : decode cL_law 1219 = .ok (.pop, 1) := by decide +kernel
theorem dL_law_1220 : decode cL_law 1220 = .ok (.aload_n 2, 1) := by decide +kernel
theorem dL_law_1221 : decode cL_law 1221 = .ok (.aload_n 0, 1) := by decide +kernel
theorem dL_law_1222 : decode cL_law 1222 = .ok (.iload 4, 2) := by decide +kernel
theorem dL_law_1224 : decode cL_law 1224 = .ok (.iconst 1, 1) := by decide +kernel
theorem dL_law_1225 : decode cL_law 1225 = .ok (.iadd, 1) := by decide +kernel
theorem dL_law_1226 : decode cL_law 1226 = .ok (.iaload, 1) := by decide +kernel
theorem dL_law_1227 : decode cL_law 1227 = .ok (.aload_n 0, 1) := by decide +kernel
theorem dL_law_1228 : decode cL_law 1228 = .ok (.iload 4, 2) := by decide +kernel
theorem dL_law_1230 : decode cL_law 1230 = .ok (.iconst 2, 1) := by decide +kernel
theorem dL_law_1231 : decode cL_law 1231 = .ok (.iadd, 1) := by decide +kernel
theorem dL_law_1232 : decode cL_law 1232 = .ok (.iaload, 1) := by decide +kernel
theorem dL_law_1236 : decode cL_law 1236 = .ok (.pop, 1) := by decide +kernel
theorem dL_law_1237 : decode cL_law 1237 = .ok (.goto 217, 3) := by decide +kernel
theorem dL_law_1240 : decode cL_law 1240 = .ok (.aload_n 1, 1) := by decide +kernel
theorem dL_law_1241 : decode cL_law 1241 = .ok (.aload_n 0, 1) := by decide +kernel
theorem dL_law_1242 : decode cL_law 1242 = .ok (.iload 4, 2) := by decide +kernel
theorem dL_law_1244 : decode cL_law 1244 = .ok (.iconst 1, 1) := by decide +kernel
theorem dL_law_1245 : decode cL_law 1245 = .ok (.iadd, 1) := by decide +kernel
theorem dL_law_1246 : decode cL_law 1246 = .ok (.iaload, 1) := by decide +kernel
theorem dL_law_1247 : decode cL_law 1247 = .ok (.aload_n 0, 1) := by decide +kernel
theorem dL_law_1248 : decode cL_law 1248 = .ok (.iload 4, 2) := by decide +kernel
theorem dL_law_1250 : decode cL_law 1250 = .ok (.iconst 2, 1) := by decide +kernel
theorem dL_law_1251 : decode cL_law 1251 = .ok (.iadd, 1) := by decide +kernel
theorem dL_law_1252 : decode cL_law 1252 = .ok (.iaload, 1) := by decide +kernel
theorem dL_law_1256 : decode cL_law 1256 = .ok (.pop, 1) := by decide +kernel
theorem dL_law_1257 : decode cL_law 1257 = .ok (.aload_n 2, 1) := by decide +kernel
theorem dL_law_1258 : decode cL_law 1258 = .ok (.aload_n 0, 1) := by decide +kernel
theorem dL_law_1259 : decode cL_law 1259 = .ok (.iload 4, 2) := by decide +kernel
theorem dL_law_1261 : decode cL_law 1261 = .ok (.iconst 1, 1) := by decide +kernel
theorem dL_law_1262 : decode cL_law 1262 = .ok (.iadd, 1) := by decide +kernel
theorem dL_law_1263 : decode cL_law 1263 = .ok (.iaload, 1) := by decide +kernel
theorem dL_law_1264 : decode cL_law 1264 = .ok (.aload_n 0, 1) := by decide +kernel
theorem dL_law_1265 : decode cL_law 1265 = .ok (.iload 4, 2) := by decide +kernel
theorem dL_law_1267 : decode cL_law 1267 = .ok (.iconst 2, 1) := by decide +kernel
theorem dL_law_1268 : decode cL_law 1268 = .ok (.iadd, 1) := by decide +kernel
theorem dL_law_1269 : decode cL_law 1269 = .ok (.iaload, 1) := by decide +kernel
theorem dL_law_1273 : decode cL_law 1273 = .ok (.pop, 1) := by decide +kernel
theorem dL_law_1274 : decode cL_law 1274 = .ok (.goto 180, 3) := by decide +kernel
theorem dL_law_1277 : decode cL_law 1277 = .ok (.aload_n 1, 1) := by decide +kernel
theorem dL_law_1278 : decode cL_law 1278 = .ok (.aload_n 0, 1) := by decide +kernel
theorem dL_law_1279 : decode cL_law 1279 = .ok (.iload 4, 2) := by decide +kernel
theorem dL_law_1281 : decode cL_law 1281 = .ok (.iconst 1, 1) := by decide +kernel
theorem dL_law_1282 : decode cL_law 1282 = .ok (.iadd, 1) := by decide +kernel
theorem dL_law_1283 : decode cL_law 1283 = .ok (.iaload, 1) := by decide +kernel
theorem dL_law_1284 : decode cL_law 1284 = .ok (.aload_n 0, 1) := by decide +kernel
theorem dL_law_1285 : decode cL_law 1285 = .ok (.iload 4, 2) := by decide +kernel
theorem dL_law_1287 : decode cL_law 1287 = .ok (.iconst 2, 1) := by decide +kernel
theorem dL_law_1288 : decode cL_law 1288 = .ok (.iadd, 1) := by decide +kernel
theorem dL_law_1289 : decode cL_law 1289 = .ok (.iaload, 1) := by decide +kernel
theorem dL_law_1290 : decode cL_law 1290 = .ok (.aload_n 0, 1) := by decide +kernel
theorem dL_law_1291 : decode cL_law 1291 = .ok (.iload 4, 2) := by decide +kernel
theorem dL_law_1293 : decode cL_law 1293 = .ok (.iconst 3, 1) := by decide +kernel
theorem dL_law_1294 : decode cL_law 1294 = .ok (.iadd, 1) := by decide +kernel
theorem dL_law_1295 : decode cL_law 1295 = .ok (.iaload, 1) := by decide +kernel
theorem dL_law_1296 : decode cL_law 1296 = .ok (.aload_n 0, 1) := by decide +kernel
theorem dL_law_1297 : decode cL_law 1297 = .ok (.iload 4, 2) := by decide +kernel
theorem dL_law_1299 : decode cL_law 1299 = .ok (.iconst 4, 1) := by decide +kernel
theorem dL_law_1300 : decode cL_law 1300 = .ok (.iadd, 1) := by decide +kernel
theorem dL_law_1301 : decode cL_law 1301 = .ok (.iaload, 1) := by decide +kernel
theorem dL_law_1302 : decode cL_law 1302 = .ok (.ifCond .eq 7, 3) := by decide +kernel
theorem dL_law_1309 : decode cL_law 1309 = .ok (.iconst 0, 1) := by decide +kernel
theorem dL_law_1310 : decode cL_law 1310 = .ok (.aload_n 0, 1) := by decide +kernel
theorem dL_law_1311 : decode cL_law 1311 = .ok (.iload 4, 2) := by decide +kernel
theorem dL_law_1313 : decode cL_law 1313 = .ok (.iconst 5, 1) := by decide +kernel
theorem dL_law_1314 : decode cL_law 1314 = .ok (.iadd, 1) := by decide +kernel
theorem dL_law_1315 : decode cL_law 1315 = .ok (.iaload, 1) := by decide +kernel
theorem dL_law_1319 : decode cL_law 1319 = .ok (.pop, 1) := by decide +kernel
theorem dL_law_1320 : decode cL_law 1320 = .ok (.aload_n 2, 1) := by decide +kernel
theorem dL_law_1321 : decode cL_law 1321 = .ok (.aload_n 0, 1) := by decide +kernel
theorem dL_law_1322 : decode cL_law 1322 = .ok (.iload 4, 2) := by decide +kernel
theorem dL_law_1324 : decode cL_law 1324 = .ok (.iconst 1, 1) := by decide +kernel
theorem dL_law_1325 : decode cL_law 1325 = .ok (.iadd, 1) := by decide +kernel
theorem dL_law_1326 : decode cL_law 1326 = .ok (.iaload, 1) := by decide +kernel
theorem dL_law_1327 : decode cL_law 1327 = .ok (.aload_n 0, 1) := by decide +kernel
theorem dL_law_1328 : decode cL_law 1328 = .ok (.iload 4, 2) := by decide +kernel
theorem dL_law_1330 : decode cL_law 1330 = .ok (.iconst 2, 1) := by decide +kernel
theorem dL_law_1331 : decode cL_law 1331 = .ok (.iadd, 1) := by decide +kernel
theorem dL_law_1332 : decode cL_law 1332 = .ok (.iaload, 1) := by decide +kernel
theorem dL_law_1333 : decode cL_law 1333 = .ok (.aload_n 0, 1) := by decide +kernel
theorem dL_law_1334 : decode cL_law 1334 = .ok (.iload 4, 2) := by decide +kernel
theorem dL_law_1336 : decode cL_law 1336 = .ok (.iconst 3, 1) := by decide +kernel
theorem dL_law_1337 : decode cL_law 1337 = .ok (.iadd, 1) := by decide +kernel
theorem dL_law_1338 : decode cL_law 1338 = .ok (.iaload, 1) := by decide +kernel
theorem dL_law_1339 : decode cL_law 1339 = .ok (.aload_n 0, 1) := by decide +kernel
theorem dL_law_1340 : decode cL_law 1340 = .ok (.iload 4, 2) := by decide +kernel
theorem dL_law_1342 : decode cL_law 1342 = .ok (.iconst 4, 1) := by decide +kernel
theorem dL_law_1343 : decode cL_law 1343 = .ok (.iadd, 1) := by decide +kernel
theorem dL_law_1344 : decode cL_law 1344 = .ok (.iaload, 1) := by decide +kernel
theorem dL_law_1345 : decode cL_law 1345 = .ok (.ifCond .eq 7, 3) := by decide +kernel
theorem dL_law_1352 : decode cL_law 1352 = .ok (.iconst 0, 1) := by decide +kernel
theorem dL_law_1353 : decode cL_law 1353 = .ok (.aload_n 0, 1) := by decide +kernel
theorem dL_law_1354 : decode cL_law 1354 = .ok (.iload 4, 2) := by decide +kernel
theorem dL_law_1356 : decode cL_law 1356 = .ok (.iconst 5, 1) := by decide +kernel
theorem dL_law_1357 : decode cL_law 1357 = .ok (.iadd, 1) := by decide +kernel
theorem dL_law_1358 : decode cL_law 1358 = .ok (.iaload, 1) := by decide +kernel
theorem dL_law_1362 : decode cL_law 1362 = .ok (.pop, 1) := by decide +kernel
theorem dL_law_1363 : decode cL_law 1363 = .ok (.goto 91, 3) := by decide +kernel
theorem dL_law_1305 : decode cL_law 1305 = .ok (.iconst 1, 1) := by decide +kernel
theorem dL_law_1306 : decode cL_law 1306 = .ok (.goto 4, 3) := by decide +kernel
theorem dL_law_1348 : decode cL_law 1348 = .ok (.iconst 1, 1) := by decide +kernel
theorem dL_law_1349 : decode cL_law 1349 = .ok (.goto 4, 3) := by decide +kernel
theorem dL_law_1366 : decode cL_law 1366 = .ok (.aload_n 1, 1) := by decide +kernel
theorem dL_law_1367 : decode cL_law 1367 = .ok (.aload_n 0, 1) := by decide +kernel
theorem dL_law_1368 : decode cL_law 1368 = .ok (.iload 4, 2) := by decide +kernel
theorem dL_law_1370 : decode cL_law 1370 = .ok (.iconst 1, 1) := by decide +kernel
theorem dL_law_1371 : decode cL_law 1371 = .ok (.iadd, 1) := by decide +kernel
theorem dL_law_1372 : decode cL_law 1372 = .ok (.iaload, 1) := by decide +kernel
theorem dL_law_1373 : decode cL_law 1373 = .ok (.aload_n 0, 1) := by decide +kernel
theorem dL_law_1374 : decode cL_law 1374 = .ok (.iload 4, 2) := by decide +kernel
theorem dL_law_1376 : decode cL_law 1376 = .ok (.iconst 2, 1) := by decide +kernel
theorem dL_law_1377 : decode cL_law 1377 = .ok (.iadd, 1) := by decide +kernel
theorem dL_law_1378 : decode cL_law 1378 = .ok (.iaload, 1) := by decide +kernel
theorem dL_law_1382 : decode cL_law 1382 = .ok (.pop, 1) := by decide +kernel
theorem dL_law_1383 : decode cL_law 1383 = .ok (.aload_n 2, 1) := by decide +kernel
theorem dL_law_1384 : decode cL_law 1384 = .ok (.aload_n 0, 1) := by decide +kernel
theorem dL_law_1385 : decode cL_law 1385 = .ok (.iload 4, 2) := by decide +kernel
theorem dL_law_1387 : decode cL_law 1387 = .ok (.iconst 1, 1) := by decide +kernel
theorem dL_law_1388 : decode cL_law 1388 = .ok (.iadd, 1) := by decide +kernel
theorem dL_law_1389 : decode cL_law 1389 = .ok (.iaload, 1) := by decide +kernel
theorem dL_law_1390 : decode cL_law 1390 = .ok (.aload_n 0, 1) := by decide +kernel
theorem dL_law_1391 : decode cL_law 1391 = .ok (.iload 4, 2) := by decide +kernel
theorem dL_law_1393 : decode cL_law 1393 = .ok (.iconst 2, 1) := by decide +kernel
theorem dL_law_1394 : decode cL_law 1394 = .ok (.iadd, 1) := by decide +kernel
theorem dL_law_1395 : decode cL_law 1395 = .ok (.iaload, 1) := by decide +kernel
theorem dL_law_1399 : decode cL_law 1399 = .ok (.pop, 1) := by decide +kernel
theorem dL_law_1400 : decode cL_law 1400 = .ok (.goto 54, 3) := by decide +kernel
theorem dL_law_1403 : decode cL_law 1403 = .ok (.aload_n 1, 1) := by decide +kernel
theorem dL_law_1407 : decode cL_law 1407 = .ok (.pop, 1) := by decide +kernel
theorem dL_law_1408 : decode cL_law 1408 = .ok (.aload_n 2, 1) := by decide +kernel
theorem dL_law_1412 : decode cL_law 1412 = .ok (.pop, 1) := by decide +kernel
theorem dL_law_1413 : decode cL_law 1413 = .ok (.goto 41, 3) := by decide +kernel
theorem dL_law_1416 : decode cL_law 1416 = .ok (.aload_n 1, 1) := by decide +kernel
theorem dL_law_1420 : decode cL_law 1420 = .ok (.pop, 1) := by decide +kernel
theorem dL_law_1421 : decode cL_law 1421 = .ok (.aload_n 2, 1) := by decide +kernel
theorem dL_law_1425 : decode cL_law 1425 = .ok (.pop, 1) := by decide +kernel
theorem dL_law_1426 : decode cL_law 1426 = .ok (.goto 28, 3) := by decide +kernel
theorem dL_law_1429 : decode cL_law 1429 = .ok (.aload_n 1, 1) := by decide +kernel
theorem dL_law_1430 : decode cL_law 1430 = .ok (.aload_n 0, 1) := by decide +kernel
theorem dL_law_1431 : decode cL_law 1431 = .ok (.iload 4, 2) := by decide +kernel
theorem dL_law_1433 : decode cL_law 1433 = .ok (.iconst 1, 1) := by decide +kernel
theorem dL_law_1434 : decode cL_law 1434 = .ok (.iadd, 1) := by decide +kernel
theorem dL_law_1435 : decode cL_law 1435 = .ok (.iaload, 1) := by decide +kernel
theorem dL_law_1439 : decode cL_law 1439 = .ok (.pop, 1) := by decide +kernel
theorem dL_law_1440 : decode cL_law 1440 = .ok (.aload_n 2, 1) := by decide +kernel
theorem dL_law_1441 : decode cL_law 1441 = .ok (.aload_n 0, 1) := by decide +kernel
theorem dL_law_1442 : decode cL_law 1442 = .ok (.iload 4, 2) := by decide +kernel
theorem dL_law_1444 : decode cL_law 1444 = .ok (.iconst 1, 1) := by decide +kernel
theorem dL_law_1445 : decode cL_law 1445 = .ok (.iadd, 1) := by decide +kernel
theorem dL_law_1446 : decode cL_law 1446 = .ok (.iaload, 1) := by decide +kernel
theorem dL_law_1450 : decode cL_law 1450 = .ok (.pop, 1) := by decide +kernel
theorem dL_law_1451 : decode cL_law 1451 = .ok (.goto 3, 3) := by decide +kernel
set_option maxHeartbeats 4000000 in
set_option maxRecDepth 100000 in
theorem law_op_24 {p : Program} {l : Launch} {e : Env} {s : State} {m : MethodId} {below : List Frame} {meth : Method} {c : Code} {dC : Nat → ClassId} {dI : Nat → Nat → Nat} {b : Nat} {L : Nat} {xs : Nat → Int32} {A AX AM AO : Nat → Prop} {Q : State → Prop} (hx : p.tables.exec = Jvm.exec) (hb : c.code = cL_law) (hml : c.maxLocals = 7) (hown : s.vm.findClass RL = some m.cls) (hT : ∀ w ∈ pw_T, w.before #[Value.ref b] s = true) (hA : ∀ q, s.heap.size ≤ q → A q) (hAX : ∀ q, AX q → A q) (hAM : ∀ q, AM q → A q) (hAO : ∀ q, AO q → A q) (hd1 : ∀ q, AX q → ¬ AM q) (hd2 : ∀ q, AX q → ¬ AO q) (hd3 : ∀ q, AM q → ¬ AO q) (hXs : va_X b L xs s s.heap) (hbl : b < s.heap.size) (hbA : ¬ A b) (hL : L ≤ 3584) {kc ks : Nat} (hkc : kc + 4 ≤ 601024) (hks : ks + 24 ≤ 7293034) {vi : Int32} {xx mm oo : Nat} {rr_bytes : Int32} {rr_fault : Int32} {rr_place : Int32} {f_rr_tape : Nat → Int32} {zX : ZZ} {cn_hour : Int32} {ci_hour : Int32} {xx_imageKept : Int32} {rd_count : Int32} {rd_knownFirst : Int32} {cn_passings : Int32} {ci_passings : Int32} {mm_taped : Int32} {mm_lastFault : Int32} {mm_lastPlace : Int32} {f_mm_tape : Nat → Int32} {zM : ZZ} {mm_next : Int32} {mm_imageNext : Int32} {mm_hasImage : Int32} {mm_readings : Int32} {mm_knownBy : Int32} {mm_passings : Int32} {mm_imagePassings : Int32} (hv0 : 0 ≤ vi.toInt) (hv1 : vi.toInt + 7 ≤ (L : Int)) (hbt : rr_bytes.toInt = mm_taped.toInt) (hta : BTt f_rr_tape f_mm_tape rr_bytes.toInt) (hfa : rr_fault = mm_lastFault) (hpl : rr_place = mm_lastPlace) (hdd : zX = zM) (hho : cn_hour.toInt = mm_next.toInt) (hih : ci_hour.toInt = mm_imageNext.toInt) (him : xx_imageKept.toInt = mm_hasImage.toInt) (hrc : rd_count.toInt = mm_readings.toInt) (hrk : rd_knownFirst.toInt = mm_knownBy.toInt) (hps : cn_passings = mm_passings) (hip : ci_passings = mm_imagePassings) {H : Heap} {locs : List Loc} {ls : Array Slot} (hX : XW dC dI AX s H xx rr_bytes rr_fault rr_place f_rr_tape zX cn_hour ci_hour xx_imageKept rd_count rd_knownFirst cn_passings ci_passings) (hM : MW dC dI AM s H mm mm_taped mm_lastFault mm_lastPlace f_mm_tape zM mm_next mm_imageNext mm_hasImage mm_readings mm_knownBy mm_passings mm_imagePassings) (hO : OW dC dI AO s H oo) (hS : va_S A s.heap H locs) (hl : lv_has ls 7 [(4, .int vi), (3, .ref oo), (2, .ref mm), (1, .ref xx), (0, .ref b)]) (kk : ∀ (H1 : Heap) (locs1 : List Loc) (ls1 : Array Slot) (n_rr_bytes : Int32) (n_rr_fault : Int32) (n_rr_place : Int32) (n_f_rr_tape : Nat → Int32) (n_zX : ZZ) (n_cn_hour : Int32) (n_ci_hour : Int32) (n_xx_imageKept : Int32) (n_rd_count : Int32) (n_rd_knownFirst : Int32) (n_cn_passings : Int32) (n_ci_passings : Int32) (n_mm_taped : Int32) (n_mm_lastFault : Int32) (n_mm_lastPlace : Int32) (n_f_mm_tape : Nat → Int32) (n_zM : ZZ) (n_mm_next : Int32) (n_mm_imageNext : Int32) (n_mm_hasImage : Int32) (n_mm_readings : Int32) (n_mm_knownBy : Int32) (n_mm_passings : Int32) (n_mm_imagePassings : Int32), n_rr_bytes.toInt = n_mm_taped.toInt → BTt n_f_rr_tape n_f_mm_tape n_rr_bytes.toInt → n_rr_fault = n_mm_lastFault → n_rr_place = n_mm_lastPlace → n_zX = n_zM → n_cn_hour.toInt = n_mm_next.toInt → n_ci_hour.toInt = n_mm_imageNext.toInt → n_xx_imageKept.toInt = n_mm_hasImage.toInt → n_rd_count.toInt = n_mm_readings.toInt → n_rd_knownFirst.toInt = n_mm_knownBy.toInt → n_cn_passings = n_mm_passings → n_ci_passings = n_mm_imagePassings → XW dC dI AX s H1 xx n_rr_bytes n_rr_fault n_rr_place n_f_rr_tape n_zX n_cn_hour n_ci_hour n_xx_imageKept n_rd_count n_rd_knownFirst n_cn_passings n_ci_passings → MW dC dI AM s H1 mm n_mm_taped n_mm_lastFault n_mm_lastPlace n_f_mm_tape n_zM n_mm_next n_mm_imageNext n_mm_hasImage n_mm_readings n_mm_knownBy n_mm_passings n_mm_imagePassings → OW dC dI AO s H1 oo → va_S A s.heap H1 locs1 → lv_has ls1 7 [(4, .int vi), (3, .ref oo), (2, .ref mm), (1, .ref xx), (0, .ref b)] → W p l e room_1 s m #[Value.ref b] below meth c H1 locs1 (kc + 1) (ks + 6) Q (F0 m 1454 ls1 [])) : W p l e room_1 s m #[Value.ref b] below meth c H locs kc ks Q (F0 m 1178 ls []) := by
  refine lv_aload_n hx hb dL_law_1178 rfl (lv_at hl 3 rfl) ?_
  refine lv_aload_n hx hb dL_law_1179 rfl (lv_at hl 4 rfl) ?_
  refine lv_iload hx hb dL_law_1180 (lv_at hl 0 rfl) ?_
  refine lv_iconst (v := 1) hx hb dL_law_1182 (by decide) ?_
  refine lv_iadd hx hb dL_law_1183 ?_
  refine lv_topi (fun z_1 ez_1 => ?_)
  have kz_1 : z_1.toInt = vi.toInt + 1 := ti_add ez_1 rfl (by decide) (by omega) (by omega)
  clear ez_1
  refine va_sld hx hb hXs hbl hbA hS (vp_in_iff.mpr (by omega)) dL_law_1184 ?_
  refine lv_topi (fun z_2 ez_2 => ?_)
  refine xs_24 hx hb hml hown hT hA hAX (by omega) (by omega) hl hX hS (fun r_3 H_3 lo_3 hX hfr hz hS => ?_)
  have hM := hM.keep (fun q hq h => hfr q hq (fun z => hd1 q z h))
  have hO := hO.keep (fun q hq h => hfr q hq (fun z => hd2 q z h))
  clear hfr hz
  refine lv_pop hx hb dL_law_1188 rfl ?_
  refine lv_aload_n hx hb dL_law_1189 rfl (lv_at hl 2 rfl) ?_
  refine lv_aload_n hx hb dL_law_1190 rfl (lv_at hl 4 rfl) ?_
  refine lv_iload hx hb dL_law_1191 (lv_at hl 0 rfl) ?_
  refine lv_iconst (v := 1) hx hb dL_law_1193 (by decide) ?_
  refine lv_iadd hx hb dL_law_1194 ?_
  refine lv_topi (fun z_4 ez_4 => ?_)
  have kz_4 : z_4.toInt = vi.toInt + 1 := ti_add ez_4 rfl (by decide) (by omega) (by omega)
  clear ez_4
  refine va_sld hx hb hXs hbl hbA hS (vp_in_iff.mpr (by omega)) dL_law_1195 ?_
  refine lv_topi (fun z_5 ez_5 => ?_)
  have hq_6 : z_2 = z_5 := ez_2.trans ((congrArg (fun q : Int32 => xs q.toNatClampNeg) (Int32.toInt_inj.mp (by omega))).trans ez_5.symm)
  clear ez_5
  subst hq_6
  refine ms_24 hx hb hml hown hT hA hAM (by omega) (by omega) hl hM hS (fun r_7 H_7 lo_7 hM hfr hz hS => ?_)
  have hX := hX.keep (fun q hq h => hfr q hq (fun z => hd1 q h z))
  have hO := hO.keep (fun q hq h => hfr q hq (fun z => hd3 q z h))
  clear hfr hz
  refine lv_pop hx hb dL_law_1199 rfl ?_
  refine lv_goto (tgt := 1454) hx hb dL_law_1200 (by decide) ?_
  refine W.widen (k := kc + 1) (n := ks + 6) (by omega) (by omega) ?_
  exact kk H_7 lo_7 _ rr_bytes rr_fault rr_place f_rr_tape zX cn_hour ci_hour xx_imageKept rd_count rd_knownFirst cn_passings ci_passings mm_taped mm_lastFault mm_lastPlace f_mm_tape zM mm_next mm_imageNext mm_hasImage mm_readings mm_knownBy mm_passings mm_imagePassings hbt hta hfa hpl hdd hho hih him hrc hrk hps hip hX hM hO hS (lv_sub hl [0, 1, 2, 3, 4] rfl)
set_option maxHeartbeats 4000000 in
set_option maxRecDepth 100000 in
theorem law_op_25 {p : Program} {l : Launch} {e : Env} {s : State} {m : MethodId} {below : List Frame} {meth : Method} {c : Code} {dC : Nat → ClassId} {dI : Nat → Nat → Nat} {b : Nat} {L : Nat} {xs : Nat → Int32} {A AX AM AO : Nat → Prop} {Q : State → Prop} (hx : p.tables.exec = Jvm.exec) (hb : c.code = cL_law) (hml : c.maxLocals = 7) (hown : s.vm.findClass RL = some m.cls) (hT : ∀ w ∈ pw_T, w.before #[Value.ref b] s = true) (hA : ∀ q, s.heap.size ≤ q → A q) (hAX : ∀ q, AX q → A q) (hAM : ∀ q, AM q → A q) (hAO : ∀ q, AO q → A q) (hd1 : ∀ q, AX q → ¬ AM q) (hd2 : ∀ q, AX q → ¬ AO q) (hd3 : ∀ q, AM q → ¬ AO q) (hXs : va_X b L xs s s.heap) (hbl : b < s.heap.size) (hbA : ¬ A b) (hL : L ≤ 3584) {kc ks : Nat} (hkc : kc + 4 ≤ 601024) (hks : ks + 24 ≤ 7293034) {vi : Int32} {xx mm oo : Nat} {rr_bytes : Int32} {rr_fault : Int32} {rr_place : Int32} {f_rr_tape : Nat → Int32} {zX : ZZ} {cn_hour : Int32} {ci_hour : Int32} {xx_imageKept : Int32} {rd_count : Int32} {rd_knownFirst : Int32} {cn_passings : Int32} {ci_passings : Int32} {mm_taped : Int32} {mm_lastFault : Int32} {mm_lastPlace : Int32} {f_mm_tape : Nat → Int32} {zM : ZZ} {mm_next : Int32} {mm_imageNext : Int32} {mm_hasImage : Int32} {mm_readings : Int32} {mm_knownBy : Int32} {mm_passings : Int32} {mm_imagePassings : Int32} (hv0 : 0 ≤ vi.toInt) (hv1 : vi.toInt + 7 ≤ (L : Int)) (hbt : rr_bytes.toInt = mm_taped.toInt) (hta : BTt f_rr_tape f_mm_tape rr_bytes.toInt) (hfa : rr_fault = mm_lastFault) (hpl : rr_place = mm_lastPlace) (hdd : zX = zM) (hho : cn_hour.toInt = mm_next.toInt) (hih : ci_hour.toInt = mm_imageNext.toInt) (him : xx_imageKept.toInt = mm_hasImage.toInt) (hrc : rd_count.toInt = mm_readings.toInt) (hrk : rd_knownFirst.toInt = mm_knownBy.toInt) (hps : cn_passings = mm_passings) (hip : ci_passings = mm_imagePassings) {H : Heap} {locs : List Loc} {ls : Array Slot} (hX : XW dC dI AX s H xx rr_bytes rr_fault rr_place f_rr_tape zX cn_hour ci_hour xx_imageKept rd_count rd_knownFirst cn_passings ci_passings) (hM : MW dC dI AM s H mm mm_taped mm_lastFault mm_lastPlace f_mm_tape zM mm_next mm_imageNext mm_hasImage mm_readings mm_knownBy mm_passings mm_imagePassings) (hO : OW dC dI AO s H oo) (hS : va_S A s.heap H locs) (hl : lv_has ls 7 [(4, .int vi), (3, .ref oo), (2, .ref mm), (1, .ref xx), (0, .ref b)]) (kk : ∀ (H1 : Heap) (locs1 : List Loc) (ls1 : Array Slot) (n_rr_bytes : Int32) (n_rr_fault : Int32) (n_rr_place : Int32) (n_f_rr_tape : Nat → Int32) (n_zX : ZZ) (n_cn_hour : Int32) (n_ci_hour : Int32) (n_xx_imageKept : Int32) (n_rd_count : Int32) (n_rd_knownFirst : Int32) (n_cn_passings : Int32) (n_ci_passings : Int32) (n_mm_taped : Int32) (n_mm_lastFault : Int32) (n_mm_lastPlace : Int32) (n_f_mm_tape : Nat → Int32) (n_zM : ZZ) (n_mm_next : Int32) (n_mm_imageNext : Int32) (n_mm_hasImage : Int32) (n_mm_readings : Int32) (n_mm_knownBy : Int32) (n_mm_passings : Int32) (n_mm_imagePassings : Int32), n_rr_bytes.toInt = n_mm_taped.toInt → BTt n_f_rr_tape n_f_mm_tape n_rr_bytes.toInt → n_rr_fault = n_mm_lastFault → n_rr_place = n_mm_lastPlace → n_zX = n_zM → n_cn_hour.toInt = n_mm_next.toInt → n_ci_hour.toInt = n_mm_imageNext.toInt → n_xx_imageKept.toInt = n_mm_hasImage.toInt → n_rd_count.toInt = n_mm_readings.toInt → n_rd_knownFirst.toInt = n_mm_knownBy.toInt → n_cn_passings = n_mm_passings → n_ci_passings = n_mm_imagePassings → XW dC dI AX s H1 xx n_rr_bytes n_rr_fault n_rr_place n_f_rr_tape n_zX n_cn_hour n_ci_hour n_xx_imageKept n_rd_count n_rd_knownFirst n_cn_passings n_ci_passings → MW dC dI AM s H1 mm n_mm_taped n_mm_lastFault n_mm_lastPlace n_f_mm_tape n_zM n_mm_next n_mm_imageNext n_mm_hasImage n_mm_readings n_mm_knownBy n_mm_passings n_mm_imagePassings → OW dC dI AO s H1 oo → va_S A s.heap H1 locs1 → lv_has ls1 7 [(4, .int vi), (3, .ref oo), (2, .ref mm), (1, .ref xx), (0, .ref b)] → W p l e room_1 s m #[Value.ref b] below meth c H1 locs1 (kc + 1) (ks + 6) Q (F0 m 1454 ls1 [])) : W p l e room_1 s m #[Value.ref b] below meth c H locs kc ks Q (F0 m 1203 ls []) := by
  refine lv_aload_n hx hb dL_law_1203 rfl (lv_at hl 3 rfl) ?_
  refine lv_aload_n hx hb dL_law_1204 rfl (lv_at hl 4 rfl) ?_
  refine lv_iload hx hb dL_law_1205 (lv_at hl 0 rfl) ?_
  refine lv_iconst (v := 1) hx hb dL_law_1207 (by decide) ?_
  refine lv_iadd hx hb dL_law_1208 ?_
  refine lv_topi (fun z_1 ez_1 => ?_)
  have kz_1 : z_1.toInt = vi.toInt + 1 := ti_add ez_1 rfl (by decide) (by omega) (by omega)
  clear ez_1
  refine va_sld hx hb hXs hbl hbA hS (vp_in_iff.mpr (by omega)) dL_law_1209 ?_
  refine lv_topi (fun z_2 ez_2 => ?_)
  refine lv_aload_n hx hb dL_law_1210 rfl (lv_at hl 4 rfl) ?_
  refine lv_iload hx hb dL_law_1211 (lv_at hl 0 rfl) ?_
  refine lv_iconst (v := 2) hx hb dL_law_1213 (by decide) ?_
  refine lv_iadd hx hb dL_law_1214 ?_
  refine lv_topi (fun z_3 ez_3 => ?_)
  have kz_3 : z_3.toInt = vi.toInt + 2 := ti_add ez_3 rfl (by decide) (by omega) (by omega)
  clear ez_3
  refine va_sld hx hb hXs hbl hbA hS (vp_in_iff.mpr (by omega)) dL_law_1215 ?_
  refine lv_topi (fun z_4 ez_4 => ?_)
  refine xs_25 hx hb hml hown hT hA hAX (by omega) (by omega) hl hX hS (fun r_5 H_5 lo_5 hX hfr hz hS => ?_)
  have hM := hM.keep (fun q hq h => hfr q hq (fun z => hd1 q z h))
  have hO := hO.keep (fun q hq h => hfr q hq (fun z => hd2 q z h))
  clear hfr hz
  refine lv_pop hx hb dL_law_1219 rfl ?_
  refine lv_aload_n hx hb dL_law_1220 rfl (lv_at hl 2 rfl) ?_
  refine lv_aload_n hx hb dL_law_1221 rfl (lv_at hl 4 rfl) ?_
  refine lv_iload hx hb dL_law_1222 (lv_at hl 0 rfl) ?_
  refine lv_iconst (v := 1) hx hb dL_law_1224 (by decide) ?_
  refine lv_iadd hx hb dL_law_1225 ?_
  refine lv_topi (fun z_6 ez_6 => ?_)
  have kz_6 : z_6.toInt = vi.toInt + 1 := ti_add ez_6 rfl (by decide) (by omega) (by omega)
  clear ez_6
  refine va_sld hx hb hXs hbl hbA hS (vp_in_iff.mpr (by omega)) dL_law_1226 ?_
  refine lv_topi (fun z_7 ez_7 => ?_)
  have hq_8 : z_2 = z_7 := ez_2.trans ((congrArg (fun q : Int32 => xs q.toNatClampNeg) (Int32.toInt_inj.mp (by omega))).trans ez_7.symm)
  clear ez_7
  subst hq_8
  refine lv_aload_n hx hb dL_law_1227 rfl (lv_at hl 4 rfl) ?_
  refine lv_iload hx hb dL_law_1228 (lv_at hl 0 rfl) ?_
  refine lv_iconst (v := 2) hx hb dL_law_1230 (by decide) ?_
  refine lv_iadd hx hb dL_law_1231 ?_
  refine lv_topi (fun z_9 ez_9 => ?_)
  have kz_9 : z_9.toInt = vi.toInt + 2 := ti_add ez_9 rfl (by decide) (by omega) (by omega)
  clear ez_9
  refine va_sld hx hb hXs hbl hbA hS (vp_in_iff.mpr (by omega)) dL_law_1232 ?_
  refine lv_topi (fun z_10 ez_10 => ?_)
  have hq_11 : z_4 = z_10 := ez_4.trans ((congrArg (fun q : Int32 => xs q.toNatClampNeg) (Int32.toInt_inj.mp (by omega))).trans ez_10.symm)
  clear ez_10
  subst hq_11
  refine ms_25 hx hb hml hown hT hA hAM (by omega) (by omega) hl hM hS (fun r_12 H_12 lo_12 hM hfr hz hS => ?_)
  have hX := hX.keep (fun q hq h => hfr q hq (fun z => hd1 q h z))
  have hO := hO.keep (fun q hq h => hfr q hq (fun z => hd3 q z h))
  clear hfr hz
  refine lv_pop hx hb dL_law_1236 rfl ?_
  refine lv_goto (tgt := 1454) hx hb dL_law_1237 (by decide) ?_
  refine W.widen (k := kc + 1) (n := ks + 6) (by omega) (by omega) ?_
  exact kk H_12 lo_12 _ rr_bytes rr_fault rr_place f_rr_tape zX cn_hour ci_hour xx_imageKept rd_count rd_knownFirst cn_passings ci_passings mm_taped mm_lastFault mm_lastPlace f_mm_tape zM mm_next mm_imageNext mm_hasImage mm_readings mm_knownBy mm_passings mm_imagePassings hbt hta hfa hpl hdd hho hih him hrc hrk hps hip hX hM hO hS (lv_sub hl [0, 1, 2, 3, 4] rfl)
set_option maxHeartbeats 4000000 in
set_option maxRecDepth 100000 in
theorem law_op_26 {p : Program} {l : Launch} {e : Env} {s : State} {m : MethodId} {below : List Frame} {meth : Method} {c : Code} {dC : Nat → ClassId} {dI : Nat → Nat → Nat} {b : Nat} {L : Nat} {xs : Nat → Int32} {A AX AM AO : Nat → Prop} {Q : State → Prop} (hx : p.tables.exec = Jvm.exec) (hb : c.code = cL_law) (hml : c.maxLocals = 7) (hown : s.vm.findClass RL = some m.cls) (hT : ∀ w ∈ pw_T, w.before #[Value.ref b] s = true) (hA : ∀ q, s.heap.size ≤ q → A q) (hAX : ∀ q, AX q → A q) (hAM : ∀ q, AM q → A q) (hAO : ∀ q, AO q → A q) (hd1 : ∀ q, AX q → ¬ AM q) (hd2 : ∀ q, AX q → ¬ AO q) (hd3 : ∀ q, AM q → ¬ AO q) (hXs : va_X b L xs s s.heap) (hbl : b < s.heap.size) (hbA : ¬ A b) (hL : L ≤ 3584) {kc ks : Nat} (hkc : kc + 4 ≤ 601024) (hks : ks + 24 ≤ 7293034) {vi : Int32} {xx mm oo : Nat} {rr_bytes : Int32} {rr_fault : Int32} {rr_place : Int32} {f_rr_tape : Nat → Int32} {zX : ZZ} {cn_hour : Int32} {ci_hour : Int32} {xx_imageKept : Int32} {rd_count : Int32} {rd_knownFirst : Int32} {cn_passings : Int32} {ci_passings : Int32} {mm_taped : Int32} {mm_lastFault : Int32} {mm_lastPlace : Int32} {f_mm_tape : Nat → Int32} {zM : ZZ} {mm_next : Int32} {mm_imageNext : Int32} {mm_hasImage : Int32} {mm_readings : Int32} {mm_knownBy : Int32} {mm_passings : Int32} {mm_imagePassings : Int32} (hv0 : 0 ≤ vi.toInt) (hv1 : vi.toInt + 7 ≤ (L : Int)) (hbt : rr_bytes.toInt = mm_taped.toInt) (hta : BTt f_rr_tape f_mm_tape rr_bytes.toInt) (hfa : rr_fault = mm_lastFault) (hpl : rr_place = mm_lastPlace) (hdd : zX = zM) (hho : cn_hour.toInt = mm_next.toInt) (hih : ci_hour.toInt = mm_imageNext.toInt) (him : xx_imageKept.toInt = mm_hasImage.toInt) (hrc : rd_count.toInt = mm_readings.toInt) (hrk : rd_knownFirst.toInt = mm_knownBy.toInt) (hps : cn_passings = mm_passings) (hip : ci_passings = mm_imagePassings) {H : Heap} {locs : List Loc} {ls : Array Slot} (hX : XW dC dI AX s H xx rr_bytes rr_fault rr_place f_rr_tape zX cn_hour ci_hour xx_imageKept rd_count rd_knownFirst cn_passings ci_passings) (hM : MW dC dI AM s H mm mm_taped mm_lastFault mm_lastPlace f_mm_tape zM mm_next mm_imageNext mm_hasImage mm_readings mm_knownBy mm_passings mm_imagePassings) (hO : OW dC dI AO s H oo) (hS : va_S A s.heap H locs) (hl : lv_has ls 7 [(4, .int vi), (3, .ref oo), (2, .ref mm), (1, .ref xx), (0, .ref b)]) (kk : ∀ (H1 : Heap) (locs1 : List Loc) (ls1 : Array Slot) (n_rr_bytes : Int32) (n_rr_fault : Int32) (n_rr_place : Int32) (n_f_rr_tape : Nat → Int32) (n_zX : ZZ) (n_cn_hour : Int32) (n_ci_hour : Int32) (n_xx_imageKept : Int32) (n_rd_count : Int32) (n_rd_knownFirst : Int32) (n_cn_passings : Int32) (n_ci_passings : Int32) (n_mm_taped : Int32) (n_mm_lastFault : Int32) (n_mm_lastPlace : Int32) (n_f_mm_tape : Nat → Int32) (n_zM : ZZ) (n_mm_next : Int32) (n_mm_imageNext : Int32) (n_mm_hasImage : Int32) (n_mm_readings : Int32) (n_mm_knownBy : Int32) (n_mm_passings : Int32) (n_mm_imagePassings : Int32), n_rr_bytes.toInt = n_mm_taped.toInt → BTt n_f_rr_tape n_f_mm_tape n_rr_bytes.toInt → n_rr_fault = n_mm_lastFault → n_rr_place = n_mm_lastPlace → n_zX = n_zM → n_cn_hour.toInt = n_mm_next.toInt → n_ci_hour.toInt = n_mm_imageNext.toInt → n_xx_imageKept.toInt = n_mm_hasImage.toInt → n_rd_count.toInt = n_mm_readings.toInt → n_rd_knownFirst.toInt = n_mm_knownBy.toInt → n_cn_passings = n_mm_passings → n_ci_passings = n_mm_imagePassings → XW dC dI AX s H1 xx n_rr_bytes n_rr_fault n_rr_place n_f_rr_tape n_zX n_cn_hour n_ci_hour n_xx_imageKept n_rd_count n_rd_knownFirst n_cn_passings n_ci_passings → MW dC dI AM s H1 mm n_mm_taped n_mm_lastFault n_mm_lastPlace n_f_mm_tape n_zM n_mm_next n_mm_imageNext n_mm_hasImage n_mm_readings n_mm_knownBy n_mm_passings n_mm_imagePassings → OW dC dI AO s H1 oo → va_S A s.heap H1 locs1 → lv_has ls1 7 [(4, .int vi), (3, .ref oo), (2, .ref mm), (1, .ref xx), (0, .ref b)] → W p l e room_1 s m #[Value.ref b] below meth c H1 locs1 (kc + 1) (ks + 6) Q (F0 m 1454 ls1 [])) : W p l e room_1 s m #[Value.ref b] below meth c H locs kc ks Q (F0 m 1240 ls []) := by
  refine lv_aload_n hx hb dL_law_1240 rfl (lv_at hl 3 rfl) ?_
  refine lv_aload_n hx hb dL_law_1241 rfl (lv_at hl 4 rfl) ?_
  refine lv_iload hx hb dL_law_1242 (lv_at hl 0 rfl) ?_
  refine lv_iconst (v := 1) hx hb dL_law_1244 (by decide) ?_
  refine lv_iadd hx hb dL_law_1245 ?_
  refine lv_topi (fun z_1 ez_1 => ?_)
  have kz_1 : z_1.toInt = vi.toInt + 1 := ti_add ez_1 rfl (by decide) (by omega) (by omega)
  clear ez_1
  refine va_sld hx hb hXs hbl hbA hS (vp_in_iff.mpr (by omega)) dL_law_1246 ?_
  refine lv_topi (fun z_2 ez_2 => ?_)
  refine lv_aload_n hx hb dL_law_1247 rfl (lv_at hl 4 rfl) ?_
  refine lv_iload hx hb dL_law_1248 (lv_at hl 0 rfl) ?_
  refine lv_iconst (v := 2) hx hb dL_law_1250 (by decide) ?_
  refine lv_iadd hx hb dL_law_1251 ?_
  refine lv_topi (fun z_3 ez_3 => ?_)
  have kz_3 : z_3.toInt = vi.toInt + 2 := ti_add ez_3 rfl (by decide) (by omega) (by omega)
  clear ez_3
  refine va_sld hx hb hXs hbl hbA hS (vp_in_iff.mpr (by omega)) dL_law_1252 ?_
  refine lv_topi (fun z_4 ez_4 => ?_)
  refine xs_26 hx hb hml hown hT hA hAX (by omega) (by omega) hl hX hS (fun r_5 H_5 lo_5 hX hfr hz hS => ?_)
  have hM := hM.keep (fun q hq h => hfr q hq (fun z => hd1 q z h))
  have hO := hO.keep (fun q hq h => hfr q hq (fun z => hd2 q z h))
  clear hfr hz
  refine lv_pop hx hb dL_law_1256 rfl ?_
  refine lv_aload_n hx hb dL_law_1257 rfl (lv_at hl 2 rfl) ?_
  refine lv_aload_n hx hb dL_law_1258 rfl (lv_at hl 4 rfl) ?_
  refine lv_iload hx hb dL_law_1259 (lv_at hl 0 rfl) ?_
  refine lv_iconst (v := 1) hx hb dL_law_1261 (by decide) ?_
  refine lv_iadd hx hb dL_law_1262 ?_
  refine lv_topi (fun z_6 ez_6 => ?_)
  have kz_6 : z_6.toInt = vi.toInt + 1 := ti_add ez_6 rfl (by decide) (by omega) (by omega)
  clear ez_6
  refine va_sld hx hb hXs hbl hbA hS (vp_in_iff.mpr (by omega)) dL_law_1263 ?_
  refine lv_topi (fun z_7 ez_7 => ?_)
  have hq_8 : z_2 = z_7 := ez_2.trans ((congrArg (fun q : Int32 => xs q.toNatClampNeg) (Int32.toInt_inj.mp (by omega))).trans ez_7.symm)
  clear ez_7
  subst hq_8
  refine lv_aload_n hx hb dL_law_1264 rfl (lv_at hl 4 rfl) ?_
  refine lv_iload hx hb dL_law_1265 (lv_at hl 0 rfl) ?_
  refine lv_iconst (v := 2) hx hb dL_law_1267 (by decide) ?_
  refine lv_iadd hx hb dL_law_1268 ?_
  refine lv_topi (fun z_9 ez_9 => ?_)
  have kz_9 : z_9.toInt = vi.toInt + 2 := ti_add ez_9 rfl (by decide) (by omega) (by omega)
  clear ez_9
  refine va_sld hx hb hXs hbl hbA hS (vp_in_iff.mpr (by omega)) dL_law_1269 ?_
  refine lv_topi (fun z_10 ez_10 => ?_)
  have hq_11 : z_4 = z_10 := ez_4.trans ((congrArg (fun q : Int32 => xs q.toNatClampNeg) (Int32.toInt_inj.mp (by omega))).trans ez_10.symm)
  clear ez_10
  subst hq_11
  refine ms_26 hx hb hml hown hT hA hAM (by omega) (by omega) hl hM hS (fun r_12 H_12 lo_12 hM hfr hz hS => ?_)
  have hX := hX.keep (fun q hq h => hfr q hq (fun z => hd1 q h z))
  have hO := hO.keep (fun q hq h => hfr q hq (fun z => hd3 q z h))
  clear hfr hz
  refine lv_pop hx hb dL_law_1273 rfl ?_
  refine lv_goto (tgt := 1454) hx hb dL_law_1274 (by decide) ?_
  refine W.widen (k := kc + 1) (n := ks + 6) (by omega) (by omega) ?_
  exact kk H_12 lo_12 _ rr_bytes rr_fault rr_place f_rr_tape zX cn_hour ci_hour xx_imageKept rd_count rd_knownFirst cn_passings ci_passings mm_taped mm_lastFault mm_lastPlace f_mm_tape zM mm_next mm_imageNext mm_hasImage mm_readings mm_knownBy mm_passings mm_imagePassings hbt hta hfa hpl hdd hho hih him hrc hrk hps hip hX hM hO hS (lv_sub hl [0, 1, 2, 3, 4] rfl)
set_option maxHeartbeats 4000000 in
set_option maxRecDepth 100000 in
theorem law_op_27 {p : Program} {l : Launch} {e : Env} {s : State} {m : MethodId} {below : List Frame} {meth : Method} {c : Code} {dC : Nat → ClassId} {dI : Nat → Nat → Nat} {b : Nat} {L : Nat} {xs : Nat → Int32} {A AX AM AO : Nat → Prop} {Q : State → Prop} (hx : p.tables.exec = Jvm.exec) (hb : c.code = cL_law) (hml : c.maxLocals = 7) (hown : s.vm.findClass RL = some m.cls) (hT : ∀ w ∈ pw_T, w.before #[Value.ref b] s = true) (hA : ∀ q, s.heap.size ≤ q → A q) (hAX : ∀ q, AX q → A q) (hAM : ∀ q, AM q → A q) (hAO : ∀ q, AO q → A q) (hd1 : ∀ q, AX q → ¬ AM q) (hd2 : ∀ q, AX q → ¬ AO q) (hd3 : ∀ q, AM q → ¬ AO q) (hXs : va_X b L xs s s.heap) (hbl : b < s.heap.size) (hbA : ¬ A b) (hL : L ≤ 3584) {kc ks : Nat} (hkc : kc + 4 ≤ 601024) (hks : ks + 24 ≤ 7293034) {vi : Int32} {xx mm oo : Nat} {rr_bytes : Int32} {rr_fault : Int32} {rr_place : Int32} {f_rr_tape : Nat → Int32} {zX : ZZ} {cn_hour : Int32} {ci_hour : Int32} {xx_imageKept : Int32} {rd_count : Int32} {rd_knownFirst : Int32} {cn_passings : Int32} {ci_passings : Int32} {mm_taped : Int32} {mm_lastFault : Int32} {mm_lastPlace : Int32} {f_mm_tape : Nat → Int32} {zM : ZZ} {mm_next : Int32} {mm_imageNext : Int32} {mm_hasImage : Int32} {mm_readings : Int32} {mm_knownBy : Int32} {mm_passings : Int32} {mm_imagePassings : Int32} (hv0 : 0 ≤ vi.toInt) (hv1 : vi.toInt + 7 ≤ (L : Int)) (hbt : rr_bytes.toInt = mm_taped.toInt) (hta : BTt f_rr_tape f_mm_tape rr_bytes.toInt) (hfa : rr_fault = mm_lastFault) (hpl : rr_place = mm_lastPlace) (hdd : zX = zM) (hho : cn_hour.toInt = mm_next.toInt) (hih : ci_hour.toInt = mm_imageNext.toInt) (him : xx_imageKept.toInt = mm_hasImage.toInt) (hrc : rd_count.toInt = mm_readings.toInt) (hrk : rd_knownFirst.toInt = mm_knownBy.toInt) (hps : cn_passings = mm_passings) (hip : ci_passings = mm_imagePassings) {H : Heap} {locs : List Loc} {ls : Array Slot} (hX : XW dC dI AX s H xx rr_bytes rr_fault rr_place f_rr_tape zX cn_hour ci_hour xx_imageKept rd_count rd_knownFirst cn_passings ci_passings) (hM : MW dC dI AM s H mm mm_taped mm_lastFault mm_lastPlace f_mm_tape zM mm_next mm_imageNext mm_hasImage mm_readings mm_knownBy mm_passings mm_imagePassings) (hO : OW dC dI AO s H oo) (hS : va_S A s.heap H locs) (hl : lv_has ls 7 [(4, .int vi), (3, .ref oo), (2, .ref mm), (1, .ref xx), (0, .ref b)]) (kk : ∀ (H1 : Heap) (locs1 : List Loc) (ls1 : Array Slot) (n_rr_bytes : Int32) (n_rr_fault : Int32) (n_rr_place : Int32) (n_f_rr_tape : Nat → Int32) (n_zX : ZZ) (n_cn_hour : Int32) (n_ci_hour : Int32) (n_xx_imageKept : Int32) (n_rd_count : Int32) (n_rd_knownFirst : Int32) (n_cn_passings : Int32) (n_ci_passings : Int32) (n_mm_taped : Int32) (n_mm_lastFault : Int32) (n_mm_lastPlace : Int32) (n_f_mm_tape : Nat → Int32) (n_zM : ZZ) (n_mm_next : Int32) (n_mm_imageNext : Int32) (n_mm_hasImage : Int32) (n_mm_readings : Int32) (n_mm_knownBy : Int32) (n_mm_passings : Int32) (n_mm_imagePassings : Int32), n_rr_bytes.toInt = n_mm_taped.toInt → BTt n_f_rr_tape n_f_mm_tape n_rr_bytes.toInt → n_rr_fault = n_mm_lastFault → n_rr_place = n_mm_lastPlace → n_zX = n_zM → n_cn_hour.toInt = n_mm_next.toInt → n_ci_hour.toInt = n_mm_imageNext.toInt → n_xx_imageKept.toInt = n_mm_hasImage.toInt → n_rd_count.toInt = n_mm_readings.toInt → n_rd_knownFirst.toInt = n_mm_knownBy.toInt → n_cn_passings = n_mm_passings → n_ci_passings = n_mm_imagePassings → XW dC dI AX s H1 xx n_rr_bytes n_rr_fault n_rr_place n_f_rr_tape n_zX n_cn_hour n_ci_hour n_xx_imageKept n_rd_count n_rd_knownFirst n_cn_passings n_ci_passings → MW dC dI AM s H1 mm n_mm_taped n_mm_lastFault n_mm_lastPlace n_f_mm_tape n_zM n_mm_next n_mm_imageNext n_mm_hasImage n_mm_readings n_mm_knownBy n_mm_passings n_mm_imagePassings → OW dC dI AO s H1 oo → va_S A s.heap H1 locs1 → lv_has ls1 7 [(4, .int vi), (3, .ref oo), (2, .ref mm), (1, .ref xx), (0, .ref b)] → W p l e room_1 s m #[Value.ref b] below meth c H1 locs1 (kc + 1) (ks + 6) Q (F0 m 1454 ls1 [])) : W p l e room_1 s m #[Value.ref b] below meth c H locs kc ks Q (F0 m 1277 ls []) := by
  refine lv_aload_n hx hb dL_law_1277 rfl (lv_at hl 3 rfl) ?_
  refine lv_aload_n hx hb dL_law_1278 rfl (lv_at hl 4 rfl) ?_
  refine lv_iload hx hb dL_law_1279 (lv_at hl 0 rfl) ?_
  refine lv_iconst (v := 1) hx hb dL_law_1281 (by decide) ?_
  refine lv_iadd hx hb dL_law_1282 ?_
  refine lv_topi (fun z_1 ez_1 => ?_)
  have kz_1 : z_1.toInt = vi.toInt + 1 := ti_add ez_1 rfl (by decide) (by omega) (by omega)
  clear ez_1
  refine va_sld hx hb hXs hbl hbA hS (vp_in_iff.mpr (by omega)) dL_law_1283 ?_
  refine lv_topi (fun z_2 ez_2 => ?_)
  refine lv_aload_n hx hb dL_law_1284 rfl (lv_at hl 4 rfl) ?_
  refine lv_iload hx hb dL_law_1285 (lv_at hl 0 rfl) ?_
  refine lv_iconst (v := 2) hx hb dL_law_1287 (by decide) ?_
  refine lv_iadd hx hb dL_law_1288 ?_
  refine lv_topi (fun z_3 ez_3 => ?_)
  have kz_3 : z_3.toInt = vi.toInt + 2 := ti_add ez_3 rfl (by decide) (by omega) (by omega)
  clear ez_3
  refine va_sld hx hb hXs hbl hbA hS (vp_in_iff.mpr (by omega)) dL_law_1289 ?_
  refine lv_topi (fun z_4 ez_4 => ?_)
  refine lv_aload_n hx hb dL_law_1290 rfl (lv_at hl 4 rfl) ?_
  refine lv_iload hx hb dL_law_1291 (lv_at hl 0 rfl) ?_
  refine lv_iconst (v := 3) hx hb dL_law_1293 (by decide) ?_
  refine lv_iadd hx hb dL_law_1294 ?_
  refine lv_topi (fun z_5 ez_5 => ?_)
  have kz_5 : z_5.toInt = vi.toInt + 3 := ti_add ez_5 rfl (by decide) (by omega) (by omega)
  clear ez_5
  refine va_sld hx hb hXs hbl hbA hS (vp_in_iff.mpr (by omega)) dL_law_1295 ?_
  refine lv_topi (fun z_6 ez_6 => ?_)
  refine lv_aload_n hx hb dL_law_1296 rfl (lv_at hl 4 rfl) ?_
  refine lv_iload hx hb dL_law_1297 (lv_at hl 0 rfl) ?_
  refine lv_iconst (v := 4) hx hb dL_law_1299 (by decide) ?_
  refine lv_iadd hx hb dL_law_1300 ?_
  refine lv_topi (fun z_7 ez_7 => ?_)
  have kz_7 : z_7.toInt = vi.toInt + 4 := ti_add ez_7 rfl (by decide) (by omega) (by omega)
  clear ez_7
  refine va_sld hx hb hXs hbl hbA hS (vp_in_iff.mpr (by omega)) dL_law_1301 ?_
  refine lv_topi (fun z_8 ez_8 => ?_)
  refine lv_if_eq (tgt := 1309) hx hb dL_law_1302 (by decide) (fun c_9 => ?_) (fun c_9 => ?_)
  · have kc_9 := il_eq c_9
    have := (by decide : (0 : Int32).toInt = 0)
    refine lv_iconst (v := 0) hx hb dL_law_1309 (by decide) ?_
    refine lv_aload_n hx hb dL_law_1310 rfl (lv_at hl 4 rfl) ?_
    refine lv_iload hx hb dL_law_1311 (lv_at hl 0 rfl) ?_
    refine lv_iconst (v := 5) hx hb dL_law_1313 (by decide) ?_
    refine lv_iadd hx hb dL_law_1314 ?_
    refine lv_topi (fun z_10 ez_10 => ?_)
    have kz_10 : z_10.toInt = vi.toInt + 5 := ti_add ez_10 rfl (by decide) (by omega) (by omega)
    clear ez_10
    refine va_sld hx hb hXs hbl hbA hS (vp_in_iff.mpr (by omega)) dL_law_1315 ?_
    refine lv_topi (fun z_11 ez_11 => ?_)
    refine xs_27 hx hb hml hown hT hA hAX (by omega) (by omega) hl (by decide) hX hS (fun r_12 H_12 lo_12 hX hfr hz hS => ?_)
    have hM := hM.keep (fun q hq h => hfr q hq (fun z => hd1 q z h))
    have hO := hO.keep (fun q hq h => hfr q hq (fun z => hd2 q z h))
    clear hfr hz
    refine lv_pop hx hb dL_law_1319 rfl ?_
    refine lv_aload_n hx hb dL_law_1320 rfl (lv_at hl 2 rfl) ?_
    refine lv_aload_n hx hb dL_law_1321 rfl (lv_at hl 4 rfl) ?_
    refine lv_iload hx hb dL_law_1322 (lv_at hl 0 rfl) ?_
    refine lv_iconst (v := 1) hx hb dL_law_1324 (by decide) ?_
    refine lv_iadd hx hb dL_law_1325 ?_
    refine lv_topi (fun z_13 ez_13 => ?_)
    have kz_13 : z_13.toInt = vi.toInt + 1 := ti_add ez_13 rfl (by decide) (by omega) (by omega)
    clear ez_13
    refine va_sld hx hb hXs hbl hbA hS (vp_in_iff.mpr (by omega)) dL_law_1326 ?_
    refine lv_topi (fun z_14 ez_14 => ?_)
    have hq_15 : z_2 = z_14 := ez_2.trans ((congrArg (fun q : Int32 => xs q.toNatClampNeg) (Int32.toInt_inj.mp (by omega))).trans ez_14.symm)
    clear ez_14
    subst hq_15
    refine lv_aload_n hx hb dL_law_1327 rfl (lv_at hl 4 rfl) ?_
    refine lv_iload hx hb dL_law_1328 (lv_at hl 0 rfl) ?_
    refine lv_iconst (v := 2) hx hb dL_law_1330 (by decide) ?_
    refine lv_iadd hx hb dL_law_1331 ?_
    refine lv_topi (fun z_16 ez_16 => ?_)
    have kz_16 : z_16.toInt = vi.toInt + 2 := ti_add ez_16 rfl (by decide) (by omega) (by omega)
    clear ez_16
    refine va_sld hx hb hXs hbl hbA hS (vp_in_iff.mpr (by omega)) dL_law_1332 ?_
    refine lv_topi (fun z_17 ez_17 => ?_)
    have hq_18 : z_4 = z_17 := ez_4.trans ((congrArg (fun q : Int32 => xs q.toNatClampNeg) (Int32.toInt_inj.mp (by omega))).trans ez_17.symm)
    clear ez_17
    subst hq_18
    refine lv_aload_n hx hb dL_law_1333 rfl (lv_at hl 4 rfl) ?_
    refine lv_iload hx hb dL_law_1334 (lv_at hl 0 rfl) ?_
    refine lv_iconst (v := 3) hx hb dL_law_1336 (by decide) ?_
    refine lv_iadd hx hb dL_law_1337 ?_
    refine lv_topi (fun z_19 ez_19 => ?_)
    have kz_19 : z_19.toInt = vi.toInt + 3 := ti_add ez_19 rfl (by decide) (by omega) (by omega)
    clear ez_19
    refine va_sld hx hb hXs hbl hbA hS (vp_in_iff.mpr (by omega)) dL_law_1338 ?_
    refine lv_topi (fun z_20 ez_20 => ?_)
    have hq_21 : z_6 = z_20 := ez_6.trans ((congrArg (fun q : Int32 => xs q.toNatClampNeg) (Int32.toInt_inj.mp (by omega))).trans ez_20.symm)
    clear ez_20
    subst hq_21
    refine lv_aload_n hx hb dL_law_1339 rfl (lv_at hl 4 rfl) ?_
    refine lv_iload hx hb dL_law_1340 (lv_at hl 0 rfl) ?_
    refine lv_iconst (v := 4) hx hb dL_law_1342 (by decide) ?_
    refine lv_iadd hx hb dL_law_1343 ?_
    refine lv_topi (fun z_22 ez_22 => ?_)
    have kz_22 : z_22.toInt = vi.toInt + 4 := ti_add ez_22 rfl (by decide) (by omega) (by omega)
    clear ez_22
    refine va_sld hx hb hXs hbl hbA hS (vp_in_iff.mpr (by omega)) dL_law_1344 ?_
    refine lv_topi (fun z_23 ez_23 => ?_)
    have hq_24 : z_8 = z_23 := ez_8.trans ((congrArg (fun q : Int32 => xs q.toNatClampNeg) (Int32.toInt_inj.mp (by omega))).trans ez_23.symm)
    clear ez_23
    subst hq_24
    refine lv_if_eq (tgt := 1352) hx hb dL_law_1345 (by decide) (fun c_25 => ?_) (fun c_25 => False.elim (by have := il_ne c_25; have := (by decide : (0 : Int32).toInt = 0); omega))
    have kc_25 := il_eq c_25
    have := (by decide : (0 : Int32).toInt = 0)
    refine lv_iconst (v := 0) hx hb dL_law_1352 (by decide) ?_
    refine lv_aload_n hx hb dL_law_1353 rfl (lv_at hl 4 rfl) ?_
    refine lv_iload hx hb dL_law_1354 (lv_at hl 0 rfl) ?_
    refine lv_iconst (v := 5) hx hb dL_law_1356 (by decide) ?_
    refine lv_iadd hx hb dL_law_1357 ?_
    refine lv_topi (fun z_26 ez_26 => ?_)
    have kz_26 : z_26.toInt = vi.toInt + 5 := ti_add ez_26 rfl (by decide) (by omega) (by omega)
    clear ez_26
    refine va_sld hx hb hXs hbl hbA hS (vp_in_iff.mpr (by omega)) dL_law_1358 ?_
    refine lv_topi (fun z_27 ez_27 => ?_)
    have hq_28 : z_11 = z_27 := ez_11.trans ((congrArg (fun q : Int32 => xs q.toNatClampNeg) (Int32.toInt_inj.mp (by omega))).trans ez_27.symm)
    clear ez_27
    subst hq_28
    refine ms_27 hx hb hml hown hT hA hAM (by omega) (by omega) hl (by decide) hM hS (fun r_29 H_29 lo_29 hM hfr hz hS => ?_)
    have hX := hX.keep (fun q hq h => hfr q hq (fun z => hd1 q h z))
    have hO := hO.keep (fun q hq h => hfr q hq (fun z => hd3 q z h))
    clear hfr hz
    refine lv_pop hx hb dL_law_1362 rfl ?_
    refine lv_goto (tgt := 1454) hx hb dL_law_1363 (by decide) ?_
    refine W.widen (k := kc + 1) (n := ks + 6) (by omega) (by omega) ?_
    exact kk H_29 lo_29 _ rr_bytes rr_fault rr_place f_rr_tape zX cn_hour ci_hour xx_imageKept rd_count rd_knownFirst cn_passings ci_passings mm_taped mm_lastFault mm_lastPlace f_mm_tape zM mm_next mm_imageNext mm_hasImage mm_readings mm_knownBy mm_passings mm_imagePassings hbt hta hfa hpl hdd hho hih him hrc hrk hps hip hX hM hO hS (lv_sub hl [0, 1, 2, 3, 4] rfl)
  · have kc_9 := il_ne c_9
    have := (by decide : (0 : Int32).toInt = 0)
    refine lv_iconst (v := 1) hx hb dL_law_1305 (by decide) ?_
    refine lv_goto (tgt := 1310) hx hb dL_law_1306 (by decide) ?_
    refine lv_aload_n hx hb dL_law_1310 rfl (lv_at hl 4 rfl) ?_
    refine lv_iload hx hb dL_law_1311 (lv_at hl 0 rfl) ?_
    refine lv_iconst (v := 5) hx hb dL_law_1313 (by decide) ?_
    refine lv_iadd hx hb dL_law_1314 ?_
    refine lv_topi (fun z_30 ez_30 => ?_)
    have kz_30 : z_30.toInt = vi.toInt + 5 := ti_add ez_30 rfl (by decide) (by omega) (by omega)
    clear ez_30
    refine va_sld hx hb hXs hbl hbA hS (vp_in_iff.mpr (by omega)) dL_law_1315 ?_
    refine lv_topi (fun z_31 ez_31 => ?_)
    refine xs_27 hx hb hml hown hT hA hAX (by omega) (by omega) hl (by decide) hX hS (fun r_32 H_32 lo_32 hX hfr hz hS => ?_)
    have hM := hM.keep (fun q hq h => hfr q hq (fun z => hd1 q z h))
    have hO := hO.keep (fun q hq h => hfr q hq (fun z => hd2 q z h))
    clear hfr hz
    refine lv_pop hx hb dL_law_1319 rfl ?_
    refine lv_aload_n hx hb dL_law_1320 rfl (lv_at hl 2 rfl) ?_
    refine lv_aload_n hx hb dL_law_1321 rfl (lv_at hl 4 rfl) ?_
    refine lv_iload hx hb dL_law_1322 (lv_at hl 0 rfl) ?_
    refine lv_iconst (v := 1) hx hb dL_law_1324 (by decide) ?_
    refine lv_iadd hx hb dL_law_1325 ?_
    refine lv_topi (fun z_33 ez_33 => ?_)
    have kz_33 : z_33.toInt = vi.toInt + 1 := ti_add ez_33 rfl (by decide) (by omega) (by omega)
    clear ez_33
    refine va_sld hx hb hXs hbl hbA hS (vp_in_iff.mpr (by omega)) dL_law_1326 ?_
    refine lv_topi (fun z_34 ez_34 => ?_)
    have hq_35 : z_2 = z_34 := ez_2.trans ((congrArg (fun q : Int32 => xs q.toNatClampNeg) (Int32.toInt_inj.mp (by omega))).trans ez_34.symm)
    clear ez_34
    subst hq_35
    refine lv_aload_n hx hb dL_law_1327 rfl (lv_at hl 4 rfl) ?_
    refine lv_iload hx hb dL_law_1328 (lv_at hl 0 rfl) ?_
    refine lv_iconst (v := 2) hx hb dL_law_1330 (by decide) ?_
    refine lv_iadd hx hb dL_law_1331 ?_
    refine lv_topi (fun z_36 ez_36 => ?_)
    have kz_36 : z_36.toInt = vi.toInt + 2 := ti_add ez_36 rfl (by decide) (by omega) (by omega)
    clear ez_36
    refine va_sld hx hb hXs hbl hbA hS (vp_in_iff.mpr (by omega)) dL_law_1332 ?_
    refine lv_topi (fun z_37 ez_37 => ?_)
    have hq_38 : z_4 = z_37 := ez_4.trans ((congrArg (fun q : Int32 => xs q.toNatClampNeg) (Int32.toInt_inj.mp (by omega))).trans ez_37.symm)
    clear ez_37
    subst hq_38
    refine lv_aload_n hx hb dL_law_1333 rfl (lv_at hl 4 rfl) ?_
    refine lv_iload hx hb dL_law_1334 (lv_at hl 0 rfl) ?_
    refine lv_iconst (v := 3) hx hb dL_law_1336 (by decide) ?_
    refine lv_iadd hx hb dL_law_1337 ?_
    refine lv_topi (fun z_39 ez_39 => ?_)
    have kz_39 : z_39.toInt = vi.toInt + 3 := ti_add ez_39 rfl (by decide) (by omega) (by omega)
    clear ez_39
    refine va_sld hx hb hXs hbl hbA hS (vp_in_iff.mpr (by omega)) dL_law_1338 ?_
    refine lv_topi (fun z_40 ez_40 => ?_)
    have hq_41 : z_6 = z_40 := ez_6.trans ((congrArg (fun q : Int32 => xs q.toNatClampNeg) (Int32.toInt_inj.mp (by omega))).trans ez_40.symm)
    clear ez_40
    subst hq_41
    refine lv_aload_n hx hb dL_law_1339 rfl (lv_at hl 4 rfl) ?_
    refine lv_iload hx hb dL_law_1340 (lv_at hl 0 rfl) ?_
    refine lv_iconst (v := 4) hx hb dL_law_1342 (by decide) ?_
    refine lv_iadd hx hb dL_law_1343 ?_
    refine lv_topi (fun z_42 ez_42 => ?_)
    have kz_42 : z_42.toInt = vi.toInt + 4 := ti_add ez_42 rfl (by decide) (by omega) (by omega)
    clear ez_42
    refine va_sld hx hb hXs hbl hbA hS (vp_in_iff.mpr (by omega)) dL_law_1344 ?_
    refine lv_topi (fun z_43 ez_43 => ?_)
    have hq_44 : z_8 = z_43 := ez_8.trans ((congrArg (fun q : Int32 => xs q.toNatClampNeg) (Int32.toInt_inj.mp (by omega))).trans ez_43.symm)
    clear ez_43
    subst hq_44
    refine lv_if_eq (tgt := 1352) hx hb dL_law_1345 (by decide) (fun c_45 => False.elim (by have := il_eq c_45; have := (by decide : (0 : Int32).toInt = 0); omega)) (fun c_45 => ?_)
    have kc_45 := il_ne c_45
    have := (by decide : (0 : Int32).toInt = 0)
    refine lv_iconst (v := 1) hx hb dL_law_1348 (by decide) ?_
    refine lv_goto (tgt := 1353) hx hb dL_law_1349 (by decide) ?_
    refine lv_aload_n hx hb dL_law_1353 rfl (lv_at hl 4 rfl) ?_
    refine lv_iload hx hb dL_law_1354 (lv_at hl 0 rfl) ?_
    refine lv_iconst (v := 5) hx hb dL_law_1356 (by decide) ?_
    refine lv_iadd hx hb dL_law_1357 ?_
    refine lv_topi (fun z_46 ez_46 => ?_)
    have kz_46 : z_46.toInt = vi.toInt + 5 := ti_add ez_46 rfl (by decide) (by omega) (by omega)
    clear ez_46
    refine va_sld hx hb hXs hbl hbA hS (vp_in_iff.mpr (by omega)) dL_law_1358 ?_
    refine lv_topi (fun z_47 ez_47 => ?_)
    have hq_48 : z_31 = z_47 := ez_31.trans ((congrArg (fun q : Int32 => xs q.toNatClampNeg) (Int32.toInt_inj.mp (by omega))).trans ez_47.symm)
    clear ez_47
    subst hq_48
    refine ms_27 hx hb hml hown hT hA hAM (by omega) (by omega) hl (by decide) hM hS (fun r_49 H_49 lo_49 hM hfr hz hS => ?_)
    have hX := hX.keep (fun q hq h => hfr q hq (fun z => hd1 q h z))
    have hO := hO.keep (fun q hq h => hfr q hq (fun z => hd3 q z h))
    clear hfr hz
    refine lv_pop hx hb dL_law_1362 rfl ?_
    refine lv_goto (tgt := 1454) hx hb dL_law_1363 (by decide) ?_
    refine W.widen (k := kc + 1) (n := ks + 6) (by omega) (by omega) ?_
    exact kk H_49 lo_49 _ rr_bytes rr_fault rr_place f_rr_tape zX cn_hour ci_hour xx_imageKept rd_count rd_knownFirst cn_passings ci_passings mm_taped mm_lastFault mm_lastPlace f_mm_tape zM mm_next mm_imageNext mm_hasImage mm_readings mm_knownBy mm_passings mm_imagePassings hbt hta hfa hpl hdd hho hih him hrc hrk hps hip hX hM hO hS (lv_sub hl [0, 1, 2, 3, 4] rfl)
set_option maxHeartbeats 4000000 in
set_option maxRecDepth 100000 in
theorem law_op_28 {p : Program} {l : Launch} {e : Env} {s : State} {m : MethodId} {below : List Frame} {meth : Method} {c : Code} {dC : Nat → ClassId} {dI : Nat → Nat → Nat} {b : Nat} {L : Nat} {xs : Nat → Int32} {A AX AM AO : Nat → Prop} {Q : State → Prop} (hx : p.tables.exec = Jvm.exec) (hb : c.code = cL_law) (hml : c.maxLocals = 7) (hown : s.vm.findClass RL = some m.cls) (hT : ∀ w ∈ pw_T, w.before #[Value.ref b] s = true) (hA : ∀ q, s.heap.size ≤ q → A q) (hAX : ∀ q, AX q → A q) (hAM : ∀ q, AM q → A q) (hAO : ∀ q, AO q → A q) (hd1 : ∀ q, AX q → ¬ AM q) (hd2 : ∀ q, AX q → ¬ AO q) (hd3 : ∀ q, AM q → ¬ AO q) (hXs : va_X b L xs s s.heap) (hbl : b < s.heap.size) (hbA : ¬ A b) (hL : L ≤ 3584) {kc ks : Nat} (hkc : kc + 4 ≤ 601024) (hks : ks + 24 ≤ 7293034) {vi : Int32} {xx mm oo : Nat} {rr_bytes : Int32} {rr_fault : Int32} {rr_place : Int32} {f_rr_tape : Nat → Int32} {zX : ZZ} {cn_hour : Int32} {ci_hour : Int32} {xx_imageKept : Int32} {rd_count : Int32} {rd_knownFirst : Int32} {cn_passings : Int32} {ci_passings : Int32} {mm_taped : Int32} {mm_lastFault : Int32} {mm_lastPlace : Int32} {f_mm_tape : Nat → Int32} {zM : ZZ} {mm_next : Int32} {mm_imageNext : Int32} {mm_hasImage : Int32} {mm_readings : Int32} {mm_knownBy : Int32} {mm_passings : Int32} {mm_imagePassings : Int32} (hv0 : 0 ≤ vi.toInt) (hv1 : vi.toInt + 7 ≤ (L : Int)) (hbt : rr_bytes.toInt = mm_taped.toInt) (hta : BTt f_rr_tape f_mm_tape rr_bytes.toInt) (hfa : rr_fault = mm_lastFault) (hpl : rr_place = mm_lastPlace) (hdd : zX = zM) (hho : cn_hour.toInt = mm_next.toInt) (hih : ci_hour.toInt = mm_imageNext.toInt) (him : xx_imageKept.toInt = mm_hasImage.toInt) (hrc : rd_count.toInt = mm_readings.toInt) (hrk : rd_knownFirst.toInt = mm_knownBy.toInt) (hps : cn_passings = mm_passings) (hip : ci_passings = mm_imagePassings) {H : Heap} {locs : List Loc} {ls : Array Slot} (hX : XW dC dI AX s H xx rr_bytes rr_fault rr_place f_rr_tape zX cn_hour ci_hour xx_imageKept rd_count rd_knownFirst cn_passings ci_passings) (hM : MW dC dI AM s H mm mm_taped mm_lastFault mm_lastPlace f_mm_tape zM mm_next mm_imageNext mm_hasImage mm_readings mm_knownBy mm_passings mm_imagePassings) (hO : OW dC dI AO s H oo) (hS : va_S A s.heap H locs) (hl : lv_has ls 7 [(4, .int vi), (3, .ref oo), (2, .ref mm), (1, .ref xx), (0, .ref b)]) (kk : ∀ (H1 : Heap) (locs1 : List Loc) (ls1 : Array Slot) (n_rr_bytes : Int32) (n_rr_fault : Int32) (n_rr_place : Int32) (n_f_rr_tape : Nat → Int32) (n_zX : ZZ) (n_cn_hour : Int32) (n_ci_hour : Int32) (n_xx_imageKept : Int32) (n_rd_count : Int32) (n_rd_knownFirst : Int32) (n_cn_passings : Int32) (n_ci_passings : Int32) (n_mm_taped : Int32) (n_mm_lastFault : Int32) (n_mm_lastPlace : Int32) (n_f_mm_tape : Nat → Int32) (n_zM : ZZ) (n_mm_next : Int32) (n_mm_imageNext : Int32) (n_mm_hasImage : Int32) (n_mm_readings : Int32) (n_mm_knownBy : Int32) (n_mm_passings : Int32) (n_mm_imagePassings : Int32), n_rr_bytes.toInt = n_mm_taped.toInt → BTt n_f_rr_tape n_f_mm_tape n_rr_bytes.toInt → n_rr_fault = n_mm_lastFault → n_rr_place = n_mm_lastPlace → n_zX = n_zM → n_cn_hour.toInt = n_mm_next.toInt → n_ci_hour.toInt = n_mm_imageNext.toInt → n_xx_imageKept.toInt = n_mm_hasImage.toInt → n_rd_count.toInt = n_mm_readings.toInt → n_rd_knownFirst.toInt = n_mm_knownBy.toInt → n_cn_passings = n_mm_passings → n_ci_passings = n_mm_imagePassings → XW dC dI AX s H1 xx n_rr_bytes n_rr_fault n_rr_place n_f_rr_tape n_zX n_cn_hour n_ci_hour n_xx_imageKept n_rd_count n_rd_knownFirst n_cn_passings n_ci_passings → MW dC dI AM s H1 mm n_mm_taped n_mm_lastFault n_mm_lastPlace n_f_mm_tape n_zM n_mm_next n_mm_imageNext n_mm_hasImage n_mm_readings n_mm_knownBy n_mm_passings n_mm_imagePassings → OW dC dI AO s H1 oo → va_S A s.heap H1 locs1 → lv_has ls1 7 [(4, .int vi), (3, .ref oo), (2, .ref mm), (1, .ref xx), (0, .ref b)] → W p l e room_1 s m #[Value.ref b] below meth c H1 locs1 (kc + 1) (ks + 6) Q (F0 m 1454 ls1 [])) : W p l e room_1 s m #[Value.ref b] below meth c H locs kc ks Q (F0 m 1366 ls []) := by
  refine lv_aload_n hx hb dL_law_1366 rfl (lv_at hl 3 rfl) ?_
  refine lv_aload_n hx hb dL_law_1367 rfl (lv_at hl 4 rfl) ?_
  refine lv_iload hx hb dL_law_1368 (lv_at hl 0 rfl) ?_
  refine lv_iconst (v := 1) hx hb dL_law_1370 (by decide) ?_
  refine lv_iadd hx hb dL_law_1371 ?_
  refine lv_topi (fun z_1 ez_1 => ?_)
  have kz_1 : z_1.toInt = vi.toInt + 1 := ti_add ez_1 rfl (by decide) (by omega) (by omega)
  clear ez_1
  refine va_sld hx hb hXs hbl hbA hS (vp_in_iff.mpr (by omega)) dL_law_1372 ?_
  refine lv_topi (fun z_2 ez_2 => ?_)
  refine lv_aload_n hx hb dL_law_1373 rfl (lv_at hl 4 rfl) ?_
  refine lv_iload hx hb dL_law_1374 (lv_at hl 0 rfl) ?_
  refine lv_iconst (v := 2) hx hb dL_law_1376 (by decide) ?_
  refine lv_iadd hx hb dL_law_1377 ?_
  refine lv_topi (fun z_3 ez_3 => ?_)
  have kz_3 : z_3.toInt = vi.toInt + 2 := ti_add ez_3 rfl (by decide) (by omega) (by omega)
  clear ez_3
  refine va_sld hx hb hXs hbl hbA hS (vp_in_iff.mpr (by omega)) dL_law_1378 ?_
  refine lv_topi (fun z_4 ez_4 => ?_)
  refine xs_28 hx hb hml hown hT hA hAX (by omega) (by omega) hl hX hS (fun r_5 H_5 lo_5 hX hfr hz hS => ?_)
  have hM := hM.keep (fun q hq h => hfr q hq (fun z => hd1 q z h))
  have hO := hO.keep (fun q hq h => hfr q hq (fun z => hd2 q z h))
  clear hfr hz
  refine lv_pop hx hb dL_law_1382 rfl ?_
  refine lv_aload_n hx hb dL_law_1383 rfl (lv_at hl 2 rfl) ?_
  refine lv_aload_n hx hb dL_law_1384 rfl (lv_at hl 4 rfl) ?_
  refine lv_iload hx hb dL_law_1385 (lv_at hl 0 rfl) ?_
  refine lv_iconst (v := 1) hx hb dL_law_1387 (by decide) ?_
  refine lv_iadd hx hb dL_law_1388 ?_
  refine lv_topi (fun z_6 ez_6 => ?_)
  have kz_6 : z_6.toInt = vi.toInt + 1 := ti_add ez_6 rfl (by decide) (by omega) (by omega)
  clear ez_6
  refine va_sld hx hb hXs hbl hbA hS (vp_in_iff.mpr (by omega)) dL_law_1389 ?_
  refine lv_topi (fun z_7 ez_7 => ?_)
  have hq_8 : z_2 = z_7 := ez_2.trans ((congrArg (fun q : Int32 => xs q.toNatClampNeg) (Int32.toInt_inj.mp (by omega))).trans ez_7.symm)
  clear ez_7
  subst hq_8
  refine lv_aload_n hx hb dL_law_1390 rfl (lv_at hl 4 rfl) ?_
  refine lv_iload hx hb dL_law_1391 (lv_at hl 0 rfl) ?_
  refine lv_iconst (v := 2) hx hb dL_law_1393 (by decide) ?_
  refine lv_iadd hx hb dL_law_1394 ?_
  refine lv_topi (fun z_9 ez_9 => ?_)
  have kz_9 : z_9.toInt = vi.toInt + 2 := ti_add ez_9 rfl (by decide) (by omega) (by omega)
  clear ez_9
  refine va_sld hx hb hXs hbl hbA hS (vp_in_iff.mpr (by omega)) dL_law_1395 ?_
  refine lv_topi (fun z_10 ez_10 => ?_)
  have hq_11 : z_4 = z_10 := ez_4.trans ((congrArg (fun q : Int32 => xs q.toNatClampNeg) (Int32.toInt_inj.mp (by omega))).trans ez_10.symm)
  clear ez_10
  subst hq_11
  refine ms_28 hx hb hml hown hT hA hAM (by omega) (by omega) hl hM hS (fun r_12 H_12 lo_12 hM hfr hz hS => ?_)
  have hX := hX.keep (fun q hq h => hfr q hq (fun z => hd1 q h z))
  have hO := hO.keep (fun q hq h => hfr q hq (fun z => hd3 q z h))
  clear hfr hz
  refine lv_pop hx hb dL_law_1399 rfl ?_
  refine lv_goto (tgt := 1454) hx hb dL_law_1400 (by decide) ?_
  refine W.widen (k := kc + 1) (n := ks + 6) (by omega) (by omega) ?_
  exact kk H_12 lo_12 _ rr_bytes rr_fault rr_place f_rr_tape zX cn_hour ci_hour xx_imageKept rd_count rd_knownFirst cn_passings ci_passings mm_taped mm_lastFault mm_lastPlace f_mm_tape zM mm_next mm_imageNext mm_hasImage mm_readings mm_knownBy mm_passings mm_imagePassings hbt hta hfa hpl hdd hho hih him hrc hrk hps hip hX hM hO hS (lv_sub hl [0, 1, 2, 3, 4] rfl)
set_option maxHeartbeats 4000000 in
set_option maxRecDepth 100000 in
theorem law_op_29 {p : Program} {l : Launch} {e : Env} {s : State} {m : MethodId} {below : List Frame} {meth : Method} {c : Code} {dC : Nat → ClassId} {dI : Nat → Nat → Nat} {b : Nat} {L : Nat} {xs : Nat → Int32} {A AX AM AO : Nat → Prop} {Q : State → Prop} (hx : p.tables.exec = Jvm.exec) (hb : c.code = cL_law) (hml : c.maxLocals = 7) (hown : s.vm.findClass RL = some m.cls) (hT : ∀ w ∈ pw_T, w.before #[Value.ref b] s = true) (hA : ∀ q, s.heap.size ≤ q → A q) (hAX : ∀ q, AX q → A q) (hAM : ∀ q, AM q → A q) (hAO : ∀ q, AO q → A q) (hd1 : ∀ q, AX q → ¬ AM q) (hd2 : ∀ q, AX q → ¬ AO q) (hd3 : ∀ q, AM q → ¬ AO q) (hXs : va_X b L xs s s.heap) (hbl : b < s.heap.size) (hbA : ¬ A b) (hL : L ≤ 3584) {kc ks : Nat} (hkc : kc + 4 ≤ 601024) (hks : ks + 24 ≤ 7293034) {vi : Int32} {xx mm oo : Nat} {rr_bytes : Int32} {rr_fault : Int32} {rr_place : Int32} {f_rr_tape : Nat → Int32} {zX : ZZ} {cn_hour : Int32} {ci_hour : Int32} {xx_imageKept : Int32} {rd_count : Int32} {rd_knownFirst : Int32} {cn_passings : Int32} {ci_passings : Int32} {mm_taped : Int32} {mm_lastFault : Int32} {mm_lastPlace : Int32} {f_mm_tape : Nat → Int32} {zM : ZZ} {mm_next : Int32} {mm_imageNext : Int32} {mm_hasImage : Int32} {mm_readings : Int32} {mm_knownBy : Int32} {mm_passings : Int32} {mm_imagePassings : Int32} (hv0 : 0 ≤ vi.toInt) (hv1 : vi.toInt + 7 ≤ (L : Int)) (hbt : rr_bytes.toInt = mm_taped.toInt) (hta : BTt f_rr_tape f_mm_tape rr_bytes.toInt) (hfa : rr_fault = mm_lastFault) (hpl : rr_place = mm_lastPlace) (hdd : zX = zM) (hho : cn_hour.toInt = mm_next.toInt) (hih : ci_hour.toInt = mm_imageNext.toInt) (him : xx_imageKept.toInt = mm_hasImage.toInt) (hrc : rd_count.toInt = mm_readings.toInt) (hrk : rd_knownFirst.toInt = mm_knownBy.toInt) (hps : cn_passings = mm_passings) (hip : ci_passings = mm_imagePassings) {H : Heap} {locs : List Loc} {ls : Array Slot} (hX : XW dC dI AX s H xx rr_bytes rr_fault rr_place f_rr_tape zX cn_hour ci_hour xx_imageKept rd_count rd_knownFirst cn_passings ci_passings) (hM : MW dC dI AM s H mm mm_taped mm_lastFault mm_lastPlace f_mm_tape zM mm_next mm_imageNext mm_hasImage mm_readings mm_knownBy mm_passings mm_imagePassings) (hO : OW dC dI AO s H oo) (hS : va_S A s.heap H locs) (hl : lv_has ls 7 [(4, .int vi), (3, .ref oo), (2, .ref mm), (1, .ref xx), (0, .ref b)]) (kk : ∀ (H1 : Heap) (locs1 : List Loc) (ls1 : Array Slot) (n_rr_bytes : Int32) (n_rr_fault : Int32) (n_rr_place : Int32) (n_f_rr_tape : Nat → Int32) (n_zX : ZZ) (n_cn_hour : Int32) (n_ci_hour : Int32) (n_xx_imageKept : Int32) (n_rd_count : Int32) (n_rd_knownFirst : Int32) (n_cn_passings : Int32) (n_ci_passings : Int32) (n_mm_taped : Int32) (n_mm_lastFault : Int32) (n_mm_lastPlace : Int32) (n_f_mm_tape : Nat → Int32) (n_zM : ZZ) (n_mm_next : Int32) (n_mm_imageNext : Int32) (n_mm_hasImage : Int32) (n_mm_readings : Int32) (n_mm_knownBy : Int32) (n_mm_passings : Int32) (n_mm_imagePassings : Int32), n_rr_bytes.toInt = n_mm_taped.toInt → BTt n_f_rr_tape n_f_mm_tape n_rr_bytes.toInt → n_rr_fault = n_mm_lastFault → n_rr_place = n_mm_lastPlace → n_zX = n_zM → n_cn_hour.toInt = n_mm_next.toInt → n_ci_hour.toInt = n_mm_imageNext.toInt → n_xx_imageKept.toInt = n_mm_hasImage.toInt → n_rd_count.toInt = n_mm_readings.toInt → n_rd_knownFirst.toInt = n_mm_knownBy.toInt → n_cn_passings = n_mm_passings → n_ci_passings = n_mm_imagePassings → XW dC dI AX s H1 xx n_rr_bytes n_rr_fault n_rr_place n_f_rr_tape n_zX n_cn_hour n_ci_hour n_xx_imageKept n_rd_count n_rd_knownFirst n_cn_passings n_ci_passings → MW dC dI AM s H1 mm n_mm_taped n_mm_lastFault n_mm_lastPlace n_f_mm_tape n_zM n_mm_next n_mm_imageNext n_mm_hasImage n_mm_readings n_mm_knownBy n_mm_passings n_mm_imagePassings → OW dC dI AO s H1 oo → va_S A s.heap H1 locs1 → lv_has ls1 7 [(4, .int vi), (3, .ref oo), (2, .ref mm), (1, .ref xx), (0, .ref b)] → W p l e room_1 s m #[Value.ref b] below meth c H1 locs1 (kc + 1) (ks + 6) Q (F0 m 1454 ls1 [])) : W p l e room_1 s m #[Value.ref b] below meth c H locs kc ks Q (F0 m 1403 ls []) := by
  refine lv_aload_n hx hb dL_law_1403 rfl (lv_at hl 3 rfl) ?_
  refine xs_29 hx hb hml hown hT hA hAX (by omega) (by omega) hl hX hS (fun r_1 H_1 lo_1 b1_ci_hour b1_xx_imageKept b1_ci_passings hX ho1_0 ho1_1 hfr hz hS => ?_)
  have hM := hM.keep (fun q hq h => hfr q hq (fun z => hd1 q z h))
  have hO := hO.keep (fun q hq h => hfr q hq (fun z => hd2 q z h))
  clear hfr hz
  refine lv_pop hx hb dL_law_1407 rfl ?_
  refine lv_aload_n hx hb dL_law_1408 rfl (lv_at hl 2 rfl) ?_
  refine ms_29 hx hb hml hown hT hA hAM (by omega) (by omega) hl hM hS (fun r_2 H_2 lo_2 b2_mm_imageNext b2_mm_hasImage b2_mm_imagePassings hM ho2_0 ho2_1 hfr hz hS => ?_)
  have hX := hX.keep (fun q hq h => hfr q hq (fun z => hd1 q h z))
  have hO := hO.keep (fun q hq h => hfr q hq (fun z => hd3 q z h))
  clear hfr hz
  have hag1 : r_1.toInt = r_2.toInt := by omega
  have hipn := ho1_1.trans (hps.trans ho2_1.symm)
  refine lv_pop hx hb dL_law_1412 rfl ?_
  refine lv_goto (tgt := 1454) hx hb dL_law_1413 (by decide) ?_
  refine W.widen (k := kc + 1) (n := ks + 6) (by omega) (by omega) ?_
  exact kk H_2 lo_2 _ rr_bytes rr_fault rr_place f_rr_tape zX cn_hour b1_ci_hour b1_xx_imageKept rd_count rd_knownFirst cn_passings b1_ci_passings mm_taped mm_lastFault mm_lastPlace f_mm_tape zM mm_next b2_mm_imageNext b2_mm_hasImage mm_readings mm_knownBy mm_passings b2_mm_imagePassings hbt hta hfa hpl hdd hho (by omega) (by omega) hrc hrk hps hipn hX hM hO hS (lv_sub hl [0, 1, 2, 3, 4] rfl)
set_option maxHeartbeats 4000000 in
set_option maxRecDepth 100000 in
theorem law_op_30 {p : Program} {l : Launch} {e : Env} {s : State} {m : MethodId} {below : List Frame} {meth : Method} {c : Code} {dC : Nat → ClassId} {dI : Nat → Nat → Nat} {b : Nat} {L : Nat} {xs : Nat → Int32} {A AX AM AO : Nat → Prop} {Q : State → Prop} (hx : p.tables.exec = Jvm.exec) (hb : c.code = cL_law) (hml : c.maxLocals = 7) (hown : s.vm.findClass RL = some m.cls) (hT : ∀ w ∈ pw_T, w.before #[Value.ref b] s = true) (hA : ∀ q, s.heap.size ≤ q → A q) (hAX : ∀ q, AX q → A q) (hAM : ∀ q, AM q → A q) (hAO : ∀ q, AO q → A q) (hd1 : ∀ q, AX q → ¬ AM q) (hd2 : ∀ q, AX q → ¬ AO q) (hd3 : ∀ q, AM q → ¬ AO q) (hXs : va_X b L xs s s.heap) (hbl : b < s.heap.size) (hbA : ¬ A b) (hL : L ≤ 3584) {kc ks : Nat} (hkc : kc + 4 ≤ 601024) (hks : ks + 24 ≤ 7293034) {vi : Int32} {xx mm oo : Nat} {rr_bytes : Int32} {rr_fault : Int32} {rr_place : Int32} {f_rr_tape : Nat → Int32} {zX : ZZ} {cn_hour : Int32} {ci_hour : Int32} {xx_imageKept : Int32} {rd_count : Int32} {rd_knownFirst : Int32} {cn_passings : Int32} {ci_passings : Int32} {mm_taped : Int32} {mm_lastFault : Int32} {mm_lastPlace : Int32} {f_mm_tape : Nat → Int32} {zM : ZZ} {mm_next : Int32} {mm_imageNext : Int32} {mm_hasImage : Int32} {mm_readings : Int32} {mm_knownBy : Int32} {mm_passings : Int32} {mm_imagePassings : Int32} (hv0 : 0 ≤ vi.toInt) (hv1 : vi.toInt + 7 ≤ (L : Int)) (hbt : rr_bytes.toInt = mm_taped.toInt) (hta : BTt f_rr_tape f_mm_tape rr_bytes.toInt) (hfa : rr_fault = mm_lastFault) (hpl : rr_place = mm_lastPlace) (hdd : zX = zM) (hho : cn_hour.toInt = mm_next.toInt) (hih : ci_hour.toInt = mm_imageNext.toInt) (him : xx_imageKept.toInt = mm_hasImage.toInt) (hrc : rd_count.toInt = mm_readings.toInt) (hrk : rd_knownFirst.toInt = mm_knownBy.toInt) (hps : cn_passings = mm_passings) (hip : ci_passings = mm_imagePassings) {H : Heap} {locs : List Loc} {ls : Array Slot} (hX : XW dC dI AX s H xx rr_bytes rr_fault rr_place f_rr_tape zX cn_hour ci_hour xx_imageKept rd_count rd_knownFirst cn_passings ci_passings) (hM : MW dC dI AM s H mm mm_taped mm_lastFault mm_lastPlace f_mm_tape zM mm_next mm_imageNext mm_hasImage mm_readings mm_knownBy mm_passings mm_imagePassings) (hO : OW dC dI AO s H oo) (hS : va_S A s.heap H locs) (hl : lv_has ls 7 [(4, .int vi), (3, .ref oo), (2, .ref mm), (1, .ref xx), (0, .ref b)]) (kk : ∀ (H1 : Heap) (locs1 : List Loc) (ls1 : Array Slot) (n_rr_bytes : Int32) (n_rr_fault : Int32) (n_rr_place : Int32) (n_f_rr_tape : Nat → Int32) (n_zX : ZZ) (n_cn_hour : Int32) (n_ci_hour : Int32) (n_xx_imageKept : Int32) (n_rd_count : Int32) (n_rd_knownFirst : Int32) (n_cn_passings : Int32) (n_ci_passings : Int32) (n_mm_taped : Int32) (n_mm_lastFault : Int32) (n_mm_lastPlace : Int32) (n_f_mm_tape : Nat → Int32) (n_zM : ZZ) (n_mm_next : Int32) (n_mm_imageNext : Int32) (n_mm_hasImage : Int32) (n_mm_readings : Int32) (n_mm_knownBy : Int32) (n_mm_passings : Int32) (n_mm_imagePassings : Int32), n_rr_bytes.toInt = n_mm_taped.toInt → BTt n_f_rr_tape n_f_mm_tape n_rr_bytes.toInt → n_rr_fault = n_mm_lastFault → n_rr_place = n_mm_lastPlace → n_zX = n_zM → n_cn_hour.toInt = n_mm_next.toInt → n_ci_hour.toInt = n_mm_imageNext.toInt → n_xx_imageKept.toInt = n_mm_hasImage.toInt → n_rd_count.toInt = n_mm_readings.toInt → n_rd_knownFirst.toInt = n_mm_knownBy.toInt → n_cn_passings = n_mm_passings → n_ci_passings = n_mm_imagePassings → XW dC dI AX s H1 xx n_rr_bytes n_rr_fault n_rr_place n_f_rr_tape n_zX n_cn_hour n_ci_hour n_xx_imageKept n_rd_count n_rd_knownFirst n_cn_passings n_ci_passings → MW dC dI AM s H1 mm n_mm_taped n_mm_lastFault n_mm_lastPlace n_f_mm_tape n_zM n_mm_next n_mm_imageNext n_mm_hasImage n_mm_readings n_mm_knownBy n_mm_passings n_mm_imagePassings → OW dC dI AO s H1 oo → va_S A s.heap H1 locs1 → lv_has ls1 7 [(4, .int vi), (3, .ref oo), (2, .ref mm), (1, .ref xx), (0, .ref b)] → W p l e room_1 s m #[Value.ref b] below meth c H1 locs1 (kc + 1) (ks + 6) Q (F0 m 1454 ls1 [])) : W p l e room_1 s m #[Value.ref b] below meth c H locs kc ks Q (F0 m 1416 ls []) := by
  refine lv_aload_n hx hb dL_law_1416 rfl (lv_at hl 3 rfl) ?_
  refine xs_30 hx hb hml hown hT hA hAX (by omega) (by omega) hl hX hS (fun r_1 H_1 lo_1 b1_cn_hour b1_cn_passings hX ho1_0 ho1_1 hfr hz hS => ?_)
  have hM := hM.keep (fun q hq h => hfr q hq (fun z => hd1 q z h))
  have hO := hO.keep (fun q hq h => hfr q hq (fun z => hd2 q z h))
  clear hfr hz
  refine lv_pop hx hb dL_law_1420 rfl ?_
  refine lv_aload_n hx hb dL_law_1421 rfl (lv_at hl 2 rfl) ?_
  refine ms_30 hx hb hml hown hT hA hAM (by omega) (by omega) hl hM hS (fun r_2 H_2 lo_2 b2_mm_next b2_mm_passings hM ho2_0 ho2_1 hfr hz hS => ?_)
  have hX := hX.keep (fun q hq h => hfr q hq (fun z => hd1 q h z))
  have hO := hO.keep (fun q hq h => hfr q hq (fun z => hd3 q z h))
  clear hfr hz
  have hag1 : r_1.toInt = r_2.toInt := by omega
  have hpsn := bk_agree him hps hip ho1_1 ho2_1
  refine lv_pop hx hb dL_law_1425 rfl ?_
  refine lv_goto (tgt := 1454) hx hb dL_law_1426 (by decide) ?_
  refine W.widen (k := kc + 1) (n := ks + 6) (by omega) (by omega) ?_
  exact kk H_2 lo_2 _ rr_bytes rr_fault rr_place f_rr_tape zX b1_cn_hour ci_hour xx_imageKept rd_count rd_knownFirst b1_cn_passings ci_passings mm_taped mm_lastFault mm_lastPlace f_mm_tape zM b2_mm_next mm_imageNext mm_hasImage mm_readings mm_knownBy b2_mm_passings mm_imagePassings hbt hta hfa hpl hdd (by omega) hih him hrc hrk hpsn hip hX hM hO hS (lv_sub hl [0, 1, 2, 3, 4] rfl)
set_option maxHeartbeats 4000000 in
set_option maxRecDepth 100000 in
theorem law_op_31 {p : Program} {l : Launch} {e : Env} {s : State} {m : MethodId} {below : List Frame} {meth : Method} {c : Code} {dC : Nat → ClassId} {dI : Nat → Nat → Nat} {b : Nat} {L : Nat} {xs : Nat → Int32} {A AX AM AO : Nat → Prop} {Q : State → Prop} (hx : p.tables.exec = Jvm.exec) (hb : c.code = cL_law) (hml : c.maxLocals = 7) (hown : s.vm.findClass RL = some m.cls) (hT : ∀ w ∈ pw_T, w.before #[Value.ref b] s = true) (hA : ∀ q, s.heap.size ≤ q → A q) (hAX : ∀ q, AX q → A q) (hAM : ∀ q, AM q → A q) (hAO : ∀ q, AO q → A q) (hd1 : ∀ q, AX q → ¬ AM q) (hd2 : ∀ q, AX q → ¬ AO q) (hd3 : ∀ q, AM q → ¬ AO q) (hXs : va_X b L xs s s.heap) (hbl : b < s.heap.size) (hbA : ¬ A b) (hL : L ≤ 3584) {kc ks : Nat} (hkc : kc + 4 ≤ 601024) (hks : ks + 24 ≤ 7293034) {vi : Int32} {xx mm oo : Nat} {rr_bytes : Int32} {rr_fault : Int32} {rr_place : Int32} {f_rr_tape : Nat → Int32} {zX : ZZ} {cn_hour : Int32} {ci_hour : Int32} {xx_imageKept : Int32} {rd_count : Int32} {rd_knownFirst : Int32} {cn_passings : Int32} {ci_passings : Int32} {mm_taped : Int32} {mm_lastFault : Int32} {mm_lastPlace : Int32} {f_mm_tape : Nat → Int32} {zM : ZZ} {mm_next : Int32} {mm_imageNext : Int32} {mm_hasImage : Int32} {mm_readings : Int32} {mm_knownBy : Int32} {mm_passings : Int32} {mm_imagePassings : Int32} (hv0 : 0 ≤ vi.toInt) (hv1 : vi.toInt + 7 ≤ (L : Int)) (hbt : rr_bytes.toInt = mm_taped.toInt) (hta : BTt f_rr_tape f_mm_tape rr_bytes.toInt) (hfa : rr_fault = mm_lastFault) (hpl : rr_place = mm_lastPlace) (hdd : zX = zM) (hho : cn_hour.toInt = mm_next.toInt) (hih : ci_hour.toInt = mm_imageNext.toInt) (him : xx_imageKept.toInt = mm_hasImage.toInt) (hrc : rd_count.toInt = mm_readings.toInt) (hrk : rd_knownFirst.toInt = mm_knownBy.toInt) (hps : cn_passings = mm_passings) (hip : ci_passings = mm_imagePassings) {H : Heap} {locs : List Loc} {ls : Array Slot} (hX : XW dC dI AX s H xx rr_bytes rr_fault rr_place f_rr_tape zX cn_hour ci_hour xx_imageKept rd_count rd_knownFirst cn_passings ci_passings) (hM : MW dC dI AM s H mm mm_taped mm_lastFault mm_lastPlace f_mm_tape zM mm_next mm_imageNext mm_hasImage mm_readings mm_knownBy mm_passings mm_imagePassings) (hO : OW dC dI AO s H oo) (hS : va_S A s.heap H locs) (hl : lv_has ls 7 [(4, .int vi), (3, .ref oo), (2, .ref mm), (1, .ref xx), (0, .ref b)]) (kk : ∀ (H1 : Heap) (locs1 : List Loc) (ls1 : Array Slot) (n_rr_bytes : Int32) (n_rr_fault : Int32) (n_rr_place : Int32) (n_f_rr_tape : Nat → Int32) (n_zX : ZZ) (n_cn_hour : Int32) (n_ci_hour : Int32) (n_xx_imageKept : Int32) (n_rd_count : Int32) (n_rd_knownFirst : Int32) (n_cn_passings : Int32) (n_ci_passings : Int32) (n_mm_taped : Int32) (n_mm_lastFault : Int32) (n_mm_lastPlace : Int32) (n_f_mm_tape : Nat → Int32) (n_zM : ZZ) (n_mm_next : Int32) (n_mm_imageNext : Int32) (n_mm_hasImage : Int32) (n_mm_readings : Int32) (n_mm_knownBy : Int32) (n_mm_passings : Int32) (n_mm_imagePassings : Int32), n_rr_bytes.toInt = n_mm_taped.toInt → BTt n_f_rr_tape n_f_mm_tape n_rr_bytes.toInt → n_rr_fault = n_mm_lastFault → n_rr_place = n_mm_lastPlace → n_zX = n_zM → n_cn_hour.toInt = n_mm_next.toInt → n_ci_hour.toInt = n_mm_imageNext.toInt → n_xx_imageKept.toInt = n_mm_hasImage.toInt → n_rd_count.toInt = n_mm_readings.toInt → n_rd_knownFirst.toInt = n_mm_knownBy.toInt → n_cn_passings = n_mm_passings → n_ci_passings = n_mm_imagePassings → XW dC dI AX s H1 xx n_rr_bytes n_rr_fault n_rr_place n_f_rr_tape n_zX n_cn_hour n_ci_hour n_xx_imageKept n_rd_count n_rd_knownFirst n_cn_passings n_ci_passings → MW dC dI AM s H1 mm n_mm_taped n_mm_lastFault n_mm_lastPlace n_f_mm_tape n_zM n_mm_next n_mm_imageNext n_mm_hasImage n_mm_readings n_mm_knownBy n_mm_passings n_mm_imagePassings → OW dC dI AO s H1 oo → va_S A s.heap H1 locs1 → lv_has ls1 7 [(4, .int vi), (3, .ref oo), (2, .ref mm), (1, .ref xx), (0, .ref b)] → W p l e room_1 s m #[Value.ref b] below meth c H1 locs1 (kc + 1) (ks + 6) Q (F0 m 1454 ls1 [])) : W p l e room_1 s m #[Value.ref b] below meth c H locs kc ks Q (F0 m 1429 ls []) := by
  refine lv_aload_n hx hb dL_law_1429 rfl (lv_at hl 3 rfl) ?_
  refine lv_aload_n hx hb dL_law_1430 rfl (lv_at hl 4 rfl) ?_
  refine lv_iload hx hb dL_law_1431 (lv_at hl 0 rfl) ?_
  refine lv_iconst (v := 1) hx hb dL_law_1433 (by decide) ?_
  refine lv_iadd hx hb dL_law_1434 ?_
  refine lv_topi (fun z_1 ez_1 => ?_)
  have kz_1 : z_1.toInt = vi.toInt + 1 := ti_add ez_1 rfl (by decide) (by omega) (by omega)
  clear ez_1
  refine va_sld hx hb hXs hbl hbA hS (vp_in_iff.mpr (by omega)) dL_law_1435 ?_
  refine lv_topi (fun z_2 ez_2 => ?_)
  refine xs_31 hx hb hml hown hT hA hAX (by omega) (by omega) hl hX hS (fun r_3 H_3 lo_3 hX ho3_0 hfr hz hS => ?_)
  have hM := hM.keep (fun q hq h => hfr q hq (fun z => hd1 q z h))
  have hO := hO.keep (fun q hq h => hfr q hq (fun z => hd2 q z h))
  clear hfr hz
  refine lv_pop hx hb dL_law_1439 rfl ?_
  refine lv_aload_n hx hb dL_law_1440 rfl (lv_at hl 2 rfl) ?_
  refine lv_aload_n hx hb dL_law_1441 rfl (lv_at hl 4 rfl) ?_
  refine lv_iload hx hb dL_law_1442 (lv_at hl 0 rfl) ?_
  refine lv_iconst (v := 1) hx hb dL_law_1444 (by decide) ?_
  refine lv_iadd hx hb dL_law_1445 ?_
  refine lv_topi (fun z_4 ez_4 => ?_)
  have kz_4 : z_4.toInt = vi.toInt + 1 := ti_add ez_4 rfl (by decide) (by omega) (by omega)
  clear ez_4
  refine va_sld hx hb hXs hbl hbA hS (vp_in_iff.mpr (by omega)) dL_law_1446 ?_
  refine lv_topi (fun z_5 ez_5 => ?_)
  have hq_6 : z_2 = z_5 := ez_2.trans ((congrArg (fun q : Int32 => xs q.toNatClampNeg) (Int32.toInt_inj.mp (by omega))).trans ez_5.symm)
  clear ez_5
  subst hq_6
  refine ms_31 hx hb hml hown hT hA hAM (by omega) (by omega) hl hM hS (fun r_7 H_7 lo_7 hM ho7_0 hfr hz hS => ?_)
  have hX := hX.keep (fun q hq h => hfr q hq (fun z => hd1 q h z))
  have hO := hO.keep (fun q hq h => hfr q hq (fun z => hd3 q z h))
  clear hfr hz
  have hag1 := ct_agree hdd hrc hrk hho hps ho3_0 ho7_0
  refine lv_pop hx hb dL_law_1450 rfl ?_
  refine lv_goto (tgt := 1454) hx hb dL_law_1451 (by decide) ?_
  refine W.widen (k := kc + 1) (n := ks + 6) (by omega) (by omega) ?_
  exact kk H_7 lo_7 _ rr_bytes rr_fault rr_place f_rr_tape zX cn_hour ci_hour xx_imageKept rd_count rd_knownFirst cn_passings ci_passings mm_taped mm_lastFault mm_lastPlace f_mm_tape zM mm_next mm_imageNext mm_hasImage mm_readings mm_knownBy mm_passings mm_imagePassings hbt hta hfa hpl hdd hho hih him hrc hrk hps hip hX hM hO hS (lv_sub hl [0, 1, 2, 3, 4] rfl)
