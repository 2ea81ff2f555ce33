theorem dL_law_184 : decode cL_law 184 = .ok (.aload_n 1, 1) := by decide +kernel
theorem dL_law_185 : decode cL_law 185 = .ok (.aload_n 0, 1) := by decide +kernel
theorem dL_law_186 : decode cL_law 186 = .ok (.iload 4, 2) := by decide +kernel
theorem dL_law_188 : decode cL_law 188 = .ok (.iconst 1, 1) := by decide +kernel
theorem dL_law_189 : decode cL_law 189 = .ok (.iadd, 1) := by decide +kernel
theorem dL_law_190 : decode cL_law 190 = .ok (.iaload, 1) := by decide +kernel
theorem dL_law_191 : decode cL_law 191 = .ok (.aload_n 0, 1) := by decide +kernel
theorem dL_law_192 : decode cL_law 192 = .ok (.iload 4, 2) := by decide +kernel
theorem dL_law_194 : decode cL_law 194 = .ok (.iconst 2, 1) := by decide +kernel
theorem dL_law_195 : decode cL_law 195 = .ok (.iadd, 1) := by decide +kernel
theorem dL_law_196 : decode cL_law 196 = .ok (.iaload, 1) := by decide +kernel
theorem dL_law_197 : decode cL_law 197 = .ok (.aload_n 0, 1) := by decide +kernel
theorem dL_law_198 : decode cL_law 198 = .ok (.iload 4, 2) := by decide +kernel
theorem dL_law_200 : decode cL_law 200 = .ok (.iconst 3, 1) := by decide +kernel
theorem dL_law_201 : decode cL_law 201 = .ok (.iadd, 1) := by decide +kernel
theorem dL_law_202 : decode cL_law 202 = .ok (.iaload, 1) := by decide +kernel
theorem dL_law_203 : decode cL_law 203 = .ok (.aload_n 0, 1) := by decide +kernel
theorem dL_law_204 : decode cL_law 204 = .ok (.iload 4, 2) := by decide +kernel
theorem dL_law_206 : decode cL_law 206 = .ok (.iconst 4, 1) := by decide +kernel
theorem dL_law_207 : decode cL_law 207 = .ok (.iadd, 1) := by decide +kernel
theorem dL_law_208 : decode cL_law 208 = .ok (.iaload, 1) := by decide +kernel
theorem dL_law_209 : decode cL_law 209 = .ok (.aload_n 0, 1) := by decide +kernel
theorem dL_law_210 : decode cL_law 210 = .ok (.iload 4, 2) := by decide +kernel
theorem dL_law_212 : decode cL_law 212 = .ok (.iconst 5, 1) := by decide +kernel
theorem dL_law_213 : decode cL_law 213 = .ok (.iadd, 1) := by decide +kernel
theorem dL_law_214 : decode cL_law 214 = .ok (.iaload, 1) := by decide +kernel
theorem dL_law_218 : decode cL_law 218 = .ok (.pop, 1) := by decide +kernel
theorem dL_law_219 : decode cL_law 219 = .ok (.aload_n 2, 1) := by decide +kernel
theorem dL_law_220 : decode cL_law 220 = .ok (.aload_n 0, 1) := by decide +kernel
theorem dL_law_221 : decode cL_law 221 = .ok (.iload 4, 2) := by decide +kernel
theorem dL_law_223 : decode cL_law 223 = .ok (.iconst 1, 1) := by decide +kernel
theorem dL_law_224 : decode cL_law 224 = .ok (.iadd, 1) := by decide +kernel
theorem dL_law_225 : decode cL_law 225 = .ok (.iaload, 1) := by decide +kernel
theorem dL_law_226 : decode cL_law 226 = .ok (.aload_n 0, 1) := by decide +kernel
theorem dL_law_227 : decode cL_law 227 = .ok (.iload 4, 2) := by decide +kernel
theorem dL_law_229 : decode cL_law 229 = .ok (.iconst 2, 1) := by decide +kernel
theorem dL_law_230 : decode cL_law 230 = .ok (.iadd, 1) := by decide +kernel
theorem dL_law_231 : decode cL_law 231 = .ok (.iaload, 1) := by decide +kernel
theorem dL_law_232 : decode cL_law 232 = .ok (.aload_n 0, 1) := by decide +kernel
theorem dL_law_233 : decode cL_law 233 = .ok (.iload 4, 2) := by decide +kernel
theorem dL_law_235 : decode cL_law 235 = .ok (.iconst 3, 1) := by decide +kernel
theorem dL_law_236 : decode cL_law 236 = .ok (.iadd, 1) := by decide +kernel
theorem dL_law_237 : decode cL_law 237 = .ok (.iaload, 1) := by decide +kernel
theorem dL_law_238 : decode cL_law 238 = .ok (.aload_n 0, 1) := by decide +kernel
theorem dL_law_239 : decode cL_law 239 = .ok (.iload 4, 2) := by decide +kernel
theorem dL_law_241 : decode cL_law 241 = .ok (.iconst 4, 1) := by decide +kernel
theorem dL_law_242 : decode cL_law 242 = .ok (.iadd, 1) := by decide +kernel
theorem dL_law_243 : decode cL_law 243 = .ok (.iaload, 1) := by decide +kernel
theorem dL_law_244 : decode cL_law 244 = .ok (.aload_n 0, 1) := by decide +kernel
theorem dL_law_245 : decode cL_law 245 = .ok (.iload 4, 2) := by decide +kernel
theorem dL_law_247 : decode cL_law 247 = .ok (.iconst 5, 1) := by decide +kernel
theorem dL_law_248 : decode cL_law 248 = .ok (.iadd, 1) := by decide +kernel
theorem dL_law_249 : decode cL_law 249 = .ok (.iaload, 1) := by decide +kernel
theorem dL_law_253 : decode cL_law 253 = .ok (.pop, 1) := by decide +kernel
theorem dL_law_254 : decode cL_law 254 = .ok (.goto 1199, 3) := by decide +kernel
theorem dL_law_257 : decode cL_law 257 = .ok (.aload_n 1, 1) := by decide +kernel
theorem dL_law_258 : decode cL_law 258 = .ok (.aload_n 0, 1) := by decide +kernel
theorem dL_law_259 : decode cL_law 259 = .ok (.iload 4, 2) := by decide +kernel
theorem dL_law_261 : decode cL_law 261 = .ok (.iconst 1, 1) := by decide +kernel
theorem dL_law_262 : decode cL_law 262 = .ok (.iadd, 1) := by decide +kernel
theorem dL_law_263 : decode cL_law 263 = .ok (.iaload, 1) := by decide +kernel
theorem dL_law_267 : decode cL_law 267 = .ok (.pop, 1) := by decide +kernel
theorem dL_law_268 : decode cL_law 268 = .ok (.aload_n 2, 1) := by decide +kernel
theorem dL_law_269 : decode cL_law 269 = .ok (.aload_n 0, 1) := by decide +kernel
theorem dL_law_270 : decode cL_law 270 = .ok (.iload 4, 2) := by decide +kernel
theorem dL_law_272 : decode cL_law 272 = .ok (.iconst 1, 1) := by decide +kernel
theorem dL_law_273 : decode cL_law 273 = .ok (.iadd, 1) := by decide +kernel
theorem dL_law_274 : decode cL_law 274 = .ok (.iaload, 1) := by decide +kernel
theorem dL_law_278 : decode cL_law 278 = .ok (.pop, 1) := by decide +kernel
theorem dL_law_279 : decode cL_law 279 = .ok (.goto 1174, 3) := by decide +kernel
theorem dL_law_282 : decode cL_law 282 = .ok (.aload_n 1, 1) := by decide +kernel
theorem dL_law_283 : decode cL_law 283 = .ok (.aload_n 0, 1) := by decide +kernel
theorem dL_law_284 : decode cL_law 284 = .ok (.iload 4, 2) := by decide +kernel
theorem dL_law_286 : decode cL_law 286 = .ok (.iconst 1, 1) := by decide +kernel
theorem dL_law_287 : decode cL_law 287 = .ok (.iadd, 1) := by decide +kernel
theorem dL_law_288 : decode cL_law 288 = .ok (.iaload, 1) := by decide +kernel
theorem dL_law_292 : decode cL_law 292 = .ok (.pop, 1) := by decide +kernel
theorem dL_law_293 : decode cL_law 293 = .ok (.aload_n 2, 1) := by decide +kernel
theorem dL_law_294 : decode cL_law 294 = .ok (.aload_n 0, 1) := by decide +kernel
theorem dL_law_295 : decode cL_law 295 = .ok (.iload 4, 2) := by decide +kernel
theorem dL_law_297 : decode cL_law 297 = .ok (.iconst 1, 1) := by decide +kernel
theorem dL_law_298 : decode cL_law 298 = .ok (.iadd, 1) := by decide +kernel
theorem dL_law_299 : decode cL_law 299 = .ok (.iaload, 1) := by decide +kernel
theorem dL_law_303 : decode cL_law 303 = .ok (.pop, 1) := by decide +kernel
theorem dL_law_304 : decode cL_law 304 = .ok (.goto 1149, 3) := by decide +kernel
theorem dL_law_307 : decode cL_law 307 = .ok (.aload_n 1, 1) := by decide +kernel
theorem dL_law_308 : decode cL_law 308 = .ok (.aload_n 0, 1) := by decide +kernel
theorem dL_law_309 : decode cL_law 309 = .ok (.iload 4, 2) := by decide +kernel
theorem dL_law_311 : decode cL_law 311 = .ok (.iconst 1, 1) := by decide +kernel
theorem dL_law_312 : decode cL_law 312 = .ok (.iadd, 1) := by decide +kernel
theorem dL_law_313 : decode cL_law 313 = .ok (.iaload, 1) := by decide +kernel
theorem dL_law_314 : decode cL_law 314 = .ok (.aload_n 0, 1) := by decide +kernel
theorem dL_law_315 : decode cL_law 315 = .ok (.iload 4, 2) := by decide +kernel
theorem dL_law_317 : decode cL_law 317 = .ok (.iconst 2, 1) := by decide +kernel
theorem dL_law_318 : decode cL_law 318 = .ok (.iadd, 1) := by decide +kernel
theorem dL_law_319 : decode cL_law 319 = .ok (.iaload, 1) := by decide +kernel
theorem dL_law_323 : decode cL_law 323 = .ok (.pop, 1) := by decide +kernel
theorem dL_law_324 : decode cL_law 324 = .ok (.aload_n 2, 1) := by decide +kernel
theorem dL_law_325 : decode cL_law 325 = .ok (.aload_n 0, 1) := by decide +kernel
theorem dL_law_326 : decode cL_law 326 = .ok (.iload 4, 2) := by decide +kernel
theorem dL_law_328 : decode cL_law 328 = .ok (.iconst 1, 1) := by decide +kernel
theorem dL_law_329 : decode cL_law 329 = .ok (.iadd, 1) := by decide +kernel
theorem dL_law_330 : decode cL_law 330 = .ok (.iaload, 1) := by decide +kernel
theorem dL_law_331 : decode cL_law 331 = .ok (.aload_n 0, 1) := by decide +kernel
theorem dL_law_332 : decode cL_law 332 = .ok (.iload 4, 2) := by decide +kernel
theorem dL_law_334 : decode cL_law 334 = .ok (.iconst 2, 1) := by decide +kernel
theorem dL_law_335 : decode cL_law 335 = .ok (.iadd, 1) := by decide +kernel
theorem dL_law_336 : decode cL_law 336 = .ok (.iaload, 1) := by decide +kernel
theorem dL_law_340 : decode cL_law 340 = .ok (.pop, 1) := by decide +kernel
theorem dL_law_341 : decode cL_law 341 = .ok (.goto 1112, 3) := by decide +kernel
theorem dL_law_344 : decode cL_law 344 = .ok (.aload_n 1, 1) := by decide +kernel
theorem dL_law_345 : decode cL_law 345 = .ok (.aload_n 0, 1) := by decide +kernel
theorem dL_law_346 : decode cL_law 346 = .ok (.iload 4, 2) := by decide +kernel
theorem dL_law_348 : decode cL_law 348 = .ok (.iconst 1, 1) := by decide +kernel
theorem dL_law_349 : decode cL_law 349 = .ok (.iadd, 1) := by decide +kernel
theorem dL_law_350 : decode cL_law 350 = .ok (.iaload, 1) := by decide +kernel
theorem dL_law_351 : decode cL_law 351 = .ok (.aload_n 0, 1) := by decide +kernel
theorem dL_law_352 : decode cL_law 352 = .ok (.iload 4, 2) := by decide +kernel
theorem dL_law_354 : decode cL_law 354 = .ok (.iconst 2, 1) := by decide +kernel
theorem dL_law_355 : decode cL_law 355 = .ok (.iadd, 1) := by decide +kernel
theorem dL_law_356 : decode cL_law 356 = .ok (.iaload, 1) := by decide +kernel
theorem dL_law_357 : decode cL_law 357 = .ok (.aload_n 3, 1) := by decide +kernel
theorem dL_law_361 : decode cL_law 361 = .ok (.istore 5, 2) := by decide +kernel
theorem dL_law_363 : decode cL_law 363 = .ok (.aload_n 2, 1) := by decide +kernel
theorem dL_law_364 : decode cL_law 364 = .ok (.aload_n 0, 1) := by decide +kernel
theorem dL_law_365 : decode cL_law 365 = .ok (.iload 4, 2) := by decide +kernel
theorem dL_law_367 : decode cL_law 367 = .ok (.iconst 1, 1) := by decide +kernel
theorem dL_law_368 : decode cL_law 368 = .ok (.iadd, 1) := by decide +kernel
theorem dL_law_369 : decode cL_law 369 = .ok (.iaload, 1) := by decide +kernel
theorem dL_law_370 : decode cL_law 370 = .ok (.aload_n 0, 1) := by decide +kernel
theorem dL_law_371 : decode cL_law 371 = .ok (.iload 4, 2) := by decide +kernel
theorem dL_law_373 : decode cL_law 373 = .ok (.iconst 2, 1) := by decide +kernel
theorem dL_law_374 : decode cL_law 374 = .ok (.iadd, 1) := by decide +kernel
theorem dL_law_375 : decode cL_law 375 = .ok (.iaload, 1) := by decide +kernel
theorem dL_law_379 : decode cL_law 379 = .ok (.istore 6, 2) := by decide +kernel
theorem dL_law_381 : decode cL_law 381 = .ok (.goto 1072, 3) := by decide +kernel
theorem dL_law_384 : decode cL_law 384 = .ok (.aload_n 1, 1) := by decide +kernel
theorem dL_law_385 : decode cL_law 385 = .ok (.aload_n 0, 1) := by decide +kernel
theorem dL_law_386 : decode cL_law 386 = .ok (.iload 4, 2) := by decide +kernel
theorem dL_law_388 : decode cL_law 388 = .ok (.iconst 1, 1) := by decide +kernel
theorem dL_law_389 : decode cL_law 389 = .ok (.iadd, 1) := by decide +kernel
theorem dL_law_390 : decode cL_law 390 = .ok (.iaload, 1) := by decide +kernel
theorem dL_law_391 : decode cL_law 391 = .ok (.aload_n 0, 1) := by decide +kernel
theorem dL_law_392 : decode cL_law 392 = .ok (.iload 4, 2) := by decide +kernel
theorem dL_law_394 : decode cL_law 394 = .ok (.iconst 2, 1) := by decide +kernel
theorem dL_law_395 : decode cL_law 395 = .ok (.iadd, 1) := by decide +kernel
theorem dL_law_396 : decode cL_law 396 = .ok (.iaload, 1) := by decide +kernel
theorem dL_law_400 : decode cL_law 400 = .ok (.pop, 1) := by decide +kernel
theorem dL_law_401 : decode cL_law 401 = .ok (.aload_n 2, 1) := by decide +kernel
theorem dL_law_402 : decode cL_law 402 = .ok (.aload_n 0, 1) := by decide +kernel
theorem dL_law_403 : decode cL_law 403 = .ok (.iload 4, 2) := by decide +kernel
theorem dL_law_405 : decode cL_law 405 = .ok (.iconst 1, 1) := by decide +kernel
theorem dL_law_406 : decode cL_law 406 = .ok (.iadd, 1) := by decide +kernel
theorem dL_law_407 : decode cL_law 407 = .ok (.iaload, 1) := by decide +kernel
theorem dL_law_408 : decode cL_law 408 = .ok (.aload_n 0, 1) := by decide +kernel
theorem dL_law_409 : decode cL_law 409 = .ok (.iload 4, 2) := by decide +kernel
theorem dL_law_411 : decode cL_law 411 = .ok (.iconst 2, 1) := by decide +kernel
theorem dL_law_412 : decode cL_law 412 = .ok (.iadd, 1) := by decide +kernel
theorem dL_law_413 : decode cL_law 413 = .ok (.iaload, 1) := by decide +kernel
theorem dL_law_417 : decode cL_law 417 = .ok (.pop, 1) := by decide +kernel
theorem dL_law_418 : decode cL_law 418 = .ok (.goto 1035, 3) := by decide +kernel
theorem dL_law_421 : decode cL_law 421 = .ok (.aload_n 1, 1) := by decide +kernel
theorem dL_law_422 : decode cL_law 422 = .ok (.aload_n 0, 1) := by decide +kernel
theorem dL_law_423 : decode cL_law 423 = .ok (.iload 4, 2) := by decide +kernel
theorem dL_law_425 : decode cL_law 425 = .ok (.iconst 1, 1) := by decide +kernel
theorem dL_law_426 : decode cL_law 426 = .ok (.iadd, 1) := by decide +kernel
theorem dL_law_427 : decode cL_law 427 = .ok (.iaload, 1) := by decide +kernel
theorem dL_law_428 : decode cL_law 428 = .ok (.aload_n 0, 1) := by decide +kernel
theorem dL_law_429 : decode cL_law 429 = .ok (.iload 4, 2) := by decide +kernel
theorem dL_law_431 : decode cL_law 431 = .ok (.iconst 2, 1) := by decide +kernel
theorem dL_law_432 : decode cL_law 432 = .ok (.iadd, 1) := by decide +kernel
theorem dL_law_433 : decode cL_law 433 = .ok (.iaload, 1) := by decide +kernel
theorem dL_law_437 : decode cL_law 437 = .ok (.pop, 1) := by decide +kernel
theorem dL_law_438 : decode cL_law 438 = .ok (.aload_n 2, 1) := by decide +kernel
theorem dL_law_439 : decode cL_law 439 = .ok (.aload_n 0, 1) := by decide +kernel
theorem dL_law_440 : decode cL_law 440 = .ok (.iload 4, 2) := by decide +kernel
theorem dL_law_442 : decode cL_law 442 = .ok (.iconst 1, 1) := by decide +kernel
theorem dL_law_443 : decode cL_law 443 = .ok (.iadd, 1) := by decide +kernel
theorem dL_law_444 : decode cL_law 444 = .ok (.iaload, 1) := by decide +kernel
theorem dL_law_445 : decode cL_law 445 = .ok (.aload_n 0, 1) := by decide +kernel
theorem dL_law_446 : decode cL_law 446 = .ok (.iload 4, 2) := by decide +kernel
theorem dL_law_448 : decode cL_law 448 = .ok (.iconst 2, 1) := by decide +kernel
theorem dL_law_449 : decode cL_law 449 = .ok (.iadd, 1) := by decide +kernel
theorem dL_law_450 : decode cL_law 450 = .ok (.iaload, 1) := by decide +kernel
theorem dL_law_454 : decode cL_law 454 = .ok (.pop, 1) := by decide +kernel
theorem dL_law_455 : decode cL_law 455 = .ok (.goto 998, 3) := by decide +kernel
theorem dL_law_458 : decode cL_law 458 = .ok (.aload_n 1, 1) := by decide +kernel
theorem dL_law_459 : decode cL_law 459 = .ok (.aload_n 0, 1) := by decide +kernel
theorem dL_law_460 : decode cL_law 460 = .ok (.iload 4, 2) := by decide +kernel
theorem dL_law_462 : decode cL_law 462 = .ok (.iconst 1, 1) := by decide +kernel
theorem dL_law_463 : decode cL_law 463 = .ok (.iadd, 1) := by decide +kernel
theorem dL_law_464 : decode cL_law 464 = .ok (.iaload, 1) := by decide +kernel
theorem dL_law_468 : decode cL_law 468 = .ok (.pop, 1) := by decide +kernel
theorem dL_law_469 : decode cL_law 469 = .ok (.aload_n 2, 1) := by decide +kernel
theorem dL_law_470 : decode cL_law 470 = .ok (.aload_n 0, 1) := by decide +kernel
theorem dL_law_471 : decode cL_law 471 = .ok (.iload 4, 2) := by decide +kernel
theorem dL_law_473 : decode cL_law 473 = .ok (.iconst 1, 1) := by decide +kernel
theorem dL_law_474 : decode cL_law 474 = .ok (.iadd, 1) := by decide +kernel
theorem dL_law_475 : decode cL_law 475 = .ok (.iaload, 1) := by decide +kernel
theorem dL_law_479 : decode cL_law 479 = .ok (.pop, 1) := by decide +kernel
theorem dL_law_480 : decode cL_law 480 = .ok (.goto 973, 3) := by decide +kernel
set_option maxHeartbeats 4000000 in
set_option maxRecDepth 100000 in
theorem law_op_0 {p : Program} {l : Launch} {e : Env} {s : State} {m : MethodId} {below : List Frame} {meth : Method} {c : Code} {dC : Nat → ClassId} {dI : Nat → Nat → Nat} {b : Nat} {L : Nat} {xs : Nat → Int32} {A AX AM AO : Nat → Prop} {Q : State → Prop} (hx : p.tables.exec = Jvm.exec) (hb : c.code = cL_law) (hml : c.maxLocals = 7) (hown : s.vm.findClass RL = some m.cls) (hT : ∀ w ∈ pw_T, w.before #[Value.ref b] s = true) (hA : ∀ q, s.heap.size ≤ q → A q) (hAX : ∀ q, AX q → A q) (hAM : ∀ q, AM q → A q) (hAO : ∀ q, AO q → A q) (hd1 : ∀ q, AX q → ¬ AM q) (hd2 : ∀ q, AX q → ¬ AO q) (hd3 : ∀ q, AM q → ¬ AO q) (hXs : va_X b L xs s s.heap) (hbl : b < s.heap.size) (hbA : ¬ A b) (hL : L ≤ 3584) {kc ks : Nat} (hkc : kc + 4 ≤ 601024) (hks : ks + 24 ≤ 7293034) {vi : Int32} {xx mm oo : Nat} {rr_bytes : Int32} {rr_fault : Int32} {rr_place : Int32} {f_rr_tape : Nat → Int32} {dX : DD} {cn_hour : Int32} {ci_hour : Int32} {xx_imageKept : Int32} {rd_count : Int32} {rd_knownFirst : Int32} {mm_taped : Int32} {mm_lastFault : Int32} {mm_lastPlace : Int32} {f_mm_tape : Nat → Int32} {dM : DD} {mm_next : Int32} {mm_imageNext : Int32} {mm_hasImage : Int32} {mm_readings : Int32} {mm_knownBy : Int32} (hv0 : 0 ≤ vi.toInt) (hv1 : vi.toInt + 7 ≤ (L : Int)) (hbt : rr_bytes.toInt = mm_taped.toInt) (hta : BTt f_rr_tape f_mm_tape rr_bytes.toInt) (hfa : rr_fault = mm_lastFault) (hpl : rr_place = mm_lastPlace) (hdd : dX = dM) (hho : cn_hour.toInt = mm_next.toInt) (hih : ci_hour.toInt = mm_imageNext.toInt) (him : xx_imageKept.toInt = mm_hasImage.toInt) (hrc : rd_count.toInt = mm_readings.toInt) (hrk : rd_knownFirst.toInt = mm_knownBy.toInt) {H : Heap} {locs : List Loc} {ls : Array Slot} (hX : XW dC dI AX s H xx rr_bytes rr_fault rr_place f_rr_tape dX cn_hour ci_hour xx_imageKept rd_count rd_knownFirst) (hM : MW dC dI AM s H mm mm_taped mm_lastFault mm_lastPlace f_mm_tape dM mm_next mm_imageNext mm_hasImage mm_readings mm_knownBy) (hO : OW dC dI AO s H oo) (hS : va_S A s.heap H locs) (hl : lv_has ls 7 [(4, .int vi), (3, .ref oo), (2, .ref mm), (1, .ref xx), (0, .ref b)]) (kk : ∀ (H1 : Heap) (locs1 : List Loc) (ls1 : Array Slot) (n_rr_bytes : Int32) (n_rr_fault : Int32) (n_rr_place : Int32) (n_f_rr_tape : Nat → Int32) (n_dX : DD) (n_cn_hour : Int32) (n_ci_hour : Int32) (n_xx_imageKept : Int32) (n_rd_count : Int32) (n_rd_knownFirst : Int32) (n_mm_taped : Int32) (n_mm_lastFault : Int32) (n_mm_lastPlace : Int32) (n_f_mm_tape : Nat → Int32) (n_dM : DD) (n_mm_next : Int32) (n_mm_imageNext : Int32) (n_mm_hasImage : Int32) (n_mm_readings : Int32) (n_mm_knownBy : Int32), n_rr_bytes.toInt = n_mm_taped.toInt → BTt n_f_rr_tape n_f_mm_tape n_rr_bytes.toInt → n_rr_fault = n_mm_lastFault → n_rr_place = n_mm_lastPlace → n_dX = n_dM → n_cn_hour.toInt = n_mm_next.toInt → n_ci_hour.toInt = n_mm_imageNext.toInt → n_xx_imageKept.toInt = n_mm_hasImage.toInt → n_rd_count.toInt = n_mm_readings.toInt → n_rd_knownFirst.toInt = n_mm_knownBy.toInt → XW dC dI AX s H1 xx n_rr_bytes n_rr_fault n_rr_place n_f_rr_tape n_dX n_cn_hour n_ci_hour n_xx_imageKept n_rd_count n_rd_knownFirst → MW dC dI AM s H1 mm n_mm_taped n_mm_lastFault n_mm_lastPlace n_f_mm_tape n_dM n_mm_next n_mm_imageNext n_mm_hasImage n_mm_readings n_mm_knownBy → OW dC dI AO s H1 oo → va_S A s.heap H1 locs1 → lv_has ls1 7 [(4, .int vi), (3, .ref oo), (2, .ref mm), (1, .ref xx), (0, .ref b)] → W p l e room_1 s m #[Value.ref b] below meth c H1 locs1 (kc + 1) (ks + 6) Q (F0 m 1453 ls1 [])) : W p l e room_1 s m #[Value.ref b] below meth c H locs kc ks Q (F0 m 184 ls []) := by
  refine lv_aload_n hx hb dL_law_184 rfl (lv_at hl 3 rfl) ?_
  refine lv_aload_n hx hb dL_law_185 rfl (lv_at hl 4 rfl) ?_
  refine lv_iload hx hb dL_law_186 (lv_at hl 0 rfl) ?_
  refine lv_iconst (v := 1) hx hb dL_law_188 (by decide) ?_
  refine lv_iadd hx hb dL_law_189 ?_
  refine lv_topi (fun z_1 ez_1 => ?_)
  have kz_1 : z_1.toInt = vi.toInt + 1 := ti_add ez_1 rfl (by decide) (by omega) (by omega)
  clear ez_1
  refine va_sld hx hb hXs hbl hbA hS (vp_in_iff.mpr (by omega)) dL_law_190 ?_
  refine lv_topi (fun z_2 ez_2 => ?_)
  refine lv_aload_n hx hb dL_law_191 rfl (lv_at hl 4 rfl) ?_
  refine lv_iload hx hb dL_law_192 (lv_at hl 0 rfl) ?_
  refine lv_iconst (v := 2) hx hb dL_law_194 (by decide) ?_
  refine lv_iadd hx hb dL_law_195 ?_
  refine lv_topi (fun z_3 ez_3 => ?_)
  have kz_3 : z_3.toInt = vi.toInt + 2 := ti_add ez_3 rfl (by decide) (by omega) (by omega)
  clear ez_3
  refine va_sld hx hb hXs hbl hbA hS (vp_in_iff.mpr (by omega)) dL_law_196 ?_
  refine lv_topi (fun z_4 ez_4 => ?_)
  refine lv_aload_n hx hb dL_law_197 rfl (lv_at hl 4 rfl) ?_
  refine lv_iload hx hb dL_law_198 (lv_at hl 0 rfl) ?_
  refine lv_iconst (v := 3) hx hb dL_law_200 (by decide) ?_
  refine lv_iadd hx hb dL_law_201 ?_
  refine lv_topi (fun z_5 ez_5 => ?_)
  have kz_5 : z_5.toInt = vi.toInt + 3 := ti_add ez_5 rfl (by decide) (by omega) (by omega)
  clear ez_5
  refine va_sld hx hb hXs hbl hbA hS (vp_in_iff.mpr (by omega)) dL_law_202 ?_
  refine lv_topi (fun z_6 ez_6 => ?_)
  refine lv_aload_n hx hb dL_law_203 rfl (lv_at hl 4 rfl) ?_
  refine lv_iload hx hb dL_law_204 (lv_at hl 0 rfl) ?_
  refine lv_iconst (v := 4) hx hb dL_law_206 (by decide) ?_
  refine lv_iadd hx hb dL_law_207 ?_
  refine lv_topi (fun z_7 ez_7 => ?_)
  have kz_7 : z_7.toInt = vi.toInt + 4 := ti_add ez_7 rfl (by decide) (by omega) (by omega)
  clear ez_7
  refine va_sld hx hb hXs hbl hbA hS (vp_in_iff.mpr (by omega)) dL_law_208 ?_
  refine lv_topi (fun z_8 ez_8 => ?_)
  refine lv_aload_n hx hb dL_law_209 rfl (lv_at hl 4 rfl) ?_
  refine lv_iload hx hb dL_law_210 (lv_at hl 0 rfl) ?_
  refine lv_iconst (v := 5) hx hb dL_law_212 (by decide) ?_
  refine lv_iadd hx hb dL_law_213 ?_
  refine lv_topi (fun z_9 ez_9 => ?_)
  have kz_9 : z_9.toInt = vi.toInt + 5 := ti_add ez_9 rfl (by decide) (by omega) (by omega)
  clear ez_9
  refine va_sld hx hb hXs hbl hbA hS (vp_in_iff.mpr (by omega)) dL_law_214 ?_
  refine lv_topi (fun z_10 ez_10 => ?_)
  have hrg := hX.rng
  refine xs_0 hx hb hml hown hT hA hAX (by omega) (by omega) hl hX hS (fun r_11 H_11 lo_11 b11_rr_bytes b11_f_rr_tape hX ho11_0 ho11_1 hfr hz hS => ?_)
  have hM := hM.keep (fun q hq h => hfr q hq (fun z => hd1 q z h))
  have hO := hO.keep (fun q hq h => hfr q hq (fun z => hd2 q z h))
  clear hfr hz
  refine lv_pop hx hb dL_law_218 rfl ?_
  refine lv_aload_n hx hb dL_law_219 rfl (lv_at hl 2 rfl) ?_
  refine lv_aload_n hx hb dL_law_220 rfl (lv_at hl 4 rfl) ?_
  refine lv_iload hx hb dL_law_221 (lv_at hl 0 rfl) ?_
  refine lv_iconst (v := 1) hx hb dL_law_223 (by decide) ?_
  refine lv_iadd hx hb dL_law_224 ?_
  refine lv_topi (fun z_12 ez_12 => ?_)
  have kz_12 : z_12.toInt = vi.toInt + 1 := ti_add ez_12 rfl (by decide) (by omega) (by omega)
  clear ez_12
  refine va_sld hx hb hXs hbl hbA hS (vp_in_iff.mpr (by omega)) dL_law_225 ?_
  refine lv_topi (fun z_13 ez_13 => ?_)
  have hq_14 : z_2 = z_13 := ez_2.trans ((congrArg (fun q : Int32 => xs q.toNatClampNeg) (Int32.toInt_inj.mp (by omega))).trans ez_13.symm)
  clear ez_13
  subst hq_14
  refine lv_aload_n hx hb dL_law_226 rfl (lv_at hl 4 rfl) ?_
  refine lv_iload hx hb dL_law_227 (lv_at hl 0 rfl) ?_
  refine lv_iconst (v := 2) hx hb dL_law_229 (by decide) ?_
  refine lv_iadd hx hb dL_law_230 ?_
  refine lv_topi (fun z_15 ez_15 => ?_)
  have kz_15 : z_15.toInt = vi.toInt + 2 := ti_add ez_15 rfl (by decide) (by omega) (by omega)
  clear ez_15
  refine va_sld hx hb hXs hbl hbA hS (vp_in_iff.mpr (by omega)) dL_law_231 ?_
  refine lv_topi (fun z_16 ez_16 => ?_)
  have hq_17 : z_4 = z_16 := ez_4.trans ((congrArg (fun q : Int32 => xs q.toNatClampNeg) (Int32.toInt_inj.mp (by omega))).trans ez_16.symm)
  clear ez_16
  subst hq_17
  refine lv_aload_n hx hb dL_law_232 rfl (lv_at hl 4 rfl) ?_
  refine lv_iload hx hb dL_law_233 (lv_at hl 0 rfl) ?_
  refine lv_iconst (v := 3) hx hb dL_law_235 (by decide) ?_
  refine lv_iadd hx hb dL_law_236 ?_
  refine lv_topi (fun z_18 ez_18 => ?_)
  have kz_18 : z_18.toInt = vi.toInt + 3 := ti_add ez_18 rfl (by decide) (by omega) (by omega)
  clear ez_18
  refine va_sld hx hb hXs hbl hbA hS (vp_in_iff.mpr (by omega)) dL_law_237 ?_
  refine lv_topi (fun z_19 ez_19 => ?_)
  have hq_20 : z_6 = z_19 := ez_6.trans ((congrArg (fun q : Int32 => xs q.toNatClampNeg) (Int32.toInt_inj.mp (by omega))).trans ez_19.symm)
  clear ez_19
  subst hq_20
  refine lv_aload_n hx hb dL_law_238 rfl (lv_at hl 4 rfl) ?_
  refine lv_iload hx hb dL_law_239 (lv_at hl 0 rfl) ?_
  refine lv_iconst (v := 4) hx hb dL_law_241 (by decide) ?_
  refine lv_iadd hx hb dL_law_242 ?_
  refine lv_topi (fun z_21 ez_21 => ?_)
  have kz_21 : z_21.toInt = vi.toInt + 4 := ti_add ez_21 rfl (by decide) (by omega) (by omega)
  clear ez_21
  refine va_sld hx hb hXs hbl hbA hS (vp_in_iff.mpr (by omega)) dL_law_243 ?_
  refine lv_topi (fun z_22 ez_22 => ?_)
  have hq_23 : z_8 = z_22 := ez_8.trans ((congrArg (fun q : Int32 => xs q.toNatClampNeg) (Int32.toInt_inj.mp (by omega))).trans ez_22.symm)
  clear ez_22
  subst hq_23
  refine lv_aload_n hx hb dL_law_244 rfl (lv_at hl 4 rfl) ?_
  refine lv_iload hx hb dL_law_245 (lv_at hl 0 rfl) ?_
  refine lv_iconst (v := 5) hx hb dL_law_247 (by decide) ?_
  refine lv_iadd hx hb dL_law_248 ?_
  refine lv_topi (fun z_24 ez_24 => ?_)
  have kz_24 : z_24.toInt = vi.toInt + 5 := ti_add ez_24 rfl (by decide) (by omega) (by omega)
  clear ez_24
  refine va_sld hx hb hXs hbl hbA hS (vp_in_iff.mpr (by omega)) dL_law_249 ?_
  refine lv_topi (fun z_25 ez_25 => ?_)
  have hq_26 : z_10 = z_25 := ez_10.trans ((congrArg (fun q : Int32 => xs q.toNatClampNeg) (Int32.toInt_inj.mp (by omega))).trans ez_25.symm)
  clear ez_25
  subst hq_26
  refine ms_0 hx hb hml hown hT hA hAM (by omega) (by omega) hl hM hS (fun r_27 H_27 lo_27 b27_mm_taped b27_f_mm_tape hM ho27_0 ho27_1 hfr hz hS => ?_)
  have hX := hX.keep (fun q hq h => hfr q hq (fun z => hd1 q h z))
  have hO := hO.keep (fun q hq h => hfr q hq (fun z => hd3 q z h))
  clear hfr hz
  refine lv_pop hx hb dL_law_253 rfl ?_
  refine lv_goto (tgt := 1453) hx hb dL_law_254 (by decide) ?_
  have hn0 : (680 < rr_bytes.toInt ∧ b11_rr_bytes.toInt = rr_bytes.toInt) ∨ (rr_bytes.toInt ≤ 680 ∧ b11_rr_bytes.toInt = rr_bytes.toInt + 20) := by omega
  refine W.widen (k := kc + 1) (n := ks + 6) (by omega) (by omega) ?_
  exact kk H_27 lo_27 _ b11_rr_bytes rr_fault rr_place b11_f_rr_tape dX cn_hour ci_hour xx_imageKept rd_count rd_knownFirst b27_mm_taped mm_lastFault mm_lastPlace b27_f_mm_tape dM mm_next mm_imageNext mm_hasImage mm_readings mm_knownBy (by omega) (bt_feed hta hbt hrg.1.1 ho11_1 ho27_1 hn0) hfa hpl hdd hho hih him hrc hrk hX hM hO hS (lv_sub hl [0, 1, 2, 3, 4] rfl)
set_option maxHeartbeats 4000000 in
set_option maxRecDepth 100000 in
theorem law_op_1 {p : Program} {l : Launch} {e : Env} {s : State} {m : MethodId} {below : List Frame} {meth : Method} {c : Code} {dC : Nat → ClassId} {dI : Nat → Nat → Nat} {b : Nat} {L : Nat} {xs : Nat → Int32} {A AX AM AO : Nat → Prop} {Q : State → Prop} (hx : p.tables.exec = Jvm.exec) (hb : c.code = cL_law) (hml : c.maxLocals = 7) (hown : s.vm.findClass RL = some m.cls) (hT : ∀ w ∈ pw_T, w.before #[Value.ref b] s = true) (hA : ∀ q, s.heap.size ≤ q → A q) (hAX : ∀ q, AX q → A q) (hAM : ∀ q, AM q → A q) (hAO : ∀ q, AO q → A q) (hd1 : ∀ q, AX q → ¬ AM q) (hd2 : ∀ q, AX q → ¬ AO q) (hd3 : ∀ q, AM q → ¬ AO q) (hXs : va_X b L xs s s.heap) (hbl : b < s.heap.size) (hbA : ¬ A b) (hL : L ≤ 3584) {kc ks : Nat} (hkc : kc + 4 ≤ 601024) (hks : ks + 24 ≤ 7293034) {sK sV : Nat} (hE : st_S sK sV A s s.heap) (hR : vk_R RX11 186 "clock person round gun gains rough if sets takes half part middle or and not ahead last passed hour day " sK s) {vi : Int32} {xx mm oo : Nat} {rr_bytes : Int32} {rr_fault : Int32} {rr_place : Int32} {f_rr_tape : Nat → Int32} {dX : DD} {cn_hour : Int32} {ci_hour : Int32} {xx_imageKept : Int32} {rd_count : Int32} {rd_knownFirst : Int32} {mm_taped : Int32} {mm_lastFault : Int32} {mm_lastPlace : Int32} {f_mm_tape : Nat → Int32} {dM : DD} {mm_next : Int32} {mm_imageNext : Int32} {mm_hasImage : Int32} {mm_readings : Int32} {mm_knownBy : Int32} (hv0 : 0 ≤ vi.toInt) (hv1 : vi.toInt + 7 ≤ (L : Int)) (hbt : rr_bytes.toInt = mm_taped.toInt) (hta : BTt f_rr_tape f_mm_tape rr_bytes.toInt) (hfa : rr_fault = mm_lastFault) (hpl : rr_place = mm_lastPlace) (hdd : dX = dM) (hho : cn_hour.toInt = mm_next.toInt) (hih : ci_hour.toInt = mm_imageNext.toInt) (him : xx_imageKept.toInt = mm_hasImage.toInt) (hrc : rd_count.toInt = mm_readings.toInt) (hrk : rd_knownFirst.toInt = mm_knownBy.toInt) {H : Heap} {locs : List Loc} {ls : Array Slot} (hX : XW dC dI AX s H xx rr_bytes rr_fault rr_place f_rr_tape dX cn_hour ci_hour xx_imageKept rd_count rd_knownFirst) (hM : MW dC dI AM s H mm mm_taped mm_lastFault mm_lastPlace f_mm_tape dM mm_next mm_imageNext mm_hasImage mm_readings mm_knownBy) (hO : OW dC dI AO s H oo) (hS : va_S A s.heap H locs) (hl : lv_has ls 7 [(4, .int vi), (3, .ref oo), (2, .ref mm), (1, .ref xx), (0, .ref b)]) (kk : ∀ (H1 : Heap) (locs1 : List Loc) (ls1 : Array Slot) (n_rr_bytes : Int32) (n_rr_fault : Int32) (n_rr_place : Int32) (n_f_rr_tape : Nat → Int32) (n_dX : DD) (n_cn_hour : Int32) (n_ci_hour : Int32) (n_xx_imageKept : Int32) (n_rd_count : Int32) (n_rd_knownFirst : Int32) (n_mm_taped : Int32) (n_mm_lastFault : Int32) (n_mm_lastPlace : Int32) (n_f_mm_tape : Nat → Int32) (n_dM : DD) (n_mm_next : Int32) (n_mm_imageNext : Int32) (n_mm_hasImage : Int32) (n_mm_readings : Int32) (n_mm_knownBy : Int32), n_rr_bytes.toInt = n_mm_taped.toInt → BTt n_f_rr_tape n_f_mm_tape n_rr_bytes.toInt → n_rr_fault = n_mm_lastFault → n_rr_place = n_mm_lastPlace → n_dX = n_dM → n_cn_hour.toInt = n_mm_next.toInt → n_ci_hour.toInt = n_mm_imageNext.toInt → n_xx_imageKept.toInt = n_mm_hasImage.toInt → n_rd_count.toInt = n_mm_readings.toInt → n_rd_knownFirst.toInt = n_mm_knownBy.toInt → XW dC dI AX s H1 xx n_rr_bytes n_rr_fault n_rr_place n_f_rr_tape n_dX n_cn_hour n_ci_hour n_xx_imageKept n_rd_count n_rd_knownFirst → MW dC dI AM s H1 mm n_mm_taped n_mm_lastFault n_mm_lastPlace n_f_mm_tape n_dM n_mm_next n_mm_imageNext n_mm_hasImage n_mm_readings n_mm_knownBy → OW dC dI AO s H1 oo → va_S A s.heap H1 locs1 → lv_has ls1 7 [(4, .int vi), (3, .ref oo), (2, .ref mm), (1, .ref xx), (0, .ref b)] → W p l e room_1 s m #[Value.ref b] below meth c H1 locs1 (kc + 1) (ks + 6) Q (F0 m 1453 ls1 [])) : W p l e room_1 s m #[Value.ref b] below meth c H locs kc ks Q (F0 m 257 ls []) := by
  refine lv_aload_n hx hb dL_law_257 rfl (lv_at hl 3 rfl) ?_
  refine lv_aload_n hx hb dL_law_258 rfl (lv_at hl 4 rfl) ?_
  refine lv_iload hx hb dL_law_259 (lv_at hl 0 rfl) ?_
  refine lv_iconst (v := 1) hx hb dL_law_261 (by decide) ?_
  refine lv_iadd hx hb dL_law_262 ?_
  refine lv_topi (fun z_1 ez_1 => ?_)
  have kz_1 : z_1.toInt = vi.toInt + 1 := ti_add ez_1 rfl (by decide) (by omega) (by omega)
  clear ez_1
  refine va_sld hx hb hXs hbl hbA hS (vp_in_iff.mpr (by omega)) dL_law_263 ?_
  refine lv_topi (fun z_2 ez_2 => ?_)
  have hrg := hX.rng
  refine xs_1 hx hb hml hown hT hA hAX (by omega) (by omega) hl hX hS (fun r_3 H_3 lo_3 b3_rr_bytes b3_rr_fault b3_rr_place b3_dX b3_cn_hour b3_xx_imageKept b3_rd_count b3_rd_knownFirst hX ho3_0 ho3_1 ho3_2 hfr hz hS => ?_)
  have hM := hM.keep (fun q hq h => hfr q hq (fun z => hd1 q z h))
  have hO := hO.keep (fun q hq h => hfr q hq (fun z => hd2 q z h))
  clear hfr hz
  rcases ho3_1 with ⟨hA1, hA2, hA3, hA4, hA5⟩ | ⟨hA1, hA2, gK, gP, gW, gq, ge, hTS, hA3, hA4⟩
  · refine lv_pop hx hb dL_law_267 rfl ?_
    refine lv_aload_n hx hb dL_law_268 rfl (lv_at hl 2 rfl) ?_
    refine lv_aload_n hx hb dL_law_269 rfl (lv_at hl 4 rfl) ?_
    refine lv_iload hx hb dL_law_270 (lv_at hl 0 rfl) ?_
    refine lv_iconst (v := 1) hx hb dL_law_272 (by decide) ?_
    refine lv_iadd hx hb dL_law_273 ?_
    refine lv_topi (fun z_4 ez_4 => ?_)
    have kz_4 : z_4.toInt = vi.toInt + 1 := ti_add ez_4 rfl (by decide) (by omega) (by omega)
    clear ez_4
    refine va_sld hx hb hXs hbl hbA hS (vp_in_iff.mpr (by omega)) dL_law_274 ?_
    refine lv_topi (fun z_5 ez_5 => ?_)
    have hq_6 : z_2 = z_5 := ez_2.trans ((congrArg (fun q : Int32 => xs q.toNatClampNeg) (Int32.toInt_inj.mp (by omega))).trans ez_5.symm)
    clear ez_5
    subst hq_6
    refine ms_1 (gK := fun _ => 0) (gP := fun _ => 0) (gW := fun _ => 0) (gq := fun _ => 0) (ge := 0) hx hb hml hown hT hA hAM (by omega) (by omega) hE hR hl (fun _ _ => False.elim (by omega)) hM hS (fun r_7 H_7 lo_7 b7_mm_taped b7_mm_lastFault b7_mm_lastPlace b7_dM b7_mm_next b7_mm_hasImage b7_mm_readings b7_mm_knownBy hM ho7_0 ho7_1 ho7_2 hfr hz hS => ?_)
    have hX := hX.keep (fun q hq h => hfr q hq (fun z => hd1 q h z))
    have hO := hO.keep (fun q hq h => hfr q hq (fun z => hd3 q z h))
    clear hfr hz
    have hag : r_3.toInt = r_7.toInt ∧ b3_rr_fault = b7_mm_lastFault ∧ b3_rr_place = b7_mm_lastPlace ∧ b3_dX = b7_dM := by rcases ho7_1 with ⟨-, h2, h3, h4, h5⟩ | ⟨h1, h2, -⟩; exact ⟨by omega, by rw [hA3, h3, hfa], by rw [hA4, h4, hpl], by rw [hA5, h5, hdd]⟩; exact False.elim (by omega)
    have hag1 := hag.1
    refine lv_pop hx hb dL_law_278 rfl ?_
    refine lv_goto (tgt := 1453) hx hb dL_law_279 (by decide) ?_
    refine W.widen (k := kc + 1) (n := ks + 6) (by omega) (by omega) ?_
    exact kk H_7 lo_7 _ b3_rr_bytes b3_rr_fault b3_rr_place f_rr_tape b3_dX b3_cn_hour ci_hour b3_xx_imageKept b3_rd_count b3_rd_knownFirst b7_mm_taped b7_mm_lastFault b7_mm_lastPlace f_mm_tape b7_dM b7_mm_next mm_imageNext b7_mm_hasImage b7_mm_readings b7_mm_knownBy (by omega) (BTt_le hta (by omega)) hag.2.1 hag.2.2.1 hag.2.2.2 (by omega) hih (by omega) (by omega) (by omega) hX hM hO hS (lv_sub hl [0, 1, 2, 3, 4] rfl)
  · refine lv_pop hx hb dL_law_267 rfl ?_
    refine lv_aload_n hx hb dL_law_268 rfl (lv_at hl 2 rfl) ?_
    refine lv_aload_n hx hb dL_law_269 rfl (lv_at hl 4 rfl) ?_
    refine lv_iload hx hb dL_law_270 (lv_at hl 0 rfl) ?_
    refine lv_iconst (v := 1) hx hb dL_law_272 (by decide) ?_
    refine lv_iadd hx hb dL_law_273 ?_
    refine lv_topi (fun z_8 ez_8 => ?_)
    have kz_8 : z_8.toInt = vi.toInt + 1 := ti_add ez_8 rfl (by decide) (by omega) (by omega)
    clear ez_8
    refine va_sld hx hb hXs hbl hbA hS (vp_in_iff.mpr (by omega)) dL_law_274 ?_
    refine lv_topi (fun z_9 ez_9 => ?_)
    have hq_10 : z_2 = z_9 := ez_2.trans ((congrArg (fun q : Int32 => xs q.toNatClampNeg) (Int32.toInt_inj.mp (by omega))).trans ez_9.symm)
    clear ez_9
    subst hq_10
    refine ms_1 (gK := gK) (gP := gP) (gW := gW) (gq := gq) (ge := ge) hx hb hml hown hT hA hAM (by omega) (by omega) hE hR hl (fun _ _ => TS_bt hrg.2 (fun j hj => hta j (by omega)) hTS) hM hS (fun r_11 H_11 lo_11 b11_mm_taped b11_mm_lastFault b11_mm_lastPlace b11_dM b11_mm_next b11_mm_hasImage b11_mm_readings b11_mm_knownBy hM ho11_0 ho11_1 ho11_2 hfr hz hS => ?_)
    have hX := hX.keep (fun q hq h => hfr q hq (fun z => hd1 q h z))
    have hO := hO.keep (fun q hq h => hfr q hq (fun z => hd3 q z h))
    clear hfr hz
    have hag : r_3.toInt = r_11.toInt ∧ b3_rr_fault = b11_mm_lastFault ∧ b3_rr_place = b11_mm_lastPlace ∧ b3_dX = b11_dM := by rcases ho11_1 with ⟨h1, -⟩ | ⟨h1, h2, h3, h4⟩; exact False.elim (by omega); exact tx_agree hdd hA3 hA4 h3 h4
    have hag1 := hag.1
    refine lv_pop hx hb dL_law_278 rfl ?_
    refine lv_goto (tgt := 1453) hx hb dL_law_279 (by decide) ?_
    refine W.widen (k := kc + 1) (n := ks + 6) (by omega) (by omega) ?_
    exact kk H_11 lo_11 _ b3_rr_bytes b3_rr_fault b3_rr_place f_rr_tape b3_dX b3_cn_hour ci_hour b3_xx_imageKept b3_rd_count b3_rd_knownFirst b11_mm_taped b11_mm_lastFault b11_mm_lastPlace f_mm_tape b11_dM b11_mm_next mm_imageNext b11_mm_hasImage b11_mm_readings b11_mm_knownBy (by omega) (BTt_le hta (by omega)) hag.2.1 hag.2.2.1 hag.2.2.2 (by omega) hih (by omega) (by omega) (by omega) hX hM hO hS (lv_sub hl [0, 1, 2, 3, 4] rfl)
set_option maxHeartbeats 4000000 in
set_option maxRecDepth 100000 in
theorem law_op_2 {p : Program} {l : Launch} {e : Env} {s : State} {m : MethodId} {below : List Frame} {meth : Method} {c : Code} {dC : Nat → ClassId} {dI : Nat → Nat → Nat} {b : Nat} {L : Nat} {xs : Nat → Int32} {A AX AM AO : Nat → Prop} {Q : State → Prop} (hx : p.tables.exec = Jvm.exec) (hb : c.code = cL_law) (hml : c.maxLocals = 7) (hown : s.vm.findClass RL = some m.cls) (hT : ∀ w ∈ pw_T, w.before #[Value.ref b] s = true) (hA : ∀ q, s.heap.size ≤ q → A q) (hAX : ∀ q, AX q → A q) (hAM : ∀ q, AM q → A q) (hAO : ∀ q, AO q → A q) (hd1 : ∀ q, AX q → ¬ AM q) (hd2 : ∀ q, AX q → ¬ AO q) (hd3 : ∀ q, AM q → ¬ AO q) (hXs : va_X b L xs s s.heap) (hbl : b < s.heap.size) (hbA : ¬ A b) (hL : L ≤ 3584) {kc ks : Nat} (hkc : kc + 4 ≤ 601024) (hks : ks + 24 ≤ 7293034) {vi : Int32} {xx mm oo : Nat} {rr_bytes : Int32} {rr_fault : Int32} {rr_place : Int32} {f_rr_tape : Nat → Int32} {dX : DD} {cn_hour : Int32} {ci_hour : Int32} {xx_imageKept : Int32} {rd_count : Int32} {rd_knownFirst : Int32} {mm_taped : Int32} {mm_lastFault : Int32} {mm_lastPlace : Int32} {f_mm_tape : Nat → Int32} {dM : DD} {mm_next : Int32} {mm_imageNext : Int32} {mm_hasImage : Int32} {mm_readings : Int32} {mm_knownBy : Int32} (hv0 : 0 ≤ vi.toInt) (hv1 : vi.toInt + 7 ≤ (L : Int)) (hbt : rr_bytes.toInt = mm_taped.toInt) (hta : BTt f_rr_tape f_mm_tape rr_bytes.toInt) (hfa : rr_fault = mm_lastFault) (hpl : rr_place = mm_lastPlace) (hdd : dX = dM) (hho : cn_hour.toInt = mm_next.toInt) (hih : ci_hour.toInt = mm_imageNext.toInt) (him : xx_imageKept.toInt = mm_hasImage.toInt) (hrc : rd_count.toInt = mm_readings.toInt) (hrk : rd_knownFirst.toInt = mm_knownBy.toInt) {H : Heap} {locs : List Loc} {ls : Array Slot} (hX : XW dC dI AX s H xx rr_bytes rr_fault rr_place f_rr_tape dX cn_hour ci_hour xx_imageKept rd_count rd_knownFirst) (hM : MW dC dI AM s H mm mm_taped mm_lastFault mm_lastPlace f_mm_tape dM mm_next mm_imageNext mm_hasImage mm_readings mm_knownBy) (hO : OW dC dI AO s H oo) (hS : va_S A s.heap H locs) (hl : lv_has ls 7 [(4, .int vi), (3, .ref oo), (2, .ref mm), (1, .ref xx), (0, .ref b)]) (kk : ∀ (H1 : Heap) (locs1 : List Loc) (ls1 : Array Slot) (n_rr_bytes : Int32) (n_rr_fault : Int32) (n_rr_place : Int32) (n_f_rr_tape : Nat → Int32) (n_dX : DD) (n_cn_hour : Int32) (n_ci_hour : Int32) (n_xx_imageKept : Int32) (n_rd_count : Int32) (n_rd_knownFirst : Int32) (n_mm_taped : Int32) (n_mm_lastFault : Int32) (n_mm_lastPlace : Int32) (n_f_mm_tape : Nat → Int32) (n_dM : DD) (n_mm_next : Int32) (n_mm_imageNext : Int32) (n_mm_hasImage : Int32) (n_mm_readings : Int32) (n_mm_knownBy : Int32), n_rr_bytes.toInt = n_mm_taped.toInt → BTt n_f_rr_tape n_f_mm_tape n_rr_bytes.toInt → n_rr_fault = n_mm_lastFault → n_rr_place = n_mm_lastPlace → n_dX = n_dM → n_cn_hour.toInt = n_mm_next.toInt → n_ci_hour.toInt = n_mm_imageNext.toInt → n_xx_imageKept.toInt = n_mm_hasImage.toInt → n_rd_count.toInt = n_mm_readings.toInt → n_rd_knownFirst.toInt = n_mm_knownBy.toInt → XW dC dI AX s H1 xx n_rr_bytes n_rr_fault n_rr_place n_f_rr_tape n_dX n_cn_hour n_ci_hour n_xx_imageKept n_rd_count n_rd_knownFirst → MW dC dI AM s H1 mm n_mm_taped n_mm_lastFault n_mm_lastPlace n_f_mm_tape n_dM n_mm_next n_mm_imageNext n_mm_hasImage n_mm_readings n_mm_knownBy → OW dC dI AO s H1 oo → va_S A s.heap H1 locs1 → lv_has ls1 7 [(4, .int vi), (3, .ref oo), (2, .ref mm), (1, .ref xx), (0, .ref b)] → W p l e room_1 s m #[Value.ref b] below meth c H1 locs1 (kc + 1) (ks + 6) Q (F0 m 1453 ls1 [])) : W p l e room_1 s m #[Value.ref b] below meth c H locs kc ks Q (F0 m 282 ls []) := by
  refine lv_aload_n hx hb dL_law_282 rfl (lv_at hl 3 rfl) ?_
  refine lv_aload_n hx hb dL_law_283 rfl (lv_at hl 4 rfl) ?_
  refine lv_iload hx hb dL_law_284 (lv_at hl 0 rfl) ?_
  refine lv_iconst (v := 1) hx hb dL_law_286 (by decide) ?_
  refine lv_iadd hx hb dL_law_287 ?_
  refine lv_topi (fun z_1 ez_1 => ?_)
  have kz_1 : z_1.toInt = vi.toInt + 1 := ti_add ez_1 rfl (by decide) (by omega) (by omega)
  clear ez_1
  refine va_sld hx hb hXs hbl hbA hS (vp_in_iff.mpr (by omega)) dL_law_288 ?_
  refine lv_topi (fun z_2 ez_2 => ?_)
  refine xs_2 hx hb hml hown hT hA hAX (by omega) (by omega) hl hX hS (fun r_3 H_3 lo_3 hX ho3_0 hfr hz hS => ?_)
  have hM := hM.keep (fun q hq h => hfr q hq (fun z => hd1 q z h))
  have hO := hO.keep (fun q hq h => hfr q hq (fun z => hd2 q z h))
  clear hfr hz
  refine lv_pop hx hb dL_law_292 rfl ?_
  refine lv_aload_n hx hb dL_law_293 rfl (lv_at hl 2 rfl) ?_
  refine lv_aload_n hx hb dL_law_294 rfl (lv_at hl 4 rfl) ?_
  refine lv_iload hx hb dL_law_295 (lv_at hl 0 rfl) ?_
  refine lv_iconst (v := 1) hx hb dL_law_297 (by decide) ?_
  refine lv_iadd hx hb dL_law_298 ?_
  refine lv_topi (fun z_4 ez_4 => ?_)
  have kz_4 : z_4.toInt = vi.toInt + 1 := ti_add ez_4 rfl (by decide) (by omega) (by omega)
  clear ez_4
  refine va_sld hx hb hXs hbl hbA hS (vp_in_iff.mpr (by omega)) dL_law_299 ?_
  refine lv_topi (fun z_5 ez_5 => ?_)
  have hq_6 : z_2 = z_5 := ez_2.trans ((congrArg (fun q : Int32 => xs q.toNatClampNeg) (Int32.toInt_inj.mp (by omega))).trans ez_5.symm)
  clear ez_5
  subst hq_6
  refine ms_2 hx hb hml hown hT hA hAM (by omega) (by omega) hl hM hS (fun r_7 H_7 lo_7 hM ho7_0 hfr hz hS => ?_)
  have hX := hX.keep (fun q hq h => hfr q hq (fun z => hd1 q h z))
  have hO := hO.keep (fun q hq h => hfr q hq (fun z => hd3 q z h))
  clear hfr hz
  have hag1 := fl_agree ho3_0 ho7_0 hfa hpl
  refine lv_pop hx hb dL_law_303 rfl ?_
  refine lv_goto (tgt := 1453) hx hb dL_law_304 (by decide) ?_
  refine W.widen (k := kc + 1) (n := ks + 6) (by omega) (by omega) ?_
  exact kk H_7 lo_7 _ rr_bytes rr_fault rr_place f_rr_tape dX cn_hour ci_hour xx_imageKept rd_count rd_knownFirst mm_taped mm_lastFault mm_lastPlace f_mm_tape dM mm_next mm_imageNext mm_hasImage mm_readings mm_knownBy hbt hta hfa hpl hdd hho hih him hrc hrk hX hM hO hS (lv_sub hl [0, 1, 2, 3, 4] rfl)
set_option maxHeartbeats 4000000 in
set_option maxRecDepth 100000 in
theorem law_op_3 {p : Program} {l : Launch} {e : Env} {s : State} {m : MethodId} {below : List Frame} {meth : Method} {c : Code} {dC : Nat → ClassId} {dI : Nat → Nat → Nat} {b : Nat} {L : Nat} {xs : Nat → Int32} {A AX AM AO : Nat → Prop} {Q : State → Prop} (hx : p.tables.exec = Jvm.exec) (hb : c.code = cL_law) (hml : c.maxLocals = 7) (hown : s.vm.findClass RL = some m.cls) (hT : ∀ w ∈ pw_T, w.before #[Value.ref b] s = true) (hA : ∀ q, s.heap.size ≤ q → A q) (hAX : ∀ q, AX q → A q) (hAM : ∀ q, AM q → A q) (hAO : ∀ q, AO q → A q) (hd1 : ∀ q, AX q → ¬ AM q) (hd2 : ∀ q, AX q → ¬ AO q) (hd3 : ∀ q, AM q → ¬ AO q) (hXs : va_X b L xs s s.heap) (hbl : b < s.heap.size) (hbA : ¬ A b) (hL : L ≤ 3584) {kc ks : Nat} (hkc : kc + 4 ≤ 601024) (hks : ks + 24 ≤ 7293034) {vi : Int32} {xx mm oo : Nat} {rr_bytes : Int32} {rr_fault : Int32} {rr_place : Int32} {f_rr_tape : Nat → Int32} {dX : DD} {cn_hour : Int32} {ci_hour : Int32} {xx_imageKept : Int32} {rd_count : Int32} {rd_knownFirst : Int32} {mm_taped : Int32} {mm_lastFault : Int32} {mm_lastPlace : Int32} {f_mm_tape : Nat → Int32} {dM : DD} {mm_next : Int32} {mm_imageNext : Int32} {mm_hasImage : Int32} {mm_readings : Int32} {mm_knownBy : Int32} (hv0 : 0 ≤ vi.toInt) (hv1 : vi.toInt + 7 ≤ (L : Int)) (hbt : rr_bytes.toInt = mm_taped.toInt) (hta : BTt f_rr_tape f_mm_tape rr_bytes.toInt) (hfa : rr_fault = mm_lastFault) (hpl : rr_place = mm_lastPlace) (hdd : dX = dM) (hho : cn_hour.toInt = mm_next.toInt) (hih : ci_hour.toInt = mm_imageNext.toInt) (him : xx_imageKept.toInt = mm_hasImage.toInt) (hrc : rd_count.toInt = mm_readings.toInt) (hrk : rd_knownFirst.toInt = mm_knownBy.toInt) {H : Heap} {locs : List Loc} {ls : Array Slot} (hX : XW dC dI AX s H xx rr_bytes rr_fault rr_place f_rr_tape dX cn_hour ci_hour xx_imageKept rd_count rd_knownFirst) (hM : MW dC dI AM s H mm mm_taped mm_lastFault mm_lastPlace f_mm_tape dM mm_next mm_imageNext mm_hasImage mm_readings mm_knownBy) (hO : OW dC dI AO s H oo) (hS : va_S A s.heap H locs) (hl : lv_has ls 7 [(4, .int vi), (3, .ref oo), (2, .ref mm), (1, .ref xx), (0, .ref b)]) (kk : ∀ (H1 : Heap) (locs1 : List Loc) (ls1 : Array Slot) (n_rr_bytes : Int32) (n_rr_fault : Int32) (n_rr_place : Int32) (n_f_rr_tape : Nat → Int32) (n_dX : DD) (n_cn_hour : Int32) (n_ci_hour : Int32) (n_xx_imageKept : Int32) (n_rd_count : Int32) (n_rd_knownFirst : Int32) (n_mm_taped : Int32) (n_mm_lastFault : Int32) (n_mm_lastPlace : Int32) (n_f_mm_tape : Nat → Int32) (n_dM : DD) (n_mm_next : Int32) (n_mm_imageNext : Int32) (n_mm_hasImage : Int32) (n_mm_readings : Int32) (n_mm_knownBy : Int32), n_rr_bytes.toInt = n_mm_taped.toInt → BTt n_f_rr_tape n_f_mm_tape n_rr_bytes.toInt → n_rr_fault = n_mm_lastFault → n_rr_place = n_mm_lastPlace → n_dX = n_dM → n_cn_hour.toInt = n_mm_next.toInt → n_ci_hour.toInt = n_mm_imageNext.toInt → n_xx_imageKept.toInt = n_mm_hasImage.toInt → n_rd_count.toInt = n_mm_readings.toInt → n_rd_knownFirst.toInt = n_mm_knownBy.toInt → XW dC dI AX s H1 xx n_rr_bytes n_rr_fault n_rr_place n_f_rr_tape n_dX n_cn_hour n_ci_hour n_xx_imageKept n_rd_count n_rd_knownFirst → MW dC dI AM s H1 mm n_mm_taped n_mm_lastFault n_mm_lastPlace n_f_mm_tape n_dM n_mm_next n_mm_imageNext n_mm_hasImage n_mm_readings n_mm_knownBy → OW dC dI AO s H1 oo → va_S A s.heap H1 locs1 → lv_has ls1 7 [(4, .int vi), (3, .ref oo), (2, .ref mm), (1, .ref xx), (0, .ref b)] → W p l e room_1 s m #[Value.ref b] below meth c H1 locs1 (kc + 1) (ks + 6) Q (F0 m 1453 ls1 [])) : W p l e room_1 s m #[Value.ref b] below meth c H locs kc ks Q (F0 m 307 ls []) := by
  refine lv_aload_n hx hb dL_law_307 rfl (lv_at hl 3 rfl) ?_
  refine lv_aload_n hx hb dL_law_308 rfl (lv_at hl 4 rfl) ?_
  refine lv_iload hx hb dL_law_309 (lv_at hl 0 rfl) ?_
  refine lv_iconst (v := 1) hx hb dL_law_311 (by decide) ?_
  refine lv_iadd hx hb dL_law_312 ?_
  refine lv_topi (fun z_1 ez_1 => ?_)
  have kz_1 : z_1.toInt = vi.toInt + 1 := ti_add ez_1 rfl (by decide) (by omega) (by omega)
  clear ez_1
  refine va_sld hx hb hXs hbl hbA hS (vp_in_iff.mpr (by omega)) dL_law_313 ?_
  refine lv_topi (fun z_2 ez_2 => ?_)
  refine lv_aload_n hx hb dL_law_314 rfl (lv_at hl 4 rfl) ?_
  refine lv_iload hx hb dL_law_315 (lv_at hl 0 rfl) ?_
  refine lv_iconst (v := 2) hx hb dL_law_317 (by decide) ?_
  refine lv_iadd hx hb dL_law_318 ?_
  refine lv_topi (fun z_3 ez_3 => ?_)
  have kz_3 : z_3.toInt = vi.toInt + 2 := ti_add ez_3 rfl (by decide) (by omega) (by omega)
  clear ez_3
  refine va_sld hx hb hXs hbl hbA hS (vp_in_iff.mpr (by omega)) dL_law_319 ?_
  refine lv_topi (fun z_4 ez_4 => ?_)
  refine xs_3 hx hb hml hown hT hA hAX (by omega) (by omega) hl hX hS (fun r_5 H_5 lo_5 hX ho5_0 hfr hz hS => ?_)
  have hM := hM.keep (fun q hq h => hfr q hq (fun z => hd1 q z h))
  have hO := hO.keep (fun q hq h => hfr q hq (fun z => hd2 q z h))
  clear hfr hz
  refine lv_pop hx hb dL_law_323 rfl ?_
  refine lv_aload_n hx hb dL_law_324 rfl (lv_at hl 2 rfl) ?_
  refine lv_aload_n hx hb dL_law_325 rfl (lv_at hl 4 rfl) ?_
  refine lv_iload hx hb dL_law_326 (lv_at hl 0 rfl) ?_
  refine lv_iconst (v := 1) hx hb dL_law_328 (by decide) ?_
  refine lv_iadd hx hb dL_law_329 ?_
  refine lv_topi (fun z_6 ez_6 => ?_)
  have kz_6 : z_6.toInt = vi.toInt + 1 := ti_add ez_6 rfl (by decide) (by omega) (by omega)
  clear ez_6
  refine va_sld hx hb hXs hbl hbA hS (vp_in_iff.mpr (by omega)) dL_law_330 ?_
  refine lv_topi (fun z_7 ez_7 => ?_)
  have hq_8 : z_2 = z_7 := ez_2.trans ((congrArg (fun q : Int32 => xs q.toNatClampNeg) (Int32.toInt_inj.mp (by omega))).trans ez_7.symm)
  clear ez_7
  subst hq_8
  refine lv_aload_n hx hb dL_law_331 rfl (lv_at hl 4 rfl) ?_
  refine lv_iload hx hb dL_law_332 (lv_at hl 0 rfl) ?_
  refine lv_iconst (v := 2) hx hb dL_law_334 (by decide) ?_
  refine lv_iadd hx hb dL_law_335 ?_
  refine lv_topi (fun z_9 ez_9 => ?_)
  have kz_9 : z_9.toInt = vi.toInt + 2 := ti_add ez_9 rfl (by decide) (by omega) (by omega)
  clear ez_9
  refine va_sld hx hb hXs hbl hbA hS (vp_in_iff.mpr (by omega)) dL_law_336 ?_
  refine lv_topi (fun z_10 ez_10 => ?_)
  have hq_11 : z_4 = z_10 := ez_4.trans ((congrArg (fun q : Int32 => xs q.toNatClampNeg) (Int32.toInt_inj.mp (by omega))).trans ez_10.symm)
  clear ez_10
  subst hq_11
  refine ms_3 hx hb hml hown hT hA hAM (by omega) (by omega) hl hM hS (fun r_12 H_12 lo_12 hM ho12_0 hfr hz hS => ?_)
  have hX := hX.keep (fun q hq h => hfr q hq (fun z => hd1 q h z))
  have hO := hO.keep (fun q hq h => hfr q hq (fun z => hd3 q z h))
  clear hfr hz
  have hag1 := nm_agree hdd ho5_0 ho12_0
  refine lv_pop hx hb dL_law_340 rfl ?_
  refine lv_goto (tgt := 1453) hx hb dL_law_341 (by decide) ?_
  refine W.widen (k := kc + 1) (n := ks + 6) (by omega) (by omega) ?_
  exact kk H_12 lo_12 _ rr_bytes rr_fault rr_place f_rr_tape dX cn_hour ci_hour xx_imageKept rd_count rd_knownFirst mm_taped mm_lastFault mm_lastPlace f_mm_tape dM mm_next mm_imageNext mm_hasImage mm_readings mm_knownBy hbt hta hfa hpl hdd hho hih him hrc hrk hX hM hO hS (lv_sub hl [0, 1, 2, 3, 4] rfl)
set_option maxHeartbeats 4000000 in
set_option maxRecDepth 100000 in
theorem law_op_4 {p : Program} {l : Launch} {e : Env} {s : State} {m : MethodId} {below : List Frame} {meth : Method} {c : Code} {dC : Nat → ClassId} {dI : Nat → Nat → Nat} {b : Nat} {L : Nat} {xs : Nat → Int32} {A AX AM AO : Nat → Prop} {Q : State → Prop} (hx : p.tables.exec = Jvm.exec) (hb : c.code = cL_law) (hml : c.maxLocals = 7) (hown : s.vm.findClass RL = some m.cls) (hT : ∀ w ∈ pw_T, w.before #[Value.ref b] s = true) (hA : ∀ q, s.heap.size ≤ q → A q) (hAX : ∀ q, AX q → A q) (hAM : ∀ q, AM q → A q) (hAO : ∀ q, AO q → A q) (hd1 : ∀ q, AX q → ¬ AM q) (hd2 : ∀ q, AX q → ¬ AO q) (hd3 : ∀ q, AM q → ¬ AO q) (hXs : va_X b L xs s s.heap) (hbl : b < s.heap.size) (hbA : ¬ A b) (hL : L ≤ 3584) {kc ks : Nat} (hkc : kc + 4 ≤ 601024) (hks : ks + 24 ≤ 7293034) (hst : l.stackTraces = false) {ns nw : Nat} (hR2 : vk_R RX10 148 "no such person" ns s) (hR3 : vk_R RX10 183 "no such what" nw s) (hZU : vx_Zq Bundle.tN "UNASSIGNED_STACK" Bundle.steD A s s.heap) (hZN : vx_Zq Bundle.tN "SUPPRESSED_SENTINEL" Bundle.listD A s s.heap) (hcast : va_Nw (.castable "java/lang/IndexOutOfBoundsException" "java/lang/IndexOutOfBoundsException") s) (hcas2 : va_Nw (.castable "java/util/NoSuchElementException" "java/util/NoSuchElementException") s) (hnc : va_Nc "java/util/NoSuchElementException" "java/lang/IndexOutOfBoundsException" s) (hd_0 : va_Nw (.declares ⟨"java/lang/RuntimeException", "<init>", "(Ljava/lang/String;)V"⟩) s) (hd_1 : va_Nw (.declares ⟨"java/lang/Exception", "<init>", "(Ljava/lang/String;)V"⟩) s) (hd_2 : va_Nw (.declares ⟨"java/lang/Throwable", "<init>", "(Ljava/lang/String;)V"⟩) s) {vi : Int32} {xx mm oo : Nat} {rr_bytes : Int32} {rr_fault : Int32} {rr_place : Int32} {f_rr_tape : Nat → Int32} {dX : DD} {cn_hour : Int32} {ci_hour : Int32} {xx_imageKept : Int32} {rd_count : Int32} {rd_knownFirst : Int32} {mm_taped : Int32} {mm_lastFault : Int32} {mm_lastPlace : Int32} {f_mm_tape : Nat → Int32} {dM : DD} {mm_next : Int32} {mm_imageNext : Int32} {mm_hasImage : Int32} {mm_readings : Int32} {mm_knownBy : Int32} (hv0 : 0 ≤ vi.toInt) (hv1 : vi.toInt + 7 ≤ (L : Int)) (hbt : rr_bytes.toInt = mm_taped.toInt) (hta : BTt f_rr_tape f_mm_tape rr_bytes.toInt) (hfa : rr_fault = mm_lastFault) (hpl : rr_place = mm_lastPlace) (hdd : dX = dM) (hho : cn_hour.toInt = mm_next.toInt) (hih : ci_hour.toInt = mm_imageNext.toInt) (him : xx_imageKept.toInt = mm_hasImage.toInt) (hrc : rd_count.toInt = mm_readings.toInt) (hrk : rd_knownFirst.toInt = mm_knownBy.toInt) {H : Heap} {locs : List Loc} {ls : Array Slot} (hX : XW dC dI AX s H xx rr_bytes rr_fault rr_place f_rr_tape dX cn_hour ci_hour xx_imageKept rd_count rd_knownFirst) (hM : MW dC dI AM s H mm mm_taped mm_lastFault mm_lastPlace f_mm_tape dM mm_next mm_imageNext mm_hasImage mm_readings mm_knownBy) (hO : OW dC dI AO s H oo) (hS : va_S A s.heap H locs) (hl : lv_has ls 7 [(4, .int vi), (3, .ref oo), (2, .ref mm), (1, .ref xx), (0, .ref b)]) (kk : ∀ (H1 : Heap) (locs1 : List Loc) (ls1 : Array Slot) (n_rr_bytes : Int32) (n_rr_fault : Int32) (n_rr_place : Int32) (n_f_rr_tape : Nat → Int32) (n_dX : DD) (n_cn_hour : Int32) (n_ci_hour : Int32) (n_xx_imageKept : Int32) (n_rd_count : Int32) (n_rd_knownFirst : Int32) (n_mm_taped : Int32) (n_mm_lastFault : Int32) (n_mm_lastPlace : Int32) (n_f_mm_tape : Nat → Int32) (n_dM : DD) (n_mm_next : Int32) (n_mm_imageNext : Int32) (n_mm_hasImage : Int32) (n_mm_readings : Int32) (n_mm_knownBy : Int32), n_rr_bytes.toInt = n_mm_taped.toInt → BTt n_f_rr_tape n_f_mm_tape n_rr_bytes.toInt → n_rr_fault = n_mm_lastFault → n_rr_place = n_mm_lastPlace → n_dX = n_dM → n_cn_hour.toInt = n_mm_next.toInt → n_ci_hour.toInt = n_mm_imageNext.toInt → n_xx_imageKept.toInt = n_mm_hasImage.toInt → n_rd_count.toInt = n_mm_readings.toInt → n_rd_knownFirst.toInt = n_mm_knownBy.toInt → XW dC dI AX s H1 xx n_rr_bytes n_rr_fault n_rr_place n_f_rr_tape n_dX n_cn_hour n_ci_hour n_xx_imageKept n_rd_count n_rd_knownFirst → MW dC dI AM s H1 mm n_mm_taped n_mm_lastFault n_mm_lastPlace n_f_mm_tape n_dM n_mm_next n_mm_imageNext n_mm_hasImage n_mm_readings n_mm_knownBy → OW dC dI AO s H1 oo → va_S A s.heap H1 locs1 → lv_has ls1 7 [(4, .int vi), (3, .ref oo), (2, .ref mm), (1, .ref xx), (0, .ref b)] → W p l e room_1 s m #[Value.ref b] below meth c H1 locs1 (kc + 1) (ks + 6) Q (F0 m 1453 ls1 [])) : W p l e room_1 s m #[Value.ref b] below meth c H locs kc ks Q (F0 m 344 ls []) := by
  refine lv_aload_n hx hb dL_law_344 rfl (lv_at hl 3 rfl) ?_
  refine lv_aload_n hx hb dL_law_345 rfl (lv_at hl 4 rfl) ?_
  refine lv_iload hx hb dL_law_346 (lv_at hl 0 rfl) ?_
  refine lv_iconst (v := 1) hx hb dL_law_348 (by decide) ?_
  refine lv_iadd hx hb dL_law_349 ?_
  refine lv_topi (fun z_1 ez_1 => ?_)
  have kz_1 : z_1.toInt = vi.toInt + 1 := ti_add ez_1 rfl (by decide) (by omega) (by omega)
  clear ez_1
  refine va_sld hx hb hXs hbl hbA hS (vp_in_iff.mpr (by omega)) dL_law_350 ?_
  refine lv_topi (fun z_2 ez_2 => ?_)
  refine lv_aload_n hx hb dL_law_351 rfl (lv_at hl 4 rfl) ?_
  refine lv_iload hx hb dL_law_352 (lv_at hl 0 rfl) ?_
  refine lv_iconst (v := 2) hx hb dL_law_354 (by decide) ?_
  refine lv_iadd hx hb dL_law_355 ?_
  refine lv_topi (fun z_3 ez_3 => ?_)
  have kz_3 : z_3.toInt = vi.toInt + 2 := ti_add ez_3 rfl (by decide) (by omega) (by omega)
  clear ez_3
  refine va_sld hx hb hXs hbl hbA hS (vp_in_iff.mpr (by omega)) dL_law_356 ?_
  refine lv_topi (fun z_4 ez_4 => ?_)
  refine lv_aload_n hx hb dL_law_357 rfl (lv_at hl 1 rfl) ?_
  refine xs_4 hx hb hml hown hT hA hAX hAO hd2 (by omega) (by omega) hst hR2 hR3 hZU hZN hcast hcas2 hnc hd_0 hd_1 hd_2 hl hX hO hS (fun r_5 H_5 lo_5 hX hO hfr hz hS => ?_)
  have hM := hM.keep (fun q hq h => hfr q hq (fun z => hd1 q z h) (hd3 q h))
  clear hfr hz
  refine lv_istore (lv' := [(5, .int r_5), (4, .int vi), (3, .ref oo), (2, .ref mm), (1, .ref xx), (0, .ref b)]) hx hb dL_law_361 hl (by decide) rfl (fun ls hl => ?_)
  refine lv_aload_n hx hb dL_law_363 rfl (lv_at hl 3 rfl) ?_
  refine lv_aload_n hx hb dL_law_364 rfl (lv_at hl 5 rfl) ?_
  refine lv_iload hx hb dL_law_365 (lv_at hl 1 rfl) ?_
  refine lv_iconst (v := 1) hx hb dL_law_367 (by decide) ?_
  refine lv_iadd hx hb dL_law_368 ?_
  refine lv_topi (fun z_6 ez_6 => ?_)
  have kz_6 : z_6.toInt = vi.toInt + 1 := ti_add ez_6 rfl (by decide) (by omega) (by omega)
  clear ez_6
  refine va_sld hx hb hXs hbl hbA hS (vp_in_iff.mpr (by omega)) dL_law_369 ?_
  refine lv_topi (fun z_7 ez_7 => ?_)
  have hq_8 : z_2 = z_7 := ez_2.trans ((congrArg (fun q : Int32 => xs q.toNatClampNeg) (Int32.toInt_inj.mp (by omega))).trans ez_7.symm)
  clear ez_7
  subst hq_8
  refine lv_aload_n hx hb dL_law_370 rfl (lv_at hl 5 rfl) ?_
  refine lv_iload hx hb dL_law_371 (lv_at hl 1 rfl) ?_
  refine lv_iconst (v := 2) hx hb dL_law_373 (by decide) ?_
  refine lv_iadd hx hb dL_law_374 ?_
  refine lv_topi (fun z_9 ez_9 => ?_)
  have kz_9 : z_9.toInt = vi.toInt + 2 := ti_add ez_9 rfl (by decide) (by omega) (by omega)
  clear ez_9
  refine va_sld hx hb hXs hbl hbA hS (vp_in_iff.mpr (by omega)) dL_law_375 ?_
  refine lv_topi (fun z_10 ez_10 => ?_)
  have hq_11 : z_4 = z_10 := ez_4.trans ((congrArg (fun q : Int32 => xs q.toNatClampNeg) (Int32.toInt_inj.mp (by omega))).trans ez_10.symm)
  clear ez_10
  subst hq_11
  refine ms_4 hx hb hml hown hT hA hAM (by omega) (by omega) hl hM hS (fun r_12 H_12 lo_12 hM hfr hz hS => ?_)
  have hX := hX.keep (fun q hq h => hfr q hq (fun z => hd1 q h z))
  have hO := hO.keep (fun q hq h => hfr q hq (fun z => hd3 q z h))
  clear hfr hz
  refine lv_istore (lv' := [(6, .int r_12), (5, .int r_5), (4, .int vi), (3, .ref oo), (2, .ref mm), (1, .ref xx), (0, .ref b)]) hx hb dL_law_379 hl (by decide) rfl (fun ls hl => ?_)
  refine lv_goto (tgt := 1453) hx hb dL_law_381 (by decide) ?_
  refine W.widen (k := kc + 1) (n := ks + 6) (by omega) (by omega) ?_
  exact kk H_12 lo_12 _ rr_bytes rr_fault rr_place f_rr_tape dX cn_hour ci_hour xx_imageKept rd_count rd_knownFirst mm_taped mm_lastFault mm_lastPlace f_mm_tape dM mm_next mm_imageNext mm_hasImage mm_readings mm_knownBy hbt hta hfa hpl hdd hho hih him hrc hrk hX hM hO hS (lv_sub hl [2, 3, 4, 5, 6] rfl)
set_option maxHeartbeats 4000000 in
set_option maxRecDepth 100000 in
theorem law_op_5 {p : Program} {l : Launch} {e : Env} {s : State} {m : MethodId} {below : List Frame} {meth : Method} {c : Code} {dC : Nat → ClassId} {dI : Nat → Nat → Nat} {b : Nat} {L : Nat} {xs : Nat → Int32} {A AX AM AO : Nat → Prop} {Q : State → Prop} (hx : p.tables.exec = Jvm.exec) (hb : c.code = cL_law) (hml : c.maxLocals = 7) (hown : s.vm.findClass RL = some m.cls) (hT : ∀ w ∈ pw_T, w.before #[Value.ref b] s = true) (hA : ∀ q, s.heap.size ≤ q → A q) (hAX : ∀ q, AX q → A q) (hAM : ∀ q, AM q → A q) (hAO : ∀ q, AO q → A q) (hd1 : ∀ q, AX q → ¬ AM q) (hd2 : ∀ q, AX q → ¬ AO q) (hd3 : ∀ q, AM q → ¬ AO q) (hXs : va_X b L xs s s.heap) (hbl : b < s.heap.size) (hbA : ¬ A b) (hL : L ≤ 3584) {kc ks : Nat} (hkc : kc + 4 ≤ 601024) (hks : ks + 24 ≤ 7293034) {vi : Int32} {xx mm oo : Nat} {rr_bytes : Int32} {rr_fault : Int32} {rr_place : Int32} {f_rr_tape : Nat → Int32} {dX : DD} {cn_hour : Int32} {ci_hour : Int32} {xx_imageKept : Int32} {rd_count : Int32} {rd_knownFirst : Int32} {mm_taped : Int32} {mm_lastFault : Int32} {mm_lastPlace : Int32} {f_mm_tape : Nat → Int32} {dM : DD} {mm_next : Int32} {mm_imageNext : Int32} {mm_hasImage : Int32} {mm_readings : Int32} {mm_knownBy : Int32} (hv0 : 0 ≤ vi.toInt) (hv1 : vi.toInt + 7 ≤ (L : Int)) (hbt : rr_bytes.toInt = mm_taped.toInt) (hta : BTt f_rr_tape f_mm_tape rr_bytes.toInt) (hfa : rr_fault = mm_lastFault) (hpl : rr_place = mm_lastPlace) (hdd : dX = dM) (hho : cn_hour.toInt = mm_next.toInt) (hih : ci_hour.toInt = mm_imageNext.toInt) (him : xx_imageKept.toInt = mm_hasImage.toInt) (hrc : rd_count.toInt = mm_readings.toInt) (hrk : rd_knownFirst.toInt = mm_knownBy.toInt) {H : Heap} {locs : List Loc} {ls : Array Slot} (hX : XW dC dI AX s H xx rr_bytes rr_fault rr_place f_rr_tape dX cn_hour ci_hour xx_imageKept rd_count rd_knownFirst) (hM : MW dC dI AM s H mm mm_taped mm_lastFault mm_lastPlace f_mm_tape dM mm_next mm_imageNext mm_hasImage mm_readings mm_knownBy) (hO : OW dC dI AO s H oo) (hS : va_S A s.heap H locs) (hl : lv_has ls 7 [(4, .int vi), (3, .ref oo), (2, .ref mm), (1, .ref xx), (0, .ref b)]) (kk : ∀ (H1 : Heap) (locs1 : List Loc) (ls1 : Array Slot) (n_rr_bytes : Int32) (n_rr_fault : Int32) (n_rr_place : Int32) (n_f_rr_tape : Nat → Int32) (n_dX : DD) (n_cn_hour : Int32) (n_ci_hour : Int32) (n_xx_imageKept : Int32) (n_rd_count : Int32) (n_rd_knownFirst : Int32) (n_mm_taped : Int32) (n_mm_lastFault : Int32) (n_mm_lastPlace : Int32) (n_f_mm_tape : Nat → Int32) (n_dM : DD) (n_mm_next : Int32) (n_mm_imageNext : Int32) (n_mm_hasImage : Int32) (n_mm_readings : Int32) (n_mm_knownBy : Int32), n_rr_bytes.toInt = n_mm_taped.toInt → BTt n_f_rr_tape n_f_mm_tape n_rr_bytes.toInt → n_rr_fault = n_mm_lastFault → n_rr_place = n_mm_lastPlace → n_dX = n_dM → n_cn_hour.toInt = n_mm_next.toInt → n_ci_hour.toInt = n_mm_imageNext.toInt → n_xx_imageKept.toInt = n_mm_hasImage.toInt → n_rd_count.toInt = n_mm_readings.toInt → n_rd_knownFirst.toInt = n_mm_knownBy.toInt → XW dC dI AX s H1 xx n_rr_bytes n_rr_fault n_rr_place n_f_rr_tape n_dX n_cn_hour n_ci_hour n_xx_imageKept n_rd_count n_rd_knownFirst → MW dC dI AM s H1 mm n_mm_taped n_mm_lastFault n_mm_lastPlace n_f_mm_tape n_dM n_mm_next n_mm_imageNext n_mm_hasImage n_mm_readings n_mm_knownBy → OW dC dI AO s H1 oo → va_S A s.heap H1 locs1 → lv_has ls1 7 [(4, .int vi), (3, .ref oo), (2, .ref mm), (1, .ref xx), (0, .ref b)] → W p l e room_1 s m #[Value.ref b] below meth c H1 locs1 (kc + 1) (ks + 6) Q (F0 m 1453 ls1 [])) : W p l e room_1 s m #[Value.ref b] below meth c H locs kc ks Q (F0 m 384 ls []) := by
  refine lv_aload_n hx hb dL_law_384 rfl (lv_at hl 3 rfl) ?_
  refine lv_aload_n hx hb dL_law_385 rfl (lv_at hl 4 rfl) ?_
  refine lv_iload hx hb dL_law_386 (lv_at hl 0 rfl) ?_
  refine lv_iconst (v := 1) hx hb dL_law_388 (by decide) ?_
  refine lv_iadd hx hb dL_law_389 ?_
  refine lv_topi (fun z_1 ez_1 => ?_)
  have kz_1 : z_1.toInt = vi.toInt + 1 := ti_add ez_1 rfl (by decide) (by omega) (by omega)
  clear ez_1
  refine va_sld hx hb hXs hbl hbA hS (vp_in_iff.mpr (by omega)) dL_law_390 ?_
  refine lv_topi (fun z_2 ez_2 => ?_)
  refine lv_aload_n hx hb dL_law_391 rfl (lv_at hl 4 rfl) ?_
  refine lv_iload hx hb dL_law_392 (lv_at hl 0 rfl) ?_
  refine lv_iconst (v := 2) hx hb dL_law_394 (by decide) ?_
  refine lv_iadd hx hb dL_law_395 ?_
  refine lv_topi (fun z_3 ez_3 => ?_)
  have kz_3 : z_3.toInt = vi.toInt + 2 := ti_add ez_3 rfl (by decide) (by omega) (by omega)
  clear ez_3
  refine va_sld hx hb hXs hbl hbA hS (vp_in_iff.mpr (by omega)) dL_law_396 ?_
  refine lv_topi (fun z_4 ez_4 => ?_)
  refine xs_5 hx hb hml hown hT hA hAX (by omega) (by omega) hl hX hS (fun r_5 H_5 lo_5 hX ho5_0 hfr hz hS => ?_)
  have hM := hM.keep (fun q hq h => hfr q hq (fun z => hd1 q z h))
  have hO := hO.keep (fun q hq h => hfr q hq (fun z => hd2 q z h))
  clear hfr hz
  refine lv_pop hx hb dL_law_400 rfl ?_
  refine lv_aload_n hx hb dL_law_401 rfl (lv_at hl 2 rfl) ?_
  refine lv_aload_n hx hb dL_law_402 rfl (lv_at hl 4 rfl) ?_
  refine lv_iload hx hb dL_law_403 (lv_at hl 0 rfl) ?_
  refine lv_iconst (v := 1) hx hb dL_law_405 (by decide) ?_
  refine lv_iadd hx hb dL_law_406 ?_
  refine lv_topi (fun z_6 ez_6 => ?_)
  have kz_6 : z_6.toInt = vi.toInt + 1 := ti_add ez_6 rfl (by decide) (by omega) (by omega)
  clear ez_6
  refine va_sld hx hb hXs hbl hbA hS (vp_in_iff.mpr (by omega)) dL_law_407 ?_
  refine lv_topi (fun z_7 ez_7 => ?_)
  have hq_8 : z_2 = z_7 := ez_2.trans ((congrArg (fun q : Int32 => xs q.toNatClampNeg) (Int32.toInt_inj.mp (by omega))).trans ez_7.symm)
  clear ez_7
  subst hq_8
  refine lv_aload_n hx hb dL_law_408 rfl (lv_at hl 4 rfl) ?_
  refine lv_iload hx hb dL_law_409 (lv_at hl 0 rfl) ?_
  refine lv_iconst (v := 2) hx hb dL_law_411 (by decide) ?_
  refine lv_iadd hx hb dL_law_412 ?_
  refine lv_topi (fun z_9 ez_9 => ?_)
  have kz_9 : z_9.toInt = vi.toInt + 2 := ti_add ez_9 rfl (by decide) (by omega) (by omega)
  clear ez_9
  refine va_sld hx hb hXs hbl hbA hS (vp_in_iff.mpr (by omega)) dL_law_413 ?_
  refine lv_topi (fun z_10 ez_10 => ?_)
  have hq_11 : z_4 = z_10 := ez_4.trans ((congrArg (fun q : Int32 => xs q.toNatClampNeg) (Int32.toInt_inj.mp (by omega))).trans ez_10.symm)
  clear ez_10
  subst hq_11
  refine ms_5 hx hb hml hown hT hA hAM (by omega) (by omega) hl hM hS (fun r_12 H_12 lo_12 hM ho12_0 hfr hz hS => ?_)
  have hX := hX.keep (fun q hq h => hfr q hq (fun z => hd1 q h z))
  have hO := hO.keep (fun q hq h => hfr q hq (fun z => hd3 q z h))
  clear hfr hz
  have hag1 := cl_agree hdd ho5_0 ho12_0
  refine lv_pop hx hb dL_law_417 rfl ?_
  refine lv_goto (tgt := 1453) hx hb dL_law_418 (by decide) ?_
  refine W.widen (k := kc + 1) (n := ks + 6) (by omega) (by omega) ?_
  exact kk H_12 lo_12 _ rr_bytes rr_fault rr_place f_rr_tape dX cn_hour ci_hour xx_imageKept rd_count rd_knownFirst mm_taped mm_lastFault mm_lastPlace f_mm_tape dM mm_next mm_imageNext mm_hasImage mm_readings mm_knownBy hbt hta hfa hpl hdd hho hih him hrc hrk hX hM hO hS (lv_sub hl [0, 1, 2, 3, 4] rfl)
set_option maxHeartbeats 4000000 in
set_option maxRecDepth 100000 in
theorem law_op_6 {p : Program} {l : Launch} {e : Env} {s : State} {m : MethodId} {below : List Frame} {meth : Method} {c : Code} {dC : Nat → ClassId} {dI : Nat → Nat → Nat} {b : Nat} {L : Nat} {xs : Nat → Int32} {A AX AM AO : Nat → Prop} {Q : State → Prop} (hx : p.tables.exec = Jvm.exec) (hb : c.code = cL_law) (hml : c.maxLocals = 7) (hown : s.vm.findClass RL = some m.cls) (hT : ∀ w ∈ pw_T, w.before #[Value.ref b] s = true) (hA : ∀ q, s.heap.size ≤ q → A q) (hAX : ∀ q, AX q → A q) (hAM : ∀ q, AM q → A q) (hAO : ∀ q, AO q → A q) (hd1 : ∀ q, AX q → ¬ AM q) (hd2 : ∀ q, AX q → ¬ AO q) (hd3 : ∀ q, AM q → ¬ AO q) (hXs : va_X b L xs s s.heap) (hbl : b < s.heap.size) (hbA : ¬ A b) (hL : L ≤ 3584) {kc ks : Nat} (hkc : kc + 4 ≤ 601024) (hks : ks + 24 ≤ 7293034) {vi : Int32} {xx mm oo : Nat} {rr_bytes : Int32} {rr_fault : Int32} {rr_place : Int32} {f_rr_tape : Nat → Int32} {dX : DD} {cn_hour : Int32} {ci_hour : Int32} {xx_imageKept : Int32} {rd_count : Int32} {rd_knownFirst : Int32} {mm_taped : Int32} {mm_lastFault : Int32} {mm_lastPlace : Int32} {f_mm_tape : Nat → Int32} {dM : DD} {mm_next : Int32} {mm_imageNext : Int32} {mm_hasImage : Int32} {mm_readings : Int32} {mm_knownBy : Int32} (hv0 : 0 ≤ vi.toInt) (hv1 : vi.toInt + 7 ≤ (L : Int)) (hbt : rr_bytes.toInt = mm_taped.toInt) (hta : BTt f_rr_tape f_mm_tape rr_bytes.toInt) (hfa : rr_fault = mm_lastFault) (hpl : rr_place = mm_lastPlace) (hdd : dX = dM) (hho : cn_hour.toInt = mm_next.toInt) (hih : ci_hour.toInt = mm_imageNext.toInt) (him : xx_imageKept.toInt = mm_hasImage.toInt) (hrc : rd_count.toInt = mm_readings.toInt) (hrk : rd_knownFirst.toInt = mm_knownBy.toInt) {H : Heap} {locs : List Loc} {ls : Array Slot} (hX : XW dC dI AX s H xx rr_bytes rr_fault rr_place f_rr_tape dX cn_hour ci_hour xx_imageKept rd_count rd_knownFirst) (hM : MW dC dI AM s H mm mm_taped mm_lastFault mm_lastPlace f_mm_tape dM mm_next mm_imageNext mm_hasImage mm_readings mm_knownBy) (hO : OW dC dI AO s H oo) (hS : va_S A s.heap H locs) (hl : lv_has ls 7 [(4, .int vi), (3, .ref oo), (2, .ref mm), (1, .ref xx), (0, .ref b)]) (kk : ∀ (H1 : Heap) (locs1 : List Loc) (ls1 : Array Slot) (n_rr_bytes : Int32) (n_rr_fault : Int32) (n_rr_place : Int32) (n_f_rr_tape : Nat → Int32) (n_dX : DD) (n_cn_hour : Int32) (n_ci_hour : Int32) (n_xx_imageKept : Int32) (n_rd_count : Int32) (n_rd_knownFirst : Int32) (n_mm_taped : Int32) (n_mm_lastFault : Int32) (n_mm_lastPlace : Int32) (n_f_mm_tape : Nat → Int32) (n_dM : DD) (n_mm_next : Int32) (n_mm_imageNext : Int32) (n_mm_hasImage : Int32) (n_mm_readings : Int32) (n_mm_knownBy : Int32), n_rr_bytes.toInt = n_mm_taped.toInt → BTt n_f_rr_tape n_f_mm_tape n_rr_bytes.toInt → n_rr_fault = n_mm_lastFault → n_rr_place = n_mm_lastPlace → n_dX = n_dM → n_cn_hour.toInt = n_mm_next.toInt → n_ci_hour.toInt = n_mm_imageNext.toInt → n_xx_imageKept.toInt = n_mm_hasImage.toInt → n_rd_count.toInt = n_mm_readings.toInt → n_rd_knownFirst.toInt = n_mm_knownBy.toInt → XW dC dI AX s H1 xx n_rr_bytes n_rr_fault n_rr_place n_f_rr_tape n_dX n_cn_hour n_ci_hour n_xx_imageKept n_rd_count n_rd_knownFirst → MW dC dI AM s H1 mm n_mm_taped n_mm_lastFault n_mm_lastPlace n_f_mm_tape n_dM n_mm_next n_mm_imageNext n_mm_hasImage n_mm_readings n_mm_knownBy → OW dC dI AO s H1 oo → va_S A s.heap H1 locs1 → lv_has ls1 7 [(4, .int vi), (3, .ref oo), (2, .ref mm), (1, .ref xx), (0, .ref b)] → W p l e room_1 s m #[Value.ref b] below meth c H1 locs1 (kc + 1) (ks + 6) Q (F0 m 1453 ls1 [])) : W p l e room_1 s m #[Value.ref b] below meth c H locs kc ks Q (F0 m 421 ls []) := by
  refine lv_aload_n hx hb dL_law_421 rfl (lv_at hl 3 rfl) ?_
  refine lv_aload_n hx hb dL_law_422 rfl (lv_at hl 4 rfl) ?_
  refine lv_iload hx hb dL_law_423 (lv_at hl 0 rfl) ?_
  refine lv_iconst (v := 1) hx hb dL_law_425 (by decide) ?_
  refine lv_iadd hx hb dL_law_426 ?_
  refine lv_topi (fun z_1 ez_1 => ?_)
  have kz_1 : z_1.toInt = vi.toInt + 1 := ti_add ez_1 rfl (by decide) (by omega) (by omega)
  clear ez_1
  refine va_sld hx hb hXs hbl hbA hS (vp_in_iff.mpr (by omega)) dL_law_427 ?_
  refine lv_topi (fun z_2 ez_2 => ?_)
  refine lv_aload_n hx hb dL_law_428 rfl (lv_at hl 4 rfl) ?_
  refine lv_iload hx hb dL_law_429 (lv_at hl 0 rfl) ?_
  refine lv_iconst (v := 2) hx hb dL_law_431 (by decide) ?_
  refine lv_iadd hx hb dL_law_432 ?_
  refine lv_topi (fun z_3 ez_3 => ?_)
  have kz_3 : z_3.toInt = vi.toInt + 2 := ti_add ez_3 rfl (by decide) (by omega) (by omega)
  clear ez_3
  refine va_sld hx hb hXs hbl hbA hS (vp_in_iff.mpr (by omega)) dL_law_433 ?_
  refine lv_topi (fun z_4 ez_4 => ?_)
  refine xs_6 hx hb hml hown hT hA hAX (by omega) (by omega) hl hX hS (fun r_5 H_5 lo_5 hX ho5_0 hfr hz hS => ?_)
  have hM := hM.keep (fun q hq h => hfr q hq (fun z => hd1 q z h))
  have hO := hO.keep (fun q hq h => hfr q hq (fun z => hd2 q z h))
  clear hfr hz
  refine lv_pop hx hb dL_law_437 rfl ?_
  refine lv_aload_n hx hb dL_law_438 rfl (lv_at hl 2 rfl) ?_
  refine lv_aload_n hx hb dL_law_439 rfl (lv_at hl 4 rfl) ?_
  refine lv_iload hx hb dL_law_440 (lv_at hl 0 rfl) ?_
  refine lv_iconst (v := 1) hx hb dL_law_442 (by decide) ?_
  refine lv_iadd hx hb dL_law_443 ?_
  refine lv_topi (fun z_6 ez_6 => ?_)
  have kz_6 : z_6.toInt = vi.toInt + 1 := ti_add ez_6 rfl (by decide) (by omega) (by omega)
  clear ez_6
  refine va_sld hx hb hXs hbl hbA hS (vp_in_iff.mpr (by omega)) dL_law_444 ?_
  refine lv_topi (fun z_7 ez_7 => ?_)
  have hq_8 : z_2 = z_7 := ez_2.trans ((congrArg (fun q : Int32 => xs q.toNatClampNeg) (Int32.toInt_inj.mp (by omega))).trans ez_7.symm)
  clear ez_7
  subst hq_8
  refine lv_aload_n hx hb dL_law_445 rfl (lv_at hl 4 rfl) ?_
  refine lv_iload hx hb dL_law_446 (lv_at hl 0 rfl) ?_
  refine lv_iconst (v := 2) hx hb dL_law_448 (by decide) ?_
  refine lv_iadd hx hb dL_law_449 ?_
  refine lv_topi (fun z_9 ez_9 => ?_)
  have kz_9 : z_9.toInt = vi.toInt + 2 := ti_add ez_9 rfl (by decide) (by omega) (by omega)
  clear ez_9
  refine va_sld hx hb hXs hbl hbA hS (vp_in_iff.mpr (by omega)) dL_law_450 ?_
  refine lv_topi (fun z_10 ez_10 => ?_)
  have hq_11 : z_4 = z_10 := ez_4.trans ((congrArg (fun q : Int32 => xs q.toNatClampNeg) (Int32.toInt_inj.mp (by omega))).trans ez_10.symm)
  clear ez_10
  subst hq_11
  refine ms_6 hx hb hml hown hT hA hAM (by omega) (by omega) hl hM hS (fun r_12 H_12 lo_12 hM ho12_0 hfr hz hS => ?_)
  have hX := hX.keep (fun q hq h => hfr q hq (fun z => hd1 q h z))
  have hO := hO.keep (fun q hq h => hfr q hq (fun z => hd3 q z h))
  clear hfr hz
  have hag1 := cl_agree hdd ho5_0 ho12_0
  refine lv_pop hx hb dL_law_454 rfl ?_
  refine lv_goto (tgt := 1453) hx hb dL_law_455 (by decide) ?_
  refine W.widen (k := kc + 1) (n := ks + 6) (by omega) (by omega) ?_
  exact kk H_12 lo_12 _ rr_bytes rr_fault rr_place f_rr_tape dX cn_hour ci_hour xx_imageKept rd_count rd_knownFirst mm_taped mm_lastFault mm_lastPlace f_mm_tape dM mm_next mm_imageNext mm_hasImage mm_readings mm_knownBy hbt hta hfa hpl hdd hho hih him hrc hrk hX hM hO hS (lv_sub hl [0, 1, 2, 3, 4] rfl)
set_option maxHeartbeats 4000000 in
set_option maxRecDepth 100000 in
theorem law_op_7 {p : Program} {l : Launch} {e : Env} {s : State} {m : MethodId} {below : List Frame} {meth : Method} {c : Code} {dC : Nat → ClassId} {dI : Nat → Nat → Nat} {b : Nat} {L : Nat} {xs : Nat → Int32} {A AX AM AO : Nat → Prop} {Q : State → Prop} (hx : p.tables.exec = Jvm.exec) (hb : c.code = cL_law) (hml : c.maxLocals = 7) (hown : s.vm.findClass RL = some m.cls) (hT : ∀ w ∈ pw_T, w.before #[Value.ref b] s = true) (hA : ∀ q, s.heap.size ≤ q → A q) (hAX : ∀ q, AX q → A q) (hAM : ∀ q, AM q → A q) (hAO : ∀ q, AO q → A q) (hd1 : ∀ q, AX q → ¬ AM q) (hd2 : ∀ q, AX q → ¬ AO q) (hd3 : ∀ q, AM q → ¬ AO q) (hXs : va_X b L xs s s.heap) (hbl : b < s.heap.size) (hbA : ¬ A b) (hL : L ≤ 3584) {kc ks : Nat} (hkc : kc + 4 ≤ 601024) (hks : ks + 24 ≤ 7293034) {vi : Int32} {xx mm oo : Nat} {rr_bytes : Int32} {rr_fault : Int32} {rr_place : Int32} {f_rr_tape : Nat → Int32} {dX : DD} {cn_hour : Int32} {ci_hour : Int32} {xx_imageKept : Int32} {rd_count : Int32} {rd_knownFirst : Int32} {mm_taped : Int32} {mm_lastFault : Int32} {mm_lastPlace : Int32} {f_mm_tape : Nat → Int32} {dM : DD} {mm_next : Int32} {mm_imageNext : Int32} {mm_hasImage : Int32} {mm_readings : Int32} {mm_knownBy : Int32} (hv0 : 0 ≤ vi.toInt) (hv1 : vi.toInt + 7 ≤ (L : Int)) (hbt : rr_bytes.toInt = mm_taped.toInt) (hta : BTt f_rr_tape f_mm_tape rr_bytes.toInt) (hfa : rr_fault = mm_lastFault) (hpl : rr_place = mm_lastPlace) (hdd : dX = dM) (hho : cn_hour.toInt = mm_next.toInt) (hih : ci_hour.toInt = mm_imageNext.toInt) (him : xx_imageKept.toInt = mm_hasImage.toInt) (hrc : rd_count.toInt = mm_readings.toInt) (hrk : rd_knownFirst.toInt = mm_knownBy.toInt) {H : Heap} {locs : List Loc} {ls : Array Slot} (hX : XW dC dI AX s H xx rr_bytes rr_fault rr_place f_rr_tape dX cn_hour ci_hour xx_imageKept rd_count rd_knownFirst) (hM : MW dC dI AM s H mm mm_taped mm_lastFault mm_lastPlace f_mm_tape dM mm_next mm_imageNext mm_hasImage mm_readings mm_knownBy) (hO : OW dC dI AO s H oo) (hS : va_S A s.heap H locs) (hl : lv_has ls 7 [(4, .int vi), (3, .ref oo), (2, .ref mm), (1, .ref xx), (0, .ref b)]) (kk : ∀ (H1 : Heap) (locs1 : List Loc) (ls1 : Array Slot) (n_rr_bytes : Int32) (n_rr_fault : Int32) (n_rr_place : Int32) (n_f_rr_tape : Nat → Int32) (n_dX : DD) (n_cn_hour : Int32) (n_ci_hour : Int32) (n_xx_imageKept : Int32) (n_rd_count : Int32) (n_rd_knownFirst : Int32) (n_mm_taped : Int32) (n_mm_lastFault : Int32) (n_mm_lastPlace : Int32) (n_f_mm_tape : Nat → Int32) (n_dM : DD) (n_mm_next : Int32) (n_mm_imageNext : Int32) (n_mm_hasImage : Int32) (n_mm_readings : Int32) (n_mm_knownBy : Int32), n_rr_bytes.toInt = n_mm_taped.toInt → BTt n_f_rr_tape n_f_mm_tape n_rr_bytes.toInt → n_rr_fault = n_mm_lastFault → n_rr_place = n_mm_lastPlace → n_dX = n_dM → n_cn_hour.toInt = n_mm_next.toInt → n_ci_hour.toInt = n_mm_imageNext.toInt → n_xx_imageKept.toInt = n_mm_hasImage.toInt → n_rd_count.toInt = n_mm_readings.toInt → n_rd_knownFirst.toInt = n_mm_knownBy.toInt → XW dC dI AX s H1 xx n_rr_bytes n_rr_fault n_rr_place n_f_rr_tape n_dX n_cn_hour n_ci_hour n_xx_imageKept n_rd_count n_rd_knownFirst → MW dC dI AM s H1 mm n_mm_taped n_mm_lastFault n_mm_lastPlace n_f_mm_tape n_dM n_mm_next n_mm_imageNext n_mm_hasImage n_mm_readings n_mm_knownBy → OW dC dI AO s H1 oo → va_S A s.heap H1 locs1 → lv_has ls1 7 [(4, .int vi), (3, .ref oo), (2, .ref mm), (1, .ref xx), (0, .ref b)] → W p l e room_1 s m #[Value.ref b] below meth c H1 locs1 (kc + 1) (ks + 6) Q (F0 m 1453 ls1 [])) : W p l e room_1 s m #[Value.ref b] below meth c H locs kc ks Q (F0 m 458 ls []) := by
  refine lv_aload_n hx hb dL_law_458 rfl (lv_at hl 3 rfl) ?_
  refine lv_aload_n hx hb dL_law_459 rfl (lv_at hl 4 rfl) ?_
  refine lv_iload hx hb dL_law_460 (lv_at hl 0 rfl) ?_
  refine lv_iconst (v := 1) hx hb dL_law_462 (by decide) ?_
  refine lv_iadd hx hb dL_law_463 ?_
  refine lv_topi (fun z_1 ez_1 => ?_)
  have kz_1 : z_1.toInt = vi.toInt + 1 := ti_add ez_1 rfl (by decide) (by omega) (by omega)
  clear ez_1
  refine va_sld hx hb hXs hbl hbA hS (vp_in_iff.mpr (by omega)) dL_law_464 ?_
  refine lv_topi (fun z_2 ez_2 => ?_)
  refine xs_7 hx hb hml hown hT hA hAX (by omega) (by omega) hl hX hS (fun r_3 H_3 lo_3 b3_cn_hour hX ho3_0 hfr hz hS => ?_)
  have hM := hM.keep (fun q hq h => hfr q hq (fun z => hd1 q z h))
  have hO := hO.keep (fun q hq h => hfr q hq (fun z => hd2 q z h))
  clear hfr hz
  refine lv_pop hx hb dL_law_468 rfl ?_
  refine lv_aload_n hx hb dL_law_469 rfl (lv_at hl 2 rfl) ?_
  refine lv_aload_n hx hb dL_law_470 rfl (lv_at hl 4 rfl) ?_
  refine lv_iload hx hb dL_law_471 (lv_at hl 0 rfl) ?_
  refine lv_iconst (v := 1) hx hb dL_law_473 (by decide) ?_
  refine lv_iadd hx hb dL_law_474 ?_
  refine lv_topi (fun z_4 ez_4 => ?_)
  have kz_4 : z_4.toInt = vi.toInt + 1 := ti_add ez_4 rfl (by decide) (by omega) (by omega)
  clear ez_4
  refine va_sld hx hb hXs hbl hbA hS (vp_in_iff.mpr (by omega)) dL_law_475 ?_
  refine lv_topi (fun z_5 ez_5 => ?_)
  have hq_6 : z_2 = z_5 := ez_2.trans ((congrArg (fun q : Int32 => xs q.toNatClampNeg) (Int32.toInt_inj.mp (by omega))).trans ez_5.symm)
  clear ez_5
  subst hq_6
  refine ms_7 hx hb hml hown hT hA hAM (by omega) (by omega) hl hM hS (fun r_7 H_7 lo_7 b7_mm_next hM ho7_0 hfr hz hS => ?_)
  have hX := hX.keep (fun q hq h => hfr q hq (fun z => hd1 q h z))
  have hO := hO.keep (fun q hq h => hfr q hq (fun z => hd3 q z h))
  clear hfr hz
  have hag1 : r_3.toInt = r_7.toInt := by omega
  refine lv_pop hx hb dL_law_479 rfl ?_
  refine lv_goto (tgt := 1453) hx hb dL_law_480 (by decide) ?_
  refine W.widen (k := kc + 1) (n := ks + 6) (by omega) (by omega) ?_
  exact kk H_7 lo_7 _ rr_bytes rr_fault rr_place f_rr_tape dX b3_cn_hour ci_hour xx_imageKept rd_count rd_knownFirst mm_taped mm_lastFault mm_lastPlace f_mm_tape dM b7_mm_next mm_imageNext mm_hasImage mm_readings mm_knownBy hbt hta hfa hpl hdd (by omega) hih him hrc hrk hX hM hO hS (lv_sub hl [0, 1, 2, 3, 4] rfl)
