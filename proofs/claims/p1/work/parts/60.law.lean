/-! THE CLAIM OUT OF ONE WALK OF THE LAW'S BODY. Your part is whole_start (and what it stands on); all else here is the same for every law, but numbers. -/
def R_law : String := "PassedClocksLaw"
def lw_P (b : Addr) (xs : List Int32) (args : Array Value) (s : State) : Prop := args = #[.ref b] ∧ s.IntsAt b xs ∧ xs.length ≤ 7 ∧ (Jvm.Cond.and given_1 narrow_1).before args s = true
def lw_Q (_ : Array Value) (s : State) (o : Outcome) (t : State) : Prop := o = .returned (some (.int 1)) ∧ Framed s o t [] 600002 7302232
def lw_Z (below : List Frame) (a : Array Value) (s : State) : State → Prop := fun t => ∃ o, t.status = .running ∧ Ended t below o ∧ lw_Q a s o t
/-- the law's own end, with 1 on the stack, nothing written that was there before, its room as the claim has it -/
theorem lw_ret {p : Program} {l : Launch} {e : Env} {s : State} {m : MethodId} {below : List Frame} {meth : Method} {c : Code} {b : Nat} (hx : p.tables.exec = Jvm.exec) (hb : c.code = code) (hr : meth.sig.returnType = ret) (hlocks : meth.locks = false) {pc : Nat} {H : Heap} {ls : Array Slot} (hdg : decode code pc = .ok (.ireturn, 1)) : W p l e room_1 s m #[Value.ref b] below meth c H [] 600002 7302232 (lw_Z below #[Value.ref b] s) (F0 m pc ls [.int 1]) := by
  intro T hT X
  obtain ⟨fs, hret, hrun, hended, hW, hframe⟩ := X.leave (v := some (.int 1)) (hlocks := hlocks) (fun h => by rw [hr] at h; cases h)
  have hmeth' : T.vm.method? m = some meth := X.method'
  refine ⟨T.setFrames fs, ?_, .returned (some (.int 1)), hrun, hended, rfl, ⟨_, rfl⟩, hW, hframe⟩
  jvm_step X.here [X.here.top, hx, hb, hdg, hmeth', hr, ret, narrow_b1]
  (try refine ⟨rfl, ?_⟩); (try refine ⟨rfl, ?_⟩)
  first | (intro acts; rw [hret _ acts rfl rfl rfl]) | rw [hret _ _ rfl rfl rfl]
  exact Steps.refl _
/-- what holds at the law's entry: the machine, the code, the tables' words (any of lw_tbl by 'hts w (by decide +kernel)'), the script of L ints xs at the cell b, what the Statement gives of the start (any of its parts by flat_of_before) -/
def lw_At (p : Program) (s : State) (m : MethodId) (meth : Method) (c : Code) (b L : Nat) (xs : Nat → Int32) : Prop :=
  p.tables.exec = Jvm.exec ∧ c.code = code ∧ meth.sig.returnType = ret ∧ c.maxLocals = 7 ∧ s.vm.findClass R_law = some m.cls ∧ (∀ w ∈ lw_tbl, w.before #[Value.ref b] s = true) ∧ va_X b L xs s s.heap ∧ b < s.heap.size ∧ meth.locks = false ∧ (Jvm.Cond.and given_1 narrow_1).before #[Value.ref b] s = true

theorem dL_law_184 : decode cL_law 184 = .ok (.aload_n 1, 1) := by decide +kernel
theorem dL_law_185 : decode cL_law 185 = .ok (.aload_n 0, 1) := by decide +kernel
theorem dL_law_186 : decode cL_law 186 = .ok (.iload 4, 2) := by decide +kernel
theorem dL_law_188 : decode cL_law 188 = .ok (.iconst 1, 1) := by decide +kernel
theorem dL_law_189 : decode cL_law 189 = .ok (.iadd, 1) := by decide +kernel
theorem dL_law_190 : decode cL_law 190 = .ok (.iaload, 1) := by decide +kernel
theorem dL_law_191 : decode cL_law 191 = .ok (.aload_n 0, 1) := by decide +kernel
theorem dL_law_192 : decode cL_law 192 = .ok (.iload 4, 2) := by decide +kernel
theorem dL_law_194 : decode cL_law 194 = .ok (.iconst 2, 1) := by decide +kernel
theorem dL_law_195 : decode cL_law 195 = .ok (.iadd, 1) := by decide +kernel
theorem dL_law_196 : decode cL_law 196 = .ok (.iaload, 1) := by decide +kernel
theorem dL_law_197 : decode cL_law 197 = .ok (.aload_n 0, 1) := by decide +kernel
theorem dL_law_198 : decode cL_law 198 = .ok (.iload 4, 2) := by decide +kernel
theorem dL_law_200 : decode cL_law 200 = .ok (.iconst 3, 1) := by decide +kernel
theorem dL_law_201 : decode cL_law 201 = .ok (.iadd, 1) := by decide +kernel
theorem dL_law_202 : decode cL_law 202 = .ok (.iaload, 1) := by decide +kernel
theorem dL_law_203 : decode cL_law 203 = .ok (.aload_n 0, 1) := by decide +kernel
theorem dL_law_204 : decode cL_law 204 = .ok (.iload 4, 2) := by decide +kernel
theorem dL_law_206 : decode cL_law 206 = .ok (.iconst 4, 1) := by decide +kernel
theorem dL_law_207 : decode cL_law 207 = .ok (.iadd, 1) := by decide +kernel
theorem dL_law_208 : decode cL_law 208 = .ok (.iaload, 1) := by decide +kernel
theorem dL_law_209 : decode cL_law 209 = .ok (.aload_n 0, 1) := by decide +kernel
theorem dL_law_210 : decode cL_law 210 = .ok (.iload 4, 2) := by decide +kernel
theorem dL_law_212 : decode cL_law 212 = .ok (.iconst 5, 1) := by decide +kernel
theorem dL_law_213 : decode cL_law 213 = .ok (.iadd, 1) := by decide +kernel
theorem dL_law_214 : decode cL_law 214 = .ok (.iaload, 1) := by decide +kernel
theorem dL_law_215 : decode cL_law 215 = .ok (.invokevirtual 21, 3) := by decide +kernel
theorem dL_law_218 : decode cL_law 218 = .ok (.aload_n 2, 1) := by decide +kernel
theorem dL_law_219 : decode cL_law 219 = .ok (.aload_n 0, 1) := by decide +kernel
theorem dL_law_220 : decode cL_law 220 = .ok (.iload 4, 2) := by decide +kernel
theorem dL_law_222 : decode cL_law 222 = .ok (.iconst 1, 1) := by decide +kernel
theorem dL_law_223 : decode cL_law 223 = .ok (.iadd, 1) := by decide +kernel
theorem dL_law_224 : decode cL_law 224 = .ok (.iaload, 1) := by decide +kernel
theorem dL_law_225 : decode cL_law 225 = .ok (.aload_n 0, 1) := by decide +kernel
theorem dL_law_226 : decode cL_law 226 = .ok (.iload 4, 2) := by decide +kernel
theorem dL_law_228 : decode cL_law 228 = .ok (.iconst 2, 1) := by decide +kernel
theorem dL_law_229 : decode cL_law 229 = .ok (.iadd, 1) := by decide +kernel
theorem dL_law_230 : decode cL_law 230 = .ok (.iaload, 1) := by decide +kernel
theorem dL_law_231 : decode cL_law 231 = .ok (.aload_n 0, 1) := by decide +kernel
theorem dL_law_232 : decode cL_law 232 = .ok (.iload 4, 2) := by decide +kernel
theorem dL_law_234 : decode cL_law 234 = .ok (.iconst 3, 1) := by decide +kernel
theorem dL_law_235 : decode cL_law 235 = .ok (.iadd, 1) := by decide +kernel
theorem dL_law_236 : decode cL_law 236 = .ok (.iaload, 1) := by decide +kernel
theorem dL_law_237 : decode cL_law 237 = .ok (.aload_n 0, 1) := by decide +kernel
theorem dL_law_238 : decode cL_law 238 = .ok (.iload 4, 2) := by decide +kernel
theorem dL_law_240 : decode cL_law 240 = .ok (.iconst 4, 1) := by decide +kernel
theorem dL_law_241 : decode cL_law 241 = .ok (.iadd, 1) := by decide +kernel
theorem dL_law_242 : decode cL_law 242 = .ok (.iaload, 1) := by decide +kernel
theorem dL_law_243 : decode cL_law 243 = .ok (.aload_n 0, 1) := by decide +kernel
theorem dL_law_244 : decode cL_law 244 = .ok (.iload 4, 2) := by decide +kernel
theorem dL_law_246 : decode cL_law 246 = .ok (.iconst 5, 1) := by decide +kernel
theorem dL_law_247 : decode cL_law 247 = .ok (.iadd, 1) := by decide +kernel
theorem dL_law_248 : decode cL_law 248 = .ok (.iaload, 1) := by decide +kernel
theorem dL_law_249 : decode cL_law 249 = .ok (.invokevirtual 25, 3) := by decide +kernel
theorem dL_law_252 : decode cL_law 252 = .ok (.if_icmp .eq 1230, 3) := by decide +kernel
theorem dL_law_1482 : decode cL_law 1482 = .ok (.iinc 4 7, 3) := by decide +kernel
theorem dL_law_1485 : decode cL_law 1485 = .ok (.goto (-1462), 3) := by decide +kernel
theorem dL_law_23 : decode cL_law 23 = .ok (.iload 4, 2) := by decide +kernel
theorem dL_law_25 : decode cL_law 25 = .ok (.aload_n 0, 1) := by decide +kernel
theorem dL_law_26 : decode cL_law 26 = .ok (.arraylength, 1) := by decide +kernel
theorem dL_law_27 : decode cL_law 27 = .ok (.bipush 7, 2) := by decide +kernel
theorem dL_law_29 : decode cL_law 29 = .ok (.isub, 1) := by decide +kernel
theorem dL_law_30 : decode cL_law 30 = .ok (.if_icmp .gt 1458, 3) := by decide +kernel
theorem dL_law_1488 : decode cL_law 1488 = .ok (.iconst 1, 1) := by decide +kernel
theorem dL_law_1489 : decode cL_law 1489 = .ok (.ireturn, 1) := by decide +kernel
theorem dL_law_257 : decode cL_law 257 = .ok (.aload_n 1, 1) := by decide +kernel
theorem dL_law_258 : decode cL_law 258 = .ok (.aload_n 0, 1) := by decide +kernel
theorem dL_law_259 : decode cL_law 259 = .ok (.iload 4, 2) := by decide +kernel
theorem dL_law_261 : decode cL_law 261 = .ok (.iconst 1, 1) := by decide +kernel
theorem dL_law_262 : decode cL_law 262 = .ok (.iadd, 1) := by decide +kernel
theorem dL_law_263 : decode cL_law 263 = .ok (.iaload, 1) := by decide +kernel
theorem dL_law_264 : decode cL_law 264 = .ok (.invokevirtual 26, 3) := by decide +kernel
theorem dL_law_267 : decode cL_law 267 = .ok (.aload_n 2, 1) := by decide +kernel
theorem dL_law_268 : decode cL_law 268 = .ok (.aload_n 0, 1) := by decide +kernel
theorem dL_law_269 : decode cL_law 269 = .ok (.iload 4, 2) := by decide +kernel
theorem dL_law_271 : decode cL_law 271 = .ok (.iconst 1, 1) := by decide +kernel
theorem dL_law_272 : decode cL_law 272 = .ok (.iadd, 1) := by decide +kernel
theorem dL_law_273 : decode cL_law 273 = .ok (.iaload, 1) := by decide +kernel
theorem dL_law_274 : decode cL_law 274 = .ok (.invokevirtual 30, 3) := by decide +kernel
theorem dL_law_277 : decode cL_law 277 = .ok (.if_icmp .eq 1205, 3) := by decide +kernel
theorem dL_law_282 : decode cL_law 282 = .ok (.aload_n 1, 1) := by decide +kernel
theorem dL_law_283 : decode cL_law 283 = .ok (.aload_n 0, 1) := by decide +kernel
theorem dL_law_284 : decode cL_law 284 = .ok (.iload 4, 2) := by decide +kernel
theorem dL_law_286 : decode cL_law 286 = .ok (.iconst 1, 1) := by decide +kernel
theorem dL_law_287 : decode cL_law 287 = .ok (.iadd, 1) := by decide +kernel
theorem dL_law_288 : decode cL_law 288 = .ok (.iaload, 1) := by decide +kernel
theorem dL_law_289 : decode cL_law 289 = .ok (.invokevirtual 31, 3) := by decide +kernel
theorem dL_law_292 : decode cL_law 292 = .ok (.aload_n 2, 1) := by decide +kernel
theorem dL_law_293 : decode cL_law 293 = .ok (.aload_n 0, 1) := by decide +kernel
theorem dL_law_294 : decode cL_law 294 = .ok (.iload 4, 2) := by decide +kernel
theorem dL_law_296 : decode cL_law 296 = .ok (.iconst 1, 1) := by decide +kernel
theorem dL_law_297 : decode cL_law 297 = .ok (.iadd, 1) := by decide +kernel
theorem dL_law_298 : decode cL_law 298 = .ok (.iaload, 1) := by decide +kernel
theorem dL_law_299 : decode cL_law 299 = .ok (.invokevirtual 34, 3) := by decide +kernel
theorem dL_law_302 : decode cL_law 302 = .ok (.if_icmp .eq 1180, 3) := by decide +kernel
theorem dL_law_307 : decode cL_law 307 = .ok (.aload_n 1, 1) := by decide +kernel
theorem dL_law_308 : decode cL_law 308 = .ok (.aload_n 0, 1) := by decide +kernel
theorem dL_law_309 : decode cL_law 309 = .ok (.iload 4, 2) := by decide +kernel
theorem dL_law_311 : decode cL_law 311 = .ok (.iconst 1, 1) := by decide +kernel
theorem dL_law_312 : decode cL_law 312 = .ok (.iadd, 1) := by decide +kernel
theorem dL_law_313 : decode cL_law 313 = .ok (.iaload, 1) := by decide +kernel
theorem dL_law_314 : decode cL_law 314 = .ok (.aload_n 0, 1) := by decide +kernel
theorem dL_law_315 : decode cL_law 315 = .ok (.iload 4, 2) := by decide +kernel
theorem dL_law_317 : decode cL_law 317 = .ok (.iconst 2, 1) := by decide +kernel
theorem dL_law_318 : decode cL_law 318 = .ok (.iadd, 1) := by decide +kernel
theorem dL_law_319 : decode cL_law 319 = .ok (.iaload, 1) := by decide +kernel
theorem dL_law_320 : decode cL_law 320 = .ok (.invokevirtual 35, 3) := by decide +kernel
theorem dL_law_323 : decode cL_law 323 = .ok (.aload_n 2, 1) := by decide +kernel
theorem dL_law_324 : decode cL_law 324 = .ok (.aload_n 0, 1) := by decide +kernel
theorem dL_law_325 : decode cL_law 325 = .ok (.iload 4, 2) := by decide +kernel
theorem dL_law_327 : decode cL_law 327 = .ok (.iconst 1, 1) := by decide +kernel
theorem dL_law_328 : decode cL_law 328 = .ok (.iadd, 1) := by decide +kernel
theorem dL_law_329 : decode cL_law 329 = .ok (.iaload, 1) := by decide +kernel
theorem dL_law_330 : decode cL_law 330 = .ok (.aload_n 0, 1) := by decide +kernel
theorem dL_law_331 : decode cL_law 331 = .ok (.iload 4, 2) := by decide +kernel
theorem dL_law_333 : decode cL_law 333 = .ok (.iconst 2, 1) := by decide +kernel
theorem dL_law_334 : decode cL_law 334 = .ok (.iadd, 1) := by decide +kernel
theorem dL_law_335 : decode cL_law 335 = .ok (.iaload, 1) := by decide +kernel
theorem dL_law_336 : decode cL_law 336 = .ok (.invokevirtual 38, 3) := by decide +kernel
theorem dL_law_339 : decode cL_law 339 = .ok (.if_icmp .eq 1143, 3) := by decide +kernel
theorem dL_law_412 : decode cL_law 412 = .ok (.aload_n 1, 1) := by decide +kernel
theorem dL_law_413 : decode cL_law 413 = .ok (.aload_n 0, 1) := by decide +kernel
theorem dL_law_414 : decode cL_law 414 = .ok (.iload 4, 2) := by decide +kernel
theorem dL_law_416 : decode cL_law 416 = .ok (.iconst 1, 1) := by decide +kernel
theorem dL_law_417 : decode cL_law 417 = .ok (.iadd, 1) := by decide +kernel
theorem dL_law_418 : decode cL_law 418 = .ok (.iaload, 1) := by decide +kernel
theorem dL_law_419 : decode cL_law 419 = .ok (.aload_n 0, 1) := by decide +kernel
theorem dL_law_420 : decode cL_law 420 = .ok (.iload 4, 2) := by decide +kernel
theorem dL_law_422 : decode cL_law 422 = .ok (.iconst 2, 1) := by decide +kernel
theorem dL_law_423 : decode cL_law 423 = .ok (.iadd, 1) := by decide +kernel
theorem dL_law_424 : decode cL_law 424 = .ok (.iaload, 1) := by decide +kernel
theorem dL_law_425 : decode cL_law 425 = .ok (.invokevirtual 49, 3) := by decide +kernel
theorem dL_law_428 : decode cL_law 428 = .ok (.aload_n 2, 1) := by decide +kernel
theorem dL_law_429 : decode cL_law 429 = .ok (.aload_n 0, 1) := by decide +kernel
theorem dL_law_430 : decode cL_law 430 = .ok (.iload 4, 2) := by decide +kernel
theorem dL_law_432 : decode cL_law 432 = .ok (.iconst 1, 1) := by decide +kernel
theorem dL_law_433 : decode cL_law 433 = .ok (.iadd, 1) := by decide +kernel
theorem dL_law_434 : decode cL_law 434 = .ok (.iaload, 1) := by decide +kernel
theorem dL_law_435 : decode cL_law 435 = .ok (.aload_n 0, 1) := by decide +kernel
theorem dL_law_436 : decode cL_law 436 = .ok (.iload 4, 2) := by decide +kernel
theorem dL_law_438 : decode cL_law 438 = .ok (.iconst 2, 1) := by decide +kernel
theorem dL_law_439 : decode cL_law 439 = .ok (.iadd, 1) := by decide +kernel
theorem dL_law_440 : decode cL_law 440 = .ok (.iaload, 1) := by decide +kernel
theorem dL_law_441 : decode cL_law 441 = .ok (.invokevirtual 52, 3) := by decide +kernel
theorem dL_law_444 : decode cL_law 444 = .ok (.if_icmp .eq 1038, 3) := by decide +kernel
theorem dL_law_449 : decode cL_law 449 = .ok (.aload_n 1, 1) := by decide +kernel
theorem dL_law_450 : decode cL_law 450 = .ok (.aload_n 0, 1) := by decide +kernel
theorem dL_law_451 : decode cL_law 451 = .ok (.iload 4, 2) := by decide +kernel
theorem dL_law_453 : decode cL_law 453 = .ok (.iconst 1, 1) := by decide +kernel
theorem dL_law_454 : decode cL_law 454 = .ok (.iadd, 1) := by decide +kernel
theorem dL_law_455 : decode cL_law 455 = .ok (.iaload, 1) := by decide +kernel
theorem dL_law_456 : decode cL_law 456 = .ok (.aload_n 0, 1) := by decide +kernel
theorem dL_law_457 : decode cL_law 457 = .ok (.iload 4, 2) := by decide +kernel
theorem dL_law_459 : decode cL_law 459 = .ok (.iconst 2, 1) := by decide +kernel
theorem dL_law_460 : decode cL_law 460 = .ok (.iadd, 1) := by decide +kernel
theorem dL_law_461 : decode cL_law 461 = .ok (.iaload, 1) := by decide +kernel
theorem dL_law_462 : decode cL_law 462 = .ok (.invokevirtual 53, 3) := by decide +kernel
theorem dL_law_465 : decode cL_law 465 = .ok (.aload_n 2, 1) := by decide +kernel
theorem dL_law_466 : decode cL_law 466 = .ok (.aload_n 0, 1) := by decide +kernel
theorem dL_law_467 : decode cL_law 467 = .ok (.iload 4, 2) := by decide +kernel
theorem dL_law_469 : decode cL_law 469 = .ok (.iconst 1, 1) := by decide +kernel
theorem dL_law_470 : decode cL_law 470 = .ok (.iadd, 1) := by decide +kernel
theorem dL_law_471 : decode cL_law 471 = .ok (.iaload, 1) := by decide +kernel
theorem dL_law_472 : decode cL_law 472 = .ok (.aload_n 0, 1) := by decide +kernel
theorem dL_law_473 : decode cL_law 473 = .ok (.iload 4, 2) := by decide +kernel
theorem dL_law_475 : decode cL_law 475 = .ok (.iconst 2, 1) := by decide +kernel
theorem dL_law_476 : decode cL_law 476 = .ok (.iadd, 1) := by decide +kernel
theorem dL_law_477 : decode cL_law 477 = .ok (.iaload, 1) := by decide +kernel
theorem dL_law_478 : decode cL_law 478 = .ok (.invokevirtual 56, 3) := by decide +kernel
theorem dL_law_481 : decode cL_law 481 = .ok (.if_icmp .eq 1001, 3) := by decide +kernel
theorem dL_law_486 : decode cL_law 486 = .ok (.aload_n 1, 1) := by decide +kernel
theorem dL_law_487 : decode cL_law 487 = .ok (.aload_n 0, 1) := by decide +kernel
theorem dL_law_488 : decode cL_law 488 = .ok (.iload 4, 2) := by decide +kernel
theorem dL_law_490 : decode cL_law 490 = .ok (.iconst 1, 1) := by decide +kernel
theorem dL_law_491 : decode cL_law 491 = .ok (.iadd, 1) := by decide +kernel
theorem dL_law_492 : decode cL_law 492 = .ok (.iaload, 1) := by decide +kernel
theorem dL_law_493 : decode cL_law 493 = .ok (.invokevirtual 57, 3) := by decide +kernel
theorem dL_law_496 : decode cL_law 496 = .ok (.aload_n 2, 1) := by decide +kernel
theorem dL_law_497 : decode cL_law 497 = .ok (.aload_n 0, 1) := by decide +kernel
theorem dL_law_498 : decode cL_law 498 = .ok (.iload 4, 2) := by decide +kernel
theorem dL_law_500 : decode cL_law 500 = .ok (.iconst 1, 1) := by decide +kernel
theorem dL_law_501 : decode cL_law 501 = .ok (.iadd, 1) := by decide +kernel
theorem dL_law_502 : decode cL_law 502 = .ok (.iaload, 1) := by decide +kernel
theorem dL_law_503 : decode cL_law 503 = .ok (.invokevirtual 60, 3) := by decide +kernel
theorem dL_law_506 : decode cL_law 506 = .ok (.if_icmp .eq 976, 3) := by decide +kernel
theorem dL_law_511 : decode cL_law 511 = .ok (.aload_n 1, 1) := by decide +kernel
theorem dL_law_512 : decode cL_law 512 = .ok (.aload_n 0, 1) := by decide +kernel
theorem dL_law_513 : decode cL_law 513 = .ok (.iload 4, 2) := by decide +kernel
theorem dL_law_515 : decode cL_law 515 = .ok (.iconst 1, 1) := by decide +kernel
theorem dL_law_516 : decode cL_law 516 = .ok (.iadd, 1) := by decide +kernel
theorem dL_law_517 : decode cL_law 517 = .ok (.iaload, 1) := by decide +kernel
theorem dL_law_518 : decode cL_law 518 = .ok (.invokevirtual 61, 3) := by decide +kernel
theorem dL_law_521 : decode cL_law 521 = .ok (.aload_n 2, 1) := by decide +kernel
theorem dL_law_522 : decode cL_law 522 = .ok (.aload_n 0, 1) := by decide +kernel
theorem dL_law_523 : decode cL_law 523 = .ok (.iload 4, 2) := by decide +kernel
theorem dL_law_525 : decode cL_law 525 = .ok (.iconst 1, 1) := by decide +kernel
theorem dL_law_526 : decode cL_law 526 = .ok (.iadd, 1) := by decide +kernel
theorem dL_law_527 : decode cL_law 527 = .ok (.iaload, 1) := by decide +kernel
theorem dL_law_528 : decode cL_law 528 = .ok (.invokevirtual 64, 3) := by decide +kernel
theorem dL_law_531 : decode cL_law 531 = .ok (.if_icmp .eq 951, 3) := by decide +kernel
theorem dL_law_536 : decode cL_law 536 = .ok (.aload_n 1, 1) := by decide +kernel
theorem dL_law_537 : decode cL_law 537 = .ok (.aload_n 0, 1) := by decide +kernel
theorem dL_law_538 : decode cL_law 538 = .ok (.iload 4, 2) := by decide +kernel
theorem dL_law_540 : decode cL_law 540 = .ok (.iconst 1, 1) := by decide +kernel
theorem dL_law_541 : decode cL_law 541 = .ok (.iadd, 1) := by decide +kernel
theorem dL_law_542 : decode cL_law 542 = .ok (.iaload, 1) := by decide +kernel
theorem dL_law_543 : decode cL_law 543 = .ok (.aload_n 0, 1) := by decide +kernel
theorem dL_law_544 : decode cL_law 544 = .ok (.iload 4, 2) := by decide +kernel
theorem dL_law_546 : decode cL_law 546 = .ok (.iconst 2, 1) := by decide +kernel
theorem dL_law_547 : decode cL_law 547 = .ok (.iadd, 1) := by decide +kernel
theorem dL_law_548 : decode cL_law 548 = .ok (.iaload, 1) := by decide +kernel
theorem dL_law_549 : decode cL_law 549 = .ok (.invokevirtual 65, 3) := by decide +kernel
theorem dL_law_552 : decode cL_law 552 = .ok (.aload_n 2, 1) := by decide +kernel
theorem dL_law_553 : decode cL_law 553 = .ok (.aload_n 0, 1) := by decide +kernel
theorem dL_law_554 : decode cL_law 554 = .ok (.iload 4, 2) := by decide +kernel
theorem dL_law_556 : decode cL_law 556 = .ok (.iconst 1, 1) := by decide +kernel
theorem dL_law_557 : decode cL_law 557 = .ok (.iadd, 1) := by decide +kernel
theorem dL_law_558 : decode cL_law 558 = .ok (.iaload, 1) := by decide +kernel
theorem dL_law_559 : decode cL_law 559 = .ok (.aload_n 0, 1) := by decide +kernel
theorem dL_law_560 : decode cL_law 560 = .ok (.iload 4, 2) := by decide +kernel
theorem dL_law_562 : decode cL_law 562 = .ok (.iconst 2, 1) := by decide +kernel
theorem dL_law_563 : decode cL_law 563 = .ok (.iadd, 1) := by decide +kernel
theorem dL_law_564 : decode cL_law 564 = .ok (.iaload, 1) := by decide +kernel
theorem dL_law_565 : decode cL_law 565 = .ok (.invokevirtual 68, 3) := by decide +kernel
theorem dL_law_568 : decode cL_law 568 = .ok (.if_icmp .eq 914, 3) := by decide +kernel
theorem dL_law_573 : decode cL_law 573 = .ok (.aload_n 1, 1) := by decide +kernel
theorem dL_law_574 : decode cL_law 574 = .ok (.aload_n 0, 1) := by decide +kernel
theorem dL_law_575 : decode cL_law 575 = .ok (.iload 4, 2) := by decide +kernel
theorem dL_law_577 : decode cL_law 577 = .ok (.iconst 1, 1) := by decide +kernel
theorem dL_law_578 : decode cL_law 578 = .ok (.iadd, 1) := by decide +kernel
theorem dL_law_579 : decode cL_law 579 = .ok (.iaload, 1) := by decide +kernel
theorem dL_law_580 : decode cL_law 580 = .ok (.aload_n 0, 1) := by decide +kernel
theorem dL_law_581 : decode cL_law 581 = .ok (.iload 4, 2) := by decide +kernel
theorem dL_law_583 : decode cL_law 583 = .ok (.iconst 2, 1) := by decide +kernel
theorem dL_law_584 : decode cL_law 584 = .ok (.iadd, 1) := by decide +kernel
theorem dL_law_585 : decode cL_law 585 = .ok (.iaload, 1) := by decide +kernel
theorem dL_law_586 : decode cL_law 586 = .ok (.invokevirtual 69, 3) := by decide +kernel
theorem dL_law_589 : decode cL_law 589 = .ok (.aload_n 2, 1) := by decide +kernel
theorem dL_law_590 : decode cL_law 590 = .ok (.aload_n 0, 1) := by decide +kernel
theorem dL_law_591 : decode cL_law 591 = .ok (.iload 4, 2) := by decide +kernel
theorem dL_law_593 : decode cL_law 593 = .ok (.iconst 1, 1) := by decide +kernel
theorem dL_law_594 : decode cL_law 594 = .ok (.iadd, 1) := by decide +kernel
theorem dL_law_595 : decode cL_law 595 = .ok (.iaload, 1) := by decide +kernel
theorem dL_law_596 : decode cL_law 596 = .ok (.aload_n 0, 1) := by decide +kernel
theorem dL_law_597 : decode cL_law 597 = .ok (.iload 4, 2) := by decide +kernel
theorem dL_law_599 : decode cL_law 599 = .ok (.iconst 2, 1) := by decide +kernel
theorem dL_law_600 : decode cL_law 600 = .ok (.iadd, 1) := by decide +kernel
theorem dL_law_601 : decode cL_law 601 = .ok (.iaload, 1) := by decide +kernel
theorem dL_law_602 : decode cL_law 602 = .ok (.invokevirtual 72, 3) := by decide +kernel
theorem dL_law_605 : decode cL_law 605 = .ok (.if_icmp .eq 877, 3) := by decide +kernel
theorem dL_law_610 : decode cL_law 610 = .ok (.aload_n 1, 1) := by decide +kernel
theorem dL_law_611 : decode cL_law 611 = .ok (.aload_n 0, 1) := by decide +kernel
theorem dL_law_612 : decode cL_law 612 = .ok (.iload 4, 2) := by decide +kernel
theorem dL_law_614 : decode cL_law 614 = .ok (.iconst 1, 1) := by decide +kernel
theorem dL_law_615 : decode cL_law 615 = .ok (.iadd, 1) := by decide +kernel
theorem dL_law_616 : decode cL_law 616 = .ok (.iaload, 1) := by decide +kernel
theorem dL_law_617 : decode cL_law 617 = .ok (.invokevirtual 73, 3) := by decide +kernel
theorem dL_law_620 : decode cL_law 620 = .ok (.aload_n 2, 1) := by decide +kernel
theorem dL_law_621 : decode cL_law 621 = .ok (.aload_n 0, 1) := by decide +kernel
theorem dL_law_622 : decode cL_law 622 = .ok (.iload 4, 2) := by decide +kernel
theorem dL_law_624 : decode cL_law 624 = .ok (.iconst 1, 1) := by decide +kernel
theorem dL_law_625 : decode cL_law 625 = .ok (.iadd, 1) := by decide +kernel
theorem dL_law_626 : decode cL_law 626 = .ok (.iaload, 1) := by decide +kernel
theorem dL_law_627 : decode cL_law 627 = .ok (.invokevirtual 76, 3) := by decide +kernel
theorem dL_law_630 : decode cL_law 630 = .ok (.if_icmp .eq 852, 3) := by decide +kernel
theorem dL_law_635 : decode cL_law 635 = .ok (.aload_n 1, 1) := by decide +kernel
theorem dL_law_636 : decode cL_law 636 = .ok (.aload_n 0, 1) := by decide +kernel
theorem dL_law_637 : decode cL_law 637 = .ok (.iload 4, 2) := by decide +kernel
theorem dL_law_639 : decode cL_law 639 = .ok (.iconst 1, 1) := by decide +kernel
theorem dL_law_640 : decode cL_law 640 = .ok (.iadd, 1) := by decide +kernel
theorem dL_law_641 : decode cL_law 641 = .ok (.iaload, 1) := by decide +kernel
theorem dL_law_642 : decode cL_law 642 = .ok (.aload_n 0, 1) := by decide +kernel
theorem dL_law_643 : decode cL_law 643 = .ok (.iload 4, 2) := by decide +kernel
theorem dL_law_645 : decode cL_law 645 = .ok (.iconst 2, 1) := by decide +kernel
theorem dL_law_646 : decode cL_law 646 = .ok (.iadd, 1) := by decide +kernel
theorem dL_law_647 : decode cL_law 647 = .ok (.iaload, 1) := by decide +kernel
theorem dL_law_648 : decode cL_law 648 = .ok (.invokevirtual 77, 3) := by decide +kernel
theorem dL_law_651 : decode cL_law 651 = .ok (.aload_n 2, 1) := by decide +kernel
theorem dL_law_652 : decode cL_law 652 = .ok (.aload_n 0, 1) := by decide +kernel
theorem dL_law_653 : decode cL_law 653 = .ok (.iload 4, 2) := by decide +kernel
theorem dL_law_655 : decode cL_law 655 = .ok (.iconst 1, 1) := by decide +kernel
theorem dL_law_656 : decode cL_law 656 = .ok (.iadd, 1) := by decide +kernel
theorem dL_law_657 : decode cL_law 657 = .ok (.iaload, 1) := by decide +kernel
theorem dL_law_658 : decode cL_law 658 = .ok (.aload_n 0, 1) := by decide +kernel
theorem dL_law_659 : decode cL_law 659 = .ok (.iload 4, 2) := by decide +kernel
theorem dL_law_661 : decode cL_law 661 = .ok (.iconst 2, 1) := by decide +kernel
theorem dL_law_662 : decode cL_law 662 = .ok (.iadd, 1) := by decide +kernel
theorem dL_law_663 : decode cL_law 663 = .ok (.iaload, 1) := by decide +kernel
theorem dL_law_664 : decode cL_law 664 = .ok (.invokevirtual 80, 3) := by decide +kernel
theorem dL_law_667 : decode cL_law 667 = .ok (.if_icmp .eq 815, 3) := by decide +kernel
theorem dL_law_672 : decode cL_law 672 = .ok (.aload_n 1, 1) := by decide +kernel
theorem dL_law_673 : decode cL_law 673 = .ok (.aload_n 0, 1) := by decide +kernel
theorem dL_law_674 : decode cL_law 674 = .ok (.iload 4, 2) := by decide +kernel
theorem dL_law_676 : decode cL_law 676 = .ok (.iconst 1, 1) := by decide +kernel
theorem dL_law_677 : decode cL_law 677 = .ok (.iadd, 1) := by decide +kernel
theorem dL_law_678 : decode cL_law 678 = .ok (.iaload, 1) := by decide +kernel
theorem dL_law_679 : decode cL_law 679 = .ok (.aload_n 0, 1) := by decide +kernel
theorem dL_law_680 : decode cL_law 680 = .ok (.iload 4, 2) := by decide +kernel
theorem dL_law_682 : decode cL_law 682 = .ok (.iconst 2, 1) := by decide +kernel
theorem dL_law_683 : decode cL_law 683 = .ok (.iadd, 1) := by decide +kernel
theorem dL_law_684 : decode cL_law 684 = .ok (.iaload, 1) := by decide +kernel
theorem dL_law_685 : decode cL_law 685 = .ok (.i2l, 1) := by decide +kernel
theorem dL_law_686 : decode cL_law 686 = .ok (.bipush 32, 2) := by decide +kernel
theorem dL_law_688 : decode cL_law 688 = .ok (.lshl, 1) := by decide +kernel
theorem dL_law_689 : decode cL_law 689 = .ok (.aload_n 0, 1) := by decide +kernel
theorem dL_law_690 : decode cL_law 690 = .ok (.iload 4, 2) := by decide +kernel
theorem dL_law_692 : decode cL_law 692 = .ok (.iconst 3, 1) := by decide +kernel
theorem dL_law_693 : decode cL_law 693 = .ok (.iadd, 1) := by decide +kernel
theorem dL_law_694 : decode cL_law 694 = .ok (.iaload, 1) := by decide +kernel
theorem dL_law_695 : decode cL_law 695 = .ok (.i2l, 1) := by decide +kernel
theorem dL_law_696 : decode cL_law 696 = .ok (.ldc2_w 81, 3) := by decide +kernel
theorem dL_law_699 : decode cL_law 699 = .ok (.land, 1) := by decide +kernel
theorem dL_law_700 : decode cL_law 700 = .ok (.lor, 1) := by decide +kernel
theorem dL_law_701 : decode cL_law 701 = .ok (.aload_n 0, 1) := by decide +kernel
theorem dL_law_702 : decode cL_law 702 = .ok (.iload 4, 2) := by decide +kernel
theorem dL_law_704 : decode cL_law 704 = .ok (.iconst 4, 1) := by decide +kernel
theorem dL_law_705 : decode cL_law 705 = .ok (.iadd, 1) := by decide +kernel
theorem dL_law_706 : decode cL_law 706 = .ok (.iaload, 1) := by decide +kernel
theorem dL_law_707 : decode cL_law 707 = .ok (.i2l, 1) := by decide +kernel
theorem dL_law_708 : decode cL_law 708 = .ok (.bipush 32, 2) := by decide +kernel
theorem dL_law_710 : decode cL_law 710 = .ok (.lshl, 1) := by decide +kernel
theorem dL_law_711 : decode cL_law 711 = .ok (.aload_n 0, 1) := by decide +kernel
theorem dL_law_712 : decode cL_law 712 = .ok (.iload 4, 2) := by decide +kernel
theorem dL_law_714 : decode cL_law 714 = .ok (.iconst 5, 1) := by decide +kernel
theorem dL_law_715 : decode cL_law 715 = .ok (.iadd, 1) := by decide +kernel
theorem dL_law_716 : decode cL_law 716 = .ok (.iaload, 1) := by decide +kernel
theorem dL_law_717 : decode cL_law 717 = .ok (.i2l, 1) := by decide +kernel
theorem dL_law_718 : decode cL_law 718 = .ok (.ldc2_w 81, 3) := by decide +kernel
theorem dL_law_721 : decode cL_law 721 = .ok (.land, 1) := by decide +kernel
theorem dL_law_722 : decode cL_law 722 = .ok (.lor, 1) := by decide +kernel
theorem dL_law_723 : decode cL_law 723 = .ok (.aload_n 0, 1) := by decide +kernel
theorem dL_law_724 : decode cL_law 724 = .ok (.iload 4, 2) := by decide +kernel
theorem dL_law_726 : decode cL_law 726 = .ok (.bipush 6, 2) := by decide +kernel
theorem dL_law_728 : decode cL_law 728 = .ok (.iadd, 1) := by decide +kernel
theorem dL_law_729 : decode cL_law 729 = .ok (.iaload, 1) := by decide +kernel
theorem dL_law_730 : decode cL_law 730 = .ok (.invokevirtual 83, 3) := by decide +kernel
theorem dL_law_733 : decode cL_law 733 = .ok (.aload_n 2, 1) := by decide +kernel
theorem dL_law_734 : decode cL_law 734 = .ok (.aload_n 0, 1) := by decide +kernel
theorem dL_law_735 : decode cL_law 735 = .ok (.iload 4, 2) := by decide +kernel
theorem dL_law_737 : decode cL_law 737 = .ok (.iconst 1, 1) := by decide +kernel
theorem dL_law_738 : decode cL_law 738 = .ok (.iadd, 1) := by decide +kernel
theorem dL_law_739 : decode cL_law 739 = .ok (.iaload, 1) := by decide +kernel
theorem dL_law_740 : decode cL_law 740 = .ok (.aload_n 0, 1) := by decide +kernel
theorem dL_law_741 : decode cL_law 741 = .ok (.iload 4, 2) := by decide +kernel
theorem dL_law_743 : decode cL_law 743 = .ok (.iconst 2, 1) := by decide +kernel
theorem dL_law_744 : decode cL_law 744 = .ok (.iadd, 1) := by decide +kernel
theorem dL_law_745 : decode cL_law 745 = .ok (.iaload, 1) := by decide +kernel
theorem dL_law_746 : decode cL_law 746 = .ok (.i2l, 1) := by decide +kernel
theorem dL_law_747 : decode cL_law 747 = .ok (.bipush 32, 2) := by decide +kernel
theorem dL_law_749 : decode cL_law 749 = .ok (.lshl, 1) := by decide +kernel
theorem dL_law_750 : decode cL_law 750 = .ok (.aload_n 0, 1) := by decide +kernel
theorem dL_law_751 : decode cL_law 751 = .ok (.iload 4, 2) := by decide +kernel
theorem dL_law_753 : decode cL_law 753 = .ok (.iconst 3, 1) := by decide +kernel
theorem dL_law_754 : decode cL_law 754 = .ok (.iadd, 1) := by decide +kernel
theorem dL_law_755 : decode cL_law 755 = .ok (.iaload, 1) := by decide +kernel
theorem dL_law_756 : decode cL_law 756 = .ok (.i2l, 1) := by decide +kernel
theorem dL_law_757 : decode cL_law 757 = .ok (.ldc2_w 81, 3) := by decide +kernel
theorem dL_law_760 : decode cL_law 760 = .ok (.land, 1) := by decide +kernel
theorem dL_law_761 : decode cL_law 761 = .ok (.lor, 1) := by decide +kernel
theorem dL_law_762 : decode cL_law 762 = .ok (.aload_n 0, 1) := by decide +kernel
theorem dL_law_763 : decode cL_law 763 = .ok (.iload 4, 2) := by decide +kernel
theorem dL_law_765 : decode cL_law 765 = .ok (.iconst 4, 1) := by decide +kernel
theorem dL_law_766 : decode cL_law 766 = .ok (.iadd, 1) := by decide +kernel
theorem dL_law_767 : decode cL_law 767 = .ok (.iaload, 1) := by decide +kernel
theorem dL_law_768 : decode cL_law 768 = .ok (.i2l, 1) := by decide +kernel
theorem dL_law_769 : decode cL_law 769 = .ok (.bipush 32, 2) := by decide +kernel
theorem dL_law_771 : decode cL_law 771 = .ok (.lshl, 1) := by decide +kernel
theorem dL_law_772 : decode cL_law 772 = .ok (.aload_n 0, 1) := by decide +kernel
theorem dL_law_773 : decode cL_law 773 = .ok (.iload 4, 2) := by decide +kernel
theorem dL_law_775 : decode cL_law 775 = .ok (.iconst 5, 1) := by decide +kernel
theorem dL_law_776 : decode cL_law 776 = .ok (.iadd, 1) := by decide +kernel
theorem dL_law_777 : decode cL_law 777 = .ok (.iaload, 1) := by decide +kernel
theorem dL_law_778 : decode cL_law 778 = .ok (.i2l, 1) := by decide +kernel
theorem dL_law_779 : decode cL_law 779 = .ok (.ldc2_w 81, 3) := by decide +kernel
theorem dL_law_782 : decode cL_law 782 = .ok (.land, 1) := by decide +kernel
theorem dL_law_783 : decode cL_law 783 = .ok (.lor, 1) := by decide +kernel
theorem dL_law_784 : decode cL_law 784 = .ok (.aload_n 0, 1) := by decide +kernel
theorem dL_law_785 : decode cL_law 785 = .ok (.iload 4, 2) := by decide +kernel
theorem dL_law_787 : decode cL_law 787 = .ok (.bipush 6, 2) := by decide +kernel
theorem dL_law_789 : decode cL_law 789 = .ok (.iadd, 1) := by decide +kernel
theorem dL_law_790 : decode cL_law 790 = .ok (.iaload, 1) := by decide +kernel
theorem dL_law_791 : decode cL_law 791 = .ok (.invokevirtual 87, 3) := by decide +kernel
theorem dL_law_794 : decode cL_law 794 = .ok (.if_icmp .eq 688, 3) := by decide +kernel
theorem dL_law_799 : decode cL_law 799 = .ok (.aload_n 1, 1) := by decide +kernel
theorem dL_law_800 : decode cL_law 800 = .ok (.aload_n 0, 1) := by decide +kernel
theorem dL_law_801 : decode cL_law 801 = .ok (.iload 4, 2) := by decide +kernel
theorem dL_law_803 : decode cL_law 803 = .ok (.iconst 1, 1) := by decide +kernel
theorem dL_law_804 : decode cL_law 804 = .ok (.iadd, 1) := by decide +kernel
theorem dL_law_805 : decode cL_law 805 = .ok (.iaload, 1) := by decide +kernel
theorem dL_law_806 : decode cL_law 806 = .ok (.aload_n 0, 1) := by decide +kernel
theorem dL_law_807 : decode cL_law 807 = .ok (.iload 4, 2) := by decide +kernel
theorem dL_law_809 : decode cL_law 809 = .ok (.iconst 2, 1) := by decide +kernel
theorem dL_law_810 : decode cL_law 810 = .ok (.iadd, 1) := by decide +kernel
theorem dL_law_811 : decode cL_law 811 = .ok (.iaload, 1) := by decide +kernel
theorem dL_law_812 : decode cL_law 812 = .ok (.aload_n 0, 1) := by decide +kernel
theorem dL_law_813 : decode cL_law 813 = .ok (.iload 4, 2) := by decide +kernel
theorem dL_law_815 : decode cL_law 815 = .ok (.iconst 3, 1) := by decide +kernel
theorem dL_law_816 : decode cL_law 816 = .ok (.iadd, 1) := by decide +kernel
theorem dL_law_817 : decode cL_law 817 = .ok (.iaload, 1) := by decide +kernel
theorem dL_law_818 : decode cL_law 818 = .ok (.aload_n 0, 1) := by decide +kernel
theorem dL_law_819 : decode cL_law 819 = .ok (.iload 4, 2) := by decide +kernel
theorem dL_law_821 : decode cL_law 821 = .ok (.iconst 4, 1) := by decide +kernel
theorem dL_law_822 : decode cL_law 822 = .ok (.iadd, 1) := by decide +kernel
theorem dL_law_823 : decode cL_law 823 = .ok (.iaload, 1) := by decide +kernel
theorem dL_law_824 : decode cL_law 824 = .ok (.aload_n 0, 1) := by decide +kernel
theorem dL_law_825 : decode cL_law 825 = .ok (.iload 4, 2) := by decide +kernel
theorem dL_law_827 : decode cL_law 827 = .ok (.iconst 5, 1) := by decide +kernel
theorem dL_law_828 : decode cL_law 828 = .ok (.iadd, 1) := by decide +kernel
theorem dL_law_829 : decode cL_law 829 = .ok (.iaload, 1) := by decide +kernel
theorem dL_law_830 : decode cL_law 830 = .ok (.invokevirtual 88, 3) := by decide +kernel
theorem dL_law_833 : decode cL_law 833 = .ok (.aload_n 2, 1) := by decide +kernel
theorem dL_law_834 : decode cL_law 834 = .ok (.aload_n 0, 1) := by decide +kernel
theorem dL_law_835 : decode cL_law 835 = .ok (.iload 4, 2) := by decide +kernel
theorem dL_law_837 : decode cL_law 837 = .ok (.iconst 1, 1) := by decide +kernel
theorem dL_law_838 : decode cL_law 838 = .ok (.iadd, 1) := by decide +kernel
theorem dL_law_839 : decode cL_law 839 = .ok (.iaload, 1) := by decide +kernel
theorem dL_law_840 : decode cL_law 840 = .ok (.aload_n 0, 1) := by decide +kernel
theorem dL_law_841 : decode cL_law 841 = .ok (.iload 4, 2) := by decide +kernel
theorem dL_law_843 : decode cL_law 843 = .ok (.iconst 2, 1) := by decide +kernel
theorem dL_law_844 : decode cL_law 844 = .ok (.iadd, 1) := by decide +kernel
theorem dL_law_845 : decode cL_law 845 = .ok (.iaload, 1) := by decide +kernel
theorem dL_law_846 : decode cL_law 846 = .ok (.aload_n 0, 1) := by decide +kernel
theorem dL_law_847 : decode cL_law 847 = .ok (.iload 4, 2) := by decide +kernel
theorem dL_law_849 : decode cL_law 849 = .ok (.iconst 3, 1) := by decide +kernel
theorem dL_law_850 : decode cL_law 850 = .ok (.iadd, 1) := by decide +kernel
theorem dL_law_851 : decode cL_law 851 = .ok (.iaload, 1) := by decide +kernel
theorem dL_law_852 : decode cL_law 852 = .ok (.aload_n 0, 1) := by decide +kernel
theorem dL_law_853 : decode cL_law 853 = .ok (.iload 4, 2) := by decide +kernel
theorem dL_law_855 : decode cL_law 855 = .ok (.iconst 4, 1) := by decide +kernel
theorem dL_law_856 : decode cL_law 856 = .ok (.iadd, 1) := by decide +kernel
theorem dL_law_857 : decode cL_law 857 = .ok (.iaload, 1) := by decide +kernel
theorem dL_law_858 : decode cL_law 858 = .ok (.aload_n 0, 1) := by decide +kernel
theorem dL_law_859 : decode cL_law 859 = .ok (.iload 4, 2) := by decide +kernel
theorem dL_law_861 : decode cL_law 861 = .ok (.iconst 5, 1) := by decide +kernel
theorem dL_law_862 : decode cL_law 862 = .ok (.iadd, 1) := by decide +kernel
theorem dL_law_863 : decode cL_law 863 = .ok (.iaload, 1) := by decide +kernel
theorem dL_law_864 : decode cL_law 864 = .ok (.invokevirtual 92, 3) := by decide +kernel
theorem dL_law_867 : decode cL_law 867 = .ok (.lcmp, 1) := by decide +kernel
theorem dL_law_868 : decode cL_law 868 = .ok (.ifCond .eq 614, 3) := by decide +kernel
theorem dL_law_873 : decode cL_law 873 = .ok (.aload_n 1, 1) := by decide +kernel
theorem dL_law_874 : decode cL_law 874 = .ok (.aload_n 0, 1) := by decide +kernel
theorem dL_law_875 : decode cL_law 875 = .ok (.iload 4, 2) := by decide +kernel
theorem dL_law_877 : decode cL_law 877 = .ok (.iconst 1, 1) := by decide +kernel
theorem dL_law_878 : decode cL_law 878 = .ok (.iadd, 1) := by decide +kernel
theorem dL_law_879 : decode cL_law 879 = .ok (.iaload, 1) := by decide +kernel
theorem dL_law_880 : decode cL_law 880 = .ok (.aload_n 0, 1) := by decide +kernel
theorem dL_law_881 : decode cL_law 881 = .ok (.iload 4, 2) := by decide +kernel
theorem dL_law_883 : decode cL_law 883 = .ok (.iconst 2, 1) := by decide +kernel
theorem dL_law_884 : decode cL_law 884 = .ok (.iadd, 1) := by decide +kernel
theorem dL_law_885 : decode cL_law 885 = .ok (.iaload, 1) := by decide +kernel
theorem dL_law_886 : decode cL_law 886 = .ok (.aload_n 0, 1) := by decide +kernel
theorem dL_law_887 : decode cL_law 887 = .ok (.iload 4, 2) := by decide +kernel
theorem dL_law_889 : decode cL_law 889 = .ok (.iconst 3, 1) := by decide +kernel
theorem dL_law_890 : decode cL_law 890 = .ok (.iadd, 1) := by decide +kernel
theorem dL_law_891 : decode cL_law 891 = .ok (.iaload, 1) := by decide +kernel
theorem dL_law_892 : decode cL_law 892 = .ok (.invokevirtual 93, 3) := by decide +kernel
theorem dL_law_895 : decode cL_law 895 = .ok (.aload_n 2, 1) := by decide +kernel
theorem dL_law_896 : decode cL_law 896 = .ok (.aload_n 0, 1) := by decide +kernel
theorem dL_law_897 : decode cL_law 897 = .ok (.iload 4, 2) := by decide +kernel
theorem dL_law_899 : decode cL_law 899 = .ok (.iconst 1, 1) := by decide +kernel
theorem dL_law_900 : decode cL_law 900 = .ok (.iadd, 1) := by decide +kernel
theorem dL_law_901 : decode cL_law 901 = .ok (.iaload, 1) := by decide +kernel
theorem dL_law_902 : decode cL_law 902 = .ok (.aload_n 0, 1) := by decide +kernel
theorem dL_law_903 : decode cL_law 903 = .ok (.iload 4, 2) := by decide +kernel
theorem dL_law_905 : decode cL_law 905 = .ok (.iconst 2, 1) := by decide +kernel
theorem dL_law_906 : decode cL_law 906 = .ok (.iadd, 1) := by decide +kernel
theorem dL_law_907 : decode cL_law 907 = .ok (.iaload, 1) := by decide +kernel
theorem dL_law_908 : decode cL_law 908 = .ok (.aload_n 0, 1) := by decide +kernel
theorem dL_law_909 : decode cL_law 909 = .ok (.iload 4, 2) := by decide +kernel
theorem dL_law_911 : decode cL_law 911 = .ok (.iconst 3, 1) := by decide +kernel
theorem dL_law_912 : decode cL_law 912 = .ok (.iadd, 1) := by decide +kernel
theorem dL_law_913 : decode cL_law 913 = .ok (.iaload, 1) := by decide +kernel
theorem dL_law_914 : decode cL_law 914 = .ok (.invokevirtual 97, 3) := by decide +kernel
theorem dL_law_917 : decode cL_law 917 = .ok (.if_icmp .eq 565, 3) := by decide +kernel
theorem dL_law_922 : decode cL_law 922 = .ok (.aload_n 1, 1) := by decide +kernel
theorem dL_law_923 : decode cL_law 923 = .ok (.aload_n 0, 1) := by decide +kernel
theorem dL_law_924 : decode cL_law 924 = .ok (.iload 4, 2) := by decide +kernel
theorem dL_law_926 : decode cL_law 926 = .ok (.iconst 1, 1) := by decide +kernel
theorem dL_law_927 : decode cL_law 927 = .ok (.iadd, 1) := by decide +kernel
theorem dL_law_928 : decode cL_law 928 = .ok (.iaload, 1) := by decide +kernel
theorem dL_law_929 : decode cL_law 929 = .ok (.aload_n 0, 1) := by decide +kernel
theorem dL_law_930 : decode cL_law 930 = .ok (.iload 4, 2) := by decide +kernel
theorem dL_law_932 : decode cL_law 932 = .ok (.iconst 2, 1) := by decide +kernel
theorem dL_law_933 : decode cL_law 933 = .ok (.iadd, 1) := by decide +kernel
theorem dL_law_934 : decode cL_law 934 = .ok (.iaload, 1) := by decide +kernel
theorem dL_law_935 : decode cL_law 935 = .ok (.invokevirtual 98, 3) := by decide +kernel
theorem dL_law_938 : decode cL_law 938 = .ok (.aload_n 2, 1) := by decide +kernel
theorem dL_law_939 : decode cL_law 939 = .ok (.aload_n 0, 1) := by decide +kernel
theorem dL_law_940 : decode cL_law 940 = .ok (.iload 4, 2) := by decide +kernel
theorem dL_law_942 : decode cL_law 942 = .ok (.iconst 1, 1) := by decide +kernel
theorem dL_law_943 : decode cL_law 943 = .ok (.iadd, 1) := by decide +kernel
theorem dL_law_944 : decode cL_law 944 = .ok (.iaload, 1) := by decide +kernel
theorem dL_law_945 : decode cL_law 945 = .ok (.aload_n 0, 1) := by decide +kernel
theorem dL_law_946 : decode cL_law 946 = .ok (.iload 4, 2) := by decide +kernel
theorem dL_law_948 : decode cL_law 948 = .ok (.iconst 2, 1) := by decide +kernel
theorem dL_law_949 : decode cL_law 949 = .ok (.iadd, 1) := by decide +kernel
theorem dL_law_950 : decode cL_law 950 = .ok (.iaload, 1) := by decide +kernel
theorem dL_law_951 : decode cL_law 951 = .ok (.invokevirtual 101, 3) := by decide +kernel
theorem dL_law_954 : decode cL_law 954 = .ok (.if_icmp .eq 528, 3) := by decide +kernel
theorem dL_law_959 : decode cL_law 959 = .ok (.aload_n 1, 1) := by decide +kernel
theorem dL_law_960 : decode cL_law 960 = .ok (.aload_n 0, 1) := by decide +kernel
theorem dL_law_961 : decode cL_law 961 = .ok (.iload 4, 2) := by decide +kernel
theorem dL_law_963 : decode cL_law 963 = .ok (.iconst 1, 1) := by decide +kernel
theorem dL_law_964 : decode cL_law 964 = .ok (.iadd, 1) := by decide +kernel
theorem dL_law_965 : decode cL_law 965 = .ok (.iaload, 1) := by decide +kernel
theorem dL_law_966 : decode cL_law 966 = .ok (.aload_n 0, 1) := by decide +kernel
theorem dL_law_967 : decode cL_law 967 = .ok (.iload 4, 2) := by decide +kernel
theorem dL_law_969 : decode cL_law 969 = .ok (.iconst 2, 1) := by decide +kernel
theorem dL_law_970 : decode cL_law 970 = .ok (.iadd, 1) := by decide +kernel
theorem dL_law_971 : decode cL_law 971 = .ok (.iaload, 1) := by decide +kernel
theorem dL_law_972 : decode cL_law 972 = .ok (.aload_n 0, 1) := by decide +kernel
theorem dL_law_973 : decode cL_law 973 = .ok (.iload 4, 2) := by decide +kernel
theorem dL_law_975 : decode cL_law 975 = .ok (.iconst 3, 1) := by decide +kernel
theorem dL_law_976 : decode cL_law 976 = .ok (.iadd, 1) := by decide +kernel
theorem dL_law_977 : decode cL_law 977 = .ok (.iaload, 1) := by decide +kernel
theorem dL_law_978 : decode cL_law 978 = .ok (.aload_n 0, 1) := by decide +kernel
theorem dL_law_979 : decode cL_law 979 = .ok (.iload 4, 2) := by decide +kernel
theorem dL_law_981 : decode cL_law 981 = .ok (.iconst 4, 1) := by decide +kernel
theorem dL_law_982 : decode cL_law 982 = .ok (.iadd, 1) := by decide +kernel
theorem dL_law_983 : decode cL_law 983 = .ok (.iaload, 1) := by decide +kernel
theorem dL_law_984 : decode cL_law 984 = .ok (.invokevirtual 102, 3) := by decide +kernel
theorem dL_law_987 : decode cL_law 987 = .ok (.aload_n 2, 1) := by decide +kernel
theorem dL_law_988 : decode cL_law 988 = .ok (.aload_n 0, 1) := by decide +kernel
theorem dL_law_989 : decode cL_law 989 = .ok (.iload 4, 2) := by decide +kernel
theorem dL_law_991 : decode cL_law 991 = .ok (.iconst 1, 1) := by decide +kernel
theorem dL_law_992 : decode cL_law 992 = .ok (.iadd, 1) := by decide +kernel
theorem dL_law_993 : decode cL_law 993 = .ok (.iaload, 1) := by decide +kernel
theorem dL_law_994 : decode cL_law 994 = .ok (.aload_n 0, 1) := by decide +kernel
theorem dL_law_995 : decode cL_law 995 = .ok (.iload 4, 2) := by decide +kernel
theorem dL_law_997 : decode cL_law 997 = .ok (.iconst 2, 1) := by decide +kernel
theorem dL_law_998 : decode cL_law 998 = .ok (.iadd, 1) := by decide +kernel
theorem dL_law_999 : decode cL_law 999 = .ok (.iaload, 1) := by decide +kernel
theorem dL_law_1000 : decode cL_law 1000 = .ok (.aload_n 0, 1) := by decide +kernel
theorem dL_law_1001 : decode cL_law 1001 = .ok (.iload 4, 2) := by decide +kernel
theorem dL_law_1003 : decode cL_law 1003 = .ok (.iconst 3, 1) := by decide +kernel
theorem dL_law_1004 : decode cL_law 1004 = .ok (.iadd, 1) := by decide +kernel
theorem dL_law_1005 : decode cL_law 1005 = .ok (.iaload, 1) := by decide +kernel
theorem dL_law_1006 : decode cL_law 1006 = .ok (.aload_n 0, 1) := by decide +kernel
theorem dL_law_1007 : decode cL_law 1007 = .ok (.iload 4, 2) := by decide +kernel
theorem dL_law_1009 : decode cL_law 1009 = .ok (.iconst 4, 1) := by decide +kernel
theorem dL_law_1010 : decode cL_law 1010 = .ok (.iadd, 1) := by decide +kernel
theorem dL_law_1011 : decode cL_law 1011 = .ok (.iaload, 1) := by decide +kernel
theorem dL_law_1012 : decode cL_law 1012 = .ok (.invokevirtual 106, 3) := by decide +kernel
theorem dL_law_1015 : decode cL_law 1015 = .ok (.if_icmp .eq 467, 3) := by decide +kernel
theorem dL_law_1020 : decode cL_law 1020 = .ok (.aload_n 1, 1) := by decide +kernel
theorem dL_law_1021 : decode cL_law 1021 = .ok (.aload_n 0, 1) := by decide +kernel
theorem dL_law_1022 : decode cL_law 1022 = .ok (.iload 4, 2) := by decide +kernel
theorem dL_law_1024 : decode cL_law 1024 = .ok (.iconst 1, 1) := by decide +kernel
theorem dL_law_1025 : decode cL_law 1025 = .ok (.iadd, 1) := by decide +kernel
theorem dL_law_1026 : decode cL_law 1026 = .ok (.iaload, 1) := by decide +kernel
theorem dL_law_1027 : decode cL_law 1027 = .ok (.invokevirtual 107, 3) := by decide +kernel
theorem dL_law_1030 : decode cL_law 1030 = .ok (.aload_n 2, 1) := by decide +kernel
theorem dL_law_1031 : decode cL_law 1031 = .ok (.aload_n 0, 1) := by decide +kernel
theorem dL_law_1032 : decode cL_law 1032 = .ok (.iload 4, 2) := by decide +kernel
theorem dL_law_1034 : decode cL_law 1034 = .ok (.iconst 1, 1) := by decide +kernel
theorem dL_law_1035 : decode cL_law 1035 = .ok (.iadd, 1) := by decide +kernel
theorem dL_law_1036 : decode cL_law 1036 = .ok (.iaload, 1) := by decide +kernel
theorem dL_law_1037 : decode cL_law 1037 = .ok (.invokevirtual 111, 3) := by decide +kernel
theorem dL_law_1040 : decode cL_law 1040 = .ok (.if_icmp .eq 442, 3) := by decide +kernel
theorem dL_law_1045 : decode cL_law 1045 = .ok (.aload_n 1, 1) := by decide +kernel
theorem dL_law_1046 : decode cL_law 1046 = .ok (.invokevirtual 112, 3) := by decide +kernel
theorem dL_law_1049 : decode cL_law 1049 = .ok (.aload_n 2, 1) := by decide +kernel
theorem dL_law_1050 : decode cL_law 1050 = .ok (.invokevirtual 115, 3) := by decide +kernel
theorem dL_law_1053 : decode cL_law 1053 = .ok (.if_icmp .eq 429, 3) := by decide +kernel
theorem dL_law_1058 : decode cL_law 1058 = .ok (.aload_n 1, 1) := by decide +kernel
theorem dL_law_1059 : decode cL_law 1059 = .ok (.aload_n 0, 1) := by decide +kernel
theorem dL_law_1060 : decode cL_law 1060 = .ok (.iload 4, 2) := by decide +kernel
theorem dL_law_1062 : decode cL_law 1062 = .ok (.iconst 1, 1) := by decide +kernel
theorem dL_law_1063 : decode cL_law 1063 = .ok (.iadd, 1) := by decide +kernel
theorem dL_law_1064 : decode cL_law 1064 = .ok (.iaload, 1) := by decide +kernel
theorem dL_law_1065 : decode cL_law 1065 = .ok (.invokevirtual 116, 3) := by decide +kernel
theorem dL_law_1068 : decode cL_law 1068 = .ok (.aload_n 2, 1) := by decide +kernel
theorem dL_law_1069 : decode cL_law 1069 = .ok (.aload_n 0, 1) := by decide +kernel
theorem dL_law_1070 : decode cL_law 1070 = .ok (.iload 4, 2) := by decide +kernel
theorem dL_law_1072 : decode cL_law 1072 = .ok (.iconst 1, 1) := by decide +kernel
theorem dL_law_1073 : decode cL_law 1073 = .ok (.iadd, 1) := by decide +kernel
theorem dL_law_1074 : decode cL_law 1074 = .ok (.iaload, 1) := by decide +kernel
theorem dL_law_1075 : decode cL_law 1075 = .ok (.invokevirtual 119, 3) := by decide +kernel
theorem dL_law_1078 : decode cL_law 1078 = .ok (.if_icmp .eq 404, 3) := by decide +kernel
theorem dL_law_1083 : decode cL_law 1083 = .ok (.aload_n 1, 1) := by decide +kernel
theorem dL_law_1084 : decode cL_law 1084 = .ok (.aload_n 0, 1) := by decide +kernel
theorem dL_law_1085 : decode cL_law 1085 = .ok (.iload 4, 2) := by decide +kernel
theorem dL_law_1087 : decode cL_law 1087 = .ok (.iconst 1, 1) := by decide +kernel
theorem dL_law_1088 : decode cL_law 1088 = .ok (.iadd, 1) := by decide +kernel
theorem dL_law_1089 : decode cL_law 1089 = .ok (.iaload, 1) := by decide +kernel
theorem dL_law_1090 : decode cL_law 1090 = .ok (.aload_n 0, 1) := by decide +kernel
theorem dL_law_1091 : decode cL_law 1091 = .ok (.iload 4, 2) := by decide +kernel
theorem dL_law_1093 : decode cL_law 1093 = .ok (.iconst 2, 1) := by decide +kernel
theorem dL_law_1094 : decode cL_law 1094 = .ok (.iadd, 1) := by decide +kernel
theorem dL_law_1095 : decode cL_law 1095 = .ok (.iaload, 1) := by decide +kernel
theorem dL_law_1096 : decode cL_law 1096 = .ok (.invokevirtual 120, 3) := by decide +kernel
theorem dL_law_1099 : decode cL_law 1099 = .ok (.aload_n 2, 1) := by decide +kernel
theorem dL_law_1100 : decode cL_law 1100 = .ok (.aload_n 0, 1) := by decide +kernel
theorem dL_law_1101 : decode cL_law 1101 = .ok (.iload 4, 2) := by decide +kernel
theorem dL_law_1103 : decode cL_law 1103 = .ok (.iconst 1, 1) := by decide +kernel
theorem dL_law_1104 : decode cL_law 1104 = .ok (.iadd, 1) := by decide +kernel
theorem dL_law_1105 : decode cL_law 1105 = .ok (.iaload, 1) := by decide +kernel
theorem dL_law_1106 : decode cL_law 1106 = .ok (.aload_n 0, 1) := by decide +kernel
theorem dL_law_1107 : decode cL_law 1107 = .ok (.iload 4, 2) := by decide +kernel
theorem dL_law_1109 : decode cL_law 1109 = .ok (.iconst 2, 1) := by decide +kernel
theorem dL_law_1110 : decode cL_law 1110 = .ok (.iadd, 1) := by decide +kernel
theorem dL_law_1111 : decode cL_law 1111 = .ok (.iaload, 1) := by decide +kernel
theorem dL_law_1112 : decode cL_law 1112 = .ok (.invokevirtual 123, 3) := by decide +kernel
theorem dL_law_1115 : decode cL_law 1115 = .ok (.if_icmp .eq 367, 3) := by decide +kernel
theorem dL_law_1120 : decode cL_law 1120 = .ok (.aload_n 1, 1) := by decide +kernel
theorem dL_law_1121 : decode cL_law 1121 = .ok (.aload_n 0, 1) := by decide +kernel
theorem dL_law_1122 : decode cL_law 1122 = .ok (.iload 4, 2) := by decide +kernel
theorem dL_law_1124 : decode cL_law 1124 = .ok (.iconst 1, 1) := by decide +kernel
theorem dL_law_1125 : decode cL_law 1125 = .ok (.iadd, 1) := by decide +kernel
theorem dL_law_1126 : decode cL_law 1126 = .ok (.iaload, 1) := by decide +kernel
theorem dL_law_1127 : decode cL_law 1127 = .ok (.aload_n 0, 1) := by decide +kernel
theorem dL_law_1128 : decode cL_law 1128 = .ok (.iload 4, 2) := by decide +kernel
theorem dL_law_1130 : decode cL_law 1130 = .ok (.iconst 2, 1) := by decide +kernel
theorem dL_law_1131 : decode cL_law 1131 = .ok (.iadd, 1) := by decide +kernel
theorem dL_law_1132 : decode cL_law 1132 = .ok (.iaload, 1) := by decide +kernel
theorem dL_law_1133 : decode cL_law 1133 = .ok (.invokevirtual 124, 3) := by decide +kernel
theorem dL_law_1136 : decode cL_law 1136 = .ok (.aload_n 2, 1) := by decide +kernel
theorem dL_law_1137 : decode cL_law 1137 = .ok (.aload_n 0, 1) := by decide +kernel
theorem dL_law_1138 : decode cL_law 1138 = .ok (.iload 4, 2) := by decide +kernel
theorem dL_law_1140 : decode cL_law 1140 = .ok (.iconst 1, 1) := by decide +kernel
theorem dL_law_1141 : decode cL_law 1141 = .ok (.iadd, 1) := by decide +kernel
theorem dL_law_1142 : decode cL_law 1142 = .ok (.iaload, 1) := by decide +kernel
theorem dL_law_1143 : decode cL_law 1143 = .ok (.aload_n 0, 1) := by decide +kernel
theorem dL_law_1144 : decode cL_law 1144 = .ok (.iload 4, 2) := by decide +kernel
theorem dL_law_1146 : decode cL_law 1146 = .ok (.iconst 2, 1) := by decide +kernel
theorem dL_law_1147 : decode cL_law 1147 = .ok (.iadd, 1) := by decide +kernel
theorem dL_law_1148 : decode cL_law 1148 = .ok (.iaload, 1) := by decide +kernel
theorem dL_law_1149 : decode cL_law 1149 = .ok (.invokevirtual 127, 3) := by decide +kernel
theorem dL_law_1152 : decode cL_law 1152 = .ok (.if_icmp .eq 330, 3) := by decide +kernel
theorem dL_law_1157 : decode cL_law 1157 = .ok (.aload_n 1, 1) := by decide +kernel
theorem dL_law_1158 : decode cL_law 1158 = .ok (.aload_n 0, 1) := by decide +kernel
theorem dL_law_1159 : decode cL_law 1159 = .ok (.iload 4, 2) := by decide +kernel
theorem dL_law_1161 : decode cL_law 1161 = .ok (.iconst 1, 1) := by decide +kernel
theorem dL_law_1162 : decode cL_law 1162 = .ok (.iadd, 1) := by decide +kernel
theorem dL_law_1163 : decode cL_law 1163 = .ok (.iaload, 1) := by decide +kernel
theorem dL_law_1164 : decode cL_law 1164 = .ok (.aload_n 0, 1) := by decide +kernel
theorem dL_law_1165 : decode cL_law 1165 = .ok (.iload 4, 2) := by decide +kernel
theorem dL_law_1167 : decode cL_law 1167 = .ok (.iconst 2, 1) := by decide +kernel
theorem dL_law_1168 : decode cL_law 1168 = .ok (.iadd, 1) := by decide +kernel
theorem dL_law_1169 : decode cL_law 1169 = .ok (.iaload, 1) := by decide +kernel
theorem dL_law_1170 : decode cL_law 1170 = .ok (.aload_n 0, 1) := by decide +kernel
theorem dL_law_1171 : decode cL_law 1171 = .ok (.iload 4, 2) := by decide +kernel
theorem dL_law_1173 : decode cL_law 1173 = .ok (.iconst 3, 1) := by decide +kernel
theorem dL_law_1174 : decode cL_law 1174 = .ok (.iadd, 1) := by decide +kernel
theorem dL_law_1175 : decode cL_law 1175 = .ok (.iaload, 1) := by decide +kernel
theorem dL_law_1176 : decode cL_law 1176 = .ok (.invokevirtual 128, 3) := by decide +kernel
theorem dL_law_1179 : decode cL_law 1179 = .ok (.aload_n 2, 1) := by decide +kernel
theorem dL_law_1180 : decode cL_law 1180 = .ok (.aload_n 0, 1) := by decide +kernel
theorem dL_law_1181 : decode cL_law 1181 = .ok (.iload 4, 2) := by decide +kernel
theorem dL_law_1183 : decode cL_law 1183 = .ok (.iconst 1, 1) := by decide +kernel
theorem dL_law_1184 : decode cL_law 1184 = .ok (.iadd, 1) := by decide +kernel
theorem dL_law_1185 : decode cL_law 1185 = .ok (.iaload, 1) := by decide +kernel
theorem dL_law_1186 : decode cL_law 1186 = .ok (.aload_n 0, 1) := by decide +kernel
theorem dL_law_1187 : decode cL_law 1187 = .ok (.iload 4, 2) := by decide +kernel
theorem dL_law_1189 : decode cL_law 1189 = .ok (.iconst 2, 1) := by decide +kernel
theorem dL_law_1190 : decode cL_law 1190 = .ok (.iadd, 1) := by decide +kernel
theorem dL_law_1191 : decode cL_law 1191 = .ok (.iaload, 1) := by decide +kernel
theorem dL_law_1192 : decode cL_law 1192 = .ok (.aload_n 0, 1) := by decide +kernel
theorem dL_law_1193 : decode cL_law 1193 = .ok (.iload 4, 2) := by decide +kernel
theorem dL_law_1195 : decode cL_law 1195 = .ok (.iconst 3, 1) := by decide +kernel
theorem dL_law_1196 : decode cL_law 1196 = .ok (.iadd, 1) := by decide +kernel
theorem dL_law_1197 : decode cL_law 1197 = .ok (.iaload, 1) := by decide +kernel
theorem dL_law_1198 : decode cL_law 1198 = .ok (.invokevirtual 131, 3) := by decide +kernel
theorem dL_law_1201 : decode cL_law 1201 = .ok (.if_icmp .eq 281, 3) := by decide +kernel
theorem dL_law_1206 : decode cL_law 1206 = .ok (.aload_n 1, 1) := by decide +kernel
theorem dL_law_1207 : decode cL_law 1207 = .ok (.aload_n 0, 1) := by decide +kernel
theorem dL_law_1208 : decode cL_law 1208 = .ok (.iload 4, 2) := by decide +kernel
theorem dL_law_1210 : decode cL_law 1210 = .ok (.iconst 1, 1) := by decide +kernel
theorem dL_law_1211 : decode cL_law 1211 = .ok (.iadd, 1) := by decide +kernel
theorem dL_law_1212 : decode cL_law 1212 = .ok (.iaload, 1) := by decide +kernel
theorem dL_law_1213 : decode cL_law 1213 = .ok (.invokevirtual 132, 3) := by decide +kernel
theorem dL_law_1216 : decode cL_law 1216 = .ok (.aload_n 2, 1) := by decide +kernel
theorem dL_law_1217 : decode cL_law 1217 = .ok (.aload_n 0, 1) := by decide +kernel
theorem dL_law_1218 : decode cL_law 1218 = .ok (.iload 4, 2) := by decide +kernel
theorem dL_law_1220 : decode cL_law 1220 = .ok (.iconst 1, 1) := by decide +kernel
theorem dL_law_1221 : decode cL_law 1221 = .ok (.iadd, 1) := by decide +kernel
theorem dL_law_1222 : decode cL_law 1222 = .ok (.iaload, 1) := by decide +kernel
theorem dL_law_1223 : decode cL_law 1223 = .ok (.invokevirtual 135, 3) := by decide +kernel
theorem dL_law_1226 : decode cL_law 1226 = .ok (.if_icmp .eq 256, 3) := by decide +kernel
theorem dL_law_1231 : decode cL_law 1231 = .ok (.aload_n 1, 1) := by decide +kernel
theorem dL_law_1232 : decode cL_law 1232 = .ok (.aload_n 0, 1) := by decide +kernel
theorem dL_law_1233 : decode cL_law 1233 = .ok (.iload 4, 2) := by decide +kernel
theorem dL_law_1235 : decode cL_law 1235 = .ok (.iconst 1, 1) := by decide +kernel
theorem dL_law_1236 : decode cL_law 1236 = .ok (.iadd, 1) := by decide +kernel
theorem dL_law_1237 : decode cL_law 1237 = .ok (.iaload, 1) := by decide +kernel
theorem dL_law_1238 : decode cL_law 1238 = .ok (.aload_n 0, 1) := by decide +kernel
theorem dL_law_1239 : decode cL_law 1239 = .ok (.iload 4, 2) := by decide +kernel
theorem dL_law_1241 : decode cL_law 1241 = .ok (.iconst 2, 1) := by decide +kernel
theorem dL_law_1242 : decode cL_law 1242 = .ok (.iadd, 1) := by decide +kernel
theorem dL_law_1243 : decode cL_law 1243 = .ok (.iaload, 1) := by decide +kernel
theorem dL_law_1244 : decode cL_law 1244 = .ok (.invokevirtual 136, 3) := by decide +kernel
theorem dL_law_1247 : decode cL_law 1247 = .ok (.aload_n 2, 1) := by decide +kernel
theorem dL_law_1248 : decode cL_law 1248 = .ok (.aload_n 0, 1) := by decide +kernel
theorem dL_law_1249 : decode cL_law 1249 = .ok (.iload 4, 2) := by decide +kernel
theorem dL_law_1251 : decode cL_law 1251 = .ok (.iconst 1, 1) := by decide +kernel
theorem dL_law_1252 : decode cL_law 1252 = .ok (.iadd, 1) := by decide +kernel
theorem dL_law_1253 : decode cL_law 1253 = .ok (.iaload, 1) := by decide +kernel
theorem dL_law_1254 : decode cL_law 1254 = .ok (.aload_n 0, 1) := by decide +kernel
theorem dL_law_1255 : decode cL_law 1255 = .ok (.iload 4, 2) := by decide +kernel
theorem dL_law_1257 : decode cL_law 1257 = .ok (.iconst 2, 1) := by decide +kernel
theorem dL_law_1258 : decode cL_law 1258 = .ok (.iadd, 1) := by decide +kernel
theorem dL_law_1259 : decode cL_law 1259 = .ok (.iaload, 1) := by decide +kernel
theorem dL_law_1260 : decode cL_law 1260 = .ok (.invokevirtual 139, 3) := by decide +kernel
theorem dL_law_1263 : decode cL_law 1263 = .ok (.if_icmp .eq 219, 3) := by decide +kernel
theorem dL_law_1268 : decode cL_law 1268 = .ok (.aload_n 1, 1) := by decide +kernel
theorem dL_law_1269 : decode cL_law 1269 = .ok (.aload_n 0, 1) := by decide +kernel
theorem dL_law_1270 : decode cL_law 1270 = .ok (.iload 4, 2) := by decide +kernel
theorem dL_law_1272 : decode cL_law 1272 = .ok (.iconst 1, 1) := by decide +kernel
theorem dL_law_1273 : decode cL_law 1273 = .ok (.iadd, 1) := by decide +kernel
theorem dL_law_1274 : decode cL_law 1274 = .ok (.iaload, 1) := by decide +kernel
theorem dL_law_1275 : decode cL_law 1275 = .ok (.aload_n 0, 1) := by decide +kernel
theorem dL_law_1276 : decode cL_law 1276 = .ok (.iload 4, 2) := by decide +kernel
theorem dL_law_1278 : decode cL_law 1278 = .ok (.iconst 2, 1) := by decide +kernel
theorem dL_law_1279 : decode cL_law 1279 = .ok (.iadd, 1) := by decide +kernel
theorem dL_law_1280 : decode cL_law 1280 = .ok (.iaload, 1) := by decide +kernel
theorem dL_law_1281 : decode cL_law 1281 = .ok (.invokevirtual 140, 3) := by decide +kernel
theorem dL_law_1284 : decode cL_law 1284 = .ok (.aload_n 2, 1) := by decide +kernel
theorem dL_law_1285 : decode cL_law 1285 = .ok (.aload_n 0, 1) := by decide +kernel
theorem dL_law_1286 : decode cL_law 1286 = .ok (.iload 4, 2) := by decide +kernel
theorem dL_law_1288 : decode cL_law 1288 = .ok (.iconst 1, 1) := by decide +kernel
theorem dL_law_1289 : decode cL_law 1289 = .ok (.iadd, 1) := by decide +kernel
theorem dL_law_1290 : decode cL_law 1290 = .ok (.iaload, 1) := by decide +kernel
theorem dL_law_1291 : decode cL_law 1291 = .ok (.aload_n 0, 1) := by decide +kernel
theorem dL_law_1292 : decode cL_law 1292 = .ok (.iload 4, 2) := by decide +kernel
theorem dL_law_1294 : decode cL_law 1294 = .ok (.iconst 2, 1) := by decide +kernel
theorem dL_law_1295 : decode cL_law 1295 = .ok (.iadd, 1) := by decide +kernel
theorem dL_law_1296 : decode cL_law 1296 = .ok (.iaload, 1) := by decide +kernel
theorem dL_law_1297 : decode cL_law 1297 = .ok (.invokevirtual 143, 3) := by decide +kernel
theorem dL_law_1300 : decode cL_law 1300 = .ok (.if_icmp .eq 182, 3) := by decide +kernel
theorem dL_law_1305 : decode cL_law 1305 = .ok (.aload_n 1, 1) := by decide +kernel
theorem dL_law_1306 : decode cL_law 1306 = .ok (.aload_n 0, 1) := by decide +kernel
theorem dL_law_1307 : decode cL_law 1307 = .ok (.iload 4, 2) := by decide +kernel
theorem dL_law_1309 : decode cL_law 1309 = .ok (.iconst 1, 1) := by decide +kernel
theorem dL_law_1310 : decode cL_law 1310 = .ok (.iadd, 1) := by decide +kernel
theorem dL_law_1311 : decode cL_law 1311 = .ok (.iaload, 1) := by decide +kernel
theorem dL_law_1312 : decode cL_law 1312 = .ok (.aload_n 0, 1) := by decide +kernel
theorem dL_law_1313 : decode cL_law 1313 = .ok (.iload 4, 2) := by decide +kernel
theorem dL_law_1315 : decode cL_law 1315 = .ok (.iconst 2, 1) := by decide +kernel
theorem dL_law_1316 : decode cL_law 1316 = .ok (.iadd, 1) := by decide +kernel
theorem dL_law_1317 : decode cL_law 1317 = .ok (.iaload, 1) := by decide +kernel
theorem dL_law_1318 : decode cL_law 1318 = .ok (.aload_n 0, 1) := by decide +kernel
theorem dL_law_1319 : decode cL_law 1319 = .ok (.iload 4, 2) := by decide +kernel
theorem dL_law_1321 : decode cL_law 1321 = .ok (.iconst 3, 1) := by decide +kernel
theorem dL_law_1322 : decode cL_law 1322 = .ok (.iadd, 1) := by decide +kernel
theorem dL_law_1323 : decode cL_law 1323 = .ok (.iaload, 1) := by decide +kernel
theorem dL_law_1324 : decode cL_law 1324 = .ok (.aload_n 0, 1) := by decide +kernel
theorem dL_law_1325 : decode cL_law 1325 = .ok (.iload 4, 2) := by decide +kernel
theorem dL_law_1327 : decode cL_law 1327 = .ok (.iconst 4, 1) := by decide +kernel
theorem dL_law_1328 : decode cL_law 1328 = .ok (.iadd, 1) := by decide +kernel
theorem dL_law_1329 : decode cL_law 1329 = .ok (.iaload, 1) := by decide +kernel
theorem dL_law_1330 : decode cL_law 1330 = .ok (.ifCond .eq 7, 3) := by decide +kernel
theorem dL_law_1394 : decode cL_law 1394 = .ok (.aload_n 1, 1) := by decide +kernel
theorem dL_law_1395 : decode cL_law 1395 = .ok (.aload_n 0, 1) := by decide +kernel
theorem dL_law_1396 : decode cL_law 1396 = .ok (.iload 4, 2) := by decide +kernel
theorem dL_law_1398 : decode cL_law 1398 = .ok (.iconst 1, 1) := by decide +kernel
theorem dL_law_1399 : decode cL_law 1399 = .ok (.iadd, 1) := by decide +kernel
theorem dL_law_1400 : decode cL_law 1400 = .ok (.iaload, 1) := by decide +kernel
theorem dL_law_1401 : decode cL_law 1401 = .ok (.aload_n 0, 1) := by decide +kernel
theorem dL_law_1402 : decode cL_law 1402 = .ok (.iload 4, 2) := by decide +kernel
theorem dL_law_1404 : decode cL_law 1404 = .ok (.iconst 2, 1) := by decide +kernel
theorem dL_law_1405 : decode cL_law 1405 = .ok (.iadd, 1) := by decide +kernel
theorem dL_law_1406 : decode cL_law 1406 = .ok (.iaload, 1) := by decide +kernel
theorem dL_law_1407 : decode cL_law 1407 = .ok (.invokevirtual 149, 3) := by decide +kernel
theorem dL_law_1410 : decode cL_law 1410 = .ok (.aload_n 2, 1) := by decide +kernel
theorem dL_law_1411 : decode cL_law 1411 = .ok (.aload_n 0, 1) := by decide +kernel
theorem dL_law_1412 : decode cL_law 1412 = .ok (.iload 4, 2) := by decide +kernel
theorem dL_law_1414 : decode cL_law 1414 = .ok (.iconst 1, 1) := by decide +kernel
theorem dL_law_1415 : decode cL_law 1415 = .ok (.iadd, 1) := by decide +kernel
theorem dL_law_1416 : decode cL_law 1416 = .ok (.iaload, 1) := by decide +kernel
theorem dL_law_1417 : decode cL_law 1417 = .ok (.aload_n 0, 1) := by decide +kernel
theorem dL_law_1418 : decode cL_law 1418 = .ok (.iload 4, 2) := by decide +kernel
theorem dL_law_1420 : decode cL_law 1420 = .ok (.iconst 2, 1) := by decide +kernel
theorem dL_law_1421 : decode cL_law 1421 = .ok (.iadd, 1) := by decide +kernel
theorem dL_law_1422 : decode cL_law 1422 = .ok (.iaload, 1) := by decide +kernel
theorem dL_law_1423 : decode cL_law 1423 = .ok (.invokevirtual 152, 3) := by decide +kernel
theorem dL_law_1426 : decode cL_law 1426 = .ok (.if_icmp .eq 56, 3) := by decide +kernel
theorem dL_law_1431 : decode cL_law 1431 = .ok (.aload_n 1, 1) := by decide +kernel
theorem dL_law_1432 : decode cL_law 1432 = .ok (.invokevirtual 153, 3) := by decide +kernel
theorem dL_law_1435 : decode cL_law 1435 = .ok (.aload_n 2, 1) := by decide +kernel
theorem dL_law_1436 : decode cL_law 1436 = .ok (.invokevirtual 156, 3) := by decide +kernel
theorem dL_law_1439 : decode cL_law 1439 = .ok (.if_icmp .eq 43, 3) := by decide +kernel
theorem dL_law_1444 : decode cL_law 1444 = .ok (.aload_n 1, 1) := by decide +kernel
theorem dL_law_1445 : decode cL_law 1445 = .ok (.invokevirtual 157, 3) := by decide +kernel
theorem dL_law_1448 : decode cL_law 1448 = .ok (.aload_n 2, 1) := by decide +kernel
theorem dL_law_1449 : decode cL_law 1449 = .ok (.invokevirtual 160, 3) := by decide +kernel
theorem dL_law_1452 : decode cL_law 1452 = .ok (.if_icmp .eq 30, 3) := by decide +kernel
theorem dL_law_1457 : decode cL_law 1457 = .ok (.aload_n 1, 1) := by decide +kernel
theorem dL_law_1458 : decode cL_law 1458 = .ok (.aload_n 0, 1) := by decide +kernel
theorem dL_law_1459 : decode cL_law 1459 = .ok (.iload 4, 2) := by decide +kernel
theorem dL_law_1461 : decode cL_law 1461 = .ok (.iconst 1, 1) := by decide +kernel
theorem dL_law_1462 : decode cL_law 1462 = .ok (.iadd, 1) := by decide +kernel
theorem dL_law_1463 : decode cL_law 1463 = .ok (.iaload, 1) := by decide +kernel
theorem dL_law_1464 : decode cL_law 1464 = .ok (.invokevirtual 161, 3) := by decide +kernel
theorem dL_law_1467 : decode cL_law 1467 = .ok (.aload_n 2, 1) := by decide +kernel
theorem dL_law_1468 : decode cL_law 1468 = .ok (.aload_n 0, 1) := by decide +kernel
theorem dL_law_1469 : decode cL_law 1469 = .ok (.iload 4, 2) := by decide +kernel
theorem dL_law_1471 : decode cL_law 1471 = .ok (.iconst 1, 1) := by decide +kernel
theorem dL_law_1472 : decode cL_law 1472 = .ok (.iadd, 1) := by decide +kernel
theorem dL_law_1473 : decode cL_law 1473 = .ok (.iaload, 1) := by decide +kernel
theorem dL_law_1474 : decode cL_law 1474 = .ok (.invokevirtual 164, 3) := by decide +kernel
theorem dL_law_1477 : decode cL_law 1477 = .ok (.if_icmp .eq 5, 3) := by decide +kernel
set_option maxHeartbeats 4000000 in
set_option maxRecDepth 100000 in
theorem law_op_0 {p : Program} {l : Launch} {e : Env} {s : State} {m : MethodId} {below : List Frame} {meth : Method} {c : Code} {dC : Nat → ClassId} {dI : Nat → Nat → Nat} {b : Nat} {xs : Nat → Int32} {A : Nat → Prop} (C0 : lw_At p s m meth c b 7 xs) (hA : ∀ q, s.heap.size ≤ q → A q) (hbA : ¬ A b) (hAo : ∀ q, A q → s.heap.size ≤ q) {xx : Nat} {rr : Nat} {ta : Nat} {tb : Nat} {pa : Nat} {pb : Nat} {cn : Nat} {ci : Nat} {cp : Nat} {ct : Nat} {hs : Nat} {rd : Nat} {wy : Nat} {ea : Nat} {eb : Nat} {rr_tape : Nat} {tk : Nat} {k_rr_tape : ClassId} {mm : Nat} {mm_tape : Nat} {mm_number : Nat} {mm_clockName : Nat} {mm_clockOff : Nat} {mm_clockGain : Nat} {mm_clockRough : Nat} {mm_personName : Nat} {mm_personOff : Nat} {mm_personGain : Nat} {mm_personRough : Nat} {mm_custom : Nat} {mm_customA : Nat} {mm_customB : Nat} {mm_ruleFrom : Nat} {mm_ruleTo : Nat} {mm_roundOf : Nat} {mm_roundAt : Nat} {mm_roundHour : Nat} {mm_gunAt : Nat} {mm_gunHour : Nat} {mm_knotSort : Nat} {mm_knotValue : Nat} {mm_start : Nat} {mm_off : Nat} {mm_last : Nat} {mm_passed : Nat} {mm_kept : Nat} {mm_keptMany : Nat} {mm_history : Nat} {mm_names : Nat} {mm_worked : Nat} {mm_readThing : Nat} {mm_readHour : Nat} {mm_readLow : Nat} {mm_readHigh : Nat} {mm_imageOff : Nat} {mm_imageLast : Nat} {mm_imagePassed : Nat} {mm_imageKept : Nat} {mm_imageMany : Nat} {mm_imageHistory : Nat} {k_mm_tape : ClassId} {oo : Nat} {H : Heap} {locs : List Loc} {ls : Array Slot} (hK : va_K (dC, dI) vwCl [(k_rr_tape, .byte), (k_mm_tape, .int)] s) (hP : va_P (dC, dI) vwCl [(xx, .inr (10, [.ref rr, .ref ta, .ref tb, .ref pa, .ref pb, .ref cn, .ref ci, .int 0, .ref cp, .ref ct, .ref hs, .ref rd, .ref wy, .ref ea, .ref eb])), (rr, .inr (4, [.ref rr_tape, .int 0, .int 0, .int (-1), .ref tk, .null, .int 0, .int 0])), (rr_tape, .inl (k_rr_tape, 700, .inl (fun _ => 0))), (mm, .inr (11, [.int 0, .ref mm_tape, .int 0, .ref mm_number, .ref mm_clockName, .ref mm_clockOff, .ref mm_clockGain, .ref mm_clockRough, .ref mm_personName, .ref mm_personOff, .ref mm_personGain, .ref mm_personRough, .ref mm_custom, .ref mm_customA, .ref mm_customB, .ref mm_ruleFrom, .ref mm_ruleTo, .ref mm_roundOf, .ref mm_roundAt, .ref mm_roundHour, .ref mm_gunAt, .ref mm_gunHour, .ref mm_knotSort, .ref mm_knotValue, .int 0, .int 0, .int 0, .int 0, .int 0, .int 0, .int 0, .int 0, .int 0, .int (-1), .int 0, .int 0, .int 0, .int 0, .int 0, .int 0, .int 0, .int 0, .int 0, .int 0, .int 0, .int 0, .ref mm_start, .ref mm_off, .ref mm_last, .ref mm_passed, .ref mm_kept, .ref mm_keptMany, .int 0, .int 0, .ref mm_history, .ref mm_names, .ref mm_worked, .int 0, .int 0, .int (-1), .ref mm_readThing, .ref mm_readHour, .ref mm_readLow, .ref mm_readHigh, .int 0, .int 0, .int 0, .ref mm_imageOff, .ref mm_imageLast, .ref mm_imagePassed, .ref mm_imageKept, .ref mm_imageMany, .ref mm_imageHistory])), (mm_tape, .inl (k_mm_tape, 700, .inl (fun _ => 0)))] H) (hD : va_D A [(xx, .inr (10, [.ref rr, .ref ta, .ref tb, .ref pa, .ref pb, .ref cn, .ref ci, .int 0, .ref cp, .ref ct, .ref hs, .ref rd, .ref wy, .ref ea, .ref eb])), (rr, .inr (4, [.ref rr_tape, .int 0, .int 0, .int (-1), .ref tk, .null, .int 0, .int 0])), (rr_tape, .inl (k_rr_tape, 700, .inl (fun _ => 0))), (mm, .inr (11, [.int 0, .ref mm_tape, .int 0, .ref mm_number, .ref mm_clockName, .ref mm_clockOff, .ref mm_clockGain, .ref mm_clockRough, .ref mm_personName, .ref mm_personOff, .ref mm_personGain, .ref mm_personRough, .ref mm_custom, .ref mm_customA, .ref mm_customB, .ref mm_ruleFrom, .ref mm_ruleTo, .ref mm_roundOf, .ref mm_roundAt, .ref mm_roundHour, .ref mm_gunAt, .ref mm_gunHour, .ref mm_knotSort, .ref mm_knotValue, .int 0, .int 0, .int 0, .int 0, .int 0, .int 0, .int 0, .int 0, .int 0, .int (-1), .int 0, .int 0, .int 0, .int 0, .int 0, .int 0, .int 0, .int 0, .int 0, .int 0, .int 0, .int 0, .ref mm_start, .ref mm_off, .ref mm_last, .ref mm_passed, .ref mm_kept, .ref mm_keptMany, .int 0, .int 0, .ref mm_history, .ref mm_names, .ref mm_worked, .int 0, .int 0, .int (-1), .ref mm_readThing, .ref mm_readHour, .ref mm_readLow, .ref mm_readHigh, .int 0, .int 0, .int 0, .ref mm_imageOff, .ref mm_imageLast, .ref mm_imagePassed, .ref mm_imageKept, .ref mm_imageMany, .ref mm_imageHistory])), (mm_tape, .inl (k_mm_tape, 700, .inl (fun _ => 0)))]) (hS : va_S A s.heap H locs) (hl : lv_has ls 7 [(4, .int 0), (3, .ref oo), (2, .ref mm), (1, .ref xx), (0, .ref b)]) : W p l e room_1 s m #[Value.ref b] below meth c H locs 160 67979 (lw_Z below #[Value.ref b] s) (F0 m 184 ls []) := by
  obtain ⟨hx, hb, hr, hml, hown, hts, hX, hbl, hlocks, hgv⟩ := C0
  have hT : ∀ w ∈ pw_T, w.before #[Value.ref b] s = true := fun w h => hts w (List.mem_filter.mp h).1
  have hown : s.vm.findClass RL = some m.cls := hown
  refine lv_aload_n hx hb dL_law_184 rfl (lv_at hl 3 rfl) ?_
  refine lv_aload_n hx hb dL_law_185 rfl (lv_at hl 4 rfl) ?_
  refine lv_iload hx hb dL_law_186 (lv_at hl 0 rfl) ?_
  refine lv_iconst (v := 1) hx hb dL_law_188 (by decide) ?_
  refine lv_iadd hx hb dL_law_189 ?_
  refine lv_topi (fun z_1 ez_1 => ?_)
  obtain rfl : z_1 = 1 := ez_1.trans (by decide)
  refine va_sld hx hb hX hbl hbA hS (pk_in 1 7 (by decide) (by decide) (by decide)) dL_law_190 ?_
  refine lv_topi (fun z_2 ez_2 => ?_)
  replace ez_2 : z_2 = xs 1 := ez_2
  subst z_2
  refine lv_aload_n hx hb dL_law_191 rfl (lv_at hl 4 rfl) ?_
  refine lv_iload hx hb dL_law_192 (lv_at hl 0 rfl) ?_
  refine lv_iconst (v := 2) hx hb dL_law_194 (by decide) ?_
  refine lv_iadd hx hb dL_law_195 ?_
  refine lv_topi (fun z_3 ez_3 => ?_)
  obtain rfl : z_3 = 2 := ez_3.trans (by decide)
  refine va_sld hx hb hX hbl hbA hS (pk_in 2 7 (by decide) (by decide) (by decide)) dL_law_196 ?_
  refine lv_topi (fun z_4 ez_4 => ?_)
  replace ez_4 : z_4 = xs 2 := ez_4
  subst z_4
  refine lv_aload_n hx hb dL_law_197 rfl (lv_at hl 4 rfl) ?_
  refine lv_iload hx hb dL_law_198 (lv_at hl 0 rfl) ?_
  refine lv_iconst (v := 3) hx hb dL_law_200 (by decide) ?_
  refine lv_iadd hx hb dL_law_201 ?_
  refine lv_topi (fun z_5 ez_5 => ?_)
  obtain rfl : z_5 = 3 := ez_5.trans (by decide)
  refine va_sld hx hb hX hbl hbA hS (pk_in 3 7 (by decide) (by decide) (by decide)) dL_law_202 ?_
  refine lv_topi (fun z_6 ez_6 => ?_)
  replace ez_6 : z_6 = xs 3 := ez_6
  subst z_6
  refine lv_aload_n hx hb dL_law_203 rfl (lv_at hl 4 rfl) ?_
  refine lv_iload hx hb dL_law_204 (lv_at hl 0 rfl) ?_
  refine lv_iconst (v := 4) hx hb dL_law_206 (by decide) ?_
  refine lv_iadd hx hb dL_law_207 ?_
  refine lv_topi (fun z_7 ez_7 => ?_)
  obtain rfl : z_7 = 4 := ez_7.trans (by decide)
  refine va_sld hx hb hX hbl hbA hS (pk_in 4 7 (by decide) (by decide) (by decide)) dL_law_208 ?_
  refine lv_topi (fun z_8 ez_8 => ?_)
  replace ez_8 : z_8 = xs 4 := ez_8
  subst z_8
  refine lv_aload_n hx hb dL_law_209 rfl (lv_at hl 4 rfl) ?_
  refine lv_iload hx hb dL_law_210 (lv_at hl 0 rfl) ?_
  refine lv_iconst (v := 5) hx hb dL_law_212 (by decide) ?_
  refine lv_iadd hx hb dL_law_213 ?_
  refine lv_topi (fun z_9 ez_9 => ?_)
  obtain rfl : z_9 = 5 := ez_9.trans (by decide)
  refine va_sld hx hb hX hbl hbA hS (pk_in 5 7 (by decide) (by decide) (by decide)) dL_law_214 ?_
  refine lv_topi (fun z_10 ez_10 => ?_)
  replace ez_10 : z_10 = xs 5 := ez_10
  subst z_10
  have hPc := hP.sub (ws' := [(xx, .inr (10, [.ref rr, .ref ta, .ref tb, .ref pa, .ref pb, .ref cn, .ref ci, .int 0, .ref cp, .ref ct, .ref hs, .ref rd, .ref wy, .ref ea, .ref eb])), (rr, .inr (4, [.ref rr_tape, .int 0, .int 0, .int (-1), .ref tk, .null, .int 0, .int 0])), (rr_tape, .inl (k_rr_tape, 700, .inl (fun _ => 0)))]) [0, 1, 2] rfl
  have hDc := hD.sub (ws' := [(xx, .inr (10, [.ref rr, .ref ta, .ref tb, .ref pa, .ref pb, .ref cn, .ref ci, .int 0, .ref cp, .ref ct, .ref hs, .ref rd, .ref wy, .ref ea, .ref eb])), (rr, .inr (4, [.ref rr_tape, .int 0, .int 0, .int (-1), .ref tk, .null, .int 0, .int 0])), (rr_tape, .inl (k_rr_tape, 700, .inl (fun _ => 0)))]) [0, 1, 2] (by decide) rfl
  have hKc := hK.sub (tys' := [(k_rr_tape, .byte)]) [0] rfl
  have hFc := va_free (wc := [(xx, .inr (10, [.ref rr, .ref ta, .ref tb, .ref pa, .ref pb, .ref cn, .ref ci, .int 0, .ref cp, .ref ct, .ref hs, .ref rd, .ref wy, .ref ea, .ref eb])), (rr, .inr (4, [.ref rr_tape, .int 0, .int 0, .int (-1), .ref tk, .null, .int 0, .int 0])), (rr_tape, .inl (k_rr_tape, 700, .inl (fun _ => 0)))]) hD hS hA [0, 1, 2] rfl
  refine va_calli (va_runV (As := [.int (xs 1), .int (xs 2), .int (xs 3), .int (xs 4), .int (xs 5)]) (rest := []) ⟨hx, hb, hml, hown, hT⟩ (c_X10_feed l dC dI H.size xx (xs 1) (xs 2) (xs 3) (xs 4) (xs 5) rr ta tb pa pb cn ci (0 : Int32) cp ct hs rd wy ea eb rr_tape (0 : Int32) ((-1) : Int32) tk (0 : Int32) (0 : Int32) k_rr_tape (fun _ => 0) ) (cwV 5 hT (gwV mw_3_59 mw_3_60 mw_3_61 mw_1_1 mw_3_62) rfl rfl rfl (by decide +kernel) ⟨Nat.le_of_ble_eq_true rfl, Nat.le_of_ble_eq_true rfl⟩) ⟨fun a U g mk q => by obtain ⟨q0, q1, qP, qK, qD⟩ := q; exact ⟨q0, q1, qP, va_K.moved (u := U) (U := U.calling g mk a) (Vm.Alike.refl U.vm) qK, qD⟩, va_recv hK hP (ci := 10) (q0 := 0) rfl rfl, fun U hU hW => ⟨rfl, by rw [hU], by rw [hU]; exact hPc, va_K.moved hW.alike hKc, hDc.weaken (fun _ _ _ _ => trivial)⟩⟩ rfl rfl hl.1 rfl (lv_room (Nat.le_of_ble_eq_true rfl)) dL_law_215 ⟨Nat.le_of_ble_eq_true rfl, Nat.le_of_ble_eq_true rfl⟩) hS (fun q _ h => hFc q h) hFc (fun r_12 u t H1 locs ht hvm hw hB hz1 hk1 hS => ?_)
  obtain ⟨x_13, hP1, hD1⟩ := hB
  rw [ht] at hP1
  obtain ⟨hP, hD⟩ := va_join (wr := [(mm, .inr (11, [.int 0, .ref mm_tape, .int 0, .ref mm_number, .ref mm_clockName, .ref mm_clockOff, .ref mm_clockGain, .ref mm_clockRough, .ref mm_personName, .ref mm_personOff, .ref mm_personGain, .ref mm_personRough, .ref mm_custom, .ref mm_customA, .ref mm_customB, .ref mm_ruleFrom, .ref mm_ruleTo, .ref mm_roundOf, .ref mm_roundAt, .ref mm_roundHour, .ref mm_gunAt, .ref mm_gunHour, .ref mm_knotSort, .ref mm_knotValue, .int 0, .int 0, .int 0, .int 0, .int 0, .int 0, .int 0, .int 0, .int 0, .int (-1), .int 0, .int 0, .int 0, .int 0, .int 0, .int 0, .int 0, .int 0, .int 0, .int 0, .int 0, .int 0, .ref mm_start, .ref mm_off, .ref mm_last, .ref mm_passed, .ref mm_kept, .ref mm_keptMany, .int 0, .int 0, .ref mm_history, .ref mm_names, .ref mm_worked, .int 0, .int 0, .int (-1), .ref mm_readThing, .ref mm_readHour, .ref mm_readLow, .ref mm_readHigh, .int 0, .int 0, .int 0, .ref mm_imageOff, .ref mm_imageLast, .ref mm_imagePassed, .ref mm_imageKept, .ref mm_imageMany, .ref mm_imageHistory])), (mm_tape, .inl (k_mm_tape, 700, .inl (fun _ => 0)))]) (w1 := [(xx, .inr (10, [.ref rr, .ref ta, .ref tb, .ref pa, .ref pb, .ref cn, .ref ci, .int 0, .ref cp, .ref ct, .ref hs, .ref rd, .ref wy, .ref ea, .ref eb])), (rr, .inr (4, [.ref rr_tape, .int 20, .int 0, .int (-1), .ref tk, .null, .int 0, .int 0])), (rr_tape, .inl (k_rr_tape, 700, .inl x_13))]) hP hD [0, 1, 2] [3, 4] rfl rfl (by decide) (by decide) hk1 hFc hP1 hD1
  generalize H1 = H at hP hS ⊢
  have hP : va_P (dC, dI) vwCl [(mm, .inr (11, [.int 0, .ref mm_tape, .int 0, .ref mm_number, .ref mm_clockName, .ref mm_clockOff, .ref mm_clockGain, .ref mm_clockRough, .ref mm_personName, .ref mm_personOff, .ref mm_personGain, .ref mm_personRough, .ref mm_custom, .ref mm_customA, .ref mm_customB, .ref mm_ruleFrom, .ref mm_ruleTo, .ref mm_roundOf, .ref mm_roundAt, .ref mm_roundHour, .ref mm_gunAt, .ref mm_gunHour, .ref mm_knotSort, .ref mm_knotValue, .int 0, .int 0, .int 0, .int 0, .int 0, .int 0, .int 0, .int 0, .int 0, .int (-1), .int 0, .int 0, .int 0, .int 0, .int 0, .int 0, .int 0, .int 0, .int 0, .int 0, .int 0, .int 0, .ref mm_start, .ref mm_off, .ref mm_last, .ref mm_passed, .ref mm_kept, .ref mm_keptMany, .int 0, .int 0, .ref mm_history, .ref mm_names, .ref mm_worked, .int 0, .int 0, .int (-1), .ref mm_readThing, .ref mm_readHour, .ref mm_readLow, .ref mm_readHigh, .int 0, .int 0, .int 0, .ref mm_imageOff, .ref mm_imageLast, .ref mm_imagePassed, .ref mm_imageKept, .ref mm_imageMany, .ref mm_imageHistory])), (mm_tape, .inl (k_mm_tape, 700, .inl (fun _ => 0))), (xx, .inr (10, [.ref rr, .ref ta, .ref tb, .ref pa, .ref pb, .ref cn, .ref ci, .int 0, .ref cp, .ref ct, .ref hs, .ref rd, .ref wy, .ref ea, .ref eb])), (rr, .inr (4, [.ref rr_tape, .int 20, .int 0, .int (-1), .ref tk, .null, .int 0, .int 0])), (rr_tape, .inl (k_rr_tape, 700, .inl x_13))] H := hP
  have hD : va_D A [(mm, .inr (11, [.int 0, .ref mm_tape, .int 0, .ref mm_number, .ref mm_clockName, .ref mm_clockOff, .ref mm_clockGain, .ref mm_clockRough, .ref mm_personName, .ref mm_personOff, .ref mm_personGain, .ref mm_personRough, .ref mm_custom, .ref mm_customA, .ref mm_customB, .ref mm_ruleFrom, .ref mm_ruleTo, .ref mm_roundOf, .ref mm_roundAt, .ref mm_roundHour, .ref mm_gunAt, .ref mm_gunHour, .ref mm_knotSort, .ref mm_knotValue, .int 0, .int 0, .int 0, .int 0, .int 0, .int 0, .int 0, .int 0, .int 0, .int (-1), .int 0, .int 0, .int 0, .int 0, .int 0, .int 0, .int 0, .int 0, .int 0, .int 0, .int 0, .int 0, .ref mm_start, .ref mm_off, .ref mm_last, .ref mm_passed, .ref mm_kept, .ref mm_keptMany, .int 0, .int 0, .ref mm_history, .ref mm_names, .ref mm_worked, .int 0, .int 0, .int (-1), .ref mm_readThing, .ref mm_readHour, .ref mm_readLow, .ref mm_readHigh, .int 0, .int 0, .int 0, .ref mm_imageOff, .ref mm_imageLast, .ref mm_imagePassed, .ref mm_imageKept, .ref mm_imageMany, .ref mm_imageHistory])), (mm_tape, .inl (k_mm_tape, 700, .inl (fun _ => 0))), (xx, .inr (10, [.ref rr, .ref ta, .ref tb, .ref pa, .ref pb, .ref cn, .ref ci, .int 0, .ref cp, .ref ct, .ref hs, .ref rd, .ref wy, .ref ea, .ref eb])), (rr, .inr (4, [.ref rr_tape, .int 20, .int 0, .int (-1), .ref tk, .null, .int 0, .int 0])), (rr_tape, .inl (k_rr_tape, 700, .inl x_13))] := hD
  clear hPc hDc hKc hFc hP1 hD1 hk1 hz1 ht hvm
  have hw : r_12 = 20 := hw
  subst r_12
  refine lv_aload_n hx hb dL_law_218 rfl (lv_at hl 2 rfl) ?_
  refine lv_aload_n hx hb dL_law_219 rfl (lv_at hl 4 rfl) ?_
  refine lv_iload hx hb dL_law_220 (lv_at hl 0 rfl) ?_
  refine lv_iconst (v := 1) hx hb dL_law_222 (by decide) ?_
  refine lv_iadd hx hb dL_law_223 ?_
  refine lv_topi (fun z_14 ez_14 => ?_)
  obtain rfl : z_14 = 1 := ez_14.trans (by decide)
  refine va_sld hx hb hX hbl hbA hS (pk_in 1 7 (by decide) (by decide) (by decide)) dL_law_224 ?_
  refine lv_topi (fun z_15 ez_15 => ?_)
  replace ez_15 : z_15 = xs 1 := ez_15
  subst z_15
  refine lv_aload_n hx hb dL_law_225 rfl (lv_at hl 4 rfl) ?_
  refine lv_iload hx hb dL_law_226 (lv_at hl 0 rfl) ?_
  refine lv_iconst (v := 2) hx hb dL_law_228 (by decide) ?_
  refine lv_iadd hx hb dL_law_229 ?_
  refine lv_topi (fun z_16 ez_16 => ?_)
  obtain rfl : z_16 = 2 := ez_16.trans (by decide)
  refine va_sld hx hb hX hbl hbA hS (pk_in 2 7 (by decide) (by decide) (by decide)) dL_law_230 ?_
  refine lv_topi (fun z_17 ez_17 => ?_)
  replace ez_17 : z_17 = xs 2 := ez_17
  subst z_17
  refine lv_aload_n hx hb dL_law_231 rfl (lv_at hl 4 rfl) ?_
  refine lv_iload hx hb dL_law_232 (lv_at hl 0 rfl) ?_
  refine lv_iconst (v := 3) hx hb dL_law_234 (by decide) ?_
  refine lv_iadd hx hb dL_law_235 ?_
  refine lv_topi (fun z_18 ez_18 => ?_)
  obtain rfl : z_18 = 3 := ez_18.trans (by decide)
  refine va_sld hx hb hX hbl hbA hS (pk_in 3 7 (by decide) (by decide) (by decide)) dL_law_236 ?_
  refine lv_topi (fun z_19 ez_19 => ?_)
  replace ez_19 : z_19 = xs 3 := ez_19
  subst z_19
  refine lv_aload_n hx hb dL_law_237 rfl (lv_at hl 4 rfl) ?_
  refine lv_iload hx hb dL_law_238 (lv_at hl 0 rfl) ?_
  refine lv_iconst (v := 4) hx hb dL_law_240 (by decide) ?_
  refine lv_iadd hx hb dL_law_241 ?_
  refine lv_topi (fun z_20 ez_20 => ?_)
  obtain rfl : z_20 = 4 := ez_20.trans (by decide)
  refine va_sld hx hb hX hbl hbA hS (pk_in 4 7 (by decide) (by decide) (by decide)) dL_law_242 ?_
  refine lv_topi (fun z_21 ez_21 => ?_)
  replace ez_21 : z_21 = xs 4 := ez_21
  subst z_21
  refine lv_aload_n hx hb dL_law_243 rfl (lv_at hl 4 rfl) ?_
  refine lv_iload hx hb dL_law_244 (lv_at hl 0 rfl) ?_
  refine lv_iconst (v := 5) hx hb dL_law_246 (by decide) ?_
  refine lv_iadd hx hb dL_law_247 ?_
  refine lv_topi (fun z_22 ez_22 => ?_)
  obtain rfl : z_22 = 5 := ez_22.trans (by decide)
  refine va_sld hx hb hX hbl hbA hS (pk_in 5 7 (by decide) (by decide) (by decide)) dL_law_248 ?_
  refine lv_topi (fun z_23 ez_23 => ?_)
  replace ez_23 : z_23 = xs 5 := ez_23
  subst z_23
  have hPc := hP.sub (ws' := [(mm, .inr (11, [.int 0, .ref mm_tape, .int 0, .ref mm_number, .ref mm_clockName, .ref mm_clockOff, .ref mm_clockGain, .ref mm_clockRough, .ref mm_personName, .ref mm_personOff, .ref mm_personGain, .ref mm_personRough, .ref mm_custom, .ref mm_customA, .ref mm_customB, .ref mm_ruleFrom, .ref mm_ruleTo, .ref mm_roundOf, .ref mm_roundAt, .ref mm_roundHour, .ref mm_gunAt, .ref mm_gunHour, .ref mm_knotSort, .ref mm_knotValue, .int 0, .int 0, .int 0, .int 0, .int 0, .int 0, .int 0, .int 0, .int 0, .int (-1), .int 0, .int 0, .int 0, .int 0, .int 0, .int 0, .int 0, .int 0, .int 0, .int 0, .int 0, .int 0, .ref mm_start, .ref mm_off, .ref mm_last, .ref mm_passed, .ref mm_kept, .ref mm_keptMany, .int 0, .int 0, .ref mm_history, .ref mm_names, .ref mm_worked, .int 0, .int 0, .int (-1), .ref mm_readThing, .ref mm_readHour, .ref mm_readLow, .ref mm_readHigh, .int 0, .int 0, .int 0, .ref mm_imageOff, .ref mm_imageLast, .ref mm_imagePassed, .ref mm_imageKept, .ref mm_imageMany, .ref mm_imageHistory])), (mm_tape, .inl (k_mm_tape, 700, .inl (fun _ => 0)))]) [0, 1] rfl
  have hDc := hD.sub (ws' := [(mm, .inr (11, [.int 0, .ref mm_tape, .int 0, .ref mm_number, .ref mm_clockName, .ref mm_clockOff, .ref mm_clockGain, .ref mm_clockRough, .ref mm_personName, .ref mm_personOff, .ref mm_personGain, .ref mm_personRough, .ref mm_custom, .ref mm_customA, .ref mm_customB, .ref mm_ruleFrom, .ref mm_ruleTo, .ref mm_roundOf, .ref mm_roundAt, .ref mm_roundHour, .ref mm_gunAt, .ref mm_gunHour, .ref mm_knotSort, .ref mm_knotValue, .int 0, .int 0, .int 0, .int 0, .int 0, .int 0, .int 0, .int 0, .int 0, .int (-1), .int 0, .int 0, .int 0, .int 0, .int 0, .int 0, .int 0, .int 0, .int 0, .int 0, .int 0, .int 0, .ref mm_start, .ref mm_off, .ref mm_last, .ref mm_passed, .ref mm_kept, .ref mm_keptMany, .int 0, .int 0, .ref mm_history, .ref mm_names, .ref mm_worked, .int 0, .int 0, .int (-1), .ref mm_readThing, .ref mm_readHour, .ref mm_readLow, .ref mm_readHigh, .int 0, .int 0, .int 0, .ref mm_imageOff, .ref mm_imageLast, .ref mm_imagePassed, .ref mm_imageKept, .ref mm_imageMany, .ref mm_imageHistory])), (mm_tape, .inl (k_mm_tape, 700, .inl (fun _ => 0)))]) [0, 1] (by decide) rfl
  have hKc := hK.sub (tys' := [(k_mm_tape, .int)]) [1] rfl
  have hFc := va_free (wc := [(mm, .inr (11, [.int 0, .ref mm_tape, .int 0, .ref mm_number, .ref mm_clockName, .ref mm_clockOff, .ref mm_clockGain, .ref mm_clockRough, .ref mm_personName, .ref mm_personOff, .ref mm_personGain, .ref mm_personRough, .ref mm_custom, .ref mm_customA, .ref mm_customB, .ref mm_ruleFrom, .ref mm_ruleTo, .ref mm_roundOf, .ref mm_roundAt, .ref mm_roundHour, .ref mm_gunAt, .ref mm_gunHour, .ref mm_knotSort, .ref mm_knotValue, .int 0, .int 0, .int 0, .int 0, .int 0, .int 0, .int 0, .int 0, .int 0, .int (-1), .int 0, .int 0, .int 0, .int 0, .int 0, .int 0, .int 0, .int 0, .int 0, .int 0, .int 0, .int 0, .ref mm_start, .ref mm_off, .ref mm_last, .ref mm_passed, .ref mm_kept, .ref mm_keptMany, .int 0, .int 0, .ref mm_history, .ref mm_names, .ref mm_worked, .int 0, .int 0, .int (-1), .ref mm_readThing, .ref mm_readHour, .ref mm_readLow, .ref mm_readHigh, .int 0, .int 0, .int 0, .ref mm_imageOff, .ref mm_imageLast, .ref mm_imagePassed, .ref mm_imageKept, .ref mm_imageMany, .ref mm_imageHistory])), (mm_tape, .inl (k_mm_tape, 700, .inl (fun _ => 0)))]) hD hS hA [0, 1] rfl
  refine va_calli (va_runV (As := [.int (xs 1), .int (xs 2), .int (xs 3), .int (xs 4), .int (xs 5)]) (rest := [.int 20]) ⟨hx, hb, hml, hown, hT⟩ (c_X11_feed l dC dI H.size mm (xs 1) (xs 2) (xs 3) (xs 4) (xs 5) (0 : Int32) mm_tape mm_number mm_clockName mm_clockOff mm_clockGain mm_clockRough mm_personName mm_personOff mm_personGain mm_personRough mm_custom mm_customA mm_customB mm_ruleFrom mm_ruleTo mm_roundOf mm_roundAt mm_roundHour mm_gunAt mm_gunHour mm_knotSort mm_knotValue (0 : Int32) (0 : Int32) (0 : Int32) (0 : Int32) (0 : Int32) (0 : Int32) (0 : Int32) (0 : Int32) (0 : Int32) ((-1) : Int32) (0 : Int32) (0 : Int32) (0 : Int32) (0 : Int32) (0 : Int32) (0 : Int32) (0 : Int32) (0 : Int32) (0 : Int32) (0 : Int32) (0 : Int32) (0 : Int32) mm_start mm_off mm_last mm_passed mm_kept mm_keptMany (0 : Int32) (0 : Int32) mm_history mm_names mm_worked (0 : Int32) (0 : Int32) ((-1) : Int32) mm_readThing mm_readHour mm_readLow mm_readHigh (0 : Int32) (0 : Int32) (0 : Int32) mm_imageOff mm_imageLast mm_imagePassed mm_imageKept mm_imageMany mm_imageHistory k_mm_tape (fun _ => 0) ) (cwV 5 hT (gwV mw_7_1 mw_7_2 mw_7_3 mw_1_16 mw_7_4) rfl rfl rfl (by decide +kernel) ⟨Nat.le_of_ble_eq_true rfl, Nat.le_of_ble_eq_true rfl⟩) ⟨fun a U g mk q => by obtain ⟨q0, q1, qP, qK, qD⟩ := q; exact ⟨q0, q1, qP, va_K.moved (u := U) (U := U.calling g mk a) (Vm.Alike.refl U.vm) qK, qD⟩, va_recv hK hP (ci := 11) (q0 := 0) rfl rfl, fun U hU hW => ⟨rfl, by rw [hU], by rw [hU]; exact hPc, va_K.moved hW.alike hKc, hDc.weaken (fun _ _ _ _ => trivial)⟩⟩ rfl rfl hl.1 rfl (lv_room (Nat.le_of_ble_eq_true rfl)) dL_law_249 ⟨Nat.le_of_ble_eq_true rfl, Nat.le_of_ble_eq_true rfl⟩) hS (fun q _ h => hFc q h) hFc (fun r_25 u t H1 locs ht hvm hw hB hz1 hk1 hS => ?_)
  obtain ⟨hP1, hD1⟩ := hB
  rw [ht] at hP1
  obtain ⟨hP, hD⟩ := va_join (wr := [(xx, .inr (10, [.ref rr, .ref ta, .ref tb, .ref pa, .ref pb, .ref cn, .ref ci, .int 0, .ref cp, .ref ct, .ref hs, .ref rd, .ref wy, .ref ea, .ref eb])), (rr, .inr (4, [.ref rr_tape, .int 20, .int 0, .int (-1), .ref tk, .null, .int 0, .int 0])), (rr_tape, .inl (k_rr_tape, 700, .inl x_13))]) (w1 := []) hP hD [0, 1] [2, 3, 4] rfl rfl (by decide) (by decide) hk1 hFc hP1 hD1
  generalize H1 = H at hP hS ⊢
  have hP : va_P (dC, dI) vwCl [(xx, .inr (10, [.ref rr, .ref ta, .ref tb, .ref pa, .ref pb, .ref cn, .ref ci, .int 0, .ref cp, .ref ct, .ref hs, .ref rd, .ref wy, .ref ea, .ref eb])), (rr, .inr (4, [.ref rr_tape, .int 20, .int 0, .int (-1), .ref tk, .null, .int 0, .int 0])), (rr_tape, .inl (k_rr_tape, 700, .inl x_13))] H := hP
  have hD : va_D A [(xx, .inr (10, [.ref rr, .ref ta, .ref tb, .ref pa, .ref pb, .ref cn, .ref ci, .int 0, .ref cp, .ref ct, .ref hs, .ref rd, .ref wy, .ref ea, .ref eb])), (rr, .inr (4, [.ref rr_tape, .int 20, .int 0, .int (-1), .ref tk, .null, .int 0, .int 0])), (rr_tape, .inl (k_rr_tape, 700, .inl x_13))] := hD
  clear hPc hDc hKc hFc hP1 hD1 hk1 hz1 ht hvm
  have hw : r_25 = 20 := hw
  subst r_25
  refine lv_icmp_eq (tgt := 1482) hx hb dL_law_252 (by decide) (fun c_26 => ?_) (fun c_26 => absurd c_26 (by decide))
  refine lv_iinc (v := 7) (lv' := [(4, .int 7), (3, .ref oo), (2, .ref mm), (1, .ref xx), (0, .ref b)]) hx hb dL_law_1482 hl (k := 0) rfl (by decide) (by decide) rfl (fun ls hl => ?_)
  refine lv_goto (tgt := 23) hx hb dL_law_1485 (by decide) ?_
  refine lv_iload hx hb dL_law_23 (lv_at hl 0 rfl) ?_
  refine lv_aload_n hx hb dL_law_25 rfl (lv_at hl 4 rfl) ?_
  refine va_slen hx hb hX hbl hbA hS dL_law_26 ?_
  refine lv_topi (fun z_27 ez_27 => ?_)
  obtain rfl : z_27 = 7 := ez_27.trans (by decide)
  refine lv_bipush (v := 7) hx hb dL_law_27 (by decide) ?_
  refine lv_isub hx hb dL_law_29 ?_
  refine lv_topi (fun z_28 ez_28 => ?_)
  obtain rfl : z_28 = 0 := ez_28.trans (by decide)
  refine lv_icmp_gt (tgt := 1488) hx hb dL_law_30 (by decide) (fun c_29 => ?_) (fun c_29 => absurd c_29 (by decide))
  refine lv_iconst (v := 1) hx hb dL_law_1488 (by decide) ?_
  refine va_forget (fun q hq => hAo _ (hS.2.2 q hq)) ?_
  refine W.widen (k := 600002) (n := 7302232) (Nat.le_of_ble_eq_true rfl) (Nat.le_of_ble_eq_true rfl) ?_
  exact lw_ret hx hb hr hlocks dL_law_1489
set_option maxHeartbeats 4000000 in
set_option maxRecDepth 100000 in
theorem law_op_1 {p : Program} {l : Launch} {e : Env} {s : State} {m : MethodId} {below : List Frame} {meth : Method} {c : Code} {dC : Nat → ClassId} {dI : Nat → Nat → Nat} {b : Nat} {xs : Nat → Int32} {A : Nat → Prop} (C0 : lw_At p s m meth c b 7 xs) (hA : ∀ q, s.heap.size ≤ q → A q) (hbA : ¬ A b) (hAo : ∀ q, A q → s.heap.size ≤ q) {xx : Nat} {rr : Nat} {ta : Nat} {tb : Nat} {pa : Nat} {pb : Nat} {cn : Nat} {ci : Nat} {cp : Nat} {ct : Nat} {hs : Nat} {rd : Nat} {wy : Nat} {ea : Nat} {eb : Nat} {rr_tape : Nat} {tk : Nat} {tk_kind : Nat} {tk_place : Nat} {tk_worth : Nat} {tk_language : Nat} {k_tk_kind : ClassId} {k_tk_place : ClassId} {k_tk_worth : ClassId} {tb_name : Nat} {tb_first : Nat} {tb_gain : Nat} {tb_rough : Nat} {tb_custom : Nat} {tb_part : Nat} {tb_whole : Nat} {tb_roundPerson : Nat} {tb_roundClock : Nat} {tb_roundHour : Nat} {tb_gunClock : Nat} {tb_gunHour : Nat} {tbu : Nat} {k_tb_first : ClassId} {k_tb_gain : ClassId} {k_tb_rough : ClassId} {k_tb_custom : ClassId} {k_tb_part : ClassId} {k_tb_whole : ClassId} {tbu_kind : Nat} {tbu_number : Nat} {tbu_from : Nat} {tbu_until : Nat} {tbu_names : Nat} {tbu_stack : Nat} {k_tbu_from : ClassId} {k_tbu_until : ClassId} {pa_first : Nat} {pa_gain : Nat} {pa_custom : Nat} {pa_ruled : Nat} {pa_deedHour : Nat} {pa_deedPerson : Nat} {pa_deedClock : Nat} {k_pa_first : ClassId} {k_pa_gain : ClassId} {k_pa_custom : ClassId} {k_pa_ruled : ClassId} {cn_last : Nat} {cn_passed : Nat} {cn_keptCount : Nat} {cn_off : Nat} {cn_since : Nat} {cn_kept : Nat} {cn_sorted : Nat} {k_cn_off : ClassId} {k_cn_since : ClassId} {k_cn_last : ClassId} {k_cn_passed : ClassId} {k_cn_keptCount : ClassId} {rd_slot : Nat} {rd_hour : Nat} {rd_low : Nat} {rd_high : Nat} {rd_byHour : Nat} {wy_seconds : Nat} {ea_least : Nat} {ea_leastAt : Nat} {ea_most : Nat} {ea_mostAt : Nat} {eb_least : Nat} {eb_leastAt : Nat} {eb_most : Nat} {eb_mostAt : Nat} {mm : Nat} {mm_tape : Nat} {mm_number : Nat} {mm_clockName : Nat} {mm_clockOff : Nat} {mm_clockGain : Nat} {mm_clockRough : Nat} {mm_personName : Nat} {mm_personOff : Nat} {mm_personGain : Nat} {mm_personRough : Nat} {mm_custom : Nat} {mm_customA : Nat} {mm_customB : Nat} {mm_ruleFrom : Nat} {mm_ruleTo : Nat} {mm_roundOf : Nat} {mm_roundAt : Nat} {mm_roundHour : Nat} {mm_gunAt : Nat} {mm_gunHour : Nat} {mm_knotSort : Nat} {mm_knotValue : Nat} {mm_start : Nat} {mm_off : Nat} {mm_last : Nat} {mm_passed : Nat} {mm_kept : Nat} {mm_keptMany : Nat} {mm_history : Nat} {mm_names : Nat} {mm_worked : Nat} {mm_readThing : Nat} {mm_readHour : Nat} {mm_readLow : Nat} {mm_readHigh : Nat} {mm_imageOff : Nat} {mm_imageLast : Nat} {mm_imagePassed : Nat} {mm_imageKept : Nat} {mm_imageMany : Nat} {mm_imageHistory : Nat} {k_mm_number : ClassId} {k_mm_clockName : ClassId} {k_mm_clockOff : ClassId} {k_mm_clockGain : ClassId} {k_mm_clockRough : ClassId} {k_mm_personName : ClassId} {k_mm_personOff : ClassId} {k_mm_personGain : ClassId} {k_mm_personRough : ClassId} {k_mm_custom : ClassId} {k_mm_customA : ClassId} {k_mm_customB : ClassId} {k_mm_ruleFrom : ClassId} {k_mm_ruleTo : ClassId} {k_mm_roundOf : ClassId} {k_mm_roundAt : ClassId} {k_mm_roundHour : ClassId} {k_mm_gunAt : ClassId} {k_mm_gunHour : ClassId} {k_mm_knotSort : ClassId} {k_mm_knotValue : ClassId} {k_mm_off : ClassId} {k_mm_last : ClassId} {k_mm_passed : ClassId} {k_mm_keptMany : ClassId} {oo : Nat} {H : Heap} {locs : List Loc} {ls : Array Slot} (hK : va_K (dC, dI) vwCl [(k_tk_kind, .int), (k_tk_place, .int), (k_tk_worth, .int), (k_tb_first, .int), (k_tb_gain, .int), (k_tb_rough, .int), (k_tb_custom, .int), (k_tb_part, .int), (k_tb_whole, .int), (k_tbu_from, .int), (k_tbu_until, .int), (k_pa_first, .int), (k_pa_gain, .int), (k_pa_custom, .int), (k_pa_ruled, .boolean), (k_cn_off, .int), (k_cn_since, .int), (k_cn_last, .int), (k_cn_passed, .int), (k_cn_keptCount, .int), (k_mm_number, .int), (k_mm_clockName, .int), (k_mm_clockOff, .int), (k_mm_clockGain, .int), (k_mm_clockRough, .int), (k_mm_personName, .int), (k_mm_personOff, .int), (k_mm_personGain, .int), (k_mm_personRough, .int), (k_mm_custom, .int), (k_mm_customA, .int), (k_mm_customB, .int), (k_mm_ruleFrom, .int), (k_mm_ruleTo, .int), (k_mm_roundOf, .int), (k_mm_roundAt, .int), (k_mm_roundHour, .int), (k_mm_gunAt, .int), (k_mm_gunHour, .int), (k_mm_knotSort, .int), (k_mm_knotValue, .int), (k_mm_off, .int), (k_mm_last, .int), (k_mm_passed, .int), (k_mm_keptMany, .int)] s) (hP : va_P (dC, dI) vwCl [(xx, .inr (10, [.ref rr, .ref ta, .ref tb, .ref pa, .ref pb, .ref cn, .ref ci, .int 0, .ref cp, .ref ct, .ref hs, .ref rd, .ref wy, .ref ea, .ref eb])), (rr, .inr (4, [.ref rr_tape, .int 0, .int 0, .int (-1), .ref tk, .null, .int 0, .int 0])), (tk, .inr (7, [.int 0, .ref tk_kind, .ref tk_place, .ref tk_worth, .ref tk_language])), (tk_kind, .inl (k_tk_kind, 701, .inl (fun _ => 0))), (tk_place, .inl (k_tk_place, 701, .inl (fun _ => 0))), (tk_worth, .inl (k_tk_worth, 701, .inl (fun _ => 0))), (tb, .inr (8, [.int 0, .int 0, .int 0, .int 0, .int 0, .ref tb_name, .ref tb_first, .ref tb_gain, .ref tb_rough, .ref tb_custom, .ref tb_part, .ref tb_whole, .ref tb_roundPerson, .ref tb_roundClock, .ref tb_roundHour, .ref tb_gunClock, .ref tb_gunHour, .ref tbu])), (tb_first, .inl (k_tb_first, 10, .inl (fun _ => 0))), (tb_gain, .inl (k_tb_gain, 10, .inl (fun _ => 0))), (tb_rough, .inl (k_tb_rough, 10, .inl (fun _ => 0))), (tb_custom, .inl (k_tb_custom, 5, .inl (fun _ => 0))), (tb_part, .inl (k_tb_part, 5, .inl (fun _ => 0))), (tb_whole, .inl (k_tb_whole, 5, .inl (fun _ => 0))), (tbu, .inr (6, [.int 0, .ref tbu_kind, .ref tbu_number, .ref tbu_from, .ref tbu_until, .ref tbu_names, .ref tbu_stack])), (tbu_from, .inl (k_tbu_from, 5, .inl (fun _ => 0))), (tbu_until, .inl (k_tbu_until, 5, .inl (fun _ => 0))), (pa, .inr (3, [.ref ta, .ref pa_first, .ref pa_gain, .ref pa_custom, .ref pa_ruled, .int 0, .ref pa_deedHour, .ref pa_deedPerson, .ref pa_deedClock])), (pa_first, .inl (k_pa_first, 10, .inl (fun _ => 0))), (pa_gain, .inl (k_pa_gain, 10, .inl (fun _ => 0))), (pa_custom, .inl (k_pa_custom, 5, .inl (fun _ => 0))), (pa_ruled, .inl (k_pa_ruled, 5, .inl (fun _ => 0))), (cn, .inr (0, [.ref pa, .int 0, .int 0, .ref cn_last, .ref cn_passed, .ref cn_keptCount, .int 0, .int 0, .int 0, .int 0, .ref cn_off, .ref cn_since, .ref cn_kept, .ref cn_sorted])), (cn_off, .inl (k_cn_off, 10, .inl (fun _ => 0))), (cn_since, .inl (k_cn_since, 10, .inl (fun _ => 0))), (cn_last, .inl (k_cn_last, 5, .inl (fun _ => 0))), (cn_passed, .inl (k_cn_passed, 5, .inl (fun _ => 0))), (cn_keptCount, .inl (k_cn_keptCount, 5, .inl (fun _ => 0))), (rd, .inr (5, [.int 0, .int (-1), .ref rd_slot, .ref rd_hour, .ref rd_low, .ref rd_high, .ref rd_byHour])), (wy, .inr (9, [.int (-1), .int 0, .ref wy_seconds])), (ea, .inr (1, [.ref ea_least, .ref ea_leastAt, .ref ea_most, .ref ea_mostAt, .int (-1), .int (-1), .int (-1)])), (eb, .inr (1, [.ref eb_least, .ref eb_leastAt, .ref eb_most, .ref eb_mostAt, .int (-1), .int (-1), .int (-1)])), (mm, .inr (11, [.int 0, .ref mm_tape, .int 0, .ref mm_number, .ref mm_clockName, .ref mm_clockOff, .ref mm_clockGain, .ref mm_clockRough, .ref mm_personName, .ref mm_personOff, .ref mm_personGain, .ref mm_personRough, .ref mm_custom, .ref mm_customA, .ref mm_customB, .ref mm_ruleFrom, .ref mm_ruleTo, .ref mm_roundOf, .ref mm_roundAt, .ref mm_roundHour, .ref mm_gunAt, .ref mm_gunHour, .ref mm_knotSort, .ref mm_knotValue, .int 0, .int 0, .int 0, .int 0, .int 0, .int 0, .int 0, .int 0, .int 0, .int (-1), .int 0, .int 0, .int 0, .int 0, .int 0, .int 0, .int 0, .int 0, .int 0, .int 0, .int 0, .int 0, .ref mm_start, .ref mm_off, .ref mm_last, .ref mm_passed, .ref mm_kept, .ref mm_keptMany, .int 0, .int 0, .ref mm_history, .ref mm_names, .ref mm_worked, .int 0, .int 0, .int (-1), .ref mm_readThing, .ref mm_readHour, .ref mm_readLow, .ref mm_readHigh, .int 0, .int 0, .int 0, .ref mm_imageOff, .ref mm_imageLast, .ref mm_imagePassed, .ref mm_imageKept, .ref mm_imageMany, .ref mm_imageHistory])), (mm_number, .inl (k_mm_number, 10, .inl (fun _ => 0))), (mm_clockName, .inl (k_mm_clockName, 10, .inl (fun _ => 0))), (mm_clockOff, .inl (k_mm_clockOff, 10, .inl (fun _ => 0))), (mm_clockGain, .inl (k_mm_clockGain, 10, .inl (fun _ => 0))), (mm_clockRough, .inl (k_mm_clockRough, 10, .inl (fun _ => 0))), (mm_personName, .inl (k_mm_personName, 10, .inl (fun _ => 0))), (mm_personOff, .inl (k_mm_personOff, 10, .inl (fun _ => 0))), (mm_personGain, .inl (k_mm_personGain, 10, .inl (fun _ => 0))), (mm_personRough, .inl (k_mm_personRough, 10, .inl (fun _ => 0))), (mm_custom, .inl (k_mm_custom, 10, .inl (fun _ => 0))), (mm_customA, .inl (k_mm_customA, 10, .inl (fun _ => 0))), (mm_customB, .inl (k_mm_customB, 10, .inl (fun _ => 0))), (mm_ruleFrom, .inl (k_mm_ruleFrom, 10, .inl (fun _ => 0))), (mm_ruleTo, .inl (k_mm_ruleTo, 10, .inl (fun _ => 0))), (mm_roundOf, .inl (k_mm_roundOf, 24, .inl (fun _ => 0))), (mm_roundAt, .inl (k_mm_roundAt, 24, .inl (fun _ => 0))), (mm_roundHour, .inl (k_mm_roundHour, 24, .inl (fun _ => 0))), (mm_gunAt, .inl (k_mm_gunAt, 6, .inl (fun _ => 0))), (mm_gunHour, .inl (k_mm_gunHour, 6, .inl (fun _ => 0))), (mm_knotSort, .inl (k_mm_knotSort, 128, .inl (fun _ => 0))), (mm_knotValue, .inl (k_mm_knotValue, 128, .inl (fun _ => 0))), (mm_off, .inl (k_mm_off, 20, .inl (fun _ => 0))), (mm_last, .inl (k_mm_last, 10, .inl (fun _ => 0))), (mm_passed, .inl (k_mm_passed, 10, .inl (fun _ => 0))), (mm_keptMany, .inl (k_mm_keptMany, 10, .inl (fun _ => 0)))] H) (hD : va_D A [(xx, .inr (10, [.ref rr, .ref ta, .ref tb, .ref pa, .ref pb, .ref cn, .ref ci, .int 0, .ref cp, .ref ct, .ref hs, .ref rd, .ref wy, .ref ea, .ref eb])), (rr, .inr (4, [.ref rr_tape, .int 0, .int 0, .int (-1), .ref tk, .null, .int 0, .int 0])), (tk, .inr (7, [.int 0, .ref tk_kind, .ref tk_place, .ref tk_worth, .ref tk_language])), (tk_kind, .inl (k_tk_kind, 701, .inl (fun _ => 0))), (tk_place, .inl (k_tk_place, 701, .inl (fun _ => 0))), (tk_worth, .inl (k_tk_worth, 701, .inl (fun _ => 0))), (tb, .inr (8, [.int 0, .int 0, .int 0, .int 0, .int 0, .ref tb_name, .ref tb_first, .ref tb_gain, .ref tb_rough, .ref tb_custom, .ref tb_part, .ref tb_whole, .ref tb_roundPerson, .ref tb_roundClock, .ref tb_roundHour, .ref tb_gunClock, .ref tb_gunHour, .ref tbu])), (tb_first, .inl (k_tb_first, 10, .inl (fun _ => 0))), (tb_gain, .inl (k_tb_gain, 10, .inl (fun _ => 0))), (tb_rough, .inl (k_tb_rough, 10, .inl (fun _ => 0))), (tb_custom, .inl (k_tb_custom, 5, .inl (fun _ => 0))), (tb_part, .inl (k_tb_part, 5, .inl (fun _ => 0))), (tb_whole, .inl (k_tb_whole, 5, .inl (fun _ => 0))), (tbu, .inr (6, [.int 0, .ref tbu_kind, .ref tbu_number, .ref tbu_from, .ref tbu_until, .ref tbu_names, .ref tbu_stack])), (tbu_from, .inl (k_tbu_from, 5, .inl (fun _ => 0))), (tbu_until, .inl (k_tbu_until, 5, .inl (fun _ => 0))), (pa, .inr (3, [.ref ta, .ref pa_first, .ref pa_gain, .ref pa_custom, .ref pa_ruled, .int 0, .ref pa_deedHour, .ref pa_deedPerson, .ref pa_deedClock])), (pa_first, .inl (k_pa_first, 10, .inl (fun _ => 0))), (pa_gain, .inl (k_pa_gain, 10, .inl (fun _ => 0))), (pa_custom, .inl (k_pa_custom, 5, .inl (fun _ => 0))), (pa_ruled, .inl (k_pa_ruled, 5, .inl (fun _ => 0))), (cn, .inr (0, [.ref pa, .int 0, .int 0, .ref cn_last, .ref cn_passed, .ref cn_keptCount, .int 0, .int 0, .int 0, .int 0, .ref cn_off, .ref cn_since, .ref cn_kept, .ref cn_sorted])), (cn_off, .inl (k_cn_off, 10, .inl (fun _ => 0))), (cn_since, .inl (k_cn_since, 10, .inl (fun _ => 0))), (cn_last, .inl (k_cn_last, 5, .inl (fun _ => 0))), (cn_passed, .inl (k_cn_passed, 5, .inl (fun _ => 0))), (cn_keptCount, .inl (k_cn_keptCount, 5, .inl (fun _ => 0))), (rd, .inr (5, [.int 0, .int (-1), .ref rd_slot, .ref rd_hour, .ref rd_low, .ref rd_high, .ref rd_byHour])), (wy, .inr (9, [.int (-1), .int 0, .ref wy_seconds])), (ea, .inr (1, [.ref ea_least, .ref ea_leastAt, .ref ea_most, .ref ea_mostAt, .int (-1), .int (-1), .int (-1)])), (eb, .inr (1, [.ref eb_least, .ref eb_leastAt, .ref eb_most, .ref eb_mostAt, .int (-1), .int (-1), .int (-1)])), (mm, .inr (11, [.int 0, .ref mm_tape, .int 0, .ref mm_number, .ref mm_clockName, .ref mm_clockOff, .ref mm_clockGain, .ref mm_clockRough, .ref mm_personName, .ref mm_personOff, .ref mm_personGain, .ref mm_personRough, .ref mm_custom, .ref mm_customA, .ref mm_customB, .ref mm_ruleFrom, .ref mm_ruleTo, .ref mm_roundOf, .ref mm_roundAt, .ref mm_roundHour, .ref mm_gunAt, .ref mm_gunHour, .ref mm_knotSort, .ref mm_knotValue, .int 0, .int 0, .int 0, .int 0, .int 0, .int 0, .int 0, .int 0, .int 0, .int (-1), .int 0, .int 0, .int 0, .int 0, .int 0, .int 0, .int 0, .int 0, .int 0, .int 0, .int 0, .int 0, .ref mm_start, .ref mm_off, .ref mm_last, .ref mm_passed, .ref mm_kept, .ref mm_keptMany, .int 0, .int 0, .ref mm_history, .ref mm_names, .ref mm_worked, .int 0, .int 0, .int (-1), .ref mm_readThing, .ref mm_readHour, .ref mm_readLow, .ref mm_readHigh, .int 0, .int 0, .int 0, .ref mm_imageOff, .ref mm_imageLast, .ref mm_imagePassed, .ref mm_imageKept, .ref mm_imageMany, .ref mm_imageHistory])), (mm_number, .inl (k_mm_number, 10, .inl (fun _ => 0))), (mm_clockName, .inl (k_mm_clockName, 10, .inl (fun _ => 0))), (mm_clockOff, .inl (k_mm_clockOff, 10, .inl (fun _ => 0))), (mm_clockGain, .inl (k_mm_clockGain, 10, .inl (fun _ => 0))), (mm_clockRough, .inl (k_mm_clockRough, 10, .inl (fun _ => 0))), (mm_personName, .inl (k_mm_personName, 10, .inl (fun _ => 0))), (mm_personOff, .inl (k_mm_personOff, 10, .inl (fun _ => 0))), (mm_personGain, .inl (k_mm_personGain, 10, .inl (fun _ => 0))), (mm_personRough, .inl (k_mm_personRough, 10, .inl (fun _ => 0))), (mm_custom, .inl (k_mm_custom, 10, .inl (fun _ => 0))), (mm_customA, .inl (k_mm_customA, 10, .inl (fun _ => 0))), (mm_customB, .inl (k_mm_customB, 10, .inl (fun _ => 0))), (mm_ruleFrom, .inl (k_mm_ruleFrom, 10, .inl (fun _ => 0))), (mm_ruleTo, .inl (k_mm_ruleTo, 10, .inl (fun _ => 0))), (mm_roundOf, .inl (k_mm_roundOf, 24, .inl (fun _ => 0))), (mm_roundAt, .inl (k_mm_roundAt, 24, .inl (fun _ => 0))), (mm_roundHour, .inl (k_mm_roundHour, 24, .inl (fun _ => 0))), (mm_gunAt, .inl (k_mm_gunAt, 6, .inl (fun _ => 0))), (mm_gunHour, .inl (k_mm_gunHour, 6, .inl (fun _ => 0))), (mm_knotSort, .inl (k_mm_knotSort, 128, .inl (fun _ => 0))), (mm_knotValue, .inl (k_mm_knotValue, 128, .inl (fun _ => 0))), (mm_off, .inl (k_mm_off, 20, .inl (fun _ => 0))), (mm_last, .inl (k_mm_last, 10, .inl (fun _ => 0))), (mm_passed, .inl (k_mm_passed, 10, .inl (fun _ => 0))), (mm_keptMany, .inl (k_mm_keptMany, 10, .inl (fun _ => 0)))]) (hS : va_S A s.heap H locs) (hl : lv_has ls 7 [(4, .int 0), (3, .ref oo), (2, .ref mm), (1, .ref xx), (0, .ref b)]) : W p l e room_1 s m #[Value.ref b] below meth c H locs 160 67979 (lw_Z below #[Value.ref b] s) (F0 m 257 ls []) := by
  obtain ⟨hx, hb, hr, hml, hown, hts, hX, hbl, hlocks, hgv⟩ := C0
  have hT : ∀ w ∈ pw_T, w.before #[Value.ref b] s = true := fun w h => hts w (List.mem_filter.mp h).1
  have hown : s.vm.findClass RL = some m.cls := hown
  refine lv_aload_n hx hb dL_law_257 rfl (lv_at hl 3 rfl) ?_
  refine lv_aload_n hx hb dL_law_258 rfl (lv_at hl 4 rfl) ?_
  refine lv_iload hx hb dL_law_259 (lv_at hl 0 rfl) ?_
  refine lv_iconst (v := 1) hx hb dL_law_261 (by decide) ?_
  refine lv_iadd hx hb dL_law_262 ?_
  refine lv_topi (fun z_1 ez_1 => ?_)
  obtain rfl : z_1 = 1 := ez_1.trans (by decide)
  refine va_sld hx hb hX hbl hbA hS (pk_in 1 7 (by decide) (by decide) (by decide)) dL_law_263 ?_
  refine lv_topi (fun z_2 ez_2 => ?_)
  replace ez_2 : z_2 = xs 1 := ez_2
  subst z_2
  have hPc := hP.sub (ws' := [(xx, .inr (10, [.ref rr, .ref ta, .ref tb, .ref pa, .ref pb, .ref cn, .ref ci, .int 0, .ref cp, .ref ct, .ref hs, .ref rd, .ref wy, .ref ea, .ref eb])), (rr, .inr (4, [.ref rr_tape, .int 0, .int 0, .int (-1), .ref tk, .null, .int 0, .int 0])), (tk, .inr (7, [.int 0, .ref tk_kind, .ref tk_place, .ref tk_worth, .ref tk_language])), (tk_kind, .inl (k_tk_kind, 701, .inl (fun _ => 0))), (tk_place, .inl (k_tk_place, 701, .inl (fun _ => 0))), (tk_worth, .inl (k_tk_worth, 701, .inl (fun _ => 0))), (tb, .inr (8, [.int 0, .int 0, .int 0, .int 0, .int 0, .ref tb_name, .ref tb_first, .ref tb_gain, .ref tb_rough, .ref tb_custom, .ref tb_part, .ref tb_whole, .ref tb_roundPerson, .ref tb_roundClock, .ref tb_roundHour, .ref tb_gunClock, .ref tb_gunHour, .ref tbu])), (tb_first, .inl (k_tb_first, 10, .inl (fun _ => 0))), (tb_gain, .inl (k_tb_gain, 10, .inl (fun _ => 0))), (tb_rough, .inl (k_tb_rough, 10, .inl (fun _ => 0))), (tb_custom, .inl (k_tb_custom, 5, .inl (fun _ => 0))), (tb_part, .inl (k_tb_part, 5, .inl (fun _ => 0))), (tb_whole, .inl (k_tb_whole, 5, .inl (fun _ => 0))), (tbu, .inr (6, [.int 0, .ref tbu_kind, .ref tbu_number, .ref tbu_from, .ref tbu_until, .ref tbu_names, .ref tbu_stack])), (tbu_from, .inl (k_tbu_from, 5, .inl (fun _ => 0))), (tbu_until, .inl (k_tbu_until, 5, .inl (fun _ => 0))), (pa, .inr (3, [.ref ta, .ref pa_first, .ref pa_gain, .ref pa_custom, .ref pa_ruled, .int 0, .ref pa_deedHour, .ref pa_deedPerson, .ref pa_deedClock])), (pa_first, .inl (k_pa_first, 10, .inl (fun _ => 0))), (pa_gain, .inl (k_pa_gain, 10, .inl (fun _ => 0))), (pa_custom, .inl (k_pa_custom, 5, .inl (fun _ => 0))), (pa_ruled, .inl (k_pa_ruled, 5, .inl (fun _ => 0))), (cn, .inr (0, [.ref pa, .int 0, .int 0, .ref cn_last, .ref cn_passed, .ref cn_keptCount, .int 0, .int 0, .int 0, .int 0, .ref cn_off, .ref cn_since, .ref cn_kept, .ref cn_sorted])), (cn_off, .inl (k_cn_off, 10, .inl (fun _ => 0))), (cn_since, .inl (k_cn_since, 10, .inl (fun _ => 0))), (cn_last, .inl (k_cn_last, 5, .inl (fun _ => 0))), (cn_passed, .inl (k_cn_passed, 5, .inl (fun _ => 0))), (cn_keptCount, .inl (k_cn_keptCount, 5, .inl (fun _ => 0))), (rd, .inr (5, [.int 0, .int (-1), .ref rd_slot, .ref rd_hour, .ref rd_low, .ref rd_high, .ref rd_byHour])), (wy, .inr (9, [.int (-1), .int 0, .ref wy_seconds])), (ea, .inr (1, [.ref ea_least, .ref ea_leastAt, .ref ea_most, .ref ea_mostAt, .int (-1), .int (-1), .int (-1)])), (eb, .inr (1, [.ref eb_least, .ref eb_leastAt, .ref eb_most, .ref eb_mostAt, .int (-1), .int (-1), .int (-1)]))]) [0, 1, 2, 3, 4, 5, 6, 7, 8, 9, 10, 11, 12, 13, 14, 15, 16, 17, 18, 19, 20, 21, 22, 23, 24, 25, 26, 27, 28, 29, 30] rfl
  have hDc := hD.sub (ws' := [(xx, .inr (10, [.ref rr, .ref ta, .ref tb, .ref pa, .ref pb, .ref cn, .ref ci, .int 0, .ref cp, .ref ct, .ref hs, .ref rd, .ref wy, .ref ea, .ref eb])), (rr, .inr (4, [.ref rr_tape, .int 0, .int 0, .int (-1), .ref tk, .null, .int 0, .int 0])), (tk, .inr (7, [.int 0, .ref tk_kind, .ref tk_place, .ref tk_worth, .ref tk_language])), (tk_kind, .inl (k_tk_kind, 701, .inl (fun _ => 0))), (tk_place, .inl (k_tk_place, 701, .inl (fun _ => 0))), (tk_worth, .inl (k_tk_worth, 701, .inl (fun _ => 0))), (tb, .inr (8, [.int 0, .int 0, .int 0, .int 0, .int 0, .ref tb_name, .ref tb_first, .ref tb_gain, .ref tb_rough, .ref tb_custom, .ref tb_part, .ref tb_whole, .ref tb_roundPerson, .ref tb_roundClock, .ref tb_roundHour, .ref tb_gunClock, .ref tb_gunHour, .ref tbu])), (tb_first, .inl (k_tb_first, 10, .inl (fun _ => 0))), (tb_gain, .inl (k_tb_gain, 10, .inl (fun _ => 0))), (tb_rough, .inl (k_tb_rough, 10, .inl (fun _ => 0))), (tb_custom, .inl (k_tb_custom, 5, .inl (fun _ => 0))), (tb_part, .inl (k_tb_part, 5, .inl (fun _ => 0))), (tb_whole, .inl (k_tb_whole, 5, .inl (fun _ => 0))), (tbu, .inr (6, [.int 0, .ref tbu_kind, .ref tbu_number, .ref tbu_from, .ref tbu_until, .ref tbu_names, .ref tbu_stack])), (tbu_from, .inl (k_tbu_from, 5, .inl (fun _ => 0))), (tbu_until, .inl (k_tbu_until, 5, .inl (fun _ => 0))), (pa, .inr (3, [.ref ta, .ref pa_first, .ref pa_gain, .ref pa_custom, .ref pa_ruled, .int 0, .ref pa_deedHour, .ref pa_deedPerson, .ref pa_deedClock])), (pa_first, .inl (k_pa_first, 10, .inl (fun _ => 0))), (pa_gain, .inl (k_pa_gain, 10, .inl (fun _ => 0))), (pa_custom, .inl (k_pa_custom, 5, .inl (fun _ => 0))), (pa_ruled, .inl (k_pa_ruled, 5, .inl (fun _ => 0))), (cn, .inr (0, [.ref pa, .int 0, .int 0, .ref cn_last, .ref cn_passed, .ref cn_keptCount, .int 0, .int 0, .int 0, .int 0, .ref cn_off, .ref cn_since, .ref cn_kept, .ref cn_sorted])), (cn_off, .inl (k_cn_off, 10, .inl (fun _ => 0))), (cn_since, .inl (k_cn_since, 10, .inl (fun _ => 0))), (cn_last, .inl (k_cn_last, 5, .inl (fun _ => 0))), (cn_passed, .inl (k_cn_passed, 5, .inl (fun _ => 0))), (cn_keptCount, .inl (k_cn_keptCount, 5, .inl (fun _ => 0))), (rd, .inr (5, [.int 0, .int (-1), .ref rd_slot, .ref rd_hour, .ref rd_low, .ref rd_high, .ref rd_byHour])), (wy, .inr (9, [.int (-1), .int 0, .ref wy_seconds])), (ea, .inr (1, [.ref ea_least, .ref ea_leastAt, .ref ea_most, .ref ea_mostAt, .int (-1), .int (-1), .int (-1)])), (eb, .inr (1, [.ref eb_least, .ref eb_leastAt, .ref eb_most, .ref eb_mostAt, .int (-1), .int (-1), .int (-1)]))]) [0, 1, 2, 3, 4, 5, 6, 7, 8, 9, 10, 11, 12, 13, 14, 15, 16, 17, 18, 19, 20, 21, 22, 23, 24, 25, 26, 27, 28, 29, 30] (by decide) rfl
  have hKc := hK.sub (tys' := [(k_tk_kind, .int), (k_tk_place, .int), (k_tk_worth, .int), (k_tb_first, .int), (k_tb_gain, .int), (k_tb_rough, .int), (k_tb_custom, .int), (k_tb_part, .int), (k_tb_whole, .int), (k_tbu_from, .int), (k_tbu_until, .int), (k_pa_first, .int), (k_pa_gain, .int), (k_pa_custom, .int), (k_pa_ruled, .boolean), (k_cn_off, .int), (k_cn_since, .int), (k_cn_last, .int), (k_cn_passed, .int), (k_cn_keptCount, .int)]) [0, 1, 2, 3, 4, 5, 6, 7, 8, 9, 10, 11, 12, 13, 14, 15, 16, 17, 18, 19] rfl
  have hFc := va_free (wc := [(xx, .inr (10, [.ref rr, .ref ta, .ref tb, .ref pa, .ref pb, .ref cn, .ref ci, .int 0, .ref cp, .ref ct, .ref hs, .ref rd, .ref wy, .ref ea, .ref eb])), (rr, .inr (4, [.ref rr_tape, .int 0, .int 0, .int (-1), .ref tk, .null, .int 0, .int 0])), (tk, .inr (7, [.int 0, .ref tk_kind, .ref tk_place, .ref tk_worth, .ref tk_language])), (tk_kind, .inl (k_tk_kind, 701, .inl (fun _ => 0))), (tk_place, .inl (k_tk_place, 701, .inl (fun _ => 0))), (tk_worth, .inl (k_tk_worth, 701, .inl (fun _ => 0))), (tb, .inr (8, [.int 0, .int 0, .int 0, .int 0, .int 0, .ref tb_name, .ref tb_first, .ref tb_gain, .ref tb_rough, .ref tb_custom, .ref tb_part, .ref tb_whole, .ref tb_roundPerson, .ref tb_roundClock, .ref tb_roundHour, .ref tb_gunClock, .ref tb_gunHour, .ref tbu])), (tb_first, .inl (k_tb_first, 10, .inl (fun _ => 0))), (tb_gain, .inl (k_tb_gain, 10, .inl (fun _ => 0))), (tb_rough, .inl (k_tb_rough, 10, .inl (fun _ => 0))), (tb_custom, .inl (k_tb_custom, 5, .inl (fun _ => 0))), (tb_part, .inl (k_tb_part, 5, .inl (fun _ => 0))), (tb_whole, .inl (k_tb_whole, 5, .inl (fun _ => 0))), (tbu, .inr (6, [.int 0, .ref tbu_kind, .ref tbu_number, .ref tbu_from, .ref tbu_until, .ref tbu_names, .ref tbu_stack])), (tbu_from, .inl (k_tbu_from, 5, .inl (fun _ => 0))), (tbu_until, .inl (k_tbu_until, 5, .inl (fun _ => 0))), (pa, .inr (3, [.ref ta, .ref pa_first, .ref pa_gain, .ref pa_custom, .ref pa_ruled, .int 0, .ref pa_deedHour, .ref pa_deedPerson, .ref pa_deedClock])), (pa_first, .inl (k_pa_first, 10, .inl (fun _ => 0))), (pa_gain, .inl (k_pa_gain, 10, .inl (fun _ => 0))), (pa_custom, .inl (k_pa_custom, 5, .inl (fun _ => 0))), (pa_ruled, .inl (k_pa_ruled, 5, .inl (fun _ => 0))), (cn, .inr (0, [.ref pa, .int 0, .int 0, .ref cn_last, .ref cn_passed, .ref cn_keptCount, .int 0, .int 0, .int 0, .int 0, .ref cn_off, .ref cn_since, .ref cn_kept, .ref cn_sorted])), (cn_off, .inl (k_cn_off, 10, .inl (fun _ => 0))), (cn_since, .inl (k_cn_since, 10, .inl (fun _ => 0))), (cn_last, .inl (k_cn_last, 5, .inl (fun _ => 0))), (cn_passed, .inl (k_cn_passed, 5, .inl (fun _ => 0))), (cn_keptCount, .inl (k_cn_keptCount, 5, .inl (fun _ => 0))), (rd, .inr (5, [.int 0, .int (-1), .ref rd_slot, .ref rd_hour, .ref rd_low, .ref rd_high, .ref rd_byHour])), (wy, .inr (9, [.int (-1), .int 0, .ref wy_seconds])), (ea, .inr (1, [.ref ea_least, .ref ea_leastAt, .ref ea_most, .ref ea_mostAt, .int (-1), .int (-1), .int (-1)])), (eb, .inr (1, [.ref eb_least, .ref eb_leastAt, .ref eb_most, .ref eb_mostAt, .int (-1), .int (-1), .int (-1)]))]) hD hS hA [0, 1, 2, 3, 4, 5, 6, 7, 8, 9, 10, 11, 12, 13, 14, 15, 16, 17, 18, 19, 20, 21, 22, 23, 24, 25, 26, 27, 28, 29, 30] rfl
  have := (by decide : (0 : Int32).toInt = 0)
  have := (by decide : (0 : Int32).toInt = 0)
  have := (by decide : ((-1) : Int32).toInt = -1)
  have := (by decide : (0 : Int32).toInt = 0)
  have := (by decide : (0 : Int32).toInt = 0)
  have := (by decide : (0 : Int32).toInt = 0)
  have := (by decide : (0 : Int32).toInt = 0)
  have := (by decide : (0 : Int32).toInt = 0)
  have := (by decide : (0 : Int32).toInt = 0)
  have := (by decide : (0 : Int32).toInt = 0)
  have := (by decide : (0 : Int32).toInt = 0)
  have := (by decide : (0 : Int32).toInt = 0)
  have := (by decide : (0 : Int32).toInt = 0)
  have := (by decide : (0 : Int32).toInt = 0)
  have := (by decide : (0 : Int32).toInt = 0)
  have := (by decide : (0 : Int32).toInt = 0)
  have := (by decide : (0 : Int32).toInt = 0)
  have := (by decide : (0 : Int32).toInt = 0)
  have := (by decide : (0 : Int32).toInt = 0)
  have := (by decide : (0 : Int32).toInt = 0)
  have := (by decide : ((-1) : Int32).toInt = -1)
  have := (by decide : ((-1) : Int32).toInt = -1)
  have := (by decide : (0 : Int32).toInt = 0)
  have := (by decide : ((-1) : Int32).toInt = -1)
  have := (by decide : ((-1) : Int32).toInt = -1)
  have := (by decide : ((-1) : Int32).toInt = -1)
  have := (by decide : ((-1) : Int32).toInt = -1)
  have := (by decide : ((-1) : Int32).toInt = -1)
  have := (by decide : ((-1) : Int32).toInt = -1)
  refine va_calli (va_runV (As := [.int (xs 1)]) (rest := []) ⟨hx, hb, hml, hown, hT⟩ (c_X10_text l dC dI H.size xx (xs 1) rr ta tb pa pb cn ci (0 : Int32) cp ct hs rd wy ea eb rr_tape (0 : Int32) ((-1) : Int32) tk (0 : Int32) (0 : Int32) (0 : Int32) tk_kind tk_place tk_worth tk_language k_tk_kind (fun _ => 0) k_tk_place (fun _ => 0) k_tk_worth (fun _ => 0) (0 : Int32) (0 : Int32) (0 : Int32) (0 : Int32) (0 : Int32) tb_name tb_first tb_gain tb_rough tb_custom tb_part tb_whole tb_roundPerson tb_roundClock tb_roundHour tb_gunClock tb_gunHour tbu k_tb_first (fun _ => 0) k_tb_gain (fun _ => 0) k_tb_rough (fun _ => 0) k_tb_custom (fun _ => 0) k_tb_part (fun _ => 0) k_tb_whole (fun _ => 0) (0 : Int32) tbu_kind tbu_number tbu_from tbu_until tbu_names tbu_stack k_tbu_from (fun _ => 0) k_tbu_until (fun _ => 0) ta pa_first pa_gain pa_custom pa_ruled (0 : Int32) pa_deedHour pa_deedPerson pa_deedClock k_pa_first (fun _ => 0) k_pa_gain (fun _ => 0) k_pa_custom (fun _ => 0) k_pa_ruled (fun _ => 0) pa (0 : Int32) (0 : Int32) cn_last cn_passed cn_keptCount (0 : Int32) (0 : Int32) (0 : Int32) (0 : Int32) cn_off cn_since cn_kept cn_sorted k_cn_off (fun _ => 0) k_cn_since (fun _ => 0) k_cn_last (fun _ => 0) k_cn_passed (fun _ => 0) k_cn_keptCount (fun _ => 0) (0 : Int32) ((-1) : Int32) rd_slot rd_hour rd_low rd_high rd_byHour ((-1) : Int32) (0 : Int32) wy_seconds ea_least ea_leastAt ea_most ea_mostAt ((-1) : Int32) ((-1) : Int32) ((-1) : Int32) eb_least eb_leastAt eb_most eb_mostAt ((-1) : Int32) ((-1) : Int32) ((-1) : Int32) (fun _ => rfl)) (cwV 1 hT (gwV mw_3_67 mw_3_68 mw_3_69 mw_1_1 mw_3_70) rfl rfl rfl (by decide +kernel) ⟨Nat.le_of_ble_eq_true rfl, Nat.le_of_ble_eq_true rfl⟩) ⟨fun a U g mk q => by obtain ⟨q0, q1, qP, qK, qD⟩ := q; exact ⟨q0, q1, qP, va_K.moved (u := U) (U := U.calling g mk a) (Vm.Alike.refl U.vm) qK, qD⟩, va_recv hK hP (ci := 10) (q0 := 0) rfl rfl, fun U hU hW => ⟨rfl, by rw [hU], by rw [hU]; exact hPc, va_K.moved hW.alike hKc, hDc.weaken (fun _ _ _ _ => trivial)⟩⟩ rfl rfl hl.1 rfl (lv_room (Nat.le_of_ble_eq_true rfl)) dL_law_264 ⟨Nat.le_of_ble_eq_true rfl, Nat.le_of_ble_eq_true rfl⟩) hS (fun q _ h => hFc q h) hFc (fun r_4 u t H1 locs ht hvm hw hB hz1 hk1 hS => ?_)
  obtain ⟨hP1, hD1⟩ := hB
  rw [ht] at hP1
  obtain ⟨hP, hD⟩ := va_join (wr := [(mm, .inr (11, [.int 0, .ref mm_tape, .int 0, .ref mm_number, .ref mm_clockName, .ref mm_clockOff, .ref mm_clockGain, .ref mm_clockRough, .ref mm_personName, .ref mm_personOff, .ref mm_personGain, .ref mm_personRough, .ref mm_custom, .ref mm_customA, .ref mm_customB, .ref mm_ruleFrom, .ref mm_ruleTo, .ref mm_roundOf, .ref mm_roundAt, .ref mm_roundHour, .ref mm_gunAt, .ref mm_gunHour, .ref mm_knotSort, .ref mm_knotValue, .int 0, .int 0, .int 0, .int 0, .int 0, .int 0, .int 0, .int 0, .int 0, .int (-1), .int 0, .int 0, .int 0, .int 0, .int 0, .int 0, .int 0, .int 0, .int 0, .int 0, .int 0, .int 0, .ref mm_start, .ref mm_off, .ref mm_last, .ref mm_passed, .ref mm_kept, .ref mm_keptMany, .int 0, .int 0, .ref mm_history, .ref mm_names, .ref mm_worked, .int 0, .int 0, .int (-1), .ref mm_readThing, .ref mm_readHour, .ref mm_readLow, .ref mm_readHigh, .int 0, .int 0, .int 0, .ref mm_imageOff, .ref mm_imageLast, .ref mm_imagePassed, .ref mm_imageKept, .ref mm_imageMany, .ref mm_imageHistory])), (mm_number, .inl (k_mm_number, 10, .inl (fun _ => 0))), (mm_clockName, .inl (k_mm_clockName, 10, .inl (fun _ => 0))), (mm_clockOff, .inl (k_mm_clockOff, 10, .inl (fun _ => 0))), (mm_clockGain, .inl (k_mm_clockGain, 10, .inl (fun _ => 0))), (mm_clockRough, .inl (k_mm_clockRough, 10, .inl (fun _ => 0))), (mm_personName, .inl (k_mm_personName, 10, .inl (fun _ => 0))), (mm_personOff, .inl (k_mm_personOff, 10, .inl (fun _ => 0))), (mm_personGain, .inl (k_mm_personGain, 10, .inl (fun _ => 0))), (mm_personRough, .inl (k_mm_personRough, 10, .inl (fun _ => 0))), (mm_custom, .inl (k_mm_custom, 10, .inl (fun _ => 0))), (mm_customA, .inl (k_mm_customA, 10, .inl (fun _ => 0))), (mm_customB, .inl (k_mm_customB, 10, .inl (fun _ => 0))), (mm_ruleFrom, .inl (k_mm_ruleFrom, 10, .inl (fun _ => 0))), (mm_ruleTo, .inl (k_mm_ruleTo, 10, .inl (fun _ => 0))), (mm_roundOf, .inl (k_mm_roundOf, 24, .inl (fun _ => 0))), (mm_roundAt, .inl (k_mm_roundAt, 24, .inl (fun _ => 0))), (mm_roundHour, .inl (k_mm_roundHour, 24, .inl (fun _ => 0))), (mm_gunAt, .inl (k_mm_gunAt, 6, .inl (fun _ => 0))), (mm_gunHour, .inl (k_mm_gunHour, 6, .inl (fun _ => 0))), (mm_knotSort, .inl (k_mm_knotSort, 128, .inl (fun _ => 0))), (mm_knotValue, .inl (k_mm_knotValue, 128, .inl (fun _ => 0))), (mm_off, .inl (k_mm_off, 20, .inl (fun _ => 0))), (mm_last, .inl (k_mm_last, 10, .inl (fun _ => 0))), (mm_passed, .inl (k_mm_passed, 10, .inl (fun _ => 0))), (mm_keptMany, .inl (k_mm_keptMany, 10, .inl (fun _ => 0)))]) (w1 := []) hP hD [0, 1, 2, 3, 4, 5, 6, 7, 8, 9, 10, 11, 12, 13, 14, 15, 16, 17, 18, 19, 20, 21, 22, 23, 24, 25, 26, 27, 28, 29, 30] [31, 32, 33, 34, 35, 36, 37, 38, 39, 40, 41, 42, 43, 44, 45, 46, 47, 48, 49, 50, 51, 52, 53, 54, 55, 56] rfl rfl (by decide) (by decide) hk1 hFc hP1 hD1
  generalize H1 = H at hP hS ⊢
  have hP : va_P (dC, dI) vwCl [(mm, .inr (11, [.int 0, .ref mm_tape, .int 0, .ref mm_number, .ref mm_clockName, .ref mm_clockOff, .ref mm_clockGain, .ref mm_clockRough, .ref mm_personName, .ref mm_personOff, .ref mm_personGain, .ref mm_personRough, .ref mm_custom, .ref mm_customA, .ref mm_customB, .ref mm_ruleFrom, .ref mm_ruleTo, .ref mm_roundOf, .ref mm_roundAt, .ref mm_roundHour, .ref mm_gunAt, .ref mm_gunHour, .ref mm_knotSort, .ref mm_knotValue, .int 0, .int 0, .int 0, .int 0, .int 0, .int 0, .int 0, .int 0, .int 0, .int (-1), .int 0, .int 0, .int 0, .int 0, .int 0, .int 0, .int 0, .int 0, .int 0, .int 0, .int 0, .int 0, .ref mm_start, .ref mm_off, .ref mm_last, .ref mm_passed, .ref mm_kept, .ref mm_keptMany, .int 0, .int 0, .ref mm_history, .ref mm_names, .ref mm_worked, .int 0, .int 0, .int (-1), .ref mm_readThing, .ref mm_readHour, .ref mm_readLow, .ref mm_readHigh, .int 0, .int 0, .int 0, .ref mm_imageOff, .ref mm_imageLast, .ref mm_imagePassed, .ref mm_imageKept, .ref mm_imageMany, .ref mm_imageHistory])), (mm_number, .inl (k_mm_number, 10, .inl (fun _ => 0))), (mm_clockName, .inl (k_mm_clockName, 10, .inl (fun _ => 0))), (mm_clockOff, .inl (k_mm_clockOff, 10, .inl (fun _ => 0))), (mm_clockGain, .inl (k_mm_clockGain, 10, .inl (fun _ => 0))), (mm_clockRough, .inl (k_mm_clockRough, 10, .inl (fun _ => 0))), (mm_personName, .inl (k_mm_personName, 10, .inl (fun _ => 0))), (mm_personOff, .inl (k_mm_personOff, 10, .inl (fun _ => 0))), (mm_personGain, .inl (k_mm_personGain, 10, .inl (fun _ => 0))), (mm_personRough, .inl (k_mm_personRough, 10, .inl (fun _ => 0))), (mm_custom, .inl (k_mm_custom, 10, .inl (fun _ => 0))), (mm_customA, .inl (k_mm_customA, 10, .inl (fun _ => 0))), (mm_customB, .inl (k_mm_customB, 10, .inl (fun _ => 0))), (mm_ruleFrom, .inl (k_mm_ruleFrom, 10, .inl (fun _ => 0))), (mm_ruleTo, .inl (k_mm_ruleTo, 10, .inl (fun _ => 0))), (mm_roundOf, .inl (k_mm_roundOf, 24, .inl (fun _ => 0))), (mm_roundAt, .inl (k_mm_roundAt, 24, .inl (fun _ => 0))), (mm_roundHour, .inl (k_mm_roundHour, 24, .inl (fun _ => 0))), (mm_gunAt, .inl (k_mm_gunAt, 6, .inl (fun _ => 0))), (mm_gunHour, .inl (k_mm_gunHour, 6, .inl (fun _ => 0))), (mm_knotSort, .inl (k_mm_knotSort, 128, .inl (fun _ => 0))), (mm_knotValue, .inl (k_mm_knotValue, 128, .inl (fun _ => 0))), (mm_off, .inl (k_mm_off, 20, .inl (fun _ => 0))), (mm_last, .inl (k_mm_last, 10, .inl (fun _ => 0))), (mm_passed, .inl (k_mm_passed, 10, .inl (fun _ => 0))), (mm_keptMany, .inl (k_mm_keptMany, 10, .inl (fun _ => 0)))] H := hP
  have hD : va_D A [(mm, .inr (11, [.int 0, .ref mm_tape, .int 0, .ref mm_number, .ref mm_clockName, .ref mm_clockOff, .ref mm_clockGain, .ref mm_clockRough, .ref mm_personName, .ref mm_personOff, .ref mm_personGain, .ref mm_personRough, .ref mm_custom, .ref mm_customA, .ref mm_customB, .ref mm_ruleFrom, .ref mm_ruleTo, .ref mm_roundOf, .ref mm_roundAt, .ref mm_roundHour, .ref mm_gunAt, .ref mm_gunHour, .ref mm_knotSort, .ref mm_knotValue, .int 0, .int 0, .int 0, .int 0, .int 0, .int 0, .int 0, .int 0, .int 0, .int (-1), .int 0, .int 0, .int 0, .int 0, .int 0, .int 0, .int 0, .int 0, .int 0, .int 0, .int 0, .int 0, .ref mm_start, .ref mm_off, .ref mm_last, .ref mm_passed, .ref mm_kept, .ref mm_keptMany, .int 0, .int 0, .ref mm_history, .ref mm_names, .ref mm_worked, .int 0, .int 0, .int (-1), .ref mm_readThing, .ref mm_readHour, .ref mm_readLow, .ref mm_readHigh, .int 0, .int 0, .int 0, .ref mm_imageOff, .ref mm_imageLast, .ref mm_imagePassed, .ref mm_imageKept, .ref mm_imageMany, .ref mm_imageHistory])), (mm_number, .inl (k_mm_number, 10, .inl (fun _ => 0))), (mm_clockName, .inl (k_mm_clockName, 10, .inl (fun _ => 0))), (mm_clockOff, .inl (k_mm_clockOff, 10, .inl (fun _ => 0))), (mm_clockGain, .inl (k_mm_clockGain, 10, .inl (fun _ => 0))), (mm_clockRough, .inl (k_mm_clockRough, 10, .inl (fun _ => 0))), (mm_personName, .inl (k_mm_personName, 10, .inl (fun _ => 0))), (mm_personOff, .inl (k_mm_personOff, 10, .inl (fun _ => 0))), (mm_personGain, .inl (k_mm_personGain, 10, .inl (fun _ => 0))), (mm_personRough, .inl (k_mm_personRough, 10, .inl (fun _ => 0))), (mm_custom, .inl (k_mm_custom, 10, .inl (fun _ => 0))), (mm_customA, .inl (k_mm_customA, 10, .inl (fun _ => 0))), (mm_customB, .inl (k_mm_customB, 10, .inl (fun _ => 0))), (mm_ruleFrom, .inl (k_mm_ruleFrom, 10, .inl (fun _ => 0))), (mm_ruleTo, .inl (k_mm_ruleTo, 10, .inl (fun _ => 0))), (mm_roundOf, .inl (k_mm_roundOf, 24, .inl (fun _ => 0))), (mm_roundAt, .inl (k_mm_roundAt, 24, .inl (fun _ => 0))), (mm_roundHour, .inl (k_mm_roundHour, 24, .inl (fun _ => 0))), (mm_gunAt, .inl (k_mm_gunAt, 6, .inl (fun _ => 0))), (mm_gunHour, .inl (k_mm_gunHour, 6, .inl (fun _ => 0))), (mm_knotSort, .inl (k_mm_knotSort, 128, .inl (fun _ => 0))), (mm_knotValue, .inl (k_mm_knotValue, 128, .inl (fun _ => 0))), (mm_off, .inl (k_mm_off, 20, .inl (fun _ => 0))), (mm_last, .inl (k_mm_last, 10, .inl (fun _ => 0))), (mm_passed, .inl (k_mm_passed, 10, .inl (fun _ => 0))), (mm_keptMany, .inl (k_mm_keptMany, 10, .inl (fun _ => 0)))] := hD
  clear hPc hDc hKc hFc hP1 hD1 hk1 hz1 ht hvm
  have hw : (r_4 = 0 ∧ (xs 1).toInt = 0) ∨ (r_4 = -2 ∧ (xs 1).toInt ≠ 0) := hw
  rcases hw with ⟨hrr_4, hfr_4⟩ | ⟨hrr_4, hfr_4⟩
  · subst r_4
    refine lv_aload_n hx hb dL_law_267 rfl (lv_at hl 2 rfl) ?_
    refine lv_aload_n hx hb dL_law_268 rfl (lv_at hl 4 rfl) ?_
    refine lv_iload hx hb dL_law_269 (lv_at hl 0 rfl) ?_
    refine lv_iconst (v := 1) hx hb dL_law_271 (by decide) ?_
    refine lv_iadd hx hb dL_law_272 ?_
    refine lv_topi (fun z_5 ez_5 => ?_)
    obtain rfl : z_5 = 1 := ez_5.trans (by decide)
    refine va_sld hx hb hX hbl hbA hS (pk_in 1 7 (by decide) (by decide) (by decide)) dL_law_273 ?_
    refine lv_topi (fun z_6 ez_6 => ?_)
    replace ez_6 : z_6 = xs 1 := ez_6
    subst z_6
    have hPc := hP.sub (ws' := [(mm, .inr (11, [.int 0, .ref mm_tape, .int 0, .ref mm_number, .ref mm_clockName, .ref mm_clockOff, .ref mm_clockGain, .ref mm_clockRough, .ref mm_personName, .ref mm_personOff, .ref mm_personGain, .ref mm_personRough, .ref mm_custom, .ref mm_customA, .ref mm_customB, .ref mm_ruleFrom, .ref mm_ruleTo, .ref mm_roundOf, .ref mm_roundAt, .ref mm_roundHour, .ref mm_gunAt, .ref mm_gunHour, .ref mm_knotSort, .ref mm_knotValue, .int 0, .int 0, .int 0, .int 0, .int 0, .int 0, .int 0, .int 0, .int 0, .int (-1), .int 0, .int 0, .int 0, .int 0, .int 0, .int 0, .int 0, .int 0, .int 0, .int 0, .int 0, .int 0, .ref mm_start, .ref mm_off, .ref mm_last, .ref mm_passed, .ref mm_kept, .ref mm_keptMany, .int 0, .int 0, .ref mm_history, .ref mm_names, .ref mm_worked, .int 0, .int 0, .int (-1), .ref mm_readThing, .ref mm_readHour, .ref mm_readLow, .ref mm_readHigh, .int 0, .int 0, .int 0, .ref mm_imageOff, .ref mm_imageLast, .ref mm_imagePassed, .ref mm_imageKept, .ref mm_imageMany, .ref mm_imageHistory])), (mm_number, .inl (k_mm_number, 10, .inl (fun _ => 0))), (mm_clockName, .inl (k_mm_clockName, 10, .inl (fun _ => 0))), (mm_clockOff, .inl (k_mm_clockOff, 10, .inl (fun _ => 0))), (mm_clockGain, .inl (k_mm_clockGain, 10, .inl (fun _ => 0))), (mm_clockRough, .inl (k_mm_clockRough, 10, .inl (fun _ => 0))), (mm_personName, .inl (k_mm_personName, 10, .inl (fun _ => 0))), (mm_personOff, .inl (k_mm_personOff, 10, .inl (fun _ => 0))), (mm_personGain, .inl (k_mm_personGain, 10, .inl (fun _ => 0))), (mm_personRough, .inl (k_mm_personRough, 10, .inl (fun _ => 0))), (mm_custom, .inl (k_mm_custom, 10, .inl (fun _ => 0))), (mm_customA, .inl (k_mm_customA, 10, .inl (fun _ => 0))), (mm_customB, .inl (k_mm_customB, 10, .inl (fun _ => 0))), (mm_ruleFrom, .inl (k_mm_ruleFrom, 10, .inl (fun _ => 0))), (mm_ruleTo, .inl (k_mm_ruleTo, 10, .inl (fun _ => 0))), (mm_roundOf, .inl (k_mm_roundOf, 24, .inl (fun _ => 0))), (mm_roundAt, .inl (k_mm_roundAt, 24, .inl (fun _ => 0))), (mm_roundHour, .inl (k_mm_roundHour, 24, .inl (fun _ => 0))), (mm_gunAt, .inl (k_mm_gunAt, 6, .inl (fun _ => 0))), (mm_gunHour, .inl (k_mm_gunHour, 6, .inl (fun _ => 0))), (mm_knotSort, .inl (k_mm_knotSort, 128, .inl (fun _ => 0))), (mm_knotValue, .inl (k_mm_knotValue, 128, .inl (fun _ => 0))), (mm_off, .inl (k_mm_off, 20, .inl (fun _ => 0))), (mm_last, .inl (k_mm_last, 10, .inl (fun _ => 0))), (mm_passed, .inl (k_mm_passed, 10, .inl (fun _ => 0))), (mm_keptMany, .inl (k_mm_keptMany, 10, .inl (fun _ => 0)))]) [0, 1, 2, 3, 4, 5, 6, 7, 8, 9, 10, 11, 12, 13, 14, 15, 16, 17, 18, 19, 20, 21, 22, 23, 24, 25] rfl
    have hDc := hD.sub (ws' := [(mm, .inr (11, [.int 0, .ref mm_tape, .int 0, .ref mm_number, .ref mm_clockName, .ref mm_clockOff, .ref mm_clockGain, .ref mm_clockRough, .ref mm_personName, .ref mm_personOff, .ref mm_personGain, .ref mm_personRough, .ref mm_custom, .ref mm_customA, .ref mm_customB, .ref mm_ruleFrom, .ref mm_ruleTo, .ref mm_roundOf, .ref mm_roundAt, .ref mm_roundHour, .ref mm_gunAt, .ref mm_gunHour, .ref mm_knotSort, .ref mm_knotValue, .int 0, .int 0, .int 0, .int 0, .int 0, .int 0, .int 0, .int 0, .int 0, .int (-1), .int 0, .int 0, .int 0, .int 0, .int 0, .int 0, .int 0, .int 0, .int 0, .int 0, .int 0, .int 0, .ref mm_start, .ref mm_off, .ref mm_last, .ref mm_passed, .ref mm_kept, .ref mm_keptMany, .int 0, .int 0, .ref mm_history, .ref mm_names, .ref mm_worked, .int 0, .int 0, .int (-1), .ref mm_readThing, .ref mm_readHour, .ref mm_readLow, .ref mm_readHigh, .int 0, .int 0, .int 0, .ref mm_imageOff, .ref mm_imageLast, .ref mm_imagePassed, .ref mm_imageKept, .ref mm_imageMany, .ref mm_imageHistory])), (mm_number, .inl (k_mm_number, 10, .inl (fun _ => 0))), (mm_clockName, .inl (k_mm_clockName, 10, .inl (fun _ => 0))), (mm_clockOff, .inl (k_mm_clockOff, 10, .inl (fun _ => 0))), (mm_clockGain, .inl (k_mm_clockGain, 10, .inl (fun _ => 0))), (mm_clockRough, .inl (k_mm_clockRough, 10, .inl (fun _ => 0))), (mm_personName, .inl (k_mm_personName, 10, .inl (fun _ => 0))), (mm_personOff, .inl (k_mm_personOff, 10, .inl (fun _ => 0))), (mm_personGain, .inl (k_mm_personGain, 10, .inl (fun _ => 0))), (mm_personRough, .inl (k_mm_personRough, 10, .inl (fun _ => 0))), (mm_custom, .inl (k_mm_custom, 10, .inl (fun _ => 0))), (mm_customA, .inl (k_mm_customA, 10, .inl (fun _ => 0))), (mm_customB, .inl (k_mm_customB, 10, .inl (fun _ => 0))), (mm_ruleFrom, .inl (k_mm_ruleFrom, 10, .inl (fun _ => 0))), (mm_ruleTo, .inl (k_mm_ruleTo, 10, .inl (fun _ => 0))), (mm_roundOf, .inl (k_mm_roundOf, 24, .inl (fun _ => 0))), (mm_roundAt, .inl (k_mm_roundAt, 24, .inl (fun _ => 0))), (mm_roundHour, .inl (k_mm_roundHour, 24, .inl (fun _ => 0))), (mm_gunAt, .inl (k_mm_gunAt, 6, .inl (fun _ => 0))), (mm_gunHour, .inl (k_mm_gunHour, 6, .inl (fun _ => 0))), (mm_knotSort, .inl (k_mm_knotSort, 128, .inl (fun _ => 0))), (mm_knotValue, .inl (k_mm_knotValue, 128, .inl (fun _ => 0))), (mm_off, .inl (k_mm_off, 20, .inl (fun _ => 0))), (mm_last, .inl (k_mm_last, 10, .inl (fun _ => 0))), (mm_passed, .inl (k_mm_passed, 10, .inl (fun _ => 0))), (mm_keptMany, .inl (k_mm_keptMany, 10, .inl (fun _ => 0)))]) [0, 1, 2, 3, 4, 5, 6, 7, 8, 9, 10, 11, 12, 13, 14, 15, 16, 17, 18, 19, 20, 21, 22, 23, 24, 25] (by decide) rfl
    have hKc := hK.sub (tys' := [(k_mm_number, .int), (k_mm_clockName, .int), (k_mm_clockOff, .int), (k_mm_clockGain, .int), (k_mm_clockRough, .int), (k_mm_personName, .int), (k_mm_personOff, .int), (k_mm_personGain, .int), (k_mm_personRough, .int), (k_mm_custom, .int), (k_mm_customA, .int), (k_mm_customB, .int), (k_mm_ruleFrom, .int), (k_mm_ruleTo, .int), (k_mm_roundOf, .int), (k_mm_roundAt, .int), (k_mm_roundHour, .int), (k_mm_gunAt, .int), (k_mm_gunHour, .int), (k_mm_knotSort, .int), (k_mm_knotValue, .int), (k_mm_off, .int), (k_mm_last, .int), (k_mm_passed, .int), (k_mm_keptMany, .int)]) [20, 21, 22, 23, 24, 25, 26, 27, 28, 29, 30, 31, 32, 33, 34, 35, 36, 37, 38, 39, 40, 41, 42, 43, 44] rfl
    have hFc := va_free (wc := [(mm, .inr (11, [.int 0, .ref mm_tape, .int 0, .ref mm_number, .ref mm_clockName, .ref mm_clockOff, .ref mm_clockGain, .ref mm_clockRough, .ref mm_personName, .ref mm_personOff, .ref mm_personGain, .ref mm_personRough, .ref mm_custom, .ref mm_customA, .ref mm_customB, .ref mm_ruleFrom, .ref mm_ruleTo, .ref mm_roundOf, .ref mm_roundAt, .ref mm_roundHour, .ref mm_gunAt, .ref mm_gunHour, .ref mm_knotSort, .ref mm_knotValue, .int 0, .int 0, .int 0, .int 0, .int 0, .int 0, .int 0, .int 0, .int 0, .int (-1), .int 0, .int 0, .int 0, .int 0, .int 0, .int 0, .int 0, .int 0, .int 0, .int 0, .int 0, .int 0, .ref mm_start, .ref mm_off, .ref mm_last, .ref mm_passed, .ref mm_kept, .ref mm_keptMany, .int 0, .int 0, .ref mm_history, .ref mm_names, .ref mm_worked, .int 0, .int 0, .int (-1), .ref mm_readThing, .ref mm_readHour, .ref mm_readLow, .ref mm_readHigh, .int 0, .int 0, .int 0, .ref mm_imageOff, .ref mm_imageLast, .ref mm_imagePassed, .ref mm_imageKept, .ref mm_imageMany, .ref mm_imageHistory])), (mm_number, .inl (k_mm_number, 10, .inl (fun _ => 0))), (mm_clockName, .inl (k_mm_clockName, 10, .inl (fun _ => 0))), (mm_clockOff, .inl (k_mm_clockOff, 10, .inl (fun _ => 0))), (mm_clockGain, .inl (k_mm_clockGain, 10, .inl (fun _ => 0))), (mm_clockRough, .inl (k_mm_clockRough, 10, .inl (fun _ => 0))), (mm_personName, .inl (k_mm_personName, 10, .inl (fun _ => 0))), (mm_personOff, .inl (k_mm_personOff, 10, .inl (fun _ => 0))), (mm_personGain, .inl (k_mm_personGain, 10, .inl (fun _ => 0))), (mm_personRough, .inl (k_mm_personRough, 10, .inl (fun _ => 0))), (mm_custom, .inl (k_mm_custom, 10, .inl (fun _ => 0))), (mm_customA, .inl (k_mm_customA, 10, .inl (fun _ => 0))), (mm_customB, .inl (k_mm_customB, 10, .inl (fun _ => 0))), (mm_ruleFrom, .inl (k_mm_ruleFrom, 10, .inl (fun _ => 0))), (mm_ruleTo, .inl (k_mm_ruleTo, 10, .inl (fun _ => 0))), (mm_roundOf, .inl (k_mm_roundOf, 24, .inl (fun _ => 0))), (mm_roundAt, .inl (k_mm_roundAt, 24, .inl (fun _ => 0))), (mm_roundHour, .inl (k_mm_roundHour, 24, .inl (fun _ => 0))), (mm_gunAt, .inl (k_mm_gunAt, 6, .inl (fun _ => 0))), (mm_gunHour, .inl (k_mm_gunHour, 6, .inl (fun _ => 0))), (mm_knotSort, .inl (k_mm_knotSort, 128, .inl (fun _ => 0))), (mm_knotValue, .inl (k_mm_knotValue, 128, .inl (fun _ => 0))), (mm_off, .inl (k_mm_off, 20, .inl (fun _ => 0))), (mm_last, .inl (k_mm_last, 10, .inl (fun _ => 0))), (mm_passed, .inl (k_mm_passed, 10, .inl (fun _ => 0))), (mm_keptMany, .inl (k_mm_keptMany, 10, .inl (fun _ => 0)))]) hD hS hA [0, 1, 2, 3, 4, 5, 6, 7, 8, 9, 10, 11, 12, 13, 14, 15, 16, 17, 18, 19, 20, 21, 22, 23, 24, 25] rfl
    have := (by decide : (0 : Int32).toInt = 0)
    have := (by decide : (0 : Int32).toInt = 0)
    have := (by decide : (0 : Int32).toInt = 0)
    have := (by decide : (0 : Int32).toInt = 0)
    have := (by decide : (0 : Int32).toInt = 0)
    have := (by decide : (0 : Int32).toInt = 0)
    have := (by decide : (0 : Int32).toInt = 0)
    have := (by decide : (0 : Int32).toInt = 0)
    have := (by decide : (0 : Int32).toInt = 0)
    have := (by decide : (0 : Int32).toInt = 0)
    have := (by decide : ((-1) : Int32).toInt = -1)
    have := (by decide : (0 : Int32).toInt = 0)
    have := (by decide : (0 : Int32).toInt = 0)
    have := (by decide : (0 : Int32).toInt = 0)
    have := (by decide : (0 : Int32).toInt = 0)
    have := (by decide : (0 : Int32).toInt = 0)
    have := (by decide : (0 : Int32).toInt = 0)
    have := (by decide : (0 : Int32).toInt = 0)
    have := (by decide : (0 : Int32).toInt = 0)
    have := (by decide : (0 : Int32).toInt = 0)
    have := (by decide : (0 : Int32).toInt = 0)
    have := (by decide : (0 : Int32).toInt = 0)
    have := (by decide : (0 : Int32).toInt = 0)
    have := (by decide : (0 : Int32).toInt = 0)
    have := (by decide : (0 : Int32).toInt = 0)
    have := (by decide : (0 : Int32).toInt = 0)
    have := (by decide : (0 : Int32).toInt = 0)
    have := (by decide : ((-1) : Int32).toInt = -1)
    have := (by decide : (0 : Int32).toInt = 0)
    have := (by decide : (0 : Int32).toInt = 0)
    have := (by decide : (0 : Int32).toInt = 0)
    refine va_calli (va_runV (As := [.int (xs 1)]) (rest := [.int 0]) ⟨hx, hb, hml, hown, hT⟩ (c_X11_text l dC dI H.size mm (xs 1) (0 : Int32) mm_tape mm_number mm_clockName mm_clockOff mm_clockGain mm_clockRough mm_personName mm_personOff mm_personGain mm_personRough mm_custom mm_customA mm_customB mm_ruleFrom mm_ruleTo mm_roundOf mm_roundAt mm_roundHour mm_gunAt mm_gunHour mm_knotSort mm_knotValue (0 : Int32) (0 : Int32) (0 : Int32) (0 : Int32) (0 : Int32) (0 : Int32) (0 : Int32) (0 : Int32) (0 : Int32) ((-1) : Int32) (0 : Int32) (0 : Int32) (0 : Int32) (0 : Int32) (0 : Int32) (0 : Int32) (0 : Int32) (0 : Int32) (0 : Int32) (0 : Int32) (0 : Int32) (0 : Int32) mm_start mm_off mm_last mm_passed mm_kept mm_keptMany (0 : Int32) (0 : Int32) mm_history mm_names mm_worked (0 : Int32) (0 : Int32) ((-1) : Int32) mm_readThing mm_readHour mm_readLow mm_readHigh (0 : Int32) (0 : Int32) (0 : Int32) mm_imageOff mm_imageLast mm_imagePassed mm_imageKept mm_imageMany mm_imageHistory k_mm_number (fun _ => 0) k_mm_clockName (fun _ => 0) k_mm_clockOff (fun _ => 0) k_mm_clockGain (fun _ => 0) k_mm_clockRough (fun _ => 0) k_mm_personName (fun _ => 0) k_mm_personOff (fun _ => 0) k_mm_personGain (fun _ => 0) k_mm_personRough (fun _ => 0) k_mm_custom (fun _ => 0) k_mm_customA (fun _ => 0) k_mm_customB (fun _ => 0) k_mm_ruleFrom (fun _ => 0) k_mm_ruleTo (fun _ => 0) k_mm_roundOf (fun _ => 0) k_mm_roundAt (fun _ => 0) k_mm_roundHour (fun _ => 0) k_mm_gunAt (fun _ => 0) k_mm_gunHour (fun _ => 0) k_mm_knotSort (fun _ => 0) k_mm_knotValue (fun _ => 0) k_mm_off (fun _ => 0) k_mm_last (fun _ => 0) k_mm_passed (fun _ => 0) k_mm_keptMany (fun _ => 0) (fun _ => rfl) (fun _ => rfl) (fun _ => rfl) (fun _ => rfl) (fun _ => rfl) (fun _ => rfl) (fun _ => rfl) (fun _ => rfl) (fun _ => rfl) (fun _ => rfl) (fun _ => rfl) (fun _ => rfl) (fun _ => rfl) (fun _ => rfl) (fun _ => rfl) (fun _ => rfl) (fun _ => rfl) (fun _ => rfl) (fun _ => rfl) (fun _ => rfl) (fun _ => rfl)) (cwV 1 hT (gwV mw_7_5 mw_7_6 mw_7_7 mw_1_16 mw_7_8) rfl rfl rfl (by decide +kernel) ⟨Nat.le_of_ble_eq_true rfl, Nat.le_of_ble_eq_true rfl⟩) ⟨fun a U g mk q => by obtain ⟨q0, q1, qP, qK, qD⟩ := q; exact ⟨q0, q1, qP, va_K.moved (u := U) (U := U.calling g mk a) (Vm.Alike.refl U.vm) qK, qD⟩, va_recv hK hP (ci := 11) (q0 := 0) rfl rfl, fun U hU hW => ⟨rfl, by rw [hU], by rw [hU]; exact hPc, va_K.moved hW.alike hKc, hDc.weaken (fun _ _ _ _ => trivial)⟩⟩ rfl rfl hl.1 rfl (lv_room (Nat.le_of_ble_eq_true rfl)) dL_law_274 ⟨Nat.le_of_ble_eq_true rfl, Nat.le_of_ble_eq_true rfl⟩) hS (fun q _ h => hFc q h) hFc (fun r_8 u t H1 locs ht hvm hw hB hz1 hk1 hS => ?_)
    obtain ⟨hP1, hD1⟩ := hB
    rw [ht] at hP1
    obtain ⟨hP, hD⟩ := va_join (wr := []) (w1 := []) hP hD [0, 1, 2, 3, 4, 5, 6, 7, 8, 9, 10, 11, 12, 13, 14, 15, 16, 17, 18, 19, 20, 21, 22, 23, 24, 25] [] rfl rfl (by decide) (by decide) hk1 hFc hP1 hD1
    generalize H1 = H at hP hS ⊢
    have hP : va_P (dC, dI) vwCl [] H := hP
    have hD : va_D A [] := hD
    clear hPc hDc hKc hFc hP1 hD1 hk1 hz1 ht hvm
    have hw : (r_8 = 0 ∧ (xs 1).toInt = 0) ∨ (r_8 = -2 ∧ (xs 1).toInt ≠ 0) := hw
    rcases hw with ⟨hrr_8, hfr_8⟩ | ⟨hrr_8, hfr_8⟩
    · subst r_8
      refine lv_icmp_eq (tgt := 1482) hx hb dL_law_277 (by decide) (fun c_9 => ?_) (fun c_9 => absurd c_9 (by decide))
      refine lv_iinc (v := 7) (lv' := [(4, .int 7), (3, .ref oo), (2, .ref mm), (1, .ref xx), (0, .ref b)]) hx hb dL_law_1482 hl (k := 0) rfl (by decide) (by decide) rfl (fun ls hl => ?_)
      refine lv_goto (tgt := 23) hx hb dL_law_1485 (by decide) ?_
      refine lv_iload hx hb dL_law_23 (lv_at hl 0 rfl) ?_
      refine lv_aload_n hx hb dL_law_25 rfl (lv_at hl 4 rfl) ?_
      refine va_slen hx hb hX hbl hbA hS dL_law_26 ?_
      refine lv_topi (fun z_10 ez_10 => ?_)
      obtain rfl : z_10 = 7 := ez_10.trans (by decide)
      refine lv_bipush (v := 7) hx hb dL_law_27 (by decide) ?_
      refine lv_isub hx hb dL_law_29 ?_
      refine lv_topi (fun z_11 ez_11 => ?_)
      obtain rfl : z_11 = 0 := ez_11.trans (by decide)
      refine lv_icmp_gt (tgt := 1488) hx hb dL_law_30 (by decide) (fun c_12 => ?_) (fun c_12 => absurd c_12 (by decide))
      refine lv_iconst (v := 1) hx hb dL_law_1488 (by decide) ?_
      refine va_forget (fun q hq => hAo _ (hS.2.2 q hq)) ?_
      refine W.widen (k := 600002) (n := 7302232) (Nat.le_of_ble_eq_true rfl) (Nat.le_of_ble_eq_true rfl) ?_
      exact lw_ret hx hb hr hlocks dL_law_1489
    · subst r_8
      exact False.elim (by omega)
  · subst r_4
    refine lv_aload_n hx hb dL_law_267 rfl (lv_at hl 2 rfl) ?_
    refine lv_aload_n hx hb dL_law_268 rfl (lv_at hl 4 rfl) ?_
    refine lv_iload hx hb dL_law_269 (lv_at hl 0 rfl) ?_
    refine lv_iconst (v := 1) hx hb dL_law_271 (by decide) ?_
    refine lv_iadd hx hb dL_law_272 ?_
    refine lv_topi (fun z_13 ez_13 => ?_)
    obtain rfl : z_13 = 1 := ez_13.trans (by decide)
    refine va_sld hx hb hX hbl hbA hS (pk_in 1 7 (by decide) (by decide) (by decide)) dL_law_273 ?_
    refine lv_topi (fun z_14 ez_14 => ?_)
    replace ez_14 : z_14 = xs 1 := ez_14
    subst z_14
    have hPc := hP.sub (ws' := [(mm, .inr (11, [.int 0, .ref mm_tape, .int 0, .ref mm_number, .ref mm_clockName, .ref mm_clockOff, .ref mm_clockGain, .ref mm_clockRough, .ref mm_personName, .ref mm_personOff, .ref mm_personGain, .ref mm_personRough, .ref mm_custom, .ref mm_customA, .ref mm_customB, .ref mm_ruleFrom, .ref mm_ruleTo, .ref mm_roundOf, .ref mm_roundAt, .ref mm_roundHour, .ref mm_gunAt, .ref mm_gunHour, .ref mm_knotSort, .ref mm_knotValue, .int 0, .int 0, .int 0, .int 0, .int 0, .int 0, .int 0, .int 0, .int 0, .int (-1), .int 0, .int 0, .int 0, .int 0, .int 0, .int 0, .int 0, .int 0, .int 0, .int 0, .int 0, .int 0, .ref mm_start, .ref mm_off, .ref mm_last, .ref mm_passed, .ref mm_kept, .ref mm_keptMany, .int 0, .int 0, .ref mm_history, .ref mm_names, .ref mm_worked, .int 0, .int 0, .int (-1), .ref mm_readThing, .ref mm_readHour, .ref mm_readLow, .ref mm_readHigh, .int 0, .int 0, .int 0, .ref mm_imageOff, .ref mm_imageLast, .ref mm_imagePassed, .ref mm_imageKept, .ref mm_imageMany, .ref mm_imageHistory])), (mm_number, .inl (k_mm_number, 10, .inl (fun _ => 0))), (mm_clockName, .inl (k_mm_clockName, 10, .inl (fun _ => 0))), (mm_clockOff, .inl (k_mm_clockOff, 10, .inl (fun _ => 0))), (mm_clockGain, .inl (k_mm_clockGain, 10, .inl (fun _ => 0))), (mm_clockRough, .inl (k_mm_clockRough, 10, .inl (fun _ => 0))), (mm_personName, .inl (k_mm_personName, 10, .inl (fun _ => 0))), (mm_personOff, .inl (k_mm_personOff, 10, .inl (fun _ => 0))), (mm_personGain, .inl (k_mm_personGain, 10, .inl (fun _ => 0))), (mm_personRough, .inl (k_mm_personRough, 10, .inl (fun _ => 0))), (mm_custom, .inl (k_mm_custom, 10, .inl (fun _ => 0))), (mm_customA, .inl (k_mm_customA, 10, .inl (fun _ => 0))), (mm_customB, .inl (k_mm_customB, 10, .inl (fun _ => 0))), (mm_ruleFrom, .inl (k_mm_ruleFrom, 10, .inl (fun _ => 0))), (mm_ruleTo, .inl (k_mm_ruleTo, 10, .inl (fun _ => 0))), (mm_roundOf, .inl (k_mm_roundOf, 24, .inl (fun _ => 0))), (mm_roundAt, .inl (k_mm_roundAt, 24, .inl (fun _ => 0))), (mm_roundHour, .inl (k_mm_roundHour, 24, .inl (fun _ => 0))), (mm_gunAt, .inl (k_mm_gunAt, 6, .inl (fun _ => 0))), (mm_gunHour, .inl (k_mm_gunHour, 6, .inl (fun _ => 0))), (mm_knotSort, .inl (k_mm_knotSort, 128, .inl (fun _ => 0))), (mm_knotValue, .inl (k_mm_knotValue, 128, .inl (fun _ => 0))), (mm_off, .inl (k_mm_off, 20, .inl (fun _ => 0))), (mm_last, .inl (k_mm_last, 10, .inl (fun _ => 0))), (mm_passed, .inl (k_mm_passed, 10, .inl (fun _ => 0))), (mm_keptMany, .inl (k_mm_keptMany, 10, .inl (fun _ => 0)))]) [0, 1, 2, 3, 4, 5, 6, 7, 8, 9, 10, 11, 12, 13, 14, 15, 16, 17, 18, 19, 20, 21, 22, 23, 24, 25] rfl
    have hDc := hD.sub (ws' := [(mm, .inr (11, [.int 0, .ref mm_tape, .int 0, .ref mm_number, .ref mm_clockName, .ref mm_clockOff, .ref mm_clockGain, .ref mm_clockRough, .ref mm_personName, .ref mm_personOff, .ref mm_personGain, .ref mm_personRough, .ref mm_custom, .ref mm_customA, .ref mm_customB, .ref mm_ruleFrom, .ref mm_ruleTo, .ref mm_roundOf, .ref mm_roundAt, .ref mm_roundHour, .ref mm_gunAt, .ref mm_gunHour, .ref mm_knotSort, .ref mm_knotValue, .int 0, .int 0, .int 0, .int 0, .int 0, .int 0, .int 0, .int 0, .int 0, .int (-1), .int 0, .int 0, .int 0, .int 0, .int 0, .int 0, .int 0, .int 0, .int 0, .int 0, .int 0, .int 0, .ref mm_start, .ref mm_off, .ref mm_last, .ref mm_passed, .ref mm_kept, .ref mm_keptMany, .int 0, .int 0, .ref mm_history, .ref mm_names, .ref mm_worked, .int 0, .int 0, .int (-1), .ref mm_readThing, .ref mm_readHour, .ref mm_readLow, .ref mm_readHigh, .int 0, .int 0, .int 0, .ref mm_imageOff, .ref mm_imageLast, .ref mm_imagePassed, .ref mm_imageKept, .ref mm_imageMany, .ref mm_imageHistory])), (mm_number, .inl (k_mm_number, 10, .inl (fun _ => 0))), (mm_clockName, .inl (k_mm_clockName, 10, .inl (fun _ => 0))), (mm_clockOff, .inl (k_mm_clockOff, 10, .inl (fun _ => 0))), (mm_clockGain, .inl (k_mm_clockGain, 10, .inl (fun _ => 0))), (mm_clockRough, .inl (k_mm_clockRough, 10, .inl (fun _ => 0))), (mm_personName, .inl (k_mm_personName, 10, .inl (fun _ => 0))), (mm_personOff, .inl (k_mm_personOff, 10, .inl (fun _ => 0))), (mm_personGain, .inl (k_mm_personGain, 10, .inl (fun _ => 0))), (mm_personRough, .inl (k_mm_personRough, 10, .inl (fun _ => 0))), (mm_custom, .inl (k_mm_custom, 10, .inl (fun _ => 0))), (mm_customA, .inl (k_mm_customA, 10, .inl (fun _ => 0))), (mm_customB, .inl (k_mm_customB, 10, .inl (fun _ => 0))), (mm_ruleFrom, .inl (k_mm_ruleFrom, 10, .inl (fun _ => 0))), (mm_ruleTo, .inl (k_mm_ruleTo, 10, .inl (fun _ => 0))), (mm_roundOf, .inl (k_mm_roundOf, 24, .inl (fun _ => 0))), (mm_roundAt, .inl (k_mm_roundAt, 24, .inl (fun _ => 0))), (mm_roundHour, .inl (k_mm_roundHour, 24, .inl (fun _ => 0))), (mm_gunAt, .inl (k_mm_gunAt, 6, .inl (fun _ => 0))), (mm_gunHour, .inl (k_mm_gunHour, 6, .inl (fun _ => 0))), (mm_knotSort, .inl (k_mm_knotSort, 128, .inl (fun _ => 0))), (mm_knotValue, .inl (k_mm_knotValue, 128, .inl (fun _ => 0))), (mm_off, .inl (k_mm_off, 20, .inl (fun _ => 0))), (mm_last, .inl (k_mm_last, 10, .inl (fun _ => 0))), (mm_passed, .inl (k_mm_passed, 10, .inl (fun _ => 0))), (mm_keptMany, .inl (k_mm_keptMany, 10, .inl (fun _ => 0)))]) [0, 1, 2, 3, 4, 5, 6, 7, 8, 9, 10, 11, 12, 13, 14, 15, 16, 17, 18, 19, 20, 21, 22, 23, 24, 25] (by decide) rfl
    have hKc := hK.sub (tys' := [(k_mm_number, .int), (k_mm_clockName, .int), (k_mm_clockOff, .int), (k_mm_clockGain, .int), (k_mm_clockRough, .int), (k_mm_personName, .int), (k_mm_personOff, .int), (k_mm_personGain, .int), (k_mm_personRough, .int), (k_mm_custom, .int), (k_mm_customA, .int), (k_mm_customB, .int), (k_mm_ruleFrom, .int), (k_mm_ruleTo, .int), (k_mm_roundOf, .int), (k_mm_roundAt, .int), (k_mm_roundHour, .int), (k_mm_gunAt, .int), (k_mm_gunHour, .int), (k_mm_knotSort, .int), (k_mm_knotValue, .int), (k_mm_off, .int), (k_mm_last, .int), (k_mm_passed, .int), (k_mm_keptMany, .int)]) [20, 21, 22, 23, 24, 25, 26, 27, 28, 29, 30, 31, 32, 33, 34, 35, 36, 37, 38, 39, 40, 41, 42, 43, 44] rfl
    have hFc := va_free (wc := [(mm, .inr (11, [.int 0, .ref mm_tape, .int 0, .ref mm_number, .ref mm_clockName, .ref mm_clockOff, .ref mm_clockGain, .ref mm_clockRough, .ref mm_personName, .ref mm_personOff, .ref mm_personGain, .ref mm_personRough, .ref mm_custom, .ref mm_customA, .ref mm_customB, .ref mm_ruleFrom, .ref mm_ruleTo, .ref mm_roundOf, .ref mm_roundAt, .ref mm_roundHour, .ref mm_gunAt, .ref mm_gunHour, .ref mm_knotSort, .ref mm_knotValue, .int 0, .int 0, .int 0, .int 0, .int 0, .int 0, .int 0, .int 0, .int 0, .int (-1), .int 0, .int 0, .int 0, .int 0, .int 0, .int 0, .int 0, .int 0, .int 0, .int 0, .int 0, .int 0, .ref mm_start, .ref mm_off, .ref mm_last, .ref mm_passed, .ref mm_kept, .ref mm_keptMany, .int 0, .int 0, .ref mm_history, .ref mm_names, .ref mm_worked, .int 0, .int 0, .int (-1), .ref mm_readThing, .ref mm_readHour, .ref mm_readLow, .ref mm_readHigh, .int 0, .int 0, .int 0, .ref mm_imageOff, .ref mm_imageLast, .ref mm_imagePassed, .ref mm_imageKept, .ref mm_imageMany, .ref mm_imageHistory])), (mm_number, .inl (k_mm_number, 10, .inl (fun _ => 0))), (mm_clockName, .inl (k_mm_clockName, 10, .inl (fun _ => 0))), (mm_clockOff, .inl (k_mm_clockOff, 10, .inl (fun _ => 0))), (mm_clockGain, .inl (k_mm_clockGain, 10, .inl (fun _ => 0))), (mm_clockRough, .inl (k_mm_clockRough, 10, .inl (fun _ => 0))), (mm_personName, .inl (k_mm_personName, 10, .inl (fun _ => 0))), (mm_personOff, .inl (k_mm_personOff, 10, .inl (fun _ => 0))), (mm_personGain, .inl (k_mm_personGain, 10, .inl (fun _ => 0))), (mm_personRough, .inl (k_mm_personRough, 10, .inl (fun _ => 0))), (mm_custom, .inl (k_mm_custom, 10, .inl (fun _ => 0))), (mm_customA, .inl (k_mm_customA, 10, .inl (fun _ => 0))), (mm_customB, .inl (k_mm_customB, 10, .inl (fun _ => 0))), (mm_ruleFrom, .inl (k_mm_ruleFrom, 10, .inl (fun _ => 0))), (mm_ruleTo, .inl (k_mm_ruleTo, 10, .inl (fun _ => 0))), (mm_roundOf, .inl (k_mm_roundOf, 24, .inl (fun _ => 0))), (mm_roundAt, .inl (k_mm_roundAt, 24, .inl (fun _ => 0))), (mm_roundHour, .inl (k_mm_roundHour, 24, .inl (fun _ => 0))), (mm_gunAt, .inl (k_mm_gunAt, 6, .inl (fun _ => 0))), (mm_gunHour, .inl (k_mm_gunHour, 6, .inl (fun _ => 0))), (mm_knotSort, .inl (k_mm_knotSort, 128, .inl (fun _ => 0))), (mm_knotValue, .inl (k_mm_knotValue, 128, .inl (fun _ => 0))), (mm_off, .inl (k_mm_off, 20, .inl (fun _ => 0))), (mm_last, .inl (k_mm_last, 10, .inl (fun _ => 0))), (mm_passed, .inl (k_mm_passed, 10, .inl (fun _ => 0))), (mm_keptMany, .inl (k_mm_keptMany, 10, .inl (fun _ => 0)))]) hD hS hA [0, 1, 2, 3, 4, 5, 6, 7, 8, 9, 10, 11, 12, 13, 14, 15, 16, 17, 18, 19, 20, 21, 22, 23, 24, 25] rfl
    have := (by decide : (0 : Int32).toInt = 0)
    have := (by decide : (0 : Int32).toInt = 0)
    have := (by decide : (0 : Int32).toInt = 0)
    have := (by decide : (0 : Int32).toInt = 0)
    have := (by decide : (0 : Int32).toInt = 0)
    have := (by decide : (0 : Int32).toInt = 0)
    have := (by decide : (0 : Int32).toInt = 0)
    have := (by decide : (0 : Int32).toInt = 0)
    have := (by decide : (0 : Int32).toInt = 0)
    have := (by decide : (0 : Int32).toInt = 0)
    have := (by decide : ((-1) : Int32).toInt = -1)
    have := (by decide : (0 : Int32).toInt = 0)
    have := (by decide : (0 : Int32).toInt = 0)
    have := (by decide : (0 : Int32).toInt = 0)
    have := (by decide : (0 : Int32).toInt = 0)
    have := (by decide : (0 : Int32).toInt = 0)
    have := (by decide : (0 : Int32).toInt = 0)
    have := (by decide : (0 : Int32).toInt = 0)
    have := (by decide : (0 : Int32).toInt = 0)
    have := (by decide : (0 : Int32).toInt = 0)
    have := (by decide : (0 : Int32).toInt = 0)
    have := (by decide : (0 : Int32).toInt = 0)
    have := (by decide : (0 : Int32).toInt = 0)
    have := (by decide : (0 : Int32).toInt = 0)
    have := (by decide : (0 : Int32).toInt = 0)
    have := (by decide : (0 : Int32).toInt = 0)
    have := (by decide : (0 : Int32).toInt = 0)
    have := (by decide : ((-1) : Int32).toInt = -1)
    have := (by decide : (0 : Int32).toInt = 0)
    have := (by decide : (0 : Int32).toInt = 0)
    have := (by decide : (0 : Int32).toInt = 0)
    refine va_calli (va_runV (As := [.int (xs 1)]) (rest := [.int (-2)]) ⟨hx, hb, hml, hown, hT⟩ (c_X11_text l dC dI H.size mm (xs 1) (0 : Int32) mm_tape mm_number mm_clockName mm_clockOff mm_clockGain mm_clockRough mm_personName mm_personOff mm_personGain mm_personRough mm_custom mm_customA mm_customB mm_ruleFrom mm_ruleTo mm_roundOf mm_roundAt mm_roundHour mm_gunAt mm_gunHour mm_knotSort mm_knotValue (0 : Int32) (0 : Int32) (0 : Int32) (0 : Int32) (0 : Int32) (0 : Int32) (0 : Int32) (0 : Int32) (0 : Int32) ((-1) : Int32) (0 : Int32) (0 : Int32) (0 : Int32) (0 : Int32) (0 : Int32) (0 : Int32) (0 : Int32) (0 : Int32) (0 : Int32) (0 : Int32) (0 : Int32) (0 : Int32) mm_start mm_off mm_last mm_passed mm_kept mm_keptMany (0 : Int32) (0 : Int32) mm_history mm_names mm_worked (0 : Int32) (0 : Int32) ((-1) : Int32) mm_readThing mm_readHour mm_readLow mm_readHigh (0 : Int32) (0 : Int32) (0 : Int32) mm_imageOff mm_imageLast mm_imagePassed mm_imageKept mm_imageMany mm_imageHistory k_mm_number (fun _ => 0) k_mm_clockName (fun _ => 0) k_mm_clockOff (fun _ => 0) k_mm_clockGain (fun _ => 0) k_mm_clockRough (fun _ => 0) k_mm_personName (fun _ => 0) k_mm_personOff (fun _ => 0) k_mm_personGain (fun _ => 0) k_mm_personRough (fun _ => 0) k_mm_custom (fun _ => 0) k_mm_customA (fun _ => 0) k_mm_customB (fun _ => 0) k_mm_ruleFrom (fun _ => 0) k_mm_ruleTo (fun _ => 0) k_mm_roundOf (fun _ => 0) k_mm_roundAt (fun _ => 0) k_mm_roundHour (fun _ => 0) k_mm_gunAt (fun _ => 0) k_mm_gunHour (fun _ => 0) k_mm_knotSort (fun _ => 0) k_mm_knotValue (fun _ => 0) k_mm_off (fun _ => 0) k_mm_last (fun _ => 0) k_mm_passed (fun _ => 0) k_mm_keptMany (fun _ => 0) (fun _ => rfl) (fun _ => rfl) (fun _ => rfl) (fun _ => rfl) (fun _ => rfl) (fun _ => rfl) (fun _ => rfl) (fun _ => rfl) (fun _ => rfl) (fun _ => rfl) (fun _ => rfl) (fun _ => rfl) (fun _ => rfl) (fun _ => rfl) (fun _ => rfl) (fun _ => rfl) (fun _ => rfl) (fun _ => rfl) (fun _ => rfl) (fun _ => rfl) (fun _ => rfl)) (cwV 1 hT (gwV mw_7_5 mw_7_6 mw_7_7 mw_1_16 mw_7_8) rfl rfl rfl (by decide +kernel) ⟨Nat.le_of_ble_eq_true rfl, Nat.le_of_ble_eq_true rfl⟩) ⟨fun a U g mk q => by obtain ⟨q0, q1, qP, qK, qD⟩ := q; exact ⟨q0, q1, qP, va_K.moved (u := U) (U := U.calling g mk a) (Vm.Alike.refl U.vm) qK, qD⟩, va_recv hK hP (ci := 11) (q0 := 0) rfl rfl, fun U hU hW => ⟨rfl, by rw [hU], by rw [hU]; exact hPc, va_K.moved hW.alike hKc, hDc.weaken (fun _ _ _ _ => trivial)⟩⟩ rfl rfl hl.1 rfl (lv_room (Nat.le_of_ble_eq_true rfl)) dL_law_274 ⟨Nat.le_of_ble_eq_true rfl, Nat.le_of_ble_eq_true rfl⟩) hS (fun q _ h => hFc q h) hFc (fun r_16 u t H1 locs ht hvm hw hB hz1 hk1 hS => ?_)
    obtain ⟨hP1, hD1⟩ := hB
    rw [ht] at hP1
    obtain ⟨hP, hD⟩ := va_join (wr := []) (w1 := []) hP hD [0, 1, 2, 3, 4, 5, 6, 7, 8, 9, 10, 11, 12, 13, 14, 15, 16, 17, 18, 19, 20, 21, 22, 23, 24, 25] [] rfl rfl (by decide) (by decide) hk1 hFc hP1 hD1
    generalize H1 = H at hP hS ⊢
    have hP : va_P (dC, dI) vwCl [] H := hP
    have hD : va_D A [] := hD
    clear hPc hDc hKc hFc hP1 hD1 hk1 hz1 ht hvm
    have hw : (r_16 = 0 ∧ (xs 1).toInt = 0) ∨ (r_16 = -2 ∧ (xs 1).toInt ≠ 0) := hw
    rcases hw with ⟨hrr_16, hfr_16⟩ | ⟨hrr_16, hfr_16⟩
    · subst r_16
      exact False.elim (by omega)
    · subst r_16
      refine lv_icmp_eq (tgt := 1482) hx hb dL_law_277 (by decide) (fun c_17 => ?_) (fun c_17 => absurd c_17 (by decide))
      refine lv_iinc (v := 7) (lv' := [(4, .int 7), (3, .ref oo), (2, .ref mm), (1, .ref xx), (0, .ref b)]) hx hb dL_law_1482 hl (k := 0) rfl (by decide) (by decide) rfl (fun ls hl => ?_)
      refine lv_goto (tgt := 23) hx hb dL_law_1485 (by decide) ?_
      refine lv_iload hx hb dL_law_23 (lv_at hl 0 rfl) ?_
      refine lv_aload_n hx hb dL_law_25 rfl (lv_at hl 4 rfl) ?_
      refine va_slen hx hb hX hbl hbA hS dL_law_26 ?_
      refine lv_topi (fun z_18 ez_18 => ?_)
      obtain rfl : z_18 = 7 := ez_18.trans (by decide)
      refine lv_bipush (v := 7) hx hb dL_law_27 (by decide) ?_
      refine lv_isub hx hb dL_law_29 ?_
      refine lv_topi (fun z_19 ez_19 => ?_)
      obtain rfl : z_19 = 0 := ez_19.trans (by decide)
      refine lv_icmp_gt (tgt := 1488) hx hb dL_law_30 (by decide) (fun c_20 => ?_) (fun c_20 => absurd c_20 (by decide))
      refine lv_iconst (v := 1) hx hb dL_law_1488 (by decide) ?_
      refine va_forget (fun q hq => hAo _ (hS.2.2 q hq)) ?_
      refine W.widen (k := 600002) (n := 7302232) (Nat.le_of_ble_eq_true rfl) (Nat.le_of_ble_eq_true rfl) ?_
      exact lw_ret hx hb hr hlocks dL_law_1489
set_option maxHeartbeats 4000000 in
set_option maxRecDepth 100000 in
theorem law_op_2 {p : Program} {l : Launch} {e : Env} {s : State} {m : MethodId} {below : List Frame} {meth : Method} {c : Code} {dC : Nat → ClassId} {dI : Nat → Nat → Nat} {b : Nat} {xs : Nat → Int32} {A : Nat → Prop} (C0 : lw_At p s m meth c b 7 xs) (hA : ∀ q, s.heap.size ≤ q → A q) (hbA : ¬ A b) (hAo : ∀ q, A q → s.heap.size ≤ q) {xx : Nat} {rr : Nat} {ta : Nat} {tb : Nat} {pa : Nat} {pb : Nat} {cn : Nat} {ci : Nat} {cp : Nat} {ct : Nat} {hs : Nat} {rd : Nat} {wy : Nat} {ea : Nat} {eb : Nat} {rr_tape : Nat} {tk : Nat} {mm : Nat} {mm_tape : Nat} {mm_number : Nat} {mm_clockName : Nat} {mm_clockOff : Nat} {mm_clockGain : Nat} {mm_clockRough : Nat} {mm_personName : Nat} {mm_personOff : Nat} {mm_personGain : Nat} {mm_personRough : Nat} {mm_custom : Nat} {mm_customA : Nat} {mm_customB : Nat} {mm_ruleFrom : Nat} {mm_ruleTo : Nat} {mm_roundOf : Nat} {mm_roundAt : Nat} {mm_roundHour : Nat} {mm_gunAt : Nat} {mm_gunHour : Nat} {mm_knotSort : Nat} {mm_knotValue : Nat} {mm_start : Nat} {mm_off : Nat} {mm_last : Nat} {mm_passed : Nat} {mm_kept : Nat} {mm_keptMany : Nat} {mm_history : Nat} {mm_names : Nat} {mm_worked : Nat} {mm_readThing : Nat} {mm_readHour : Nat} {mm_readLow : Nat} {mm_readHigh : Nat} {mm_imageOff : Nat} {mm_imageLast : Nat} {mm_imagePassed : Nat} {mm_imageKept : Nat} {mm_imageMany : Nat} {mm_imageHistory : Nat} {oo : Nat} {H : Heap} {locs : List Loc} {ls : Array Slot} (hK : va_K (dC, dI) vwCl [] s) (hP : va_P (dC, dI) vwCl [(xx, .inr (10, [.ref rr, .ref ta, .ref tb, .ref pa, .ref pb, .ref cn, .ref ci, .int 0, .ref cp, .ref ct, .ref hs, .ref rd, .ref wy, .ref ea, .ref eb])), (rr, .inr (4, [.ref rr_tape, .int 0, .int 0, .int (-1), .ref tk, .null, .int 0, .int 0])), (mm, .inr (11, [.int 0, .ref mm_tape, .int 0, .ref mm_number, .ref mm_clockName, .ref mm_clockOff, .ref mm_clockGain, .ref mm_clockRough, .ref mm_personName, .ref mm_personOff, .ref mm_personGain, .ref mm_personRough, .ref mm_custom, .ref mm_customA, .ref mm_customB, .ref mm_ruleFrom, .ref mm_ruleTo, .ref mm_roundOf, .ref mm_roundAt, .ref mm_roundHour, .ref mm_gunAt, .ref mm_gunHour, .ref mm_knotSort, .ref mm_knotValue, .int 0, .int 0, .int 0, .int 0, .int 0, .int 0, .int 0, .int 0, .int 0, .int (-1), .int 0, .int 0, .int 0, .int 0, .int 0, .int 0, .int 0, .int 0, .int 0, .int 0, .int 0, .int 0, .ref mm_start, .ref mm_off, .ref mm_last, .ref mm_passed, .ref mm_kept, .ref mm_keptMany, .int 0, .int 0, .ref mm_history, .ref mm_names, .ref mm_worked, .int 0, .int 0, .int (-1), .ref mm_readThing, .ref mm_readHour, .ref mm_readLow, .ref mm_readHigh, .int 0, .int 0, .int 0, .ref mm_imageOff, .ref mm_imageLast, .ref mm_imagePassed, .ref mm_imageKept, .ref mm_imageMany, .ref mm_imageHistory]))] H) (hD : va_D A [(xx, .inr (10, [.ref rr, .ref ta, .ref tb, .ref pa, .ref pb, .ref cn, .ref ci, .int 0, .ref cp, .ref ct, .ref hs, .ref rd, .ref wy, .ref ea, .ref eb])), (rr, .inr (4, [.ref rr_tape, .int 0, .int 0, .int (-1), .ref tk, .null, .int 0, .int 0])), (mm, .inr (11, [.int 0, .ref mm_tape, .int 0, .ref mm_number, .ref mm_clockName, .ref mm_clockOff, .ref mm_clockGain, .ref mm_clockRough, .ref mm_personName, .ref mm_personOff, .ref mm_personGain, .ref mm_personRough, .ref mm_custom, .ref mm_customA, .ref mm_customB, .ref mm_ruleFrom, .ref mm_ruleTo, .ref mm_roundOf, .ref mm_roundAt, .ref mm_roundHour, .ref mm_gunAt, .ref mm_gunHour, .ref mm_knotSort, .ref mm_knotValue, .int 0, .int 0, .int 0, .int 0, .int 0, .int 0, .int 0, .int 0, .int 0, .int (-1), .int 0, .int 0, .int 0, .int 0, .int 0, .int 0, .int 0, .int 0, .int 0, .int 0, .int 0, .int 0, .ref mm_start, .ref mm_off, .ref mm_last, .ref mm_passed, .ref mm_kept, .ref mm_keptMany, .int 0, .int 0, .ref mm_history, .ref mm_names, .ref mm_worked, .int 0, .int 0, .int (-1), .ref mm_readThing, .ref mm_readHour, .ref mm_readLow, .ref mm_readHigh, .int 0, .int 0, .int 0, .ref mm_imageOff, .ref mm_imageLast, .ref mm_imagePassed, .ref mm_imageKept, .ref mm_imageMany, .ref mm_imageHistory]))]) (hS : va_S A s.heap H locs) (hl : lv_has ls 7 [(4, .int 0), (3, .ref oo), (2, .ref mm), (1, .ref xx), (0, .ref b)]) : W p l e room_1 s m #[Value.ref b] below meth c H locs 160 67979 (lw_Z below #[Value.ref b] s) (F0 m 282 ls []) := by
  obtain ⟨hx, hb, hr, hml, hown, hts, hX, hbl, hlocks, hgv⟩ := C0
  have hT : ∀ w ∈ pw_T, w.before #[Value.ref b] s = true := fun w h => hts w (List.mem_filter.mp h).1
  have hown : s.vm.findClass RL = some m.cls := hown
  refine lv_aload_n hx hb dL_law_282 rfl (lv_at hl 3 rfl) ?_
  refine lv_aload_n hx hb dL_law_283 rfl (lv_at hl 4 rfl) ?_
  refine lv_iload hx hb dL_law_284 (lv_at hl 0 rfl) ?_
  refine lv_iconst (v := 1) hx hb dL_law_286 (by decide) ?_
  refine lv_iadd hx hb dL_law_287 ?_
  refine lv_topi (fun z_1 ez_1 => ?_)
  obtain rfl : z_1 = 1 := ez_1.trans (by decide)
  refine va_sld hx hb hX hbl hbA hS (pk_in 1 7 (by decide) (by decide) (by decide)) dL_law_288 ?_
  refine lv_topi (fun z_2 ez_2 => ?_)
  replace ez_2 : z_2 = xs 1 := ez_2
  subst z_2
  have hPc := hP.sub (ws' := [(xx, .inr (10, [.ref rr, .ref ta, .ref tb, .ref pa, .ref pb, .ref cn, .ref ci, .int 0, .ref cp, .ref ct, .ref hs, .ref rd, .ref wy, .ref ea, .ref eb])), (rr, .inr (4, [.ref rr_tape, .int 0, .int 0, .int (-1), .ref tk, .null, .int 0, .int 0]))]) [0, 1] rfl
  have hDc := hD.sub (ws' := [(xx, .inr (10, [.ref rr, .ref ta, .ref tb, .ref pa, .ref pb, .ref cn, .ref ci, .int 0, .ref cp, .ref ct, .ref hs, .ref rd, .ref wy, .ref ea, .ref eb])), (rr, .inr (4, [.ref rr_tape, .int 0, .int 0, .int (-1), .ref tk, .null, .int 0, .int 0]))]) [0, 1] (by decide) rfl
  have hKc := hK.sub (tys' := []) [] rfl
  have hFc := va_free (wc := [(xx, .inr (10, [.ref rr, .ref ta, .ref tb, .ref pa, .ref pb, .ref cn, .ref ci, .int 0, .ref cp, .ref ct, .ref hs, .ref rd, .ref wy, .ref ea, .ref eb])), (rr, .inr (4, [.ref rr_tape, .int 0, .int 0, .int (-1), .ref tk, .null, .int 0, .int 0]))]) hD hS hA [0, 1] rfl
  have := (by decide : (0 : Int32).toInt = 0)
  have := (by decide : (0 : Int32).toInt = 0)
  have := (by decide : (0 : Int32).toInt = 0)
  have := (by decide : (0 : Int32).toInt = 0)
  refine va_calli (va_runV (As := [.int (xs 1)]) (rest := []) ⟨hx, hb, hml, hown, hT⟩ (c_X10_fault l dC dI H.size xx (xs 1) rr ta tb pa pb cn ci (0 : Int32) cp ct hs rd wy ea eb rr_tape (0 : Int32) tk (0 : Int32) (0 : Int32) ) (cwV 1 hT (gwV mw_4_27 mw_4_28 mw_4_29 mw_1_1 mw_4_30) rfl rfl rfl (by decide +kernel) ⟨Nat.le_of_ble_eq_true rfl, Nat.le_of_ble_eq_true rfl⟩) ⟨fun a U g mk q => by obtain ⟨q0, q1, qP, qK, qD⟩ := q; exact ⟨q0, q1, qP, va_K.moved (u := U) (U := U.calling g mk a) (Vm.Alike.refl U.vm) qK, qD⟩, va_recv hK hP (ci := 10) (q0 := 0) rfl rfl, fun U hU hW => ⟨rfl, by rw [hU], by rw [hU]; exact hPc, va_K.moved hW.alike hKc, hDc.weaken (fun _ _ _ _ => trivial)⟩⟩ rfl rfl hl.1 rfl (lv_room (Nat.le_of_ble_eq_true rfl)) dL_law_289 ⟨Nat.le_of_ble_eq_true rfl, Nat.le_of_ble_eq_true rfl⟩) hS (fun q _ h => hFc q h) hFc (fun r_4 u t H1 locs ht hvm hw hB hz1 hk1 hS => ?_)
  obtain ⟨hP1, hD1⟩ := hB
  rw [ht] at hP1
  obtain ⟨hP, hD⟩ := va_join (wr := [(mm, .inr (11, [.int 0, .ref mm_tape, .int 0, .ref mm_number, .ref mm_clockName, .ref mm_clockOff, .ref mm_clockGain, .ref mm_clockRough, .ref mm_personName, .ref mm_personOff, .ref mm_personGain, .ref mm_personRough, .ref mm_custom, .ref mm_customA, .ref mm_customB, .ref mm_ruleFrom, .ref mm_ruleTo, .ref mm_roundOf, .ref mm_roundAt, .ref mm_roundHour, .ref mm_gunAt, .ref mm_gunHour, .ref mm_knotSort, .ref mm_knotValue, .int 0, .int 0, .int 0, .int 0, .int 0, .int 0, .int 0, .int 0, .int 0, .int (-1), .int 0, .int 0, .int 0, .int 0, .int 0, .int 0, .int 0, .int 0, .int 0, .int 0, .int 0, .int 0, .ref mm_start, .ref mm_off, .ref mm_last, .ref mm_passed, .ref mm_kept, .ref mm_keptMany, .int 0, .int 0, .ref mm_history, .ref mm_names, .ref mm_worked, .int 0, .int 0, .int (-1), .ref mm_readThing, .ref mm_readHour, .ref mm_readLow, .ref mm_readHigh, .int 0, .int 0, .int 0, .ref mm_imageOff, .ref mm_imageLast, .ref mm_imagePassed, .ref mm_imageKept, .ref mm_imageMany, .ref mm_imageHistory]))]) (w1 := [(xx, .inr (10, [.ref rr, .ref ta, .ref tb, .ref pa, .ref pb, .ref cn, .ref ci, .int 0, .ref cp, .ref ct, .ref hs, .ref rd, .ref wy, .ref ea, .ref eb])), (rr, .inr (4, [.ref rr_tape, .int 0, .int 0, .int (-1), .ref tk, .null, .int 0, .int 0]))]) hP hD [0, 1] [2] rfl rfl (by decide) (by decide) hk1 hFc hP1 hD1
  generalize H1 = H at hP hS ⊢
  have hP : va_P (dC, dI) vwCl [(mm, .inr (11, [.int 0, .ref mm_tape, .int 0, .ref mm_number, .ref mm_clockName, .ref mm_clockOff, .ref mm_clockGain, .ref mm_clockRough, .ref mm_personName, .ref mm_personOff, .ref mm_personGain, .ref mm_personRough, .ref mm_custom, .ref mm_customA, .ref mm_customB, .ref mm_ruleFrom, .ref mm_ruleTo, .ref mm_roundOf, .ref mm_roundAt, .ref mm_roundHour, .ref mm_gunAt, .ref mm_gunHour, .ref mm_knotSort, .ref mm_knotValue, .int 0, .int 0, .int 0, .int 0, .int 0, .int 0, .int 0, .int 0, .int 0, .int (-1), .int 0, .int 0, .int 0, .int 0, .int 0, .int 0, .int 0, .int 0, .int 0, .int 0, .int 0, .int 0, .ref mm_start, .ref mm_off, .ref mm_last, .ref mm_passed, .ref mm_kept, .ref mm_keptMany, .int 0, .int 0, .ref mm_history, .ref mm_names, .ref mm_worked, .int 0, .int 0, .int (-1), .ref mm_readThing, .ref mm_readHour, .ref mm_readLow, .ref mm_readHigh, .int 0, .int 0, .int 0, .ref mm_imageOff, .ref mm_imageLast, .ref mm_imagePassed, .ref mm_imageKept, .ref mm_imageMany, .ref mm_imageHistory])), (xx, .inr (10, [.ref rr, .ref ta, .ref tb, .ref pa, .ref pb, .ref cn, .ref ci, .int 0, .ref cp, .ref ct, .ref hs, .ref rd, .ref wy, .ref ea, .ref eb])), (rr, .inr (4, [.ref rr_tape, .int 0, .int 0, .int (-1), .ref tk, .null, .int 0, .int 0]))] H := hP
  have hD : va_D A [(mm, .inr (11, [.int 0, .ref mm_tape, .int 0, .ref mm_number, .ref mm_clockName, .ref mm_clockOff, .ref mm_clockGain, .ref mm_clockRough, .ref mm_personName, .ref mm_personOff, .ref mm_personGain, .ref mm_personRough, .ref mm_custom, .ref mm_customA, .ref mm_customB, .ref mm_ruleFrom, .ref mm_ruleTo, .ref mm_roundOf, .ref mm_roundAt, .ref mm_roundHour, .ref mm_gunAt, .ref mm_gunHour, .ref mm_knotSort, .ref mm_knotValue, .int 0, .int 0, .int 0, .int 0, .int 0, .int 0, .int 0, .int 0, .int 0, .int (-1), .int 0, .int 0, .int 0, .int 0, .int 0, .int 0, .int 0, .int 0, .int 0, .int 0, .int 0, .int 0, .ref mm_start, .ref mm_off, .ref mm_last, .ref mm_passed, .ref mm_kept, .ref mm_keptMany, .int 0, .int 0, .ref mm_history, .ref mm_names, .ref mm_worked, .int 0, .int 0, .int (-1), .ref mm_readThing, .ref mm_readHour, .ref mm_readLow, .ref mm_readHigh, .int 0, .int 0, .int 0, .ref mm_imageOff, .ref mm_imageLast, .ref mm_imagePassed, .ref mm_imageKept, .ref mm_imageMany, .ref mm_imageHistory])), (xx, .inr (10, [.ref rr, .ref ta, .ref tb, .ref pa, .ref pb, .ref cn, .ref ci, .int 0, .ref cp, .ref ct, .ref hs, .ref rd, .ref wy, .ref ea, .ref eb])), (rr, .inr (4, [.ref rr_tape, .int 0, .int 0, .int (-1), .ref tk, .null, .int 0, .int 0]))] := hD
  clear hPc hDc hKc hFc hP1 hD1 hk1 hz1 ht hvm
  have hw : (r_4 = 0 ∧ (xs 1).toInt = 0) ∨ (r_4 = -1 ∧ (xs 1).toInt ≠ 0) := hw
  rcases hw with ⟨hrr_4, hfr_4⟩ | ⟨hrr_4, hfr_4⟩
  · subst r_4
    refine lv_aload_n hx hb dL_law_292 rfl (lv_at hl 2 rfl) ?_
    refine lv_aload_n hx hb dL_law_293 rfl (lv_at hl 4 rfl) ?_
    refine lv_iload hx hb dL_law_294 (lv_at hl 0 rfl) ?_
    refine lv_iconst (v := 1) hx hb dL_law_296 (by decide) ?_
    refine lv_iadd hx hb dL_law_297 ?_
    refine lv_topi (fun z_5 ez_5 => ?_)
    obtain rfl : z_5 = 1 := ez_5.trans (by decide)
    refine va_sld hx hb hX hbl hbA hS (pk_in 1 7 (by decide) (by decide) (by decide)) dL_law_298 ?_
    refine lv_topi (fun z_6 ez_6 => ?_)
    replace ez_6 : z_6 = xs 1 := ez_6
    subst z_6
    have hPc := hP.sub (ws' := [(mm, .inr (11, [.int 0, .ref mm_tape, .int 0, .ref mm_number, .ref mm_clockName, .ref mm_clockOff, .ref mm_clockGain, .ref mm_clockRough, .ref mm_personName, .ref mm_personOff, .ref mm_personGain, .ref mm_personRough, .ref mm_custom, .ref mm_customA, .ref mm_customB, .ref mm_ruleFrom, .ref mm_ruleTo, .ref mm_roundOf, .ref mm_roundAt, .ref mm_roundHour, .ref mm_gunAt, .ref mm_gunHour, .ref mm_knotSort, .ref mm_knotValue, .int 0, .int 0, .int 0, .int 0, .int 0, .int 0, .int 0, .int 0, .int 0, .int (-1), .int 0, .int 0, .int 0, .int 0, .int 0, .int 0, .int 0, .int 0, .int 0, .int 0, .int 0, .int 0, .ref mm_start, .ref mm_off, .ref mm_last, .ref mm_passed, .ref mm_kept, .ref mm_keptMany, .int 0, .int 0, .ref mm_history, .ref mm_names, .ref mm_worked, .int 0, .int 0, .int (-1), .ref mm_readThing, .ref mm_readHour, .ref mm_readLow, .ref mm_readHigh, .int 0, .int 0, .int 0, .ref mm_imageOff, .ref mm_imageLast, .ref mm_imagePassed, .ref mm_imageKept, .ref mm_imageMany, .ref mm_imageHistory]))]) [0] rfl
    have hDc := hD.sub (ws' := [(mm, .inr (11, [.int 0, .ref mm_tape, .int 0, .ref mm_number, .ref mm_clockName, .ref mm_clockOff, .ref mm_clockGain, .ref mm_clockRough, .ref mm_personName, .ref mm_personOff, .ref mm_personGain, .ref mm_personRough, .ref mm_custom, .ref mm_customA, .ref mm_customB, .ref mm_ruleFrom, .ref mm_ruleTo, .ref mm_roundOf, .ref mm_roundAt, .ref mm_roundHour, .ref mm_gunAt, .ref mm_gunHour, .ref mm_knotSort, .ref mm_knotValue, .int 0, .int 0, .int 0, .int 0, .int 0, .int 0, .int 0, .int 0, .int 0, .int (-1), .int 0, .int 0, .int 0, .int 0, .int 0, .int 0, .int 0, .int 0, .int 0, .int 0, .int 0, .int 0, .ref mm_start, .ref mm_off, .ref mm_last, .ref mm_passed, .ref mm_kept, .ref mm_keptMany, .int 0, .int 0, .ref mm_history, .ref mm_names, .ref mm_worked, .int 0, .int 0, .int (-1), .ref mm_readThing, .ref mm_readHour, .ref mm_readLow, .ref mm_readHigh, .int 0, .int 0, .int 0, .ref mm_imageOff, .ref mm_imageLast, .ref mm_imagePassed, .ref mm_imageKept, .ref mm_imageMany, .ref mm_imageHistory]))]) [0] (by decide) rfl
    have hKc := hK.sub (tys' := []) [] rfl
    have hFc := va_free (wc := [(mm, .inr (11, [.int 0, .ref mm_tape, .int 0, .ref mm_number, .ref mm_clockName, .ref mm_clockOff, .ref mm_clockGain, .ref mm_clockRough, .ref mm_personName, .ref mm_personOff, .ref mm_personGain, .ref mm_personRough, .ref mm_custom, .ref mm_customA, .ref mm_customB, .ref mm_ruleFrom, .ref mm_ruleTo, .ref mm_roundOf, .ref mm_roundAt, .ref mm_roundHour, .ref mm_gunAt, .ref mm_gunHour, .ref mm_knotSort, .ref mm_knotValue, .int 0, .int 0, .int 0, .int 0, .int 0, .int 0, .int 0, .int 0, .int 0, .int (-1), .int 0, .int 0, .int 0, .int 0, .int 0, .int 0, .int 0, .int 0, .int 0, .int 0, .int 0, .int 0, .ref mm_start, .ref mm_off, .ref mm_last, .ref mm_passed, .ref mm_kept, .ref mm_keptMany, .int 0, .int 0, .ref mm_history, .ref mm_names, .ref mm_worked, .int 0, .int 0, .int (-1), .ref mm_readThing, .ref mm_readHour, .ref mm_readLow, .ref mm_readHigh, .int 0, .int 0, .int 0, .ref mm_imageOff, .ref mm_imageLast, .ref mm_imagePassed, .ref mm_imageKept, .ref mm_imageMany, .ref mm_imageHistory]))]) hD hS hA [0] rfl
    have := (by decide : (0 : Int32).toInt = 0)
    have := (by decide : (0 : Int32).toInt = 0)
    have := (by decide : (0 : Int32).toInt = 0)
    have := (by decide : (0 : Int32).toInt = 0)
    have := (by decide : (0 : Int32).toInt = 0)
    have := (by decide : (0 : Int32).toInt = 0)
    have := (by decide : (0 : Int32).toInt = 0)
    have := (by decide : (0 : Int32).toInt = 0)
    have := (by decide : (0 : Int32).toInt = 0)
    have := (by decide : (0 : Int32).toInt = 0)
    have := (by decide : (0 : Int32).toInt = 0)
    have := (by decide : (0 : Int32).toInt = 0)
    have := (by decide : (0 : Int32).toInt = 0)
    have := (by decide : (0 : Int32).toInt = 0)
    have := (by decide : (0 : Int32).toInt = 0)
    have := (by decide : (0 : Int32).toInt = 0)
    have := (by decide : (0 : Int32).toInt = 0)
    have := (by decide : (0 : Int32).toInt = 0)
    have := (by decide : (0 : Int32).toInt = 0)
    have := (by decide : (0 : Int32).toInt = 0)
    have := (by decide : (0 : Int32).toInt = 0)
    have := (by decide : (0 : Int32).toInt = 0)
    have := (by decide : (0 : Int32).toInt = 0)
    have := (by decide : (0 : Int32).toInt = 0)
    have := (by decide : (0 : Int32).toInt = 0)
    have := (by decide : (0 : Int32).toInt = 0)
    have := (by decide : ((-1) : Int32).toInt = -1)
    have := (by decide : (0 : Int32).toInt = 0)
    have := (by decide : (0 : Int32).toInt = 0)
    have := (by decide : (0 : Int32).toInt = 0)
    refine va_calli (va_runV (As := [.int (xs 1)]) (rest := [.int 0]) ⟨hx, hb, hml, hown, hT⟩ (c_X11_fault l dC dI H.size mm (xs 1) (0 : Int32) mm_tape (0 : Int32) mm_number mm_clockName mm_clockOff mm_clockGain mm_clockRough mm_personName mm_personOff mm_personGain mm_personRough mm_custom mm_customA mm_customB mm_ruleFrom mm_ruleTo mm_roundOf mm_roundAt mm_roundHour mm_gunAt mm_gunHour mm_knotSort mm_knotValue (0 : Int32) (0 : Int32) (0 : Int32) (0 : Int32) (0 : Int32) (0 : Int32) (0 : Int32) (0 : Int32) (0 : Int32) (0 : Int32) (0 : Int32) (0 : Int32) (0 : Int32) (0 : Int32) (0 : Int32) (0 : Int32) (0 : Int32) (0 : Int32) (0 : Int32) (0 : Int32) mm_start mm_off mm_last mm_passed mm_kept mm_keptMany (0 : Int32) (0 : Int32) mm_history mm_names mm_worked (0 : Int32) (0 : Int32) ((-1) : Int32) mm_readThing mm_readHour mm_readLow mm_readHigh (0 : Int32) (0 : Int32) (0 : Int32) mm_imageOff mm_imageLast mm_imagePassed mm_imageKept mm_imageMany mm_imageHistory ) (cwV 1 hT (gwV mw_7_150 mw_7_151 mw_7_152 mw_1_16 mw_7_153) rfl rfl rfl (by decide +kernel) ⟨Nat.le_of_ble_eq_true rfl, Nat.le_of_ble_eq_true rfl⟩) ⟨fun a U g mk q => by obtain ⟨q0, q1, qP, qK, qD⟩ := q; exact ⟨q0, q1, qP, va_K.moved (u := U) (U := U.calling g mk a) (Vm.Alike.refl U.vm) qK, qD⟩, va_recv hK hP (ci := 11) (q0 := 0) rfl rfl, fun U hU hW => ⟨rfl, by rw [hU], by rw [hU]; exact hPc, va_K.moved hW.alike hKc, hDc.weaken (fun _ _ _ _ => trivial)⟩⟩ rfl rfl hl.1 rfl (lv_room (Nat.le_of_ble_eq_true rfl)) dL_law_299 ⟨Nat.le_of_ble_eq_true rfl, Nat.le_of_ble_eq_true rfl⟩) hS (fun q _ h => hFc q h) hFc (fun r_8 u t H1 locs ht hvm hw hB hz1 hk1 hS => ?_)
    obtain ⟨hP1, hD1⟩ := hB
    rw [ht] at hP1
    obtain ⟨hP, hD⟩ := va_join (wr := [(xx, .inr (10, [.ref rr, .ref ta, .ref tb, .ref pa, .ref pb, .ref cn, .ref ci, .int 0, .ref cp, .ref ct, .ref hs, .ref rd, .ref wy, .ref ea, .ref eb])), (rr, .inr (4, [.ref rr_tape, .int 0, .int 0, .int (-1), .ref tk, .null, .int 0, .int 0]))]) (w1 := []) hP hD [0] [1, 2] rfl rfl (by decide) (by decide) hk1 hFc hP1 hD1
    generalize H1 = H at hP hS ⊢
    have hP : va_P (dC, dI) vwCl [(xx, .inr (10, [.ref rr, .ref ta, .ref tb, .ref pa, .ref pb, .ref cn, .ref ci, .int 0, .ref cp, .ref ct, .ref hs, .ref rd, .ref wy, .ref ea, .ref eb])), (rr, .inr (4, [.ref rr_tape, .int 0, .int 0, .int (-1), .ref tk, .null, .int 0, .int 0]))] H := hP
    have hD : va_D A [(xx, .inr (10, [.ref rr, .ref ta, .ref tb, .ref pa, .ref pb, .ref cn, .ref ci, .int 0, .ref cp, .ref ct, .ref hs, .ref rd, .ref wy, .ref ea, .ref eb])), (rr, .inr (4, [.ref rr_tape, .int 0, .int 0, .int (-1), .ref tk, .null, .int 0, .int 0]))] := hD
    clear hPc hDc hKc hFc hP1 hD1 hk1 hz1 ht hvm
    have hw : (r_8 = 0 ∧ (xs 1).toInt = 0) ∨ (r_8 = -1 ∧ (xs 1).toInt ≠ 0) := hw
    rcases hw with ⟨hrr_8, hfr_8⟩ | ⟨hrr_8, hfr_8⟩
    · subst r_8
      refine lv_icmp_eq (tgt := 1482) hx hb dL_law_302 (by decide) (fun c_9 => ?_) (fun c_9 => absurd c_9 (by decide))
      refine lv_iinc (v := 7) (lv' := [(4, .int 7), (3, .ref oo), (2, .ref mm), (1, .ref xx), (0, .ref b)]) hx hb dL_law_1482 hl (k := 0) rfl (by decide) (by decide) rfl (fun ls hl => ?_)
      refine lv_goto (tgt := 23) hx hb dL_law_1485 (by decide) ?_
      refine lv_iload hx hb dL_law_23 (lv_at hl 0 rfl) ?_
      refine lv_aload_n hx hb dL_law_25 rfl (lv_at hl 4 rfl) ?_
      refine va_slen hx hb hX hbl hbA hS dL_law_26 ?_
      refine lv_topi (fun z_10 ez_10 => ?_)
      obtain rfl : z_10 = 7 := ez_10.trans (by decide)
      refine lv_bipush (v := 7) hx hb dL_law_27 (by decide) ?_
      refine lv_isub hx hb dL_law_29 ?_
      refine lv_topi (fun z_11 ez_11 => ?_)
      obtain rfl : z_11 = 0 := ez_11.trans (by decide)
      refine lv_icmp_gt (tgt := 1488) hx hb dL_law_30 (by decide) (fun c_12 => ?_) (fun c_12 => absurd c_12 (by decide))
      refine lv_iconst (v := 1) hx hb dL_law_1488 (by decide) ?_
      refine va_forget (fun q hq => hAo _ (hS.2.2 q hq)) ?_
      refine W.widen (k := 600002) (n := 7302232) (Nat.le_of_ble_eq_true rfl) (Nat.le_of_ble_eq_true rfl) ?_
      exact lw_ret hx hb hr hlocks dL_law_1489
    · subst r_8
      exact False.elim (by omega)
  · subst r_4
    refine lv_aload_n hx hb dL_law_292 rfl (lv_at hl 2 rfl) ?_
    refine lv_aload_n hx hb dL_law_293 rfl (lv_at hl 4 rfl) ?_
    refine lv_iload hx hb dL_law_294 (lv_at hl 0 rfl) ?_
    refine lv_iconst (v := 1) hx hb dL_law_296 (by decide) ?_
    refine lv_iadd hx hb dL_law_297 ?_
    refine lv_topi (fun z_13 ez_13 => ?_)
    obtain rfl : z_13 = 1 := ez_13.trans (by decide)
    refine va_sld hx hb hX hbl hbA hS (pk_in 1 7 (by decide) (by decide) (by decide)) dL_law_298 ?_
    refine lv_topi (fun z_14 ez_14 => ?_)
    replace ez_14 : z_14 = xs 1 := ez_14
    subst z_14
    have hPc := hP.sub (ws' := [(mm, .inr (11, [.int 0, .ref mm_tape, .int 0, .ref mm_number, .ref mm_clockName, .ref mm_clockOff, .ref mm_clockGain, .ref mm_clockRough, .ref mm_personName, .ref mm_personOff, .ref mm_personGain, .ref mm_personRough, .ref mm_custom, .ref mm_customA, .ref mm_customB, .ref mm_ruleFrom, .ref mm_ruleTo, .ref mm_roundOf, .ref mm_roundAt, .ref mm_roundHour, .ref mm_gunAt, .ref mm_gunHour, .ref mm_knotSort, .ref mm_knotValue, .int 0, .int 0, .int 0, .int 0, .int 0, .int 0, .int 0, .int 0, .int 0, .int (-1), .int 0, .int 0, .int 0, .int 0, .int 0, .int 0, .int 0, .int 0, .int 0, .int 0, .int 0, .int 0, .ref mm_start, .ref mm_off, .ref mm_last, .ref mm_passed, .ref mm_kept, .ref mm_keptMany, .int 0, .int 0, .ref mm_history, .ref mm_names, .ref mm_worked, .int 0, .int 0, .int (-1), .ref mm_readThing, .ref mm_readHour, .ref mm_readLow, .ref mm_readHigh, .int 0, .int 0, .int 0, .ref mm_imageOff, .ref mm_imageLast, .ref mm_imagePassed, .ref mm_imageKept, .ref mm_imageMany, .ref mm_imageHistory]))]) [0] rfl
    have hDc := hD.sub (ws' := [(mm, .inr (11, [.int 0, .ref mm_tape, .int 0, .ref mm_number, .ref mm_clockName, .ref mm_clockOff, .ref mm_clockGain, .ref mm_clockRough, .ref mm_personName, .ref mm_personOff, .ref mm_personGain, .ref mm_personRough, .ref mm_custom, .ref mm_customA, .ref mm_customB, .ref mm_ruleFrom, .ref mm_ruleTo, .ref mm_roundOf, .ref mm_roundAt, .ref mm_roundHour, .ref mm_gunAt, .ref mm_gunHour, .ref mm_knotSort, .ref mm_knotValue, .int 0, .int 0, .int 0, .int 0, .int 0, .int 0, .int 0, .int 0, .int 0, .int (-1), .int 0, .int 0, .int 0, .int 0, .int 0, .int 0, .int 0, .int 0, .int 0, .int 0, .int 0, .int 0, .ref mm_start, .ref mm_off, .ref mm_last, .ref mm_passed, .ref mm_kept, .ref mm_keptMany, .int 0, .int 0, .ref mm_history, .ref mm_names, .ref mm_worked, .int 0, .int 0, .int (-1), .ref mm_readThing, .ref mm_readHour, .ref mm_readLow, .ref mm_readHigh, .int 0, .int 0, .int 0, .ref mm_imageOff, .ref mm_imageLast, .ref mm_imagePassed, .ref mm_imageKept, .ref mm_imageMany, .ref mm_imageHistory]))]) [0] (by decide) rfl
    have hKc := hK.sub (tys' := []) [] rfl
    have hFc := va_free (wc := [(mm, .inr (11, [.int 0, .ref mm_tape, .int 0, .ref mm_number, .ref mm_clockName, .ref mm_clockOff, .ref mm_clockGain, .ref mm_clockRough, .ref mm_personName, .ref mm_personOff, .ref mm_personGain, .ref mm_personRough, .ref mm_custom, .ref mm_customA, .ref mm_customB, .ref mm_ruleFrom, .ref mm_ruleTo, .ref mm_roundOf, .ref mm_roundAt, .ref mm_roundHour, .ref mm_gunAt, .ref mm_gunHour, .ref mm_knotSort, .ref mm_knotValue, .int 0, .int 0, .int 0, .int 0, .int 0, .int 0, .int 0, .int 0, .int 0, .int (-1), .int 0, .int 0, .int 0, .int 0, .int 0, .int 0, .int 0, .int 0, .int 0, .int 0, .int 0, .int 0, .ref mm_start, .ref mm_off, .ref mm_last, .ref mm_passed, .ref mm_kept, .ref mm_keptMany, .int 0, .int 0, .ref mm_history, .ref mm_names, .ref mm_worked, .int 0, .int 0, .int (-1), .ref mm_readThing, .ref mm_readHour, .ref mm_readLow, .ref mm_readHigh, .int 0, .int 0, .int 0, .ref mm_imageOff, .ref mm_imageLast, .ref mm_imagePassed, .ref mm_imageKept, .ref mm_imageMany, .ref mm_imageHistory]))]) hD hS hA [0] rfl
    have := (by decide : (0 : Int32).toInt = 0)
    have := (by decide : (0 : Int32).toInt = 0)
    have := (by decide : (0 : Int32).toInt = 0)
    have := (by decide : (0 : Int32).toInt = 0)
    have := (by decide : (0 : Int32).toInt = 0)
    have := (by decide : (0 : Int32).toInt = 0)
    have := (by decide : (0 : Int32).toInt = 0)
    have := (by decide : (0 : Int32).toInt = 0)
    have := (by decide : (0 : Int32).toInt = 0)
    have := (by decide : (0 : Int32).toInt = 0)
    have := (by decide : (0 : Int32).toInt = 0)
    have := (by decide : (0 : Int32).toInt = 0)
    have := (by decide : (0 : Int32).toInt = 0)
    have := (by decide : (0 : Int32).toInt = 0)
    have := (by decide : (0 : Int32).toInt = 0)
    have := (by decide : (0 : Int32).toInt = 0)
    have := (by decide : (0 : Int32).toInt = 0)
    have := (by decide : (0 : Int32).toInt = 0)
    have := (by decide : (0 : Int32).toInt = 0)
    have := (by decide : (0 : Int32).toInt = 0)
    have := (by decide : (0 : Int32).toInt = 0)
    have := (by decide : (0 : Int32).toInt = 0)
    have := (by decide : (0 : Int32).toInt = 0)
    have := (by decide : (0 : Int32).toInt = 0)
    have := (by decide : (0 : Int32).toInt = 0)
    have := (by decide : (0 : Int32).toInt = 0)
    have := (by decide : ((-1) : Int32).toInt = -1)
    have := (by decide : (0 : Int32).toInt = 0)
    have := (by decide : (0 : Int32).toInt = 0)
    have := (by decide : (0 : Int32).toInt = 0)
    refine va_calli (va_runV (As := [.int (xs 1)]) (rest := [.int (-1)]) ⟨hx, hb, hml, hown, hT⟩ (c_X11_fault l dC dI H.size mm (xs 1) (0 : Int32) mm_tape (0 : Int32) mm_number mm_clockName mm_clockOff mm_clockGain mm_clockRough mm_personName mm_personOff mm_personGain mm_personRough mm_custom mm_customA mm_customB mm_ruleFrom mm_ruleTo mm_roundOf mm_roundAt mm_roundHour mm_gunAt mm_gunHour mm_knotSort mm_knotValue (0 : Int32) (0 : Int32) (0 : Int32) (0 : Int32) (0 : Int32) (0 : Int32) (0 : Int32) (0 : Int32) (0 : Int32) (0 : Int32) (0 : Int32) (0 : Int32) (0 : Int32) (0 : Int32) (0 : Int32) (0 : Int32) (0 : Int32) (0 : Int32) (0 : Int32) (0 : Int32) mm_start mm_off mm_last mm_passed mm_kept mm_keptMany (0 : Int32) (0 : Int32) mm_history mm_names mm_worked (0 : Int32) (0 : Int32) ((-1) : Int32) mm_readThing mm_readHour mm_readLow mm_readHigh (0 : Int32) (0 : Int32) (0 : Int32) mm_imageOff mm_imageLast mm_imagePassed mm_imageKept mm_imageMany mm_imageHistory ) (cwV 1 hT (gwV mw_7_150 mw_7_151 mw_7_152 mw_1_16 mw_7_153) rfl rfl rfl (by decide +kernel) ⟨Nat.le_of_ble_eq_true rfl, Nat.le_of_ble_eq_true rfl⟩) ⟨fun a U g mk q => by obtain ⟨q0, q1, qP, qK, qD⟩ := q; exact ⟨q0, q1, qP, va_K.moved (u := U) (U := U.calling g mk a) (Vm.Alike.refl U.vm) qK, qD⟩, va_recv hK hP (ci := 11) (q0 := 0) rfl rfl, fun U hU hW => ⟨rfl, by rw [hU], by rw [hU]; exact hPc, va_K.moved hW.alike hKc, hDc.weaken (fun _ _ _ _ => trivial)⟩⟩ rfl rfl hl.1 rfl (lv_room (Nat.le_of_ble_eq_true rfl)) dL_law_299 ⟨Nat.le_of_ble_eq_true rfl, Nat.le_of_ble_eq_true rfl⟩) hS (fun q _ h => hFc q h) hFc (fun r_16 u t H1 locs ht hvm hw hB hz1 hk1 hS => ?_)
    obtain ⟨hP1, hD1⟩ := hB
    rw [ht] at hP1
    obtain ⟨hP, hD⟩ := va_join (wr := [(xx, .inr (10, [.ref rr, .ref ta, .ref tb, .ref pa, .ref pb, .ref cn, .ref ci, .int 0, .ref cp, .ref ct, .ref hs, .ref rd, .ref wy, .ref ea, .ref eb])), (rr, .inr (4, [.ref rr_tape, .int 0, .int 0, .int (-1), .ref tk, .null, .int 0, .int 0]))]) (w1 := []) hP hD [0] [1, 2] rfl rfl (by decide) (by decide) hk1 hFc hP1 hD1
    generalize H1 = H at hP hS ⊢
    have hP : va_P (dC, dI) vwCl [(xx, .inr (10, [.ref rr, .ref ta, .ref tb, .ref pa, .ref pb, .ref cn, .ref ci, .int 0, .ref cp, .ref ct, .ref hs, .ref rd, .ref wy, .ref ea, .ref eb])), (rr, .inr (4, [.ref rr_tape, .int 0, .int 0, .int (-1), .ref tk, .null, .int 0, .int 0]))] H := hP
    have hD : va_D A [(xx, .inr (10, [.ref rr, .ref ta, .ref tb, .ref pa, .ref pb, .ref cn, .ref ci, .int 0, .ref cp, .ref ct, .ref hs, .ref rd, .ref wy, .ref ea, .ref eb])), (rr, .inr (4, [.ref rr_tape, .int 0, .int 0, .int (-1), .ref tk, .null, .int 0, .int 0]))] := hD
    clear hPc hDc hKc hFc hP1 hD1 hk1 hz1 ht hvm
    have hw : (r_16 = 0 ∧ (xs 1).toInt = 0) ∨ (r_16 = -1 ∧ (xs 1).toInt ≠ 0) := hw
    rcases hw with ⟨hrr_16, hfr_16⟩ | ⟨hrr_16, hfr_16⟩
    · subst r_16
      exact False.elim (by omega)
    · subst r_16
      refine lv_icmp_eq (tgt := 1482) hx hb dL_law_302 (by decide) (fun c_17 => ?_) (fun c_17 => absurd c_17 (by decide))
      refine lv_iinc (v := 7) (lv' := [(4, .int 7), (3, .ref oo), (2, .ref mm), (1, .ref xx), (0, .ref b)]) hx hb dL_law_1482 hl (k := 0) rfl (by decide) (by decide) rfl (fun ls hl => ?_)
      refine lv_goto (tgt := 23) hx hb dL_law_1485 (by decide) ?_
      refine lv_iload hx hb dL_law_23 (lv_at hl 0 rfl) ?_
      refine lv_aload_n hx hb dL_law_25 rfl (lv_at hl 4 rfl) ?_
      refine va_slen hx hb hX hbl hbA hS dL_law_26 ?_
      refine lv_topi (fun z_18 ez_18 => ?_)
      obtain rfl : z_18 = 7 := ez_18.trans (by decide)
      refine lv_bipush (v := 7) hx hb dL_law_27 (by decide) ?_
      refine lv_isub hx hb dL_law_29 ?_
      refine lv_topi (fun z_19 ez_19 => ?_)
      obtain rfl : z_19 = 0 := ez_19.trans (by decide)
      refine lv_icmp_gt (tgt := 1488) hx hb dL_law_30 (by decide) (fun c_20 => ?_) (fun c_20 => absurd c_20 (by decide))
      refine lv_iconst (v := 1) hx hb dL_law_1488 (by decide) ?_
      refine va_forget (fun q hq => hAo _ (hS.2.2 q hq)) ?_
      refine W.widen (k := 600002) (n := 7302232) (Nat.le_of_ble_eq_true rfl) (Nat.le_of_ble_eq_true rfl) ?_
      exact lw_ret hx hb hr hlocks dL_law_1489
set_option maxHeartbeats 4000000 in
set_option maxRecDepth 100000 in
theorem law_op_3 {p : Program} {l : Launch} {e : Env} {s : State} {m : MethodId} {below : List Frame} {meth : Method} {c : Code} {dC : Nat → ClassId} {dI : Nat → Nat → Nat} {b : Nat} {xs : Nat → Int32} {A : Nat → Prop} (C0 : lw_At p s m meth c b 7 xs) (hA : ∀ q, s.heap.size ≤ q → A q) (hbA : ¬ A b) (hAo : ∀ q, A q → s.heap.size ≤ q) {xx : Nat} {rr : Nat} {ta : Nat} {tb : Nat} {pa : Nat} {pb : Nat} {cn : Nat} {ci : Nat} {cp : Nat} {ct : Nat} {hs : Nat} {rd : Nat} {wy : Nat} {ea : Nat} {eb : Nat} {ta_name : Nat} {ta_first : Nat} {ta_gain : Nat} {ta_rough : Nat} {ta_custom : Nat} {ta_part : Nat} {ta_whole : Nat} {ta_roundPerson : Nat} {ta_roundClock : Nat} {ta_roundHour : Nat} {ta_gunClock : Nat} {ta_gunHour : Nat} {tau : Nat} {mm : Nat} {mm_tape : Nat} {mm_number : Nat} {mm_clockName : Nat} {mm_clockOff : Nat} {mm_clockGain : Nat} {mm_clockRough : Nat} {mm_personName : Nat} {mm_personOff : Nat} {mm_personGain : Nat} {mm_personRough : Nat} {mm_custom : Nat} {mm_customA : Nat} {mm_customB : Nat} {mm_ruleFrom : Nat} {mm_ruleTo : Nat} {mm_roundOf : Nat} {mm_roundAt : Nat} {mm_roundHour : Nat} {mm_gunAt : Nat} {mm_gunHour : Nat} {mm_knotSort : Nat} {mm_knotValue : Nat} {mm_start : Nat} {mm_off : Nat} {mm_last : Nat} {mm_passed : Nat} {mm_kept : Nat} {mm_keptMany : Nat} {mm_history : Nat} {mm_names : Nat} {mm_worked : Nat} {mm_readThing : Nat} {mm_readHour : Nat} {mm_readLow : Nat} {mm_readHigh : Nat} {mm_imageOff : Nat} {mm_imageLast : Nat} {mm_imagePassed : Nat} {mm_imageKept : Nat} {mm_imageMany : Nat} {mm_imageHistory : Nat} {k_mm_number : ClassId} {oo : Nat} {H : Heap} {locs : List Loc} {ls : Array Slot} (hK : va_K (dC, dI) vwCl [(k_mm_number, .int)] s) (hP : va_P (dC, dI) vwCl [(xx, .inr (10, [.ref rr, .ref ta, .ref tb, .ref pa, .ref pb, .ref cn, .ref ci, .int 0, .ref cp, .ref ct, .ref hs, .ref rd, .ref wy, .ref ea, .ref eb])), (ta, .inr (8, [.int 0, .int 0, .int 0, .int 0, .int 0, .ref ta_name, .ref ta_first, .ref ta_gain, .ref ta_rough, .ref ta_custom, .ref ta_part, .ref ta_whole, .ref ta_roundPerson, .ref ta_roundClock, .ref ta_roundHour, .ref ta_gunClock, .ref ta_gunHour, .ref tau])), (mm, .inr (11, [.int 0, .ref mm_tape, .int 0, .ref mm_number, .ref mm_clockName, .ref mm_clockOff, .ref mm_clockGain, .ref mm_clockRough, .ref mm_personName, .ref mm_personOff, .ref mm_personGain, .ref mm_personRough, .ref mm_custom, .ref mm_customA, .ref mm_customB, .ref mm_ruleFrom, .ref mm_ruleTo, .ref mm_roundOf, .ref mm_roundAt, .ref mm_roundHour, .ref mm_gunAt, .ref mm_gunHour, .ref mm_knotSort, .ref mm_knotValue, .int 0, .int 0, .int 0, .int 0, .int 0, .int 0, .int 0, .int 0, .int 0, .int (-1), .int 0, .int 0, .int 0, .int 0, .int 0, .int 0, .int 0, .int 0, .int 0, .int 0, .int 0, .int 0, .ref mm_start, .ref mm_off, .ref mm_last, .ref mm_passed, .ref mm_kept, .ref mm_keptMany, .int 0, .int 0, .ref mm_history, .ref mm_names, .ref mm_worked, .int 0, .int 0, .int (-1), .ref mm_readThing, .ref mm_readHour, .ref mm_readLow, .ref mm_readHigh, .int 0, .int 0, .int 0, .ref mm_imageOff, .ref mm_imageLast, .ref mm_imagePassed, .ref mm_imageKept, .ref mm_imageMany, .ref mm_imageHistory])), (mm_number, .inl (k_mm_number, 10, .inl (fun _ => 0)))] H) (hD : va_D A [(xx, .inr (10, [.ref rr, .ref ta, .ref tb, .ref pa, .ref pb, .ref cn, .ref ci, .int 0, .ref cp, .ref ct, .ref hs, .ref rd, .ref wy, .ref ea, .ref eb])), (ta, .inr (8, [.int 0, .int 0, .int 0, .int 0, .int 0, .ref ta_name, .ref ta_first, .ref ta_gain, .ref ta_rough, .ref ta_custom, .ref ta_part, .ref ta_whole, .ref ta_roundPerson, .ref ta_roundClock, .ref ta_roundHour, .ref ta_gunClock, .ref ta_gunHour, .ref tau])), (mm, .inr (11, [.int 0, .ref mm_tape, .int 0, .ref mm_number, .ref mm_clockName, .ref mm_clockOff, .ref mm_clockGain, .ref mm_clockRough, .ref mm_personName, .ref mm_personOff, .ref mm_personGain, .ref mm_personRough, .ref mm_custom, .ref mm_customA, .ref mm_customB, .ref mm_ruleFrom, .ref mm_ruleTo, .ref mm_roundOf, .ref mm_roundAt, .ref mm_roundHour, .ref mm_gunAt, .ref mm_gunHour, .ref mm_knotSort, .ref mm_knotValue, .int 0, .int 0, .int 0, .int 0, .int 0, .int 0, .int 0, .int 0, .int 0, .int (-1), .int 0, .int 0, .int 0, .int 0, .int 0, .int 0, .int 0, .int 0, .int 0, .int 0, .int 0, .int 0, .ref mm_start, .ref mm_off, .ref mm_last, .ref mm_passed, .ref mm_kept, .ref mm_keptMany, .int 0, .int 0, .ref mm_history, .ref mm_names, .ref mm_worked, .int 0, .int 0, .int (-1), .ref mm_readThing, .ref mm_readHour, .ref mm_readLow, .ref mm_readHigh, .int 0, .int 0, .int 0, .ref mm_imageOff, .ref mm_imageLast, .ref mm_imagePassed, .ref mm_imageKept, .ref mm_imageMany, .ref mm_imageHistory])), (mm_number, .inl (k_mm_number, 10, .inl (fun _ => 0)))]) (hS : va_S A s.heap H locs) (hl : lv_has ls 7 [(4, .int 0), (3, .ref oo), (2, .ref mm), (1, .ref xx), (0, .ref b)]) : W p l e room_1 s m #[Value.ref b] below meth c H locs 160 67979 (lw_Z below #[Value.ref b] s) (F0 m 307 ls []) := by
  obtain ⟨hx, hb, hr, hml, hown, hts, hX, hbl, hlocks, hgv⟩ := C0
  have hT : ∀ w ∈ pw_T, w.before #[Value.ref b] s = true := fun w h => hts w (List.mem_filter.mp h).1
  have hown : s.vm.findClass RL = some m.cls := hown
  refine lv_aload_n hx hb dL_law_307 rfl (lv_at hl 3 rfl) ?_
  refine lv_aload_n hx hb dL_law_308 rfl (lv_at hl 4 rfl) ?_
  refine lv_iload hx hb dL_law_309 (lv_at hl 0 rfl) ?_
  refine lv_iconst (v := 1) hx hb dL_law_311 (by decide) ?_
  refine lv_iadd hx hb dL_law_312 ?_
  refine lv_topi (fun z_1 ez_1 => ?_)
  obtain rfl : z_1 = 1 := ez_1.trans (by decide)
  refine va_sld hx hb hX hbl hbA hS (pk_in 1 7 (by decide) (by decide) (by decide)) dL_law_313 ?_
  refine lv_topi (fun z_2 ez_2 => ?_)
  replace ez_2 : z_2 = xs 1 := ez_2
  subst z_2
  refine lv_aload_n hx hb dL_law_314 rfl (lv_at hl 4 rfl) ?_
  refine lv_iload hx hb dL_law_315 (lv_at hl 0 rfl) ?_
  refine lv_iconst (v := 2) hx hb dL_law_317 (by decide) ?_
  refine lv_iadd hx hb dL_law_318 ?_
  refine lv_topi (fun z_3 ez_3 => ?_)
  obtain rfl : z_3 = 2 := ez_3.trans (by decide)
  refine va_sld hx hb hX hbl hbA hS (pk_in 2 7 (by decide) (by decide) (by decide)) dL_law_319 ?_
  refine lv_topi (fun z_4 ez_4 => ?_)
  replace ez_4 : z_4 = xs 2 := ez_4
  subst z_4
  have hPc := hP.sub (ws' := [(xx, .inr (10, [.ref rr, .ref ta, .ref tb, .ref pa, .ref pb, .ref cn, .ref ci, .int 0, .ref cp, .ref ct, .ref hs, .ref rd, .ref wy, .ref ea, .ref eb])), (ta, .inr (8, [.int 0, .int 0, .int 0, .int 0, .int 0, .ref ta_name, .ref ta_first, .ref ta_gain, .ref ta_rough, .ref ta_custom, .ref ta_part, .ref ta_whole, .ref ta_roundPerson, .ref ta_roundClock, .ref ta_roundHour, .ref ta_gunClock, .ref ta_gunHour, .ref tau]))]) [0, 1] rfl
  have hDc := hD.sub (ws' := [(xx, .inr (10, [.ref rr, .ref ta, .ref tb, .ref pa, .ref pb, .ref cn, .ref ci, .int 0, .ref cp, .ref ct, .ref hs, .ref rd, .ref wy, .ref ea, .ref eb])), (ta, .inr (8, [.int 0, .int 0, .int 0, .int 0, .int 0, .ref ta_name, .ref ta_first, .ref ta_gain, .ref ta_rough, .ref ta_custom, .ref ta_part, .ref ta_whole, .ref ta_roundPerson, .ref ta_roundClock, .ref ta_roundHour, .ref ta_gunClock, .ref ta_gunHour, .ref tau]))]) [0, 1] (by decide) rfl
  have hKc := hK.sub (tys' := []) [] rfl
  have hFc := va_free (wc := [(xx, .inr (10, [.ref rr, .ref ta, .ref tb, .ref pa, .ref pb, .ref cn, .ref ci, .int 0, .ref cp, .ref ct, .ref hs, .ref rd, .ref wy, .ref ea, .ref eb])), (ta, .inr (8, [.int 0, .int 0, .int 0, .int 0, .int 0, .ref ta_name, .ref ta_first, .ref ta_gain, .ref ta_rough, .ref ta_custom, .ref ta_part, .ref ta_whole, .ref ta_roundPerson, .ref ta_roundClock, .ref ta_roundHour, .ref ta_gunClock, .ref ta_gunHour, .ref tau]))]) hD hS hA [0, 1] rfl
  refine va_calli (va_runV (As := [.int (xs 1), .int (xs 2)]) (rest := []) ⟨hx, hb, hml, hown, hT⟩ (c_X10_named l dC dI H.size xx (xs 1) (xs 2) rr ta tb pa pb cn ci (0 : Int32) cp ct hs rd wy ea eb (0 : Int32) (0 : Int32) (0 : Int32) ta_name ta_first ta_gain ta_rough ta_custom ta_part ta_whole ta_roundPerson ta_roundClock ta_roundHour ta_gunClock ta_gunHour tau ) (cwV 2 hT (gwV mw_4_31 mw_4_32 mw_4_33 mw_1_1 mw_4_34) rfl rfl rfl (by decide +kernel) ⟨Nat.le_of_ble_eq_true rfl, Nat.le_of_ble_eq_true rfl⟩) ⟨fun a U g mk q => by obtain ⟨q0, q1, qP, qK, qD⟩ := q; exact ⟨q0, q1, qP, va_K.moved (u := U) (U := U.calling g mk a) (Vm.Alike.refl U.vm) qK, qD⟩, va_recv hK hP (ci := 10) (q0 := 0) rfl rfl, fun U hU hW => ⟨rfl, by rw [hU], by rw [hU]; exact hPc, va_K.moved hW.alike hKc, hDc.weaken (fun _ _ _ _ => trivial)⟩⟩ rfl rfl hl.1 rfl (lv_room (Nat.le_of_ble_eq_true rfl)) dL_law_320 ⟨Nat.le_of_ble_eq_true rfl, Nat.le_of_ble_eq_true rfl⟩) hS (fun q _ h => hFc q h) hFc (fun r_6 u t H1 locs ht hvm hw hB hz1 hk1 hS => ?_)
  obtain ⟨hP1, hD1⟩ := hB
  rw [ht] at hP1
  obtain ⟨hP, hD⟩ := va_join (wr := [(mm, .inr (11, [.int 0, .ref mm_tape, .int 0, .ref mm_number, .ref mm_clockName, .ref mm_clockOff, .ref mm_clockGain, .ref mm_clockRough, .ref mm_personName, .ref mm_personOff, .ref mm_personGain, .ref mm_personRough, .ref mm_custom, .ref mm_customA, .ref mm_customB, .ref mm_ruleFrom, .ref mm_ruleTo, .ref mm_roundOf, .ref mm_roundAt, .ref mm_roundHour, .ref mm_gunAt, .ref mm_gunHour, .ref mm_knotSort, .ref mm_knotValue, .int 0, .int 0, .int 0, .int 0, .int 0, .int 0, .int 0, .int 0, .int 0, .int (-1), .int 0, .int 0, .int 0, .int 0, .int 0, .int 0, .int 0, .int 0, .int 0, .int 0, .int 0, .int 0, .ref mm_start, .ref mm_off, .ref mm_last, .ref mm_passed, .ref mm_kept, .ref mm_keptMany, .int 0, .int 0, .ref mm_history, .ref mm_names, .ref mm_worked, .int 0, .int 0, .int (-1), .ref mm_readThing, .ref mm_readHour, .ref mm_readLow, .ref mm_readHigh, .int 0, .int 0, .int 0, .ref mm_imageOff, .ref mm_imageLast, .ref mm_imagePassed, .ref mm_imageKept, .ref mm_imageMany, .ref mm_imageHistory])), (mm_number, .inl (k_mm_number, 10, .inl (fun _ => 0)))]) (w1 := [(xx, .inr (10, [.ref rr, .ref ta, .ref tb, .ref pa, .ref pb, .ref cn, .ref ci, .int 0, .ref cp, .ref ct, .ref hs, .ref rd, .ref wy, .ref ea, .ref eb])), (ta, .inr (8, [.int 0, .int 0, .int 0, .int 0, .int 0, .ref ta_name, .ref ta_first, .ref ta_gain, .ref ta_rough, .ref ta_custom, .ref ta_part, .ref ta_whole, .ref ta_roundPerson, .ref ta_roundClock, .ref ta_roundHour, .ref ta_gunClock, .ref ta_gunHour, .ref tau]))]) hP hD [0, 1] [2, 3] rfl rfl (by decide) (by decide) hk1 hFc hP1 hD1
  generalize H1 = H at hP hS ⊢
  have hP : va_P (dC, dI) vwCl [(mm, .inr (11, [.int 0, .ref mm_tape, .int 0, .ref mm_number, .ref mm_clockName, .ref mm_clockOff, .ref mm_clockGain, .ref mm_clockRough, .ref mm_personName, .ref mm_personOff, .ref mm_personGain, .ref mm_personRough, .ref mm_custom, .ref mm_customA, .ref mm_customB, .ref mm_ruleFrom, .ref mm_ruleTo, .ref mm_roundOf, .ref mm_roundAt, .ref mm_roundHour, .ref mm_gunAt, .ref mm_gunHour, .ref mm_knotSort, .ref mm_knotValue, .int 0, .int 0, .int 0, .int 0, .int 0, .int 0, .int 0, .int 0, .int 0, .int (-1), .int 0, .int 0, .int 0, .int 0, .int 0, .int 0, .int 0, .int 0, .int 0, .int 0, .int 0, .int 0, .ref mm_start, .ref mm_off, .ref mm_last, .ref mm_passed, .ref mm_kept, .ref mm_keptMany, .int 0, .int 0, .ref mm_history, .ref mm_names, .ref mm_worked, .int 0, .int 0, .int (-1), .ref mm_readThing, .ref mm_readHour, .ref mm_readLow, .ref mm_readHigh, .int 0, .int 0, .int 0, .ref mm_imageOff, .ref mm_imageLast, .ref mm_imagePassed, .ref mm_imageKept, .ref mm_imageMany, .ref mm_imageHistory])), (mm_number, .inl (k_mm_number, 10, .inl (fun _ => 0))), (xx, .inr (10, [.ref rr, .ref ta, .ref tb, .ref pa, .ref pb, .ref cn, .ref ci, .int 0, .ref cp, .ref ct, .ref hs, .ref rd, .ref wy, .ref ea, .ref eb])), (ta, .inr (8, [.int 0, .int 0, .int 0, .int 0, .int 0, .ref ta_name, .ref ta_first, .ref ta_gain, .ref ta_rough, .ref ta_custom, .ref ta_part, .ref ta_whole, .ref ta_roundPerson, .ref ta_roundClock, .ref ta_roundHour, .ref ta_gunClock, .ref ta_gunHour, .ref tau]))] H := hP
  have hD : va_D A [(mm, .inr (11, [.int 0, .ref mm_tape, .int 0, .ref mm_number, .ref mm_clockName, .ref mm_clockOff, .ref mm_clockGain, .ref mm_clockRough, .ref mm_personName, .ref mm_personOff, .ref mm_personGain, .ref mm_personRough, .ref mm_custom, .ref mm_customA, .ref mm_customB, .ref mm_ruleFrom, .ref mm_ruleTo, .ref mm_roundOf, .ref mm_roundAt, .ref mm_roundHour, .ref mm_gunAt, .ref mm_gunHour, .ref mm_knotSort, .ref mm_knotValue, .int 0, .int 0, .int 0, .int 0, .int 0, .int 0, .int 0, .int 0, .int 0, .int (-1), .int 0, .int 0, .int 0, .int 0, .int 0, .int 0, .int 0, .int 0, .int 0, .int 0, .int 0, .int 0, .ref mm_start, .ref mm_off, .ref mm_last, .ref mm_passed, .ref mm_kept, .ref mm_keptMany, .int 0, .int 0, .ref mm_history, .ref mm_names, .ref mm_worked, .int 0, .int 0, .int (-1), .ref mm_readThing, .ref mm_readHour, .ref mm_readLow, .ref mm_readHigh, .int 0, .int 0, .int 0, .ref mm_imageOff, .ref mm_imageLast, .ref mm_imagePassed, .ref mm_imageKept, .ref mm_imageMany, .ref mm_imageHistory])), (mm_number, .inl (k_mm_number, 10, .inl (fun _ => 0))), (xx, .inr (10, [.ref rr, .ref ta, .ref tb, .ref pa, .ref pb, .ref cn, .ref ci, .int 0, .ref cp, .ref ct, .ref hs, .ref rd, .ref wy, .ref ea, .ref eb])), (ta, .inr (8, [.int 0, .int 0, .int 0, .int 0, .int 0, .ref ta_name, .ref ta_first, .ref ta_gain, .ref ta_rough, .ref ta_custom, .ref ta_part, .ref ta_whole, .ref ta_roundPerson, .ref ta_roundClock, .ref ta_roundHour, .ref ta_gunClock, .ref ta_gunHour, .ref tau]))] := hD
  clear hPc hDc hKc hFc hP1 hD1 hk1 hz1 ht hvm
  have hw : r_6 = -1 := hw
  subst r_6
  refine lv_aload_n hx hb dL_law_323 rfl (lv_at hl 2 rfl) ?_
  refine lv_aload_n hx hb dL_law_324 rfl (lv_at hl 4 rfl) ?_
  refine lv_iload hx hb dL_law_325 (lv_at hl 0 rfl) ?_
  refine lv_iconst (v := 1) hx hb dL_law_327 (by decide) ?_
  refine lv_iadd hx hb dL_law_328 ?_
  refine lv_topi (fun z_7 ez_7 => ?_)
  obtain rfl : z_7 = 1 := ez_7.trans (by decide)
  refine va_sld hx hb hX hbl hbA hS (pk_in 1 7 (by decide) (by decide) (by decide)) dL_law_329 ?_
  refine lv_topi (fun z_8 ez_8 => ?_)
  replace ez_8 : z_8 = xs 1 := ez_8
  subst z_8
  refine lv_aload_n hx hb dL_law_330 rfl (lv_at hl 4 rfl) ?_
  refine lv_iload hx hb dL_law_331 (lv_at hl 0 rfl) ?_
  refine lv_iconst (v := 2) hx hb dL_law_333 (by decide) ?_
  refine lv_iadd hx hb dL_law_334 ?_
  refine lv_topi (fun z_9 ez_9 => ?_)
  obtain rfl : z_9 = 2 := ez_9.trans (by decide)
  refine va_sld hx hb hX hbl hbA hS (pk_in 2 7 (by decide) (by decide) (by decide)) dL_law_335 ?_
  refine lv_topi (fun z_10 ez_10 => ?_)
  replace ez_10 : z_10 = xs 2 := ez_10
  subst z_10
  have hPc := hP.sub (ws' := [(mm, .inr (11, [.int 0, .ref mm_tape, .int 0, .ref mm_number, .ref mm_clockName, .ref mm_clockOff, .ref mm_clockGain, .ref mm_clockRough, .ref mm_personName, .ref mm_personOff, .ref mm_personGain, .ref mm_personRough, .ref mm_custom, .ref mm_customA, .ref mm_customB, .ref mm_ruleFrom, .ref mm_ruleTo, .ref mm_roundOf, .ref mm_roundAt, .ref mm_roundHour, .ref mm_gunAt, .ref mm_gunHour, .ref mm_knotSort, .ref mm_knotValue, .int 0, .int 0, .int 0, .int 0, .int 0, .int 0, .int 0, .int 0, .int 0, .int (-1), .int 0, .int 0, .int 0, .int 0, .int 0, .int 0, .int 0, .int 0, .int 0, .int 0, .int 0, .int 0, .ref mm_start, .ref mm_off, .ref mm_last, .ref mm_passed, .ref mm_kept, .ref mm_keptMany, .int 0, .int 0, .ref mm_history, .ref mm_names, .ref mm_worked, .int 0, .int 0, .int (-1), .ref mm_readThing, .ref mm_readHour, .ref mm_readLow, .ref mm_readHigh, .int 0, .int 0, .int 0, .ref mm_imageOff, .ref mm_imageLast, .ref mm_imagePassed, .ref mm_imageKept, .ref mm_imageMany, .ref mm_imageHistory])), (mm_number, .inl (k_mm_number, 10, .inl (fun _ => 0)))]) [0, 1] rfl
  have hDc := hD.sub (ws' := [(mm, .inr (11, [.int 0, .ref mm_tape, .int 0, .ref mm_number, .ref mm_clockName, .ref mm_clockOff, .ref mm_clockGain, .ref mm_clockRough, .ref mm_personName, .ref mm_personOff, .ref mm_personGain, .ref mm_personRough, .ref mm_custom, .ref mm_customA, .ref mm_customB, .ref mm_ruleFrom, .ref mm_ruleTo, .ref mm_roundOf, .ref mm_roundAt, .ref mm_roundHour, .ref mm_gunAt, .ref mm_gunHour, .ref mm_knotSort, .ref mm_knotValue, .int 0, .int 0, .int 0, .int 0, .int 0, .int 0, .int 0, .int 0, .int 0, .int (-1), .int 0, .int 0, .int 0, .int 0, .int 0, .int 0, .int 0, .int 0, .int 0, .int 0, .int 0, .int 0, .ref mm_start, .ref mm_off, .ref mm_last, .ref mm_passed, .ref mm_kept, .ref mm_keptMany, .int 0, .int 0, .ref mm_history, .ref mm_names, .ref mm_worked, .int 0, .int 0, .int (-1), .ref mm_readThing, .ref mm_readHour, .ref mm_readLow, .ref mm_readHigh, .int 0, .int 0, .int 0, .ref mm_imageOff, .ref mm_imageLast, .ref mm_imagePassed, .ref mm_imageKept, .ref mm_imageMany, .ref mm_imageHistory])), (mm_number, .inl (k_mm_number, 10, .inl (fun _ => 0)))]) [0, 1] (by decide) rfl
  have hKc := hK.sub (tys' := [(k_mm_number, .int)]) [0] rfl
  have hFc := va_free (wc := [(mm, .inr (11, [.int 0, .ref mm_tape, .int 0, .ref mm_number, .ref mm_clockName, .ref mm_clockOff, .ref mm_clockGain, .ref mm_clockRough, .ref mm_personName, .ref mm_personOff, .ref mm_personGain, .ref mm_personRough, .ref mm_custom, .ref mm_customA, .ref mm_customB, .ref mm_ruleFrom, .ref mm_ruleTo, .ref mm_roundOf, .ref mm_roundAt, .ref mm_roundHour, .ref mm_gunAt, .ref mm_gunHour, .ref mm_knotSort, .ref mm_knotValue, .int 0, .int 0, .int 0, .int 0, .int 0, .int 0, .int 0, .int 0, .int 0, .int (-1), .int 0, .int 0, .int 0, .int 0, .int 0, .int 0, .int 0, .int 0, .int 0, .int 0, .int 0, .int 0, .ref mm_start, .ref mm_off, .ref mm_last, .ref mm_passed, .ref mm_kept, .ref mm_keptMany, .int 0, .int 0, .ref mm_history, .ref mm_names, .ref mm_worked, .int 0, .int 0, .int (-1), .ref mm_readThing, .ref mm_readHour, .ref mm_readLow, .ref mm_readHigh, .int 0, .int 0, .int 0, .ref mm_imageOff, .ref mm_imageLast, .ref mm_imagePassed, .ref mm_imageKept, .ref mm_imageMany, .ref mm_imageHistory])), (mm_number, .inl (k_mm_number, 10, .inl (fun _ => 0)))]) hD hS hA [0, 1] rfl
  have := (by decide : (0 : Int32).toInt = 0)
  have := (by decide : (0 : Int32).toInt = 0)
  have := (by decide : (0 : Int32).toInt = 0)
  have := (by decide : (0 : Int32).toInt = 0)
  have := (by decide : (0 : Int32).toInt = 0)
  have := (by decide : (0 : Int32).toInt = 0)
  have := (by decide : (0 : Int32).toInt = 0)
  have := (by decide : (0 : Int32).toInt = 0)
  have := (by decide : (0 : Int32).toInt = 0)
  have := (by decide : (0 : Int32).toInt = 0)
  have := (by decide : (0 : Int32).toInt = 0)
  have := (by decide : ((-1) : Int32).toInt = -1)
  have := (by decide : (0 : Int32).toInt = 0)
  have := (by decide : (0 : Int32).toInt = 0)
  have := (by decide : (0 : Int32).toInt = 0)
  have := (by decide : (0 : Int32).toInt = 0)
  have := (by decide : (0 : Int32).toInt = 0)
  have := (by decide : (0 : Int32).toInt = 0)
  have := (by decide : (0 : Int32).toInt = 0)
  have := (by decide : (0 : Int32).toInt = 0)
  have := (by decide : (0 : Int32).toInt = 0)
  have := (by decide : (0 : Int32).toInt = 0)
  have := (by decide : (0 : Int32).toInt = 0)
  have := (by decide : (0 : Int32).toInt = 0)
  have := (by decide : (0 : Int32).toInt = 0)
  have := (by decide : (0 : Int32).toInt = 0)
  have := (by decide : (0 : Int32).toInt = 0)
  have := (by decide : (0 : Int32).toInt = 0)
  have := (by decide : ((-1) : Int32).toInt = -1)
  have := (by decide : (0 : Int32).toInt = 0)
  have := (by decide : (0 : Int32).toInt = 0)
  have := (by decide : (0 : Int32).toInt = 0)
  refine va_calli (va_runV (As := [.int (xs 1), .int (xs 2)]) (rest := [.int (-1)]) ⟨hx, hb, hml, hown, hT⟩ (c_X11_named l dC dI H.size mm (xs 1) (xs 2) (0 : Int32) mm_tape (0 : Int32) mm_number mm_clockName mm_clockOff mm_clockGain mm_clockRough mm_personName mm_personOff mm_personGain mm_personRough mm_custom mm_customA mm_customB mm_ruleFrom mm_ruleTo mm_roundOf mm_roundAt mm_roundHour mm_gunAt mm_gunHour mm_knotSort mm_knotValue (0 : Int32) (0 : Int32) (0 : Int32) (0 : Int32) (0 : Int32) (0 : Int32) (0 : Int32) (0 : Int32) (0 : Int32) ((-1) : Int32) (0 : Int32) (0 : Int32) (0 : Int32) (0 : Int32) (0 : Int32) (0 : Int32) (0 : Int32) (0 : Int32) (0 : Int32) (0 : Int32) (0 : Int32) (0 : Int32) mm_start mm_off mm_last mm_passed mm_kept mm_keptMany (0 : Int32) (0 : Int32) mm_history mm_names mm_worked (0 : Int32) (0 : Int32) ((-1) : Int32) mm_readThing mm_readHour mm_readLow mm_readHigh (0 : Int32) (0 : Int32) (0 : Int32) mm_imageOff mm_imageLast mm_imagePassed mm_imageKept mm_imageMany mm_imageHistory k_mm_number (fun _ => 0) (fun _ => rfl)) (cwV 2 hT (gwV mw_7_154 mw_7_155 mw_7_156 mw_1_16 mw_7_157) rfl rfl rfl (by decide +kernel) ⟨Nat.le_of_ble_eq_true rfl, Nat.le_of_ble_eq_true rfl⟩) ⟨fun a U g mk q => by obtain ⟨q0, q1, qP, qK, qD⟩ := q; exact ⟨q0, q1, qP, va_K.moved (u := U) (U := U.calling g mk a) (Vm.Alike.refl U.vm) qK, qD⟩, va_recv hK hP (ci := 11) (q0 := 0) rfl rfl, fun U hU hW => ⟨rfl, by rw [hU], by rw [hU]; exact hPc, va_K.moved hW.alike hKc, hDc.weaken (fun _ _ _ _ => trivial)⟩⟩ rfl rfl hl.1 rfl (lv_room (Nat.le_of_ble_eq_true rfl)) dL_law_336 ⟨Nat.le_of_ble_eq_true rfl, Nat.le_of_ble_eq_true rfl⟩) hS (fun q _ h => hFc q h) hFc (fun r_12 u t H1 locs ht hvm hw hB hz1 hk1 hS => ?_)
  obtain ⟨hP1, hD1⟩ := hB
  rw [ht] at hP1
  obtain ⟨hP, hD⟩ := va_join (wr := [(xx, .inr (10, [.ref rr, .ref ta, .ref tb, .ref pa, .ref pb, .ref cn, .ref ci, .int 0, .ref cp, .ref ct, .ref hs, .ref rd, .ref wy, .ref ea, .ref eb])), (ta, .inr (8, [.int 0, .int 0, .int 0, .int 0, .int 0, .ref ta_name, .ref ta_first, .ref ta_gain, .ref ta_rough, .ref ta_custom, .ref ta_part, .ref ta_whole, .ref ta_roundPerson, .ref ta_roundClock, .ref ta_roundHour, .ref ta_gunClock, .ref ta_gunHour, .ref tau]))]) (w1 := [(mm, .inr (11, [.int 0, .ref mm_tape, .int 0, .ref mm_number, .ref mm_clockName, .ref mm_clockOff, .ref mm_clockGain, .ref mm_clockRough, .ref mm_personName, .ref mm_personOff, .ref mm_personGain, .ref mm_personRough, .ref mm_custom, .ref mm_customA, .ref mm_customB, .ref mm_ruleFrom, .ref mm_ruleTo, .ref mm_roundOf, .ref mm_roundAt, .ref mm_roundHour, .ref mm_gunAt, .ref mm_gunHour, .ref mm_knotSort, .ref mm_knotValue, .int 0, .int 0, .int 0, .int 0, .int 0, .int 0, .int 0, .int 0, .int 0, .int (-1), .int 0, .int 0, .int 0, .int 0, .int 0, .int 0, .int 0, .int 0, .int 0, .int 0, .int 0, .int 0, .ref mm_start, .ref mm_off, .ref mm_last, .ref mm_passed, .ref mm_kept, .ref mm_keptMany, .int 0, .int 0, .ref mm_history, .ref mm_names, .ref mm_worked, .int 0, .int 0, .int (-1), .ref mm_readThing, .ref mm_readHour, .ref mm_readLow, .ref mm_readHigh, .int 0, .int 0, .int 0, .ref mm_imageOff, .ref mm_imageLast, .ref mm_imagePassed, .ref mm_imageKept, .ref mm_imageMany, .ref mm_imageHistory])), (mm_number, .inl (k_mm_number, 10, .inl (fun _ => 0)))]) hP hD [0, 1] [2, 3] rfl rfl (by decide) (by decide) hk1 hFc hP1 hD1
  generalize H1 = H at hP hS ⊢
  have hP : va_P (dC, dI) vwCl [(xx, .inr (10, [.ref rr, .ref ta, .ref tb, .ref pa, .ref pb, .ref cn, .ref ci, .int 0, .ref cp, .ref ct, .ref hs, .ref rd, .ref wy, .ref ea, .ref eb])), (ta, .inr (8, [.int 0, .int 0, .int 0, .int 0, .int 0, .ref ta_name, .ref ta_first, .ref ta_gain, .ref ta_rough, .ref ta_custom, .ref ta_part, .ref ta_whole, .ref ta_roundPerson, .ref ta_roundClock, .ref ta_roundHour, .ref ta_gunClock, .ref ta_gunHour, .ref tau])), (mm, .inr (11, [.int 0, .ref mm_tape, .int 0, .ref mm_number, .ref mm_clockName, .ref mm_clockOff, .ref mm_clockGain, .ref mm_clockRough, .ref mm_personName, .ref mm_personOff, .ref mm_personGain, .ref mm_personRough, .ref mm_custom, .ref mm_customA, .ref mm_customB, .ref mm_ruleFrom, .ref mm_ruleTo, .ref mm_roundOf, .ref mm_roundAt, .ref mm_roundHour, .ref mm_gunAt, .ref mm_gunHour, .ref mm_knotSort, .ref mm_knotValue, .int 0, .int 0, .int 0, .int 0, .int 0, .int 0, .int 0, .int 0, .int 0, .int (-1), .int 0, .int 0, .int 0, .int 0, .int 0, .int 0, .int 0, .int 0, .int 0, .int 0, .int 0, .int 0, .ref mm_start, .ref mm_off, .ref mm_last, .ref mm_passed, .ref mm_kept, .ref mm_keptMany, .int 0, .int 0, .ref mm_history, .ref mm_names, .ref mm_worked, .int 0, .int 0, .int (-1), .ref mm_readThing, .ref mm_readHour, .ref mm_readLow, .ref mm_readHigh, .int 0, .int 0, .int 0, .ref mm_imageOff, .ref mm_imageLast, .ref mm_imagePassed, .ref mm_imageKept, .ref mm_imageMany, .ref mm_imageHistory])), (mm_number, .inl (k_mm_number, 10, .inl (fun _ => 0)))] H := hP
  have hD : va_D A [(xx, .inr (10, [.ref rr, .ref ta, .ref tb, .ref pa, .ref pb, .ref cn, .ref ci, .int 0, .ref cp, .ref ct, .ref hs, .ref rd, .ref wy, .ref ea, .ref eb])), (ta, .inr (8, [.int 0, .int 0, .int 0, .int 0, .int 0, .ref ta_name, .ref ta_first, .ref ta_gain, .ref ta_rough, .ref ta_custom, .ref ta_part, .ref ta_whole, .ref ta_roundPerson, .ref ta_roundClock, .ref ta_roundHour, .ref ta_gunClock, .ref ta_gunHour, .ref tau])), (mm, .inr (11, [.int 0, .ref mm_tape, .int 0, .ref mm_number, .ref mm_clockName, .ref mm_clockOff, .ref mm_clockGain, .ref mm_clockRough, .ref mm_personName, .ref mm_personOff, .ref mm_personGain, .ref mm_personRough, .ref mm_custom, .ref mm_customA, .ref mm_customB, .ref mm_ruleFrom, .ref mm_ruleTo, .ref mm_roundOf, .ref mm_roundAt, .ref mm_roundHour, .ref mm_gunAt, .ref mm_gunHour, .ref mm_knotSort, .ref mm_knotValue, .int 0, .int 0, .int 0, .int 0, .int 0, .int 0, .int 0, .int 0, .int 0, .int (-1), .int 0, .int 0, .int 0, .int 0, .int 0, .int 0, .int 0, .int 0, .int 0, .int 0, .int 0, .int 0, .ref mm_start, .ref mm_off, .ref mm_last, .ref mm_passed, .ref mm_kept, .ref mm_keptMany, .int 0, .int 0, .ref mm_history, .ref mm_names, .ref mm_worked, .int 0, .int 0, .int (-1), .ref mm_readThing, .ref mm_readHour, .ref mm_readLow, .ref mm_readHigh, .int 0, .int 0, .int 0, .ref mm_imageOff, .ref mm_imageLast, .ref mm_imagePassed, .ref mm_imageKept, .ref mm_imageMany, .ref mm_imageHistory])), (mm_number, .inl (k_mm_number, 10, .inl (fun _ => 0)))] := hD
  clear hPc hDc hKc hFc hP1 hD1 hk1 hz1 ht hvm
  have hw : r_12 = -1 := hw
  subst r_12
  refine lv_icmp_eq (tgt := 1482) hx hb dL_law_339 (by decide) (fun c_13 => ?_) (fun c_13 => absurd c_13 (by decide))
  refine lv_iinc (v := 7) (lv' := [(4, .int 7), (3, .ref oo), (2, .ref mm), (1, .ref xx), (0, .ref b)]) hx hb dL_law_1482 hl (k := 0) rfl (by decide) (by decide) rfl (fun ls hl => ?_)
  refine lv_goto (tgt := 23) hx hb dL_law_1485 (by decide) ?_
  refine lv_iload hx hb dL_law_23 (lv_at hl 0 rfl) ?_
  refine lv_aload_n hx hb dL_law_25 rfl (lv_at hl 4 rfl) ?_
  refine va_slen hx hb hX hbl hbA hS dL_law_26 ?_
  refine lv_topi (fun z_14 ez_14 => ?_)
  obtain rfl : z_14 = 7 := ez_14.trans (by decide)
  refine lv_bipush (v := 7) hx hb dL_law_27 (by decide) ?_
  refine lv_isub hx hb dL_law_29 ?_
  refine lv_topi (fun z_15 ez_15 => ?_)
  obtain rfl : z_15 = 0 := ez_15.trans (by decide)
  refine lv_icmp_gt (tgt := 1488) hx hb dL_law_30 (by decide) (fun c_16 => ?_) (fun c_16 => absurd c_16 (by decide))
  refine lv_iconst (v := 1) hx hb dL_law_1488 (by decide) ?_
  refine va_forget (fun q hq => hAo _ (hS.2.2 q hq)) ?_
  refine W.widen (k := 600002) (n := 7302232) (Nat.le_of_ble_eq_true rfl) (Nat.le_of_ble_eq_true rfl) ?_
  exact lw_ret hx hb hr hlocks dL_law_1489
set_option maxHeartbeats 4000000 in
set_option maxRecDepth 100000 in
theorem law_op_5 {p : Program} {l : Launch} {e : Env} {s : State} {m : MethodId} {below : List Frame} {meth : Method} {c : Code} {dC : Nat → ClassId} {dI : Nat → Nat → Nat} {b : Nat} {xs : Nat → Int32} {A : Nat → Prop} (C0 : lw_At p s m meth c b 7 xs) (hA : ∀ q, s.heap.size ≤ q → A q) (hbA : ¬ A b) (hAo : ∀ q, A q → s.heap.size ≤ q) {xx : Nat} {rr : Nat} {ta : Nat} {tb : Nat} {pa : Nat} {pb : Nat} {cn : Nat} {ci : Nat} {cp : Nat} {ct : Nat} {hs : Nat} {rd : Nat} {wy : Nat} {ea : Nat} {eb : Nat} {ta_name : Nat} {ta_first : Nat} {ta_gain : Nat} {ta_rough : Nat} {ta_custom : Nat} {ta_part : Nat} {ta_whole : Nat} {ta_roundPerson : Nat} {ta_roundClock : Nat} {ta_roundHour : Nat} {ta_gunClock : Nat} {ta_gunHour : Nat} {tau : Nat} {mm : Nat} {mm_tape : Nat} {mm_number : Nat} {mm_clockName : Nat} {mm_clockOff : Nat} {mm_clockGain : Nat} {mm_clockRough : Nat} {mm_personName : Nat} {mm_personOff : Nat} {mm_personGain : Nat} {mm_personRough : Nat} {mm_custom : Nat} {mm_customA : Nat} {mm_customB : Nat} {mm_ruleFrom : Nat} {mm_ruleTo : Nat} {mm_roundOf : Nat} {mm_roundAt : Nat} {mm_roundHour : Nat} {mm_gunAt : Nat} {mm_gunHour : Nat} {mm_knotSort : Nat} {mm_knotValue : Nat} {mm_start : Nat} {mm_off : Nat} {mm_last : Nat} {mm_passed : Nat} {mm_kept : Nat} {mm_keptMany : Nat} {mm_history : Nat} {mm_names : Nat} {mm_worked : Nat} {mm_readThing : Nat} {mm_readHour : Nat} {mm_readLow : Nat} {mm_readHigh : Nat} {mm_imageOff : Nat} {mm_imageLast : Nat} {mm_imagePassed : Nat} {mm_imageKept : Nat} {mm_imageMany : Nat} {mm_imageHistory : Nat} {k_mm_number : ClassId} {oo : Nat} {H : Heap} {locs : List Loc} {ls : Array Slot} (hK : va_K (dC, dI) vwCl [(k_mm_number, .int)] s) (hP : va_P (dC, dI) vwCl [(xx, .inr (10, [.ref rr, .ref ta, .ref tb, .ref pa, .ref pb, .ref cn, .ref ci, .int 0, .ref cp, .ref ct, .ref hs, .ref rd, .ref wy, .ref ea, .ref eb])), (ta, .inr (8, [.int 0, .int 0, .int 0, .int 0, .int 0, .ref ta_name, .ref ta_first, .ref ta_gain, .ref ta_rough, .ref ta_custom, .ref ta_part, .ref ta_whole, .ref ta_roundPerson, .ref ta_roundClock, .ref ta_roundHour, .ref ta_gunClock, .ref ta_gunHour, .ref tau])), (mm, .inr (11, [.int 0, .ref mm_tape, .int 0, .ref mm_number, .ref mm_clockName, .ref mm_clockOff, .ref mm_clockGain, .ref mm_clockRough, .ref mm_personName, .ref mm_personOff, .ref mm_personGain, .ref mm_personRough, .ref mm_custom, .ref mm_customA, .ref mm_customB, .ref mm_ruleFrom, .ref mm_ruleTo, .ref mm_roundOf, .ref mm_roundAt, .ref mm_roundHour, .ref mm_gunAt, .ref mm_gunHour, .ref mm_knotSort, .ref mm_knotValue, .int 0, .int 0, .int 0, .int 0, .int 0, .int 0, .int 0, .int 0, .int 0, .int (-1), .int 0, .int 0, .int 0, .int 0, .int 0, .int 0, .int 0, .int 0, .int 0, .int 0, .int 0, .int 0, .ref mm_start, .ref mm_off, .ref mm_last, .ref mm_passed, .ref mm_kept, .ref mm_keptMany, .int 0, .int 0, .ref mm_history, .ref mm_names, .ref mm_worked, .int 0, .int 0, .int (-1), .ref mm_readThing, .ref mm_readHour, .ref mm_readLow, .ref mm_readHigh, .int 0, .int 0, .int 0, .ref mm_imageOff, .ref mm_imageLast, .ref mm_imagePassed, .ref mm_imageKept, .ref mm_imageMany, .ref mm_imageHistory])), (mm_number, .inl (k_mm_number, 10, .inl (fun _ => 0)))] H) (hD : va_D A [(xx, .inr (10, [.ref rr, .ref ta, .ref tb, .ref pa, .ref pb, .ref cn, .ref ci, .int 0, .ref cp, .ref ct, .ref hs, .ref rd, .ref wy, .ref ea, .ref eb])), (ta, .inr (8, [.int 0, .int 0, .int 0, .int 0, .int 0, .ref ta_name, .ref ta_first, .ref ta_gain, .ref ta_rough, .ref ta_custom, .ref ta_part, .ref ta_whole, .ref ta_roundPerson, .ref ta_roundClock, .ref ta_roundHour, .ref ta_gunClock, .ref ta_gunHour, .ref tau])), (mm, .inr (11, [.int 0, .ref mm_tape, .int 0, .ref mm_number, .ref mm_clockName, .ref mm_clockOff, .ref mm_clockGain, .ref mm_clockRough, .ref mm_personName, .ref mm_personOff, .ref mm_personGain, .ref mm_personRough, .ref mm_custom, .ref mm_customA, .ref mm_customB, .ref mm_ruleFrom, .ref mm_ruleTo, .ref mm_roundOf, .ref mm_roundAt, .ref mm_roundHour, .ref mm_gunAt, .ref mm_gunHour, .ref mm_knotSort, .ref mm_knotValue, .int 0, .int 0, .int 0, .int 0, .int 0, .int 0, .int 0, .int 0, .int 0, .int (-1), .int 0, .int 0, .int 0, .int 0, .int 0, .int 0, .int 0, .int 0, .int 0, .int 0, .int 0, .int 0, .ref mm_start, .ref mm_off, .ref mm_last, .ref mm_passed, .ref mm_kept, .ref mm_keptMany, .int 0, .int 0, .ref mm_history, .ref mm_names, .ref mm_worked, .int 0, .int 0, .int (-1), .ref mm_readThing, .ref mm_readHour, .ref mm_readLow, .ref mm_readHigh, .int 0, .int 0, .int 0, .ref mm_imageOff, .ref mm_imageLast, .ref mm_imagePassed, .ref mm_imageKept, .ref mm_imageMany, .ref mm_imageHistory])), (mm_number, .inl (k_mm_number, 10, .inl (fun _ => 0)))]) (hS : va_S A s.heap H locs) (hl : lv_has ls 7 [(4, .int 0), (3, .ref oo), (2, .ref mm), (1, .ref xx), (0, .ref b)]) : W p l e room_1 s m #[Value.ref b] below meth c H locs 160 67979 (lw_Z below #[Value.ref b] s) (F0 m 412 ls []) := by
  obtain ⟨hx, hb, hr, hml, hown, hts, hX, hbl, hlocks, hgv⟩ := C0
  have hT : ∀ w ∈ pw_T, w.before #[Value.ref b] s = true := fun w h => hts w (List.mem_filter.mp h).1
  have hown : s.vm.findClass RL = some m.cls := hown
  refine lv_aload_n hx hb dL_law_412 rfl (lv_at hl 3 rfl) ?_
  refine lv_aload_n hx hb dL_law_413 rfl (lv_at hl 4 rfl) ?_
  refine lv_iload hx hb dL_law_414 (lv_at hl 0 rfl) ?_
  refine lv_iconst (v := 1) hx hb dL_law_416 (by decide) ?_
  refine lv_iadd hx hb dL_law_417 ?_
  refine lv_topi (fun z_1 ez_1 => ?_)
  obtain rfl : z_1 = 1 := ez_1.trans (by decide)
  refine va_sld hx hb hX hbl hbA hS (pk_in 1 7 (by decide) (by decide) (by decide)) dL_law_418 ?_
  refine lv_topi (fun z_2 ez_2 => ?_)
  replace ez_2 : z_2 = xs 1 := ez_2
  subst z_2
  refine lv_aload_n hx hb dL_law_419 rfl (lv_at hl 4 rfl) ?_
  refine lv_iload hx hb dL_law_420 (lv_at hl 0 rfl) ?_
  refine lv_iconst (v := 2) hx hb dL_law_422 (by decide) ?_
  refine lv_iadd hx hb dL_law_423 ?_
  refine lv_topi (fun z_3 ez_3 => ?_)
  obtain rfl : z_3 = 2 := ez_3.trans (by decide)
  refine va_sld hx hb hX hbl hbA hS (pk_in 2 7 (by decide) (by decide) (by decide)) dL_law_424 ?_
  refine lv_topi (fun z_4 ez_4 => ?_)
  replace ez_4 : z_4 = xs 2 := ez_4
  subst z_4
  have hPc := hP.sub (ws' := [(xx, .inr (10, [.ref rr, .ref ta, .ref tb, .ref pa, .ref pb, .ref cn, .ref ci, .int 0, .ref cp, .ref ct, .ref hs, .ref rd, .ref wy, .ref ea, .ref eb])), (ta, .inr (8, [.int 0, .int 0, .int 0, .int 0, .int 0, .ref ta_name, .ref ta_first, .ref ta_gain, .ref ta_rough, .ref ta_custom, .ref ta_part, .ref ta_whole, .ref ta_roundPerson, .ref ta_roundClock, .ref ta_roundHour, .ref ta_gunClock, .ref ta_gunHour, .ref tau]))]) [0, 1] rfl
  have hDc := hD.sub (ws' := [(xx, .inr (10, [.ref rr, .ref ta, .ref tb, .ref pa, .ref pb, .ref cn, .ref ci, .int 0, .ref cp, .ref ct, .ref hs, .ref rd, .ref wy, .ref ea, .ref eb])), (ta, .inr (8, [.int 0, .int 0, .int 0, .int 0, .int 0, .ref ta_name, .ref ta_first, .ref ta_gain, .ref ta_rough, .ref ta_custom, .ref ta_part, .ref ta_whole, .ref ta_roundPerson, .ref ta_roundClock, .ref ta_roundHour, .ref ta_gunClock, .ref ta_gunHour, .ref tau]))]) [0, 1] (by decide) rfl
  have hKc := hK.sub (tys' := []) [] rfl
  have hFc := va_free (wc := [(xx, .inr (10, [.ref rr, .ref ta, .ref tb, .ref pa, .ref pb, .ref cn, .ref ci, .int 0, .ref cp, .ref ct, .ref hs, .ref rd, .ref wy, .ref ea, .ref eb])), (ta, .inr (8, [.int 0, .int 0, .int 0, .int 0, .int 0, .ref ta_name, .ref ta_first, .ref ta_gain, .ref ta_rough, .ref ta_custom, .ref ta_part, .ref ta_whole, .ref ta_roundPerson, .ref ta_roundClock, .ref ta_roundHour, .ref ta_gunClock, .ref ta_gunHour, .ref tau]))]) hD hS hA [0, 1] rfl
  refine va_calli (va_runV (As := [.int (xs 1), .int (xs 2)]) (rest := []) ⟨hx, hb, hml, hown, hT⟩ (c_X10_clock l dC dI H.size xx (xs 1) (xs 2) rr ta tb pa pb cn ci (0 : Int32) cp ct hs rd wy ea eb (0 : Int32) (0 : Int32) (0 : Int32) ta_name ta_first ta_gain ta_rough ta_custom ta_part ta_whole ta_roundPerson ta_roundClock ta_roundHour ta_gunClock ta_gunHour tau ) (cwV 2 hT (gwV mw_4_36 mw_4_37 mw_4_38 mw_1_1 mw_4_39) rfl rfl rfl (by decide +kernel) ⟨Nat.le_of_ble_eq_true rfl, Nat.le_of_ble_eq_true rfl⟩) ⟨fun a U g mk q => by obtain ⟨q0, q1, qP, qK, qD⟩ := q; exact ⟨q0, q1, qP, va_K.moved (u := U) (U := U.calling g mk a) (Vm.Alike.refl U.vm) qK, qD⟩, va_recv hK hP (ci := 10) (q0 := 0) rfl rfl, fun U hU hW => ⟨rfl, by rw [hU], by rw [hU]; exact hPc, va_K.moved hW.alike hKc, hDc.weaken (fun _ _ _ _ => trivial)⟩⟩ rfl rfl hl.1 rfl (lv_room (Nat.le_of_ble_eq_true rfl)) dL_law_425 ⟨Nat.le_of_ble_eq_true rfl, Nat.le_of_ble_eq_true rfl⟩) hS (fun q _ h => hFc q h) hFc (fun r_6 u t H1 locs ht hvm hw hB hz1 hk1 hS => ?_)
  obtain ⟨hP1, hD1⟩ := hB
  rw [ht] at hP1
  obtain ⟨hP, hD⟩ := va_join (wr := [(mm, .inr (11, [.int 0, .ref mm_tape, .int 0, .ref mm_number, .ref mm_clockName, .ref mm_clockOff, .ref mm_clockGain, .ref mm_clockRough, .ref mm_personName, .ref mm_personOff, .ref mm_personGain, .ref mm_personRough, .ref mm_custom, .ref mm_customA, .ref mm_customB, .ref mm_ruleFrom, .ref mm_ruleTo, .ref mm_roundOf, .ref mm_roundAt, .ref mm_roundHour, .ref mm_gunAt, .ref mm_gunHour, .ref mm_knotSort, .ref mm_knotValue, .int 0, .int 0, .int 0, .int 0, .int 0, .int 0, .int 0, .int 0, .int 0, .int (-1), .int 0, .int 0, .int 0, .int 0, .int 0, .int 0, .int 0, .int 0, .int 0, .int 0, .int 0, .int 0, .ref mm_start, .ref mm_off, .ref mm_last, .ref mm_passed, .ref mm_kept, .ref mm_keptMany, .int 0, .int 0, .ref mm_history, .ref mm_names, .ref mm_worked, .int 0, .int 0, .int (-1), .ref mm_readThing, .ref mm_readHour, .ref mm_readLow, .ref mm_readHigh, .int 0, .int 0, .int 0, .ref mm_imageOff, .ref mm_imageLast, .ref mm_imagePassed, .ref mm_imageKept, .ref mm_imageMany, .ref mm_imageHistory])), (mm_number, .inl (k_mm_number, 10, .inl (fun _ => 0)))]) (w1 := [(xx, .inr (10, [.ref rr, .ref ta, .ref tb, .ref pa, .ref pb, .ref cn, .ref ci, .int 0, .ref cp, .ref ct, .ref hs, .ref rd, .ref wy, .ref ea, .ref eb])), (ta, .inr (8, [.int 0, .int 0, .int 0, .int 0, .int 0, .ref ta_name, .ref ta_first, .ref ta_gain, .ref ta_rough, .ref ta_custom, .ref ta_part, .ref ta_whole, .ref ta_roundPerson, .ref ta_roundClock, .ref ta_roundHour, .ref ta_gunClock, .ref ta_gunHour, .ref tau]))]) hP hD [0, 1] [2, 3] rfl rfl (by decide) (by decide) hk1 hFc hP1 hD1
  generalize H1 = H at hP hS ⊢
  have hP : va_P (dC, dI) vwCl [(mm, .inr (11, [.int 0, .ref mm_tape, .int 0, .ref mm_number, .ref mm_clockName, .ref mm_clockOff, .ref mm_clockGain, .ref mm_clockRough, .ref mm_personName, .ref mm_personOff, .ref mm_personGain, .ref mm_personRough, .ref mm_custom, .ref mm_customA, .ref mm_customB, .ref mm_ruleFrom, .ref mm_ruleTo, .ref mm_roundOf, .ref mm_roundAt, .ref mm_roundHour, .ref mm_gunAt, .ref mm_gunHour, .ref mm_knotSort, .ref mm_knotValue, .int 0, .int 0, .int 0, .int 0, .int 0, .int 0, .int 0, .int 0, .int 0, .int (-1), .int 0, .int 0, .int 0, .int 0, .int 0, .int 0, .int 0, .int 0, .int 0, .int 0, .int 0, .int 0, .ref mm_start, .ref mm_off, .ref mm_last, .ref mm_passed, .ref mm_kept, .ref mm_keptMany, .int 0, .int 0, .ref mm_history, .ref mm_names, .ref mm_worked, .int 0, .int 0, .int (-1), .ref mm_readThing, .ref mm_readHour, .ref mm_readLow, .ref mm_readHigh, .int 0, .int 0, .int 0, .ref mm_imageOff, .ref mm_imageLast, .ref mm_imagePassed, .ref mm_imageKept, .ref mm_imageMany, .ref mm_imageHistory])), (mm_number, .inl (k_mm_number, 10, .inl (fun _ => 0))), (xx, .inr (10, [.ref rr, .ref ta, .ref tb, .ref pa, .ref pb, .ref cn, .ref ci, .int 0, .ref cp, .ref ct, .ref hs, .ref rd, .ref wy, .ref ea, .ref eb])), (ta, .inr (8, [.int 0, .int 0, .int 0, .int 0, .int 0, .ref ta_name, .ref ta_first, .ref ta_gain, .ref ta_rough, .ref ta_custom, .ref ta_part, .ref ta_whole, .ref ta_roundPerson, .ref ta_roundClock, .ref ta_roundHour, .ref ta_gunClock, .ref ta_gunHour, .ref tau]))] H := hP
  have hD : va_D A [(mm, .inr (11, [.int 0, .ref mm_tape, .int 0, .ref mm_number, .ref mm_clockName, .ref mm_clockOff, .ref mm_clockGain, .ref mm_clockRough, .ref mm_personName, .ref mm_personOff, .ref mm_personGain, .ref mm_personRough, .ref mm_custom, .ref mm_customA, .ref mm_customB, .ref mm_ruleFrom, .ref mm_ruleTo, .ref mm_roundOf, .ref mm_roundAt, .ref mm_roundHour, .ref mm_gunAt, .ref mm_gunHour, .ref mm_knotSort, .ref mm_knotValue, .int 0, .int 0, .int 0, .int 0, .int 0, .int 0, .int 0, .int 0, .int 0, .int (-1), .int 0, .int 0, .int 0, .int 0, .int 0, .int 0, .int 0, .int 0, .int 0, .int 0, .int 0, .int 0, .ref mm_start, .ref mm_off, .ref mm_last, .ref mm_passed, .ref mm_kept, .ref mm_keptMany, .int 0, .int 0, .ref mm_history, .ref mm_names, .ref mm_worked, .int 0, .int 0, .int (-1), .ref mm_readThing, .ref mm_readHour, .ref mm_readLow, .ref mm_readHigh, .int 0, .int 0, .int 0, .ref mm_imageOff, .ref mm_imageLast, .ref mm_imagePassed, .ref mm_imageKept, .ref mm_imageMany, .ref mm_imageHistory])), (mm_number, .inl (k_mm_number, 10, .inl (fun _ => 0))), (xx, .inr (10, [.ref rr, .ref ta, .ref tb, .ref pa, .ref pb, .ref cn, .ref ci, .int 0, .ref cp, .ref ct, .ref hs, .ref rd, .ref wy, .ref ea, .ref eb])), (ta, .inr (8, [.int 0, .int 0, .int 0, .int 0, .int 0, .ref ta_name, .ref ta_first, .ref ta_gain, .ref ta_rough, .ref ta_custom, .ref ta_part, .ref ta_whole, .ref ta_roundPerson, .ref ta_roundClock, .ref ta_roundHour, .ref ta_gunClock, .ref ta_gunHour, .ref tau]))] := hD
  clear hPc hDc hKc hFc hP1 hD1 hk1 hz1 ht hvm
  have hw : r_6 = -2147483648 := hw
  subst r_6
  refine lv_aload_n hx hb dL_law_428 rfl (lv_at hl 2 rfl) ?_
  refine lv_aload_n hx hb dL_law_429 rfl (lv_at hl 4 rfl) ?_
  refine lv_iload hx hb dL_law_430 (lv_at hl 0 rfl) ?_
  refine lv_iconst (v := 1) hx hb dL_law_432 (by decide) ?_
  refine lv_iadd hx hb dL_law_433 ?_
  refine lv_topi (fun z_7 ez_7 => ?_)
  obtain rfl : z_7 = 1 := ez_7.trans (by decide)
  refine va_sld hx hb hX hbl hbA hS (pk_in 1 7 (by decide) (by decide) (by decide)) dL_law_434 ?_
  refine lv_topi (fun z_8 ez_8 => ?_)
  replace ez_8 : z_8 = xs 1 := ez_8
  subst z_8
  refine lv_aload_n hx hb dL_law_435 rfl (lv_at hl 4 rfl) ?_
  refine lv_iload hx hb dL_law_436 (lv_at hl 0 rfl) ?_
  refine lv_iconst (v := 2) hx hb dL_law_438 (by decide) ?_
  refine lv_iadd hx hb dL_law_439 ?_
  refine lv_topi (fun z_9 ez_9 => ?_)
  obtain rfl : z_9 = 2 := ez_9.trans (by decide)
  refine va_sld hx hb hX hbl hbA hS (pk_in 2 7 (by decide) (by decide) (by decide)) dL_law_440 ?_
  refine lv_topi (fun z_10 ez_10 => ?_)
  replace ez_10 : z_10 = xs 2 := ez_10
  subst z_10
  have hPc := hP.sub (ws' := [(mm, .inr (11, [.int 0, .ref mm_tape, .int 0, .ref mm_number, .ref mm_clockName, .ref mm_clockOff, .ref mm_clockGain, .ref mm_clockRough, .ref mm_personName, .ref mm_personOff, .ref mm_personGain, .ref mm_personRough, .ref mm_custom, .ref mm_customA, .ref mm_customB, .ref mm_ruleFrom, .ref mm_ruleTo, .ref mm_roundOf, .ref mm_roundAt, .ref mm_roundHour, .ref mm_gunAt, .ref mm_gunHour, .ref mm_knotSort, .ref mm_knotValue, .int 0, .int 0, .int 0, .int 0, .int 0, .int 0, .int 0, .int 0, .int 0, .int (-1), .int 0, .int 0, .int 0, .int 0, .int 0, .int 0, .int 0, .int 0, .int 0, .int 0, .int 0, .int 0, .ref mm_start, .ref mm_off, .ref mm_last, .ref mm_passed, .ref mm_kept, .ref mm_keptMany, .int 0, .int 0, .ref mm_history, .ref mm_names, .ref mm_worked, .int 0, .int 0, .int (-1), .ref mm_readThing, .ref mm_readHour, .ref mm_readLow, .ref mm_readHigh, .int 0, .int 0, .int 0, .ref mm_imageOff, .ref mm_imageLast, .ref mm_imagePassed, .ref mm_imageKept, .ref mm_imageMany, .ref mm_imageHistory])), (mm_number, .inl (k_mm_number, 10, .inl (fun _ => 0)))]) [0, 1] rfl
  have hDc := hD.sub (ws' := [(mm, .inr (11, [.int 0, .ref mm_tape, .int 0, .ref mm_number, .ref mm_clockName, .ref mm_clockOff, .ref mm_clockGain, .ref mm_clockRough, .ref mm_personName, .ref mm_personOff, .ref mm_personGain, .ref mm_personRough, .ref mm_custom, .ref mm_customA, .ref mm_customB, .ref mm_ruleFrom, .ref mm_ruleTo, .ref mm_roundOf, .ref mm_roundAt, .ref mm_roundHour, .ref mm_gunAt, .ref mm_gunHour, .ref mm_knotSort, .ref mm_knotValue, .int 0, .int 0, .int 0, .int 0, .int 0, .int 0, .int 0, .int 0, .int 0, .int (-1), .int 0, .int 0, .int 0, .int 0, .int 0, .int 0, .int 0, .int 0, .int 0, .int 0, .int 0, .int 0, .ref mm_start, .ref mm_off, .ref mm_last, .ref mm_passed, .ref mm_kept, .ref mm_keptMany, .int 0, .int 0, .ref mm_history, .ref mm_names, .ref mm_worked, .int 0, .int 0, .int (-1), .ref mm_readThing, .ref mm_readHour, .ref mm_readLow, .ref mm_readHigh, .int 0, .int 0, .int 0, .ref mm_imageOff, .ref mm_imageLast, .ref mm_imagePassed, .ref mm_imageKept, .ref mm_imageMany, .ref mm_imageHistory])), (mm_number, .inl (k_mm_number, 10, .inl (fun _ => 0)))]) [0, 1] (by decide) rfl
  have hKc := hK.sub (tys' := [(k_mm_number, .int)]) [0] rfl
  have hFc := va_free (wc := [(mm, .inr (11, [.int 0, .ref mm_tape, .int 0, .ref mm_number, .ref mm_clockName, .ref mm_clockOff, .ref mm_clockGain, .ref mm_clockRough, .ref mm_personName, .ref mm_personOff, .ref mm_personGain, .ref mm_personRough, .ref mm_custom, .ref mm_customA, .ref mm_customB, .ref mm_ruleFrom, .ref mm_ruleTo, .ref mm_roundOf, .ref mm_roundAt, .ref mm_roundHour, .ref mm_gunAt, .ref mm_gunHour, .ref mm_knotSort, .ref mm_knotValue, .int 0, .int 0, .int 0, .int 0, .int 0, .int 0, .int 0, .int 0, .int 0, .int (-1), .int 0, .int 0, .int 0, .int 0, .int 0, .int 0, .int 0, .int 0, .int 0, .int 0, .int 0, .int 0, .ref mm_start, .ref mm_off, .ref mm_last, .ref mm_passed, .ref mm_kept, .ref mm_keptMany, .int 0, .int 0, .ref mm_history, .ref mm_names, .ref mm_worked, .int 0, .int 0, .int (-1), .ref mm_readThing, .ref mm_readHour, .ref mm_readLow, .ref mm_readHigh, .int 0, .int 0, .int 0, .ref mm_imageOff, .ref mm_imageLast, .ref mm_imagePassed, .ref mm_imageKept, .ref mm_imageMany, .ref mm_imageHistory])), (mm_number, .inl (k_mm_number, 10, .inl (fun _ => 0)))]) hD hS hA [0, 1] rfl
  have := (by decide : (0 : Int32).toInt = 0)
  have := (by decide : (0 : Int32).toInt = 0)
  have := (by decide : (0 : Int32).toInt = 0)
  have := (by decide : (0 : Int32).toInt = 0)
  have := (by decide : (0 : Int32).toInt = 0)
  have := (by decide : (0 : Int32).toInt = 0)
  have := (by decide : (0 : Int32).toInt = 0)
  have := (by decide : (0 : Int32).toInt = 0)
  have := (by decide : (0 : Int32).toInt = 0)
  have := (by decide : (0 : Int32).toInt = 0)
  have := (by decide : (0 : Int32).toInt = 0)
  have := (by decide : ((-1) : Int32).toInt = -1)
  have := (by decide : (0 : Int32).toInt = 0)
  have := (by decide : (0 : Int32).toInt = 0)
  have := (by decide : (0 : Int32).toInt = 0)
  have := (by decide : (0 : Int32).toInt = 0)
  have := (by decide : (0 : Int32).toInt = 0)
  have := (by decide : (0 : Int32).toInt = 0)
  have := (by decide : (0 : Int32).toInt = 0)
  have := (by decide : (0 : Int32).toInt = 0)
  have := (by decide : (0 : Int32).toInt = 0)
  have := (by decide : (0 : Int32).toInt = 0)
  have := (by decide : (0 : Int32).toInt = 0)
  have := (by decide : (0 : Int32).toInt = 0)
  have := (by decide : (0 : Int32).toInt = 0)
  have := (by decide : (0 : Int32).toInt = 0)
  have := (by decide : (0 : Int32).toInt = 0)
  have := (by decide : (0 : Int32).toInt = 0)
  have := (by decide : ((-1) : Int32).toInt = -1)
  have := (by decide : (0 : Int32).toInt = 0)
  have := (by decide : (0 : Int32).toInt = 0)
  have := (by decide : (0 : Int32).toInt = 0)
  refine va_calli (va_runV (As := [.int (xs 1), .int (xs 2)]) (rest := [.int (-2147483648)]) ⟨hx, hb, hml, hown, hT⟩ (c_X11_clock l dC dI H.size mm (xs 1) (xs 2) (0 : Int32) mm_tape (0 : Int32) mm_number mm_clockName mm_clockOff mm_clockGain mm_clockRough mm_personName mm_personOff mm_personGain mm_personRough mm_custom mm_customA mm_customB mm_ruleFrom mm_ruleTo mm_roundOf mm_roundAt mm_roundHour mm_gunAt mm_gunHour mm_knotSort mm_knotValue (0 : Int32) (0 : Int32) (0 : Int32) (0 : Int32) (0 : Int32) (0 : Int32) (0 : Int32) (0 : Int32) (0 : Int32) ((-1) : Int32) (0 : Int32) (0 : Int32) (0 : Int32) (0 : Int32) (0 : Int32) (0 : Int32) (0 : Int32) (0 : Int32) (0 : Int32) (0 : Int32) (0 : Int32) (0 : Int32) mm_start mm_off mm_last mm_passed mm_kept mm_keptMany (0 : Int32) (0 : Int32) mm_history mm_names mm_worked (0 : Int32) (0 : Int32) ((-1) : Int32) mm_readThing mm_readHour mm_readLow mm_readHigh (0 : Int32) (0 : Int32) (0 : Int32) mm_imageOff mm_imageLast mm_imagePassed mm_imageKept mm_imageMany mm_imageHistory k_mm_number (fun _ => 0) (fun _ => rfl)) (cwV 2 hT (gwV mw_7_166 mw_7_167 mw_7_168 mw_1_16 mw_7_169) rfl rfl rfl (by decide +kernel) ⟨Nat.le_of_ble_eq_true rfl, Nat.le_of_ble_eq_true rfl⟩) ⟨fun a U g mk q => by obtain ⟨q0, q1, qP, qK, qD⟩ := q; exact ⟨q0, q1, qP, va_K.moved (u := U) (U := U.calling g mk a) (Vm.Alike.refl U.vm) qK, qD⟩, va_recv hK hP (ci := 11) (q0 := 0) rfl rfl, fun U hU hW => ⟨rfl, by rw [hU], by rw [hU]; exact hPc, va_K.moved hW.alike hKc, hDc.weaken (fun _ _ _ _ => trivial)⟩⟩ rfl rfl hl.1 rfl (lv_room (Nat.le_of_ble_eq_true rfl)) dL_law_441 ⟨Nat.le_of_ble_eq_true rfl, Nat.le_of_ble_eq_true rfl⟩) hS (fun q _ h => hFc q h) hFc (fun r_12 u t H1 locs ht hvm hw hB hz1 hk1 hS => ?_)
  obtain ⟨hP1, hD1⟩ := hB
  rw [ht] at hP1
  obtain ⟨hP, hD⟩ := va_join (wr := [(xx, .inr (10, [.ref rr, .ref ta, .ref tb, .ref pa, .ref pb, .ref cn, .ref ci, .int 0, .ref cp, .ref ct, .ref hs, .ref rd, .ref wy, .ref ea, .ref eb])), (ta, .inr (8, [.int 0, .int 0, .int 0, .int 0, .int 0, .ref ta_name, .ref ta_first, .ref ta_gain, .ref ta_rough, .ref ta_custom, .ref ta_part, .ref ta_whole, .ref ta_roundPerson, .ref ta_roundClock, .ref ta_roundHour, .ref ta_gunClock, .ref ta_gunHour, .ref tau]))]) (w1 := [(mm, .inr (11, [.int 0, .ref mm_tape, .int 0, .ref mm_number, .ref mm_clockName, .ref mm_clockOff, .ref mm_clockGain, .ref mm_clockRough, .ref mm_personName, .ref mm_personOff, .ref mm_personGain, .ref mm_personRough, .ref mm_custom, .ref mm_customA, .ref mm_customB, .ref mm_ruleFrom, .ref mm_ruleTo, .ref mm_roundOf, .ref mm_roundAt, .ref mm_roundHour, .ref mm_gunAt, .ref mm_gunHour, .ref mm_knotSort, .ref mm_knotValue, .int 0, .int 0, .int 0, .int 0, .int 0, .int 0, .int 0, .int 0, .int 0, .int (-1), .int 0, .int 0, .int 0, .int 0, .int 0, .int 0, .int 0, .int 0, .int 0, .int 0, .int 0, .int 0, .ref mm_start, .ref mm_off, .ref mm_last, .ref mm_passed, .ref mm_kept, .ref mm_keptMany, .int 0, .int 0, .ref mm_history, .ref mm_names, .ref mm_worked, .int 0, .int 0, .int (-1), .ref mm_readThing, .ref mm_readHour, .ref mm_readLow, .ref mm_readHigh, .int 0, .int 0, .int 0, .ref mm_imageOff, .ref mm_imageLast, .ref mm_imagePassed, .ref mm_imageKept, .ref mm_imageMany, .ref mm_imageHistory])), (mm_number, .inl (k_mm_number, 10, .inl (fun _ => 0)))]) hP hD [0, 1] [2, 3] rfl rfl (by decide) (by decide) hk1 hFc hP1 hD1
  generalize H1 = H at hP hS ⊢
  have hP : va_P (dC, dI) vwCl [(xx, .inr (10, [.ref rr, .ref ta, .ref tb, .ref pa, .ref pb, .ref cn, .ref ci, .int 0, .ref cp, .ref ct, .ref hs, .ref rd, .ref wy, .ref ea, .ref eb])), (ta, .inr (8, [.int 0, .int 0, .int 0, .int 0, .int 0, .ref ta_name, .ref ta_first, .ref ta_gain, .ref ta_rough, .ref ta_custom, .ref ta_part, .ref ta_whole, .ref ta_roundPerson, .ref ta_roundClock, .ref ta_roundHour, .ref ta_gunClock, .ref ta_gunHour, .ref tau])), (mm, .inr (11, [.int 0, .ref mm_tape, .int 0, .ref mm_number, .ref mm_clockName, .ref mm_clockOff, .ref mm_clockGain, .ref mm_clockRough, .ref mm_personName, .ref mm_personOff, .ref mm_personGain, .ref mm_personRough, .ref mm_custom, .ref mm_customA, .ref mm_customB, .ref mm_ruleFrom, .ref mm_ruleTo, .ref mm_roundOf, .ref mm_roundAt, .ref mm_roundHour, .ref mm_gunAt, .ref mm_gunHour, .ref mm_knotSort, .ref mm_knotValue, .int 0, .int 0, .int 0, .int 0, .int 0, .int 0, .int 0, .int 0, .int 0, .int (-1), .int 0, .int 0, .int 0, .int 0, .int 0, .int 0, .int 0, .int 0, .int 0, .int 0, .int 0, .int 0, .ref mm_start, .ref mm_off, .ref mm_last, .ref mm_passed, .ref mm_kept, .ref mm_keptMany, .int 0, .int 0, .ref mm_history, .ref mm_names, .ref mm_worked, .int 0, .int 0, .int (-1), .ref mm_readThing, .ref mm_readHour, .ref mm_readLow, .ref mm_readHigh, .int 0, .int 0, .int 0, .ref mm_imageOff, .ref mm_imageLast, .ref mm_imagePassed, .ref mm_imageKept, .ref mm_imageMany, .ref mm_imageHistory])), (mm_number, .inl (k_mm_number, 10, .inl (fun _ => 0)))] H := hP
  have hD : va_D A [(xx, .inr (10, [.ref rr, .ref ta, .ref tb, .ref pa, .ref pb, .ref cn, .ref ci, .int 0, .ref cp, .ref ct, .ref hs, .ref rd, .ref wy, .ref ea, .ref eb])), (ta, .inr (8, [.int 0, .int 0, .int 0, .int 0, .int 0, .ref ta_name, .ref ta_first, .ref ta_gain, .ref ta_rough, .ref ta_custom, .ref ta_part, .ref ta_whole, .ref ta_roundPerson, .ref ta_roundClock, .ref ta_roundHour, .ref ta_gunClock, .ref ta_gunHour, .ref tau])), (mm, .inr (11, [.int 0, .ref mm_tape, .int 0, .ref mm_number, .ref mm_clockName, .ref mm_clockOff, .ref mm_clockGain, .ref mm_clockRough, .ref mm_personName, .ref mm_personOff, .ref mm_personGain, .ref mm_personRough, .ref mm_custom, .ref mm_customA, .ref mm_customB, .ref mm_ruleFrom, .ref mm_ruleTo, .ref mm_roundOf, .ref mm_roundAt, .ref mm_roundHour, .ref mm_gunAt, .ref mm_gunHour, .ref mm_knotSort, .ref mm_knotValue, .int 0, .int 0, .int 0, .int 0, .int 0, .int 0, .int 0, .int 0, .int 0, .int (-1), .int 0, .int 0, .int 0, .int 0, .int 0, .int 0, .int 0, .int 0, .int 0, .int 0, .int 0, .int 0, .ref mm_start, .ref mm_off, .ref mm_last, .ref mm_passed, .ref mm_kept, .ref mm_keptMany, .int 0, .int 0, .ref mm_history, .ref mm_names, .ref mm_worked, .int 0, .int 0, .int (-1), .ref mm_readThing, .ref mm_readHour, .ref mm_readLow, .ref mm_readHigh, .int 0, .int 0, .int 0, .ref mm_imageOff, .ref mm_imageLast, .ref mm_imagePassed, .ref mm_imageKept, .ref mm_imageMany, .ref mm_imageHistory])), (mm_number, .inl (k_mm_number, 10, .inl (fun _ => 0)))] := hD
  clear hPc hDc hKc hFc hP1 hD1 hk1 hz1 ht hvm
  have hw : r_12 = -2147483648 := hw
  subst r_12
  refine lv_icmp_eq (tgt := 1482) hx hb dL_law_444 (by decide) (fun c_13 => ?_) (fun c_13 => absurd c_13 (by decide))
  refine lv_iinc (v := 7) (lv' := [(4, .int 7), (3, .ref oo), (2, .ref mm), (1, .ref xx), (0, .ref b)]) hx hb dL_law_1482 hl (k := 0) rfl (by decide) (by decide) rfl (fun ls hl => ?_)
  refine lv_goto (tgt := 23) hx hb dL_law_1485 (by decide) ?_
  refine lv_iload hx hb dL_law_23 (lv_at hl 0 rfl) ?_
  refine lv_aload_n hx hb dL_law_25 rfl (lv_at hl 4 rfl) ?_
  refine va_slen hx hb hX hbl hbA hS dL_law_26 ?_
  refine lv_topi (fun z_14 ez_14 => ?_)
  obtain rfl : z_14 = 7 := ez_14.trans (by decide)
  refine lv_bipush (v := 7) hx hb dL_law_27 (by decide) ?_
  refine lv_isub hx hb dL_law_29 ?_
  refine lv_topi (fun z_15 ez_15 => ?_)
  obtain rfl : z_15 = 0 := ez_15.trans (by decide)
  refine lv_icmp_gt (tgt := 1488) hx hb dL_law_30 (by decide) (fun c_16 => ?_) (fun c_16 => absurd c_16 (by decide))
  refine lv_iconst (v := 1) hx hb dL_law_1488 (by decide) ?_
  refine va_forget (fun q hq => hAo _ (hS.2.2 q hq)) ?_
  refine W.widen (k := 600002) (n := 7302232) (Nat.le_of_ble_eq_true rfl) (Nat.le_of_ble_eq_true rfl) ?_
  exact lw_ret hx hb hr hlocks dL_law_1489
set_option maxHeartbeats 4000000 in
set_option maxRecDepth 100000 in
theorem law_op_6 {p : Program} {l : Launch} {e : Env} {s : State} {m : MethodId} {below : List Frame} {meth : Method} {c : Code} {dC : Nat → ClassId} {dI : Nat → Nat → Nat} {b : Nat} {xs : Nat → Int32} {A : Nat → Prop} (C0 : lw_At p s m meth c b 7 xs) (hA : ∀ q, s.heap.size ≤ q → A q) (hbA : ¬ A b) (hAo : ∀ q, A q → s.heap.size ≤ q) {xx : Nat} {rr : Nat} {ta : Nat} {tb : Nat} {pa : Nat} {pb : Nat} {cn : Nat} {ci : Nat} {cp : Nat} {ct : Nat} {hs : Nat} {rd : Nat} {wy : Nat} {ea : Nat} {eb : Nat} {ta_name : Nat} {ta_first : Nat} {ta_gain : Nat} {ta_rough : Nat} {ta_custom : Nat} {ta_part : Nat} {ta_whole : Nat} {ta_roundPerson : Nat} {ta_roundClock : Nat} {ta_roundHour : Nat} {ta_gunClock : Nat} {ta_gunHour : Nat} {tau : Nat} {mm : Nat} {mm_tape : Nat} {mm_number : Nat} {mm_clockName : Nat} {mm_clockOff : Nat} {mm_clockGain : Nat} {mm_clockRough : Nat} {mm_personName : Nat} {mm_personOff : Nat} {mm_personGain : Nat} {mm_personRough : Nat} {mm_custom : Nat} {mm_customA : Nat} {mm_customB : Nat} {mm_ruleFrom : Nat} {mm_ruleTo : Nat} {mm_roundOf : Nat} {mm_roundAt : Nat} {mm_roundHour : Nat} {mm_gunAt : Nat} {mm_gunHour : Nat} {mm_knotSort : Nat} {mm_knotValue : Nat} {mm_start : Nat} {mm_off : Nat} {mm_last : Nat} {mm_passed : Nat} {mm_kept : Nat} {mm_keptMany : Nat} {mm_history : Nat} {mm_names : Nat} {mm_worked : Nat} {mm_readThing : Nat} {mm_readHour : Nat} {mm_readLow : Nat} {mm_readHigh : Nat} {mm_imageOff : Nat} {mm_imageLast : Nat} {mm_imagePassed : Nat} {mm_imageKept : Nat} {mm_imageMany : Nat} {mm_imageHistory : Nat} {k_mm_number : ClassId} {oo : Nat} {H : Heap} {locs : List Loc} {ls : Array Slot} (hK : va_K (dC, dI) vwCl [(k_mm_number, .int)] s) (hP : va_P (dC, dI) vwCl [(xx, .inr (10, [.ref rr, .ref ta, .ref tb, .ref pa, .ref pb, .ref cn, .ref ci, .int 0, .ref cp, .ref ct, .ref hs, .ref rd, .ref wy, .ref ea, .ref eb])), (ta, .inr (8, [.int 0, .int 0, .int 0, .int 0, .int 0, .ref ta_name, .ref ta_first, .ref ta_gain, .ref ta_rough, .ref ta_custom, .ref ta_part, .ref ta_whole, .ref ta_roundPerson, .ref ta_roundClock, .ref ta_roundHour, .ref ta_gunClock, .ref ta_gunHour, .ref tau])), (mm, .inr (11, [.int 0, .ref mm_tape, .int 0, .ref mm_number, .ref mm_clockName, .ref mm_clockOff, .ref mm_clockGain, .ref mm_clockRough, .ref mm_personName, .ref mm_personOff, .ref mm_personGain, .ref mm_personRough, .ref mm_custom, .ref mm_customA, .ref mm_customB, .ref mm_ruleFrom, .ref mm_ruleTo, .ref mm_roundOf, .ref mm_roundAt, .ref mm_roundHour, .ref mm_gunAt, .ref mm_gunHour, .ref mm_knotSort, .ref mm_knotValue, .int 0, .int 0, .int 0, .int 0, .int 0, .int 0, .int 0, .int 0, .int 0, .int (-1), .int 0, .int 0, .int 0, .int 0, .int 0, .int 0, .int 0, .int 0, .int 0, .int 0, .int 0, .int 0, .ref mm_start, .ref mm_off, .ref mm_last, .ref mm_passed, .ref mm_kept, .ref mm_keptMany, .int 0, .int 0, .ref mm_history, .ref mm_names, .ref mm_worked, .int 0, .int 0, .int (-1), .ref mm_readThing, .ref mm_readHour, .ref mm_readLow, .ref mm_readHigh, .int 0, .int 0, .int 0, .ref mm_imageOff, .ref mm_imageLast, .ref mm_imagePassed, .ref mm_imageKept, .ref mm_imageMany, .ref mm_imageHistory])), (mm_number, .inl (k_mm_number, 10, .inl (fun _ => 0)))] H) (hD : va_D A [(xx, .inr (10, [.ref rr, .ref ta, .ref tb, .ref pa, .ref pb, .ref cn, .ref ci, .int 0, .ref cp, .ref ct, .ref hs, .ref rd, .ref wy, .ref ea, .ref eb])), (ta, .inr (8, [.int 0, .int 0, .int 0, .int 0, .int 0, .ref ta_name, .ref ta_first, .ref ta_gain, .ref ta_rough, .ref ta_custom, .ref ta_part, .ref ta_whole, .ref ta_roundPerson, .ref ta_roundClock, .ref ta_roundHour, .ref ta_gunClock, .ref ta_gunHour, .ref tau])), (mm, .inr (11, [.int 0, .ref mm_tape, .int 0, .ref mm_number, .ref mm_clockName, .ref mm_clockOff, .ref mm_clockGain, .ref mm_clockRough, .ref mm_personName, .ref mm_personOff, .ref mm_personGain, .ref mm_personRough, .ref mm_custom, .ref mm_customA, .ref mm_customB, .ref mm_ruleFrom, .ref mm_ruleTo, .ref mm_roundOf, .ref mm_roundAt, .ref mm_roundHour, .ref mm_gunAt, .ref mm_gunHour, .ref mm_knotSort, .ref mm_knotValue, .int 0, .int 0, .int 0, .int 0, .int 0, .int 0, .int 0, .int 0, .int 0, .int (-1), .int 0, .int 0, .int 0, .int 0, .int 0, .int 0, .int 0, .int 0, .int 0, .int 0, .int 0, .int 0, .ref mm_start, .ref mm_off, .ref mm_last, .ref mm_passed, .ref mm_kept, .ref mm_keptMany, .int 0, .int 0, .ref mm_history, .ref mm_names, .ref mm_worked, .int 0, .int 0, .int (-1), .ref mm_readThing, .ref mm_readHour, .ref mm_readLow, .ref mm_readHigh, .int 0, .int 0, .int 0, .ref mm_imageOff, .ref mm_imageLast, .ref mm_imagePassed, .ref mm_imageKept, .ref mm_imageMany, .ref mm_imageHistory])), (mm_number, .inl (k_mm_number, 10, .inl (fun _ => 0)))]) (hS : va_S A s.heap H locs) (hl : lv_has ls 7 [(4, .int 0), (3, .ref oo), (2, .ref mm), (1, .ref xx), (0, .ref b)]) : W p l e room_1 s m #[Value.ref b] below meth c H locs 160 67979 (lw_Z below #[Value.ref b] s) (F0 m 449 ls []) := by
  obtain ⟨hx, hb, hr, hml, hown, hts, hX, hbl, hlocks, hgv⟩ := C0
  have hT : ∀ w ∈ pw_T, w.before #[Value.ref b] s = true := fun w h => hts w (List.mem_filter.mp h).1
  have hown : s.vm.findClass RL = some m.cls := hown
  refine lv_aload_n hx hb dL_law_449 rfl (lv_at hl 3 rfl) ?_
  refine lv_aload_n hx hb dL_law_450 rfl (lv_at hl 4 rfl) ?_
  refine lv_iload hx hb dL_law_451 (lv_at hl 0 rfl) ?_
  refine lv_iconst (v := 1) hx hb dL_law_453 (by decide) ?_
  refine lv_iadd hx hb dL_law_454 ?_
  refine lv_topi (fun z_1 ez_1 => ?_)
  obtain rfl : z_1 = 1 := ez_1.trans (by decide)
  refine va_sld hx hb hX hbl hbA hS (pk_in 1 7 (by decide) (by decide) (by decide)) dL_law_455 ?_
  refine lv_topi (fun z_2 ez_2 => ?_)
  replace ez_2 : z_2 = xs 1 := ez_2
  subst z_2
  refine lv_aload_n hx hb dL_law_456 rfl (lv_at hl 4 rfl) ?_
  refine lv_iload hx hb dL_law_457 (lv_at hl 0 rfl) ?_
  refine lv_iconst (v := 2) hx hb dL_law_459 (by decide) ?_
  refine lv_iadd hx hb dL_law_460 ?_
  refine lv_topi (fun z_3 ez_3 => ?_)
  obtain rfl : z_3 = 2 := ez_3.trans (by decide)
  refine va_sld hx hb hX hbl hbA hS (pk_in 2 7 (by decide) (by decide) (by decide)) dL_law_461 ?_
  refine lv_topi (fun z_4 ez_4 => ?_)
  replace ez_4 : z_4 = xs 2 := ez_4
  subst z_4
  have hPc := hP.sub (ws' := [(xx, .inr (10, [.ref rr, .ref ta, .ref tb, .ref pa, .ref pb, .ref cn, .ref ci, .int 0, .ref cp, .ref ct, .ref hs, .ref rd, .ref wy, .ref ea, .ref eb])), (ta, .inr (8, [.int 0, .int 0, .int 0, .int 0, .int 0, .ref ta_name, .ref ta_first, .ref ta_gain, .ref ta_rough, .ref ta_custom, .ref ta_part, .ref ta_whole, .ref ta_roundPerson, .ref ta_roundClock, .ref ta_roundHour, .ref ta_gunClock, .ref ta_gunHour, .ref tau]))]) [0, 1] rfl
  have hDc := hD.sub (ws' := [(xx, .inr (10, [.ref rr, .ref ta, .ref tb, .ref pa, .ref pb, .ref cn, .ref ci, .int 0, .ref cp, .ref ct, .ref hs, .ref rd, .ref wy, .ref ea, .ref eb])), (ta, .inr (8, [.int 0, .int 0, .int 0, .int 0, .int 0, .ref ta_name, .ref ta_first, .ref ta_gain, .ref ta_rough, .ref ta_custom, .ref ta_part, .ref ta_whole, .ref ta_roundPerson, .ref ta_roundClock, .ref ta_roundHour, .ref ta_gunClock, .ref ta_gunHour, .ref tau]))]) [0, 1] (by decide) rfl
  have hKc := hK.sub (tys' := []) [] rfl
  have hFc := va_free (wc := [(xx, .inr (10, [.ref rr, .ref ta, .ref tb, .ref pa, .ref pb, .ref cn, .ref ci, .int 0, .ref cp, .ref ct, .ref hs, .ref rd, .ref wy, .ref ea, .ref eb])), (ta, .inr (8, [.int 0, .int 0, .int 0, .int 0, .int 0, .ref ta_name, .ref ta_first, .ref ta_gain, .ref ta_rough, .ref ta_custom, .ref ta_part, .ref ta_whole, .ref ta_roundPerson, .ref ta_roundClock, .ref ta_roundHour, .ref ta_gunClock, .ref ta_gunHour, .ref tau]))]) hD hS hA [0, 1] rfl
  refine va_calli (va_runV (As := [.int (xs 1), .int (xs 2)]) (rest := []) ⟨hx, hb, hml, hown, hT⟩ (c_X10_round l dC dI H.size xx (xs 1) (xs 2) rr ta tb pa pb cn ci (0 : Int32) cp ct hs rd wy ea eb (0 : Int32) (0 : Int32) ta_name ta_first ta_gain ta_rough ta_custom ta_part ta_whole ta_roundPerson ta_roundClock ta_roundHour ta_gunClock ta_gunHour tau ) (cwV 2 hT (gwV mw_4_45 mw_4_46 mw_4_47 mw_1_1 mw_4_48) rfl rfl rfl (by decide +kernel) ⟨Nat.le_of_ble_eq_true rfl, Nat.le_of_ble_eq_true rfl⟩) ⟨fun a U g mk q => by obtain ⟨q0, q1, qP, qK, qD⟩ := q; exact ⟨q0, q1, qP, va_K.moved (u := U) (U := U.calling g mk a) (Vm.Alike.refl U.vm) qK, qD⟩, va_recv hK hP (ci := 10) (q0 := 0) rfl rfl, fun U hU hW => ⟨rfl, by rw [hU], by rw [hU]; exact hPc, va_K.moved hW.alike hKc, hDc.weaken (fun _ _ _ _ => trivial)⟩⟩ rfl rfl hl.1 rfl (lv_room (Nat.le_of_ble_eq_true rfl)) dL_law_462 ⟨Nat.le_of_ble_eq_true rfl, Nat.le_of_ble_eq_true rfl⟩) hS (fun q _ h => hFc q h) hFc (fun r_6 u t H1 locs ht hvm hw hB hz1 hk1 hS => ?_)
  obtain ⟨hP1, hD1⟩ := hB
  rw [ht] at hP1
  obtain ⟨hP, hD⟩ := va_join (wr := [(mm, .inr (11, [.int 0, .ref mm_tape, .int 0, .ref mm_number, .ref mm_clockName, .ref mm_clockOff, .ref mm_clockGain, .ref mm_clockRough, .ref mm_personName, .ref mm_personOff, .ref mm_personGain, .ref mm_personRough, .ref mm_custom, .ref mm_customA, .ref mm_customB, .ref mm_ruleFrom, .ref mm_ruleTo, .ref mm_roundOf, .ref mm_roundAt, .ref mm_roundHour, .ref mm_gunAt, .ref mm_gunHour, .ref mm_knotSort, .ref mm_knotValue, .int 0, .int 0, .int 0, .int 0, .int 0, .int 0, .int 0, .int 0, .int 0, .int (-1), .int 0, .int 0, .int 0, .int 0, .int 0, .int 0, .int 0, .int 0, .int 0, .int 0, .int 0, .int 0, .ref mm_start, .ref mm_off, .ref mm_last, .ref mm_passed, .ref mm_kept, .ref mm_keptMany, .int 0, .int 0, .ref mm_history, .ref mm_names, .ref mm_worked, .int 0, .int 0, .int (-1), .ref mm_readThing, .ref mm_readHour, .ref mm_readLow, .ref mm_readHigh, .int 0, .int 0, .int 0, .ref mm_imageOff, .ref mm_imageLast, .ref mm_imagePassed, .ref mm_imageKept, .ref mm_imageMany, .ref mm_imageHistory])), (mm_number, .inl (k_mm_number, 10, .inl (fun _ => 0)))]) (w1 := [(xx, .inr (10, [.ref rr, .ref ta, .ref tb, .ref pa, .ref pb, .ref cn, .ref ci, .int 0, .ref cp, .ref ct, .ref hs, .ref rd, .ref wy, .ref ea, .ref eb])), (ta, .inr (8, [.int 0, .int 0, .int 0, .int 0, .int 0, .ref ta_name, .ref ta_first, .ref ta_gain, .ref ta_rough, .ref ta_custom, .ref ta_part, .ref ta_whole, .ref ta_roundPerson, .ref ta_roundClock, .ref ta_roundHour, .ref ta_gunClock, .ref ta_gunHour, .ref tau]))]) hP hD [0, 1] [2, 3] rfl rfl (by decide) (by decide) hk1 hFc hP1 hD1
  generalize H1 = H at hP hS ⊢
  have hP : va_P (dC, dI) vwCl [(mm, .inr (11, [.int 0, .ref mm_tape, .int 0, .ref mm_number, .ref mm_clockName, .ref mm_clockOff, .ref mm_clockGain, .ref mm_clockRough, .ref mm_personName, .ref mm_personOff, .ref mm_personGain, .ref mm_personRough, .ref mm_custom, .ref mm_customA, .ref mm_customB, .ref mm_ruleFrom, .ref mm_ruleTo, .ref mm_roundOf, .ref mm_roundAt, .ref mm_roundHour, .ref mm_gunAt, .ref mm_gunHour, .ref mm_knotSort, .ref mm_knotValue, .int 0, .int 0, .int 0, .int 0, .int 0, .int 0, .int 0, .int 0, .int 0, .int (-1), .int 0, .int 0, .int 0, .int 0, .int 0, .int 0, .int 0, .int 0, .int 0, .int 0, .int 0, .int 0, .ref mm_start, .ref mm_off, .ref mm_last, .ref mm_passed, .ref mm_kept, .ref mm_keptMany, .int 0, .int 0, .ref mm_history, .ref mm_names, .ref mm_worked, .int 0, .int 0, .int (-1), .ref mm_readThing, .ref mm_readHour, .ref mm_readLow, .ref mm_readHigh, .int 0, .int 0, .int 0, .ref mm_imageOff, .ref mm_imageLast, .ref mm_imagePassed, .ref mm_imageKept, .ref mm_imageMany, .ref mm_imageHistory])), (mm_number, .inl (k_mm_number, 10, .inl (fun _ => 0))), (xx, .inr (10, [.ref rr, .ref ta, .ref tb, .ref pa, .ref pb, .ref cn, .ref ci, .int 0, .ref cp, .ref ct, .ref hs, .ref rd, .ref wy, .ref ea, .ref eb])), (ta, .inr (8, [.int 0, .int 0, .int 0, .int 0, .int 0, .ref ta_name, .ref ta_first, .ref ta_gain, .ref ta_rough, .ref ta_custom, .ref ta_part, .ref ta_whole, .ref ta_roundPerson, .ref ta_roundClock, .ref ta_roundHour, .ref ta_gunClock, .ref ta_gunHour, .ref tau]))] H := hP
  have hD : va_D A [(mm, .inr (11, [.int 0, .ref mm_tape, .int 0, .ref mm_number, .ref mm_clockName, .ref mm_clockOff, .ref mm_clockGain, .ref mm_clockRough, .ref mm_personName, .ref mm_personOff, .ref mm_personGain, .ref mm_personRough, .ref mm_custom, .ref mm_customA, .ref mm_customB, .ref mm_ruleFrom, .ref mm_ruleTo, .ref mm_roundOf, .ref mm_roundAt, .ref mm_roundHour, .ref mm_gunAt, .ref mm_gunHour, .ref mm_knotSort, .ref mm_knotValue, .int 0, .int 0, .int 0, .int 0, .int 0, .int 0, .int 0, .int 0, .int 0, .int (-1), .int 0, .int 0, .int 0, .int 0, .int 0, .int 0, .int 0, .int 0, .int 0, .int 0, .int 0, .int 0, .ref mm_start, .ref mm_off, .ref mm_last, .ref mm_passed, .ref mm_kept, .ref mm_keptMany, .int 0, .int 0, .ref mm_history, .ref mm_names, .ref mm_worked, .int 0, .int 0, .int (-1), .ref mm_readThing, .ref mm_readHour, .ref mm_readLow, .ref mm_readHigh, .int 0, .int 0, .int 0, .ref mm_imageOff, .ref mm_imageLast, .ref mm_imagePassed, .ref mm_imageKept, .ref mm_imageMany, .ref mm_imageHistory])), (mm_number, .inl (k_mm_number, 10, .inl (fun _ => 0))), (xx, .inr (10, [.ref rr, .ref ta, .ref tb, .ref pa, .ref pb, .ref cn, .ref ci, .int 0, .ref cp, .ref ct, .ref hs, .ref rd, .ref wy, .ref ea, .ref eb])), (ta, .inr (8, [.int 0, .int 0, .int 0, .int 0, .int 0, .ref ta_name, .ref ta_first, .ref ta_gain, .ref ta_rough, .ref ta_custom, .ref ta_part, .ref ta_whole, .ref ta_roundPerson, .ref ta_roundClock, .ref ta_roundHour, .ref ta_gunClock, .ref ta_gunHour, .ref tau]))] := hD
  clear hPc hDc hKc hFc hP1 hD1 hk1 hz1 ht hvm
  have hw : r_6 = -1 := hw
  subst r_6
  refine lv_aload_n hx hb dL_law_465 rfl (lv_at hl 2 rfl) ?_
  refine lv_aload_n hx hb dL_law_466 rfl (lv_at hl 4 rfl) ?_
  refine lv_iload hx hb dL_law_467 (lv_at hl 0 rfl) ?_
  refine lv_iconst (v := 1) hx hb dL_law_469 (by decide) ?_
  refine lv_iadd hx hb dL_law_470 ?_
  refine lv_topi (fun z_7 ez_7 => ?_)
  obtain rfl : z_7 = 1 := ez_7.trans (by decide)
  refine va_sld hx hb hX hbl hbA hS (pk_in 1 7 (by decide) (by decide) (by decide)) dL_law_471 ?_
  refine lv_topi (fun z_8 ez_8 => ?_)
  replace ez_8 : z_8 = xs 1 := ez_8
  subst z_8
  refine lv_aload_n hx hb dL_law_472 rfl (lv_at hl 4 rfl) ?_
  refine lv_iload hx hb dL_law_473 (lv_at hl 0 rfl) ?_
  refine lv_iconst (v := 2) hx hb dL_law_475 (by decide) ?_
  refine lv_iadd hx hb dL_law_476 ?_
  refine lv_topi (fun z_9 ez_9 => ?_)
  obtain rfl : z_9 = 2 := ez_9.trans (by decide)
  refine va_sld hx hb hX hbl hbA hS (pk_in 2 7 (by decide) (by decide) (by decide)) dL_law_477 ?_
  refine lv_topi (fun z_10 ez_10 => ?_)
  replace ez_10 : z_10 = xs 2 := ez_10
  subst z_10
  have hPc := hP.sub (ws' := [(mm, .inr (11, [.int 0, .ref mm_tape, .int 0, .ref mm_number, .ref mm_clockName, .ref mm_clockOff, .ref mm_clockGain, .ref mm_clockRough, .ref mm_personName, .ref mm_personOff, .ref mm_personGain, .ref mm_personRough, .ref mm_custom, .ref mm_customA, .ref mm_customB, .ref mm_ruleFrom, .ref mm_ruleTo, .ref mm_roundOf, .ref mm_roundAt, .ref mm_roundHour, .ref mm_gunAt, .ref mm_gunHour, .ref mm_knotSort, .ref mm_knotValue, .int 0, .int 0, .int 0, .int 0, .int 0, .int 0, .int 0, .int 0, .int 0, .int (-1), .int 0, .int 0, .int 0, .int 0, .int 0, .int 0, .int 0, .int 0, .int 0, .int 0, .int 0, .int 0, .ref mm_start, .ref mm_off, .ref mm_last, .ref mm_passed, .ref mm_kept, .ref mm_keptMany, .int 0, .int 0, .ref mm_history, .ref mm_names, .ref mm_worked, .int 0, .int 0, .int (-1), .ref mm_readThing, .ref mm_readHour, .ref mm_readLow, .ref mm_readHigh, .int 0, .int 0, .int 0, .ref mm_imageOff, .ref mm_imageLast, .ref mm_imagePassed, .ref mm_imageKept, .ref mm_imageMany, .ref mm_imageHistory])), (mm_number, .inl (k_mm_number, 10, .inl (fun _ => 0)))]) [0, 1] rfl
  have hDc := hD.sub (ws' := [(mm, .inr (11, [.int 0, .ref mm_tape, .int 0, .ref mm_number, .ref mm_clockName, .ref mm_clockOff, .ref mm_clockGain, .ref mm_clockRough, .ref mm_personName, .ref mm_personOff, .ref mm_personGain, .ref mm_personRough, .ref mm_custom, .ref mm_customA, .ref mm_customB, .ref mm_ruleFrom, .ref mm_ruleTo, .ref mm_roundOf, .ref mm_roundAt, .ref mm_roundHour, .ref mm_gunAt, .ref mm_gunHour, .ref mm_knotSort, .ref mm_knotValue, .int 0, .int 0, .int 0, .int 0, .int 0, .int 0, .int 0, .int 0, .int 0, .int (-1), .int 0, .int 0, .int 0, .int 0, .int 0, .int 0, .int 0, .int 0, .int 0, .int 0, .int 0, .int 0, .ref mm_start, .ref mm_off, .ref mm_last, .ref mm_passed, .ref mm_kept, .ref mm_keptMany, .int 0, .int 0, .ref mm_history, .ref mm_names, .ref mm_worked, .int 0, .int 0, .int (-1), .ref mm_readThing, .ref mm_readHour, .ref mm_readLow, .ref mm_readHigh, .int 0, .int 0, .int 0, .ref mm_imageOff, .ref mm_imageLast, .ref mm_imagePassed, .ref mm_imageKept, .ref mm_imageMany, .ref mm_imageHistory])), (mm_number, .inl (k_mm_number, 10, .inl (fun _ => 0)))]) [0, 1] (by decide) rfl
  have hKc := hK.sub (tys' := [(k_mm_number, .int)]) [0] rfl
  have hFc := va_free (wc := [(mm, .inr (11, [.int 0, .ref mm_tape, .int 0, .ref mm_number, .ref mm_clockName, .ref mm_clockOff, .ref mm_clockGain, .ref mm_clockRough, .ref mm_personName, .ref mm_personOff, .ref mm_personGain, .ref mm_personRough, .ref mm_custom, .ref mm_customA, .ref mm_customB, .ref mm_ruleFrom, .ref mm_ruleTo, .ref mm_roundOf, .ref mm_roundAt, .ref mm_roundHour, .ref mm_gunAt, .ref mm_gunHour, .ref mm_knotSort, .ref mm_knotValue, .int 0, .int 0, .int 0, .int 0, .int 0, .int 0, .int 0, .int 0, .int 0, .int (-1), .int 0, .int 0, .int 0, .int 0, .int 0, .int 0, .int 0, .int 0, .int 0, .int 0, .int 0, .int 0, .ref mm_start, .ref mm_off, .ref mm_last, .ref mm_passed, .ref mm_kept, .ref mm_keptMany, .int 0, .int 0, .ref mm_history, .ref mm_names, .ref mm_worked, .int 0, .int 0, .int (-1), .ref mm_readThing, .ref mm_readHour, .ref mm_readLow, .ref mm_readHigh, .int 0, .int 0, .int 0, .ref mm_imageOff, .ref mm_imageLast, .ref mm_imagePassed, .ref mm_imageKept, .ref mm_imageMany, .ref mm_imageHistory])), (mm_number, .inl (k_mm_number, 10, .inl (fun _ => 0)))]) hD hS hA [0, 1] rfl
  have := (by decide : (0 : Int32).toInt = 0)
  have := (by decide : (0 : Int32).toInt = 0)
  have := (by decide : (0 : Int32).toInt = 0)
  have := (by decide : (0 : Int32).toInt = 0)
  have := (by decide : (0 : Int32).toInt = 0)
  have := (by decide : (0 : Int32).toInt = 0)
  have := (by decide : (0 : Int32).toInt = 0)
  have := (by decide : (0 : Int32).toInt = 0)
  have := (by decide : (0 : Int32).toInt = 0)
  have := (by decide : (0 : Int32).toInt = 0)
  have := (by decide : (0 : Int32).toInt = 0)
  have := (by decide : ((-1) : Int32).toInt = -1)
  have := (by decide : (0 : Int32).toInt = 0)
  have := (by decide : (0 : Int32).toInt = 0)
  have := (by decide : (0 : Int32).toInt = 0)
  have := (by decide : (0 : Int32).toInt = 0)
  have := (by decide : (0 : Int32).toInt = 0)
  have := (by decide : (0 : Int32).toInt = 0)
  have := (by decide : (0 : Int32).toInt = 0)
  have := (by decide : (0 : Int32).toInt = 0)
  have := (by decide : (0 : Int32).toInt = 0)
  have := (by decide : (0 : Int32).toInt = 0)
  have := (by decide : (0 : Int32).toInt = 0)
  have := (by decide : (0 : Int32).toInt = 0)
  have := (by decide : (0 : Int32).toInt = 0)
  have := (by decide : (0 : Int32).toInt = 0)
  have := (by decide : (0 : Int32).toInt = 0)
  have := (by decide : (0 : Int32).toInt = 0)
  have := (by decide : ((-1) : Int32).toInt = -1)
  have := (by decide : (0 : Int32).toInt = 0)
  have := (by decide : (0 : Int32).toInt = 0)
  have := (by decide : (0 : Int32).toInt = 0)
  refine va_calli (va_runV (As := [.int (xs 1), .int (xs 2)]) (rest := [.int (-1)]) ⟨hx, hb, hml, hown, hT⟩ (c_X11_round l dC dI H.size mm (xs 1) (xs 2) (0 : Int32) mm_tape (0 : Int32) mm_number mm_clockName mm_clockOff mm_clockGain mm_clockRough mm_personName mm_personOff mm_personGain mm_personRough mm_custom mm_customA mm_customB mm_ruleFrom mm_ruleTo mm_roundOf mm_roundAt mm_roundHour mm_gunAt mm_gunHour mm_knotSort mm_knotValue (0 : Int32) (0 : Int32) (0 : Int32) (0 : Int32) (0 : Int32) (0 : Int32) (0 : Int32) (0 : Int32) (0 : Int32) ((-1) : Int32) (0 : Int32) (0 : Int32) (0 : Int32) (0 : Int32) (0 : Int32) (0 : Int32) (0 : Int32) (0 : Int32) (0 : Int32) (0 : Int32) (0 : Int32) (0 : Int32) mm_start mm_off mm_last mm_passed mm_kept mm_keptMany (0 : Int32) (0 : Int32) mm_history mm_names mm_worked (0 : Int32) (0 : Int32) ((-1) : Int32) mm_readThing mm_readHour mm_readLow mm_readHigh (0 : Int32) (0 : Int32) (0 : Int32) mm_imageOff mm_imageLast mm_imagePassed mm_imageKept mm_imageMany mm_imageHistory k_mm_number (fun _ => 0) (fun _ => rfl)) (cwV 2 hT (gwV mw_7_175 mw_7_176 mw_7_177 mw_1_16 mw_7_178) rfl rfl rfl (by decide +kernel) ⟨Nat.le_of_ble_eq_true rfl, Nat.le_of_ble_eq_true rfl⟩) ⟨fun a U g mk q => by obtain ⟨q0, q1, qP, qK, qD⟩ := q; exact ⟨q0, q1, qP, va_K.moved (u := U) (U := U.calling g mk a) (Vm.Alike.refl U.vm) qK, qD⟩, va_recv hK hP (ci := 11) (q0 := 0) rfl rfl, fun U hU hW => ⟨rfl, by rw [hU], by rw [hU]; exact hPc, va_K.moved hW.alike hKc, hDc.weaken (fun _ _ _ _ => trivial)⟩⟩ rfl rfl hl.1 rfl (lv_room (Nat.le_of_ble_eq_true rfl)) dL_law_478 ⟨Nat.le_of_ble_eq_true rfl, Nat.le_of_ble_eq_true rfl⟩) hS (fun q _ h => hFc q h) hFc (fun r_12 u t H1 locs ht hvm hw hB hz1 hk1 hS => ?_)
  obtain ⟨hP1, hD1⟩ := hB
  rw [ht] at hP1
  obtain ⟨hP, hD⟩ := va_join (wr := [(xx, .inr (10, [.ref rr, .ref ta, .ref tb, .ref pa, .ref pb, .ref cn, .ref ci, .int 0, .ref cp, .ref ct, .ref hs, .ref rd, .ref wy, .ref ea, .ref eb])), (ta, .inr (8, [.int 0, .int 0, .int 0, .int 0, .int 0, .ref ta_name, .ref ta_first, .ref ta_gain, .ref ta_rough, .ref ta_custom, .ref ta_part, .ref ta_whole, .ref ta_roundPerson, .ref ta_roundClock, .ref ta_roundHour, .ref ta_gunClock, .ref ta_gunHour, .ref tau]))]) (w1 := [(mm, .inr (11, [.int 0, .ref mm_tape, .int 0, .ref mm_number, .ref mm_clockName, .ref mm_clockOff, .ref mm_clockGain, .ref mm_clockRough, .ref mm_personName, .ref mm_personOff, .ref mm_personGain, .ref mm_personRough, .ref mm_custom, .ref mm_customA, .ref mm_customB, .ref mm_ruleFrom, .ref mm_ruleTo, .ref mm_roundOf, .ref mm_roundAt, .ref mm_roundHour, .ref mm_gunAt, .ref mm_gunHour, .ref mm_knotSort, .ref mm_knotValue, .int 0, .int 0, .int 0, .int 0, .int 0, .int 0, .int 0, .int 0, .int 0, .int (-1), .int 0, .int 0, .int 0, .int 0, .int 0, .int 0, .int 0, .int 0, .int 0, .int 0, .int 0, .int 0, .ref mm_start, .ref mm_off, .ref mm_last, .ref mm_passed, .ref mm_kept, .ref mm_keptMany, .int 0, .int 0, .ref mm_history, .ref mm_names, .ref mm_worked, .int 0, .int 0, .int (-1), .ref mm_readThing, .ref mm_readHour, .ref mm_readLow, .ref mm_readHigh, .int 0, .int 0, .int 0, .ref mm_imageOff, .ref mm_imageLast, .ref mm_imagePassed, .ref mm_imageKept, .ref mm_imageMany, .ref mm_imageHistory])), (mm_number, .inl (k_mm_number, 10, .inl (fun _ => 0)))]) hP hD [0, 1] [2, 3] rfl rfl (by decide) (by decide) hk1 hFc hP1 hD1
  generalize H1 = H at hP hS ⊢
  have hP : va_P (dC, dI) vwCl [(xx, .inr (10, [.ref rr, .ref ta, .ref tb, .ref pa, .ref pb, .ref cn, .ref ci, .int 0, .ref cp, .ref ct, .ref hs, .ref rd, .ref wy, .ref ea, .ref eb])), (ta, .inr (8, [.int 0, .int 0, .int 0, .int 0, .int 0, .ref ta_name, .ref ta_first, .ref ta_gain, .ref ta_rough, .ref ta_custom, .ref ta_part, .ref ta_whole, .ref ta_roundPerson, .ref ta_roundClock, .ref ta_roundHour, .ref ta_gunClock, .ref ta_gunHour, .ref tau])), (mm, .inr (11, [.int 0, .ref mm_tape, .int 0, .ref mm_number, .ref mm_clockName, .ref mm_clockOff, .ref mm_clockGain, .ref mm_clockRough, .ref mm_personName, .ref mm_personOff, .ref mm_personGain, .ref mm_personRough, .ref mm_custom, .ref mm_customA, .ref mm_customB, .ref mm_ruleFrom, .ref mm_ruleTo, .ref mm_roundOf, .ref mm_roundAt, .ref mm_roundHour, .ref mm_gunAt, .ref mm_gunHour, .ref mm_knotSort, .ref mm_knotValue, .int 0, .int 0, .int 0, .int 0, .int 0, .int 0, .int 0, .int 0, .int 0, .int (-1), .int 0, .int 0, .int 0, .int 0, .int 0, .int 0, .int 0, .int 0, .int 0, .int 0, .int 0, .int 0, .ref mm_start, .ref mm_off, .ref mm_last, .ref mm_passed, .ref mm_kept, .ref mm_keptMany, .int 0, .int 0, .ref mm_history, .ref mm_names, .ref mm_worked, .int 0, .int 0, .int (-1), .ref mm_readThing, .ref mm_readHour, .ref mm_readLow, .ref mm_readHigh, .int 0, .int 0, .int 0, .ref mm_imageOff, .ref mm_imageLast, .ref mm_imagePassed, .ref mm_imageKept, .ref mm_imageMany, .ref mm_imageHistory])), (mm_number, .inl (k_mm_number, 10, .inl (fun _ => 0)))] H := hP
  have hD : va_D A [(xx, .inr (10, [.ref rr, .ref ta, .ref tb, .ref pa, .ref pb, .ref cn, .ref ci, .int 0, .ref cp, .ref ct, .ref hs, .ref rd, .ref wy, .ref ea, .ref eb])), (ta, .inr (8, [.int 0, .int 0, .int 0, .int 0, .int 0, .ref ta_name, .ref ta_first, .ref ta_gain, .ref ta_rough, .ref ta_custom, .ref ta_part, .ref ta_whole, .ref ta_roundPerson, .ref ta_roundClock, .ref ta_roundHour, .ref ta_gunClock, .ref ta_gunHour, .ref tau])), (mm, .inr (11, [.int 0, .ref mm_tape, .int 0, .ref mm_number, .ref mm_clockName, .ref mm_clockOff, .ref mm_clockGain, .ref mm_clockRough, .ref mm_personName, .ref mm_personOff, .ref mm_personGain, .ref mm_personRough, .ref mm_custom, .ref mm_customA, .ref mm_customB, .ref mm_ruleFrom, .ref mm_ruleTo, .ref mm_roundOf, .ref mm_roundAt, .ref mm_roundHour, .ref mm_gunAt, .ref mm_gunHour, .ref mm_knotSort, .ref mm_knotValue, .int 0, .int 0, .int 0, .int 0, .int 0, .int 0, .int 0, .int 0, .int 0, .int (-1), .int 0, .int 0, .int 0, .int 0, .int 0, .int 0, .int 0, .int 0, .int 0, .int 0, .int 0, .int 0, .ref mm_start, .ref mm_off, .ref mm_last, .ref mm_passed, .ref mm_kept, .ref mm_keptMany, .int 0, .int 0, .ref mm_history, .ref mm_names, .ref mm_worked, .int 0, .int 0, .int (-1), .ref mm_readThing, .ref mm_readHour, .ref mm_readLow, .ref mm_readHigh, .int 0, .int 0, .int 0, .ref mm_imageOff, .ref mm_imageLast, .ref mm_imagePassed, .ref mm_imageKept, .ref mm_imageMany, .ref mm_imageHistory])), (mm_number, .inl (k_mm_number, 10, .inl (fun _ => 0)))] := hD
  clear hPc hDc hKc hFc hP1 hD1 hk1 hz1 ht hvm
  have hw : r_12 = -1 := hw
  subst r_12
  refine lv_icmp_eq (tgt := 1482) hx hb dL_law_481 (by decide) (fun c_13 => ?_) (fun c_13 => absurd c_13 (by decide))
  refine lv_iinc (v := 7) (lv' := [(4, .int 7), (3, .ref oo), (2, .ref mm), (1, .ref xx), (0, .ref b)]) hx hb dL_law_1482 hl (k := 0) rfl (by decide) (by decide) rfl (fun ls hl => ?_)
  refine lv_goto (tgt := 23) hx hb dL_law_1485 (by decide) ?_
  refine lv_iload hx hb dL_law_23 (lv_at hl 0 rfl) ?_
  refine lv_aload_n hx hb dL_law_25 rfl (lv_at hl 4 rfl) ?_
  refine va_slen hx hb hX hbl hbA hS dL_law_26 ?_
  refine lv_topi (fun z_14 ez_14 => ?_)
  obtain rfl : z_14 = 7 := ez_14.trans (by decide)
  refine lv_bipush (v := 7) hx hb dL_law_27 (by decide) ?_
  refine lv_isub hx hb dL_law_29 ?_
  refine lv_topi (fun z_15 ez_15 => ?_)
  obtain rfl : z_15 = 0 := ez_15.trans (by decide)
  refine lv_icmp_gt (tgt := 1488) hx hb dL_law_30 (by decide) (fun c_16 => ?_) (fun c_16 => absurd c_16 (by decide))
  refine lv_iconst (v := 1) hx hb dL_law_1488 (by decide) ?_
  refine va_forget (fun q hq => hAo _ (hS.2.2 q hq)) ?_
  refine W.widen (k := 600002) (n := 7302232) (Nat.le_of_ble_eq_true rfl) (Nat.le_of_ble_eq_true rfl) ?_
  exact lw_ret hx hb hr hlocks dL_law_1489
set_option maxHeartbeats 4000000 in
set_option maxRecDepth 100000 in
theorem law_op_7 {p : Program} {l : Launch} {e : Env} {s : State} {m : MethodId} {below : List Frame} {meth : Method} {c : Code} {dC : Nat → ClassId} {dI : Nat → Nat → Nat} {b : Nat} {xs : Nat → Int32} {A : Nat → Prop} (C0 : lw_At p s m meth c b 7 xs) (hA : ∀ q, s.heap.size ≤ q → A q) (hbA : ¬ A b) (hAo : ∀ q, A q → s.heap.size ≤ q) {xx : Nat} {rr : Nat} {ta : Nat} {tb : Nat} {pa : Nat} {pb : Nat} {cn : Nat} {ci : Nat} {cp : Nat} {ct : Nat} {hs : Nat} {rd : Nat} {wy : Nat} {ea : Nat} {eb : Nat} {ta_name : Nat} {ta_first : Nat} {ta_gain : Nat} {ta_rough : Nat} {ta_custom : Nat} {ta_part : Nat} {ta_whole : Nat} {ta_roundPerson : Nat} {ta_roundClock : Nat} {ta_roundHour : Nat} {ta_gunClock : Nat} {ta_gunHour : Nat} {tau : Nat} {pa_first : Nat} {pa_gain : Nat} {pa_custom : Nat} {pa_ruled : Nat} {pa_deedHour : Nat} {pa_deedPerson : Nat} {pa_deedClock : Nat} {cn_last : Nat} {cn_passed : Nat} {cn_keptCount : Nat} {cn_off : Nat} {cn_since : Nat} {cn_kept : Nat} {cn_sorted : Nat} {hs_off : Nat} {hs_apart : Nat} {k_hs_apart : ClassId} {mm : Nat} {mm_tape : Nat} {mm_number : Nat} {mm_clockName : Nat} {mm_clockOff : Nat} {mm_clockGain : Nat} {mm_clockRough : Nat} {mm_personName : Nat} {mm_personOff : Nat} {mm_personGain : Nat} {mm_personRough : Nat} {mm_custom : Nat} {mm_customA : Nat} {mm_customB : Nat} {mm_ruleFrom : Nat} {mm_ruleTo : Nat} {mm_roundOf : Nat} {mm_roundAt : Nat} {mm_roundHour : Nat} {mm_gunAt : Nat} {mm_gunHour : Nat} {mm_knotSort : Nat} {mm_knotValue : Nat} {mm_start : Nat} {mm_off : Nat} {mm_last : Nat} {mm_passed : Nat} {mm_kept : Nat} {mm_keptMany : Nat} {mm_history : Nat} {mm_names : Nat} {mm_worked : Nat} {mm_readThing : Nat} {mm_readHour : Nat} {mm_readLow : Nat} {mm_readHigh : Nat} {mm_imageOff : Nat} {mm_imageLast : Nat} {mm_imagePassed : Nat} {mm_imageKept : Nat} {mm_imageMany : Nat} {mm_imageHistory : Nat} {k_mm_number : ClassId} {oo : Nat} {H : Heap} {locs : List Loc} {ls : Array Slot} (hK : va_K (dC, dI) vwCl [(k_hs_apart, .int), (k_mm_number, .int)] s) (hP : va_P (dC, dI) vwCl [(xx, .inr (10, [.ref rr, .ref ta, .ref tb, .ref pa, .ref pb, .ref cn, .ref ci, .int 0, .ref cp, .ref ct, .ref hs, .ref rd, .ref wy, .ref ea, .ref eb])), (ta, .inr (8, [.int 0, .int 0, .int 0, .int 0, .int 0, .ref ta_name, .ref ta_first, .ref ta_gain, .ref ta_rough, .ref ta_custom, .ref ta_part, .ref ta_whole, .ref ta_roundPerson, .ref ta_roundClock, .ref ta_roundHour, .ref ta_gunClock, .ref ta_gunHour, .ref tau])), (pa, .inr (3, [.ref ta, .ref pa_first, .ref pa_gain, .ref pa_custom, .ref pa_ruled, .int 0, .ref pa_deedHour, .ref pa_deedPerson, .ref pa_deedClock])), (cn, .inr (0, [.ref pa, .int 0, .int 0, .ref cn_last, .ref cn_passed, .ref cn_keptCount, .int 0, .int 0, .int 0, .int 0, .ref cn_off, .ref cn_since, .ref cn_kept, .ref cn_sorted])), (hs, .inr (2, [.ref hs_off, .ref hs_apart])), (hs_apart, .inl (k_hs_apart, 2000, .inl (fun _ => 0))), (mm, .inr (11, [.int 0, .ref mm_tape, .int 0, .ref mm_number, .ref mm_clockName, .ref mm_clockOff, .ref mm_clockGain, .ref mm_clockRough, .ref mm_personName, .ref mm_personOff, .ref mm_personGain, .ref mm_personRough, .ref mm_custom, .ref mm_customA, .ref mm_customB, .ref mm_ruleFrom, .ref mm_ruleTo, .ref mm_roundOf, .ref mm_roundAt, .ref mm_roundHour, .ref mm_gunAt, .ref mm_gunHour, .ref mm_knotSort, .ref mm_knotValue, .int 0, .int 0, .int 0, .int 0, .int 0, .int 0, .int 0, .int 0, .int 0, .int (-1), .int 0, .int 0, .int 0, .int 0, .int 0, .int 0, .int 0, .int 0, .int 0, .int 0, .int 0, .int 0, .ref mm_start, .ref mm_off, .ref mm_last, .ref mm_passed, .ref mm_kept, .ref mm_keptMany, .int 0, .int 0, .ref mm_history, .ref mm_names, .ref mm_worked, .int 0, .int 0, .int (-1), .ref mm_readThing, .ref mm_readHour, .ref mm_readLow, .ref mm_readHigh, .int 0, .int 0, .int 0, .ref mm_imageOff, .ref mm_imageLast, .ref mm_imagePassed, .ref mm_imageKept, .ref mm_imageMany, .ref mm_imageHistory])), (mm_number, .inl (k_mm_number, 10, .inl (fun _ => 0)))] H) (hD : va_D A [(xx, .inr (10, [.ref rr, .ref ta, .ref tb, .ref pa, .ref pb, .ref cn, .ref ci, .int 0, .ref cp, .ref ct, .ref hs, .ref rd, .ref wy, .ref ea, .ref eb])), (ta, .inr (8, [.int 0, .int 0, .int 0, .int 0, .int 0, .ref ta_name, .ref ta_first, .ref ta_gain, .ref ta_rough, .ref ta_custom, .ref ta_part, .ref ta_whole, .ref ta_roundPerson, .ref ta_roundClock, .ref ta_roundHour, .ref ta_gunClock, .ref ta_gunHour, .ref tau])), (pa, .inr (3, [.ref ta, .ref pa_first, .ref pa_gain, .ref pa_custom, .ref pa_ruled, .int 0, .ref pa_deedHour, .ref pa_deedPerson, .ref pa_deedClock])), (cn, .inr (0, [.ref pa, .int 0, .int 0, .ref cn_last, .ref cn_passed, .ref cn_keptCount, .int 0, .int 0, .int 0, .int 0, .ref cn_off, .ref cn_since, .ref cn_kept, .ref cn_sorted])), (hs, .inr (2, [.ref hs_off, .ref hs_apart])), (hs_apart, .inl (k_hs_apart, 2000, .inl (fun _ => 0))), (mm, .inr (11, [.int 0, .ref mm_tape, .int 0, .ref mm_number, .ref mm_clockName, .ref mm_clockOff, .ref mm_clockGain, .ref mm_clockRough, .ref mm_personName, .ref mm_personOff, .ref mm_personGain, .ref mm_personRough, .ref mm_custom, .ref mm_customA, .ref mm_customB, .ref mm_ruleFrom, .ref mm_ruleTo, .ref mm_roundOf, .ref mm_roundAt, .ref mm_roundHour, .ref mm_gunAt, .ref mm_gunHour, .ref mm_knotSort, .ref mm_knotValue, .int 0, .int 0, .int 0, .int 0, .int 0, .int 0, .int 0, .int 0, .int 0, .int (-1), .int 0, .int 0, .int 0, .int 0, .int 0, .int 0, .int 0, .int 0, .int 0, .int 0, .int 0, .int 0, .ref mm_start, .ref mm_off, .ref mm_last, .ref mm_passed, .ref mm_kept, .ref mm_keptMany, .int 0, .int 0, .ref mm_history, .ref mm_names, .ref mm_worked, .int 0, .int 0, .int (-1), .ref mm_readThing, .ref mm_readHour, .ref mm_readLow, .ref mm_readHigh, .int 0, .int 0, .int 0, .ref mm_imageOff, .ref mm_imageLast, .ref mm_imagePassed, .ref mm_imageKept, .ref mm_imageMany, .ref mm_imageHistory])), (mm_number, .inl (k_mm_number, 10, .inl (fun _ => 0)))]) (hS : va_S A s.heap H locs) (hl : lv_has ls 7 [(4, .int 0), (3, .ref oo), (2, .ref mm), (1, .ref xx), (0, .ref b)]) : W p l e room_1 s m #[Value.ref b] below meth c H locs 160 67979 (lw_Z below #[Value.ref b] s) (F0 m 486 ls []) := by
  obtain ⟨hx, hb, hr, hml, hown, hts, hX, hbl, hlocks, hgv⟩ := C0
  have hT : ∀ w ∈ pw_T, w.before #[Value.ref b] s = true := fun w h => hts w (List.mem_filter.mp h).1
  have hown : s.vm.findClass RL = some m.cls := hown
  refine lv_aload_n hx hb dL_law_486 rfl (lv_at hl 3 rfl) ?_
  refine lv_aload_n hx hb dL_law_487 rfl (lv_at hl 4 rfl) ?_
  refine lv_iload hx hb dL_law_488 (lv_at hl 0 rfl) ?_
  refine lv_iconst (v := 1) hx hb dL_law_490 (by decide) ?_
  refine lv_iadd hx hb dL_law_491 ?_
  refine lv_topi (fun z_1 ez_1 => ?_)
  obtain rfl : z_1 = 1 := ez_1.trans (by decide)
  refine va_sld hx hb hX hbl hbA hS (pk_in 1 7 (by decide) (by decide) (by decide)) dL_law_492 ?_
  refine lv_topi (fun z_2 ez_2 => ?_)
  replace ez_2 : z_2 = xs 1 := ez_2
  subst z_2
  have hPc := hP.sub (ws' := [(xx, .inr (10, [.ref rr, .ref ta, .ref tb, .ref pa, .ref pb, .ref cn, .ref ci, .int 0, .ref cp, .ref ct, .ref hs, .ref rd, .ref wy, .ref ea, .ref eb])), (cn, .inr (0, [.ref pa, .int 0, .int 0, .ref cn_last, .ref cn_passed, .ref cn_keptCount, .int 0, .int 0, .int 0, .int 0, .ref cn_off, .ref cn_since, .ref cn_kept, .ref cn_sorted])), (pa, .inr (3, [.ref ta, .ref pa_first, .ref pa_gain, .ref pa_custom, .ref pa_ruled, .int 0, .ref pa_deedHour, .ref pa_deedPerson, .ref pa_deedClock])), (ta, .inr (8, [.int 0, .int 0, .int 0, .int 0, .int 0, .ref ta_name, .ref ta_first, .ref ta_gain, .ref ta_rough, .ref ta_custom, .ref ta_part, .ref ta_whole, .ref ta_roundPerson, .ref ta_roundClock, .ref ta_roundHour, .ref ta_gunClock, .ref ta_gunHour, .ref tau])), (hs, .inr (2, [.ref hs_off, .ref hs_apart])), (hs_apart, .inl (k_hs_apart, 2000, .inl (fun _ => 0)))]) [0, 3, 2, 1, 4, 5] rfl
  have hDc := hD.sub (ws' := [(xx, .inr (10, [.ref rr, .ref ta, .ref tb, .ref pa, .ref pb, .ref cn, .ref ci, .int 0, .ref cp, .ref ct, .ref hs, .ref rd, .ref wy, .ref ea, .ref eb])), (cn, .inr (0, [.ref pa, .int 0, .int 0, .ref cn_last, .ref cn_passed, .ref cn_keptCount, .int 0, .int 0, .int 0, .int 0, .ref cn_off, .ref cn_since, .ref cn_kept, .ref cn_sorted])), (pa, .inr (3, [.ref ta, .ref pa_first, .ref pa_gain, .ref pa_custom, .ref pa_ruled, .int 0, .ref pa_deedHour, .ref pa_deedPerson, .ref pa_deedClock])), (ta, .inr (8, [.int 0, .int 0, .int 0, .int 0, .int 0, .ref ta_name, .ref ta_first, .ref ta_gain, .ref ta_rough, .ref ta_custom, .ref ta_part, .ref ta_whole, .ref ta_roundPerson, .ref ta_roundClock, .ref ta_roundHour, .ref ta_gunClock, .ref ta_gunHour, .ref tau])), (hs, .inr (2, [.ref hs_off, .ref hs_apart])), (hs_apart, .inl (k_hs_apart, 2000, .inl (fun _ => 0)))]) [0, 3, 2, 1, 4, 5] (by decide) rfl
  have hKc := hK.sub (tys' := [(k_hs_apart, .int)]) [0] rfl
  have hFc := va_free (wc := [(xx, .inr (10, [.ref rr, .ref ta, .ref tb, .ref pa, .ref pb, .ref cn, .ref ci, .int 0, .ref cp, .ref ct, .ref hs, .ref rd, .ref wy, .ref ea, .ref eb])), (cn, .inr (0, [.ref pa, .int 0, .int 0, .ref cn_last, .ref cn_passed, .ref cn_keptCount, .int 0, .int 0, .int 0, .int 0, .ref cn_off, .ref cn_since, .ref cn_kept, .ref cn_sorted])), (pa, .inr (3, [.ref ta, .ref pa_first, .ref pa_gain, .ref pa_custom, .ref pa_ruled, .int 0, .ref pa_deedHour, .ref pa_deedPerson, .ref pa_deedClock])), (ta, .inr (8, [.int 0, .int 0, .int 0, .int 0, .int 0, .ref ta_name, .ref ta_first, .ref ta_gain, .ref ta_rough, .ref ta_custom, .ref ta_part, .ref ta_whole, .ref ta_roundPerson, .ref ta_roundClock, .ref ta_roundHour, .ref ta_gunClock, .ref ta_gunHour, .ref tau])), (hs, .inr (2, [.ref hs_off, .ref hs_apart])), (hs_apart, .inl (k_hs_apart, 2000, .inl (fun _ => 0)))]) hD hS hA [0, 3, 2, 1, 4, 5] rfl
  have := (by decide : (0 : Int32).toInt = 0)
  have := (by decide : (0 : Int32).toInt = 0)
  have := (by decide : (0 : Int32).toInt = 0)
  have := (by decide : (0 : Int32).toInt = 0)
  have := (by decide : (0 : Int32).toInt = 0)
  have := (by decide : (0 : Int32).toInt = 0)
  have := (by decide : (0 : Int32).toInt = 0)
  have := (by decide : (0 : Int32).toInt = 0)
  refine va_calli (va_runV (As := [.int (xs 1)]) (rest := []) ⟨hx, hb, hml, hown, hT⟩ (c_X10_hours l dC dI H.size xx (xs 1) rr ta tb pa pb cn ci (0 : Int32) cp ct hs rd wy ea eb pa (0 : Int32) cn_last cn_passed cn_keptCount (0 : Int32) (0 : Int32) (0 : Int32) cn_off cn_since cn_kept cn_sorted ta pa_first pa_gain pa_custom pa_ruled pa_deedHour pa_deedPerson pa_deedClock (0 : Int32) (0 : Int32) (0 : Int32) ta_name ta_first ta_gain ta_rough ta_custom ta_part ta_whole ta_roundPerson ta_roundClock ta_roundHour ta_gunClock ta_gunHour tau hs_off hs_apart k_hs_apart (fun _ => 0) ) (cwV 1 hT (gwV mw_4_49 mw_4_50 mw_4_51 mw_1_1 mw_4_52) rfl rfl rfl (by decide +kernel) ⟨Nat.le_of_ble_eq_true rfl, Nat.le_of_ble_eq_true rfl⟩) ⟨fun a U g mk q => by obtain ⟨q0, q1, qP, qK, qD⟩ := q; exact ⟨q0, q1, qP, va_K.moved (u := U) (U := U.calling g mk a) (Vm.Alike.refl U.vm) qK, qD⟩, va_recv hK hP (ci := 10) (q0 := 0) rfl rfl, fun U hU hW => ⟨rfl, by rw [hU], by rw [hU]; exact hPc, va_K.moved hW.alike hKc, hDc.weaken (fun _ _ _ _ => trivial)⟩⟩ rfl rfl hl.1 rfl (lv_room (Nat.le_of_ble_eq_true rfl)) dL_law_493 ⟨Nat.le_of_ble_eq_true rfl, Nat.le_of_ble_eq_true rfl⟩) hS (fun q _ h => hFc q h) hFc (fun r_4 u t H1 locs ht hvm hw hB hz1 hk1 hS => ?_)
  obtain ⟨hP1, hD1⟩ := hB
  rw [ht] at hP1
  obtain ⟨hP, hD⟩ := va_join (wr := [(mm, .inr (11, [.int 0, .ref mm_tape, .int 0, .ref mm_number, .ref mm_clockName, .ref mm_clockOff, .ref mm_clockGain, .ref mm_clockRough, .ref mm_personName, .ref mm_personOff, .ref mm_personGain, .ref mm_personRough, .ref mm_custom, .ref mm_customA, .ref mm_customB, .ref mm_ruleFrom, .ref mm_ruleTo, .ref mm_roundOf, .ref mm_roundAt, .ref mm_roundHour, .ref mm_gunAt, .ref mm_gunHour, .ref mm_knotSort, .ref mm_knotValue, .int 0, .int 0, .int 0, .int 0, .int 0, .int 0, .int 0, .int 0, .int 0, .int (-1), .int 0, .int 0, .int 0, .int 0, .int 0, .int 0, .int 0, .int 0, .int 0, .int 0, .int 0, .int 0, .ref mm_start, .ref mm_off, .ref mm_last, .ref mm_passed, .ref mm_kept, .ref mm_keptMany, .int 0, .int 0, .ref mm_history, .ref mm_names, .ref mm_worked, .int 0, .int 0, .int (-1), .ref mm_readThing, .ref mm_readHour, .ref mm_readLow, .ref mm_readHigh, .int 0, .int 0, .int 0, .ref mm_imageOff, .ref mm_imageLast, .ref mm_imagePassed, .ref mm_imageKept, .ref mm_imageMany, .ref mm_imageHistory])), (mm_number, .inl (k_mm_number, 10, .inl (fun _ => 0)))]) (w1 := [(xx, .inr (10, [.ref rr, .ref ta, .ref tb, .ref pa, .ref pb, .ref cn, .ref ci, .int 0, .ref cp, .ref ct, .ref hs, .ref rd, .ref wy, .ref ea, .ref eb]))]) hP hD [0, 3, 2, 1, 4, 5] [6, 7] rfl rfl (by decide) (by decide) hk1 hFc hP1 hD1
  generalize H1 = H at hP hS ⊢
  have hP : va_P (dC, dI) vwCl [(mm, .inr (11, [.int 0, .ref mm_tape, .int 0, .ref mm_number, .ref mm_clockName, .ref mm_clockOff, .ref mm_clockGain, .ref mm_clockRough, .ref mm_personName, .ref mm_personOff, .ref mm_personGain, .ref mm_personRough, .ref mm_custom, .ref mm_customA, .ref mm_customB, .ref mm_ruleFrom, .ref mm_ruleTo, .ref mm_roundOf, .ref mm_roundAt, .ref mm_roundHour, .ref mm_gunAt, .ref mm_gunHour, .ref mm_knotSort, .ref mm_knotValue, .int 0, .int 0, .int 0, .int 0, .int 0, .int 0, .int 0, .int 0, .int 0, .int (-1), .int 0, .int 0, .int 0, .int 0, .int 0, .int 0, .int 0, .int 0, .int 0, .int 0, .int 0, .int 0, .ref mm_start, .ref mm_off, .ref mm_last, .ref mm_passed, .ref mm_kept, .ref mm_keptMany, .int 0, .int 0, .ref mm_history, .ref mm_names, .ref mm_worked, .int 0, .int 0, .int (-1), .ref mm_readThing, .ref mm_readHour, .ref mm_readLow, .ref mm_readHigh, .int 0, .int 0, .int 0, .ref mm_imageOff, .ref mm_imageLast, .ref mm_imagePassed, .ref mm_imageKept, .ref mm_imageMany, .ref mm_imageHistory])), (mm_number, .inl (k_mm_number, 10, .inl (fun _ => 0))), (xx, .inr (10, [.ref rr, .ref ta, .ref tb, .ref pa, .ref pb, .ref cn, .ref ci, .int 0, .ref cp, .ref ct, .ref hs, .ref rd, .ref wy, .ref ea, .ref eb]))] H := hP
  have hD : va_D A [(mm, .inr (11, [.int 0, .ref mm_tape, .int 0, .ref mm_number, .ref mm_clockName, .ref mm_clockOff, .ref mm_clockGain, .ref mm_clockRough, .ref mm_personName, .ref mm_personOff, .ref mm_personGain, .ref mm_personRough, .ref mm_custom, .ref mm_customA, .ref mm_customB, .ref mm_ruleFrom, .ref mm_ruleTo, .ref mm_roundOf, .ref mm_roundAt, .ref mm_roundHour, .ref mm_gunAt, .ref mm_gunHour, .ref mm_knotSort, .ref mm_knotValue, .int 0, .int 0, .int 0, .int 0, .int 0, .int 0, .int 0, .int 0, .int 0, .int (-1), .int 0, .int 0, .int 0, .int 0, .int 0, .int 0, .int 0, .int 0, .int 0, .int 0, .int 0, .int 0, .ref mm_start, .ref mm_off, .ref mm_last, .ref mm_passed, .ref mm_kept, .ref mm_keptMany, .int 0, .int 0, .ref mm_history, .ref mm_names, .ref mm_worked, .int 0, .int 0, .int (-1), .ref mm_readThing, .ref mm_readHour, .ref mm_readLow, .ref mm_readHigh, .int 0, .int 0, .int 0, .ref mm_imageOff, .ref mm_imageLast, .ref mm_imagePassed, .ref mm_imageKept, .ref mm_imageMany, .ref mm_imageHistory])), (mm_number, .inl (k_mm_number, 10, .inl (fun _ => 0))), (xx, .inr (10, [.ref rr, .ref ta, .ref tb, .ref pa, .ref pb, .ref cn, .ref ci, .int 0, .ref cp, .ref ct, .ref hs, .ref rd, .ref wy, .ref ea, .ref eb]))] := hD
  clear hPc hDc hKc hFc hP1 hD1 hk1 hz1 ht hvm
  have hw : (r_4 = (xs 1) ∧ (0 ≤ (xs 1).toInt ∧ (xs 1).toInt ≤ 500)) ∨ (r_4 = -1 ∧ ((xs 1).toInt < 0 ∨ 500 < (xs 1).toInt)) := hw
  rcases hw with ⟨hrr_4, hfr_4⟩ | ⟨hrr_4, hfr_4⟩
  · subst r_4
    refine lv_aload_n hx hb dL_law_496 rfl (lv_at hl 2 rfl) ?_
    refine lv_aload_n hx hb dL_law_497 rfl (lv_at hl 4 rfl) ?_
    refine lv_iload hx hb dL_law_498 (lv_at hl 0 rfl) ?_
    refine lv_iconst (v := 1) hx hb dL_law_500 (by decide) ?_
    refine lv_iadd hx hb dL_law_501 ?_
    refine lv_topi (fun z_5 ez_5 => ?_)
    obtain rfl : z_5 = 1 := ez_5.trans (by decide)
    refine va_sld hx hb hX hbl hbA hS (pk_in 1 7 (by decide) (by decide) (by decide)) dL_law_502 ?_
    refine lv_topi (fun z_6 ez_6 => ?_)
    replace ez_6 : z_6 = xs 1 := ez_6
    subst z_6
    have hPc := hP.sub (ws' := [(mm, .inr (11, [.int 0, .ref mm_tape, .int 0, .ref mm_number, .ref mm_clockName, .ref mm_clockOff, .ref mm_clockGain, .ref mm_clockRough, .ref mm_personName, .ref mm_personOff, .ref mm_personGain, .ref mm_personRough, .ref mm_custom, .ref mm_customA, .ref mm_customB, .ref mm_ruleFrom, .ref mm_ruleTo, .ref mm_roundOf, .ref mm_roundAt, .ref mm_roundHour, .ref mm_gunAt, .ref mm_gunHour, .ref mm_knotSort, .ref mm_knotValue, .int 0, .int 0, .int 0, .int 0, .int 0, .int 0, .int 0, .int 0, .int 0, .int (-1), .int 0, .int 0, .int 0, .int 0, .int 0, .int 0, .int 0, .int 0, .int 0, .int 0, .int 0, .int 0, .ref mm_start, .ref mm_off, .ref mm_last, .ref mm_passed, .ref mm_kept, .ref mm_keptMany, .int 0, .int 0, .ref mm_history, .ref mm_names, .ref mm_worked, .int 0, .int 0, .int (-1), .ref mm_readThing, .ref mm_readHour, .ref mm_readLow, .ref mm_readHigh, .int 0, .int 0, .int 0, .ref mm_imageOff, .ref mm_imageLast, .ref mm_imagePassed, .ref mm_imageKept, .ref mm_imageMany, .ref mm_imageHistory])), (mm_number, .inl (k_mm_number, 10, .inl (fun _ => 0)))]) [0, 1] rfl
    have hDc := hD.sub (ws' := [(mm, .inr (11, [.int 0, .ref mm_tape, .int 0, .ref mm_number, .ref mm_clockName, .ref mm_clockOff, .ref mm_clockGain, .ref mm_clockRough, .ref mm_personName, .ref mm_personOff, .ref mm_personGain, .ref mm_personRough, .ref mm_custom, .ref mm_customA, .ref mm_customB, .ref mm_ruleFrom, .ref mm_ruleTo, .ref mm_roundOf, .ref mm_roundAt, .ref mm_roundHour, .ref mm_gunAt, .ref mm_gunHour, .ref mm_knotSort, .ref mm_knotValue, .int 0, .int 0, .int 0, .int 0, .int 0, .int 0, .int 0, .int 0, .int 0, .int (-1), .int 0, .int 0, .int 0, .int 0, .int 0, .int 0, .int 0, .int 0, .int 0, .int 0, .int 0, .int 0, .ref mm_start, .ref mm_off, .ref mm_last, .ref mm_passed, .ref mm_kept, .ref mm_keptMany, .int 0, .int 0, .ref mm_history, .ref mm_names, .ref mm_worked, .int 0, .int 0, .int (-1), .ref mm_readThing, .ref mm_readHour, .ref mm_readLow, .ref mm_readHigh, .int 0, .int 0, .int 0, .ref mm_imageOff, .ref mm_imageLast, .ref mm_imagePassed, .ref mm_imageKept, .ref mm_imageMany, .ref mm_imageHistory])), (mm_number, .inl (k_mm_number, 10, .inl (fun _ => 0)))]) [0, 1] (by decide) rfl
    have hKc := hK.sub (tys' := [(k_mm_number, .int)]) [1] rfl
    have hFc := va_free (wc := [(mm, .inr (11, [.int 0, .ref mm_tape, .int 0, .ref mm_number, .ref mm_clockName, .ref mm_clockOff, .ref mm_clockGain, .ref mm_clockRough, .ref mm_personName, .ref mm_personOff, .ref mm_personGain, .ref mm_personRough, .ref mm_custom, .ref mm_customA, .ref mm_customB, .ref mm_ruleFrom, .ref mm_ruleTo, .ref mm_roundOf, .ref mm_roundAt, .ref mm_roundHour, .ref mm_gunAt, .ref mm_gunHour, .ref mm_knotSort, .ref mm_knotValue, .int 0, .int 0, .int 0, .int 0, .int 0, .int 0, .int 0, .int 0, .int 0, .int (-1), .int 0, .int 0, .int 0, .int 0, .int 0, .int 0, .int 0, .int 0, .int 0, .int 0, .int 0, .int 0, .ref mm_start, .ref mm_off, .ref mm_last, .ref mm_passed, .ref mm_kept, .ref mm_keptMany, .int 0, .int 0, .ref mm_history, .ref mm_names, .ref mm_worked, .int 0, .int 0, .int (-1), .ref mm_readThing, .ref mm_readHour, .ref mm_readLow, .ref mm_readHigh, .int 0, .int 0, .int 0, .ref mm_imageOff, .ref mm_imageLast, .ref mm_imagePassed, .ref mm_imageKept, .ref mm_imageMany, .ref mm_imageHistory])), (mm_number, .inl (k_mm_number, 10, .inl (fun _ => 0)))]) hD hS hA [0, 1] rfl
    have := (by decide : (0 : Int32).toInt = 0)
    have := (by decide : (0 : Int32).toInt = 0)
    have := (by decide : (0 : Int32).toInt = 0)
    have := (by decide : (0 : Int32).toInt = 0)
    have := (by decide : (0 : Int32).toInt = 0)
    have := (by decide : (0 : Int32).toInt = 0)
    have := (by decide : (0 : Int32).toInt = 0)
    have := (by decide : (0 : Int32).toInt = 0)
    have := (by decide : (0 : Int32).toInt = 0)
    have := (by decide : (0 : Int32).toInt = 0)
    have := (by decide : (0 : Int32).toInt = 0)
    have := (by decide : ((-1) : Int32).toInt = -1)
    have := (by decide : (0 : Int32).toInt = 0)
    have := (by decide : (0 : Int32).toInt = 0)
    have := (by decide : (0 : Int32).toInt = 0)
    have := (by decide : (0 : Int32).toInt = 0)
    have := (by decide : (0 : Int32).toInt = 0)
    have := (by decide : (0 : Int32).toInt = 0)
    have := (by decide : (0 : Int32).toInt = 0)
    have := (by decide : (0 : Int32).toInt = 0)
    have := (by decide : (0 : Int32).toInt = 0)
    have := (by decide : (0 : Int32).toInt = 0)
    have := (by decide : (0 : Int32).toInt = 0)
    have := (by decide : (0 : Int32).toInt = 0)
    have := (by decide : (0 : Int32).toInt = 0)
    have := (by decide : (0 : Int32).toInt = 0)
    have := (by decide : (0 : Int32).toInt = 0)
    have := (by decide : ((-1) : Int32).toInt = -1)
    have := (by decide : (0 : Int32).toInt = 0)
    have := (by decide : (0 : Int32).toInt = 0)
    have := (by decide : (0 : Int32).toInt = 0)
    refine va_calli (va_runV (As := [.int (xs 1)]) (rest := [.int (xs 1)]) ⟨hx, hb, hml, hown, hT⟩ (c_X11_hours l dC dI H.size mm (xs 1) (0 : Int32) mm_tape (0 : Int32) mm_number mm_clockName mm_clockOff mm_clockGain mm_clockRough mm_personName mm_personOff mm_personGain mm_personRough mm_custom mm_customA mm_customB mm_ruleFrom mm_ruleTo mm_roundOf mm_roundAt mm_roundHour mm_gunAt mm_gunHour mm_knotSort mm_knotValue (0 : Int32) (0 : Int32) (0 : Int32) (0 : Int32) (0 : Int32) (0 : Int32) (0 : Int32) (0 : Int32) (0 : Int32) ((-1) : Int32) (0 : Int32) (0 : Int32) (0 : Int32) (0 : Int32) (0 : Int32) (0 : Int32) (0 : Int32) (0 : Int32) (0 : Int32) (0 : Int32) (0 : Int32) (0 : Int32) mm_start mm_off mm_last mm_passed mm_kept mm_keptMany (0 : Int32) mm_history mm_names mm_worked (0 : Int32) (0 : Int32) ((-1) : Int32) mm_readThing mm_readHour mm_readLow mm_readHigh (0 : Int32) (0 : Int32) (0 : Int32) mm_imageOff mm_imageLast mm_imagePassed mm_imageKept mm_imageMany mm_imageHistory k_mm_number (fun _ => 0) (fun _ => rfl)) (cwV 1 hT (gwV mw_7_199 mw_7_200 mw_7_201 mw_1_16 mw_7_202) rfl rfl rfl (by decide +kernel) ⟨Nat.le_of_ble_eq_true rfl, Nat.le_of_ble_eq_true rfl⟩) ⟨fun a U g mk q => by obtain ⟨q0, q1, qP, qK, qD⟩ := q; exact ⟨q0, q1, qP, va_K.moved (u := U) (U := U.calling g mk a) (Vm.Alike.refl U.vm) qK, qD⟩, va_recv hK hP (ci := 11) (q0 := 0) rfl rfl, fun U hU hW => ⟨rfl, by rw [hU], by rw [hU]; exact hPc, va_K.moved hW.alike hKc, hDc.weaken (fun _ _ _ _ => trivial)⟩⟩ rfl rfl hl.1 rfl (lv_room (Nat.le_of_ble_eq_true rfl)) dL_law_503 ⟨Nat.le_of_ble_eq_true rfl, Nat.le_of_ble_eq_true rfl⟩) hS (fun q _ h => hFc q h) hFc (fun r_8 u t H1 locs ht hvm hw hB hz1 hk1 hS => ?_)
    obtain ⟨hP1, hD1⟩ := hB
    rw [ht] at hP1
    obtain ⟨hP, hD⟩ := va_join (wr := [(xx, .inr (10, [.ref rr, .ref ta, .ref tb, .ref pa, .ref pb, .ref cn, .ref ci, .int 0, .ref cp, .ref ct, .ref hs, .ref rd, .ref wy, .ref ea, .ref eb]))]) (w1 := []) hP hD [0, 1] [2] rfl rfl (by decide) (by decide) hk1 hFc hP1 hD1
    generalize H1 = H at hP hS ⊢
    have hP : va_P (dC, dI) vwCl [(xx, .inr (10, [.ref rr, .ref ta, .ref tb, .ref pa, .ref pb, .ref cn, .ref ci, .int 0, .ref cp, .ref ct, .ref hs, .ref rd, .ref wy, .ref ea, .ref eb]))] H := hP
    have hD : va_D A [(xx, .inr (10, [.ref rr, .ref ta, .ref tb, .ref pa, .ref pb, .ref cn, .ref ci, .int 0, .ref cp, .ref ct, .ref hs, .ref rd, .ref wy, .ref ea, .ref eb]))] := hD
    clear hPc hDc hKc hFc hP1 hD1 hk1 hz1 ht hvm
    have hw : (r_8 = (xs 1) ∧ (0 ≤ (xs 1).toInt ∧ (xs 1).toInt ≤ 500)) ∨ (r_8 = -1 ∧ ((xs 1).toInt < 0 ∨ 500 < (xs 1).toInt)) := hw
    rcases hw with ⟨hrr_8, hfr_8⟩ | ⟨hrr_8, hfr_8⟩
    · subst r_8
      refine lv_icmp_eq (tgt := 1482) hx hb dL_law_506 (by decide) (fun c_9 => ?_) (fun c_9 => absurd c_9 (by simp))
      refine lv_iinc (v := 7) (lv' := [(4, .int 7), (3, .ref oo), (2, .ref mm), (1, .ref xx), (0, .ref b)]) hx hb dL_law_1482 hl (k := 0) rfl (by decide) (by decide) rfl (fun ls hl => ?_)
      refine lv_goto (tgt := 23) hx hb dL_law_1485 (by decide) ?_
      refine lv_iload hx hb dL_law_23 (lv_at hl 0 rfl) ?_
      refine lv_aload_n hx hb dL_law_25 rfl (lv_at hl 4 rfl) ?_
      refine va_slen hx hb hX hbl hbA hS dL_law_26 ?_
      refine lv_topi (fun z_10 ez_10 => ?_)
      obtain rfl : z_10 = 7 := ez_10.trans (by decide)
      refine lv_bipush (v := 7) hx hb dL_law_27 (by decide) ?_
      refine lv_isub hx hb dL_law_29 ?_
      refine lv_topi (fun z_11 ez_11 => ?_)
      obtain rfl : z_11 = 0 := ez_11.trans (by decide)
      refine lv_icmp_gt (tgt := 1488) hx hb dL_law_30 (by decide) (fun c_12 => ?_) (fun c_12 => absurd c_12 (by decide))
      refine lv_iconst (v := 1) hx hb dL_law_1488 (by decide) ?_
      refine va_forget (fun q hq => hAo _ (hS.2.2 q hq)) ?_
      refine W.widen (k := 600002) (n := 7302232) (Nat.le_of_ble_eq_true rfl) (Nat.le_of_ble_eq_true rfl) ?_
      exact lw_ret hx hb hr hlocks dL_law_1489
    · subst r_8
      exact False.elim (by omega)
  · subst r_4
    refine lv_aload_n hx hb dL_law_496 rfl (lv_at hl 2 rfl) ?_
    refine lv_aload_n hx hb dL_law_497 rfl (lv_at hl 4 rfl) ?_
    refine lv_iload hx hb dL_law_498 (lv_at hl 0 rfl) ?_
    refine lv_iconst (v := 1) hx hb dL_law_500 (by decide) ?_
    refine lv_iadd hx hb dL_law_501 ?_
    refine lv_topi (fun z_13 ez_13 => ?_)
    obtain rfl : z_13 = 1 := ez_13.trans (by decide)
    refine va_sld hx hb hX hbl hbA hS (pk_in 1 7 (by decide) (by decide) (by decide)) dL_law_502 ?_
    refine lv_topi (fun z_14 ez_14 => ?_)
    replace ez_14 : z_14 = xs 1 := ez_14
    subst z_14
    have hPc := hP.sub (ws' := [(mm, .inr (11, [.int 0, .ref mm_tape, .int 0, .ref mm_number, .ref mm_clockName, .ref mm_clockOff, .ref mm_clockGain, .ref mm_clockRough, .ref mm_personName, .ref mm_personOff, .ref mm_personGain, .ref mm_personRough, .ref mm_custom, .ref mm_customA, .ref mm_customB, .ref mm_ruleFrom, .ref mm_ruleTo, .ref mm_roundOf, .ref mm_roundAt, .ref mm_roundHour, .ref mm_gunAt, .ref mm_gunHour, .ref mm_knotSort, .ref mm_knotValue, .int 0, .int 0, .int 0, .int 0, .int 0, .int 0, .int 0, .int 0, .int 0, .int (-1), .int 0, .int 0, .int 0, .int 0, .int 0, .int 0, .int 0, .int 0, .int 0, .int 0, .int 0, .int 0, .ref mm_start, .ref mm_off, .ref mm_last, .ref mm_passed, .ref mm_kept, .ref mm_keptMany, .int 0, .int 0, .ref mm_history, .ref mm_names, .ref mm_worked, .int 0, .int 0, .int (-1), .ref mm_readThing, .ref mm_readHour, .ref mm_readLow, .ref mm_readHigh, .int 0, .int 0, .int 0, .ref mm_imageOff, .ref mm_imageLast, .ref mm_imagePassed, .ref mm_imageKept, .ref mm_imageMany, .ref mm_imageHistory])), (mm_number, .inl (k_mm_number, 10, .inl (fun _ => 0)))]) [0, 1] rfl
    have hDc := hD.sub (ws' := [(mm, .inr (11, [.int 0, .ref mm_tape, .int 0, .ref mm_number, .ref mm_clockName, .ref mm_clockOff, .ref mm_clockGain, .ref mm_clockRough, .ref mm_personName, .ref mm_personOff, .ref mm_personGain, .ref mm_personRough, .ref mm_custom, .ref mm_customA, .ref mm_customB, .ref mm_ruleFrom, .ref mm_ruleTo, .ref mm_roundOf, .ref mm_roundAt, .ref mm_roundHour, .ref mm_gunAt, .ref mm_gunHour, .ref mm_knotSort, .ref mm_knotValue, .int 0, .int 0, .int 0, .int 0, .int 0, .int 0, .int 0, .int 0, .int 0, .int (-1), .int 0, .int 0, .int 0, .int 0, .int 0, .int 0, .int 0, .int 0, .int 0, .int 0, .int 0, .int 0, .ref mm_start, .ref mm_off, .ref mm_last, .ref mm_passed, .ref mm_kept, .ref mm_keptMany, .int 0, .int 0, .ref mm_history, .ref mm_names, .ref mm_worked, .int 0, .int 0, .int (-1), .ref mm_readThing, .ref mm_readHour, .ref mm_readLow, .ref mm_readHigh, .int 0, .int 0, .int 0, .ref mm_imageOff, .ref mm_imageLast, .ref mm_imagePassed, .ref mm_imageKept, .ref mm_imageMany, .ref mm_imageHistory])), (mm_number, .inl (k_mm_number, 10, .inl (fun _ => 0)))]) [0, 1] (by decide) rfl
    have hKc := hK.sub (tys' := [(k_mm_number, .int)]) [1] rfl
    have hFc := va_free (wc := [(mm, .inr (11, [.int 0, .ref mm_tape, .int 0, .ref mm_number, .ref mm_clockName, .ref mm_clockOff, .ref mm_clockGain, .ref mm_clockRough, .ref mm_personName, .ref mm_personOff, .ref mm_personGain, .ref mm_personRough, .ref mm_custom, .ref mm_customA, .ref mm_customB, .ref mm_ruleFrom, .ref mm_ruleTo, .ref mm_roundOf, .ref mm_roundAt, .ref mm_roundHour, .ref mm_gunAt, .ref mm_gunHour, .ref mm_knotSort, .ref mm_knotValue, .int 0, .int 0, .int 0, .int 0, .int 0, .int 0, .int 0, .int 0, .int 0, .int (-1), .int 0, .int 0, .int 0, .int 0, .int 0, .int 0, .int 0, .int 0, .int 0, .int 0, .int 0, .int 0, .ref mm_start, .ref mm_off, .ref mm_last, .ref mm_passed, .ref mm_kept, .ref mm_keptMany, .int 0, .int 0, .ref mm_history, .ref mm_names, .ref mm_worked, .int 0, .int 0, .int (-1), .ref mm_readThing, .ref mm_readHour, .ref mm_readLow, .ref mm_readHigh, .int 0, .int 0, .int 0, .ref mm_imageOff, .ref mm_imageLast, .ref mm_imagePassed, .ref mm_imageKept, .ref mm_imageMany, .ref mm_imageHistory])), (mm_number, .inl (k_mm_number, 10, .inl (fun _ => 0)))]) hD hS hA [0, 1] rfl
    have := (by decide : (0 : Int32).toInt = 0)
    have := (by decide : (0 : Int32).toInt = 0)
    have := (by decide : (0 : Int32).toInt = 0)
    have := (by decide : (0 : Int32).toInt = 0)
    have := (by decide : (0 : Int32).toInt = 0)
    have := (by decide : (0 : Int32).toInt = 0)
    have := (by decide : (0 : Int32).toInt = 0)
    have := (by decide : (0 : Int32).toInt = 0)
    have := (by decide : (0 : Int32).toInt = 0)
    have := (by decide : (0 : Int32).toInt = 0)
    have := (by decide : (0 : Int32).toInt = 0)
    have := (by decide : ((-1) : Int32).toInt = -1)
    have := (by decide : (0 : Int32).toInt = 0)
    have := (by decide : (0 : Int32).toInt = 0)
    have := (by decide : (0 : Int32).toInt = 0)
    have := (by decide : (0 : Int32).toInt = 0)
    have := (by decide : (0 : Int32).toInt = 0)
    have := (by decide : (0 : Int32).toInt = 0)
    have := (by decide : (0 : Int32).toInt = 0)
    have := (by decide : (0 : Int32).toInt = 0)
    have := (by decide : (0 : Int32).toInt = 0)
    have := (by decide : (0 : Int32).toInt = 0)
    have := (by decide : (0 : Int32).toInt = 0)
    have := (by decide : (0 : Int32).toInt = 0)
    have := (by decide : (0 : Int32).toInt = 0)
    have := (by decide : (0 : Int32).toInt = 0)
    have := (by decide : (0 : Int32).toInt = 0)
    have := (by decide : ((-1) : Int32).toInt = -1)
    have := (by decide : (0 : Int32).toInt = 0)
    have := (by decide : (0 : Int32).toInt = 0)
    have := (by decide : (0 : Int32).toInt = 0)
    refine va_calli (va_runV (As := [.int (xs 1)]) (rest := [.int (-1)]) ⟨hx, hb, hml, hown, hT⟩ (c_X11_hours l dC dI H.size mm (xs 1) (0 : Int32) mm_tape (0 : Int32) mm_number mm_clockName mm_clockOff mm_clockGain mm_clockRough mm_personName mm_personOff mm_personGain mm_personRough mm_custom mm_customA mm_customB mm_ruleFrom mm_ruleTo mm_roundOf mm_roundAt mm_roundHour mm_gunAt mm_gunHour mm_knotSort mm_knotValue (0 : Int32) (0 : Int32) (0 : Int32) (0 : Int32) (0 : Int32) (0 : Int32) (0 : Int32) (0 : Int32) (0 : Int32) ((-1) : Int32) (0 : Int32) (0 : Int32) (0 : Int32) (0 : Int32) (0 : Int32) (0 : Int32) (0 : Int32) (0 : Int32) (0 : Int32) (0 : Int32) (0 : Int32) (0 : Int32) mm_start mm_off mm_last mm_passed mm_kept mm_keptMany (0 : Int32) mm_history mm_names mm_worked (0 : Int32) (0 : Int32) ((-1) : Int32) mm_readThing mm_readHour mm_readLow mm_readHigh (0 : Int32) (0 : Int32) (0 : Int32) mm_imageOff mm_imageLast mm_imagePassed mm_imageKept mm_imageMany mm_imageHistory k_mm_number (fun _ => 0) (fun _ => rfl)) (cwV 1 hT (gwV mw_7_199 mw_7_200 mw_7_201 mw_1_16 mw_7_202) rfl rfl rfl (by decide +kernel) ⟨Nat.le_of_ble_eq_true rfl, Nat.le_of_ble_eq_true rfl⟩) ⟨fun a U g mk q => by obtain ⟨q0, q1, qP, qK, qD⟩ := q; exact ⟨q0, q1, qP, va_K.moved (u := U) (U := U.calling g mk a) (Vm.Alike.refl U.vm) qK, qD⟩, va_recv hK hP (ci := 11) (q0 := 0) rfl rfl, fun U hU hW => ⟨rfl, by rw [hU], by rw [hU]; exact hPc, va_K.moved hW.alike hKc, hDc.weaken (fun _ _ _ _ => trivial)⟩⟩ rfl rfl hl.1 rfl (lv_room (Nat.le_of_ble_eq_true rfl)) dL_law_503 ⟨Nat.le_of_ble_eq_true rfl, Nat.le_of_ble_eq_true rfl⟩) hS (fun q _ h => hFc q h) hFc (fun r_16 u t H1 locs ht hvm hw hB hz1 hk1 hS => ?_)
    obtain ⟨hP1, hD1⟩ := hB
    rw [ht] at hP1
    obtain ⟨hP, hD⟩ := va_join (wr := [(xx, .inr (10, [.ref rr, .ref ta, .ref tb, .ref pa, .ref pb, .ref cn, .ref ci, .int 0, .ref cp, .ref ct, .ref hs, .ref rd, .ref wy, .ref ea, .ref eb]))]) (w1 := []) hP hD [0, 1] [2] rfl rfl (by decide) (by decide) hk1 hFc hP1 hD1
    generalize H1 = H at hP hS ⊢
    have hP : va_P (dC, dI) vwCl [(xx, .inr (10, [.ref rr, .ref ta, .ref tb, .ref pa, .ref pb, .ref cn, .ref ci, .int 0, .ref cp, .ref ct, .ref hs, .ref rd, .ref wy, .ref ea, .ref eb]))] H := hP
    have hD : va_D A [(xx, .inr (10, [.ref rr, .ref ta, .ref tb, .ref pa, .ref pb, .ref cn, .ref ci, .int 0, .ref cp, .ref ct, .ref hs, .ref rd, .ref wy, .ref ea, .ref eb]))] := hD
    clear hPc hDc hKc hFc hP1 hD1 hk1 hz1 ht hvm
    have hw : (r_16 = (xs 1) ∧ (0 ≤ (xs 1).toInt ∧ (xs 1).toInt ≤ 500)) ∨ (r_16 = -1 ∧ ((xs 1).toInt < 0 ∨ 500 < (xs 1).toInt)) := hw
    rcases hw with ⟨hrr_16, hfr_16⟩ | ⟨hrr_16, hfr_16⟩
    · subst r_16
      exact False.elim (by omega)
    · subst r_16
      refine lv_icmp_eq (tgt := 1482) hx hb dL_law_506 (by decide) (fun c_17 => ?_) (fun c_17 => absurd c_17 (by decide))
      refine lv_iinc (v := 7) (lv' := [(4, .int 7), (3, .ref oo), (2, .ref mm), (1, .ref xx), (0, .ref b)]) hx hb dL_law_1482 hl (k := 0) rfl (by decide) (by decide) rfl (fun ls hl => ?_)
      refine lv_goto (tgt := 23) hx hb dL_law_1485 (by decide) ?_
      refine lv_iload hx hb dL_law_23 (lv_at hl 0 rfl) ?_
      refine lv_aload_n hx hb dL_law_25 rfl (lv_at hl 4 rfl) ?_
      refine va_slen hx hb hX hbl hbA hS dL_law_26 ?_
      refine lv_topi (fun z_18 ez_18 => ?_)
      obtain rfl : z_18 = 7 := ez_18.trans (by decide)
      refine lv_bipush (v := 7) hx hb dL_law_27 (by decide) ?_
      refine lv_isub hx hb dL_law_29 ?_
      refine lv_topi (fun z_19 ez_19 => ?_)
      obtain rfl : z_19 = 0 := ez_19.trans (by decide)
      refine lv_icmp_gt (tgt := 1488) hx hb dL_law_30 (by decide) (fun c_20 => ?_) (fun c_20 => absurd c_20 (by decide))
      refine lv_iconst (v := 1) hx hb dL_law_1488 (by decide) ?_
      refine va_forget (fun q hq => hAo _ (hS.2.2 q hq)) ?_
      refine W.widen (k := 600002) (n := 7302232) (Nat.le_of_ble_eq_true rfl) (Nat.le_of_ble_eq_true rfl) ?_
      exact lw_ret hx hb hr hlocks dL_law_1489
set_option maxHeartbeats 4000000 in
set_option maxRecDepth 100000 in
theorem law_op_8 {p : Program} {l : Launch} {e : Env} {s : State} {m : MethodId} {below : List Frame} {meth : Method} {c : Code} {dC : Nat → ClassId} {dI : Nat → Nat → Nat} {b : Nat} {xs : Nat → Int32} {A : Nat → Prop} (C0 : lw_At p s m meth c b 7 xs) (hA : ∀ q, s.heap.size ≤ q → A q) (hbA : ¬ A b) (hAo : ∀ q, A q → s.heap.size ≤ q) {xx : Nat} {rr : Nat} {ta : Nat} {tb : Nat} {pa : Nat} {pb : Nat} {cn : Nat} {ci : Nat} {cp : Nat} {ct : Nat} {hs : Nat} {rd : Nat} {wy : Nat} {ea : Nat} {eb : Nat} {ta_name : Nat} {ta_first : Nat} {ta_gain : Nat} {ta_rough : Nat} {ta_custom : Nat} {ta_part : Nat} {ta_whole : Nat} {ta_roundPerson : Nat} {ta_roundClock : Nat} {ta_roundHour : Nat} {ta_gunClock : Nat} {ta_gunHour : Nat} {tau : Nat} {mm : Nat} {mm_tape : Nat} {mm_number : Nat} {mm_clockName : Nat} {mm_clockOff : Nat} {mm_clockGain : Nat} {mm_clockRough : Nat} {mm_personName : Nat} {mm_personOff : Nat} {mm_personGain : Nat} {mm_personRough : Nat} {mm_custom : Nat} {mm_customA : Nat} {mm_customB : Nat} {mm_ruleFrom : Nat} {mm_ruleTo : Nat} {mm_roundOf : Nat} {mm_roundAt : Nat} {mm_roundHour : Nat} {mm_gunAt : Nat} {mm_gunHour : Nat} {mm_knotSort : Nat} {mm_knotValue : Nat} {mm_start : Nat} {mm_off : Nat} {mm_last : Nat} {mm_passed : Nat} {mm_kept : Nat} {mm_keptMany : Nat} {mm_history : Nat} {mm_names : Nat} {mm_worked : Nat} {mm_readThing : Nat} {mm_readHour : Nat} {mm_readLow : Nat} {mm_readHigh : Nat} {mm_imageOff : Nat} {mm_imageLast : Nat} {mm_imagePassed : Nat} {mm_imageKept : Nat} {mm_imageMany : Nat} {mm_imageHistory : Nat} {k_mm_number : ClassId} {oo : Nat} {H : Heap} {locs : List Loc} {ls : Array Slot} (hK : va_K (dC, dI) vwCl [(k_mm_number, .int)] s) (hP : va_P (dC, dI) vwCl [(xx, .inr (10, [.ref rr, .ref ta, .ref tb, .ref pa, .ref pb, .ref cn, .ref ci, .int 0, .ref cp, .ref ct, .ref hs, .ref rd, .ref wy, .ref ea, .ref eb])), (ta, .inr (8, [.int 0, .int 0, .int 0, .int 0, .int 0, .ref ta_name, .ref ta_first, .ref ta_gain, .ref ta_rough, .ref ta_custom, .ref ta_part, .ref ta_whole, .ref ta_roundPerson, .ref ta_roundClock, .ref ta_roundHour, .ref ta_gunClock, .ref ta_gunHour, .ref tau])), (mm, .inr (11, [.int 0, .ref mm_tape, .int 0, .ref mm_number, .ref mm_clockName, .ref mm_clockOff, .ref mm_clockGain, .ref mm_clockRough, .ref mm_personName, .ref mm_personOff, .ref mm_personGain, .ref mm_personRough, .ref mm_custom, .ref mm_customA, .ref mm_customB, .ref mm_ruleFrom, .ref mm_ruleTo, .ref mm_roundOf, .ref mm_roundAt, .ref mm_roundHour, .ref mm_gunAt, .ref mm_gunHour, .ref mm_knotSort, .ref mm_knotValue, .int 0, .int 0, .int 0, .int 0, .int 0, .int 0, .int 0, .int 0, .int 0, .int (-1), .int 0, .int 0, .int 0, .int 0, .int 0, .int 0, .int 0, .int 0, .int 0, .int 0, .int 0, .int 0, .ref mm_start, .ref mm_off, .ref mm_last, .ref mm_passed, .ref mm_kept, .ref mm_keptMany, .int 0, .int 0, .ref mm_history, .ref mm_names, .ref mm_worked, .int 0, .int 0, .int (-1), .ref mm_readThing, .ref mm_readHour, .ref mm_readLow, .ref mm_readHigh, .int 0, .int 0, .int 0, .ref mm_imageOff, .ref mm_imageLast, .ref mm_imagePassed, .ref mm_imageKept, .ref mm_imageMany, .ref mm_imageHistory])), (mm_number, .inl (k_mm_number, 10, .inl (fun _ => 0)))] H) (hD : va_D A [(xx, .inr (10, [.ref rr, .ref ta, .ref tb, .ref pa, .ref pb, .ref cn, .ref ci, .int 0, .ref cp, .ref ct, .ref hs, .ref rd, .ref wy, .ref ea, .ref eb])), (ta, .inr (8, [.int 0, .int 0, .int 0, .int 0, .int 0, .ref ta_name, .ref ta_first, .ref ta_gain, .ref ta_rough, .ref ta_custom, .ref ta_part, .ref ta_whole, .ref ta_roundPerson, .ref ta_roundClock, .ref ta_roundHour, .ref ta_gunClock, .ref ta_gunHour, .ref tau])), (mm, .inr (11, [.int 0, .ref mm_tape, .int 0, .ref mm_number, .ref mm_clockName, .ref mm_clockOff, .ref mm_clockGain, .ref mm_clockRough, .ref mm_personName, .ref mm_personOff, .ref mm_personGain, .ref mm_personRough, .ref mm_custom, .ref mm_customA, .ref mm_customB, .ref mm_ruleFrom, .ref mm_ruleTo, .ref mm_roundOf, .ref mm_roundAt, .ref mm_roundHour, .ref mm_gunAt, .ref mm_gunHour, .ref mm_knotSort, .ref mm_knotValue, .int 0, .int 0, .int 0, .int 0, .int 0, .int 0, .int 0, .int 0, .int 0, .int (-1), .int 0, .int 0, .int 0, .int 0, .int 0, .int 0, .int 0, .int 0, .int 0, .int 0, .int 0, .int 0, .ref mm_start, .ref mm_off, .ref mm_last, .ref mm_passed, .ref mm_kept, .ref mm_keptMany, .int 0, .int 0, .ref mm_history, .ref mm_names, .ref mm_worked, .int 0, .int 0, .int (-1), .ref mm_readThing, .ref mm_readHour, .ref mm_readLow, .ref mm_readHigh, .int 0, .int 0, .int 0, .ref mm_imageOff, .ref mm_imageLast, .ref mm_imagePassed, .ref mm_imageKept, .ref mm_imageMany, .ref mm_imageHistory])), (mm_number, .inl (k_mm_number, 10, .inl (fun _ => 0)))]) (hS : va_S A s.heap H locs) (hl : lv_has ls 7 [(4, .int 0), (3, .ref oo), (2, .ref mm), (1, .ref xx), (0, .ref b)]) : W p l e room_1 s m #[Value.ref b] below meth c H locs 160 67979 (lw_Z below #[Value.ref b] s) (F0 m 511 ls []) := by
  obtain ⟨hx, hb, hr, hml, hown, hts, hX, hbl, hlocks, hgv⟩ := C0
  have hT : ∀ w ∈ pw_T, w.before #[Value.ref b] s = true := fun w h => hts w (List.mem_filter.mp h).1
  have hown : s.vm.findClass RL = some m.cls := hown
  refine lv_aload_n hx hb dL_law_511 rfl (lv_at hl 3 rfl) ?_
  refine lv_aload_n hx hb dL_law_512 rfl (lv_at hl 4 rfl) ?_
  refine lv_iload hx hb dL_law_513 (lv_at hl 0 rfl) ?_
  refine lv_iconst (v := 1) hx hb dL_law_515 (by decide) ?_
  refine lv_iadd hx hb dL_law_516 ?_
  refine lv_topi (fun z_1 ez_1 => ?_)
  obtain rfl : z_1 = 1 := ez_1.trans (by decide)
  refine va_sld hx hb hX hbl hbA hS (pk_in 1 7 (by decide) (by decide) (by decide)) dL_law_517 ?_
  refine lv_topi (fun z_2 ez_2 => ?_)
  replace ez_2 : z_2 = xs 1 := ez_2
  subst z_2
  have hPc := hP.sub (ws' := [(xx, .inr (10, [.ref rr, .ref ta, .ref tb, .ref pa, .ref pb, .ref cn, .ref ci, .int 0, .ref cp, .ref ct, .ref hs, .ref rd, .ref wy, .ref ea, .ref eb])), (ta, .inr (8, [.int 0, .int 0, .int 0, .int 0, .int 0, .ref ta_name, .ref ta_first, .ref ta_gain, .ref ta_rough, .ref ta_custom, .ref ta_part, .ref ta_whole, .ref ta_roundPerson, .ref ta_roundClock, .ref ta_roundHour, .ref ta_gunClock, .ref ta_gunHour, .ref tau]))]) [0, 1] rfl
  have hDc := hD.sub (ws' := [(xx, .inr (10, [.ref rr, .ref ta, .ref tb, .ref pa, .ref pb, .ref cn, .ref ci, .int 0, .ref cp, .ref ct, .ref hs, .ref rd, .ref wy, .ref ea, .ref eb])), (ta, .inr (8, [.int 0, .int 0, .int 0, .int 0, .int 0, .ref ta_name, .ref ta_first, .ref ta_gain, .ref ta_rough, .ref ta_custom, .ref ta_part, .ref ta_whole, .ref ta_roundPerson, .ref ta_roundClock, .ref ta_roundHour, .ref ta_gunClock, .ref ta_gunHour, .ref tau]))]) [0, 1] (by decide) rfl
  have hKc := hK.sub (tys' := []) [] rfl
  have hFc := va_free (wc := [(xx, .inr (10, [.ref rr, .ref ta, .ref tb, .ref pa, .ref pb, .ref cn, .ref ci, .int 0, .ref cp, .ref ct, .ref hs, .ref rd, .ref wy, .ref ea, .ref eb])), (ta, .inr (8, [.int 0, .int 0, .int 0, .int 0, .int 0, .ref ta_name, .ref ta_first, .ref ta_gain, .ref ta_rough, .ref ta_custom, .ref ta_part, .ref ta_whole, .ref ta_roundPerson, .ref ta_roundClock, .ref ta_roundHour, .ref ta_gunClock, .ref ta_gunHour, .ref tau]))]) hD hS hA [0, 1] rfl
  refine va_calli (va_runV (As := [.int (xs 1)]) (rest := []) ⟨hx, hb, hml, hown, hT⟩ (c_X10_off l dC dI H.size xx (xs 1) rr ta tb pa pb cn ci (0 : Int32) cp ct hs rd wy ea eb (0 : Int32) (0 : Int32) (0 : Int32) ta_name ta_first ta_gain ta_rough ta_custom ta_part ta_whole ta_roundPerson ta_roundClock ta_roundHour ta_gunClock ta_gunHour tau ) (cwV 1 hT (gwV mw_4_144 mw_4_145 mw_4_146 mw_1_1 mw_4_147) rfl rfl rfl (by decide +kernel) ⟨Nat.le_of_ble_eq_true rfl, Nat.le_of_ble_eq_true rfl⟩) ⟨fun a U g mk q => by obtain ⟨q0, q1, qP, qK, qD⟩ := q; exact ⟨q0, q1, qP, va_K.moved (u := U) (U := U.calling g mk a) (Vm.Alike.refl U.vm) qK, qD⟩, va_recv hK hP (ci := 10) (q0 := 0) rfl rfl, fun U hU hW => ⟨rfl, by rw [hU], by rw [hU]; exact hPc, va_K.moved hW.alike hKc, hDc.weaken (fun _ _ _ _ => trivial)⟩⟩ rfl rfl hl.1 rfl (lv_room (Nat.le_of_ble_eq_true rfl)) dL_law_518 ⟨Nat.le_of_ble_eq_true rfl, Nat.le_of_ble_eq_true rfl⟩) hS (fun q _ h => hFc q h) hFc (fun r_4 u t H1 locs ht hvm hw hB hz1 hk1 hS => ?_)
  obtain ⟨hP1, hD1⟩ := hB
  rw [ht] at hP1
  obtain ⟨hP, hD⟩ := va_join (wr := [(mm, .inr (11, [.int 0, .ref mm_tape, .int 0, .ref mm_number, .ref mm_clockName, .ref mm_clockOff, .ref mm_clockGain, .ref mm_clockRough, .ref mm_personName, .ref mm_personOff, .ref mm_personGain, .ref mm_personRough, .ref mm_custom, .ref mm_customA, .ref mm_customB, .ref mm_ruleFrom, .ref mm_ruleTo, .ref mm_roundOf, .ref mm_roundAt, .ref mm_roundHour, .ref mm_gunAt, .ref mm_gunHour, .ref mm_knotSort, .ref mm_knotValue, .int 0, .int 0, .int 0, .int 0, .int 0, .int 0, .int 0, .int 0, .int 0, .int (-1), .int 0, .int 0, .int 0, .int 0, .int 0, .int 0, .int 0, .int 0, .int 0, .int 0, .int 0, .int 0, .ref mm_start, .ref mm_off, .ref mm_last, .ref mm_passed, .ref mm_kept, .ref mm_keptMany, .int 0, .int 0, .ref mm_history, .ref mm_names, .ref mm_worked, .int 0, .int 0, .int (-1), .ref mm_readThing, .ref mm_readHour, .ref mm_readLow, .ref mm_readHigh, .int 0, .int 0, .int 0, .ref mm_imageOff, .ref mm_imageLast, .ref mm_imagePassed, .ref mm_imageKept, .ref mm_imageMany, .ref mm_imageHistory])), (mm_number, .inl (k_mm_number, 10, .inl (fun _ => 0)))]) (w1 := [(xx, .inr (10, [.ref rr, .ref ta, .ref tb, .ref pa, .ref pb, .ref cn, .ref ci, .int 0, .ref cp, .ref ct, .ref hs, .ref rd, .ref wy, .ref ea, .ref eb])), (ta, .inr (8, [.int 0, .int 0, .int 0, .int 0, .int 0, .ref ta_name, .ref ta_first, .ref ta_gain, .ref ta_rough, .ref ta_custom, .ref ta_part, .ref ta_whole, .ref ta_roundPerson, .ref ta_roundClock, .ref ta_roundHour, .ref ta_gunClock, .ref ta_gunHour, .ref tau]))]) hP hD [0, 1] [2, 3] rfl rfl (by decide) (by decide) hk1 hFc hP1 hD1
  generalize H1 = H at hP hS ⊢
  have hP : va_P (dC, dI) vwCl [(mm, .inr (11, [.int 0, .ref mm_tape, .int 0, .ref mm_number, .ref mm_clockName, .ref mm_clockOff, .ref mm_clockGain, .ref mm_clockRough, .ref mm_personName, .ref mm_personOff, .ref mm_personGain, .ref mm_personRough, .ref mm_custom, .ref mm_customA, .ref mm_customB, .ref mm_ruleFrom, .ref mm_ruleTo, .ref mm_roundOf, .ref mm_roundAt, .ref mm_roundHour, .ref mm_gunAt, .ref mm_gunHour, .ref mm_knotSort, .ref mm_knotValue, .int 0, .int 0, .int 0, .int 0, .int 0, .int 0, .int 0, .int 0, .int 0, .int (-1), .int 0, .int 0, .int 0, .int 0, .int 0, .int 0, .int 0, .int 0, .int 0, .int 0, .int 0, .int 0, .ref mm_start, .ref mm_off, .ref mm_last, .ref mm_passed, .ref mm_kept, .ref mm_keptMany, .int 0, .int 0, .ref mm_history, .ref mm_names, .ref mm_worked, .int 0, .int 0, .int (-1), .ref mm_readThing, .ref mm_readHour, .ref mm_readLow, .ref mm_readHigh, .int 0, .int 0, .int 0, .ref mm_imageOff, .ref mm_imageLast, .ref mm_imagePassed, .ref mm_imageKept, .ref mm_imageMany, .ref mm_imageHistory])), (mm_number, .inl (k_mm_number, 10, .inl (fun _ => 0))), (xx, .inr (10, [.ref rr, .ref ta, .ref tb, .ref pa, .ref pb, .ref cn, .ref ci, .int 0, .ref cp, .ref ct, .ref hs, .ref rd, .ref wy, .ref ea, .ref eb])), (ta, .inr (8, [.int 0, .int 0, .int 0, .int 0, .int 0, .ref ta_name, .ref ta_first, .ref ta_gain, .ref ta_rough, .ref ta_custom, .ref ta_part, .ref ta_whole, .ref ta_roundPerson, .ref ta_roundClock, .ref ta_roundHour, .ref ta_gunClock, .ref ta_gunHour, .ref tau]))] H := hP
  have hD : va_D A [(mm, .inr (11, [.int 0, .ref mm_tape, .int 0, .ref mm_number, .ref mm_clockName, .ref mm_clockOff, .ref mm_clockGain, .ref mm_clockRough, .ref mm_personName, .ref mm_personOff, .ref mm_personGain, .ref mm_personRough, .ref mm_custom, .ref mm_customA, .ref mm_customB, .ref mm_ruleFrom, .ref mm_ruleTo, .ref mm_roundOf, .ref mm_roundAt, .ref mm_roundHour, .ref mm_gunAt, .ref mm_gunHour, .ref mm_knotSort, .ref mm_knotValue, .int 0, .int 0, .int 0, .int 0, .int 0, .int 0, .int 0, .int 0, .int 0, .int (-1), .int 0, .int 0, .int 0, .int 0, .int 0, .int 0, .int 0, .int 0, .int 0, .int 0, .int 0, .int 0, .ref mm_start, .ref mm_off, .ref mm_last, .ref mm_passed, .ref mm_kept, .ref mm_keptMany, .int 0, .int 0, .ref mm_history, .ref mm_names, .ref mm_worked, .int 0, .int 0, .int (-1), .ref mm_readThing, .ref mm_readHour, .ref mm_readLow, .ref mm_readHigh, .int 0, .int 0, .int 0, .ref mm_imageOff, .ref mm_imageLast, .ref mm_imagePassed, .ref mm_imageKept, .ref mm_imageMany, .ref mm_imageHistory])), (mm_number, .inl (k_mm_number, 10, .inl (fun _ => 0))), (xx, .inr (10, [.ref rr, .ref ta, .ref tb, .ref pa, .ref pb, .ref cn, .ref ci, .int 0, .ref cp, .ref ct, .ref hs, .ref rd, .ref wy, .ref ea, .ref eb])), (ta, .inr (8, [.int 0, .int 0, .int 0, .int 0, .int 0, .ref ta_name, .ref ta_first, .ref ta_gain, .ref ta_rough, .ref ta_custom, .ref ta_part, .ref ta_whole, .ref ta_roundPerson, .ref ta_roundClock, .ref ta_roundHour, .ref ta_gunClock, .ref ta_gunHour, .ref tau]))] := hD
  clear hPc hDc hKc hFc hP1 hD1 hk1 hz1 ht hvm
  have hw : r_4 = -2147483648 := hw
  subst r_4
  refine lv_aload_n hx hb dL_law_521 rfl (lv_at hl 2 rfl) ?_
  refine lv_aload_n hx hb dL_law_522 rfl (lv_at hl 4 rfl) ?_
  refine lv_iload hx hb dL_law_523 (lv_at hl 0 rfl) ?_
  refine lv_iconst (v := 1) hx hb dL_law_525 (by decide) ?_
  refine lv_iadd hx hb dL_law_526 ?_
  refine lv_topi (fun z_5 ez_5 => ?_)
  obtain rfl : z_5 = 1 := ez_5.trans (by decide)
  refine va_sld hx hb hX hbl hbA hS (pk_in 1 7 (by decide) (by decide) (by decide)) dL_law_527 ?_
  refine lv_topi (fun z_6 ez_6 => ?_)
  replace ez_6 : z_6 = xs 1 := ez_6
  subst z_6
  have hPc := hP.sub (ws' := [(mm, .inr (11, [.int 0, .ref mm_tape, .int 0, .ref mm_number, .ref mm_clockName, .ref mm_clockOff, .ref mm_clockGain, .ref mm_clockRough, .ref mm_personName, .ref mm_personOff, .ref mm_personGain, .ref mm_personRough, .ref mm_custom, .ref mm_customA, .ref mm_customB, .ref mm_ruleFrom, .ref mm_ruleTo, .ref mm_roundOf, .ref mm_roundAt, .ref mm_roundHour, .ref mm_gunAt, .ref mm_gunHour, .ref mm_knotSort, .ref mm_knotValue, .int 0, .int 0, .int 0, .int 0, .int 0, .int 0, .int 0, .int 0, .int 0, .int (-1), .int 0, .int 0, .int 0, .int 0, .int 0, .int 0, .int 0, .int 0, .int 0, .int 0, .int 0, .int 0, .ref mm_start, .ref mm_off, .ref mm_last, .ref mm_passed, .ref mm_kept, .ref mm_keptMany, .int 0, .int 0, .ref mm_history, .ref mm_names, .ref mm_worked, .int 0, .int 0, .int (-1), .ref mm_readThing, .ref mm_readHour, .ref mm_readLow, .ref mm_readHigh, .int 0, .int 0, .int 0, .ref mm_imageOff, .ref mm_imageLast, .ref mm_imagePassed, .ref mm_imageKept, .ref mm_imageMany, .ref mm_imageHistory])), (mm_number, .inl (k_mm_number, 10, .inl (fun _ => 0)))]) [0, 1] rfl
  have hDc := hD.sub (ws' := [(mm, .inr (11, [.int 0, .ref mm_tape, .int 0, .ref mm_number, .ref mm_clockName, .ref mm_clockOff, .ref mm_clockGain, .ref mm_clockRough, .ref mm_personName, .ref mm_personOff, .ref mm_personGain, .ref mm_personRough, .ref mm_custom, .ref mm_customA, .ref mm_customB, .ref mm_ruleFrom, .ref mm_ruleTo, .ref mm_roundOf, .ref mm_roundAt, .ref mm_roundHour, .ref mm_gunAt, .ref mm_gunHour, .ref mm_knotSort, .ref mm_knotValue, .int 0, .int 0, .int 0, .int 0, .int 0, .int 0, .int 0, .int 0, .int 0, .int (-1), .int 0, .int 0, .int 0, .int 0, .int 0, .int 0, .int 0, .int 0, .int 0, .int 0, .int 0, .int 0, .ref mm_start, .ref mm_off, .ref mm_last, .ref mm_passed, .ref mm_kept, .ref mm_keptMany, .int 0, .int 0, .ref mm_history, .ref mm_names, .ref mm_worked, .int 0, .int 0, .int (-1), .ref mm_readThing, .ref mm_readHour, .ref mm_readLow, .ref mm_readHigh, .int 0, .int 0, .int 0, .ref mm_imageOff, .ref mm_imageLast, .ref mm_imagePassed, .ref mm_imageKept, .ref mm_imageMany, .ref mm_imageHistory])), (mm_number, .inl (k_mm_number, 10, .inl (fun _ => 0)))]) [0, 1] (by decide) rfl
  have hKc := hK.sub (tys' := [(k_mm_number, .int)]) [0] rfl
  have hFc := va_free (wc := [(mm, .inr (11, [.int 0, .ref mm_tape, .int 0, .ref mm_number, .ref mm_clockName, .ref mm_clockOff, .ref mm_clockGain, .ref mm_clockRough, .ref mm_personName, .ref mm_personOff, .ref mm_personGain, .ref mm_personRough, .ref mm_custom, .ref mm_customA, .ref mm_customB, .ref mm_ruleFrom, .ref mm_ruleTo, .ref mm_roundOf, .ref mm_roundAt, .ref mm_roundHour, .ref mm_gunAt, .ref mm_gunHour, .ref mm_knotSort, .ref mm_knotValue, .int 0, .int 0, .int 0, .int 0, .int 0, .int 0, .int 0, .int 0, .int 0, .int (-1), .int 0, .int 0, .int 0, .int 0, .int 0, .int 0, .int 0, .int 0, .int 0, .int 0, .int 0, .int 0, .ref mm_start, .ref mm_off, .ref mm_last, .ref mm_passed, .ref mm_kept, .ref mm_keptMany, .int 0, .int 0, .ref mm_history, .ref mm_names, .ref mm_worked, .int 0, .int 0, .int (-1), .ref mm_readThing, .ref mm_readHour, .ref mm_readLow, .ref mm_readHigh, .int 0, .int 0, .int 0, .ref mm_imageOff, .ref mm_imageLast, .ref mm_imagePassed, .ref mm_imageKept, .ref mm_imageMany, .ref mm_imageHistory])), (mm_number, .inl (k_mm_number, 10, .inl (fun _ => 0)))]) hD hS hA [0, 1] rfl
  have := (by decide : (0 : Int32).toInt = 0)
  have := (by decide : (0 : Int32).toInt = 0)
  have := (by decide : (0 : Int32).toInt = 0)
  have := (by decide : (0 : Int32).toInt = 0)
  have := (by decide : (0 : Int32).toInt = 0)
  have := (by decide : (0 : Int32).toInt = 0)
  have := (by decide : (0 : Int32).toInt = 0)
  have := (by decide : (0 : Int32).toInt = 0)
  have := (by decide : (0 : Int32).toInt = 0)
  have := (by decide : (0 : Int32).toInt = 0)
  have := (by decide : (0 : Int32).toInt = 0)
  have := (by decide : ((-1) : Int32).toInt = -1)
  have := (by decide : (0 : Int32).toInt = 0)
  have := (by decide : (0 : Int32).toInt = 0)
  have := (by decide : (0 : Int32).toInt = 0)
  have := (by decide : (0 : Int32).toInt = 0)
  have := (by decide : (0 : Int32).toInt = 0)
  have := (by decide : (0 : Int32).toInt = 0)
  have := (by decide : (0 : Int32).toInt = 0)
  have := (by decide : (0 : Int32).toInt = 0)
  have := (by decide : (0 : Int32).toInt = 0)
  have := (by decide : (0 : Int32).toInt = 0)
  have := (by decide : (0 : Int32).toInt = 0)
  have := (by decide : (0 : Int32).toInt = 0)
  have := (by decide : (0 : Int32).toInt = 0)
  have := (by decide : (0 : Int32).toInt = 0)
  have := (by decide : (0 : Int32).toInt = 0)
  have := (by decide : (0 : Int32).toInt = 0)
  have := (by decide : ((-1) : Int32).toInt = -1)
  have := (by decide : (0 : Int32).toInt = 0)
  have := (by decide : (0 : Int32).toInt = 0)
  have := (by decide : (0 : Int32).toInt = 0)
  refine va_calli (va_runV (As := [.int (xs 1)]) (rest := [.int (-2147483648)]) ⟨hx, hb, hml, hown, hT⟩ (c_X11_off l dC dI H.size mm (xs 1) (0 : Int32) mm_tape (0 : Int32) mm_number mm_clockName mm_clockOff mm_clockGain mm_clockRough mm_personName mm_personOff mm_personGain mm_personRough mm_custom mm_customA mm_customB mm_ruleFrom mm_ruleTo mm_roundOf mm_roundAt mm_roundHour mm_gunAt mm_gunHour mm_knotSort mm_knotValue (0 : Int32) (0 : Int32) (0 : Int32) (0 : Int32) (0 : Int32) (0 : Int32) (0 : Int32) (0 : Int32) (0 : Int32) ((-1) : Int32) (0 : Int32) (0 : Int32) (0 : Int32) (0 : Int32) (0 : Int32) (0 : Int32) (0 : Int32) (0 : Int32) (0 : Int32) (0 : Int32) (0 : Int32) (0 : Int32) mm_start mm_off mm_last mm_passed mm_kept mm_keptMany (0 : Int32) (0 : Int32) mm_history mm_names mm_worked (0 : Int32) (0 : Int32) ((-1) : Int32) mm_readThing mm_readHour mm_readLow mm_readHigh (0 : Int32) (0 : Int32) (0 : Int32) mm_imageOff mm_imageLast mm_imagePassed mm_imageKept mm_imageMany mm_imageHistory k_mm_number (fun _ => 0) (fun _ => rfl)) (cwV 1 hT (gwV mw_8_22 mw_8_23 mw_8_24 mw_1_16 mw_8_25) rfl rfl rfl (by decide +kernel) ⟨Nat.le_of_ble_eq_true rfl, Nat.le_of_ble_eq_true rfl⟩) ⟨fun a U g mk q => by obtain ⟨q0, q1, qP, qK, qD⟩ := q; exact ⟨q0, q1, qP, va_K.moved (u := U) (U := U.calling g mk a) (Vm.Alike.refl U.vm) qK, qD⟩, va_recv hK hP (ci := 11) (q0 := 0) rfl rfl, fun U hU hW => ⟨rfl, by rw [hU], by rw [hU]; exact hPc, va_K.moved hW.alike hKc, hDc.weaken (fun _ _ _ _ => trivial)⟩⟩ rfl rfl hl.1 rfl (lv_room (Nat.le_of_ble_eq_true rfl)) dL_law_528 ⟨Nat.le_of_ble_eq_true rfl, Nat.le_of_ble_eq_true rfl⟩) hS (fun q _ h => hFc q h) hFc (fun r_8 u t H1 locs ht hvm hw hB hz1 hk1 hS => ?_)
  obtain ⟨hP1, hD1⟩ := hB
  rw [ht] at hP1
  obtain ⟨hP, hD⟩ := va_join (wr := [(xx, .inr (10, [.ref rr, .ref ta, .ref tb, .ref pa, .ref pb, .ref cn, .ref ci, .int 0, .ref cp, .ref ct, .ref hs, .ref rd, .ref wy, .ref ea, .ref eb])), (ta, .inr (8, [.int 0, .int 0, .int 0, .int 0, .int 0, .ref ta_name, .ref ta_first, .ref ta_gain, .ref ta_rough, .ref ta_custom, .ref ta_part, .ref ta_whole, .ref ta_roundPerson, .ref ta_roundClock, .ref ta_roundHour, .ref ta_gunClock, .ref ta_gunHour, .ref tau]))]) (w1 := [(mm, .inr (11, [.int 0, .ref mm_tape, .int 0, .ref mm_number, .ref mm_clockName, .ref mm_clockOff, .ref mm_clockGain, .ref mm_clockRough, .ref mm_personName, .ref mm_personOff, .ref mm_personGain, .ref mm_personRough, .ref mm_custom, .ref mm_customA, .ref mm_customB, .ref mm_ruleFrom, .ref mm_ruleTo, .ref mm_roundOf, .ref mm_roundAt, .ref mm_roundHour, .ref mm_gunAt, .ref mm_gunHour, .ref mm_knotSort, .ref mm_knotValue, .int 0, .int 0, .int 0, .int 0, .int 0, .int 0, .int 0, .int 0, .int 0, .int (-1), .int 0, .int 0, .int 0, .int 0, .int 0, .int 0, .int 0, .int 0, .int 0, .int 0, .int 0, .int 0, .ref mm_start, .ref mm_off, .ref mm_last, .ref mm_passed, .ref mm_kept, .ref mm_keptMany, .int 0, .int 0, .ref mm_history, .ref mm_names, .ref mm_worked, .int 0, .int 0, .int (-1), .ref mm_readThing, .ref mm_readHour, .ref mm_readLow, .ref mm_readHigh, .int 0, .int 0, .int 0, .ref mm_imageOff, .ref mm_imageLast, .ref mm_imagePassed, .ref mm_imageKept, .ref mm_imageMany, .ref mm_imageHistory])), (mm_number, .inl (k_mm_number, 10, .inl (fun _ => 0)))]) hP hD [0, 1] [2, 3] rfl rfl (by decide) (by decide) hk1 hFc hP1 hD1
  generalize H1 = H at hP hS ⊢
  have hP : va_P (dC, dI) vwCl [(xx, .inr (10, [.ref rr, .ref ta, .ref tb, .ref pa, .ref pb, .ref cn, .ref ci, .int 0, .ref cp, .ref ct, .ref hs, .ref rd, .ref wy, .ref ea, .ref eb])), (ta, .inr (8, [.int 0, .int 0, .int 0, .int 0, .int 0, .ref ta_name, .ref ta_first, .ref ta_gain, .ref ta_rough, .ref ta_custom, .ref ta_part, .ref ta_whole, .ref ta_roundPerson, .ref ta_roundClock, .ref ta_roundHour, .ref ta_gunClock, .ref ta_gunHour, .ref tau])), (mm, .inr (11, [.int 0, .ref mm_tape, .int 0, .ref mm_number, .ref mm_clockName, .ref mm_clockOff, .ref mm_clockGain, .ref mm_clockRough, .ref mm_personName, .ref mm_personOff, .ref mm_personGain, .ref mm_personRough, .ref mm_custom, .ref mm_customA, .ref mm_customB, .ref mm_ruleFrom, .ref mm_ruleTo, .ref mm_roundOf, .ref mm_roundAt, .ref mm_roundHour, .ref mm_gunAt, .ref mm_gunHour, .ref mm_knotSort, .ref mm_knotValue, .int 0, .int 0, .int 0, .int 0, .int 0, .int 0, .int 0, .int 0, .int 0, .int (-1), .int 0, .int 0, .int 0, .int 0, .int 0, .int 0, .int 0, .int 0, .int 0, .int 0, .int 0, .int 0, .ref mm_start, .ref mm_off, .ref mm_last, .ref mm_passed, .ref mm_kept, .ref mm_keptMany, .int 0, .int 0, .ref mm_history, .ref mm_names, .ref mm_worked, .int 0, .int 0, .int (-1), .ref mm_readThing, .ref mm_readHour, .ref mm_readLow, .ref mm_readHigh, .int 0, .int 0, .int 0, .ref mm_imageOff, .ref mm_imageLast, .ref mm_imagePassed, .ref mm_imageKept, .ref mm_imageMany, .ref mm_imageHistory])), (mm_number, .inl (k_mm_number, 10, .inl (fun _ => 0)))] H := hP
  have hD : va_D A [(xx, .inr (10, [.ref rr, .ref ta, .ref tb, .ref pa, .ref pb, .ref cn, .ref ci, .int 0, .ref cp, .ref ct, .ref hs, .ref rd, .ref wy, .ref ea, .ref eb])), (ta, .inr (8, [.int 0, .int 0, .int 0, .int 0, .int 0, .ref ta_name, .ref ta_first, .ref ta_gain, .ref ta_rough, .ref ta_custom, .ref ta_part, .ref ta_whole, .ref ta_roundPerson, .ref ta_roundClock, .ref ta_roundHour, .ref ta_gunClock, .ref ta_gunHour, .ref tau])), (mm, .inr (11, [.int 0, .ref mm_tape, .int 0, .ref mm_number, .ref mm_clockName, .ref mm_clockOff, .ref mm_clockGain, .ref mm_clockRough, .ref mm_personName, .ref mm_personOff, .ref mm_personGain, .ref mm_personRough, .ref mm_custom, .ref mm_customA, .ref mm_customB, .ref mm_ruleFrom, .ref mm_ruleTo, .ref mm_roundOf, .ref mm_roundAt, .ref mm_roundHour, .ref mm_gunAt, .ref mm_gunHour, .ref mm_knotSort, .ref mm_knotValue, .int 0, .int 0, .int 0, .int 0, .int 0, .int 0, .int 0, .int 0, .int 0, .int (-1), .int 0, .int 0, .int 0, .int 0, .int 0, .int 0, .int 0, .int 0, .int 0, .int 0, .int 0, .int 0, .ref mm_start, .ref mm_off, .ref mm_last, .ref mm_passed, .ref mm_kept, .ref mm_keptMany, .int 0, .int 0, .ref mm_history, .ref mm_names, .ref mm_worked, .int 0, .int 0, .int (-1), .ref mm_readThing, .ref mm_readHour, .ref mm_readLow, .ref mm_readHigh, .int 0, .int 0, .int 0, .ref mm_imageOff, .ref mm_imageLast, .ref mm_imagePassed, .ref mm_imageKept, .ref mm_imageMany, .ref mm_imageHistory])), (mm_number, .inl (k_mm_number, 10, .inl (fun _ => 0)))] := hD
  clear hPc hDc hKc hFc hP1 hD1 hk1 hz1 ht hvm
  have hw : r_8 = -2147483648 := hw
  subst r_8
  refine lv_icmp_eq (tgt := 1482) hx hb dL_law_531 (by decide) (fun c_9 => ?_) (fun c_9 => absurd c_9 (by decide))
  refine lv_iinc (v := 7) (lv' := [(4, .int 7), (3, .ref oo), (2, .ref mm), (1, .ref xx), (0, .ref b)]) hx hb dL_law_1482 hl (k := 0) rfl (by decide) (by decide) rfl (fun ls hl => ?_)
  refine lv_goto (tgt := 23) hx hb dL_law_1485 (by decide) ?_
  refine lv_iload hx hb dL_law_23 (lv_at hl 0 rfl) ?_
  refine lv_aload_n hx hb dL_law_25 rfl (lv_at hl 4 rfl) ?_
  refine va_slen hx hb hX hbl hbA hS dL_law_26 ?_
  refine lv_topi (fun z_10 ez_10 => ?_)
  obtain rfl : z_10 = 7 := ez_10.trans (by decide)
  refine lv_bipush (v := 7) hx hb dL_law_27 (by decide) ?_
  refine lv_isub hx hb dL_law_29 ?_
  refine lv_topi (fun z_11 ez_11 => ?_)
  obtain rfl : z_11 = 0 := ez_11.trans (by decide)
  refine lv_icmp_gt (tgt := 1488) hx hb dL_law_30 (by decide) (fun c_12 => ?_) (fun c_12 => absurd c_12 (by decide))
  refine lv_iconst (v := 1) hx hb dL_law_1488 (by decide) ?_
  refine va_forget (fun q hq => hAo _ (hS.2.2 q hq)) ?_
  refine W.widen (k := 600002) (n := 7302232) (Nat.le_of_ble_eq_true rfl) (Nat.le_of_ble_eq_true rfl) ?_
  exact lw_ret hx hb hr hlocks dL_law_1489
set_option maxHeartbeats 4000000 in
set_option maxRecDepth 100000 in
theorem law_op_9 {p : Program} {l : Launch} {e : Env} {s : State} {m : MethodId} {below : List Frame} {meth : Method} {c : Code} {dC : Nat → ClassId} {dI : Nat → Nat → Nat} {b : Nat} {xs : Nat → Int32} {A : Nat → Prop} (C0 : lw_At p s m meth c b 7 xs) (hA : ∀ q, s.heap.size ≤ q → A q) (hbA : ¬ A b) (hAo : ∀ q, A q → s.heap.size ≤ q) {xx : Nat} {rr : Nat} {ta : Nat} {tb : Nat} {pa : Nat} {pb : Nat} {cn : Nat} {ci : Nat} {cp : Nat} {ct : Nat} {hs : Nat} {rd : Nat} {wy : Nat} {ea : Nat} {eb : Nat} {ta_name : Nat} {ta_first : Nat} {ta_gain : Nat} {ta_rough : Nat} {ta_custom : Nat} {ta_part : Nat} {ta_whole : Nat} {ta_roundPerson : Nat} {ta_roundClock : Nat} {ta_roundHour : Nat} {ta_gunClock : Nat} {ta_gunHour : Nat} {tau : Nat} {mm : Nat} {mm_tape : Nat} {mm_number : Nat} {mm_clockName : Nat} {mm_clockOff : Nat} {mm_clockGain : Nat} {mm_clockRough : Nat} {mm_personName : Nat} {mm_personOff : Nat} {mm_personGain : Nat} {mm_personRough : Nat} {mm_custom : Nat} {mm_customA : Nat} {mm_customB : Nat} {mm_ruleFrom : Nat} {mm_ruleTo : Nat} {mm_roundOf : Nat} {mm_roundAt : Nat} {mm_roundHour : Nat} {mm_gunAt : Nat} {mm_gunHour : Nat} {mm_knotSort : Nat} {mm_knotValue : Nat} {mm_start : Nat} {mm_off : Nat} {mm_last : Nat} {mm_passed : Nat} {mm_kept : Nat} {mm_keptMany : Nat} {mm_history : Nat} {mm_names : Nat} {mm_worked : Nat} {mm_readThing : Nat} {mm_readHour : Nat} {mm_readLow : Nat} {mm_readHigh : Nat} {mm_imageOff : Nat} {mm_imageLast : Nat} {mm_imagePassed : Nat} {mm_imageKept : Nat} {mm_imageMany : Nat} {mm_imageHistory : Nat} {k_mm_number : ClassId} {oo : Nat} {H : Heap} {locs : List Loc} {ls : Array Slot} (hK : va_K (dC, dI) vwCl [(k_mm_number, .int)] s) (hP : va_P (dC, dI) vwCl [(xx, .inr (10, [.ref rr, .ref ta, .ref tb, .ref pa, .ref pb, .ref cn, .ref ci, .int 0, .ref cp, .ref ct, .ref hs, .ref rd, .ref wy, .ref ea, .ref eb])), (ta, .inr (8, [.int 0, .int 0, .int 0, .int 0, .int 0, .ref ta_name, .ref ta_first, .ref ta_gain, .ref ta_rough, .ref ta_custom, .ref ta_part, .ref ta_whole, .ref ta_roundPerson, .ref ta_roundClock, .ref ta_roundHour, .ref ta_gunClock, .ref ta_gunHour, .ref tau])), (mm, .inr (11, [.int 0, .ref mm_tape, .int 0, .ref mm_number, .ref mm_clockName, .ref mm_clockOff, .ref mm_clockGain, .ref mm_clockRough, .ref mm_personName, .ref mm_personOff, .ref mm_personGain, .ref mm_personRough, .ref mm_custom, .ref mm_customA, .ref mm_customB, .ref mm_ruleFrom, .ref mm_ruleTo, .ref mm_roundOf, .ref mm_roundAt, .ref mm_roundHour, .ref mm_gunAt, .ref mm_gunHour, .ref mm_knotSort, .ref mm_knotValue, .int 0, .int 0, .int 0, .int 0, .int 0, .int 0, .int 0, .int 0, .int 0, .int (-1), .int 0, .int 0, .int 0, .int 0, .int 0, .int 0, .int 0, .int 0, .int 0, .int 0, .int 0, .int 0, .ref mm_start, .ref mm_off, .ref mm_last, .ref mm_passed, .ref mm_kept, .ref mm_keptMany, .int 0, .int 0, .ref mm_history, .ref mm_names, .ref mm_worked, .int 0, .int 0, .int (-1), .ref mm_readThing, .ref mm_readHour, .ref mm_readLow, .ref mm_readHigh, .int 0, .int 0, .int 0, .ref mm_imageOff, .ref mm_imageLast, .ref mm_imagePassed, .ref mm_imageKept, .ref mm_imageMany, .ref mm_imageHistory])), (mm_number, .inl (k_mm_number, 10, .inl (fun _ => 0)))] H) (hD : va_D A [(xx, .inr (10, [.ref rr, .ref ta, .ref tb, .ref pa, .ref pb, .ref cn, .ref ci, .int 0, .ref cp, .ref ct, .ref hs, .ref rd, .ref wy, .ref ea, .ref eb])), (ta, .inr (8, [.int 0, .int 0, .int 0, .int 0, .int 0, .ref ta_name, .ref ta_first, .ref ta_gain, .ref ta_rough, .ref ta_custom, .ref ta_part, .ref ta_whole, .ref ta_roundPerson, .ref ta_roundClock, .ref ta_roundHour, .ref ta_gunClock, .ref ta_gunHour, .ref tau])), (mm, .inr (11, [.int 0, .ref mm_tape, .int 0, .ref mm_number, .ref mm_clockName, .ref mm_clockOff, .ref mm_clockGain, .ref mm_clockRough, .ref mm_personName, .ref mm_personOff, .ref mm_personGain, .ref mm_personRough, .ref mm_custom, .ref mm_customA, .ref mm_customB, .ref mm_ruleFrom, .ref mm_ruleTo, .ref mm_roundOf, .ref mm_roundAt, .ref mm_roundHour, .ref mm_gunAt, .ref mm_gunHour, .ref mm_knotSort, .ref mm_knotValue, .int 0, .int 0, .int 0, .int 0, .int 0, .int 0, .int 0, .int 0, .int 0, .int (-1), .int 0, .int 0, .int 0, .int 0, .int 0, .int 0, .int 0, .int 0, .int 0, .int 0, .int 0, .int 0, .ref mm_start, .ref mm_off, .ref mm_last, .ref mm_passed, .ref mm_kept, .ref mm_keptMany, .int 0, .int 0, .ref mm_history, .ref mm_names, .ref mm_worked, .int 0, .int 0, .int (-1), .ref mm_readThing, .ref mm_readHour, .ref mm_readLow, .ref mm_readHigh, .int 0, .int 0, .int 0, .ref mm_imageOff, .ref mm_imageLast, .ref mm_imagePassed, .ref mm_imageKept, .ref mm_imageMany, .ref mm_imageHistory])), (mm_number, .inl (k_mm_number, 10, .inl (fun _ => 0)))]) (hS : va_S A s.heap H locs) (hl : lv_has ls 7 [(4, .int 0), (3, .ref oo), (2, .ref mm), (1, .ref xx), (0, .ref b)]) : W p l e room_1 s m #[Value.ref b] below meth c H locs 160 67979 (lw_Z below #[Value.ref b] s) (F0 m 536 ls []) := by
  obtain ⟨hx, hb, hr, hml, hown, hts, hX, hbl, hlocks, hgv⟩ := C0
  have hT : ∀ w ∈ pw_T, w.before #[Value.ref b] s = true := fun w h => hts w (List.mem_filter.mp h).1
  have hown : s.vm.findClass RL = some m.cls := hown
  refine lv_aload_n hx hb dL_law_536 rfl (lv_at hl 3 rfl) ?_
  refine lv_aload_n hx hb dL_law_537 rfl (lv_at hl 4 rfl) ?_
  refine lv_iload hx hb dL_law_538 (lv_at hl 0 rfl) ?_
  refine lv_iconst (v := 1) hx hb dL_law_540 (by decide) ?_
  refine lv_iadd hx hb dL_law_541 ?_
  refine lv_topi (fun z_1 ez_1 => ?_)
  obtain rfl : z_1 = 1 := ez_1.trans (by decide)
  refine va_sld hx hb hX hbl hbA hS (pk_in 1 7 (by decide) (by decide) (by decide)) dL_law_542 ?_
  refine lv_topi (fun z_2 ez_2 => ?_)
  replace ez_2 : z_2 = xs 1 := ez_2
  subst z_2
  refine lv_aload_n hx hb dL_law_543 rfl (lv_at hl 4 rfl) ?_
  refine lv_iload hx hb dL_law_544 (lv_at hl 0 rfl) ?_
  refine lv_iconst (v := 2) hx hb dL_law_546 (by decide) ?_
  refine lv_iadd hx hb dL_law_547 ?_
  refine lv_topi (fun z_3 ez_3 => ?_)
  obtain rfl : z_3 = 2 := ez_3.trans (by decide)
  refine va_sld hx hb hX hbl hbA hS (pk_in 2 7 (by decide) (by decide) (by decide)) dL_law_548 ?_
  refine lv_topi (fun z_4 ez_4 => ?_)
  replace ez_4 : z_4 = xs 2 := ez_4
  subst z_4
  have hPc := hP.sub (ws' := [(xx, .inr (10, [.ref rr, .ref ta, .ref tb, .ref pa, .ref pb, .ref cn, .ref ci, .int 0, .ref cp, .ref ct, .ref hs, .ref rd, .ref wy, .ref ea, .ref eb])), (ta, .inr (8, [.int 0, .int 0, .int 0, .int 0, .int 0, .ref ta_name, .ref ta_first, .ref ta_gain, .ref ta_rough, .ref ta_custom, .ref ta_part, .ref ta_whole, .ref ta_roundPerson, .ref ta_roundClock, .ref ta_roundHour, .ref ta_gunClock, .ref ta_gunHour, .ref tau]))]) [0, 1] rfl
  have hDc := hD.sub (ws' := [(xx, .inr (10, [.ref rr, .ref ta, .ref tb, .ref pa, .ref pb, .ref cn, .ref ci, .int 0, .ref cp, .ref ct, .ref hs, .ref rd, .ref wy, .ref ea, .ref eb])), (ta, .inr (8, [.int 0, .int 0, .int 0, .int 0, .int 0, .ref ta_name, .ref ta_first, .ref ta_gain, .ref ta_rough, .ref ta_custom, .ref ta_part, .ref ta_whole, .ref ta_roundPerson, .ref ta_roundClock, .ref ta_roundHour, .ref ta_gunClock, .ref ta_gunHour, .ref tau]))]) [0, 1] (by decide) rfl
  have hKc := hK.sub (tys' := []) [] rfl
  have hFc := va_free (wc := [(xx, .inr (10, [.ref rr, .ref ta, .ref tb, .ref pa, .ref pb, .ref cn, .ref ci, .int 0, .ref cp, .ref ct, .ref hs, .ref rd, .ref wy, .ref ea, .ref eb])), (ta, .inr (8, [.int 0, .int 0, .int 0, .int 0, .int 0, .ref ta_name, .ref ta_first, .ref ta_gain, .ref ta_rough, .ref ta_custom, .ref ta_part, .ref ta_whole, .ref ta_roundPerson, .ref ta_roundClock, .ref ta_roundHour, .ref ta_gunClock, .ref ta_gunHour, .ref tau]))]) hD hS hA [0, 1] rfl
  refine va_calli (va_runV (As := [.int (xs 1), .int (xs 2)]) (rest := []) ⟨hx, hb, hml, hown, hT⟩ (c_X10_now l dC dI H.size xx (xs 1) (xs 2) rr ta tb pa pb cn ci (0 : Int32) cp ct hs rd wy ea eb (0 : Int32) (0 : Int32) (0 : Int32) ta_name ta_first ta_gain ta_rough ta_custom ta_part ta_whole ta_roundPerson ta_roundClock ta_roundHour ta_gunClock ta_gunHour tau ) (cwV 2 hT (gwV mw_4_150 mw_4_151 mw_4_152 mw_1_1 mw_4_153) rfl rfl rfl (by decide +kernel) ⟨Nat.le_of_ble_eq_true rfl, Nat.le_of_ble_eq_true rfl⟩) ⟨fun a U g mk q => by obtain ⟨q0, q1, qP, qK, qD⟩ := q; exact ⟨q0, q1, qP, va_K.moved (u := U) (U := U.calling g mk a) (Vm.Alike.refl U.vm) qK, qD⟩, va_recv hK hP (ci := 10) (q0 := 0) rfl rfl, fun U hU hW => ⟨rfl, by rw [hU], by rw [hU]; exact hPc, va_K.moved hW.alike hKc, hDc.weaken (fun _ _ _ _ => trivial)⟩⟩ rfl rfl hl.1 rfl (lv_room (Nat.le_of_ble_eq_true rfl)) dL_law_549 ⟨Nat.le_of_ble_eq_true rfl, Nat.le_of_ble_eq_true rfl⟩) hS (fun q _ h => hFc q h) hFc (fun r_6 u t H1 locs ht hvm hw hB hz1 hk1 hS => ?_)
  obtain ⟨hP1, hD1⟩ := hB
  rw [ht] at hP1
  obtain ⟨hP, hD⟩ := va_join (wr := [(mm, .inr (11, [.int 0, .ref mm_tape, .int 0, .ref mm_number, .ref mm_clockName, .ref mm_clockOff, .ref mm_clockGain, .ref mm_clockRough, .ref mm_personName, .ref mm_personOff, .ref mm_personGain, .ref mm_personRough, .ref mm_custom, .ref mm_customA, .ref mm_customB, .ref mm_ruleFrom, .ref mm_ruleTo, .ref mm_roundOf, .ref mm_roundAt, .ref mm_roundHour, .ref mm_gunAt, .ref mm_gunHour, .ref mm_knotSort, .ref mm_knotValue, .int 0, .int 0, .int 0, .int 0, .int 0, .int 0, .int 0, .int 0, .int 0, .int (-1), .int 0, .int 0, .int 0, .int 0, .int 0, .int 0, .int 0, .int 0, .int 0, .int 0, .int 0, .int 0, .ref mm_start, .ref mm_off, .ref mm_last, .ref mm_passed, .ref mm_kept, .ref mm_keptMany, .int 0, .int 0, .ref mm_history, .ref mm_names, .ref mm_worked, .int 0, .int 0, .int (-1), .ref mm_readThing, .ref mm_readHour, .ref mm_readLow, .ref mm_readHigh, .int 0, .int 0, .int 0, .ref mm_imageOff, .ref mm_imageLast, .ref mm_imagePassed, .ref mm_imageKept, .ref mm_imageMany, .ref mm_imageHistory])), (mm_number, .inl (k_mm_number, 10, .inl (fun _ => 0)))]) (w1 := [(xx, .inr (10, [.ref rr, .ref ta, .ref tb, .ref pa, .ref pb, .ref cn, .ref ci, .int 0, .ref cp, .ref ct, .ref hs, .ref rd, .ref wy, .ref ea, .ref eb])), (ta, .inr (8, [.int 0, .int 0, .int 0, .int 0, .int 0, .ref ta_name, .ref ta_first, .ref ta_gain, .ref ta_rough, .ref ta_custom, .ref ta_part, .ref ta_whole, .ref ta_roundPerson, .ref ta_roundClock, .ref ta_roundHour, .ref ta_gunClock, .ref ta_gunHour, .ref tau]))]) hP hD [0, 1] [2, 3] rfl rfl (by decide) (by decide) hk1 hFc hP1 hD1
  generalize H1 = H at hP hS ⊢
  have hP : va_P (dC, dI) vwCl [(mm, .inr (11, [.int 0, .ref mm_tape, .int 0, .ref mm_number, .ref mm_clockName, .ref mm_clockOff, .ref mm_clockGain, .ref mm_clockRough, .ref mm_personName, .ref mm_personOff, .ref mm_personGain, .ref mm_personRough, .ref mm_custom, .ref mm_customA, .ref mm_customB, .ref mm_ruleFrom, .ref mm_ruleTo, .ref mm_roundOf, .ref mm_roundAt, .ref mm_roundHour, .ref mm_gunAt, .ref mm_gunHour, .ref mm_knotSort, .ref mm_knotValue, .int 0, .int 0, .int 0, .int 0, .int 0, .int 0, .int 0, .int 0, .int 0, .int (-1), .int 0, .int 0, .int 0, .int 0, .int 0, .int 0, .int 0, .int 0, .int 0, .int 0, .int 0, .int 0, .ref mm_start, .ref mm_off, .ref mm_last, .ref mm_passed, .ref mm_kept, .ref mm_keptMany, .int 0, .int 0, .ref mm_history, .ref mm_names, .ref mm_worked, .int 0, .int 0, .int (-1), .ref mm_readThing, .ref mm_readHour, .ref mm_readLow, .ref mm_readHigh, .int 0, .int 0, .int 0, .ref mm_imageOff, .ref mm_imageLast, .ref mm_imagePassed, .ref mm_imageKept, .ref mm_imageMany, .ref mm_imageHistory])), (mm_number, .inl (k_mm_number, 10, .inl (fun _ => 0))), (xx, .inr (10, [.ref rr, .ref ta, .ref tb, .ref pa, .ref pb, .ref cn, .ref ci, .int 0, .ref cp, .ref ct, .ref hs, .ref rd, .ref wy, .ref ea, .ref eb])), (ta, .inr (8, [.int 0, .int 0, .int 0, .int 0, .int 0, .ref ta_name, .ref ta_first, .ref ta_gain, .ref ta_rough, .ref ta_custom, .ref ta_part, .ref ta_whole, .ref ta_roundPerson, .ref ta_roundClock, .ref ta_roundHour, .ref ta_gunClock, .ref ta_gunHour, .ref tau]))] H := hP
  have hD : va_D A [(mm, .inr (11, [.int 0, .ref mm_tape, .int 0, .ref mm_number, .ref mm_clockName, .ref mm_clockOff, .ref mm_clockGain, .ref mm_clockRough, .ref mm_personName, .ref mm_personOff, .ref mm_personGain, .ref mm_personRough, .ref mm_custom, .ref mm_customA, .ref mm_customB, .ref mm_ruleFrom, .ref mm_ruleTo, .ref mm_roundOf, .ref mm_roundAt, .ref mm_roundHour, .ref mm_gunAt, .ref mm_gunHour, .ref mm_knotSort, .ref mm_knotValue, .int 0, .int 0, .int 0, .int 0, .int 0, .int 0, .int 0, .int 0, .int 0, .int (-1), .int 0, .int 0, .int 0, .int 0, .int 0, .int 0, .int 0, .int 0, .int 0, .int 0, .int 0, .int 0, .ref mm_start, .ref mm_off, .ref mm_last, .ref mm_passed, .ref mm_kept, .ref mm_keptMany, .int 0, .int 0, .ref mm_history, .ref mm_names, .ref mm_worked, .int 0, .int 0, .int (-1), .ref mm_readThing, .ref mm_readHour, .ref mm_readLow, .ref mm_readHigh, .int 0, .int 0, .int 0, .ref mm_imageOff, .ref mm_imageLast, .ref mm_imagePassed, .ref mm_imageKept, .ref mm_imageMany, .ref mm_imageHistory])), (mm_number, .inl (k_mm_number, 10, .inl (fun _ => 0))), (xx, .inr (10, [.ref rr, .ref ta, .ref tb, .ref pa, .ref pb, .ref cn, .ref ci, .int 0, .ref cp, .ref ct, .ref hs, .ref rd, .ref wy, .ref ea, .ref eb])), (ta, .inr (8, [.int 0, .int 0, .int 0, .int 0, .int 0, .ref ta_name, .ref ta_first, .ref ta_gain, .ref ta_rough, .ref ta_custom, .ref ta_part, .ref ta_whole, .ref ta_roundPerson, .ref ta_roundClock, .ref ta_roundHour, .ref ta_gunClock, .ref ta_gunHour, .ref tau]))] := hD
  clear hPc hDc hKc hFc hP1 hD1 hk1 hz1 ht hvm
  have hw : r_6 = -2147483648 := hw
  subst r_6
  refine lv_aload_n hx hb dL_law_552 rfl (lv_at hl 2 rfl) ?_
  refine lv_aload_n hx hb dL_law_553 rfl (lv_at hl 4 rfl) ?_
  refine lv_iload hx hb dL_law_554 (lv_at hl 0 rfl) ?_
  refine lv_iconst (v := 1) hx hb dL_law_556 (by decide) ?_
  refine lv_iadd hx hb dL_law_557 ?_
  refine lv_topi (fun z_7 ez_7 => ?_)
  obtain rfl : z_7 = 1 := ez_7.trans (by decide)
  refine va_sld hx hb hX hbl hbA hS (pk_in 1 7 (by decide) (by decide) (by decide)) dL_law_558 ?_
  refine lv_topi (fun z_8 ez_8 => ?_)
  replace ez_8 : z_8 = xs 1 := ez_8
  subst z_8
  refine lv_aload_n hx hb dL_law_559 rfl (lv_at hl 4 rfl) ?_
  refine lv_iload hx hb dL_law_560 (lv_at hl 0 rfl) ?_
  refine lv_iconst (v := 2) hx hb dL_law_562 (by decide) ?_
  refine lv_iadd hx hb dL_law_563 ?_
  refine lv_topi (fun z_9 ez_9 => ?_)
  obtain rfl : z_9 = 2 := ez_9.trans (by decide)
  refine va_sld hx hb hX hbl hbA hS (pk_in 2 7 (by decide) (by decide) (by decide)) dL_law_564 ?_
  refine lv_topi (fun z_10 ez_10 => ?_)
  replace ez_10 : z_10 = xs 2 := ez_10
  subst z_10
  have hPc := hP.sub (ws' := [(mm, .inr (11, [.int 0, .ref mm_tape, .int 0, .ref mm_number, .ref mm_clockName, .ref mm_clockOff, .ref mm_clockGain, .ref mm_clockRough, .ref mm_personName, .ref mm_personOff, .ref mm_personGain, .ref mm_personRough, .ref mm_custom, .ref mm_customA, .ref mm_customB, .ref mm_ruleFrom, .ref mm_ruleTo, .ref mm_roundOf, .ref mm_roundAt, .ref mm_roundHour, .ref mm_gunAt, .ref mm_gunHour, .ref mm_knotSort, .ref mm_knotValue, .int 0, .int 0, .int 0, .int 0, .int 0, .int 0, .int 0, .int 0, .int 0, .int (-1), .int 0, .int 0, .int 0, .int 0, .int 0, .int 0, .int 0, .int 0, .int 0, .int 0, .int 0, .int 0, .ref mm_start, .ref mm_off, .ref mm_last, .ref mm_passed, .ref mm_kept, .ref mm_keptMany, .int 0, .int 0, .ref mm_history, .ref mm_names, .ref mm_worked, .int 0, .int 0, .int (-1), .ref mm_readThing, .ref mm_readHour, .ref mm_readLow, .ref mm_readHigh, .int 0, .int 0, .int 0, .ref mm_imageOff, .ref mm_imageLast, .ref mm_imagePassed, .ref mm_imageKept, .ref mm_imageMany, .ref mm_imageHistory])), (mm_number, .inl (k_mm_number, 10, .inl (fun _ => 0)))]) [0, 1] rfl
  have hDc := hD.sub (ws' := [(mm, .inr (11, [.int 0, .ref mm_tape, .int 0, .ref mm_number, .ref mm_clockName, .ref mm_clockOff, .ref mm_clockGain, .ref mm_clockRough, .ref mm_personName, .ref mm_personOff, .ref mm_personGain, .ref mm_personRough, .ref mm_custom, .ref mm_customA, .ref mm_customB, .ref mm_ruleFrom, .ref mm_ruleTo, .ref mm_roundOf, .ref mm_roundAt, .ref mm_roundHour, .ref mm_gunAt, .ref mm_gunHour, .ref mm_knotSort, .ref mm_knotValue, .int 0, .int 0, .int 0, .int 0, .int 0, .int 0, .int 0, .int 0, .int 0, .int (-1), .int 0, .int 0, .int 0, .int 0, .int 0, .int 0, .int 0, .int 0, .int 0, .int 0, .int 0, .int 0, .ref mm_start, .ref mm_off, .ref mm_last, .ref mm_passed, .ref mm_kept, .ref mm_keptMany, .int 0, .int 0, .ref mm_history, .ref mm_names, .ref mm_worked, .int 0, .int 0, .int (-1), .ref mm_readThing, .ref mm_readHour, .ref mm_readLow, .ref mm_readHigh, .int 0, .int 0, .int 0, .ref mm_imageOff, .ref mm_imageLast, .ref mm_imagePassed, .ref mm_imageKept, .ref mm_imageMany, .ref mm_imageHistory])), (mm_number, .inl (k_mm_number, 10, .inl (fun _ => 0)))]) [0, 1] (by decide) rfl
  have hKc := hK.sub (tys' := [(k_mm_number, .int)]) [0] rfl
  have hFc := va_free (wc := [(mm, .inr (11, [.int 0, .ref mm_tape, .int 0, .ref mm_number, .ref mm_clockName, .ref mm_clockOff, .ref mm_clockGain, .ref mm_clockRough, .ref mm_personName, .ref mm_personOff, .ref mm_personGain, .ref mm_personRough, .ref mm_custom, .ref mm_customA, .ref mm_customB, .ref mm_ruleFrom, .ref mm_ruleTo, .ref mm_roundOf, .ref mm_roundAt, .ref mm_roundHour, .ref mm_gunAt, .ref mm_gunHour, .ref mm_knotSort, .ref mm_knotValue, .int 0, .int 0, .int 0, .int 0, .int 0, .int 0, .int 0, .int 0, .int 0, .int (-1), .int 0, .int 0, .int 0, .int 0, .int 0, .int 0, .int 0, .int 0, .int 0, .int 0, .int 0, .int 0, .ref mm_start, .ref mm_off, .ref mm_last, .ref mm_passed, .ref mm_kept, .ref mm_keptMany, .int 0, .int 0, .ref mm_history, .ref mm_names, .ref mm_worked, .int 0, .int 0, .int (-1), .ref mm_readThing, .ref mm_readHour, .ref mm_readLow, .ref mm_readHigh, .int 0, .int 0, .int 0, .ref mm_imageOff, .ref mm_imageLast, .ref mm_imagePassed, .ref mm_imageKept, .ref mm_imageMany, .ref mm_imageHistory])), (mm_number, .inl (k_mm_number, 10, .inl (fun _ => 0)))]) hD hS hA [0, 1] rfl
  have := (by decide : (0 : Int32).toInt = 0)
  have := (by decide : (0 : Int32).toInt = 0)
  have := (by decide : (0 : Int32).toInt = 0)
  have := (by decide : (0 : Int32).toInt = 0)
  have := (by decide : (0 : Int32).toInt = 0)
  have := (by decide : (0 : Int32).toInt = 0)
  have := (by decide : (0 : Int32).toInt = 0)
  have := (by decide : (0 : Int32).toInt = 0)
  have := (by decide : (0 : Int32).toInt = 0)
  have := (by decide : (0 : Int32).toInt = 0)
  have := (by decide : (0 : Int32).toInt = 0)
  have := (by decide : ((-1) : Int32).toInt = -1)
  have := (by decide : (0 : Int32).toInt = 0)
  have := (by decide : (0 : Int32).toInt = 0)
  have := (by decide : (0 : Int32).toInt = 0)
  have := (by decide : (0 : Int32).toInt = 0)
  have := (by decide : (0 : Int32).toInt = 0)
  have := (by decide : (0 : Int32).toInt = 0)
  have := (by decide : (0 : Int32).toInt = 0)
  have := (by decide : (0 : Int32).toInt = 0)
  have := (by decide : (0 : Int32).toInt = 0)
  have := (by decide : (0 : Int32).toInt = 0)
  have := (by decide : (0 : Int32).toInt = 0)
  have := (by decide : (0 : Int32).toInt = 0)
  have := (by decide : (0 : Int32).toInt = 0)
  have := (by decide : (0 : Int32).toInt = 0)
  have := (by decide : (0 : Int32).toInt = 0)
  have := (by decide : (0 : Int32).toInt = 0)
  have := (by decide : ((-1) : Int32).toInt = -1)
  have := (by decide : (0 : Int32).toInt = 0)
  have := (by decide : (0 : Int32).toInt = 0)
  have := (by decide : (0 : Int32).toInt = 0)
  refine va_calli (va_runV (As := [.int (xs 1), .int (xs 2)]) (rest := [.int (-2147483648)]) ⟨hx, hb, hml, hown, hT⟩ (c_X11_now l dC dI H.size mm (xs 1) (xs 2) (0 : Int32) mm_tape (0 : Int32) mm_number mm_clockName mm_clockOff mm_clockGain mm_clockRough mm_personName mm_personOff mm_personGain mm_personRough mm_custom mm_customA mm_customB mm_ruleFrom mm_ruleTo mm_roundOf mm_roundAt mm_roundHour mm_gunAt mm_gunHour mm_knotSort mm_knotValue (0 : Int32) (0 : Int32) (0 : Int32) (0 : Int32) (0 : Int32) (0 : Int32) (0 : Int32) (0 : Int32) (0 : Int32) ((-1) : Int32) (0 : Int32) (0 : Int32) (0 : Int32) (0 : Int32) (0 : Int32) (0 : Int32) (0 : Int32) (0 : Int32) (0 : Int32) (0 : Int32) (0 : Int32) (0 : Int32) mm_start mm_off mm_last mm_passed mm_kept mm_keptMany (0 : Int32) (0 : Int32) mm_history mm_names mm_worked (0 : Int32) (0 : Int32) ((-1) : Int32) mm_readThing mm_readHour mm_readLow mm_readHigh (0 : Int32) (0 : Int32) (0 : Int32) mm_imageOff mm_imageLast mm_imagePassed mm_imageKept mm_imageMany mm_imageHistory k_mm_number (fun _ => 0) (fun _ => rfl)) (cwV 2 hT (gwV mw_8_30 mw_8_31 mw_8_32 mw_1_16 mw_8_33) rfl rfl rfl (by decide +kernel) ⟨Nat.le_of_ble_eq_true rfl, Nat.le_of_ble_eq_true rfl⟩) ⟨fun a U g mk q => by obtain ⟨q0, q1, qP, qK, qD⟩ := q; exact ⟨q0, q1, qP, va_K.moved (u := U) (U := U.calling g mk a) (Vm.Alike.refl U.vm) qK, qD⟩, va_recv hK hP (ci := 11) (q0 := 0) rfl rfl, fun U hU hW => ⟨rfl, by rw [hU], by rw [hU]; exact hPc, va_K.moved hW.alike hKc, hDc.weaken (fun _ _ _ _ => trivial)⟩⟩ rfl rfl hl.1 rfl (lv_room (Nat.le_of_ble_eq_true rfl)) dL_law_565 ⟨Nat.le_of_ble_eq_true rfl, Nat.le_of_ble_eq_true rfl⟩) hS (fun q _ h => hFc q h) hFc (fun r_12 u t H1 locs ht hvm hw hB hz1 hk1 hS => ?_)
  obtain ⟨hP1, hD1⟩ := hB
  rw [ht] at hP1
  obtain ⟨hP, hD⟩ := va_join (wr := [(xx, .inr (10, [.ref rr, .ref ta, .ref tb, .ref pa, .ref pb, .ref cn, .ref ci, .int 0, .ref cp, .ref ct, .ref hs, .ref rd, .ref wy, .ref ea, .ref eb])), (ta, .inr (8, [.int 0, .int 0, .int 0, .int 0, .int 0, .ref ta_name, .ref ta_first, .ref ta_gain, .ref ta_rough, .ref ta_custom, .ref ta_part, .ref ta_whole, .ref ta_roundPerson, .ref ta_roundClock, .ref ta_roundHour, .ref ta_gunClock, .ref ta_gunHour, .ref tau]))]) (w1 := [(mm, .inr (11, [.int 0, .ref mm_tape, .int 0, .ref mm_number, .ref mm_clockName, .ref mm_clockOff, .ref mm_clockGain, .ref mm_clockRough, .ref mm_personName, .ref mm_personOff, .ref mm_personGain, .ref mm_personRough, .ref mm_custom, .ref mm_customA, .ref mm_customB, .ref mm_ruleFrom, .ref mm_ruleTo, .ref mm_roundOf, .ref mm_roundAt, .ref mm_roundHour, .ref mm_gunAt, .ref mm_gunHour, .ref mm_knotSort, .ref mm_knotValue, .int 0, .int 0, .int 0, .int 0, .int 0, .int 0, .int 0, .int 0, .int 0, .int (-1), .int 0, .int 0, .int 0, .int 0, .int 0, .int 0, .int 0, .int 0, .int 0, .int 0, .int 0, .int 0, .ref mm_start, .ref mm_off, .ref mm_last, .ref mm_passed, .ref mm_kept, .ref mm_keptMany, .int 0, .int 0, .ref mm_history, .ref mm_names, .ref mm_worked, .int 0, .int 0, .int (-1), .ref mm_readThing, .ref mm_readHour, .ref mm_readLow, .ref mm_readHigh, .int 0, .int 0, .int 0, .ref mm_imageOff, .ref mm_imageLast, .ref mm_imagePassed, .ref mm_imageKept, .ref mm_imageMany, .ref mm_imageHistory])), (mm_number, .inl (k_mm_number, 10, .inl (fun _ => 0)))]) hP hD [0, 1] [2, 3] rfl rfl (by decide) (by decide) hk1 hFc hP1 hD1
  generalize H1 = H at hP hS ⊢
  have hP : va_P (dC, dI) vwCl [(xx, .inr (10, [.ref rr, .ref ta, .ref tb, .ref pa, .ref pb, .ref cn, .ref ci, .int 0, .ref cp, .ref ct, .ref hs, .ref rd, .ref wy, .ref ea, .ref eb])), (ta, .inr (8, [.int 0, .int 0, .int 0, .int 0, .int 0, .ref ta_name, .ref ta_first, .ref ta_gain, .ref ta_rough, .ref ta_custom, .ref ta_part, .ref ta_whole, .ref ta_roundPerson, .ref ta_roundClock, .ref ta_roundHour, .ref ta_gunClock, .ref ta_gunHour, .ref tau])), (mm, .inr (11, [.int 0, .ref mm_tape, .int 0, .ref mm_number, .ref mm_clockName, .ref mm_clockOff, .ref mm_clockGain, .ref mm_clockRough, .ref mm_personName, .ref mm_personOff, .ref mm_personGain, .ref mm_personRough, .ref mm_custom, .ref mm_customA, .ref mm_customB, .ref mm_ruleFrom, .ref mm_ruleTo, .ref mm_roundOf, .ref mm_roundAt, .ref mm_roundHour, .ref mm_gunAt, .ref mm_gunHour, .ref mm_knotSort, .ref mm_knotValue, .int 0, .int 0, .int 0, .int 0, .int 0, .int 0, .int 0, .int 0, .int 0, .int (-1), .int 0, .int 0, .int 0, .int 0, .int 0, .int 0, .int 0, .int 0, .int 0, .int 0, .int 0, .int 0, .ref mm_start, .ref mm_off, .ref mm_last, .ref mm_passed, .ref mm_kept, .ref mm_keptMany, .int 0, .int 0, .ref mm_history, .ref mm_names, .ref mm_worked, .int 0, .int 0, .int (-1), .ref mm_readThing, .ref mm_readHour, .ref mm_readLow, .ref mm_readHigh, .int 0, .int 0, .int 0, .ref mm_imageOff, .ref mm_imageLast, .ref mm_imagePassed, .ref mm_imageKept, .ref mm_imageMany, .ref mm_imageHistory])), (mm_number, .inl (k_mm_number, 10, .inl (fun _ => 0)))] H := hP
  have hD : va_D A [(xx, .inr (10, [.ref rr, .ref ta, .ref tb, .ref pa, .ref pb, .ref cn, .ref ci, .int 0, .ref cp, .ref ct, .ref hs, .ref rd, .ref wy, .ref ea, .ref eb])), (ta, .inr (8, [.int 0, .int 0, .int 0, .int 0, .int 0, .ref ta_name, .ref ta_first, .ref ta_gain, .ref ta_rough, .ref ta_custom, .ref ta_part, .ref ta_whole, .ref ta_roundPerson, .ref ta_roundClock, .ref ta_roundHour, .ref ta_gunClock, .ref ta_gunHour, .ref tau])), (mm, .inr (11, [.int 0, .ref mm_tape, .int 0, .ref mm_number, .ref mm_clockName, .ref mm_clockOff, .ref mm_clockGain, .ref mm_clockRough, .ref mm_personName, .ref mm_personOff, .ref mm_personGain, .ref mm_personRough, .ref mm_custom, .ref mm_customA, .ref mm_customB, .ref mm_ruleFrom, .ref mm_ruleTo, .ref mm_roundOf, .ref mm_roundAt, .ref mm_roundHour, .ref mm_gunAt, .ref mm_gunHour, .ref mm_knotSort, .ref mm_knotValue, .int 0, .int 0, .int 0, .int 0, .int 0, .int 0, .int 0, .int 0, .int 0, .int (-1), .int 0, .int 0, .int 0, .int 0, .int 0, .int 0, .int 0, .int 0, .int 0, .int 0, .int 0, .int 0, .ref mm_start, .ref mm_off, .ref mm_last, .ref mm_passed, .ref mm_kept, .ref mm_keptMany, .int 0, .int 0, .ref mm_history, .ref mm_names, .ref mm_worked, .int 0, .int 0, .int (-1), .ref mm_readThing, .ref mm_readHour, .ref mm_readLow, .ref mm_readHigh, .int 0, .int 0, .int 0, .ref mm_imageOff, .ref mm_imageLast, .ref mm_imagePassed, .ref mm_imageKept, .ref mm_imageMany, .ref mm_imageHistory])), (mm_number, .inl (k_mm_number, 10, .inl (fun _ => 0)))] := hD
  clear hPc hDc hKc hFc hP1 hD1 hk1 hz1 ht hvm
  have hw : r_12 = -2147483648 := hw
  subst r_12
  refine lv_icmp_eq (tgt := 1482) hx hb dL_law_568 (by decide) (fun c_13 => ?_) (fun c_13 => absurd c_13 (by decide))
  refine lv_iinc (v := 7) (lv' := [(4, .int 7), (3, .ref oo), (2, .ref mm), (1, .ref xx), (0, .ref b)]) hx hb dL_law_1482 hl (k := 0) rfl (by decide) (by decide) rfl (fun ls hl => ?_)
  refine lv_goto (tgt := 23) hx hb dL_law_1485 (by decide) ?_
  refine lv_iload hx hb dL_law_23 (lv_at hl 0 rfl) ?_
  refine lv_aload_n hx hb dL_law_25 rfl (lv_at hl 4 rfl) ?_
  refine va_slen hx hb hX hbl hbA hS dL_law_26 ?_
  refine lv_topi (fun z_14 ez_14 => ?_)
  obtain rfl : z_14 = 7 := ez_14.trans (by decide)
  refine lv_bipush (v := 7) hx hb dL_law_27 (by decide) ?_
  refine lv_isub hx hb dL_law_29 ?_
  refine lv_topi (fun z_15 ez_15 => ?_)
  obtain rfl : z_15 = 0 := ez_15.trans (by decide)
  refine lv_icmp_gt (tgt := 1488) hx hb dL_law_30 (by decide) (fun c_16 => ?_) (fun c_16 => absurd c_16 (by decide))
  refine lv_iconst (v := 1) hx hb dL_law_1488 (by decide) ?_
  refine va_forget (fun q hq => hAo _ (hS.2.2 q hq)) ?_
  refine W.widen (k := 600002) (n := 7302232) (Nat.le_of_ble_eq_true rfl) (Nat.le_of_ble_eq_true rfl) ?_
  exact lw_ret hx hb hr hlocks dL_law_1489
set_option maxHeartbeats 4000000 in
set_option maxRecDepth 100000 in
theorem law_op_10 {p : Program} {l : Launch} {e : Env} {s : State} {m : MethodId} {below : List Frame} {meth : Method} {c : Code} {dC : Nat → ClassId} {dI : Nat → Nat → Nat} {b : Nat} {xs : Nat → Int32} {A : Nat → Prop} (C0 : lw_At p s m meth c b 7 xs) (hA : ∀ q, s.heap.size ≤ q → A q) (hbA : ¬ A b) (hAo : ∀ q, A q → s.heap.size ≤ q) {xx : Nat} {rr : Nat} {ta : Nat} {tb : Nat} {pa : Nat} {pb : Nat} {cn : Nat} {ci : Nat} {cp : Nat} {ct : Nat} {hs : Nat} {rd : Nat} {wy : Nat} {ea : Nat} {eb : Nat} {ta_name : Nat} {ta_first : Nat} {ta_gain : Nat} {ta_rough : Nat} {ta_custom : Nat} {ta_part : Nat} {ta_whole : Nat} {ta_roundPerson : Nat} {ta_roundClock : Nat} {ta_roundHour : Nat} {ta_gunClock : Nat} {ta_gunHour : Nat} {tau : Nat} {mm : Nat} {mm_tape : Nat} {mm_number : Nat} {mm_clockName : Nat} {mm_clockOff : Nat} {mm_clockGain : Nat} {mm_clockRough : Nat} {mm_personName : Nat} {mm_personOff : Nat} {mm_personGain : Nat} {mm_personRough : Nat} {mm_custom : Nat} {mm_customA : Nat} {mm_customB : Nat} {mm_ruleFrom : Nat} {mm_ruleTo : Nat} {mm_roundOf : Nat} {mm_roundAt : Nat} {mm_roundHour : Nat} {mm_gunAt : Nat} {mm_gunHour : Nat} {mm_knotSort : Nat} {mm_knotValue : Nat} {mm_start : Nat} {mm_off : Nat} {mm_last : Nat} {mm_passed : Nat} {mm_kept : Nat} {mm_keptMany : Nat} {mm_history : Nat} {mm_names : Nat} {mm_worked : Nat} {mm_readThing : Nat} {mm_readHour : Nat} {mm_readLow : Nat} {mm_readHigh : Nat} {mm_imageOff : Nat} {mm_imageLast : Nat} {mm_imagePassed : Nat} {mm_imageKept : Nat} {mm_imageMany : Nat} {mm_imageHistory : Nat} {k_mm_number : ClassId} {oo : Nat} {H : Heap} {locs : List Loc} {ls : Array Slot} (hK : va_K (dC, dI) vwCl [(k_mm_number, .int)] s) (hP : va_P (dC, dI) vwCl [(xx, .inr (10, [.ref rr, .ref ta, .ref tb, .ref pa, .ref pb, .ref cn, .ref ci, .int 0, .ref cp, .ref ct, .ref hs, .ref rd, .ref wy, .ref ea, .ref eb])), (ta, .inr (8, [.int 0, .int 0, .int 0, .int 0, .int 0, .ref ta_name, .ref ta_first, .ref ta_gain, .ref ta_rough, .ref ta_custom, .ref ta_part, .ref ta_whole, .ref ta_roundPerson, .ref ta_roundClock, .ref ta_roundHour, .ref ta_gunClock, .ref ta_gunHour, .ref tau])), (mm, .inr (11, [.int 0, .ref mm_tape, .int 0, .ref mm_number, .ref mm_clockName, .ref mm_clockOff, .ref mm_clockGain, .ref mm_clockRough, .ref mm_personName, .ref mm_personOff, .ref mm_personGain, .ref mm_personRough, .ref mm_custom, .ref mm_customA, .ref mm_customB, .ref mm_ruleFrom, .ref mm_ruleTo, .ref mm_roundOf, .ref mm_roundAt, .ref mm_roundHour, .ref mm_gunAt, .ref mm_gunHour, .ref mm_knotSort, .ref mm_knotValue, .int 0, .int 0, .int 0, .int 0, .int 0, .int 0, .int 0, .int 0, .int 0, .int (-1), .int 0, .int 0, .int 0, .int 0, .int 0, .int 0, .int 0, .int 0, .int 0, .int 0, .int 0, .int 0, .ref mm_start, .ref mm_off, .ref mm_last, .ref mm_passed, .ref mm_kept, .ref mm_keptMany, .int 0, .int 0, .ref mm_history, .ref mm_names, .ref mm_worked, .int 0, .int 0, .int (-1), .ref mm_readThing, .ref mm_readHour, .ref mm_readLow, .ref mm_readHigh, .int 0, .int 0, .int 0, .ref mm_imageOff, .ref mm_imageLast, .ref mm_imagePassed, .ref mm_imageKept, .ref mm_imageMany, .ref mm_imageHistory])), (mm_number, .inl (k_mm_number, 10, .inl (fun _ => 0)))] H) (hD : va_D A [(xx, .inr (10, [.ref rr, .ref ta, .ref tb, .ref pa, .ref pb, .ref cn, .ref ci, .int 0, .ref cp, .ref ct, .ref hs, .ref rd, .ref wy, .ref ea, .ref eb])), (ta, .inr (8, [.int 0, .int 0, .int 0, .int 0, .int 0, .ref ta_name, .ref ta_first, .ref ta_gain, .ref ta_rough, .ref ta_custom, .ref ta_part, .ref ta_whole, .ref ta_roundPerson, .ref ta_roundClock, .ref ta_roundHour, .ref ta_gunClock, .ref ta_gunHour, .ref tau])), (mm, .inr (11, [.int 0, .ref mm_tape, .int 0, .ref mm_number, .ref mm_clockName, .ref mm_clockOff, .ref mm_clockGain, .ref mm_clockRough, .ref mm_personName, .ref mm_personOff, .ref mm_personGain, .ref mm_personRough, .ref mm_custom, .ref mm_customA, .ref mm_customB, .ref mm_ruleFrom, .ref mm_ruleTo, .ref mm_roundOf, .ref mm_roundAt, .ref mm_roundHour, .ref mm_gunAt, .ref mm_gunHour, .ref mm_knotSort, .ref mm_knotValue, .int 0, .int 0, .int 0, .int 0, .int 0, .int 0, .int 0, .int 0, .int 0, .int (-1), .int 0, .int 0, .int 0, .int 0, .int 0, .int 0, .int 0, .int 0, .int 0, .int 0, .int 0, .int 0, .ref mm_start, .ref mm_off, .ref mm_last, .ref mm_passed, .ref mm_kept, .ref mm_keptMany, .int 0, .int 0, .ref mm_history, .ref mm_names, .ref mm_worked, .int 0, .int 0, .int (-1), .ref mm_readThing, .ref mm_readHour, .ref mm_readLow, .ref mm_readHigh, .int 0, .int 0, .int 0, .ref mm_imageOff, .ref mm_imageLast, .ref mm_imagePassed, .ref mm_imageKept, .ref mm_imageMany, .ref mm_imageHistory])), (mm_number, .inl (k_mm_number, 10, .inl (fun _ => 0)))]) (hS : va_S A s.heap H locs) (hl : lv_has ls 7 [(4, .int 0), (3, .ref oo), (2, .ref mm), (1, .ref xx), (0, .ref b)]) : W p l e room_1 s m #[Value.ref b] below meth c H locs 160 67979 (lw_Z below #[Value.ref b] s) (F0 m 573 ls []) := by
  obtain ⟨hx, hb, hr, hml, hown, hts, hX, hbl, hlocks, hgv⟩ := C0
  have hT : ∀ w ∈ pw_T, w.before #[Value.ref b] s = true := fun w h => hts w (List.mem_filter.mp h).1
  have hown : s.vm.findClass RL = some m.cls := hown
  refine lv_aload_n hx hb dL_law_573 rfl (lv_at hl 3 rfl) ?_
  refine lv_aload_n hx hb dL_law_574 rfl (lv_at hl 4 rfl) ?_
  refine lv_iload hx hb dL_law_575 (lv_at hl 0 rfl) ?_
  refine lv_iconst (v := 1) hx hb dL_law_577 (by decide) ?_
  refine lv_iadd hx hb dL_law_578 ?_
  refine lv_topi (fun z_1 ez_1 => ?_)
  obtain rfl : z_1 = 1 := ez_1.trans (by decide)
  refine va_sld hx hb hX hbl hbA hS (pk_in 1 7 (by decide) (by decide) (by decide)) dL_law_579 ?_
  refine lv_topi (fun z_2 ez_2 => ?_)
  replace ez_2 : z_2 = xs 1 := ez_2
  subst z_2
  refine lv_aload_n hx hb dL_law_580 rfl (lv_at hl 4 rfl) ?_
  refine lv_iload hx hb dL_law_581 (lv_at hl 0 rfl) ?_
  refine lv_iconst (v := 2) hx hb dL_law_583 (by decide) ?_
  refine lv_iadd hx hb dL_law_584 ?_
  refine lv_topi (fun z_3 ez_3 => ?_)
  obtain rfl : z_3 = 2 := ez_3.trans (by decide)
  refine va_sld hx hb hX hbl hbA hS (pk_in 2 7 (by decide) (by decide) (by decide)) dL_law_585 ?_
  refine lv_topi (fun z_4 ez_4 => ?_)
  replace ez_4 : z_4 = xs 2 := ez_4
  subst z_4
  have hPc := hP.sub (ws' := [(xx, .inr (10, [.ref rr, .ref ta, .ref tb, .ref pa, .ref pb, .ref cn, .ref ci, .int 0, .ref cp, .ref ct, .ref hs, .ref rd, .ref wy, .ref ea, .ref eb])), (ta, .inr (8, [.int 0, .int 0, .int 0, .int 0, .int 0, .ref ta_name, .ref ta_first, .ref ta_gain, .ref ta_rough, .ref ta_custom, .ref ta_part, .ref ta_whole, .ref ta_roundPerson, .ref ta_roundClock, .ref ta_roundHour, .ref ta_gunClock, .ref ta_gunHour, .ref tau]))]) [0, 1] rfl
  have hDc := hD.sub (ws' := [(xx, .inr (10, [.ref rr, .ref ta, .ref tb, .ref pa, .ref pb, .ref cn, .ref ci, .int 0, .ref cp, .ref ct, .ref hs, .ref rd, .ref wy, .ref ea, .ref eb])), (ta, .inr (8, [.int 0, .int 0, .int 0, .int 0, .int 0, .ref ta_name, .ref ta_first, .ref ta_gain, .ref ta_rough, .ref ta_custom, .ref ta_part, .ref ta_whole, .ref ta_roundPerson, .ref ta_roundClock, .ref ta_roundHour, .ref ta_gunClock, .ref ta_gunHour, .ref tau]))]) [0, 1] (by decide) rfl
  have hKc := hK.sub (tys' := []) [] rfl
  have hFc := va_free (wc := [(xx, .inr (10, [.ref rr, .ref ta, .ref tb, .ref pa, .ref pb, .ref cn, .ref ci, .int 0, .ref cp, .ref ct, .ref hs, .ref rd, .ref wy, .ref ea, .ref eb])), (ta, .inr (8, [.int 0, .int 0, .int 0, .int 0, .int 0, .ref ta_name, .ref ta_first, .ref ta_gain, .ref ta_rough, .ref ta_custom, .ref ta_part, .ref ta_whole, .ref ta_roundPerson, .ref ta_roundClock, .ref ta_roundHour, .ref ta_gunClock, .ref ta_gunHour, .ref tau]))]) hD hS hA [0, 1] rfl
  refine va_calli (va_runV (As := [.int (xs 1), .int (xs 2)]) (rest := []) ⟨hx, hb, hml, hown, hT⟩ (c_X10_was l dC dI H.size xx (xs 1) (xs 2) rr ta tb pa pb cn ci (0 : Int32) cp ct hs rd wy ea eb (0 : Int32) (0 : Int32) (0 : Int32) ta_name ta_first ta_gain ta_rough ta_custom ta_part ta_whole ta_roundPerson ta_roundClock ta_roundHour ta_gunClock ta_gunHour tau ) (cwV 2 hT (gwV mw_4_158 mw_4_159 mw_4_160 mw_1_1 mw_4_161) rfl rfl rfl (by decide +kernel) ⟨Nat.le_of_ble_eq_true rfl, Nat.le_of_ble_eq_true rfl⟩) ⟨fun a U g mk q => by obtain ⟨q0, q1, qP, qK, qD⟩ := q; exact ⟨q0, q1, qP, va_K.moved (u := U) (U := U.calling g mk a) (Vm.Alike.refl U.vm) qK, qD⟩, va_recv hK hP (ci := 10) (q0 := 0) rfl rfl, fun U hU hW => ⟨rfl, by rw [hU], by rw [hU]; exact hPc, va_K.moved hW.alike hKc, hDc.weaken (fun _ _ _ _ => trivial)⟩⟩ rfl rfl hl.1 rfl (lv_room (Nat.le_of_ble_eq_true rfl)) dL_law_586 ⟨Nat.le_of_ble_eq_true rfl, Nat.le_of_ble_eq_true rfl⟩) hS (fun q _ h => hFc q h) hFc (fun r_6 u t H1 locs ht hvm hw hB hz1 hk1 hS => ?_)
  obtain ⟨hP1, hD1⟩ := hB
  rw [ht] at hP1
  obtain ⟨hP, hD⟩ := va_join (wr := [(mm, .inr (11, [.int 0, .ref mm_tape, .int 0, .ref mm_number, .ref mm_clockName, .ref mm_clockOff, .ref mm_clockGain, .ref mm_clockRough, .ref mm_personName, .ref mm_personOff, .ref mm_personGain, .ref mm_personRough, .ref mm_custom, .ref mm_customA, .ref mm_customB, .ref mm_ruleFrom, .ref mm_ruleTo, .ref mm_roundOf, .ref mm_roundAt, .ref mm_roundHour, .ref mm_gunAt, .ref mm_gunHour, .ref mm_knotSort, .ref mm_knotValue, .int 0, .int 0, .int 0, .int 0, .int 0, .int 0, .int 0, .int 0, .int 0, .int (-1), .int 0, .int 0, .int 0, .int 0, .int 0, .int 0, .int 0, .int 0, .int 0, .int 0, .int 0, .int 0, .ref mm_start, .ref mm_off, .ref mm_last, .ref mm_passed, .ref mm_kept, .ref mm_keptMany, .int 0, .int 0, .ref mm_history, .ref mm_names, .ref mm_worked, .int 0, .int 0, .int (-1), .ref mm_readThing, .ref mm_readHour, .ref mm_readLow, .ref mm_readHigh, .int 0, .int 0, .int 0, .ref mm_imageOff, .ref mm_imageLast, .ref mm_imagePassed, .ref mm_imageKept, .ref mm_imageMany, .ref mm_imageHistory])), (mm_number, .inl (k_mm_number, 10, .inl (fun _ => 0)))]) (w1 := [(xx, .inr (10, [.ref rr, .ref ta, .ref tb, .ref pa, .ref pb, .ref cn, .ref ci, .int 0, .ref cp, .ref ct, .ref hs, .ref rd, .ref wy, .ref ea, .ref eb])), (ta, .inr (8, [.int 0, .int 0, .int 0, .int 0, .int 0, .ref ta_name, .ref ta_first, .ref ta_gain, .ref ta_rough, .ref ta_custom, .ref ta_part, .ref ta_whole, .ref ta_roundPerson, .ref ta_roundClock, .ref ta_roundHour, .ref ta_gunClock, .ref ta_gunHour, .ref tau]))]) hP hD [0, 1] [2, 3] rfl rfl (by decide) (by decide) hk1 hFc hP1 hD1
  generalize H1 = H at hP hS ⊢
  have hP : va_P (dC, dI) vwCl [(mm, .inr (11, [.int 0, .ref mm_tape, .int 0, .ref mm_number, .ref mm_clockName, .ref mm_clockOff, .ref mm_clockGain, .ref mm_clockRough, .ref mm_personName, .ref mm_personOff, .ref mm_personGain, .ref mm_personRough, .ref mm_custom, .ref mm_customA, .ref mm_customB, .ref mm_ruleFrom, .ref mm_ruleTo, .ref mm_roundOf, .ref mm_roundAt, .ref mm_roundHour, .ref mm_gunAt, .ref mm_gunHour, .ref mm_knotSort, .ref mm_knotValue, .int 0, .int 0, .int 0, .int 0, .int 0, .int 0, .int 0, .int 0, .int 0, .int (-1), .int 0, .int 0, .int 0, .int 0, .int 0, .int 0, .int 0, .int 0, .int 0, .int 0, .int 0, .int 0, .ref mm_start, .ref mm_off, .ref mm_last, .ref mm_passed, .ref mm_kept, .ref mm_keptMany, .int 0, .int 0, .ref mm_history, .ref mm_names, .ref mm_worked, .int 0, .int 0, .int (-1), .ref mm_readThing, .ref mm_readHour, .ref mm_readLow, .ref mm_readHigh, .int 0, .int 0, .int 0, .ref mm_imageOff, .ref mm_imageLast, .ref mm_imagePassed, .ref mm_imageKept, .ref mm_imageMany, .ref mm_imageHistory])), (mm_number, .inl (k_mm_number, 10, .inl (fun _ => 0))), (xx, .inr (10, [.ref rr, .ref ta, .ref tb, .ref pa, .ref pb, .ref cn, .ref ci, .int 0, .ref cp, .ref ct, .ref hs, .ref rd, .ref wy, .ref ea, .ref eb])), (ta, .inr (8, [.int 0, .int 0, .int 0, .int 0, .int 0, .ref ta_name, .ref ta_first, .ref ta_gain, .ref ta_rough, .ref ta_custom, .ref ta_part, .ref ta_whole, .ref ta_roundPerson, .ref ta_roundClock, .ref ta_roundHour, .ref ta_gunClock, .ref ta_gunHour, .ref tau]))] H := hP
  have hD : va_D A [(mm, .inr (11, [.int 0, .ref mm_tape, .int 0, .ref mm_number, .ref mm_clockName, .ref mm_clockOff, .ref mm_clockGain, .ref mm_clockRough, .ref mm_personName, .ref mm_personOff, .ref mm_personGain, .ref mm_personRough, .ref mm_custom, .ref mm_customA, .ref mm_customB, .ref mm_ruleFrom, .ref mm_ruleTo, .ref mm_roundOf, .ref mm_roundAt, .ref mm_roundHour, .ref mm_gunAt, .ref mm_gunHour, .ref mm_knotSort, .ref mm_knotValue, .int 0, .int 0, .int 0, .int 0, .int 0, .int 0, .int 0, .int 0, .int 0, .int (-1), .int 0, .int 0, .int 0, .int 0, .int 0, .int 0, .int 0, .int 0, .int 0, .int 0, .int 0, .int 0, .ref mm_start, .ref mm_off, .ref mm_last, .ref mm_passed, .ref mm_kept, .ref mm_keptMany, .int 0, .int 0, .ref mm_history, .ref mm_names, .ref mm_worked, .int 0, .int 0, .int (-1), .ref mm_readThing, .ref mm_readHour, .ref mm_readLow, .ref mm_readHigh, .int 0, .int 0, .int 0, .ref mm_imageOff, .ref mm_imageLast, .ref mm_imagePassed, .ref mm_imageKept, .ref mm_imageMany, .ref mm_imageHistory])), (mm_number, .inl (k_mm_number, 10, .inl (fun _ => 0))), (xx, .inr (10, [.ref rr, .ref ta, .ref tb, .ref pa, .ref pb, .ref cn, .ref ci, .int 0, .ref cp, .ref ct, .ref hs, .ref rd, .ref wy, .ref ea, .ref eb])), (ta, .inr (8, [.int 0, .int 0, .int 0, .int 0, .int 0, .ref ta_name, .ref ta_first, .ref ta_gain, .ref ta_rough, .ref ta_custom, .ref ta_part, .ref ta_whole, .ref ta_roundPerson, .ref ta_roundClock, .ref ta_roundHour, .ref ta_gunClock, .ref ta_gunHour, .ref tau]))] := hD
  clear hPc hDc hKc hFc hP1 hD1 hk1 hz1 ht hvm
  have hw : r_6 = -2147483648 := hw
  subst r_6
  refine lv_aload_n hx hb dL_law_589 rfl (lv_at hl 2 rfl) ?_
  refine lv_aload_n hx hb dL_law_590 rfl (lv_at hl 4 rfl) ?_
  refine lv_iload hx hb dL_law_591 (lv_at hl 0 rfl) ?_
  refine lv_iconst (v := 1) hx hb dL_law_593 (by decide) ?_
  refine lv_iadd hx hb dL_law_594 ?_
  refine lv_topi (fun z_7 ez_7 => ?_)
  obtain rfl : z_7 = 1 := ez_7.trans (by decide)
  refine va_sld hx hb hX hbl hbA hS (pk_in 1 7 (by decide) (by decide) (by decide)) dL_law_595 ?_
  refine lv_topi (fun z_8 ez_8 => ?_)
  replace ez_8 : z_8 = xs 1 := ez_8
  subst z_8
  refine lv_aload_n hx hb dL_law_596 rfl (lv_at hl 4 rfl) ?_
  refine lv_iload hx hb dL_law_597 (lv_at hl 0 rfl) ?_
  refine lv_iconst (v := 2) hx hb dL_law_599 (by decide) ?_
  refine lv_iadd hx hb dL_law_600 ?_
  refine lv_topi (fun z_9 ez_9 => ?_)
  obtain rfl : z_9 = 2 := ez_9.trans (by decide)
  refine va_sld hx hb hX hbl hbA hS (pk_in 2 7 (by decide) (by decide) (by decide)) dL_law_601 ?_
  refine lv_topi (fun z_10 ez_10 => ?_)
  replace ez_10 : z_10 = xs 2 := ez_10
  subst z_10
  have hPc := hP.sub (ws' := [(mm, .inr (11, [.int 0, .ref mm_tape, .int 0, .ref mm_number, .ref mm_clockName, .ref mm_clockOff, .ref mm_clockGain, .ref mm_clockRough, .ref mm_personName, .ref mm_personOff, .ref mm_personGain, .ref mm_personRough, .ref mm_custom, .ref mm_customA, .ref mm_customB, .ref mm_ruleFrom, .ref mm_ruleTo, .ref mm_roundOf, .ref mm_roundAt, .ref mm_roundHour, .ref mm_gunAt, .ref mm_gunHour, .ref mm_knotSort, .ref mm_knotValue, .int 0, .int 0, .int 0, .int 0, .int 0, .int 0, .int 0, .int 0, .int 0, .int (-1), .int 0, .int 0, .int 0, .int 0, .int 0, .int 0, .int 0, .int 0, .int 0, .int 0, .int 0, .int 0, .ref mm_start, .ref mm_off, .ref mm_last, .ref mm_passed, .ref mm_kept, .ref mm_keptMany, .int 0, .int 0, .ref mm_history, .ref mm_names, .ref mm_worked, .int 0, .int 0, .int (-1), .ref mm_readThing, .ref mm_readHour, .ref mm_readLow, .ref mm_readHigh, .int 0, .int 0, .int 0, .ref mm_imageOff, .ref mm_imageLast, .ref mm_imagePassed, .ref mm_imageKept, .ref mm_imageMany, .ref mm_imageHistory])), (mm_number, .inl (k_mm_number, 10, .inl (fun _ => 0)))]) [0, 1] rfl
  have hDc := hD.sub (ws' := [(mm, .inr (11, [.int 0, .ref mm_tape, .int 0, .ref mm_number, .ref mm_clockName, .ref mm_clockOff, .ref mm_clockGain, .ref mm_clockRough, .ref mm_personName, .ref mm_personOff, .ref mm_personGain, .ref mm_personRough, .ref mm_custom, .ref mm_customA, .ref mm_customB, .ref mm_ruleFrom, .ref mm_ruleTo, .ref mm_roundOf, .ref mm_roundAt, .ref mm_roundHour, .ref mm_gunAt, .ref mm_gunHour, .ref mm_knotSort, .ref mm_knotValue, .int 0, .int 0, .int 0, .int 0, .int 0, .int 0, .int 0, .int 0, .int 0, .int (-1), .int 0, .int 0, .int 0, .int 0, .int 0, .int 0, .int 0, .int 0, .int 0, .int 0, .int 0, .int 0, .ref mm_start, .ref mm_off, .ref mm_last, .ref mm_passed, .ref mm_kept, .ref mm_keptMany, .int 0, .int 0, .ref mm_history, .ref mm_names, .ref mm_worked, .int 0, .int 0, .int (-1), .ref mm_readThing, .ref mm_readHour, .ref mm_readLow, .ref mm_readHigh, .int 0, .int 0, .int 0, .ref mm_imageOff, .ref mm_imageLast, .ref mm_imagePassed, .ref mm_imageKept, .ref mm_imageMany, .ref mm_imageHistory])), (mm_number, .inl (k_mm_number, 10, .inl (fun _ => 0)))]) [0, 1] (by decide) rfl
  have hKc := hK.sub (tys' := [(k_mm_number, .int)]) [0] rfl
  have hFc := va_free (wc := [(mm, .inr (11, [.int 0, .ref mm_tape, .int 0, .ref mm_number, .ref mm_clockName, .ref mm_clockOff, .ref mm_clockGain, .ref mm_clockRough, .ref mm_personName, .ref mm_personOff, .ref mm_personGain, .ref mm_personRough, .ref mm_custom, .ref mm_customA, .ref mm_customB, .ref mm_ruleFrom, .ref mm_ruleTo, .ref mm_roundOf, .ref mm_roundAt, .ref mm_roundHour, .ref mm_gunAt, .ref mm_gunHour, .ref mm_knotSort, .ref mm_knotValue, .int 0, .int 0, .int 0, .int 0, .int 0, .int 0, .int 0, .int 0, .int 0, .int (-1), .int 0, .int 0, .int 0, .int 0, .int 0, .int 0, .int 0, .int 0, .int 0, .int 0, .int 0, .int 0, .ref mm_start, .ref mm_off, .ref mm_last, .ref mm_passed, .ref mm_kept, .ref mm_keptMany, .int 0, .int 0, .ref mm_history, .ref mm_names, .ref mm_worked, .int 0, .int 0, .int (-1), .ref mm_readThing, .ref mm_readHour, .ref mm_readLow, .ref mm_readHigh, .int 0, .int 0, .int 0, .ref mm_imageOff, .ref mm_imageLast, .ref mm_imagePassed, .ref mm_imageKept, .ref mm_imageMany, .ref mm_imageHistory])), (mm_number, .inl (k_mm_number, 10, .inl (fun _ => 0)))]) hD hS hA [0, 1] rfl
  have := (by decide : (0 : Int32).toInt = 0)
  have := (by decide : (0 : Int32).toInt = 0)
  have := (by decide : (0 : Int32).toInt = 0)
  have := (by decide : (0 : Int32).toInt = 0)
  have := (by decide : (0 : Int32).toInt = 0)
  have := (by decide : (0 : Int32).toInt = 0)
  have := (by decide : (0 : Int32).toInt = 0)
  have := (by decide : (0 : Int32).toInt = 0)
  have := (by decide : (0 : Int32).toInt = 0)
  have := (by decide : (0 : Int32).toInt = 0)
  have := (by decide : (0 : Int32).toInt = 0)
  have := (by decide : ((-1) : Int32).toInt = -1)
  have := (by decide : (0 : Int32).toInt = 0)
  have := (by decide : (0 : Int32).toInt = 0)
  have := (by decide : (0 : Int32).toInt = 0)
  have := (by decide : (0 : Int32).toInt = 0)
  have := (by decide : (0 : Int32).toInt = 0)
  have := (by decide : (0 : Int32).toInt = 0)
  have := (by decide : (0 : Int32).toInt = 0)
  have := (by decide : (0 : Int32).toInt = 0)
  have := (by decide : (0 : Int32).toInt = 0)
  have := (by decide : (0 : Int32).toInt = 0)
  have := (by decide : (0 : Int32).toInt = 0)
  have := (by decide : (0 : Int32).toInt = 0)
  have := (by decide : (0 : Int32).toInt = 0)
  have := (by decide : (0 : Int32).toInt = 0)
  have := (by decide : (0 : Int32).toInt = 0)
  have := (by decide : (0 : Int32).toInt = 0)
  have := (by decide : ((-1) : Int32).toInt = -1)
  have := (by decide : (0 : Int32).toInt = 0)
  have := (by decide : (0 : Int32).toInt = 0)
  have := (by decide : (0 : Int32).toInt = 0)
  refine va_calli (va_runV (As := [.int (xs 1), .int (xs 2)]) (rest := [.int (-2147483648)]) ⟨hx, hb, hml, hown, hT⟩ (c_X11_was l dC dI H.size mm (xs 1) (xs 2) (0 : Int32) mm_tape (0 : Int32) mm_number mm_clockName mm_clockOff mm_clockGain mm_clockRough mm_personName mm_personOff mm_personGain mm_personRough mm_custom mm_customA mm_customB mm_ruleFrom mm_ruleTo mm_roundOf mm_roundAt mm_roundHour mm_gunAt mm_gunHour mm_knotSort mm_knotValue (0 : Int32) (0 : Int32) (0 : Int32) (0 : Int32) (0 : Int32) (0 : Int32) (0 : Int32) (0 : Int32) (0 : Int32) ((-1) : Int32) (0 : Int32) (0 : Int32) (0 : Int32) (0 : Int32) (0 : Int32) (0 : Int32) (0 : Int32) (0 : Int32) (0 : Int32) (0 : Int32) (0 : Int32) (0 : Int32) mm_start mm_off mm_last mm_passed mm_kept mm_keptMany (0 : Int32) (0 : Int32) mm_history mm_names mm_worked (0 : Int32) (0 : Int32) ((-1) : Int32) mm_readThing mm_readHour mm_readLow mm_readHigh (0 : Int32) (0 : Int32) (0 : Int32) mm_imageOff mm_imageLast mm_imagePassed mm_imageKept mm_imageMany mm_imageHistory k_mm_number (fun _ => 0) (fun _ => rfl)) (cwV 2 hT (gwV mw_8_34 mw_8_35 mw_8_36 mw_1_16 mw_8_37) rfl rfl rfl (by decide +kernel) ⟨Nat.le_of_ble_eq_true rfl, Nat.le_of_ble_eq_true rfl⟩) ⟨fun a U g mk q => by obtain ⟨q0, q1, qP, qK, qD⟩ := q; exact ⟨q0, q1, qP, va_K.moved (u := U) (U := U.calling g mk a) (Vm.Alike.refl U.vm) qK, qD⟩, va_recv hK hP (ci := 11) (q0 := 0) rfl rfl, fun U hU hW => ⟨rfl, by rw [hU], by rw [hU]; exact hPc, va_K.moved hW.alike hKc, hDc.weaken (fun _ _ _ _ => trivial)⟩⟩ rfl rfl hl.1 rfl (lv_room (Nat.le_of_ble_eq_true rfl)) dL_law_602 ⟨Nat.le_of_ble_eq_true rfl, Nat.le_of_ble_eq_true rfl⟩) hS (fun q _ h => hFc q h) hFc (fun r_12 u t H1 locs ht hvm hw hB hz1 hk1 hS => ?_)
  obtain ⟨hP1, hD1⟩ := hB
  rw [ht] at hP1
  obtain ⟨hP, hD⟩ := va_join (wr := [(xx, .inr (10, [.ref rr, .ref ta, .ref tb, .ref pa, .ref pb, .ref cn, .ref ci, .int 0, .ref cp, .ref ct, .ref hs, .ref rd, .ref wy, .ref ea, .ref eb])), (ta, .inr (8, [.int 0, .int 0, .int 0, .int 0, .int 0, .ref ta_name, .ref ta_first, .ref ta_gain, .ref ta_rough, .ref ta_custom, .ref ta_part, .ref ta_whole, .ref ta_roundPerson, .ref ta_roundClock, .ref ta_roundHour, .ref ta_gunClock, .ref ta_gunHour, .ref tau]))]) (w1 := [(mm, .inr (11, [.int 0, .ref mm_tape, .int 0, .ref mm_number, .ref mm_clockName, .ref mm_clockOff, .ref mm_clockGain, .ref mm_clockRough, .ref mm_personName, .ref mm_personOff, .ref mm_personGain, .ref mm_personRough, .ref mm_custom, .ref mm_customA, .ref mm_customB, .ref mm_ruleFrom, .ref mm_ruleTo, .ref mm_roundOf, .ref mm_roundAt, .ref mm_roundHour, .ref mm_gunAt, .ref mm_gunHour, .ref mm_knotSort, .ref mm_knotValue, .int 0, .int 0, .int 0, .int 0, .int 0, .int 0, .int 0, .int 0, .int 0, .int (-1), .int 0, .int 0, .int 0, .int 0, .int 0, .int 0, .int 0, .int 0, .int 0, .int 0, .int 0, .int 0, .ref mm_start, .ref mm_off, .ref mm_last, .ref mm_passed, .ref mm_kept, .ref mm_keptMany, .int 0, .int 0, .ref mm_history, .ref mm_names, .ref mm_worked, .int 0, .int 0, .int (-1), .ref mm_readThing, .ref mm_readHour, .ref mm_readLow, .ref mm_readHigh, .int 0, .int 0, .int 0, .ref mm_imageOff, .ref mm_imageLast, .ref mm_imagePassed, .ref mm_imageKept, .ref mm_imageMany, .ref mm_imageHistory])), (mm_number, .inl (k_mm_number, 10, .inl (fun _ => 0)))]) hP hD [0, 1] [2, 3] rfl rfl (by decide) (by decide) hk1 hFc hP1 hD1
  generalize H1 = H at hP hS ⊢
  have hP : va_P (dC, dI) vwCl [(xx, .inr (10, [.ref rr, .ref ta, .ref tb, .ref pa, .ref pb, .ref cn, .ref ci, .int 0, .ref cp, .ref ct, .ref hs, .ref rd, .ref wy, .ref ea, .ref eb])), (ta, .inr (8, [.int 0, .int 0, .int 0, .int 0, .int 0, .ref ta_name, .ref ta_first, .ref ta_gain, .ref ta_rough, .ref ta_custom, .ref ta_part, .ref ta_whole, .ref ta_roundPerson, .ref ta_roundClock, .ref ta_roundHour, .ref ta_gunClock, .ref ta_gunHour, .ref tau])), (mm, .inr (11, [.int 0, .ref mm_tape, .int 0, .ref mm_number, .ref mm_clockName, .ref mm_clockOff, .ref mm_clockGain, .ref mm_clockRough, .ref mm_personName, .ref mm_personOff, .ref mm_personGain, .ref mm_personRough, .ref mm_custom, .ref mm_customA, .ref mm_customB, .ref mm_ruleFrom, .ref mm_ruleTo, .ref mm_roundOf, .ref mm_roundAt, .ref mm_roundHour, .ref mm_gunAt, .ref mm_gunHour, .ref mm_knotSort, .ref mm_knotValue, .int 0, .int 0, .int 0, .int 0, .int 0, .int 0, .int 0, .int 0, .int 0, .int (-1), .int 0, .int 0, .int 0, .int 0, .int 0, .int 0, .int 0, .int 0, .int 0, .int 0, .int 0, .int 0, .ref mm_start, .ref mm_off, .ref mm_last, .ref mm_passed, .ref mm_kept, .ref mm_keptMany, .int 0, .int 0, .ref mm_history, .ref mm_names, .ref mm_worked, .int 0, .int 0, .int (-1), .ref mm_readThing, .ref mm_readHour, .ref mm_readLow, .ref mm_readHigh, .int 0, .int 0, .int 0, .ref mm_imageOff, .ref mm_imageLast, .ref mm_imagePassed, .ref mm_imageKept, .ref mm_imageMany, .ref mm_imageHistory])), (mm_number, .inl (k_mm_number, 10, .inl (fun _ => 0)))] H := hP
  have hD : va_D A [(xx, .inr (10, [.ref rr, .ref ta, .ref tb, .ref pa, .ref pb, .ref cn, .ref ci, .int 0, .ref cp, .ref ct, .ref hs, .ref rd, .ref wy, .ref ea, .ref eb])), (ta, .inr (8, [.int 0, .int 0, .int 0, .int 0, .int 0, .ref ta_name, .ref ta_first, .ref ta_gain, .ref ta_rough, .ref ta_custom, .ref ta_part, .ref ta_whole, .ref ta_roundPerson, .ref ta_roundClock, .ref ta_roundHour, .ref ta_gunClock, .ref ta_gunHour, .ref tau])), (mm, .inr (11, [.int 0, .ref mm_tape, .int 0, .ref mm_number, .ref mm_clockName, .ref mm_clockOff, .ref mm_clockGain, .ref mm_clockRough, .ref mm_personName, .ref mm_personOff, .ref mm_personGain, .ref mm_personRough, .ref mm_custom, .ref mm_customA, .ref mm_customB, .ref mm_ruleFrom, .ref mm_ruleTo, .ref mm_roundOf, .ref mm_roundAt, .ref mm_roundHour, .ref mm_gunAt, .ref mm_gunHour, .ref mm_knotSort, .ref mm_knotValue, .int 0, .int 0, .int 0, .int 0, .int 0, .int 0, .int 0, .int 0, .int 0, .int (-1), .int 0, .int 0, .int 0, .int 0, .int 0, .int 0, .int 0, .int 0, .int 0, .int 0, .int 0, .int 0, .ref mm_start, .ref mm_off, .ref mm_last, .ref mm_passed, .ref mm_kept, .ref mm_keptMany, .int 0, .int 0, .ref mm_history, .ref mm_names, .ref mm_worked, .int 0, .int 0, .int (-1), .ref mm_readThing, .ref mm_readHour, .ref mm_readLow, .ref mm_readHigh, .int 0, .int 0, .int 0, .ref mm_imageOff, .ref mm_imageLast, .ref mm_imagePassed, .ref mm_imageKept, .ref mm_imageMany, .ref mm_imageHistory])), (mm_number, .inl (k_mm_number, 10, .inl (fun _ => 0)))] := hD
  clear hPc hDc hKc hFc hP1 hD1 hk1 hz1 ht hvm
  have hw : r_12 = -2147483648 := hw
  subst r_12
  refine lv_icmp_eq (tgt := 1482) hx hb dL_law_605 (by decide) (fun c_13 => ?_) (fun c_13 => absurd c_13 (by decide))
  refine lv_iinc (v := 7) (lv' := [(4, .int 7), (3, .ref oo), (2, .ref mm), (1, .ref xx), (0, .ref b)]) hx hb dL_law_1482 hl (k := 0) rfl (by decide) (by decide) rfl (fun ls hl => ?_)
  refine lv_goto (tgt := 23) hx hb dL_law_1485 (by decide) ?_
  refine lv_iload hx hb dL_law_23 (lv_at hl 0 rfl) ?_
  refine lv_aload_n hx hb dL_law_25 rfl (lv_at hl 4 rfl) ?_
  refine va_slen hx hb hX hbl hbA hS dL_law_26 ?_
  refine lv_topi (fun z_14 ez_14 => ?_)
  obtain rfl : z_14 = 7 := ez_14.trans (by decide)
  refine lv_bipush (v := 7) hx hb dL_law_27 (by decide) ?_
  refine lv_isub hx hb dL_law_29 ?_
  refine lv_topi (fun z_15 ez_15 => ?_)
  obtain rfl : z_15 = 0 := ez_15.trans (by decide)
  refine lv_icmp_gt (tgt := 1488) hx hb dL_law_30 (by decide) (fun c_16 => ?_) (fun c_16 => absurd c_16 (by decide))
  refine lv_iconst (v := 1) hx hb dL_law_1488 (by decide) ?_
  refine va_forget (fun q hq => hAo _ (hS.2.2 q hq)) ?_
  refine W.widen (k := 600002) (n := 7302232) (Nat.le_of_ble_eq_true rfl) (Nat.le_of_ble_eq_true rfl) ?_
  exact lw_ret hx hb hr hlocks dL_law_1489
set_option maxHeartbeats 4000000 in
set_option maxRecDepth 100000 in
theorem law_op_11 {p : Program} {l : Launch} {e : Env} {s : State} {m : MethodId} {below : List Frame} {meth : Method} {c : Code} {dC : Nat → ClassId} {dI : Nat → Nat → Nat} {b : Nat} {xs : Nat → Int32} {A : Nat → Prop} (C0 : lw_At p s m meth c b 7 xs) (hA : ∀ q, s.heap.size ≤ q → A q) (hbA : ¬ A b) (hAo : ∀ q, A q → s.heap.size ≤ q) {xx : Nat} {rr : Nat} {ta : Nat} {tb : Nat} {pa : Nat} {pb : Nat} {cn : Nat} {ci : Nat} {cp : Nat} {ct : Nat} {hs : Nat} {rd : Nat} {wy : Nat} {ea : Nat} {eb : Nat} {ta_name : Nat} {ta_first : Nat} {ta_gain : Nat} {ta_rough : Nat} {ta_custom : Nat} {ta_part : Nat} {ta_whole : Nat} {ta_roundPerson : Nat} {ta_roundClock : Nat} {ta_roundHour : Nat} {ta_gunClock : Nat} {ta_gunHour : Nat} {tau : Nat} {mm : Nat} {mm_tape : Nat} {mm_number : Nat} {mm_clockName : Nat} {mm_clockOff : Nat} {mm_clockGain : Nat} {mm_clockRough : Nat} {mm_personName : Nat} {mm_personOff : Nat} {mm_personGain : Nat} {mm_personRough : Nat} {mm_custom : Nat} {mm_customA : Nat} {mm_customB : Nat} {mm_ruleFrom : Nat} {mm_ruleTo : Nat} {mm_roundOf : Nat} {mm_roundAt : Nat} {mm_roundHour : Nat} {mm_gunAt : Nat} {mm_gunHour : Nat} {mm_knotSort : Nat} {mm_knotValue : Nat} {mm_start : Nat} {mm_off : Nat} {mm_last : Nat} {mm_passed : Nat} {mm_kept : Nat} {mm_keptMany : Nat} {mm_history : Nat} {mm_names : Nat} {mm_worked : Nat} {mm_readThing : Nat} {mm_readHour : Nat} {mm_readLow : Nat} {mm_readHigh : Nat} {mm_imageOff : Nat} {mm_imageLast : Nat} {mm_imagePassed : Nat} {mm_imageKept : Nat} {mm_imageMany : Nat} {mm_imageHistory : Nat} {k_mm_number : ClassId} {oo : Nat} {H : Heap} {locs : List Loc} {ls : Array Slot} (hK : va_K (dC, dI) vwCl [(k_mm_number, .int)] s) (hP : va_P (dC, dI) vwCl [(xx, .inr (10, [.ref rr, .ref ta, .ref tb, .ref pa, .ref pb, .ref cn, .ref ci, .int 0, .ref cp, .ref ct, .ref hs, .ref rd, .ref wy, .ref ea, .ref eb])), (ta, .inr (8, [.int 0, .int 0, .int 0, .int 0, .int 0, .ref ta_name, .ref ta_first, .ref ta_gain, .ref ta_rough, .ref ta_custom, .ref ta_part, .ref ta_whole, .ref ta_roundPerson, .ref ta_roundClock, .ref ta_roundHour, .ref ta_gunClock, .ref ta_gunHour, .ref tau])), (mm, .inr (11, [.int 0, .ref mm_tape, .int 0, .ref mm_number, .ref mm_clockName, .ref mm_clockOff, .ref mm_clockGain, .ref mm_clockRough, .ref mm_personName, .ref mm_personOff, .ref mm_personGain, .ref mm_personRough, .ref mm_custom, .ref mm_customA, .ref mm_customB, .ref mm_ruleFrom, .ref mm_ruleTo, .ref mm_roundOf, .ref mm_roundAt, .ref mm_roundHour, .ref mm_gunAt, .ref mm_gunHour, .ref mm_knotSort, .ref mm_knotValue, .int 0, .int 0, .int 0, .int 0, .int 0, .int 0, .int 0, .int 0, .int 0, .int (-1), .int 0, .int 0, .int 0, .int 0, .int 0, .int 0, .int 0, .int 0, .int 0, .int 0, .int 0, .int 0, .ref mm_start, .ref mm_off, .ref mm_last, .ref mm_passed, .ref mm_kept, .ref mm_keptMany, .int 0, .int 0, .ref mm_history, .ref mm_names, .ref mm_worked, .int 0, .int 0, .int (-1), .ref mm_readThing, .ref mm_readHour, .ref mm_readLow, .ref mm_readHigh, .int 0, .int 0, .int 0, .ref mm_imageOff, .ref mm_imageLast, .ref mm_imagePassed, .ref mm_imageKept, .ref mm_imageMany, .ref mm_imageHistory])), (mm_number, .inl (k_mm_number, 10, .inl (fun _ => 0)))] H) (hD : va_D A [(xx, .inr (10, [.ref rr, .ref ta, .ref tb, .ref pa, .ref pb, .ref cn, .ref ci, .int 0, .ref cp, .ref ct, .ref hs, .ref rd, .ref wy, .ref ea, .ref eb])), (ta, .inr (8, [.int 0, .int 0, .int 0, .int 0, .int 0, .ref ta_name, .ref ta_first, .ref ta_gain, .ref ta_rough, .ref ta_custom, .ref ta_part, .ref ta_whole, .ref ta_roundPerson, .ref ta_roundClock, .ref ta_roundHour, .ref ta_gunClock, .ref ta_gunHour, .ref tau])), (mm, .inr (11, [.int 0, .ref mm_tape, .int 0, .ref mm_number, .ref mm_clockName, .ref mm_clockOff, .ref mm_clockGain, .ref mm_clockRough, .ref mm_personName, .ref mm_personOff, .ref mm_personGain, .ref mm_personRough, .ref mm_custom, .ref mm_customA, .ref mm_customB, .ref mm_ruleFrom, .ref mm_ruleTo, .ref mm_roundOf, .ref mm_roundAt, .ref mm_roundHour, .ref mm_gunAt, .ref mm_gunHour, .ref mm_knotSort, .ref mm_knotValue, .int 0, .int 0, .int 0, .int 0, .int 0, .int 0, .int 0, .int 0, .int 0, .int (-1), .int 0, .int 0, .int 0, .int 0, .int 0, .int 0, .int 0, .int 0, .int 0, .int 0, .int 0, .int 0, .ref mm_start, .ref mm_off, .ref mm_last, .ref mm_passed, .ref mm_kept, .ref mm_keptMany, .int 0, .int 0, .ref mm_history, .ref mm_names, .ref mm_worked, .int 0, .int 0, .int (-1), .ref mm_readThing, .ref mm_readHour, .ref mm_readLow, .ref mm_readHigh, .int 0, .int 0, .int 0, .ref mm_imageOff, .ref mm_imageLast, .ref mm_imagePassed, .ref mm_imageKept, .ref mm_imageMany, .ref mm_imageHistory])), (mm_number, .inl (k_mm_number, 10, .inl (fun _ => 0)))]) (hS : va_S A s.heap H locs) (hl : lv_has ls 7 [(4, .int 0), (3, .ref oo), (2, .ref mm), (1, .ref xx), (0, .ref b)]) : W p l e room_1 s m #[Value.ref b] below meth c H locs 160 67979 (lw_Z below #[Value.ref b] s) (F0 m 610 ls []) := by
  obtain ⟨hx, hb, hr, hml, hown, hts, hX, hbl, hlocks, hgv⟩ := C0
  have hT : ∀ w ∈ pw_T, w.before #[Value.ref b] s = true := fun w h => hts w (List.mem_filter.mp h).1
  have hown : s.vm.findClass RL = some m.cls := hown
  refine lv_aload_n hx hb dL_law_610 rfl (lv_at hl 3 rfl) ?_
  refine lv_aload_n hx hb dL_law_611 rfl (lv_at hl 4 rfl) ?_
  refine lv_iload hx hb dL_law_612 (lv_at hl 0 rfl) ?_
  refine lv_iconst (v := 1) hx hb dL_law_614 (by decide) ?_
  refine lv_iadd hx hb dL_law_615 ?_
  refine lv_topi (fun z_1 ez_1 => ?_)
  obtain rfl : z_1 = 1 := ez_1.trans (by decide)
  refine va_sld hx hb hX hbl hbA hS (pk_in 1 7 (by decide) (by decide) (by decide)) dL_law_616 ?_
  refine lv_topi (fun z_2 ez_2 => ?_)
  replace ez_2 : z_2 = xs 1 := ez_2
  subst z_2
  have hPc := hP.sub (ws' := [(xx, .inr (10, [.ref rr, .ref ta, .ref tb, .ref pa, .ref pb, .ref cn, .ref ci, .int 0, .ref cp, .ref ct, .ref hs, .ref rd, .ref wy, .ref ea, .ref eb])), (ta, .inr (8, [.int 0, .int 0, .int 0, .int 0, .int 0, .ref ta_name, .ref ta_first, .ref ta_gain, .ref ta_rough, .ref ta_custom, .ref ta_part, .ref ta_whole, .ref ta_roundPerson, .ref ta_roundClock, .ref ta_roundHour, .ref ta_gunClock, .ref ta_gunHour, .ref tau]))]) [0, 1] rfl
  have hDc := hD.sub (ws' := [(xx, .inr (10, [.ref rr, .ref ta, .ref tb, .ref pa, .ref pb, .ref cn, .ref ci, .int 0, .ref cp, .ref ct, .ref hs, .ref rd, .ref wy, .ref ea, .ref eb])), (ta, .inr (8, [.int 0, .int 0, .int 0, .int 0, .int 0, .ref ta_name, .ref ta_first, .ref ta_gain, .ref ta_rough, .ref ta_custom, .ref ta_part, .ref ta_whole, .ref ta_roundPerson, .ref ta_roundClock, .ref ta_roundHour, .ref ta_gunClock, .ref ta_gunHour, .ref tau]))]) [0, 1] (by decide) rfl
  have hKc := hK.sub (tys' := []) [] rfl
  have hFc := va_free (wc := [(xx, .inr (10, [.ref rr, .ref ta, .ref tb, .ref pa, .ref pb, .ref cn, .ref ci, .int 0, .ref cp, .ref ct, .ref hs, .ref rd, .ref wy, .ref ea, .ref eb])), (ta, .inr (8, [.int 0, .int 0, .int 0, .int 0, .int 0, .ref ta_name, .ref ta_first, .ref ta_gain, .ref ta_rough, .ref ta_custom, .ref ta_part, .ref ta_whole, .ref ta_roundPerson, .ref ta_roundClock, .ref ta_roundHour, .ref ta_gunClock, .ref ta_gunHour, .ref tau]))]) hD hS hA [0, 1] rfl
  refine va_calli (va_runV (As := [.int (xs 1)]) (rest := []) ⟨hx, hb, hml, hown, hT⟩ (c_X10_spread l dC dI H.size xx (xs 1) rr ta tb pa pb cn ci (0 : Int32) cp ct hs rd wy ea eb (0 : Int32) (0 : Int32) (0 : Int32) ta_name ta_first ta_gain ta_rough ta_custom ta_part ta_whole ta_roundPerson ta_roundClock ta_roundHour ta_gunClock ta_gunHour tau ) (cwV 1 hT (gwV mw_4_166 mw_4_167 mw_4_168 mw_1_1 mw_4_169) rfl rfl rfl (by decide +kernel) ⟨Nat.le_of_ble_eq_true rfl, Nat.le_of_ble_eq_true rfl⟩) ⟨fun a U g mk q => by obtain ⟨q0, q1, qP, qK, qD⟩ := q; exact ⟨q0, q1, qP, va_K.moved (u := U) (U := U.calling g mk a) (Vm.Alike.refl U.vm) qK, qD⟩, va_recv hK hP (ci := 10) (q0 := 0) rfl rfl, fun U hU hW => ⟨rfl, by rw [hU], by rw [hU]; exact hPc, va_K.moved hW.alike hKc, hDc.weaken (fun _ _ _ _ => trivial)⟩⟩ rfl rfl hl.1 rfl (lv_room (Nat.le_of_ble_eq_true rfl)) dL_law_617 ⟨Nat.le_of_ble_eq_true rfl, Nat.le_of_ble_eq_true rfl⟩) hS (fun q _ h => hFc q h) hFc (fun r_4 u t H1 locs ht hvm hw hB hz1 hk1 hS => ?_)
  obtain ⟨hP1, hD1⟩ := hB
  rw [ht] at hP1
  obtain ⟨hP, hD⟩ := va_join (wr := [(mm, .inr (11, [.int 0, .ref mm_tape, .int 0, .ref mm_number, .ref mm_clockName, .ref mm_clockOff, .ref mm_clockGain, .ref mm_clockRough, .ref mm_personName, .ref mm_personOff, .ref mm_personGain, .ref mm_personRough, .ref mm_custom, .ref mm_customA, .ref mm_customB, .ref mm_ruleFrom, .ref mm_ruleTo, .ref mm_roundOf, .ref mm_roundAt, .ref mm_roundHour, .ref mm_gunAt, .ref mm_gunHour, .ref mm_knotSort, .ref mm_knotValue, .int 0, .int 0, .int 0, .int 0, .int 0, .int 0, .int 0, .int 0, .int 0, .int (-1), .int 0, .int 0, .int 0, .int 0, .int 0, .int 0, .int 0, .int 0, .int 0, .int 0, .int 0, .int 0, .ref mm_start, .ref mm_off, .ref mm_last, .ref mm_passed, .ref mm_kept, .ref mm_keptMany, .int 0, .int 0, .ref mm_history, .ref mm_names, .ref mm_worked, .int 0, .int 0, .int (-1), .ref mm_readThing, .ref mm_readHour, .ref mm_readLow, .ref mm_readHigh, .int 0, .int 0, .int 0, .ref mm_imageOff, .ref mm_imageLast, .ref mm_imagePassed, .ref mm_imageKept, .ref mm_imageMany, .ref mm_imageHistory])), (mm_number, .inl (k_mm_number, 10, .inl (fun _ => 0)))]) (w1 := [(xx, .inr (10, [.ref rr, .ref ta, .ref tb, .ref pa, .ref pb, .ref cn, .ref ci, .int 0, .ref cp, .ref ct, .ref hs, .ref rd, .ref wy, .ref ea, .ref eb])), (ta, .inr (8, [.int 0, .int 0, .int 0, .int 0, .int 0, .ref ta_name, .ref ta_first, .ref ta_gain, .ref ta_rough, .ref ta_custom, .ref ta_part, .ref ta_whole, .ref ta_roundPerson, .ref ta_roundClock, .ref ta_roundHour, .ref ta_gunClock, .ref ta_gunHour, .ref tau]))]) hP hD [0, 1] [2, 3] rfl rfl (by decide) (by decide) hk1 hFc hP1 hD1
  generalize H1 = H at hP hS ⊢
  have hP : va_P (dC, dI) vwCl [(mm, .inr (11, [.int 0, .ref mm_tape, .int 0, .ref mm_number, .ref mm_clockName, .ref mm_clockOff, .ref mm_clockGain, .ref mm_clockRough, .ref mm_personName, .ref mm_personOff, .ref mm_personGain, .ref mm_personRough, .ref mm_custom, .ref mm_customA, .ref mm_customB, .ref mm_ruleFrom, .ref mm_ruleTo, .ref mm_roundOf, .ref mm_roundAt, .ref mm_roundHour, .ref mm_gunAt, .ref mm_gunHour, .ref mm_knotSort, .ref mm_knotValue, .int 0, .int 0, .int 0, .int 0, .int 0, .int 0, .int 0, .int 0, .int 0, .int (-1), .int 0, .int 0, .int 0, .int 0, .int 0, .int 0, .int 0, .int 0, .int 0, .int 0, .int 0, .int 0, .ref mm_start, .ref mm_off, .ref mm_last, .ref mm_passed, .ref mm_kept, .ref mm_keptMany, .int 0, .int 0, .ref mm_history, .ref mm_names, .ref mm_worked, .int 0, .int 0, .int (-1), .ref mm_readThing, .ref mm_readHour, .ref mm_readLow, .ref mm_readHigh, .int 0, .int 0, .int 0, .ref mm_imageOff, .ref mm_imageLast, .ref mm_imagePassed, .ref mm_imageKept, .ref mm_imageMany, .ref mm_imageHistory])), (mm_number, .inl (k_mm_number, 10, .inl (fun _ => 0))), (xx, .inr (10, [.ref rr, .ref ta, .ref tb, .ref pa, .ref pb, .ref cn, .ref ci, .int 0, .ref cp, .ref ct, .ref hs, .ref rd, .ref wy, .ref ea, .ref eb])), (ta, .inr (8, [.int 0, .int 0, .int 0, .int 0, .int 0, .ref ta_name, .ref ta_first, .ref ta_gain, .ref ta_rough, .ref ta_custom, .ref ta_part, .ref ta_whole, .ref ta_roundPerson, .ref ta_roundClock, .ref ta_roundHour, .ref ta_gunClock, .ref ta_gunHour, .ref tau]))] H := hP
  have hD : va_D A [(mm, .inr (11, [.int 0, .ref mm_tape, .int 0, .ref mm_number, .ref mm_clockName, .ref mm_clockOff, .ref mm_clockGain, .ref mm_clockRough, .ref mm_personName, .ref mm_personOff, .ref mm_personGain, .ref mm_personRough, .ref mm_custom, .ref mm_customA, .ref mm_customB, .ref mm_ruleFrom, .ref mm_ruleTo, .ref mm_roundOf, .ref mm_roundAt, .ref mm_roundHour, .ref mm_gunAt, .ref mm_gunHour, .ref mm_knotSort, .ref mm_knotValue, .int 0, .int 0, .int 0, .int 0, .int 0, .int 0, .int 0, .int 0, .int 0, .int (-1), .int 0, .int 0, .int 0, .int 0, .int 0, .int 0, .int 0, .int 0, .int 0, .int 0, .int 0, .int 0, .ref mm_start, .ref mm_off, .ref mm_last, .ref mm_passed, .ref mm_kept, .ref mm_keptMany, .int 0, .int 0, .ref mm_history, .ref mm_names, .ref mm_worked, .int 0, .int 0, .int (-1), .ref mm_readThing, .ref mm_readHour, .ref mm_readLow, .ref mm_readHigh, .int 0, .int 0, .int 0, .ref mm_imageOff, .ref mm_imageLast, .ref mm_imagePassed, .ref mm_imageKept, .ref mm_imageMany, .ref mm_imageHistory])), (mm_number, .inl (k_mm_number, 10, .inl (fun _ => 0))), (xx, .inr (10, [.ref rr, .ref ta, .ref tb, .ref pa, .ref pb, .ref cn, .ref ci, .int 0, .ref cp, .ref ct, .ref hs, .ref rd, .ref wy, .ref ea, .ref eb])), (ta, .inr (8, [.int 0, .int 0, .int 0, .int 0, .int 0, .ref ta_name, .ref ta_first, .ref ta_gain, .ref ta_rough, .ref ta_custom, .ref ta_part, .ref ta_whole, .ref ta_roundPerson, .ref ta_roundClock, .ref ta_roundHour, .ref ta_gunClock, .ref ta_gunHour, .ref tau]))] := hD
  clear hPc hDc hKc hFc hP1 hD1 hk1 hz1 ht hvm
  have hw : r_4 = -1 := hw
  subst r_4
  refine lv_aload_n hx hb dL_law_620 rfl (lv_at hl 2 rfl) ?_
  refine lv_aload_n hx hb dL_law_621 rfl (lv_at hl 4 rfl) ?_
  refine lv_iload hx hb dL_law_622 (lv_at hl 0 rfl) ?_
  refine lv_iconst (v := 1) hx hb dL_law_624 (by decide) ?_
  refine lv_iadd hx hb dL_law_625 ?_
  refine lv_topi (fun z_5 ez_5 => ?_)
  obtain rfl : z_5 = 1 := ez_5.trans (by decide)
  refine va_sld hx hb hX hbl hbA hS (pk_in 1 7 (by decide) (by decide) (by decide)) dL_law_626 ?_
  refine lv_topi (fun z_6 ez_6 => ?_)
  replace ez_6 : z_6 = xs 1 := ez_6
  subst z_6
  have hPc := hP.sub (ws' := [(mm, .inr (11, [.int 0, .ref mm_tape, .int 0, .ref mm_number, .ref mm_clockName, .ref mm_clockOff, .ref mm_clockGain, .ref mm_clockRough, .ref mm_personName, .ref mm_personOff, .ref mm_personGain, .ref mm_personRough, .ref mm_custom, .ref mm_customA, .ref mm_customB, .ref mm_ruleFrom, .ref mm_ruleTo, .ref mm_roundOf, .ref mm_roundAt, .ref mm_roundHour, .ref mm_gunAt, .ref mm_gunHour, .ref mm_knotSort, .ref mm_knotValue, .int 0, .int 0, .int 0, .int 0, .int 0, .int 0, .int 0, .int 0, .int 0, .int (-1), .int 0, .int 0, .int 0, .int 0, .int 0, .int 0, .int 0, .int 0, .int 0, .int 0, .int 0, .int 0, .ref mm_start, .ref mm_off, .ref mm_last, .ref mm_passed, .ref mm_kept, .ref mm_keptMany, .int 0, .int 0, .ref mm_history, .ref mm_names, .ref mm_worked, .int 0, .int 0, .int (-1), .ref mm_readThing, .ref mm_readHour, .ref mm_readLow, .ref mm_readHigh, .int 0, .int 0, .int 0, .ref mm_imageOff, .ref mm_imageLast, .ref mm_imagePassed, .ref mm_imageKept, .ref mm_imageMany, .ref mm_imageHistory])), (mm_number, .inl (k_mm_number, 10, .inl (fun _ => 0)))]) [0, 1] rfl
  have hDc := hD.sub (ws' := [(mm, .inr (11, [.int 0, .ref mm_tape, .int 0, .ref mm_number, .ref mm_clockName, .ref mm_clockOff, .ref mm_clockGain, .ref mm_clockRough, .ref mm_personName, .ref mm_personOff, .ref mm_personGain, .ref mm_personRough, .ref mm_custom, .ref mm_customA, .ref mm_customB, .ref mm_ruleFrom, .ref mm_ruleTo, .ref mm_roundOf, .ref mm_roundAt, .ref mm_roundHour, .ref mm_gunAt, .ref mm_gunHour, .ref mm_knotSort, .ref mm_knotValue, .int 0, .int 0, .int 0, .int 0, .int 0, .int 0, .int 0, .int 0, .int 0, .int (-1), .int 0, .int 0, .int 0, .int 0, .int 0, .int 0, .int 0, .int 0, .int 0, .int 0, .int 0, .int 0, .ref mm_start, .ref mm_off, .ref mm_last, .ref mm_passed, .ref mm_kept, .ref mm_keptMany, .int 0, .int 0, .ref mm_history, .ref mm_names, .ref mm_worked, .int 0, .int 0, .int (-1), .ref mm_readThing, .ref mm_readHour, .ref mm_readLow, .ref mm_readHigh, .int 0, .int 0, .int 0, .ref mm_imageOff, .ref mm_imageLast, .ref mm_imagePassed, .ref mm_imageKept, .ref mm_imageMany, .ref mm_imageHistory])), (mm_number, .inl (k_mm_number, 10, .inl (fun _ => 0)))]) [0, 1] (by decide) rfl
  have hKc := hK.sub (tys' := [(k_mm_number, .int)]) [0] rfl
  have hFc := va_free (wc := [(mm, .inr (11, [.int 0, .ref mm_tape, .int 0, .ref mm_number, .ref mm_clockName, .ref mm_clockOff, .ref mm_clockGain, .ref mm_clockRough, .ref mm_personName, .ref mm_personOff, .ref mm_personGain, .ref mm_personRough, .ref mm_custom, .ref mm_customA, .ref mm_customB, .ref mm_ruleFrom, .ref mm_ruleTo, .ref mm_roundOf, .ref mm_roundAt, .ref mm_roundHour, .ref mm_gunAt, .ref mm_gunHour, .ref mm_knotSort, .ref mm_knotValue, .int 0, .int 0, .int 0, .int 0, .int 0, .int 0, .int 0, .int 0, .int 0, .int (-1), .int 0, .int 0, .int 0, .int 0, .int 0, .int 0, .int 0, .int 0, .int 0, .int 0, .int 0, .int 0, .ref mm_start, .ref mm_off, .ref mm_last, .ref mm_passed, .ref mm_kept, .ref mm_keptMany, .int 0, .int 0, .ref mm_history, .ref mm_names, .ref mm_worked, .int 0, .int 0, .int (-1), .ref mm_readThing, .ref mm_readHour, .ref mm_readLow, .ref mm_readHigh, .int 0, .int 0, .int 0, .ref mm_imageOff, .ref mm_imageLast, .ref mm_imagePassed, .ref mm_imageKept, .ref mm_imageMany, .ref mm_imageHistory])), (mm_number, .inl (k_mm_number, 10, .inl (fun _ => 0)))]) hD hS hA [0, 1] rfl
  have := (by decide : (0 : Int32).toInt = 0)
  have := (by decide : (0 : Int32).toInt = 0)
  have := (by decide : (0 : Int32).toInt = 0)
  have := (by decide : (0 : Int32).toInt = 0)
  have := (by decide : (0 : Int32).toInt = 0)
  have := (by decide : (0 : Int32).toInt = 0)
  have := (by decide : (0 : Int32).toInt = 0)
  have := (by decide : (0 : Int32).toInt = 0)
  have := (by decide : (0 : Int32).toInt = 0)
  have := (by decide : (0 : Int32).toInt = 0)
  have := (by decide : (0 : Int32).toInt = 0)
  have := (by decide : ((-1) : Int32).toInt = -1)
  have := (by decide : (0 : Int32).toInt = 0)
  have := (by decide : (0 : Int32).toInt = 0)
  have := (by decide : (0 : Int32).toInt = 0)
  have := (by decide : (0 : Int32).toInt = 0)
  have := (by decide : (0 : Int32).toInt = 0)
  have := (by decide : (0 : Int32).toInt = 0)
  have := (by decide : (0 : Int32).toInt = 0)
  have := (by decide : (0 : Int32).toInt = 0)
  have := (by decide : (0 : Int32).toInt = 0)
  have := (by decide : (0 : Int32).toInt = 0)
  have := (by decide : (0 : Int32).toInt = 0)
  have := (by decide : (0 : Int32).toInt = 0)
  have := (by decide : (0 : Int32).toInt = 0)
  have := (by decide : (0 : Int32).toInt = 0)
  have := (by decide : (0 : Int32).toInt = 0)
  have := (by decide : (0 : Int32).toInt = 0)
  have := (by decide : ((-1) : Int32).toInt = -1)
  have := (by decide : (0 : Int32).toInt = 0)
  have := (by decide : (0 : Int32).toInt = 0)
  have := (by decide : (0 : Int32).toInt = 0)
  refine va_calli (va_runV (As := [.int (xs 1)]) (rest := [.int (-1)]) ⟨hx, hb, hml, hown, hT⟩ (c_X11_spread l dC dI H.size mm (xs 1) (0 : Int32) mm_tape (0 : Int32) mm_number mm_clockName mm_clockOff mm_clockGain mm_clockRough mm_personName mm_personOff mm_personGain mm_personRough mm_custom mm_customA mm_customB mm_ruleFrom mm_ruleTo mm_roundOf mm_roundAt mm_roundHour mm_gunAt mm_gunHour mm_knotSort mm_knotValue (0 : Int32) (0 : Int32) (0 : Int32) (0 : Int32) (0 : Int32) (0 : Int32) (0 : Int32) (0 : Int32) (0 : Int32) ((-1) : Int32) (0 : Int32) (0 : Int32) (0 : Int32) (0 : Int32) (0 : Int32) (0 : Int32) (0 : Int32) (0 : Int32) (0 : Int32) (0 : Int32) (0 : Int32) (0 : Int32) mm_start mm_off mm_last mm_passed mm_kept mm_keptMany (0 : Int32) (0 : Int32) mm_history mm_names mm_worked (0 : Int32) (0 : Int32) ((-1) : Int32) mm_readThing mm_readHour mm_readLow mm_readHigh (0 : Int32) (0 : Int32) (0 : Int32) mm_imageOff mm_imageLast mm_imagePassed mm_imageKept mm_imageMany mm_imageHistory k_mm_number (fun _ => 0) (fun _ => rfl)) (cwV 1 hT (gwV mw_8_42 mw_8_43 mw_8_44 mw_1_16 mw_8_45) rfl rfl rfl (by decide +kernel) ⟨Nat.le_of_ble_eq_true rfl, Nat.le_of_ble_eq_true rfl⟩) ⟨fun a U g mk q => by obtain ⟨q0, q1, qP, qK, qD⟩ := q; exact ⟨q0, q1, qP, va_K.moved (u := U) (U := U.calling g mk a) (Vm.Alike.refl U.vm) qK, qD⟩, va_recv hK hP (ci := 11) (q0 := 0) rfl rfl, fun U hU hW => ⟨rfl, by rw [hU], by rw [hU]; exact hPc, va_K.moved hW.alike hKc, hDc.weaken (fun _ _ _ _ => trivial)⟩⟩ rfl rfl hl.1 rfl (lv_room (Nat.le_of_ble_eq_true rfl)) dL_law_627 ⟨Nat.le_of_ble_eq_true rfl, Nat.le_of_ble_eq_true rfl⟩) hS (fun q _ h => hFc q h) hFc (fun r_8 u t H1 locs ht hvm hw hB hz1 hk1 hS => ?_)
  obtain ⟨hP1, hD1⟩ := hB
  rw [ht] at hP1
  obtain ⟨hP, hD⟩ := va_join (wr := [(xx, .inr (10, [.ref rr, .ref ta, .ref tb, .ref pa, .ref pb, .ref cn, .ref ci, .int 0, .ref cp, .ref ct, .ref hs, .ref rd, .ref wy, .ref ea, .ref eb])), (ta, .inr (8, [.int 0, .int 0, .int 0, .int 0, .int 0, .ref ta_name, .ref ta_first, .ref ta_gain, .ref ta_rough, .ref ta_custom, .ref ta_part, .ref ta_whole, .ref ta_roundPerson, .ref ta_roundClock, .ref ta_roundHour, .ref ta_gunClock, .ref ta_gunHour, .ref tau]))]) (w1 := [(mm, .inr (11, [.int 0, .ref mm_tape, .int 0, .ref mm_number, .ref mm_clockName, .ref mm_clockOff, .ref mm_clockGain, .ref mm_clockRough, .ref mm_personName, .ref mm_personOff, .ref mm_personGain, .ref mm_personRough, .ref mm_custom, .ref mm_customA, .ref mm_customB, .ref mm_ruleFrom, .ref mm_ruleTo, .ref mm_roundOf, .ref mm_roundAt, .ref mm_roundHour, .ref mm_gunAt, .ref mm_gunHour, .ref mm_knotSort, .ref mm_knotValue, .int 0, .int 0, .int 0, .int 0, .int 0, .int 0, .int 0, .int 0, .int 0, .int (-1), .int 0, .int 0, .int 0, .int 0, .int 0, .int 0, .int 0, .int 0, .int 0, .int 0, .int 0, .int 0, .ref mm_start, .ref mm_off, .ref mm_last, .ref mm_passed, .ref mm_kept, .ref mm_keptMany, .int 0, .int 0, .ref mm_history, .ref mm_names, .ref mm_worked, .int 0, .int 0, .int (-1), .ref mm_readThing, .ref mm_readHour, .ref mm_readLow, .ref mm_readHigh, .int 0, .int 0, .int 0, .ref mm_imageOff, .ref mm_imageLast, .ref mm_imagePassed, .ref mm_imageKept, .ref mm_imageMany, .ref mm_imageHistory])), (mm_number, .inl (k_mm_number, 10, .inl (fun _ => 0)))]) hP hD [0, 1] [2, 3] rfl rfl (by decide) (by decide) hk1 hFc hP1 hD1
  generalize H1 = H at hP hS ⊢
  have hP : va_P (dC, dI) vwCl [(xx, .inr (10, [.ref rr, .ref ta, .ref tb, .ref pa, .ref pb, .ref cn, .ref ci, .int 0, .ref cp, .ref ct, .ref hs, .ref rd, .ref wy, .ref ea, .ref eb])), (ta, .inr (8, [.int 0, .int 0, .int 0, .int 0, .int 0, .ref ta_name, .ref ta_first, .ref ta_gain, .ref ta_rough, .ref ta_custom, .ref ta_part, .ref ta_whole, .ref ta_roundPerson, .ref ta_roundClock, .ref ta_roundHour, .ref ta_gunClock, .ref ta_gunHour, .ref tau])), (mm, .inr (11, [.int 0, .ref mm_tape, .int 0, .ref mm_number, .ref mm_clockName, .ref mm_clockOff, .ref mm_clockGain, .ref mm_clockRough, .ref mm_personName, .ref mm_personOff, .ref mm_personGain, .ref mm_personRough, .ref mm_custom, .ref mm_customA, .ref mm_customB, .ref mm_ruleFrom, .ref mm_ruleTo, .ref mm_roundOf, .ref mm_roundAt, .ref mm_roundHour, .ref mm_gunAt, .ref mm_gunHour, .ref mm_knotSort, .ref mm_knotValue, .int 0, .int 0, .int 0, .int 0, .int 0, .int 0, .int 0, .int 0, .int 0, .int (-1), .int 0, .int 0, .int 0, .int 0, .int 0, .int 0, .int 0, .int 0, .int 0, .int 0, .int 0, .int 0, .ref mm_start, .ref mm_off, .ref mm_last, .ref mm_passed, .ref mm_kept, .ref mm_keptMany, .int 0, .int 0, .ref mm_history, .ref mm_names, .ref mm_worked, .int 0, .int 0, .int (-1), .ref mm_readThing, .ref mm_readHour, .ref mm_readLow, .ref mm_readHigh, .int 0, .int 0, .int 0, .ref mm_imageOff, .ref mm_imageLast, .ref mm_imagePassed, .ref mm_imageKept, .ref mm_imageMany, .ref mm_imageHistory])), (mm_number, .inl (k_mm_number, 10, .inl (fun _ => 0)))] H := hP
  have hD : va_D A [(xx, .inr (10, [.ref rr, .ref ta, .ref tb, .ref pa, .ref pb, .ref cn, .ref ci, .int 0, .ref cp, .ref ct, .ref hs, .ref rd, .ref wy, .ref ea, .ref eb])), (ta, .inr (8, [.int 0, .int 0, .int 0, .int 0, .int 0, .ref ta_name, .ref ta_first, .ref ta_gain, .ref ta_rough, .ref ta_custom, .ref ta_part, .ref ta_whole, .ref ta_roundPerson, .ref ta_roundClock, .ref ta_roundHour, .ref ta_gunClock, .ref ta_gunHour, .ref tau])), (mm, .inr (11, [.int 0, .ref mm_tape, .int 0, .ref mm_number, .ref mm_clockName, .ref mm_clockOff, .ref mm_clockGain, .ref mm_clockRough, .ref mm_personName, .ref mm_personOff, .ref mm_personGain, .ref mm_personRough, .ref mm_custom, .ref mm_customA, .ref mm_customB, .ref mm_ruleFrom, .ref mm_ruleTo, .ref mm_roundOf, .ref mm_roundAt, .ref mm_roundHour, .ref mm_gunAt, .ref mm_gunHour, .ref mm_knotSort, .ref mm_knotValue, .int 0, .int 0, .int 0, .int 0, .int 0, .int 0, .int 0, .int 0, .int 0, .int (-1), .int 0, .int 0, .int 0, .int 0, .int 0, .int 0, .int 0, .int 0, .int 0, .int 0, .int 0, .int 0, .ref mm_start, .ref mm_off, .ref mm_last, .ref mm_passed, .ref mm_kept, .ref mm_keptMany, .int 0, .int 0, .ref mm_history, .ref mm_names, .ref mm_worked, .int 0, .int 0, .int (-1), .ref mm_readThing, .ref mm_readHour, .ref mm_readLow, .ref mm_readHigh, .int 0, .int 0, .int 0, .ref mm_imageOff, .ref mm_imageLast, .ref mm_imagePassed, .ref mm_imageKept, .ref mm_imageMany, .ref mm_imageHistory])), (mm_number, .inl (k_mm_number, 10, .inl (fun _ => 0)))] := hD
  clear hPc hDc hKc hFc hP1 hD1 hk1 hz1 ht hvm
  have hw : r_8 = -1 := hw
  subst r_8
  refine lv_icmp_eq (tgt := 1482) hx hb dL_law_630 (by decide) (fun c_9 => ?_) (fun c_9 => absurd c_9 (by decide))
  refine lv_iinc (v := 7) (lv' := [(4, .int 7), (3, .ref oo), (2, .ref mm), (1, .ref xx), (0, .ref b)]) hx hb dL_law_1482 hl (k := 0) rfl (by decide) (by decide) rfl (fun ls hl => ?_)
  refine lv_goto (tgt := 23) hx hb dL_law_1485 (by decide) ?_
  refine lv_iload hx hb dL_law_23 (lv_at hl 0 rfl) ?_
  refine lv_aload_n hx hb dL_law_25 rfl (lv_at hl 4 rfl) ?_
  refine va_slen hx hb hX hbl hbA hS dL_law_26 ?_
  refine lv_topi (fun z_10 ez_10 => ?_)
  obtain rfl : z_10 = 7 := ez_10.trans (by decide)
  refine lv_bipush (v := 7) hx hb dL_law_27 (by decide) ?_
  refine lv_isub hx hb dL_law_29 ?_
  refine lv_topi (fun z_11 ez_11 => ?_)
  obtain rfl : z_11 = 0 := ez_11.trans (by decide)
  refine lv_icmp_gt (tgt := 1488) hx hb dL_law_30 (by decide) (fun c_12 => ?_) (fun c_12 => absurd c_12 (by decide))
  refine lv_iconst (v := 1) hx hb dL_law_1488 (by decide) ?_
  refine va_forget (fun q hq => hAo _ (hS.2.2 q hq)) ?_
  refine W.widen (k := 600002) (n := 7302232) (Nat.le_of_ble_eq_true rfl) (Nat.le_of_ble_eq_true rfl) ?_
  exact lw_ret hx hb hr hlocks dL_law_1489
set_option maxHeartbeats 4000000 in
set_option maxRecDepth 100000 in
theorem law_op_12 {p : Program} {l : Launch} {e : Env} {s : State} {m : MethodId} {below : List Frame} {meth : Method} {c : Code} {dC : Nat → ClassId} {dI : Nat → Nat → Nat} {b : Nat} {xs : Nat → Int32} {A : Nat → Prop} (C0 : lw_At p s m meth c b 7 xs) (hA : ∀ q, s.heap.size ≤ q → A q) (hbA : ¬ A b) (hAo : ∀ q, A q → s.heap.size ≤ q) {xx : Nat} {rr : Nat} {ta : Nat} {tb : Nat} {pa : Nat} {pb : Nat} {cn : Nat} {ci : Nat} {cp : Nat} {ct : Nat} {hs : Nat} {rd : Nat} {wy : Nat} {ea : Nat} {eb : Nat} {ta_name : Nat} {ta_first : Nat} {ta_gain : Nat} {ta_rough : Nat} {ta_custom : Nat} {ta_part : Nat} {ta_whole : Nat} {ta_roundPerson : Nat} {ta_roundClock : Nat} {ta_roundHour : Nat} {ta_gunClock : Nat} {ta_gunHour : Nat} {tau : Nat} {mm : Nat} {mm_tape : Nat} {mm_number : Nat} {mm_clockName : Nat} {mm_clockOff : Nat} {mm_clockGain : Nat} {mm_clockRough : Nat} {mm_personName : Nat} {mm_personOff : Nat} {mm_personGain : Nat} {mm_personRough : Nat} {mm_custom : Nat} {mm_customA : Nat} {mm_customB : Nat} {mm_ruleFrom : Nat} {mm_ruleTo : Nat} {mm_roundOf : Nat} {mm_roundAt : Nat} {mm_roundHour : Nat} {mm_gunAt : Nat} {mm_gunHour : Nat} {mm_knotSort : Nat} {mm_knotValue : Nat} {mm_start : Nat} {mm_off : Nat} {mm_last : Nat} {mm_passed : Nat} {mm_kept : Nat} {mm_keptMany : Nat} {mm_history : Nat} {mm_names : Nat} {mm_worked : Nat} {mm_readThing : Nat} {mm_readHour : Nat} {mm_readLow : Nat} {mm_readHigh : Nat} {mm_imageOff : Nat} {mm_imageLast : Nat} {mm_imagePassed : Nat} {mm_imageKept : Nat} {mm_imageMany : Nat} {mm_imageHistory : Nat} {k_mm_number : ClassId} {oo : Nat} {H : Heap} {locs : List Loc} {ls : Array Slot} (hK : va_K (dC, dI) vwCl [(k_mm_number, .int)] s) (hP : va_P (dC, dI) vwCl [(xx, .inr (10, [.ref rr, .ref ta, .ref tb, .ref pa, .ref pb, .ref cn, .ref ci, .int 0, .ref cp, .ref ct, .ref hs, .ref rd, .ref wy, .ref ea, .ref eb])), (ta, .inr (8, [.int 0, .int 0, .int 0, .int 0, .int 0, .ref ta_name, .ref ta_first, .ref ta_gain, .ref ta_rough, .ref ta_custom, .ref ta_part, .ref ta_whole, .ref ta_roundPerson, .ref ta_roundClock, .ref ta_roundHour, .ref ta_gunClock, .ref ta_gunHour, .ref tau])), (mm, .inr (11, [.int 0, .ref mm_tape, .int 0, .ref mm_number, .ref mm_clockName, .ref mm_clockOff, .ref mm_clockGain, .ref mm_clockRough, .ref mm_personName, .ref mm_personOff, .ref mm_personGain, .ref mm_personRough, .ref mm_custom, .ref mm_customA, .ref mm_customB, .ref mm_ruleFrom, .ref mm_ruleTo, .ref mm_roundOf, .ref mm_roundAt, .ref mm_roundHour, .ref mm_gunAt, .ref mm_gunHour, .ref mm_knotSort, .ref mm_knotValue, .int 0, .int 0, .int 0, .int 0, .int 0, .int 0, .int 0, .int 0, .int 0, .int (-1), .int 0, .int 0, .int 0, .int 0, .int 0, .int 0, .int 0, .int 0, .int 0, .int 0, .int 0, .int 0, .ref mm_start, .ref mm_off, .ref mm_last, .ref mm_passed, .ref mm_kept, .ref mm_keptMany, .int 0, .int 0, .ref mm_history, .ref mm_names, .ref mm_worked, .int 0, .int 0, .int (-1), .ref mm_readThing, .ref mm_readHour, .ref mm_readLow, .ref mm_readHigh, .int 0, .int 0, .int 0, .ref mm_imageOff, .ref mm_imageLast, .ref mm_imagePassed, .ref mm_imageKept, .ref mm_imageMany, .ref mm_imageHistory])), (mm_number, .inl (k_mm_number, 10, .inl (fun _ => 0)))] H) (hD : va_D A [(xx, .inr (10, [.ref rr, .ref ta, .ref tb, .ref pa, .ref pb, .ref cn, .ref ci, .int 0, .ref cp, .ref ct, .ref hs, .ref rd, .ref wy, .ref ea, .ref eb])), (ta, .inr (8, [.int 0, .int 0, .int 0, .int 0, .int 0, .ref ta_name, .ref ta_first, .ref ta_gain, .ref ta_rough, .ref ta_custom, .ref ta_part, .ref ta_whole, .ref ta_roundPerson, .ref ta_roundClock, .ref ta_roundHour, .ref ta_gunClock, .ref ta_gunHour, .ref tau])), (mm, .inr (11, [.int 0, .ref mm_tape, .int 0, .ref mm_number, .ref mm_clockName, .ref mm_clockOff, .ref mm_clockGain, .ref mm_clockRough, .ref mm_personName, .ref mm_personOff, .ref mm_personGain, .ref mm_personRough, .ref mm_custom, .ref mm_customA, .ref mm_customB, .ref mm_ruleFrom, .ref mm_ruleTo, .ref mm_roundOf, .ref mm_roundAt, .ref mm_roundHour, .ref mm_gunAt, .ref mm_gunHour, .ref mm_knotSort, .ref mm_knotValue, .int 0, .int 0, .int 0, .int 0, .int 0, .int 0, .int 0, .int 0, .int 0, .int (-1), .int 0, .int 0, .int 0, .int 0, .int 0, .int 0, .int 0, .int 0, .int 0, .int 0, .int 0, .int 0, .ref mm_start, .ref mm_off, .ref mm_last, .ref mm_passed, .ref mm_kept, .ref mm_keptMany, .int 0, .int 0, .ref mm_history, .ref mm_names, .ref mm_worked, .int 0, .int 0, .int (-1), .ref mm_readThing, .ref mm_readHour, .ref mm_readLow, .ref mm_readHigh, .int 0, .int 0, .int 0, .ref mm_imageOff, .ref mm_imageLast, .ref mm_imagePassed, .ref mm_imageKept, .ref mm_imageMany, .ref mm_imageHistory])), (mm_number, .inl (k_mm_number, 10, .inl (fun _ => 0)))]) (hS : va_S A s.heap H locs) (hl : lv_has ls 7 [(4, .int 0), (3, .ref oo), (2, .ref mm), (1, .ref xx), (0, .ref b)]) : W p l e room_1 s m #[Value.ref b] below meth c H locs 160 67979 (lw_Z below #[Value.ref b] s) (F0 m 635 ls []) := by
  obtain ⟨hx, hb, hr, hml, hown, hts, hX, hbl, hlocks, hgv⟩ := C0
  have hT : ∀ w ∈ pw_T, w.before #[Value.ref b] s = true := fun w h => hts w (List.mem_filter.mp h).1
  have hown : s.vm.findClass RL = some m.cls := hown
  refine lv_aload_n hx hb dL_law_635 rfl (lv_at hl 3 rfl) ?_
  refine lv_aload_n hx hb dL_law_636 rfl (lv_at hl 4 rfl) ?_
  refine lv_iload hx hb dL_law_637 (lv_at hl 0 rfl) ?_
  refine lv_iconst (v := 1) hx hb dL_law_639 (by decide) ?_
  refine lv_iadd hx hb dL_law_640 ?_
  refine lv_topi (fun z_1 ez_1 => ?_)
  obtain rfl : z_1 = 1 := ez_1.trans (by decide)
  refine va_sld hx hb hX hbl hbA hS (pk_in 1 7 (by decide) (by decide) (by decide)) dL_law_641 ?_
  refine lv_topi (fun z_2 ez_2 => ?_)
  replace ez_2 : z_2 = xs 1 := ez_2
  subst z_2
  refine lv_aload_n hx hb dL_law_642 rfl (lv_at hl 4 rfl) ?_
  refine lv_iload hx hb dL_law_643 (lv_at hl 0 rfl) ?_
  refine lv_iconst (v := 2) hx hb dL_law_645 (by decide) ?_
  refine lv_iadd hx hb dL_law_646 ?_
  refine lv_topi (fun z_3 ez_3 => ?_)
  obtain rfl : z_3 = 2 := ez_3.trans (by decide)
  refine va_sld hx hb hX hbl hbA hS (pk_in 2 7 (by decide) (by decide) (by decide)) dL_law_647 ?_
  refine lv_topi (fun z_4 ez_4 => ?_)
  replace ez_4 : z_4 = xs 2 := ez_4
  subst z_4
  have hPc := hP.sub (ws' := [(xx, .inr (10, [.ref rr, .ref ta, .ref tb, .ref pa, .ref pb, .ref cn, .ref ci, .int 0, .ref cp, .ref ct, .ref hs, .ref rd, .ref wy, .ref ea, .ref eb])), (ta, .inr (8, [.int 0, .int 0, .int 0, .int 0, .int 0, .ref ta_name, .ref ta_first, .ref ta_gain, .ref ta_rough, .ref ta_custom, .ref ta_part, .ref ta_whole, .ref ta_roundPerson, .ref ta_roundClock, .ref ta_roundHour, .ref ta_gunClock, .ref ta_gunHour, .ref tau]))]) [0, 1] rfl
  have hDc := hD.sub (ws' := [(xx, .inr (10, [.ref rr, .ref ta, .ref tb, .ref pa, .ref pb, .ref cn, .ref ci, .int 0, .ref cp, .ref ct, .ref hs, .ref rd, .ref wy, .ref ea, .ref eb])), (ta, .inr (8, [.int 0, .int 0, .int 0, .int 0, .int 0, .ref ta_name, .ref ta_first, .ref ta_gain, .ref ta_rough, .ref ta_custom, .ref ta_part, .ref ta_whole, .ref ta_roundPerson, .ref ta_roundClock, .ref ta_roundHour, .ref ta_gunClock, .ref ta_gunHour, .ref tau]))]) [0, 1] (by decide) rfl
  have hKc := hK.sub (tys' := []) [] rfl
  have hFc := va_free (wc := [(xx, .inr (10, [.ref rr, .ref ta, .ref tb, .ref pa, .ref pb, .ref cn, .ref ci, .int 0, .ref cp, .ref ct, .ref hs, .ref rd, .ref wy, .ref ea, .ref eb])), (ta, .inr (8, [.int 0, .int 0, .int 0, .int 0, .int 0, .ref ta_name, .ref ta_first, .ref ta_gain, .ref ta_rough, .ref ta_custom, .ref ta_part, .ref ta_whole, .ref ta_roundPerson, .ref ta_roundClock, .ref ta_roundHour, .ref ta_gunClock, .ref ta_gunHour, .ref tau]))]) hD hS hA [0, 1] rfl
  refine va_calli (va_runV (As := [.int (xs 1), .int (xs 2)]) (rest := []) ⟨hx, hb, hml, hown, hT⟩ (c_X10_pass l dC dI H.size xx (xs 1) (xs 2) rr ta tb pa pb cn ci (0 : Int32) cp ct hs rd wy ea eb (0 : Int32) (0 : Int32) (0 : Int32) ta_name ta_first ta_gain ta_rough ta_custom ta_part ta_whole ta_roundPerson ta_roundClock ta_roundHour ta_gunClock ta_gunHour tau ) (cwV 2 hT (gwV mw_4_171 mw_4_172 mw_4_173 mw_1_1 mw_4_174) rfl rfl rfl (by decide +kernel) ⟨Nat.le_of_ble_eq_true rfl, Nat.le_of_ble_eq_true rfl⟩) ⟨fun a U g mk q => by obtain ⟨q0, q1, qP, qK, qD⟩ := q; exact ⟨q0, q1, qP, va_K.moved (u := U) (U := U.calling g mk a) (Vm.Alike.refl U.vm) qK, qD⟩, va_recv hK hP (ci := 10) (q0 := 0) rfl rfl, fun U hU hW => ⟨rfl, by rw [hU], by rw [hU]; exact hPc, va_K.moved hW.alike hKc, hDc.weaken (fun _ _ _ _ => trivial)⟩⟩ rfl rfl hl.1 rfl (lv_room (Nat.le_of_ble_eq_true rfl)) dL_law_648 ⟨Nat.le_of_ble_eq_true rfl, Nat.le_of_ble_eq_true rfl⟩) hS (fun q _ h => hFc q h) hFc (fun r_6 u t H1 locs ht hvm hw hB hz1 hk1 hS => ?_)
  obtain ⟨hP1, hD1⟩ := hB
  rw [ht] at hP1
  obtain ⟨hP, hD⟩ := va_join (wr := [(mm, .inr (11, [.int 0, .ref mm_tape, .int 0, .ref mm_number, .ref mm_clockName, .ref mm_clockOff, .ref mm_clockGain, .ref mm_clockRough, .ref mm_personName, .ref mm_personOff, .ref mm_personGain, .ref mm_personRough, .ref mm_custom, .ref mm_customA, .ref mm_customB, .ref mm_ruleFrom, .ref mm_ruleTo, .ref mm_roundOf, .ref mm_roundAt, .ref mm_roundHour, .ref mm_gunAt, .ref mm_gunHour, .ref mm_knotSort, .ref mm_knotValue, .int 0, .int 0, .int 0, .int 0, .int 0, .int 0, .int 0, .int 0, .int 0, .int (-1), .int 0, .int 0, .int 0, .int 0, .int 0, .int 0, .int 0, .int 0, .int 0, .int 0, .int 0, .int 0, .ref mm_start, .ref mm_off, .ref mm_last, .ref mm_passed, .ref mm_kept, .ref mm_keptMany, .int 0, .int 0, .ref mm_history, .ref mm_names, .ref mm_worked, .int 0, .int 0, .int (-1), .ref mm_readThing, .ref mm_readHour, .ref mm_readLow, .ref mm_readHigh, .int 0, .int 0, .int 0, .ref mm_imageOff, .ref mm_imageLast, .ref mm_imagePassed, .ref mm_imageKept, .ref mm_imageMany, .ref mm_imageHistory])), (mm_number, .inl (k_mm_number, 10, .inl (fun _ => 0)))]) (w1 := [(xx, .inr (10, [.ref rr, .ref ta, .ref tb, .ref pa, .ref pb, .ref cn, .ref ci, .int 0, .ref cp, .ref ct, .ref hs, .ref rd, .ref wy, .ref ea, .ref eb])), (ta, .inr (8, [.int 0, .int 0, .int 0, .int 0, .int 0, .ref ta_name, .ref ta_first, .ref ta_gain, .ref ta_rough, .ref ta_custom, .ref ta_part, .ref ta_whole, .ref ta_roundPerson, .ref ta_roundClock, .ref ta_roundHour, .ref ta_gunClock, .ref ta_gunHour, .ref tau]))]) hP hD [0, 1] [2, 3] rfl rfl (by decide) (by decide) hk1 hFc hP1 hD1
  generalize H1 = H at hP hS ⊢
  have hP : va_P (dC, dI) vwCl [(mm, .inr (11, [.int 0, .ref mm_tape, .int 0, .ref mm_number, .ref mm_clockName, .ref mm_clockOff, .ref mm_clockGain, .ref mm_clockRough, .ref mm_personName, .ref mm_personOff, .ref mm_personGain, .ref mm_personRough, .ref mm_custom, .ref mm_customA, .ref mm_customB, .ref mm_ruleFrom, .ref mm_ruleTo, .ref mm_roundOf, .ref mm_roundAt, .ref mm_roundHour, .ref mm_gunAt, .ref mm_gunHour, .ref mm_knotSort, .ref mm_knotValue, .int 0, .int 0, .int 0, .int 0, .int 0, .int 0, .int 0, .int 0, .int 0, .int (-1), .int 0, .int 0, .int 0, .int 0, .int 0, .int 0, .int 0, .int 0, .int 0, .int 0, .int 0, .int 0, .ref mm_start, .ref mm_off, .ref mm_last, .ref mm_passed, .ref mm_kept, .ref mm_keptMany, .int 0, .int 0, .ref mm_history, .ref mm_names, .ref mm_worked, .int 0, .int 0, .int (-1), .ref mm_readThing, .ref mm_readHour, .ref mm_readLow, .ref mm_readHigh, .int 0, .int 0, .int 0, .ref mm_imageOff, .ref mm_imageLast, .ref mm_imagePassed, .ref mm_imageKept, .ref mm_imageMany, .ref mm_imageHistory])), (mm_number, .inl (k_mm_number, 10, .inl (fun _ => 0))), (xx, .inr (10, [.ref rr, .ref ta, .ref tb, .ref pa, .ref pb, .ref cn, .ref ci, .int 0, .ref cp, .ref ct, .ref hs, .ref rd, .ref wy, .ref ea, .ref eb])), (ta, .inr (8, [.int 0, .int 0, .int 0, .int 0, .int 0, .ref ta_name, .ref ta_first, .ref ta_gain, .ref ta_rough, .ref ta_custom, .ref ta_part, .ref ta_whole, .ref ta_roundPerson, .ref ta_roundClock, .ref ta_roundHour, .ref ta_gunClock, .ref ta_gunHour, .ref tau]))] H := hP
  have hD : va_D A [(mm, .inr (11, [.int 0, .ref mm_tape, .int 0, .ref mm_number, .ref mm_clockName, .ref mm_clockOff, .ref mm_clockGain, .ref mm_clockRough, .ref mm_personName, .ref mm_personOff, .ref mm_personGain, .ref mm_personRough, .ref mm_custom, .ref mm_customA, .ref mm_customB, .ref mm_ruleFrom, .ref mm_ruleTo, .ref mm_roundOf, .ref mm_roundAt, .ref mm_roundHour, .ref mm_gunAt, .ref mm_gunHour, .ref mm_knotSort, .ref mm_knotValue, .int 0, .int 0, .int 0, .int 0, .int 0, .int 0, .int 0, .int 0, .int 0, .int (-1), .int 0, .int 0, .int 0, .int 0, .int 0, .int 0, .int 0, .int 0, .int 0, .int 0, .int 0, .int 0, .ref mm_start, .ref mm_off, .ref mm_last, .ref mm_passed, .ref mm_kept, .ref mm_keptMany, .int 0, .int 0, .ref mm_history, .ref mm_names, .ref mm_worked, .int 0, .int 0, .int (-1), .ref mm_readThing, .ref mm_readHour, .ref mm_readLow, .ref mm_readHigh, .int 0, .int 0, .int 0, .ref mm_imageOff, .ref mm_imageLast, .ref mm_imagePassed, .ref mm_imageKept, .ref mm_imageMany, .ref mm_imageHistory])), (mm_number, .inl (k_mm_number, 10, .inl (fun _ => 0))), (xx, .inr (10, [.ref rr, .ref ta, .ref tb, .ref pa, .ref pb, .ref cn, .ref ci, .int 0, .ref cp, .ref ct, .ref hs, .ref rd, .ref wy, .ref ea, .ref eb])), (ta, .inr (8, [.int 0, .int 0, .int 0, .int 0, .int 0, .ref ta_name, .ref ta_first, .ref ta_gain, .ref ta_rough, .ref ta_custom, .ref ta_part, .ref ta_whole, .ref ta_roundPerson, .ref ta_roundClock, .ref ta_roundHour, .ref ta_gunClock, .ref ta_gunHour, .ref tau]))] := hD
  clear hPc hDc hKc hFc hP1 hD1 hk1 hz1 ht hvm
  have hw : r_6 = -2147483648 := hw
  subst r_6
  refine lv_aload_n hx hb dL_law_651 rfl (lv_at hl 2 rfl) ?_
  refine lv_aload_n hx hb dL_law_652 rfl (lv_at hl 4 rfl) ?_
  refine lv_iload hx hb dL_law_653 (lv_at hl 0 rfl) ?_
  refine lv_iconst (v := 1) hx hb dL_law_655 (by decide) ?_
  refine lv_iadd hx hb dL_law_656 ?_
  refine lv_topi (fun z_7 ez_7 => ?_)
  obtain rfl : z_7 = 1 := ez_7.trans (by decide)
  refine va_sld hx hb hX hbl hbA hS (pk_in 1 7 (by decide) (by decide) (by decide)) dL_law_657 ?_
  refine lv_topi (fun z_8 ez_8 => ?_)
  replace ez_8 : z_8 = xs 1 := ez_8
  subst z_8
  refine lv_aload_n hx hb dL_law_658 rfl (lv_at hl 4 rfl) ?_
  refine lv_iload hx hb dL_law_659 (lv_at hl 0 rfl) ?_
  refine lv_iconst (v := 2) hx hb dL_law_661 (by decide) ?_
  refine lv_iadd hx hb dL_law_662 ?_
  refine lv_topi (fun z_9 ez_9 => ?_)
  obtain rfl : z_9 = 2 := ez_9.trans (by decide)
  refine va_sld hx hb hX hbl hbA hS (pk_in 2 7 (by decide) (by decide) (by decide)) dL_law_663 ?_
  refine lv_topi (fun z_10 ez_10 => ?_)
  replace ez_10 : z_10 = xs 2 := ez_10
  subst z_10
  have hPc := hP.sub (ws' := [(mm, .inr (11, [.int 0, .ref mm_tape, .int 0, .ref mm_number, .ref mm_clockName, .ref mm_clockOff, .ref mm_clockGain, .ref mm_clockRough, .ref mm_personName, .ref mm_personOff, .ref mm_personGain, .ref mm_personRough, .ref mm_custom, .ref mm_customA, .ref mm_customB, .ref mm_ruleFrom, .ref mm_ruleTo, .ref mm_roundOf, .ref mm_roundAt, .ref mm_roundHour, .ref mm_gunAt, .ref mm_gunHour, .ref mm_knotSort, .ref mm_knotValue, .int 0, .int 0, .int 0, .int 0, .int 0, .int 0, .int 0, .int 0, .int 0, .int (-1), .int 0, .int 0, .int 0, .int 0, .int 0, .int 0, .int 0, .int 0, .int 0, .int 0, .int 0, .int 0, .ref mm_start, .ref mm_off, .ref mm_last, .ref mm_passed, .ref mm_kept, .ref mm_keptMany, .int 0, .int 0, .ref mm_history, .ref mm_names, .ref mm_worked, .int 0, .int 0, .int (-1), .ref mm_readThing, .ref mm_readHour, .ref mm_readLow, .ref mm_readHigh, .int 0, .int 0, .int 0, .ref mm_imageOff, .ref mm_imageLast, .ref mm_imagePassed, .ref mm_imageKept, .ref mm_imageMany, .ref mm_imageHistory])), (mm_number, .inl (k_mm_number, 10, .inl (fun _ => 0)))]) [0, 1] rfl
  have hDc := hD.sub (ws' := [(mm, .inr (11, [.int 0, .ref mm_tape, .int 0, .ref mm_number, .ref mm_clockName, .ref mm_clockOff, .ref mm_clockGain, .ref mm_clockRough, .ref mm_personName, .ref mm_personOff, .ref mm_personGain, .ref mm_personRough, .ref mm_custom, .ref mm_customA, .ref mm_customB, .ref mm_ruleFrom, .ref mm_ruleTo, .ref mm_roundOf, .ref mm_roundAt, .ref mm_roundHour, .ref mm_gunAt, .ref mm_gunHour, .ref mm_knotSort, .ref mm_knotValue, .int 0, .int 0, .int 0, .int 0, .int 0, .int 0, .int 0, .int 0, .int 0, .int (-1), .int 0, .int 0, .int 0, .int 0, .int 0, .int 0, .int 0, .int 0, .int 0, .int 0, .int 0, .int 0, .ref mm_start, .ref mm_off, .ref mm_last, .ref mm_passed, .ref mm_kept, .ref mm_keptMany, .int 0, .int 0, .ref mm_history, .ref mm_names, .ref mm_worked, .int 0, .int 0, .int (-1), .ref mm_readThing, .ref mm_readHour, .ref mm_readLow, .ref mm_readHigh, .int 0, .int 0, .int 0, .ref mm_imageOff, .ref mm_imageLast, .ref mm_imagePassed, .ref mm_imageKept, .ref mm_imageMany, .ref mm_imageHistory])), (mm_number, .inl (k_mm_number, 10, .inl (fun _ => 0)))]) [0, 1] (by decide) rfl
  have hKc := hK.sub (tys' := [(k_mm_number, .int)]) [0] rfl
  have hFc := va_free (wc := [(mm, .inr (11, [.int 0, .ref mm_tape, .int 0, .ref mm_number, .ref mm_clockName, .ref mm_clockOff, .ref mm_clockGain, .ref mm_clockRough, .ref mm_personName, .ref mm_personOff, .ref mm_personGain, .ref mm_personRough, .ref mm_custom, .ref mm_customA, .ref mm_customB, .ref mm_ruleFrom, .ref mm_ruleTo, .ref mm_roundOf, .ref mm_roundAt, .ref mm_roundHour, .ref mm_gunAt, .ref mm_gunHour, .ref mm_knotSort, .ref mm_knotValue, .int 0, .int 0, .int 0, .int 0, .int 0, .int 0, .int 0, .int 0, .int 0, .int (-1), .int 0, .int 0, .int 0, .int 0, .int 0, .int 0, .int 0, .int 0, .int 0, .int 0, .int 0, .int 0, .ref mm_start, .ref mm_off, .ref mm_last, .ref mm_passed, .ref mm_kept, .ref mm_keptMany, .int 0, .int 0, .ref mm_history, .ref mm_names, .ref mm_worked, .int 0, .int 0, .int (-1), .ref mm_readThing, .ref mm_readHour, .ref mm_readLow, .ref mm_readHigh, .int 0, .int 0, .int 0, .ref mm_imageOff, .ref mm_imageLast, .ref mm_imagePassed, .ref mm_imageKept, .ref mm_imageMany, .ref mm_imageHistory])), (mm_number, .inl (k_mm_number, 10, .inl (fun _ => 0)))]) hD hS hA [0, 1] rfl
  have := (by decide : (0 : Int32).toInt = 0)
  have := (by decide : (0 : Int32).toInt = 0)
  have := (by decide : (0 : Int32).toInt = 0)
  have := (by decide : (0 : Int32).toInt = 0)
  have := (by decide : (0 : Int32).toInt = 0)
  have := (by decide : (0 : Int32).toInt = 0)
  have := (by decide : (0 : Int32).toInt = 0)
  have := (by decide : (0 : Int32).toInt = 0)
  have := (by decide : (0 : Int32).toInt = 0)
  have := (by decide : (0 : Int32).toInt = 0)
  have := (by decide : (0 : Int32).toInt = 0)
  have := (by decide : ((-1) : Int32).toInt = -1)
  have := (by decide : (0 : Int32).toInt = 0)
  have := (by decide : (0 : Int32).toInt = 0)
  have := (by decide : (0 : Int32).toInt = 0)
  have := (by decide : (0 : Int32).toInt = 0)
  have := (by decide : (0 : Int32).toInt = 0)
  have := (by decide : (0 : Int32).toInt = 0)
  have := (by decide : (0 : Int32).toInt = 0)
  have := (by decide : (0 : Int32).toInt = 0)
  have := (by decide : (0 : Int32).toInt = 0)
  have := (by decide : (0 : Int32).toInt = 0)
  have := (by decide : (0 : Int32).toInt = 0)
  have := (by decide : (0 : Int32).toInt = 0)
  have := (by decide : (0 : Int32).toInt = 0)
  have := (by decide : (0 : Int32).toInt = 0)
  have := (by decide : (0 : Int32).toInt = 0)
  have := (by decide : (0 : Int32).toInt = 0)
  have := (by decide : ((-1) : Int32).toInt = -1)
  have := (by decide : (0 : Int32).toInt = 0)
  have := (by decide : (0 : Int32).toInt = 0)
  have := (by decide : (0 : Int32).toInt = 0)
  refine va_calli (va_runV (As := [.int (xs 1), .int (xs 2)]) (rest := [.int (-2147483648)]) ⟨hx, hb, hml, hown, hT⟩ (c_X11_pass l dC dI H.size mm (xs 1) (xs 2) (0 : Int32) mm_tape (0 : Int32) mm_number mm_clockName mm_clockOff mm_clockGain mm_clockRough mm_personName mm_personOff mm_personGain mm_personRough mm_custom mm_customA mm_customB mm_ruleFrom mm_ruleTo mm_roundOf mm_roundAt mm_roundHour mm_gunAt mm_gunHour mm_knotSort mm_knotValue (0 : Int32) (0 : Int32) (0 : Int32) (0 : Int32) (0 : Int32) (0 : Int32) (0 : Int32) (0 : Int32) (0 : Int32) ((-1) : Int32) (0 : Int32) (0 : Int32) (0 : Int32) (0 : Int32) (0 : Int32) (0 : Int32) (0 : Int32) (0 : Int32) (0 : Int32) (0 : Int32) (0 : Int32) (0 : Int32) mm_start mm_off mm_last mm_passed mm_kept mm_keptMany (0 : Int32) (0 : Int32) mm_history mm_names mm_worked (0 : Int32) (0 : Int32) ((-1) : Int32) mm_readThing mm_readHour mm_readLow mm_readHigh (0 : Int32) (0 : Int32) (0 : Int32) mm_imageOff mm_imageLast mm_imagePassed mm_imageKept mm_imageMany mm_imageHistory k_mm_number (fun _ => 0) (fun _ => rfl)) (cwV 2 hT (gwV mw_8_52 mw_8_53 mw_8_54 mw_1_16 mw_8_55) rfl rfl rfl (by decide +kernel) ⟨Nat.le_of_ble_eq_true rfl, Nat.le_of_ble_eq_true rfl⟩) ⟨fun a U g mk q => by obtain ⟨q0, q1, qP, qK, qD⟩ := q; exact ⟨q0, q1, qP, va_K.moved (u := U) (U := U.calling g mk a) (Vm.Alike.refl U.vm) qK, qD⟩, va_recv hK hP (ci := 11) (q0 := 0) rfl rfl, fun U hU hW => ⟨rfl, by rw [hU], by rw [hU]; exact hPc, va_K.moved hW.alike hKc, hDc.weaken (fun _ _ _ _ => trivial)⟩⟩ rfl rfl hl.1 rfl (lv_room (Nat.le_of_ble_eq_true rfl)) dL_law_664 ⟨Nat.le_of_ble_eq_true rfl, Nat.le_of_ble_eq_true rfl⟩) hS (fun q _ h => hFc q h) hFc (fun r_12 u t H1 locs ht hvm hw hB hz1 hk1 hS => ?_)
  obtain ⟨hP1, hD1⟩ := hB
  rw [ht] at hP1
  obtain ⟨hP, hD⟩ := va_join (wr := [(xx, .inr (10, [.ref rr, .ref ta, .ref tb, .ref pa, .ref pb, .ref cn, .ref ci, .int 0, .ref cp, .ref ct, .ref hs, .ref rd, .ref wy, .ref ea, .ref eb])), (ta, .inr (8, [.int 0, .int 0, .int 0, .int 0, .int 0, .ref ta_name, .ref ta_first, .ref ta_gain, .ref ta_rough, .ref ta_custom, .ref ta_part, .ref ta_whole, .ref ta_roundPerson, .ref ta_roundClock, .ref ta_roundHour, .ref ta_gunClock, .ref ta_gunHour, .ref tau]))]) (w1 := [(mm, .inr (11, [.int 0, .ref mm_tape, .int 0, .ref mm_number, .ref mm_clockName, .ref mm_clockOff, .ref mm_clockGain, .ref mm_clockRough, .ref mm_personName, .ref mm_personOff, .ref mm_personGain, .ref mm_personRough, .ref mm_custom, .ref mm_customA, .ref mm_customB, .ref mm_ruleFrom, .ref mm_ruleTo, .ref mm_roundOf, .ref mm_roundAt, .ref mm_roundHour, .ref mm_gunAt, .ref mm_gunHour, .ref mm_knotSort, .ref mm_knotValue, .int 0, .int 0, .int 0, .int 0, .int 0, .int 0, .int 0, .int 0, .int 0, .int (-1), .int 0, .int 0, .int 0, .int 0, .int 0, .int 0, .int 0, .int 0, .int 0, .int 0, .int 0, .int 0, .ref mm_start, .ref mm_off, .ref mm_last, .ref mm_passed, .ref mm_kept, .ref mm_keptMany, .int 0, .int 0, .ref mm_history, .ref mm_names, .ref mm_worked, .int 0, .int 0, .int (-1), .ref mm_readThing, .ref mm_readHour, .ref mm_readLow, .ref mm_readHigh, .int 0, .int 0, .int 0, .ref mm_imageOff, .ref mm_imageLast, .ref mm_imagePassed, .ref mm_imageKept, .ref mm_imageMany, .ref mm_imageHistory])), (mm_number, .inl (k_mm_number, 10, .inl (fun _ => 0)))]) hP hD [0, 1] [2, 3] rfl rfl (by decide) (by decide) hk1 hFc hP1 hD1
  generalize H1 = H at hP hS ⊢
  have hP : va_P (dC, dI) vwCl [(xx, .inr (10, [.ref rr, .ref ta, .ref tb, .ref pa, .ref pb, .ref cn, .ref ci, .int 0, .ref cp, .ref ct, .ref hs, .ref rd, .ref wy, .ref ea, .ref eb])), (ta, .inr (8, [.int 0, .int 0, .int 0, .int 0, .int 0, .ref ta_name, .ref ta_first, .ref ta_gain, .ref ta_rough, .ref ta_custom, .ref ta_part, .ref ta_whole, .ref ta_roundPerson, .ref ta_roundClock, .ref ta_roundHour, .ref ta_gunClock, .ref ta_gunHour, .ref tau])), (mm, .inr (11, [.int 0, .ref mm_tape, .int 0, .ref mm_number, .ref mm_clockName, .ref mm_clockOff, .ref mm_clockGain, .ref mm_clockRough, .ref mm_personName, .ref mm_personOff, .ref mm_personGain, .ref mm_personRough, .ref mm_custom, .ref mm_customA, .ref mm_customB, .ref mm_ruleFrom, .ref mm_ruleTo, .ref mm_roundOf, .ref mm_roundAt, .ref mm_roundHour, .ref mm_gunAt, .ref mm_gunHour, .ref mm_knotSort, .ref mm_knotValue, .int 0, .int 0, .int 0, .int 0, .int 0, .int 0, .int 0, .int 0, .int 0, .int (-1), .int 0, .int 0, .int 0, .int 0, .int 0, .int 0, .int 0, .int 0, .int 0, .int 0, .int 0, .int 0, .ref mm_start, .ref mm_off, .ref mm_last, .ref mm_passed, .ref mm_kept, .ref mm_keptMany, .int 0, .int 0, .ref mm_history, .ref mm_names, .ref mm_worked, .int 0, .int 0, .int (-1), .ref mm_readThing, .ref mm_readHour, .ref mm_readLow, .ref mm_readHigh, .int 0, .int 0, .int 0, .ref mm_imageOff, .ref mm_imageLast, .ref mm_imagePassed, .ref mm_imageKept, .ref mm_imageMany, .ref mm_imageHistory])), (mm_number, .inl (k_mm_number, 10, .inl (fun _ => 0)))] H := hP
  have hD : va_D A [(xx, .inr (10, [.ref rr, .ref ta, .ref tb, .ref pa, .ref pb, .ref cn, .ref ci, .int 0, .ref cp, .ref ct, .ref hs, .ref rd, .ref wy, .ref ea, .ref eb])), (ta, .inr (8, [.int 0, .int 0, .int 0, .int 0, .int 0, .ref ta_name, .ref ta_first, .ref ta_gain, .ref ta_rough, .ref ta_custom, .ref ta_part, .ref ta_whole, .ref ta_roundPerson, .ref ta_roundClock, .ref ta_roundHour, .ref ta_gunClock, .ref ta_gunHour, .ref tau])), (mm, .inr (11, [.int 0, .ref mm_tape, .int 0, .ref mm_number, .ref mm_clockName, .ref mm_clockOff, .ref mm_clockGain, .ref mm_clockRough, .ref mm_personName, .ref mm_personOff, .ref mm_personGain, .ref mm_personRough, .ref mm_custom, .ref mm_customA, .ref mm_customB, .ref mm_ruleFrom, .ref mm_ruleTo, .ref mm_roundOf, .ref mm_roundAt, .ref mm_roundHour, .ref mm_gunAt, .ref mm_gunHour, .ref mm_knotSort, .ref mm_knotValue, .int 0, .int 0, .int 0, .int 0, .int 0, .int 0, .int 0, .int 0, .int 0, .int (-1), .int 0, .int 0, .int 0, .int 0, .int 0, .int 0, .int 0, .int 0, .int 0, .int 0, .int 0, .int 0, .ref mm_start, .ref mm_off, .ref mm_last, .ref mm_passed, .ref mm_kept, .ref mm_keptMany, .int 0, .int 0, .ref mm_history, .ref mm_names, .ref mm_worked, .int 0, .int 0, .int (-1), .ref mm_readThing, .ref mm_readHour, .ref mm_readLow, .ref mm_readHigh, .int 0, .int 0, .int 0, .ref mm_imageOff, .ref mm_imageLast, .ref mm_imagePassed, .ref mm_imageKept, .ref mm_imageMany, .ref mm_imageHistory])), (mm_number, .inl (k_mm_number, 10, .inl (fun _ => 0)))] := hD
  clear hPc hDc hKc hFc hP1 hD1 hk1 hz1 ht hvm
  have hw : r_12 = -2147483648 := hw
  subst r_12
  refine lv_icmp_eq (tgt := 1482) hx hb dL_law_667 (by decide) (fun c_13 => ?_) (fun c_13 => absurd c_13 (by decide))
  refine lv_iinc (v := 7) (lv' := [(4, .int 7), (3, .ref oo), (2, .ref mm), (1, .ref xx), (0, .ref b)]) hx hb dL_law_1482 hl (k := 0) rfl (by decide) (by decide) rfl (fun ls hl => ?_)
  refine lv_goto (tgt := 23) hx hb dL_law_1485 (by decide) ?_
  refine lv_iload hx hb dL_law_23 (lv_at hl 0 rfl) ?_
  refine lv_aload_n hx hb dL_law_25 rfl (lv_at hl 4 rfl) ?_
  refine va_slen hx hb hX hbl hbA hS dL_law_26 ?_
  refine lv_topi (fun z_14 ez_14 => ?_)
  obtain rfl : z_14 = 7 := ez_14.trans (by decide)
  refine lv_bipush (v := 7) hx hb dL_law_27 (by decide) ?_
  refine lv_isub hx hb dL_law_29 ?_
  refine lv_topi (fun z_15 ez_15 => ?_)
  obtain rfl : z_15 = 0 := ez_15.trans (by decide)
  refine lv_icmp_gt (tgt := 1488) hx hb dL_law_30 (by decide) (fun c_16 => ?_) (fun c_16 => absurd c_16 (by decide))
  refine lv_iconst (v := 1) hx hb dL_law_1488 (by decide) ?_
  refine va_forget (fun q hq => hAo _ (hS.2.2 q hq)) ?_
  refine W.widen (k := 600002) (n := 7302232) (Nat.le_of_ble_eq_true rfl) (Nat.le_of_ble_eq_true rfl) ?_
  exact lw_ret hx hb hr hlocks dL_law_1489
set_option maxHeartbeats 4000000 in
set_option maxRecDepth 100000 in
theorem law_op_13 {p : Program} {l : Launch} {e : Env} {s : State} {m : MethodId} {below : List Frame} {meth : Method} {c : Code} {dC : Nat → ClassId} {dI : Nat → Nat → Nat} {b : Nat} {xs : Nat → Int32} {A : Nat → Prop} (C0 : lw_At p s m meth c b 7 xs) (hA : ∀ q, s.heap.size ≤ q → A q) (hbA : ¬ A b) (hAo : ∀ q, A q → s.heap.size ≤ q) {xx : Nat} {rr : Nat} {ta : Nat} {tb : Nat} {pa : Nat} {pb : Nat} {cn : Nat} {ci : Nat} {cp : Nat} {ct : Nat} {hs : Nat} {rd : Nat} {wy : Nat} {ea : Nat} {eb : Nat} {ta_name : Nat} {ta_first : Nat} {ta_gain : Nat} {ta_rough : Nat} {ta_custom : Nat} {ta_part : Nat} {ta_whole : Nat} {ta_roundPerson : Nat} {ta_roundClock : Nat} {ta_roundHour : Nat} {ta_gunClock : Nat} {ta_gunHour : Nat} {tau : Nat} {mm : Nat} {mm_tape : Nat} {mm_number : Nat} {mm_clockName : Nat} {mm_clockOff : Nat} {mm_clockGain : Nat} {mm_clockRough : Nat} {mm_personName : Nat} {mm_personOff : Nat} {mm_personGain : Nat} {mm_personRough : Nat} {mm_custom : Nat} {mm_customA : Nat} {mm_customB : Nat} {mm_ruleFrom : Nat} {mm_ruleTo : Nat} {mm_roundOf : Nat} {mm_roundAt : Nat} {mm_roundHour : Nat} {mm_gunAt : Nat} {mm_gunHour : Nat} {mm_knotSort : Nat} {mm_knotValue : Nat} {mm_start : Nat} {mm_off : Nat} {mm_last : Nat} {mm_passed : Nat} {mm_kept : Nat} {mm_keptMany : Nat} {mm_history : Nat} {mm_names : Nat} {mm_worked : Nat} {mm_readThing : Nat} {mm_readHour : Nat} {mm_readLow : Nat} {mm_readHigh : Nat} {mm_imageOff : Nat} {mm_imageLast : Nat} {mm_imagePassed : Nat} {mm_imageKept : Nat} {mm_imageMany : Nat} {mm_imageHistory : Nat} {k_mm_number : ClassId} {oo : Nat} {H : Heap} {locs : List Loc} {ls : Array Slot} (hK : va_K (dC, dI) vwCl [(k_mm_number, .int)] s) (hP : va_P (dC, dI) vwCl [(xx, .inr (10, [.ref rr, .ref ta, .ref tb, .ref pa, .ref pb, .ref cn, .ref ci, .int 0, .ref cp, .ref ct, .ref hs, .ref rd, .ref wy, .ref ea, .ref eb])), (ta, .inr (8, [.int 0, .int 0, .int 0, .int 0, .int 0, .ref ta_name, .ref ta_first, .ref ta_gain, .ref ta_rough, .ref ta_custom, .ref ta_part, .ref ta_whole, .ref ta_roundPerson, .ref ta_roundClock, .ref ta_roundHour, .ref ta_gunClock, .ref ta_gunHour, .ref tau])), (mm, .inr (11, [.int 0, .ref mm_tape, .int 0, .ref mm_number, .ref mm_clockName, .ref mm_clockOff, .ref mm_clockGain, .ref mm_clockRough, .ref mm_personName, .ref mm_personOff, .ref mm_personGain, .ref mm_personRough, .ref mm_custom, .ref mm_customA, .ref mm_customB, .ref mm_ruleFrom, .ref mm_ruleTo, .ref mm_roundOf, .ref mm_roundAt, .ref mm_roundHour, .ref mm_gunAt, .ref mm_gunHour, .ref mm_knotSort, .ref mm_knotValue, .int 0, .int 0, .int 0, .int 0, .int 0, .int 0, .int 0, .int 0, .int 0, .int (-1), .int 0, .int 0, .int 0, .int 0, .int 0, .int 0, .int 0, .int 0, .int 0, .int 0, .int 0, .int 0, .ref mm_start, .ref mm_off, .ref mm_last, .ref mm_passed, .ref mm_kept, .ref mm_keptMany, .int 0, .int 0, .ref mm_history, .ref mm_names, .ref mm_worked, .int 0, .int 0, .int (-1), .ref mm_readThing, .ref mm_readHour, .ref mm_readLow, .ref mm_readHigh, .int 0, .int 0, .int 0, .ref mm_imageOff, .ref mm_imageLast, .ref mm_imagePassed, .ref mm_imageKept, .ref mm_imageMany, .ref mm_imageHistory])), (mm_number, .inl (k_mm_number, 10, .inl (fun _ => 0)))] H) (hD : va_D A [(xx, .inr (10, [.ref rr, .ref ta, .ref tb, .ref pa, .ref pb, .ref cn, .ref ci, .int 0, .ref cp, .ref ct, .ref hs, .ref rd, .ref wy, .ref ea, .ref eb])), (ta, .inr (8, [.int 0, .int 0, .int 0, .int 0, .int 0, .ref ta_name, .ref ta_first, .ref ta_gain, .ref ta_rough, .ref ta_custom, .ref ta_part, .ref ta_whole, .ref ta_roundPerson, .ref ta_roundClock, .ref ta_roundHour, .ref ta_gunClock, .ref ta_gunHour, .ref tau])), (mm, .inr (11, [.int 0, .ref mm_tape, .int 0, .ref mm_number, .ref mm_clockName, .ref mm_clockOff, .ref mm_clockGain, .ref mm_clockRough, .ref mm_personName, .ref mm_personOff, .ref mm_personGain, .ref mm_personRough, .ref mm_custom, .ref mm_customA, .ref mm_customB, .ref mm_ruleFrom, .ref mm_ruleTo, .ref mm_roundOf, .ref mm_roundAt, .ref mm_roundHour, .ref mm_gunAt, .ref mm_gunHour, .ref mm_knotSort, .ref mm_knotValue, .int 0, .int 0, .int 0, .int 0, .int 0, .int 0, .int 0, .int 0, .int 0, .int (-1), .int 0, .int 0, .int 0, .int 0, .int 0, .int 0, .int 0, .int 0, .int 0, .int 0, .int 0, .int 0, .ref mm_start, .ref mm_off, .ref mm_last, .ref mm_passed, .ref mm_kept, .ref mm_keptMany, .int 0, .int 0, .ref mm_history, .ref mm_names, .ref mm_worked, .int 0, .int 0, .int (-1), .ref mm_readThing, .ref mm_readHour, .ref mm_readLow, .ref mm_readHigh, .int 0, .int 0, .int 0, .ref mm_imageOff, .ref mm_imageLast, .ref mm_imagePassed, .ref mm_imageKept, .ref mm_imageMany, .ref mm_imageHistory])), (mm_number, .inl (k_mm_number, 10, .inl (fun _ => 0)))]) (hS : va_S A s.heap H locs) (hl : lv_has ls 7 [(4, .int 0), (3, .ref oo), (2, .ref mm), (1, .ref xx), (0, .ref b)]) : W p l e room_1 s m #[Value.ref b] below meth c H locs 160 67979 (lw_Z below #[Value.ref b] s) (F0 m 672 ls []) := by
  obtain ⟨hx, hb, hr, hml, hown, hts, hX, hbl, hlocks, hgv⟩ := C0
  have hT : ∀ w ∈ pw_T, w.before #[Value.ref b] s = true := fun w h => hts w (List.mem_filter.mp h).1
  have hown : s.vm.findClass RL = some m.cls := hown
  refine lv_aload_n hx hb dL_law_672 rfl (lv_at hl 3 rfl) ?_
  refine lv_aload_n hx hb dL_law_673 rfl (lv_at hl 4 rfl) ?_
  refine lv_iload hx hb dL_law_674 (lv_at hl 0 rfl) ?_
  refine lv_iconst (v := 1) hx hb dL_law_676 (by decide) ?_
  refine lv_iadd hx hb dL_law_677 ?_
  refine lv_topi (fun z_1 ez_1 => ?_)
  obtain rfl : z_1 = 1 := ez_1.trans (by decide)
  refine va_sld hx hb hX hbl hbA hS (pk_in 1 7 (by decide) (by decide) (by decide)) dL_law_678 ?_
  refine lv_topi (fun z_2 ez_2 => ?_)
  replace ez_2 : z_2 = xs 1 := ez_2
  subst z_2
  refine lv_aload_n hx hb dL_law_679 rfl (lv_at hl 4 rfl) ?_
  refine lv_iload hx hb dL_law_680 (lv_at hl 0 rfl) ?_
  refine lv_iconst (v := 2) hx hb dL_law_682 (by decide) ?_
  refine lv_iadd hx hb dL_law_683 ?_
  refine lv_topi (fun z_3 ez_3 => ?_)
  obtain rfl : z_3 = 2 := ez_3.trans (by decide)
  refine va_sld hx hb hX hbl hbA hS (pk_in 2 7 (by decide) (by decide) (by decide)) dL_law_684 ?_
  refine lv_topi (fun z_4 ez_4 => ?_)
  replace ez_4 : z_4 = xs 2 := ez_4
  subst z_4
  refine lv_i2l hx hb dL_law_685 rfl ?_
  refine lv_topl (fun z_5 ez_5 => ?_)
  clear ez_5
  refine lv_bipush (v := 32) hx hb dL_law_686 (by decide) ?_
  refine lv_lshl hx hb dL_law_688 rfl ?_
  refine lv_topl (fun z_6 ez_6 => ?_)
  clear ez_6
  refine lv_aload_n hx hb dL_law_689 rfl (lv_at hl 4 rfl) ?_
  refine lv_iload hx hb dL_law_690 (lv_at hl 0 rfl) ?_
  refine lv_iconst (v := 3) hx hb dL_law_692 (by decide) ?_
  refine lv_iadd hx hb dL_law_693 ?_
  refine lv_topi (fun z_7 ez_7 => ?_)
  obtain rfl : z_7 = 3 := ez_7.trans (by decide)
  refine va_sld hx hb hX hbl hbA hS (pk_in 3 7 (by decide) (by decide) (by decide)) dL_law_694 ?_
  refine lv_topi (fun z_8 ez_8 => ?_)
  replace ez_8 : z_8 = xs 3 := ez_8
  subst z_8
  refine lv_i2l hx hb dL_law_695 rfl ?_
  refine lv_topl (fun z_9 ez_9 => ?_)
  clear ez_9
  refine lv_ldc2 (v := 4294967295) hx hb hown (hT _ mw_8_181) dL_law_696 ?_
  refine lv_land hx hb dL_law_699 ?_
  refine lv_topl (fun z_10 ez_10 => ?_)
  clear ez_10
  refine lv_lor hx hb dL_law_700 ?_
  refine lv_topl (fun z_11 ez_11 => ?_)
  clear ez_11
  refine lv_aload_n hx hb dL_law_701 rfl (lv_at hl 4 rfl) ?_
  refine lv_iload hx hb dL_law_702 (lv_at hl 0 rfl) ?_
  refine lv_iconst (v := 4) hx hb dL_law_704 (by decide) ?_
  refine lv_iadd hx hb dL_law_705 ?_
  refine lv_topi (fun z_12 ez_12 => ?_)
  obtain rfl : z_12 = 4 := ez_12.trans (by decide)
  refine va_sld hx hb hX hbl hbA hS (pk_in 4 7 (by decide) (by decide) (by decide)) dL_law_706 ?_
  refine lv_topi (fun z_13 ez_13 => ?_)
  replace ez_13 : z_13 = xs 4 := ez_13
  subst z_13
  refine lv_i2l hx hb dL_law_707 rfl ?_
  refine lv_topl (fun z_14 ez_14 => ?_)
  clear ez_14
  refine lv_bipush (v := 32) hx hb dL_law_708 (by decide) ?_
  refine lv_lshl hx hb dL_law_710 rfl ?_
  refine lv_topl (fun z_15 ez_15 => ?_)
  clear ez_15
  refine lv_aload_n hx hb dL_law_711 rfl (lv_at hl 4 rfl) ?_
  refine lv_iload hx hb dL_law_712 (lv_at hl 0 rfl) ?_
  refine lv_iconst (v := 5) hx hb dL_law_714 (by decide) ?_
  refine lv_iadd hx hb dL_law_715 ?_
  refine lv_topi (fun z_16 ez_16 => ?_)
  obtain rfl : z_16 = 5 := ez_16.trans (by decide)
  refine va_sld hx hb hX hbl hbA hS (pk_in 5 7 (by decide) (by decide) (by decide)) dL_law_716 ?_
  refine lv_topi (fun z_17 ez_17 => ?_)
  replace ez_17 : z_17 = xs 5 := ez_17
  subst z_17
  refine lv_i2l hx hb dL_law_717 rfl ?_
  refine lv_topl (fun z_18 ez_18 => ?_)
  clear ez_18
  refine lv_ldc2 (v := 4294967295) hx hb hown (hT _ mw_8_181) dL_law_718 ?_
  refine lv_land hx hb dL_law_721 ?_
  refine lv_topl (fun z_19 ez_19 => ?_)
  clear ez_19
  refine lv_lor hx hb dL_law_722 ?_
  refine lv_topl (fun z_20 ez_20 => ?_)
  clear ez_20
  refine lv_aload_n hx hb dL_law_723 rfl (lv_at hl 4 rfl) ?_
  refine lv_iload hx hb dL_law_724 (lv_at hl 0 rfl) ?_
  refine lv_bipush (v := 6) hx hb dL_law_726 (by decide) ?_
  refine lv_iadd hx hb dL_law_728 ?_
  refine lv_topi (fun z_21 ez_21 => ?_)
  obtain rfl : z_21 = 6 := ez_21.trans (by decide)
  refine va_sld hx hb hX hbl hbA hS (pk_in 6 7 (by decide) (by decide) (by decide)) dL_law_729 ?_
  refine lv_topi (fun z_22 ez_22 => ?_)
  replace ez_22 : z_22 = xs 6 := ez_22
  subst z_22
  have hPc := hP.sub (ws' := [(xx, .inr (10, [.ref rr, .ref ta, .ref tb, .ref pa, .ref pb, .ref cn, .ref ci, .int 0, .ref cp, .ref ct, .ref hs, .ref rd, .ref wy, .ref ea, .ref eb])), (ta, .inr (8, [.int 0, .int 0, .int 0, .int 0, .int 0, .ref ta_name, .ref ta_first, .ref ta_gain, .ref ta_rough, .ref ta_custom, .ref ta_part, .ref ta_whole, .ref ta_roundPerson, .ref ta_roundClock, .ref ta_roundHour, .ref ta_gunClock, .ref ta_gunHour, .ref tau]))]) [0, 1] rfl
  have hDc := hD.sub (ws' := [(xx, .inr (10, [.ref rr, .ref ta, .ref tb, .ref pa, .ref pb, .ref cn, .ref ci, .int 0, .ref cp, .ref ct, .ref hs, .ref rd, .ref wy, .ref ea, .ref eb])), (ta, .inr (8, [.int 0, .int 0, .int 0, .int 0, .int 0, .ref ta_name, .ref ta_first, .ref ta_gain, .ref ta_rough, .ref ta_custom, .ref ta_part, .ref ta_whole, .ref ta_roundPerson, .ref ta_roundClock, .ref ta_roundHour, .ref ta_gunClock, .ref ta_gunHour, .ref tau]))]) [0, 1] (by decide) rfl
  have hKc := hK.sub (tys' := []) [] rfl
  have hFc := va_free (wc := [(xx, .inr (10, [.ref rr, .ref ta, .ref tb, .ref pa, .ref pb, .ref cn, .ref ci, .int 0, .ref cp, .ref ct, .ref hs, .ref rd, .ref wy, .ref ea, .ref eb])), (ta, .inr (8, [.int 0, .int 0, .int 0, .int 0, .int 0, .ref ta_name, .ref ta_first, .ref ta_gain, .ref ta_rough, .ref ta_custom, .ref ta_part, .ref ta_whole, .ref ta_roundPerson, .ref ta_roundClock, .ref ta_roundHour, .ref ta_gunClock, .ref ta_gunHour, .ref tau]))]) hD hS hA [0, 1] rfl
  refine va_calli (va_runV (As := [.int (xs 1), .long z_11, .long z_20, .int (xs 6)]) (rest := []) ⟨hx, hb, hml, hown, hT⟩ (c_X10_row l dC dI H.size xx (xs 1) z_11 z_20 (xs 6) rr ta tb pa pb cn ci (0 : Int32) cp ct hs rd wy ea eb (0 : Int32) (0 : Int32) (0 : Int32) ta_name ta_first ta_gain ta_rough ta_custom ta_part ta_whole ta_roundPerson ta_roundClock ta_roundHour ta_gunClock ta_gunHour tau ) (cwV 4 hT (gwV mw_4_180 mw_4_181 mw_4_182 mw_1_1 mw_4_183) rfl rfl rfl (by decide +kernel) ⟨Nat.le_of_ble_eq_true rfl, Nat.le_of_ble_eq_true rfl⟩) ⟨fun a U g mk q => by obtain ⟨q0, q1, qP, qK, qD⟩ := q; exact ⟨q0, q1, qP, va_K.moved (u := U) (U := U.calling g mk a) (Vm.Alike.refl U.vm) qK, qD⟩, va_recv hK hP (ci := 10) (q0 := 0) rfl rfl, fun U hU hW => ⟨rfl, by rw [hU], by rw [hU]; exact hPc, va_K.moved hW.alike hKc, hDc.weaken (fun _ _ _ _ => trivial)⟩⟩ rfl rfl hl.1 rfl (lv_room (Nat.le_of_ble_eq_true rfl)) dL_law_730 ⟨Nat.le_of_ble_eq_true rfl, Nat.le_of_ble_eq_true rfl⟩) hS (fun q _ h => hFc q h) hFc (fun r_24 u t H1 locs ht hvm hw hB hz1 hk1 hS => ?_)
  obtain ⟨hP1, hD1⟩ := hB
  rw [ht] at hP1
  obtain ⟨hP, hD⟩ := va_join (wr := [(mm, .inr (11, [.int 0, .ref mm_tape, .int 0, .ref mm_number, .ref mm_clockName, .ref mm_clockOff, .ref mm_clockGain, .ref mm_clockRough, .ref mm_personName, .ref mm_personOff, .ref mm_personGain, .ref mm_personRough, .ref mm_custom, .ref mm_customA, .ref mm_customB, .ref mm_ruleFrom, .ref mm_ruleTo, .ref mm_roundOf, .ref mm_roundAt, .ref mm_roundHour, .ref mm_gunAt, .ref mm_gunHour, .ref mm_knotSort, .ref mm_knotValue, .int 0, .int 0, .int 0, .int 0, .int 0, .int 0, .int 0, .int 0, .int 0, .int (-1), .int 0, .int 0, .int 0, .int 0, .int 0, .int 0, .int 0, .int 0, .int 0, .int 0, .int 0, .int 0, .ref mm_start, .ref mm_off, .ref mm_last, .ref mm_passed, .ref mm_kept, .ref mm_keptMany, .int 0, .int 0, .ref mm_history, .ref mm_names, .ref mm_worked, .int 0, .int 0, .int (-1), .ref mm_readThing, .ref mm_readHour, .ref mm_readLow, .ref mm_readHigh, .int 0, .int 0, .int 0, .ref mm_imageOff, .ref mm_imageLast, .ref mm_imagePassed, .ref mm_imageKept, .ref mm_imageMany, .ref mm_imageHistory])), (mm_number, .inl (k_mm_number, 10, .inl (fun _ => 0)))]) (w1 := [(xx, .inr (10, [.ref rr, .ref ta, .ref tb, .ref pa, .ref pb, .ref cn, .ref ci, .int 0, .ref cp, .ref ct, .ref hs, .ref rd, .ref wy, .ref ea, .ref eb])), (ta, .inr (8, [.int 0, .int 0, .int 0, .int 0, .int 0, .ref ta_name, .ref ta_first, .ref ta_gain, .ref ta_rough, .ref ta_custom, .ref ta_part, .ref ta_whole, .ref ta_roundPerson, .ref ta_roundClock, .ref ta_roundHour, .ref ta_gunClock, .ref ta_gunHour, .ref tau]))]) hP hD [0, 1] [2, 3] rfl rfl (by decide) (by decide) hk1 hFc hP1 hD1
  generalize H1 = H at hP hS ⊢
  have hP : va_P (dC, dI) vwCl [(mm, .inr (11, [.int 0, .ref mm_tape, .int 0, .ref mm_number, .ref mm_clockName, .ref mm_clockOff, .ref mm_clockGain, .ref mm_clockRough, .ref mm_personName, .ref mm_personOff, .ref mm_personGain, .ref mm_personRough, .ref mm_custom, .ref mm_customA, .ref mm_customB, .ref mm_ruleFrom, .ref mm_ruleTo, .ref mm_roundOf, .ref mm_roundAt, .ref mm_roundHour, .ref mm_gunAt, .ref mm_gunHour, .ref mm_knotSort, .ref mm_knotValue, .int 0, .int 0, .int 0, .int 0, .int 0, .int 0, .int 0, .int 0, .int 0, .int (-1), .int 0, .int 0, .int 0, .int 0, .int 0, .int 0, .int 0, .int 0, .int 0, .int 0, .int 0, .int 0, .ref mm_start, .ref mm_off, .ref mm_last, .ref mm_passed, .ref mm_kept, .ref mm_keptMany, .int 0, .int 0, .ref mm_history, .ref mm_names, .ref mm_worked, .int 0, .int 0, .int (-1), .ref mm_readThing, .ref mm_readHour, .ref mm_readLow, .ref mm_readHigh, .int 0, .int 0, .int 0, .ref mm_imageOff, .ref mm_imageLast, .ref mm_imagePassed, .ref mm_imageKept, .ref mm_imageMany, .ref mm_imageHistory])), (mm_number, .inl (k_mm_number, 10, .inl (fun _ => 0))), (xx, .inr (10, [.ref rr, .ref ta, .ref tb, .ref pa, .ref pb, .ref cn, .ref ci, .int 0, .ref cp, .ref ct, .ref hs, .ref rd, .ref wy, .ref ea, .ref eb])), (ta, .inr (8, [.int 0, .int 0, .int 0, .int 0, .int 0, .ref ta_name, .ref ta_first, .ref ta_gain, .ref ta_rough, .ref ta_custom, .ref ta_part, .ref ta_whole, .ref ta_roundPerson, .ref ta_roundClock, .ref ta_roundHour, .ref ta_gunClock, .ref ta_gunHour, .ref tau]))] H := hP
  have hD : va_D A [(mm, .inr (11, [.int 0, .ref mm_tape, .int 0, .ref mm_number, .ref mm_clockName, .ref mm_clockOff, .ref mm_clockGain, .ref mm_clockRough, .ref mm_personName, .ref mm_personOff, .ref mm_personGain, .ref mm_personRough, .ref mm_custom, .ref mm_customA, .ref mm_customB, .ref mm_ruleFrom, .ref mm_ruleTo, .ref mm_roundOf, .ref mm_roundAt, .ref mm_roundHour, .ref mm_gunAt, .ref mm_gunHour, .ref mm_knotSort, .ref mm_knotValue, .int 0, .int 0, .int 0, .int 0, .int 0, .int 0, .int 0, .int 0, .int 0, .int (-1), .int 0, .int 0, .int 0, .int 0, .int 0, .int 0, .int 0, .int 0, .int 0, .int 0, .int 0, .int 0, .ref mm_start, .ref mm_off, .ref mm_last, .ref mm_passed, .ref mm_kept, .ref mm_keptMany, .int 0, .int 0, .ref mm_history, .ref mm_names, .ref mm_worked, .int 0, .int 0, .int (-1), .ref mm_readThing, .ref mm_readHour, .ref mm_readLow, .ref mm_readHigh, .int 0, .int 0, .int 0, .ref mm_imageOff, .ref mm_imageLast, .ref mm_imagePassed, .ref mm_imageKept, .ref mm_imageMany, .ref mm_imageHistory])), (mm_number, .inl (k_mm_number, 10, .inl (fun _ => 0))), (xx, .inr (10, [.ref rr, .ref ta, .ref tb, .ref pa, .ref pb, .ref cn, .ref ci, .int 0, .ref cp, .ref ct, .ref hs, .ref rd, .ref wy, .ref ea, .ref eb])), (ta, .inr (8, [.int 0, .int 0, .int 0, .int 0, .int 0, .ref ta_name, .ref ta_first, .ref ta_gain, .ref ta_rough, .ref ta_custom, .ref ta_part, .ref ta_whole, .ref ta_roundPerson, .ref ta_roundClock, .ref ta_roundHour, .ref ta_gunClock, .ref ta_gunHour, .ref tau]))] := hD
  clear hPc hDc hKc hFc hP1 hD1 hk1 hz1 ht hvm
  have hw : r_24 = -2147483648 := hw
  subst r_24
  refine lv_aload_n hx hb dL_law_733 rfl (lv_at hl 2 rfl) ?_
  refine lv_aload_n hx hb dL_law_734 rfl (lv_at hl 4 rfl) ?_
  refine lv_iload hx hb dL_law_735 (lv_at hl 0 rfl) ?_
  refine lv_iconst (v := 1) hx hb dL_law_737 (by decide) ?_
  refine lv_iadd hx hb dL_law_738 ?_
  refine lv_topi (fun z_25 ez_25 => ?_)
  obtain rfl : z_25 = 1 := ez_25.trans (by decide)
  refine va_sld hx hb hX hbl hbA hS (pk_in 1 7 (by decide) (by decide) (by decide)) dL_law_739 ?_
  refine lv_topi (fun z_26 ez_26 => ?_)
  replace ez_26 : z_26 = xs 1 := ez_26
  subst z_26
  refine lv_aload_n hx hb dL_law_740 rfl (lv_at hl 4 rfl) ?_
  refine lv_iload hx hb dL_law_741 (lv_at hl 0 rfl) ?_
  refine lv_iconst (v := 2) hx hb dL_law_743 (by decide) ?_
  refine lv_iadd hx hb dL_law_744 ?_
  refine lv_topi (fun z_27 ez_27 => ?_)
  obtain rfl : z_27 = 2 := ez_27.trans (by decide)
  refine va_sld hx hb hX hbl hbA hS (pk_in 2 7 (by decide) (by decide) (by decide)) dL_law_745 ?_
  refine lv_topi (fun z_28 ez_28 => ?_)
  replace ez_28 : z_28 = xs 2 := ez_28
  subst z_28
  refine lv_i2l hx hb dL_law_746 rfl ?_
  refine lv_topl (fun z_29 ez_29 => ?_)
  clear ez_29
  refine lv_bipush (v := 32) hx hb dL_law_747 (by decide) ?_
  refine lv_lshl hx hb dL_law_749 rfl ?_
  refine lv_topl (fun z_30 ez_30 => ?_)
  clear ez_30
  refine lv_aload_n hx hb dL_law_750 rfl (lv_at hl 4 rfl) ?_
  refine lv_iload hx hb dL_law_751 (lv_at hl 0 rfl) ?_
  refine lv_iconst (v := 3) hx hb dL_law_753 (by decide) ?_
  refine lv_iadd hx hb dL_law_754 ?_
  refine lv_topi (fun z_31 ez_31 => ?_)
  obtain rfl : z_31 = 3 := ez_31.trans (by decide)
  refine va_sld hx hb hX hbl hbA hS (pk_in 3 7 (by decide) (by decide) (by decide)) dL_law_755 ?_
  refine lv_topi (fun z_32 ez_32 => ?_)
  replace ez_32 : z_32 = xs 3 := ez_32
  subst z_32
  refine lv_i2l hx hb dL_law_756 rfl ?_
  refine lv_topl (fun z_33 ez_33 => ?_)
  clear ez_33
  refine lv_ldc2 (v := 4294967295) hx hb hown (hT _ mw_8_181) dL_law_757 ?_
  refine lv_land hx hb dL_law_760 ?_
  refine lv_topl (fun z_34 ez_34 => ?_)
  clear ez_34
  refine lv_lor hx hb dL_law_761 ?_
  refine lv_topl (fun z_35 ez_35 => ?_)
  clear ez_35
  refine lv_aload_n hx hb dL_law_762 rfl (lv_at hl 4 rfl) ?_
  refine lv_iload hx hb dL_law_763 (lv_at hl 0 rfl) ?_
  refine lv_iconst (v := 4) hx hb dL_law_765 (by decide) ?_
  refine lv_iadd hx hb dL_law_766 ?_
  refine lv_topi (fun z_36 ez_36 => ?_)
  obtain rfl : z_36 = 4 := ez_36.trans (by decide)
  refine va_sld hx hb hX hbl hbA hS (pk_in 4 7 (by decide) (by decide) (by decide)) dL_law_767 ?_
  refine lv_topi (fun z_37 ez_37 => ?_)
  replace ez_37 : z_37 = xs 4 := ez_37
  subst z_37
  refine lv_i2l hx hb dL_law_768 rfl ?_
  refine lv_topl (fun z_38 ez_38 => ?_)
  clear ez_38
  refine lv_bipush (v := 32) hx hb dL_law_769 (by decide) ?_
  refine lv_lshl hx hb dL_law_771 rfl ?_
  refine lv_topl (fun z_39 ez_39 => ?_)
  clear ez_39
  refine lv_aload_n hx hb dL_law_772 rfl (lv_at hl 4 rfl) ?_
  refine lv_iload hx hb dL_law_773 (lv_at hl 0 rfl) ?_
  refine lv_iconst (v := 5) hx hb dL_law_775 (by decide) ?_
  refine lv_iadd hx hb dL_law_776 ?_
  refine lv_topi (fun z_40 ez_40 => ?_)
  obtain rfl : z_40 = 5 := ez_40.trans (by decide)
  refine va_sld hx hb hX hbl hbA hS (pk_in 5 7 (by decide) (by decide) (by decide)) dL_law_777 ?_
  refine lv_topi (fun z_41 ez_41 => ?_)
  replace ez_41 : z_41 = xs 5 := ez_41
  subst z_41
  refine lv_i2l hx hb dL_law_778 rfl ?_
  refine lv_topl (fun z_42 ez_42 => ?_)
  clear ez_42
  refine lv_ldc2 (v := 4294967295) hx hb hown (hT _ mw_8_181) dL_law_779 ?_
  refine lv_land hx hb dL_law_782 ?_
  refine lv_topl (fun z_43 ez_43 => ?_)
  clear ez_43
  refine lv_lor hx hb dL_law_783 ?_
  refine lv_topl (fun z_44 ez_44 => ?_)
  clear ez_44
  refine lv_aload_n hx hb dL_law_784 rfl (lv_at hl 4 rfl) ?_
  refine lv_iload hx hb dL_law_785 (lv_at hl 0 rfl) ?_
  refine lv_bipush (v := 6) hx hb dL_law_787 (by decide) ?_
  refine lv_iadd hx hb dL_law_789 ?_
  refine lv_topi (fun z_45 ez_45 => ?_)
  obtain rfl : z_45 = 6 := ez_45.trans (by decide)
  refine va_sld hx hb hX hbl hbA hS (pk_in 6 7 (by decide) (by decide) (by decide)) dL_law_790 ?_
  refine lv_topi (fun z_46 ez_46 => ?_)
  replace ez_46 : z_46 = xs 6 := ez_46
  subst z_46
  have hPc := hP.sub (ws' := [(mm, .inr (11, [.int 0, .ref mm_tape, .int 0, .ref mm_number, .ref mm_clockName, .ref mm_clockOff, .ref mm_clockGain, .ref mm_clockRough, .ref mm_personName, .ref mm_personOff, .ref mm_personGain, .ref mm_personRough, .ref mm_custom, .ref mm_customA, .ref mm_customB, .ref mm_ruleFrom, .ref mm_ruleTo, .ref mm_roundOf, .ref mm_roundAt, .ref mm_roundHour, .ref mm_gunAt, .ref mm_gunHour, .ref mm_knotSort, .ref mm_knotValue, .int 0, .int 0, .int 0, .int 0, .int 0, .int 0, .int 0, .int 0, .int 0, .int (-1), .int 0, .int 0, .int 0, .int 0, .int 0, .int 0, .int 0, .int 0, .int 0, .int 0, .int 0, .int 0, .ref mm_start, .ref mm_off, .ref mm_last, .ref mm_passed, .ref mm_kept, .ref mm_keptMany, .int 0, .int 0, .ref mm_history, .ref mm_names, .ref mm_worked, .int 0, .int 0, .int (-1), .ref mm_readThing, .ref mm_readHour, .ref mm_readLow, .ref mm_readHigh, .int 0, .int 0, .int 0, .ref mm_imageOff, .ref mm_imageLast, .ref mm_imagePassed, .ref mm_imageKept, .ref mm_imageMany, .ref mm_imageHistory])), (mm_number, .inl (k_mm_number, 10, .inl (fun _ => 0)))]) [0, 1] rfl
  have hDc := hD.sub (ws' := [(mm, .inr (11, [.int 0, .ref mm_tape, .int 0, .ref mm_number, .ref mm_clockName, .ref mm_clockOff, .ref mm_clockGain, .ref mm_clockRough, .ref mm_personName, .ref mm_personOff, .ref mm_personGain, .ref mm_personRough, .ref mm_custom, .ref mm_customA, .ref mm_customB, .ref mm_ruleFrom, .ref mm_ruleTo, .ref mm_roundOf, .ref mm_roundAt, .ref mm_roundHour, .ref mm_gunAt, .ref mm_gunHour, .ref mm_knotSort, .ref mm_knotValue, .int 0, .int 0, .int 0, .int 0, .int 0, .int 0, .int 0, .int 0, .int 0, .int (-1), .int 0, .int 0, .int 0, .int 0, .int 0, .int 0, .int 0, .int 0, .int 0, .int 0, .int 0, .int 0, .ref mm_start, .ref mm_off, .ref mm_last, .ref mm_passed, .ref mm_kept, .ref mm_keptMany, .int 0, .int 0, .ref mm_history, .ref mm_names, .ref mm_worked, .int 0, .int 0, .int (-1), .ref mm_readThing, .ref mm_readHour, .ref mm_readLow, .ref mm_readHigh, .int 0, .int 0, .int 0, .ref mm_imageOff, .ref mm_imageLast, .ref mm_imagePassed, .ref mm_imageKept, .ref mm_imageMany, .ref mm_imageHistory])), (mm_number, .inl (k_mm_number, 10, .inl (fun _ => 0)))]) [0, 1] (by decide) rfl
  have hKc := hK.sub (tys' := [(k_mm_number, .int)]) [0] rfl
  have hFc := va_free (wc := [(mm, .inr (11, [.int 0, .ref mm_tape, .int 0, .ref mm_number, .ref mm_clockName, .ref mm_clockOff, .ref mm_clockGain, .ref mm_clockRough, .ref mm_personName, .ref mm_personOff, .ref mm_personGain, .ref mm_personRough, .ref mm_custom, .ref mm_customA, .ref mm_customB, .ref mm_ruleFrom, .ref mm_ruleTo, .ref mm_roundOf, .ref mm_roundAt, .ref mm_roundHour, .ref mm_gunAt, .ref mm_gunHour, .ref mm_knotSort, .ref mm_knotValue, .int 0, .int 0, .int 0, .int 0, .int 0, .int 0, .int 0, .int 0, .int 0, .int (-1), .int 0, .int 0, .int 0, .int 0, .int 0, .int 0, .int 0, .int 0, .int 0, .int 0, .int 0, .int 0, .ref mm_start, .ref mm_off, .ref mm_last, .ref mm_passed, .ref mm_kept, .ref mm_keptMany, .int 0, .int 0, .ref mm_history, .ref mm_names, .ref mm_worked, .int 0, .int 0, .int (-1), .ref mm_readThing, .ref mm_readHour, .ref mm_readLow, .ref mm_readHigh, .int 0, .int 0, .int 0, .ref mm_imageOff, .ref mm_imageLast, .ref mm_imagePassed, .ref mm_imageKept, .ref mm_imageMany, .ref mm_imageHistory])), (mm_number, .inl (k_mm_number, 10, .inl (fun _ => 0)))]) hD hS hA [0, 1] rfl
  have := (by decide : (0 : Int32).toInt = 0)
  have := (by decide : (0 : Int32).toInt = 0)
  have := (by decide : (0 : Int32).toInt = 0)
  have := (by decide : (0 : Int32).toInt = 0)
  have := (by decide : (0 : Int32).toInt = 0)
  have := (by decide : (0 : Int32).toInt = 0)
  have := (by decide : (0 : Int32).toInt = 0)
  have := (by decide : (0 : Int32).toInt = 0)
  have := (by decide : (0 : Int32).toInt = 0)
  have := (by decide : (0 : Int32).toInt = 0)
  have := (by decide : (0 : Int32).toInt = 0)
  have := (by decide : ((-1) : Int32).toInt = -1)
  have := (by decide : (0 : Int32).toInt = 0)
  have := (by decide : (0 : Int32).toInt = 0)
  have := (by decide : (0 : Int32).toInt = 0)
  have := (by decide : (0 : Int32).toInt = 0)
  have := (by decide : (0 : Int32).toInt = 0)
  have := (by decide : (0 : Int32).toInt = 0)
  have := (by decide : (0 : Int32).toInt = 0)
  have := (by decide : (0 : Int32).toInt = 0)
  have := (by decide : (0 : Int32).toInt = 0)
  have := (by decide : (0 : Int32).toInt = 0)
  have := (by decide : (0 : Int32).toInt = 0)
  have := (by decide : (0 : Int32).toInt = 0)
  have := (by decide : (0 : Int32).toInt = 0)
  have := (by decide : (0 : Int32).toInt = 0)
  have := (by decide : (0 : Int32).toInt = 0)
  have := (by decide : (0 : Int32).toInt = 0)
  have := (by decide : ((-1) : Int32).toInt = -1)
  have := (by decide : (0 : Int32).toInt = 0)
  have := (by decide : (0 : Int32).toInt = 0)
  have := (by decide : (0 : Int32).toInt = 0)
  refine va_calli (va_runV (As := [.int (xs 1), .long z_35, .long z_44, .int (xs 6)]) (rest := [.int (-2147483648)]) ⟨hx, hb, hml, hown, hT⟩ (c_X11_row l dC dI H.size mm (xs 1) z_35 z_44 (xs 6) (0 : Int32) mm_tape (0 : Int32) mm_number mm_clockName mm_clockOff mm_clockGain mm_clockRough mm_personName mm_personOff mm_personGain mm_personRough mm_custom mm_customA mm_customB mm_ruleFrom mm_ruleTo mm_roundOf mm_roundAt mm_roundHour mm_gunAt mm_gunHour mm_knotSort mm_knotValue (0 : Int32) (0 : Int32) (0 : Int32) (0 : Int32) (0 : Int32) (0 : Int32) (0 : Int32) (0 : Int32) (0 : Int32) ((-1) : Int32) (0 : Int32) (0 : Int32) (0 : Int32) (0 : Int32) (0 : Int32) (0 : Int32) (0 : Int32) (0 : Int32) (0 : Int32) (0 : Int32) (0 : Int32) (0 : Int32) mm_start mm_off mm_last mm_passed mm_kept mm_keptMany (0 : Int32) (0 : Int32) mm_history mm_names mm_worked (0 : Int32) (0 : Int32) ((-1) : Int32) mm_readThing mm_readHour mm_readLow mm_readHigh (0 : Int32) (0 : Int32) (0 : Int32) mm_imageOff mm_imageLast mm_imagePassed mm_imageKept mm_imageMany mm_imageHistory k_mm_number (fun _ => 0) (fun _ => rfl)) (cwV 4 hT (gwV mw_8_56 mw_8_57 mw_8_58 mw_1_16 mw_8_59) rfl rfl rfl (by decide +kernel) ⟨Nat.le_of_ble_eq_true rfl, Nat.le_of_ble_eq_true rfl⟩) ⟨fun a U g mk q => by obtain ⟨q0, q1, qP, qK, qD⟩ := q; exact ⟨q0, q1, qP, va_K.moved (u := U) (U := U.calling g mk a) (Vm.Alike.refl U.vm) qK, qD⟩, va_recv hK hP (ci := 11) (q0 := 0) rfl rfl, fun U hU hW => ⟨rfl, by rw [hU], by rw [hU]; exact hPc, va_K.moved hW.alike hKc, hDc.weaken (fun _ _ _ _ => trivial)⟩⟩ rfl rfl hl.1 rfl (lv_room (Nat.le_of_ble_eq_true rfl)) dL_law_791 ⟨Nat.le_of_ble_eq_true rfl, Nat.le_of_ble_eq_true rfl⟩) hS (fun q _ h => hFc q h) hFc (fun r_48 u t H1 locs ht hvm hw hB hz1 hk1 hS => ?_)
  obtain ⟨hP1, hD1⟩ := hB
  rw [ht] at hP1
  obtain ⟨hP, hD⟩ := va_join (wr := [(xx, .inr (10, [.ref rr, .ref ta, .ref tb, .ref pa, .ref pb, .ref cn, .ref ci, .int 0, .ref cp, .ref ct, .ref hs, .ref rd, .ref wy, .ref ea, .ref eb])), (ta, .inr (8, [.int 0, .int 0, .int 0, .int 0, .int 0, .ref ta_name, .ref ta_first, .ref ta_gain, .ref ta_rough, .ref ta_custom, .ref ta_part, .ref ta_whole, .ref ta_roundPerson, .ref ta_roundClock, .ref ta_roundHour, .ref ta_gunClock, .ref ta_gunHour, .ref tau]))]) (w1 := [(mm, .inr (11, [.int 0, .ref mm_tape, .int 0, .ref mm_number, .ref mm_clockName, .ref mm_clockOff, .ref mm_clockGain, .ref mm_clockRough, .ref mm_personName, .ref mm_personOff, .ref mm_personGain, .ref mm_personRough, .ref mm_custom, .ref mm_customA, .ref mm_customB, .ref mm_ruleFrom, .ref mm_ruleTo, .ref mm_roundOf, .ref mm_roundAt, .ref mm_roundHour, .ref mm_gunAt, .ref mm_gunHour, .ref mm_knotSort, .ref mm_knotValue, .int 0, .int 0, .int 0, .int 0, .int 0, .int 0, .int 0, .int 0, .int 0, .int (-1), .int 0, .int 0, .int 0, .int 0, .int 0, .int 0, .int 0, .int 0, .int 0, .int 0, .int 0, .int 0, .ref mm_start, .ref mm_off, .ref mm_last, .ref mm_passed, .ref mm_kept, .ref mm_keptMany, .int 0, .int 0, .ref mm_history, .ref mm_names, .ref mm_worked, .int 0, .int 0, .int (-1), .ref mm_readThing, .ref mm_readHour, .ref mm_readLow, .ref mm_readHigh, .int 0, .int 0, .int 0, .ref mm_imageOff, .ref mm_imageLast, .ref mm_imagePassed, .ref mm_imageKept, .ref mm_imageMany, .ref mm_imageHistory])), (mm_number, .inl (k_mm_number, 10, .inl (fun _ => 0)))]) hP hD [0, 1] [2, 3] rfl rfl (by decide) (by decide) hk1 hFc hP1 hD1
  generalize H1 = H at hP hS ⊢
  have hP : va_P (dC, dI) vwCl [(xx, .inr (10, [.ref rr, .ref ta, .ref tb, .ref pa, .ref pb, .ref cn, .ref ci, .int 0, .ref cp, .ref ct, .ref hs, .ref rd, .ref wy, .ref ea, .ref eb])), (ta, .inr (8, [.int 0, .int 0, .int 0, .int 0, .int 0, .ref ta_name, .ref ta_first, .ref ta_gain, .ref ta_rough, .ref ta_custom, .ref ta_part, .ref ta_whole, .ref ta_roundPerson, .ref ta_roundClock, .ref ta_roundHour, .ref ta_gunClock, .ref ta_gunHour, .ref tau])), (mm, .inr (11, [.int 0, .ref mm_tape, .int 0, .ref mm_number, .ref mm_clockName, .ref mm_clockOff, .ref mm_clockGain, .ref mm_clockRough, .ref mm_personName, .ref mm_personOff, .ref mm_personGain, .ref mm_personRough, .ref mm_custom, .ref mm_customA, .ref mm_customB, .ref mm_ruleFrom, .ref mm_ruleTo, .ref mm_roundOf, .ref mm_roundAt, .ref mm_roundHour, .ref mm_gunAt, .ref mm_gunHour, .ref mm_knotSort, .ref mm_knotValue, .int 0, .int 0, .int 0, .int 0, .int 0, .int 0, .int 0, .int 0, .int 0, .int (-1), .int 0, .int 0, .int 0, .int 0, .int 0, .int 0, .int 0, .int 0, .int 0, .int 0, .int 0, .int 0, .ref mm_start, .ref mm_off, .ref mm_last, .ref mm_passed, .ref mm_kept, .ref mm_keptMany, .int 0, .int 0, .ref mm_history, .ref mm_names, .ref mm_worked, .int 0, .int 0, .int (-1), .ref mm_readThing, .ref mm_readHour, .ref mm_readLow, .ref mm_readHigh, .int 0, .int 0, .int 0, .ref mm_imageOff, .ref mm_imageLast, .ref mm_imagePassed, .ref mm_imageKept, .ref mm_imageMany, .ref mm_imageHistory])), (mm_number, .inl (k_mm_number, 10, .inl (fun _ => 0)))] H := hP
  have hD : va_D A [(xx, .inr (10, [.ref rr, .ref ta, .ref tb, .ref pa, .ref pb, .ref cn, .ref ci, .int 0, .ref cp, .ref ct, .ref hs, .ref rd, .ref wy, .ref ea, .ref eb])), (ta, .inr (8, [.int 0, .int 0, .int 0, .int 0, .int 0, .ref ta_name, .ref ta_first, .ref ta_gain, .ref ta_rough, .ref ta_custom, .ref ta_part, .ref ta_whole, .ref ta_roundPerson, .ref ta_roundClock, .ref ta_roundHour, .ref ta_gunClock, .ref ta_gunHour, .ref tau])), (mm, .inr (11, [.int 0, .ref mm_tape, .int 0, .ref mm_number, .ref mm_clockName, .ref mm_clockOff, .ref mm_clockGain, .ref mm_clockRough, .ref mm_personName, .ref mm_personOff, .ref mm_personGain, .ref mm_personRough, .ref mm_custom, .ref mm_customA, .ref mm_customB, .ref mm_ruleFrom, .ref mm_ruleTo, .ref mm_roundOf, .ref mm_roundAt, .ref mm_roundHour, .ref mm_gunAt, .ref mm_gunHour, .ref mm_knotSort, .ref mm_knotValue, .int 0, .int 0, .int 0, .int 0, .int 0, .int 0, .int 0, .int 0, .int 0, .int (-1), .int 0, .int 0, .int 0, .int 0, .int 0, .int 0, .int 0, .int 0, .int 0, .int 0, .int 0, .int 0, .ref mm_start, .ref mm_off, .ref mm_last, .ref mm_passed, .ref mm_kept, .ref mm_keptMany, .int 0, .int 0, .ref mm_history, .ref mm_names, .ref mm_worked, .int 0, .int 0, .int (-1), .ref mm_readThing, .ref mm_readHour, .ref mm_readLow, .ref mm_readHigh, .int 0, .int 0, .int 0, .ref mm_imageOff, .ref mm_imageLast, .ref mm_imagePassed, .ref mm_imageKept, .ref mm_imageMany, .ref mm_imageHistory])), (mm_number, .inl (k_mm_number, 10, .inl (fun _ => 0)))] := hD
  clear hPc hDc hKc hFc hP1 hD1 hk1 hz1 ht hvm
  have hw : r_48 = -2147483648 := hw
  subst r_48
  refine lv_icmp_eq (tgt := 1482) hx hb dL_law_794 (by decide) (fun c_49 => ?_) (fun c_49 => absurd c_49 (by decide))
  refine lv_iinc (v := 7) (lv' := [(4, .int 7), (3, .ref oo), (2, .ref mm), (1, .ref xx), (0, .ref b)]) hx hb dL_law_1482 hl (k := 0) rfl (by decide) (by decide) rfl (fun ls hl => ?_)
  refine lv_goto (tgt := 23) hx hb dL_law_1485 (by decide) ?_
  refine lv_iload hx hb dL_law_23 (lv_at hl 0 rfl) ?_
  refine lv_aload_n hx hb dL_law_25 rfl (lv_at hl 4 rfl) ?_
  refine va_slen hx hb hX hbl hbA hS dL_law_26 ?_
  refine lv_topi (fun z_50 ez_50 => ?_)
  obtain rfl : z_50 = 7 := ez_50.trans (by decide)
  refine lv_bipush (v := 7) hx hb dL_law_27 (by decide) ?_
  refine lv_isub hx hb dL_law_29 ?_
  refine lv_topi (fun z_51 ez_51 => ?_)
  obtain rfl : z_51 = 0 := ez_51.trans (by decide)
  refine lv_icmp_gt (tgt := 1488) hx hb dL_law_30 (by decide) (fun c_52 => ?_) (fun c_52 => absurd c_52 (by decide))
  refine lv_iconst (v := 1) hx hb dL_law_1488 (by decide) ?_
  refine va_forget (fun q hq => hAo _ (hS.2.2 q hq)) ?_
  refine W.widen (k := 600002) (n := 7302232) (Nat.le_of_ble_eq_true rfl) (Nat.le_of_ble_eq_true rfl) ?_
  exact lw_ret hx hb hr hlocks dL_law_1489
set_option maxHeartbeats 4000000 in
set_option maxRecDepth 100000 in
theorem law_op_14 {p : Program} {l : Launch} {e : Env} {s : State} {m : MethodId} {below : List Frame} {meth : Method} {c : Code} {dC : Nat → ClassId} {dI : Nat → Nat → Nat} {b : Nat} {xs : Nat → Int32} {A : Nat → Prop} (C0 : lw_At p s m meth c b 7 xs) (hA : ∀ q, s.heap.size ≤ q → A q) (hbA : ¬ A b) (hAo : ∀ q, A q → s.heap.size ≤ q) {xx : Nat} {rr : Nat} {ta : Nat} {tb : Nat} {pa : Nat} {pb : Nat} {cn : Nat} {ci : Nat} {cp : Nat} {ct : Nat} {hs : Nat} {rd : Nat} {wy : Nat} {ea : Nat} {eb : Nat} {ta_name : Nat} {ta_first : Nat} {ta_gain : Nat} {ta_rough : Nat} {ta_custom : Nat} {ta_part : Nat} {ta_whole : Nat} {ta_roundPerson : Nat} {ta_roundClock : Nat} {ta_roundHour : Nat} {ta_gunClock : Nat} {ta_gunHour : Nat} {tau : Nat} {mm : Nat} {mm_tape : Nat} {mm_number : Nat} {mm_clockName : Nat} {mm_clockOff : Nat} {mm_clockGain : Nat} {mm_clockRough : Nat} {mm_personName : Nat} {mm_personOff : Nat} {mm_personGain : Nat} {mm_personRough : Nat} {mm_custom : Nat} {mm_customA : Nat} {mm_customB : Nat} {mm_ruleFrom : Nat} {mm_ruleTo : Nat} {mm_roundOf : Nat} {mm_roundAt : Nat} {mm_roundHour : Nat} {mm_gunAt : Nat} {mm_gunHour : Nat} {mm_knotSort : Nat} {mm_knotValue : Nat} {mm_start : Nat} {mm_off : Nat} {mm_last : Nat} {mm_passed : Nat} {mm_kept : Nat} {mm_keptMany : Nat} {mm_history : Nat} {mm_names : Nat} {mm_worked : Nat} {mm_readThing : Nat} {mm_readHour : Nat} {mm_readLow : Nat} {mm_readHigh : Nat} {mm_imageOff : Nat} {mm_imageLast : Nat} {mm_imagePassed : Nat} {mm_imageKept : Nat} {mm_imageMany : Nat} {mm_imageHistory : Nat} {k_mm_number : ClassId} {oo : Nat} {H : Heap} {locs : List Loc} {ls : Array Slot} (hK : va_K (dC, dI) vwCl [(k_mm_number, .int)] s) (hP : va_P (dC, dI) vwCl [(xx, .inr (10, [.ref rr, .ref ta, .ref tb, .ref pa, .ref pb, .ref cn, .ref ci, .int 0, .ref cp, .ref ct, .ref hs, .ref rd, .ref wy, .ref ea, .ref eb])), (ta, .inr (8, [.int 0, .int 0, .int 0, .int 0, .int 0, .ref ta_name, .ref ta_first, .ref ta_gain, .ref ta_rough, .ref ta_custom, .ref ta_part, .ref ta_whole, .ref ta_roundPerson, .ref ta_roundClock, .ref ta_roundHour, .ref ta_gunClock, .ref ta_gunHour, .ref tau])), (mm, .inr (11, [.int 0, .ref mm_tape, .int 0, .ref mm_number, .ref mm_clockName, .ref mm_clockOff, .ref mm_clockGain, .ref mm_clockRough, .ref mm_personName, .ref mm_personOff, .ref mm_personGain, .ref mm_personRough, .ref mm_custom, .ref mm_customA, .ref mm_customB, .ref mm_ruleFrom, .ref mm_ruleTo, .ref mm_roundOf, .ref mm_roundAt, .ref mm_roundHour, .ref mm_gunAt, .ref mm_gunHour, .ref mm_knotSort, .ref mm_knotValue, .int 0, .int 0, .int 0, .int 0, .int 0, .int 0, .int 0, .int 0, .int 0, .int (-1), .int 0, .int 0, .int 0, .int 0, .int 0, .int 0, .int 0, .int 0, .int 0, .int 0, .int 0, .int 0, .ref mm_start, .ref mm_off, .ref mm_last, .ref mm_passed, .ref mm_kept, .ref mm_keptMany, .int 0, .int 0, .ref mm_history, .ref mm_names, .ref mm_worked, .int 0, .int 0, .int (-1), .ref mm_readThing, .ref mm_readHour, .ref mm_readLow, .ref mm_readHigh, .int 0, .int 0, .int 0, .ref mm_imageOff, .ref mm_imageLast, .ref mm_imagePassed, .ref mm_imageKept, .ref mm_imageMany, .ref mm_imageHistory])), (mm_number, .inl (k_mm_number, 10, .inl (fun _ => 0)))] H) (hD : va_D A [(xx, .inr (10, [.ref rr, .ref ta, .ref tb, .ref pa, .ref pb, .ref cn, .ref ci, .int 0, .ref cp, .ref ct, .ref hs, .ref rd, .ref wy, .ref ea, .ref eb])), (ta, .inr (8, [.int 0, .int 0, .int 0, .int 0, .int 0, .ref ta_name, .ref ta_first, .ref ta_gain, .ref ta_rough, .ref ta_custom, .ref ta_part, .ref ta_whole, .ref ta_roundPerson, .ref ta_roundClock, .ref ta_roundHour, .ref ta_gunClock, .ref ta_gunHour, .ref tau])), (mm, .inr (11, [.int 0, .ref mm_tape, .int 0, .ref mm_number, .ref mm_clockName, .ref mm_clockOff, .ref mm_clockGain, .ref mm_clockRough, .ref mm_personName, .ref mm_personOff, .ref mm_personGain, .ref mm_personRough, .ref mm_custom, .ref mm_customA, .ref mm_customB, .ref mm_ruleFrom, .ref mm_ruleTo, .ref mm_roundOf, .ref mm_roundAt, .ref mm_roundHour, .ref mm_gunAt, .ref mm_gunHour, .ref mm_knotSort, .ref mm_knotValue, .int 0, .int 0, .int 0, .int 0, .int 0, .int 0, .int 0, .int 0, .int 0, .int (-1), .int 0, .int 0, .int 0, .int 0, .int 0, .int 0, .int 0, .int 0, .int 0, .int 0, .int 0, .int 0, .ref mm_start, .ref mm_off, .ref mm_last, .ref mm_passed, .ref mm_kept, .ref mm_keptMany, .int 0, .int 0, .ref mm_history, .ref mm_names, .ref mm_worked, .int 0, .int 0, .int (-1), .ref mm_readThing, .ref mm_readHour, .ref mm_readLow, .ref mm_readHigh, .int 0, .int 0, .int 0, .ref mm_imageOff, .ref mm_imageLast, .ref mm_imagePassed, .ref mm_imageKept, .ref mm_imageMany, .ref mm_imageHistory])), (mm_number, .inl (k_mm_number, 10, .inl (fun _ => 0)))]) (hS : va_S A s.heap H locs) (hl : lv_has ls 7 [(4, .int 0), (3, .ref oo), (2, .ref mm), (1, .ref xx), (0, .ref b)]) : W p l e room_1 s m #[Value.ref b] below meth c H locs 160 67979 (lw_Z below #[Value.ref b] s) (F0 m 799 ls []) := by
  obtain ⟨hx, hb, hr, hml, hown, hts, hX, hbl, hlocks, hgv⟩ := C0
  have hT : ∀ w ∈ pw_T, w.before #[Value.ref b] s = true := fun w h => hts w (List.mem_filter.mp h).1
  have hown : s.vm.findClass RL = some m.cls := hown
  refine lv_aload_n hx hb dL_law_799 rfl (lv_at hl 3 rfl) ?_
  refine lv_aload_n hx hb dL_law_800 rfl (lv_at hl 4 rfl) ?_
  refine lv_iload hx hb dL_law_801 (lv_at hl 0 rfl) ?_
  refine lv_iconst (v := 1) hx hb dL_law_803 (by decide) ?_
  refine lv_iadd hx hb dL_law_804 ?_
  refine lv_topi (fun z_1 ez_1 => ?_)
  obtain rfl : z_1 = 1 := ez_1.trans (by decide)
  refine va_sld hx hb hX hbl hbA hS (pk_in 1 7 (by decide) (by decide) (by decide)) dL_law_805 ?_
  refine lv_topi (fun z_2 ez_2 => ?_)
  replace ez_2 : z_2 = xs 1 := ez_2
  subst z_2
  refine lv_aload_n hx hb dL_law_806 rfl (lv_at hl 4 rfl) ?_
  refine lv_iload hx hb dL_law_807 (lv_at hl 0 rfl) ?_
  refine lv_iconst (v := 2) hx hb dL_law_809 (by decide) ?_
  refine lv_iadd hx hb dL_law_810 ?_
  refine lv_topi (fun z_3 ez_3 => ?_)
  obtain rfl : z_3 = 2 := ez_3.trans (by decide)
  refine va_sld hx hb hX hbl hbA hS (pk_in 2 7 (by decide) (by decide) (by decide)) dL_law_811 ?_
  refine lv_topi (fun z_4 ez_4 => ?_)
  replace ez_4 : z_4 = xs 2 := ez_4
  subst z_4
  refine lv_aload_n hx hb dL_law_812 rfl (lv_at hl 4 rfl) ?_
  refine lv_iload hx hb dL_law_813 (lv_at hl 0 rfl) ?_
  refine lv_iconst (v := 3) hx hb dL_law_815 (by decide) ?_
  refine lv_iadd hx hb dL_law_816 ?_
  refine lv_topi (fun z_5 ez_5 => ?_)
  obtain rfl : z_5 = 3 := ez_5.trans (by decide)
  refine va_sld hx hb hX hbl hbA hS (pk_in 3 7 (by decide) (by decide) (by decide)) dL_law_817 ?_
  refine lv_topi (fun z_6 ez_6 => ?_)
  replace ez_6 : z_6 = xs 3 := ez_6
  subst z_6
  refine lv_aload_n hx hb dL_law_818 rfl (lv_at hl 4 rfl) ?_
  refine lv_iload hx hb dL_law_819 (lv_at hl 0 rfl) ?_
  refine lv_iconst (v := 4) hx hb dL_law_821 (by decide) ?_
  refine lv_iadd hx hb dL_law_822 ?_
  refine lv_topi (fun z_7 ez_7 => ?_)
  obtain rfl : z_7 = 4 := ez_7.trans (by decide)
  refine va_sld hx hb hX hbl hbA hS (pk_in 4 7 (by decide) (by decide) (by decide)) dL_law_823 ?_
  refine lv_topi (fun z_8 ez_8 => ?_)
  replace ez_8 : z_8 = xs 4 := ez_8
  subst z_8
  refine lv_aload_n hx hb dL_law_824 rfl (lv_at hl 4 rfl) ?_
  refine lv_iload hx hb dL_law_825 (lv_at hl 0 rfl) ?_
  refine lv_iconst (v := 5) hx hb dL_law_827 (by decide) ?_
  refine lv_iadd hx hb dL_law_828 ?_
  refine lv_topi (fun z_9 ez_9 => ?_)
  obtain rfl : z_9 = 5 := ez_9.trans (by decide)
  refine va_sld hx hb hX hbl hbA hS (pk_in 5 7 (by decide) (by decide) (by decide)) dL_law_829 ?_
  refine lv_topi (fun z_10 ez_10 => ?_)
  replace ez_10 : z_10 = xs 5 := ez_10
  subst z_10
  have hPc := hP.sub (ws' := [(xx, .inr (10, [.ref rr, .ref ta, .ref tb, .ref pa, .ref pb, .ref cn, .ref ci, .int 0, .ref cp, .ref ct, .ref hs, .ref rd, .ref wy, .ref ea, .ref eb])), (ta, .inr (8, [.int 0, .int 0, .int 0, .int 0, .int 0, .ref ta_name, .ref ta_first, .ref ta_gain, .ref ta_rough, .ref ta_custom, .ref ta_part, .ref ta_whole, .ref ta_roundPerson, .ref ta_roundClock, .ref ta_roundHour, .ref ta_gunClock, .ref ta_gunHour, .ref tau]))]) [0, 1] rfl
  have hDc := hD.sub (ws' := [(xx, .inr (10, [.ref rr, .ref ta, .ref tb, .ref pa, .ref pb, .ref cn, .ref ci, .int 0, .ref cp, .ref ct, .ref hs, .ref rd, .ref wy, .ref ea, .ref eb])), (ta, .inr (8, [.int 0, .int 0, .int 0, .int 0, .int 0, .ref ta_name, .ref ta_first, .ref ta_gain, .ref ta_rough, .ref ta_custom, .ref ta_part, .ref ta_whole, .ref ta_roundPerson, .ref ta_roundClock, .ref ta_roundHour, .ref ta_gunClock, .ref ta_gunHour, .ref tau]))]) [0, 1] (by decide) rfl
  have hKc := hK.sub (tys' := []) [] rfl
  have hFc := va_free (wc := [(xx, .inr (10, [.ref rr, .ref ta, .ref tb, .ref pa, .ref pb, .ref cn, .ref ci, .int 0, .ref cp, .ref ct, .ref hs, .ref rd, .ref wy, .ref ea, .ref eb])), (ta, .inr (8, [.int 0, .int 0, .int 0, .int 0, .int 0, .ref ta_name, .ref ta_first, .ref ta_gain, .ref ta_rough, .ref ta_custom, .ref ta_part, .ref ta_whole, .ref ta_roundPerson, .ref ta_roundClock, .ref ta_roundHour, .ref ta_gunClock, .ref ta_gunHour, .ref tau]))]) hD hS hA [0, 1] rfl
  refine va_calll (va_runV (As := [.int (xs 1), .int (xs 2), .int (xs 3), .int (xs 4), .int (xs 5)]) (rest := []) ⟨hx, hb, hml, hown, hT⟩ (c_X10_rule l dC dI H.size xx (xs 1) (xs 2) (xs 3) (xs 4) (xs 5) rr ta tb pa pb cn ci (0 : Int32) cp ct hs rd wy ea eb (0 : Int32) (0 : Int32) (0 : Int32) ta_name ta_first ta_gain ta_rough ta_custom ta_part ta_whole ta_roundPerson ta_roundClock ta_roundHour ta_gunClock ta_gunHour tau ) (cwV 5 hT (gwV mw_4_189 mw_4_190 mw_4_191 mw_1_1 mw_4_192) rfl rfl rfl (by decide +kernel) ⟨Nat.le_of_ble_eq_true rfl, Nat.le_of_ble_eq_true rfl⟩) ⟨fun a U g mk q => by obtain ⟨q0, q1, qP, qK, qD⟩ := q; exact ⟨q0, q1, qP, va_K.moved (u := U) (U := U.calling g mk a) (Vm.Alike.refl U.vm) qK, qD⟩, va_recv hK hP (ci := 10) (q0 := 0) rfl rfl, fun U hU hW => ⟨rfl, by rw [hU], by rw [hU]; exact hPc, va_K.moved hW.alike hKc, hDc.weaken (fun _ _ _ _ => trivial)⟩⟩ rfl rfl hl.1 rfl (lv_room (Nat.le_of_ble_eq_true rfl)) dL_law_830 ⟨Nat.le_of_ble_eq_true rfl, Nat.le_of_ble_eq_true rfl⟩) hS (fun q _ h => hFc q h) hFc (fun r_12 u t H1 locs ht hvm hw hB hz1 hk1 hS => ?_)
  obtain ⟨hP1, hD1⟩ := hB
  rw [ht] at hP1
  obtain ⟨hP, hD⟩ := va_join (wr := [(mm, .inr (11, [.int 0, .ref mm_tape, .int 0, .ref mm_number, .ref mm_clockName, .ref mm_clockOff, .ref mm_clockGain, .ref mm_clockRough, .ref mm_personName, .ref mm_personOff, .ref mm_personGain, .ref mm_personRough, .ref mm_custom, .ref mm_customA, .ref mm_customB, .ref mm_ruleFrom, .ref mm_ruleTo, .ref mm_roundOf, .ref mm_roundAt, .ref mm_roundHour, .ref mm_gunAt, .ref mm_gunHour, .ref mm_knotSort, .ref mm_knotValue, .int 0, .int 0, .int 0, .int 0, .int 0, .int 0, .int 0, .int 0, .int 0, .int (-1), .int 0, .int 0, .int 0, .int 0, .int 0, .int 0, .int 0, .int 0, .int 0, .int 0, .int 0, .int 0, .ref mm_start, .ref mm_off, .ref mm_last, .ref mm_passed, .ref mm_kept, .ref mm_keptMany, .int 0, .int 0, .ref mm_history, .ref mm_names, .ref mm_worked, .int 0, .int 0, .int (-1), .ref mm_readThing, .ref mm_readHour, .ref mm_readLow, .ref mm_readHigh, .int 0, .int 0, .int 0, .ref mm_imageOff, .ref mm_imageLast, .ref mm_imagePassed, .ref mm_imageKept, .ref mm_imageMany, .ref mm_imageHistory])), (mm_number, .inl (k_mm_number, 10, .inl (fun _ => 0)))]) (w1 := [(xx, .inr (10, [.ref rr, .ref ta, .ref tb, .ref pa, .ref pb, .ref cn, .ref ci, .int 0, .ref cp, .ref ct, .ref hs, .ref rd, .ref wy, .ref ea, .ref eb])), (ta, .inr (8, [.int 0, .int 0, .int 0, .int 0, .int 0, .ref ta_name, .ref ta_first, .ref ta_gain, .ref ta_rough, .ref ta_custom, .ref ta_part, .ref ta_whole, .ref ta_roundPerson, .ref ta_roundClock, .ref ta_roundHour, .ref ta_gunClock, .ref ta_gunHour, .ref tau]))]) hP hD [0, 1] [2, 3] rfl rfl (by decide) (by decide) hk1 hFc hP1 hD1
  generalize H1 = H at hP hS ⊢
  have hP : va_P (dC, dI) vwCl [(mm, .inr (11, [.int 0, .ref mm_tape, .int 0, .ref mm_number, .ref mm_clockName, .ref mm_clockOff, .ref mm_clockGain, .ref mm_clockRough, .ref mm_personName, .ref mm_personOff, .ref mm_personGain, .ref mm_personRough, .ref mm_custom, .ref mm_customA, .ref mm_customB, .ref mm_ruleFrom, .ref mm_ruleTo, .ref mm_roundOf, .ref mm_roundAt, .ref mm_roundHour, .ref mm_gunAt, .ref mm_gunHour, .ref mm_knotSort, .ref mm_knotValue, .int 0, .int 0, .int 0, .int 0, .int 0, .int 0, .int 0, .int 0, .int 0, .int (-1), .int 0, .int 0, .int 0, .int 0, .int 0, .int 0, .int 0, .int 0, .int 0, .int 0, .int 0, .int 0, .ref mm_start, .ref mm_off, .ref mm_last, .ref mm_passed, .ref mm_kept, .ref mm_keptMany, .int 0, .int 0, .ref mm_history, .ref mm_names, .ref mm_worked, .int 0, .int 0, .int (-1), .ref mm_readThing, .ref mm_readHour, .ref mm_readLow, .ref mm_readHigh, .int 0, .int 0, .int 0, .ref mm_imageOff, .ref mm_imageLast, .ref mm_imagePassed, .ref mm_imageKept, .ref mm_imageMany, .ref mm_imageHistory])), (mm_number, .inl (k_mm_number, 10, .inl (fun _ => 0))), (xx, .inr (10, [.ref rr, .ref ta, .ref tb, .ref pa, .ref pb, .ref cn, .ref ci, .int 0, .ref cp, .ref ct, .ref hs, .ref rd, .ref wy, .ref ea, .ref eb])), (ta, .inr (8, [.int 0, .int 0, .int 0, .int 0, .int 0, .ref ta_name, .ref ta_first, .ref ta_gain, .ref ta_rough, .ref ta_custom, .ref ta_part, .ref ta_whole, .ref ta_roundPerson, .ref ta_roundClock, .ref ta_roundHour, .ref ta_gunClock, .ref ta_gunHour, .ref tau]))] H := hP
  have hD : va_D A [(mm, .inr (11, [.int 0, .ref mm_tape, .int 0, .ref mm_number, .ref mm_clockName, .ref mm_clockOff, .ref mm_clockGain, .ref mm_clockRough, .ref mm_personName, .ref mm_personOff, .ref mm_personGain, .ref mm_personRough, .ref mm_custom, .ref mm_customA, .ref mm_customB, .ref mm_ruleFrom, .ref mm_ruleTo, .ref mm_roundOf, .ref mm_roundAt, .ref mm_roundHour, .ref mm_gunAt, .ref mm_gunHour, .ref mm_knotSort, .ref mm_knotValue, .int 0, .int 0, .int 0, .int 0, .int 0, .int 0, .int 0, .int 0, .int 0, .int (-1), .int 0, .int 0, .int 0, .int 0, .int 0, .int 0, .int 0, .int 0, .int 0, .int 0, .int 0, .int 0, .ref mm_start, .ref mm_off, .ref mm_last, .ref mm_passed, .ref mm_kept, .ref mm_keptMany, .int 0, .int 0, .ref mm_history, .ref mm_names, .ref mm_worked, .int 0, .int 0, .int (-1), .ref mm_readThing, .ref mm_readHour, .ref mm_readLow, .ref mm_readHigh, .int 0, .int 0, .int 0, .ref mm_imageOff, .ref mm_imageLast, .ref mm_imagePassed, .ref mm_imageKept, .ref mm_imageMany, .ref mm_imageHistory])), (mm_number, .inl (k_mm_number, 10, .inl (fun _ => 0))), (xx, .inr (10, [.ref rr, .ref ta, .ref tb, .ref pa, .ref pb, .ref cn, .ref ci, .int 0, .ref cp, .ref ct, .ref hs, .ref rd, .ref wy, .ref ea, .ref eb])), (ta, .inr (8, [.int 0, .int 0, .int 0, .int 0, .int 0, .ref ta_name, .ref ta_first, .ref ta_gain, .ref ta_rough, .ref ta_custom, .ref ta_part, .ref ta_whole, .ref ta_roundPerson, .ref ta_roundClock, .ref ta_roundHour, .ref ta_gunClock, .ref ta_gunHour, .ref tau]))] := hD
  clear hPc hDc hKc hFc hP1 hD1 hk1 hz1 ht hvm
  have hw : r_12 = -9223372036854775808 := hw
  subst r_12
  refine lv_aload_n hx hb dL_law_833 rfl (lv_at hl 2 rfl) ?_
  refine lv_aload_n hx hb dL_law_834 rfl (lv_at hl 4 rfl) ?_
  refine lv_iload hx hb dL_law_835 (lv_at hl 0 rfl) ?_
  refine lv_iconst (v := 1) hx hb dL_law_837 (by decide) ?_
  refine lv_iadd hx hb dL_law_838 ?_
  refine lv_topi (fun z_13 ez_13 => ?_)
  obtain rfl : z_13 = 1 := ez_13.trans (by decide)
  refine va_sld hx hb hX hbl hbA hS (pk_in 1 7 (by decide) (by decide) (by decide)) dL_law_839 ?_
  refine lv_topi (fun z_14 ez_14 => ?_)
  replace ez_14 : z_14 = xs 1 := ez_14
  subst z_14
  refine lv_aload_n hx hb dL_law_840 rfl (lv_at hl 4 rfl) ?_
  refine lv_iload hx hb dL_law_841 (lv_at hl 0 rfl) ?_
  refine lv_iconst (v := 2) hx hb dL_law_843 (by decide) ?_
  refine lv_iadd hx hb dL_law_844 ?_
  refine lv_topi (fun z_15 ez_15 => ?_)
  obtain rfl : z_15 = 2 := ez_15.trans (by decide)
  refine va_sld hx hb hX hbl hbA hS (pk_in 2 7 (by decide) (by decide) (by decide)) dL_law_845 ?_
  refine lv_topi (fun z_16 ez_16 => ?_)
  replace ez_16 : z_16 = xs 2 := ez_16
  subst z_16
  refine lv_aload_n hx hb dL_law_846 rfl (lv_at hl 4 rfl) ?_
  refine lv_iload hx hb dL_law_847 (lv_at hl 0 rfl) ?_
  refine lv_iconst (v := 3) hx hb dL_law_849 (by decide) ?_
  refine lv_iadd hx hb dL_law_850 ?_
  refine lv_topi (fun z_17 ez_17 => ?_)
  obtain rfl : z_17 = 3 := ez_17.trans (by decide)
  refine va_sld hx hb hX hbl hbA hS (pk_in 3 7 (by decide) (by decide) (by decide)) dL_law_851 ?_
  refine lv_topi (fun z_18 ez_18 => ?_)
  replace ez_18 : z_18 = xs 3 := ez_18
  subst z_18
  refine lv_aload_n hx hb dL_law_852 rfl (lv_at hl 4 rfl) ?_
  refine lv_iload hx hb dL_law_853 (lv_at hl 0 rfl) ?_
  refine lv_iconst (v := 4) hx hb dL_law_855 (by decide) ?_
  refine lv_iadd hx hb dL_law_856 ?_
  refine lv_topi (fun z_19 ez_19 => ?_)
  obtain rfl : z_19 = 4 := ez_19.trans (by decide)
  refine va_sld hx hb hX hbl hbA hS (pk_in 4 7 (by decide) (by decide) (by decide)) dL_law_857 ?_
  refine lv_topi (fun z_20 ez_20 => ?_)
  replace ez_20 : z_20 = xs 4 := ez_20
  subst z_20
  refine lv_aload_n hx hb dL_law_858 rfl (lv_at hl 4 rfl) ?_
  refine lv_iload hx hb dL_law_859 (lv_at hl 0 rfl) ?_
  refine lv_iconst (v := 5) hx hb dL_law_861 (by decide) ?_
  refine lv_iadd hx hb dL_law_862 ?_
  refine lv_topi (fun z_21 ez_21 => ?_)
  obtain rfl : z_21 = 5 := ez_21.trans (by decide)
  refine va_sld hx hb hX hbl hbA hS (pk_in 5 7 (by decide) (by decide) (by decide)) dL_law_863 ?_
  refine lv_topi (fun z_22 ez_22 => ?_)
  replace ez_22 : z_22 = xs 5 := ez_22
  subst z_22
  have hPc := hP.sub (ws' := [(mm, .inr (11, [.int 0, .ref mm_tape, .int 0, .ref mm_number, .ref mm_clockName, .ref mm_clockOff, .ref mm_clockGain, .ref mm_clockRough, .ref mm_personName, .ref mm_personOff, .ref mm_personGain, .ref mm_personRough, .ref mm_custom, .ref mm_customA, .ref mm_customB, .ref mm_ruleFrom, .ref mm_ruleTo, .ref mm_roundOf, .ref mm_roundAt, .ref mm_roundHour, .ref mm_gunAt, .ref mm_gunHour, .ref mm_knotSort, .ref mm_knotValue, .int 0, .int 0, .int 0, .int 0, .int 0, .int 0, .int 0, .int 0, .int 0, .int (-1), .int 0, .int 0, .int 0, .int 0, .int 0, .int 0, .int 0, .int 0, .int 0, .int 0, .int 0, .int 0, .ref mm_start, .ref mm_off, .ref mm_last, .ref mm_passed, .ref mm_kept, .ref mm_keptMany, .int 0, .int 0, .ref mm_history, .ref mm_names, .ref mm_worked, .int 0, .int 0, .int (-1), .ref mm_readThing, .ref mm_readHour, .ref mm_readLow, .ref mm_readHigh, .int 0, .int 0, .int 0, .ref mm_imageOff, .ref mm_imageLast, .ref mm_imagePassed, .ref mm_imageKept, .ref mm_imageMany, .ref mm_imageHistory])), (mm_number, .inl (k_mm_number, 10, .inl (fun _ => 0)))]) [0, 1] rfl
  have hDc := hD.sub (ws' := [(mm, .inr (11, [.int 0, .ref mm_tape, .int 0, .ref mm_number, .ref mm_clockName, .ref mm_clockOff, .ref mm_clockGain, .ref mm_clockRough, .ref mm_personName, .ref mm_personOff, .ref mm_personGain, .ref mm_personRough, .ref mm_custom, .ref mm_customA, .ref mm_customB, .ref mm_ruleFrom, .ref mm_ruleTo, .ref mm_roundOf, .ref mm_roundAt, .ref mm_roundHour, .ref mm_gunAt, .ref mm_gunHour, .ref mm_knotSort, .ref mm_knotValue, .int 0, .int 0, .int 0, .int 0, .int 0, .int 0, .int 0, .int 0, .int 0, .int (-1), .int 0, .int 0, .int 0, .int 0, .int 0, .int 0, .int 0, .int 0, .int 0, .int 0, .int 0, .int 0, .ref mm_start, .ref mm_off, .ref mm_last, .ref mm_passed, .ref mm_kept, .ref mm_keptMany, .int 0, .int 0, .ref mm_history, .ref mm_names, .ref mm_worked, .int 0, .int 0, .int (-1), .ref mm_readThing, .ref mm_readHour, .ref mm_readLow, .ref mm_readHigh, .int 0, .int 0, .int 0, .ref mm_imageOff, .ref mm_imageLast, .ref mm_imagePassed, .ref mm_imageKept, .ref mm_imageMany, .ref mm_imageHistory])), (mm_number, .inl (k_mm_number, 10, .inl (fun _ => 0)))]) [0, 1] (by decide) rfl
  have hKc := hK.sub (tys' := [(k_mm_number, .int)]) [0] rfl
  have hFc := va_free (wc := [(mm, .inr (11, [.int 0, .ref mm_tape, .int 0, .ref mm_number, .ref mm_clockName, .ref mm_clockOff, .ref mm_clockGain, .ref mm_clockRough, .ref mm_personName, .ref mm_personOff, .ref mm_personGain, .ref mm_personRough, .ref mm_custom, .ref mm_customA, .ref mm_customB, .ref mm_ruleFrom, .ref mm_ruleTo, .ref mm_roundOf, .ref mm_roundAt, .ref mm_roundHour, .ref mm_gunAt, .ref mm_gunHour, .ref mm_knotSort, .ref mm_knotValue, .int 0, .int 0, .int 0, .int 0, .int 0, .int 0, .int 0, .int 0, .int 0, .int (-1), .int 0, .int 0, .int 0, .int 0, .int 0, .int 0, .int 0, .int 0, .int 0, .int 0, .int 0, .int 0, .ref mm_start, .ref mm_off, .ref mm_last, .ref mm_passed, .ref mm_kept, .ref mm_keptMany, .int 0, .int 0, .ref mm_history, .ref mm_names, .ref mm_worked, .int 0, .int 0, .int (-1), .ref mm_readThing, .ref mm_readHour, .ref mm_readLow, .ref mm_readHigh, .int 0, .int 0, .int 0, .ref mm_imageOff, .ref mm_imageLast, .ref mm_imagePassed, .ref mm_imageKept, .ref mm_imageMany, .ref mm_imageHistory])), (mm_number, .inl (k_mm_number, 10, .inl (fun _ => 0)))]) hD hS hA [0, 1] rfl
  have := (by decide : (0 : Int32).toInt = 0)
  have := (by decide : (0 : Int32).toInt = 0)
  have := (by decide : (0 : Int32).toInt = 0)
  have := (by decide : (0 : Int32).toInt = 0)
  have := (by decide : (0 : Int32).toInt = 0)
  have := (by decide : (0 : Int32).toInt = 0)
  have := (by decide : (0 : Int32).toInt = 0)
  have := (by decide : (0 : Int32).toInt = 0)
  have := (by decide : (0 : Int32).toInt = 0)
  have := (by decide : (0 : Int32).toInt = 0)
  have := (by decide : (0 : Int32).toInt = 0)
  have := (by decide : ((-1) : Int32).toInt = -1)
  have := (by decide : (0 : Int32).toInt = 0)
  have := (by decide : (0 : Int32).toInt = 0)
  have := (by decide : (0 : Int32).toInt = 0)
  have := (by decide : (0 : Int32).toInt = 0)
  have := (by decide : (0 : Int32).toInt = 0)
  have := (by decide : (0 : Int32).toInt = 0)
  have := (by decide : (0 : Int32).toInt = 0)
  have := (by decide : (0 : Int32).toInt = 0)
  have := (by decide : (0 : Int32).toInt = 0)
  have := (by decide : (0 : Int32).toInt = 0)
  have := (by decide : (0 : Int32).toInt = 0)
  have := (by decide : (0 : Int32).toInt = 0)
  have := (by decide : (0 : Int32).toInt = 0)
  have := (by decide : (0 : Int32).toInt = 0)
  have := (by decide : (0 : Int32).toInt = 0)
  have := (by decide : (0 : Int32).toInt = 0)
  have := (by decide : ((-1) : Int32).toInt = -1)
  have := (by decide : (0 : Int32).toInt = 0)
  have := (by decide : (0 : Int32).toInt = 0)
  have := (by decide : (0 : Int32).toInt = 0)
  refine va_calll (va_runV (As := [.int (xs 1), .int (xs 2), .int (xs 3), .int (xs 4), .int (xs 5)]) (rest := [.long (-9223372036854775808)]) ⟨hx, hb, hml, hown, hT⟩ (c_X11_rule l dC dI H.size mm (xs 1) (xs 2) (xs 3) (xs 4) (xs 5) (0 : Int32) mm_tape (0 : Int32) mm_number mm_clockName mm_clockOff mm_clockGain mm_clockRough mm_personName mm_personOff mm_personGain mm_personRough mm_custom mm_customA mm_customB mm_ruleFrom mm_ruleTo mm_roundOf mm_roundAt mm_roundHour mm_gunAt mm_gunHour mm_knotSort mm_knotValue (0 : Int32) (0 : Int32) (0 : Int32) (0 : Int32) (0 : Int32) (0 : Int32) (0 : Int32) (0 : Int32) (0 : Int32) ((-1) : Int32) (0 : Int32) (0 : Int32) (0 : Int32) (0 : Int32) (0 : Int32) (0 : Int32) (0 : Int32) (0 : Int32) (0 : Int32) (0 : Int32) (0 : Int32) (0 : Int32) mm_start mm_off mm_last mm_passed mm_kept mm_keptMany (0 : Int32) (0 : Int32) mm_history mm_names mm_worked (0 : Int32) (0 : Int32) ((-1) : Int32) mm_readThing mm_readHour mm_readLow mm_readHigh (0 : Int32) (0 : Int32) (0 : Int32) mm_imageOff mm_imageLast mm_imagePassed mm_imageKept mm_imageMany mm_imageHistory k_mm_number (fun _ => 0) (fun _ => rfl)) (cwV 5 hT (gwV mw_7_179 mw_7_180 mw_7_181 mw_1_16 mw_7_182) rfl rfl rfl (by decide +kernel) ⟨Nat.le_of_ble_eq_true rfl, Nat.le_of_ble_eq_true rfl⟩) ⟨fun a U g mk q => by obtain ⟨q0, q1, qP, qK, qD⟩ := q; exact ⟨q0, q1, qP, va_K.moved (u := U) (U := U.calling g mk a) (Vm.Alike.refl U.vm) qK, qD⟩, va_recv hK hP (ci := 11) (q0 := 0) rfl rfl, fun U hU hW => ⟨rfl, by rw [hU], by rw [hU]; exact hPc, va_K.moved hW.alike hKc, hDc.weaken (fun _ _ _ _ => trivial)⟩⟩ rfl rfl hl.1 rfl (lv_room (Nat.le_of_ble_eq_true rfl)) dL_law_864 ⟨Nat.le_of_ble_eq_true rfl, Nat.le_of_ble_eq_true rfl⟩) hS (fun q _ h => hFc q h) hFc (fun r_24 u t H1 locs ht hvm hw hB hz1 hk1 hS => ?_)
  obtain ⟨hP1, hD1⟩ := hB
  rw [ht] at hP1
  obtain ⟨hP, hD⟩ := va_join (wr := [(xx, .inr (10, [.ref rr, .ref ta, .ref tb, .ref pa, .ref pb, .ref cn, .ref ci, .int 0, .ref cp, .ref ct, .ref hs, .ref rd, .ref wy, .ref ea, .ref eb])), (ta, .inr (8, [.int 0, .int 0, .int 0, .int 0, .int 0, .ref ta_name, .ref ta_first, .ref ta_gain, .ref ta_rough, .ref ta_custom, .ref ta_part, .ref ta_whole, .ref ta_roundPerson, .ref ta_roundClock, .ref ta_roundHour, .ref ta_gunClock, .ref ta_gunHour, .ref tau]))]) (w1 := [(mm, .inr (11, [.int 0, .ref mm_tape, .int 0, .ref mm_number, .ref mm_clockName, .ref mm_clockOff, .ref mm_clockGain, .ref mm_clockRough, .ref mm_personName, .ref mm_personOff, .ref mm_personGain, .ref mm_personRough, .ref mm_custom, .ref mm_customA, .ref mm_customB, .ref mm_ruleFrom, .ref mm_ruleTo, .ref mm_roundOf, .ref mm_roundAt, .ref mm_roundHour, .ref mm_gunAt, .ref mm_gunHour, .ref mm_knotSort, .ref mm_knotValue, .int 0, .int 0, .int 0, .int 0, .int 0, .int 0, .int 0, .int 0, .int 0, .int (-1), .int 0, .int 0, .int 0, .int 0, .int 0, .int 0, .int 0, .int 0, .int 0, .int 0, .int 0, .int 0, .ref mm_start, .ref mm_off, .ref mm_last, .ref mm_passed, .ref mm_kept, .ref mm_keptMany, .int 0, .int 0, .ref mm_history, .ref mm_names, .ref mm_worked, .int 0, .int 0, .int (-1), .ref mm_readThing, .ref mm_readHour, .ref mm_readLow, .ref mm_readHigh, .int 0, .int 0, .int 0, .ref mm_imageOff, .ref mm_imageLast, .ref mm_imagePassed, .ref mm_imageKept, .ref mm_imageMany, .ref mm_imageHistory])), (mm_number, .inl (k_mm_number, 10, .inl (fun _ => 0)))]) hP hD [0, 1] [2, 3] rfl rfl (by decide) (by decide) hk1 hFc hP1 hD1
  generalize H1 = H at hP hS ⊢
  have hP : va_P (dC, dI) vwCl [(xx, .inr (10, [.ref rr, .ref ta, .ref tb, .ref pa, .ref pb, .ref cn, .ref ci, .int 0, .ref cp, .ref ct, .ref hs, .ref rd, .ref wy, .ref ea, .ref eb])), (ta, .inr (8, [.int 0, .int 0, .int 0, .int 0, .int 0, .ref ta_name, .ref ta_first, .ref ta_gain, .ref ta_rough, .ref ta_custom, .ref ta_part, .ref ta_whole, .ref ta_roundPerson, .ref ta_roundClock, .ref ta_roundHour, .ref ta_gunClock, .ref ta_gunHour, .ref tau])), (mm, .inr (11, [.int 0, .ref mm_tape, .int 0, .ref mm_number, .ref mm_clockName, .ref mm_clockOff, .ref mm_clockGain, .ref mm_clockRough, .ref mm_personName, .ref mm_personOff, .ref mm_personGain, .ref mm_personRough, .ref mm_custom, .ref mm_customA, .ref mm_customB, .ref mm_ruleFrom, .ref mm_ruleTo, .ref mm_roundOf, .ref mm_roundAt, .ref mm_roundHour, .ref mm_gunAt, .ref mm_gunHour, .ref mm_knotSort, .ref mm_knotValue, .int 0, .int 0, .int 0, .int 0, .int 0, .int 0, .int 0, .int 0, .int 0, .int (-1), .int 0, .int 0, .int 0, .int 0, .int 0, .int 0, .int 0, .int 0, .int 0, .int 0, .int 0, .int 0, .ref mm_start, .ref mm_off, .ref mm_last, .ref mm_passed, .ref mm_kept, .ref mm_keptMany, .int 0, .int 0, .ref mm_history, .ref mm_names, .ref mm_worked, .int 0, .int 0, .int (-1), .ref mm_readThing, .ref mm_readHour, .ref mm_readLow, .ref mm_readHigh, .int 0, .int 0, .int 0, .ref mm_imageOff, .ref mm_imageLast, .ref mm_imagePassed, .ref mm_imageKept, .ref mm_imageMany, .ref mm_imageHistory])), (mm_number, .inl (k_mm_number, 10, .inl (fun _ => 0)))] H := hP
  have hD : va_D A [(xx, .inr (10, [.ref rr, .ref ta, .ref tb, .ref pa, .ref pb, .ref cn, .ref ci, .int 0, .ref cp, .ref ct, .ref hs, .ref rd, .ref wy, .ref ea, .ref eb])), (ta, .inr (8, [.int 0, .int 0, .int 0, .int 0, .int 0, .ref ta_name, .ref ta_first, .ref ta_gain, .ref ta_rough, .ref ta_custom, .ref ta_part, .ref ta_whole, .ref ta_roundPerson, .ref ta_roundClock, .ref ta_roundHour, .ref ta_gunClock, .ref ta_gunHour, .ref tau])), (mm, .inr (11, [.int 0, .ref mm_tape, .int 0, .ref mm_number, .ref mm_clockName, .ref mm_clockOff, .ref mm_clockGain, .ref mm_clockRough, .ref mm_personName, .ref mm_personOff, .ref mm_personGain, .ref mm_personRough, .ref mm_custom, .ref mm_customA, .ref mm_customB, .ref mm_ruleFrom, .ref mm_ruleTo, .ref mm_roundOf, .ref mm_roundAt, .ref mm_roundHour, .ref mm_gunAt, .ref mm_gunHour, .ref mm_knotSort, .ref mm_knotValue, .int 0, .int 0, .int 0, .int 0, .int 0, .int 0, .int 0, .int 0, .int 0, .int (-1), .int 0, .int 0, .int 0, .int 0, .int 0, .int 0, .int 0, .int 0, .int 0, .int 0, .int 0, .int 0, .ref mm_start, .ref mm_off, .ref mm_last, .ref mm_passed, .ref mm_kept, .ref mm_keptMany, .int 0, .int 0, .ref mm_history, .ref mm_names, .ref mm_worked, .int 0, .int 0, .int (-1), .ref mm_readThing, .ref mm_readHour, .ref mm_readLow, .ref mm_readHigh, .int 0, .int 0, .int 0, .ref mm_imageOff, .ref mm_imageLast, .ref mm_imagePassed, .ref mm_imageKept, .ref mm_imageMany, .ref mm_imageHistory])), (mm_number, .inl (k_mm_number, 10, .inl (fun _ => 0)))] := hD
  clear hPc hDc hKc hFc hP1 hD1 hk1 hz1 ht hvm
  have hw : r_24 = -9223372036854775808 := hw
  subst r_24
  refine W.lcmp hx hb dL_law_867 ?_
  refine lv_topi (fun z_25 ez_25 => ?_)
  obtain rfl : z_25 = 0 := ez_25.trans (by decide)
  refine lv_if_eq (tgt := 1482) hx hb dL_law_868 (by decide) (fun c_26 => ?_) (fun c_26 => absurd c_26 (by decide))
  refine lv_iinc (v := 7) (lv' := [(4, .int 7), (3, .ref oo), (2, .ref mm), (1, .ref xx), (0, .ref b)]) hx hb dL_law_1482 hl (k := 0) rfl (by decide) (by decide) rfl (fun ls hl => ?_)
  refine lv_goto (tgt := 23) hx hb dL_law_1485 (by decide) ?_
  refine lv_iload hx hb dL_law_23 (lv_at hl 0 rfl) ?_
  refine lv_aload_n hx hb dL_law_25 rfl (lv_at hl 4 rfl) ?_
  refine va_slen hx hb hX hbl hbA hS dL_law_26 ?_
  refine lv_topi (fun z_27 ez_27 => ?_)
  obtain rfl : z_27 = 7 := ez_27.trans (by decide)
  refine lv_bipush (v := 7) hx hb dL_law_27 (by decide) ?_
  refine lv_isub hx hb dL_law_29 ?_
  refine lv_topi (fun z_28 ez_28 => ?_)
  obtain rfl : z_28 = 0 := ez_28.trans (by decide)
  refine lv_icmp_gt (tgt := 1488) hx hb dL_law_30 (by decide) (fun c_29 => ?_) (fun c_29 => absurd c_29 (by decide))
  refine lv_iconst (v := 1) hx hb dL_law_1488 (by decide) ?_
  refine va_forget (fun q hq => hAo _ (hS.2.2 q hq)) ?_
  refine W.widen (k := 600002) (n := 7302232) (Nat.le_of_ble_eq_true rfl) (Nat.le_of_ble_eq_true rfl) ?_
  exact lw_ret hx hb hr hlocks dL_law_1489
set_option maxHeartbeats 4000000 in
set_option maxRecDepth 100000 in
theorem law_op_15 {p : Program} {l : Launch} {e : Env} {s : State} {m : MethodId} {below : List Frame} {meth : Method} {c : Code} {dC : Nat → ClassId} {dI : Nat → Nat → Nat} {b : Nat} {xs : Nat → Int32} {A : Nat → Prop} (C0 : lw_At p s m meth c b 7 xs) (hA : ∀ q, s.heap.size ≤ q → A q) (hbA : ¬ A b) (hAo : ∀ q, A q → s.heap.size ≤ q) {xx : Nat} {rr : Nat} {ta : Nat} {tb : Nat} {pa : Nat} {pb : Nat} {cn : Nat} {ci : Nat} {cp : Nat} {ct : Nat} {hs : Nat} {rd : Nat} {wy : Nat} {ea : Nat} {eb : Nat} {ta_name : Nat} {ta_first : Nat} {ta_gain : Nat} {ta_rough : Nat} {ta_custom : Nat} {ta_part : Nat} {ta_whole : Nat} {ta_roundPerson : Nat} {ta_roundClock : Nat} {ta_roundHour : Nat} {ta_gunClock : Nat} {ta_gunHour : Nat} {tau : Nat} {mm : Nat} {mm_tape : Nat} {mm_number : Nat} {mm_clockName : Nat} {mm_clockOff : Nat} {mm_clockGain : Nat} {mm_clockRough : Nat} {mm_personName : Nat} {mm_personOff : Nat} {mm_personGain : Nat} {mm_personRough : Nat} {mm_custom : Nat} {mm_customA : Nat} {mm_customB : Nat} {mm_ruleFrom : Nat} {mm_ruleTo : Nat} {mm_roundOf : Nat} {mm_roundAt : Nat} {mm_roundHour : Nat} {mm_gunAt : Nat} {mm_gunHour : Nat} {mm_knotSort : Nat} {mm_knotValue : Nat} {mm_start : Nat} {mm_off : Nat} {mm_last : Nat} {mm_passed : Nat} {mm_kept : Nat} {mm_keptMany : Nat} {mm_history : Nat} {mm_names : Nat} {mm_worked : Nat} {mm_readThing : Nat} {mm_readHour : Nat} {mm_readLow : Nat} {mm_readHigh : Nat} {mm_imageOff : Nat} {mm_imageLast : Nat} {mm_imagePassed : Nat} {mm_imageKept : Nat} {mm_imageMany : Nat} {mm_imageHistory : Nat} {k_mm_number : ClassId} {oo : Nat} {H : Heap} {locs : List Loc} {ls : Array Slot} (hK : va_K (dC, dI) vwCl [(k_mm_number, .int)] s) (hP : va_P (dC, dI) vwCl [(xx, .inr (10, [.ref rr, .ref ta, .ref tb, .ref pa, .ref pb, .ref cn, .ref ci, .int 0, .ref cp, .ref ct, .ref hs, .ref rd, .ref wy, .ref ea, .ref eb])), (ta, .inr (8, [.int 0, .int 0, .int 0, .int 0, .int 0, .ref ta_name, .ref ta_first, .ref ta_gain, .ref ta_rough, .ref ta_custom, .ref ta_part, .ref ta_whole, .ref ta_roundPerson, .ref ta_roundClock, .ref ta_roundHour, .ref ta_gunClock, .ref ta_gunHour, .ref tau])), (mm, .inr (11, [.int 0, .ref mm_tape, .int 0, .ref mm_number, .ref mm_clockName, .ref mm_clockOff, .ref mm_clockGain, .ref mm_clockRough, .ref mm_personName, .ref mm_personOff, .ref mm_personGain, .ref mm_personRough, .ref mm_custom, .ref mm_customA, .ref mm_customB, .ref mm_ruleFrom, .ref mm_ruleTo, .ref mm_roundOf, .ref mm_roundAt, .ref mm_roundHour, .ref mm_gunAt, .ref mm_gunHour, .ref mm_knotSort, .ref mm_knotValue, .int 0, .int 0, .int 0, .int 0, .int 0, .int 0, .int 0, .int 0, .int 0, .int (-1), .int 0, .int 0, .int 0, .int 0, .int 0, .int 0, .int 0, .int 0, .int 0, .int 0, .int 0, .int 0, .ref mm_start, .ref mm_off, .ref mm_last, .ref mm_passed, .ref mm_kept, .ref mm_keptMany, .int 0, .int 0, .ref mm_history, .ref mm_names, .ref mm_worked, .int 0, .int 0, .int (-1), .ref mm_readThing, .ref mm_readHour, .ref mm_readLow, .ref mm_readHigh, .int 0, .int 0, .int 0, .ref mm_imageOff, .ref mm_imageLast, .ref mm_imagePassed, .ref mm_imageKept, .ref mm_imageMany, .ref mm_imageHistory])), (mm_number, .inl (k_mm_number, 10, .inl (fun _ => 0)))] H) (hD : va_D A [(xx, .inr (10, [.ref rr, .ref ta, .ref tb, .ref pa, .ref pb, .ref cn, .ref ci, .int 0, .ref cp, .ref ct, .ref hs, .ref rd, .ref wy, .ref ea, .ref eb])), (ta, .inr (8, [.int 0, .int 0, .int 0, .int 0, .int 0, .ref ta_name, .ref ta_first, .ref ta_gain, .ref ta_rough, .ref ta_custom, .ref ta_part, .ref ta_whole, .ref ta_roundPerson, .ref ta_roundClock, .ref ta_roundHour, .ref ta_gunClock, .ref ta_gunHour, .ref tau])), (mm, .inr (11, [.int 0, .ref mm_tape, .int 0, .ref mm_number, .ref mm_clockName, .ref mm_clockOff, .ref mm_clockGain, .ref mm_clockRough, .ref mm_personName, .ref mm_personOff, .ref mm_personGain, .ref mm_personRough, .ref mm_custom, .ref mm_customA, .ref mm_customB, .ref mm_ruleFrom, .ref mm_ruleTo, .ref mm_roundOf, .ref mm_roundAt, .ref mm_roundHour, .ref mm_gunAt, .ref mm_gunHour, .ref mm_knotSort, .ref mm_knotValue, .int 0, .int 0, .int 0, .int 0, .int 0, .int 0, .int 0, .int 0, .int 0, .int (-1), .int 0, .int 0, .int 0, .int 0, .int 0, .int 0, .int 0, .int 0, .int 0, .int 0, .int 0, .int 0, .ref mm_start, .ref mm_off, .ref mm_last, .ref mm_passed, .ref mm_kept, .ref mm_keptMany, .int 0, .int 0, .ref mm_history, .ref mm_names, .ref mm_worked, .int 0, .int 0, .int (-1), .ref mm_readThing, .ref mm_readHour, .ref mm_readLow, .ref mm_readHigh, .int 0, .int 0, .int 0, .ref mm_imageOff, .ref mm_imageLast, .ref mm_imagePassed, .ref mm_imageKept, .ref mm_imageMany, .ref mm_imageHistory])), (mm_number, .inl (k_mm_number, 10, .inl (fun _ => 0)))]) (hS : va_S A s.heap H locs) (hl : lv_has ls 7 [(4, .int 0), (3, .ref oo), (2, .ref mm), (1, .ref xx), (0, .ref b)]) : W p l e room_1 s m #[Value.ref b] below meth c H locs 160 67979 (lw_Z below #[Value.ref b] s) (F0 m 873 ls []) := by
  obtain ⟨hx, hb, hr, hml, hown, hts, hX, hbl, hlocks, hgv⟩ := C0
  have hT : ∀ w ∈ pw_T, w.before #[Value.ref b] s = true := fun w h => hts w (List.mem_filter.mp h).1
  have hown : s.vm.findClass RL = some m.cls := hown
  refine lv_aload_n hx hb dL_law_873 rfl (lv_at hl 3 rfl) ?_
  refine lv_aload_n hx hb dL_law_874 rfl (lv_at hl 4 rfl) ?_
  refine lv_iload hx hb dL_law_875 (lv_at hl 0 rfl) ?_
  refine lv_iconst (v := 1) hx hb dL_law_877 (by decide) ?_
  refine lv_iadd hx hb dL_law_878 ?_
  refine lv_topi (fun z_1 ez_1 => ?_)
  obtain rfl : z_1 = 1 := ez_1.trans (by decide)
  refine va_sld hx hb hX hbl hbA hS (pk_in 1 7 (by decide) (by decide) (by decide)) dL_law_879 ?_
  refine lv_topi (fun z_2 ez_2 => ?_)
  replace ez_2 : z_2 = xs 1 := ez_2
  subst z_2
  refine lv_aload_n hx hb dL_law_880 rfl (lv_at hl 4 rfl) ?_
  refine lv_iload hx hb dL_law_881 (lv_at hl 0 rfl) ?_
  refine lv_iconst (v := 2) hx hb dL_law_883 (by decide) ?_
  refine lv_iadd hx hb dL_law_884 ?_
  refine lv_topi (fun z_3 ez_3 => ?_)
  obtain rfl : z_3 = 2 := ez_3.trans (by decide)
  refine va_sld hx hb hX hbl hbA hS (pk_in 2 7 (by decide) (by decide) (by decide)) dL_law_885 ?_
  refine lv_topi (fun z_4 ez_4 => ?_)
  replace ez_4 : z_4 = xs 2 := ez_4
  subst z_4
  refine lv_aload_n hx hb dL_law_886 rfl (lv_at hl 4 rfl) ?_
  refine lv_iload hx hb dL_law_887 (lv_at hl 0 rfl) ?_
  refine lv_iconst (v := 3) hx hb dL_law_889 (by decide) ?_
  refine lv_iadd hx hb dL_law_890 ?_
  refine lv_topi (fun z_5 ez_5 => ?_)
  obtain rfl : z_5 = 3 := ez_5.trans (by decide)
  refine va_sld hx hb hX hbl hbA hS (pk_in 3 7 (by decide) (by decide) (by decide)) dL_law_891 ?_
  refine lv_topi (fun z_6 ez_6 => ?_)
  replace ez_6 : z_6 = xs 3 := ez_6
  subst z_6
  have hPc := hP.sub (ws' := [(xx, .inr (10, [.ref rr, .ref ta, .ref tb, .ref pa, .ref pb, .ref cn, .ref ci, .int 0, .ref cp, .ref ct, .ref hs, .ref rd, .ref wy, .ref ea, .ref eb])), (ta, .inr (8, [.int 0, .int 0, .int 0, .int 0, .int 0, .ref ta_name, .ref ta_first, .ref ta_gain, .ref ta_rough, .ref ta_custom, .ref ta_part, .ref ta_whole, .ref ta_roundPerson, .ref ta_roundClock, .ref ta_roundHour, .ref ta_gunClock, .ref ta_gunHour, .ref tau]))]) [0, 1] rfl
  have hDc := hD.sub (ws' := [(xx, .inr (10, [.ref rr, .ref ta, .ref tb, .ref pa, .ref pb, .ref cn, .ref ci, .int 0, .ref cp, .ref ct, .ref hs, .ref rd, .ref wy, .ref ea, .ref eb])), (ta, .inr (8, [.int 0, .int 0, .int 0, .int 0, .int 0, .ref ta_name, .ref ta_first, .ref ta_gain, .ref ta_rough, .ref ta_custom, .ref ta_part, .ref ta_whole, .ref ta_roundPerson, .ref ta_roundClock, .ref ta_roundHour, .ref ta_gunClock, .ref ta_gunHour, .ref tau]))]) [0, 1] (by decide) rfl
  have hKc := hK.sub (tys' := []) [] rfl
  have hFc := va_free (wc := [(xx, .inr (10, [.ref rr, .ref ta, .ref tb, .ref pa, .ref pb, .ref cn, .ref ci, .int 0, .ref cp, .ref ct, .ref hs, .ref rd, .ref wy, .ref ea, .ref eb])), (ta, .inr (8, [.int 0, .int 0, .int 0, .int 0, .int 0, .ref ta_name, .ref ta_first, .ref ta_gain, .ref ta_rough, .ref ta_custom, .ref ta_part, .ref ta_whole, .ref ta_roundPerson, .ref ta_roundClock, .ref ta_roundHour, .ref ta_gunClock, .ref ta_gunHour, .ref tau]))]) hD hS hA [0, 1] rfl
  refine va_calli (va_runV (As := [.int (xs 1), .int (xs 2), .int (xs 3)]) (rest := []) ⟨hx, hb, hml, hown, hT⟩ (c_X10_moved l dC dI H.size xx (xs 1) (xs 2) (xs 3) rr ta tb pa pb cn ci (0 : Int32) cp ct hs rd wy ea eb (0 : Int32) (0 : Int32) (0 : Int32) ta_name ta_first ta_gain ta_rough ta_custom ta_part ta_whole ta_roundPerson ta_roundClock ta_roundHour ta_gunClock ta_gunHour tau ) (cwV 3 hT (gwV mw_4_202 mw_4_203 mw_4_204 mw_1_1 mw_4_205) rfl rfl rfl (by decide +kernel) ⟨Nat.le_of_ble_eq_true rfl, Nat.le_of_ble_eq_true rfl⟩) ⟨fun a U g mk q => by obtain ⟨q0, q1, qP, qK, qD⟩ := q; exact ⟨q0, q1, qP, va_K.moved (u := U) (U := U.calling g mk a) (Vm.Alike.refl U.vm) qK, qD⟩, va_recv hK hP (ci := 10) (q0 := 0) rfl rfl, fun U hU hW => ⟨rfl, by rw [hU], by rw [hU]; exact hPc, va_K.moved hW.alike hKc, hDc.weaken (fun _ _ _ _ => trivial)⟩⟩ rfl rfl hl.1 rfl (lv_room (Nat.le_of_ble_eq_true rfl)) dL_law_892 ⟨Nat.le_of_ble_eq_true rfl, Nat.le_of_ble_eq_true rfl⟩) hS (fun q _ h => hFc q h) hFc (fun r_8 u t H1 locs ht hvm hw hB hz1 hk1 hS => ?_)
  obtain ⟨hP1, hD1⟩ := hB
  rw [ht] at hP1
  obtain ⟨hP, hD⟩ := va_join (wr := [(mm, .inr (11, [.int 0, .ref mm_tape, .int 0, .ref mm_number, .ref mm_clockName, .ref mm_clockOff, .ref mm_clockGain, .ref mm_clockRough, .ref mm_personName, .ref mm_personOff, .ref mm_personGain, .ref mm_personRough, .ref mm_custom, .ref mm_customA, .ref mm_customB, .ref mm_ruleFrom, .ref mm_ruleTo, .ref mm_roundOf, .ref mm_roundAt, .ref mm_roundHour, .ref mm_gunAt, .ref mm_gunHour, .ref mm_knotSort, .ref mm_knotValue, .int 0, .int 0, .int 0, .int 0, .int 0, .int 0, .int 0, .int 0, .int 0, .int (-1), .int 0, .int 0, .int 0, .int 0, .int 0, .int 0, .int 0, .int 0, .int 0, .int 0, .int 0, .int 0, .ref mm_start, .ref mm_off, .ref mm_last, .ref mm_passed, .ref mm_kept, .ref mm_keptMany, .int 0, .int 0, .ref mm_history, .ref mm_names, .ref mm_worked, .int 0, .int 0, .int (-1), .ref mm_readThing, .ref mm_readHour, .ref mm_readLow, .ref mm_readHigh, .int 0, .int 0, .int 0, .ref mm_imageOff, .ref mm_imageLast, .ref mm_imagePassed, .ref mm_imageKept, .ref mm_imageMany, .ref mm_imageHistory])), (mm_number, .inl (k_mm_number, 10, .inl (fun _ => 0)))]) (w1 := [(xx, .inr (10, [.ref rr, .ref ta, .ref tb, .ref pa, .ref pb, .ref cn, .ref ci, .int 0, .ref cp, .ref ct, .ref hs, .ref rd, .ref wy, .ref ea, .ref eb])), (ta, .inr (8, [.int 0, .int 0, .int 0, .int 0, .int 0, .ref ta_name, .ref ta_first, .ref ta_gain, .ref ta_rough, .ref ta_custom, .ref ta_part, .ref ta_whole, .ref ta_roundPerson, .ref ta_roundClock, .ref ta_roundHour, .ref ta_gunClock, .ref ta_gunHour, .ref tau]))]) hP hD [0, 1] [2, 3] rfl rfl (by decide) (by decide) hk1 hFc hP1 hD1
  generalize H1 = H at hP hS ⊢
  have hP : va_P (dC, dI) vwCl [(mm, .inr (11, [.int 0, .ref mm_tape, .int 0, .ref mm_number, .ref mm_clockName, .ref mm_clockOff, .ref mm_clockGain, .ref mm_clockRough, .ref mm_personName, .ref mm_personOff, .ref mm_personGain, .ref mm_personRough, .ref mm_custom, .ref mm_customA, .ref mm_customB, .ref mm_ruleFrom, .ref mm_ruleTo, .ref mm_roundOf, .ref mm_roundAt, .ref mm_roundHour, .ref mm_gunAt, .ref mm_gunHour, .ref mm_knotSort, .ref mm_knotValue, .int 0, .int 0, .int 0, .int 0, .int 0, .int 0, .int 0, .int 0, .int 0, .int (-1), .int 0, .int 0, .int 0, .int 0, .int 0, .int 0, .int 0, .int 0, .int 0, .int 0, .int 0, .int 0, .ref mm_start, .ref mm_off, .ref mm_last, .ref mm_passed, .ref mm_kept, .ref mm_keptMany, .int 0, .int 0, .ref mm_history, .ref mm_names, .ref mm_worked, .int 0, .int 0, .int (-1), .ref mm_readThing, .ref mm_readHour, .ref mm_readLow, .ref mm_readHigh, .int 0, .int 0, .int 0, .ref mm_imageOff, .ref mm_imageLast, .ref mm_imagePassed, .ref mm_imageKept, .ref mm_imageMany, .ref mm_imageHistory])), (mm_number, .inl (k_mm_number, 10, .inl (fun _ => 0))), (xx, .inr (10, [.ref rr, .ref ta, .ref tb, .ref pa, .ref pb, .ref cn, .ref ci, .int 0, .ref cp, .ref ct, .ref hs, .ref rd, .ref wy, .ref ea, .ref eb])), (ta, .inr (8, [.int 0, .int 0, .int 0, .int 0, .int 0, .ref ta_name, .ref ta_first, .ref ta_gain, .ref ta_rough, .ref ta_custom, .ref ta_part, .ref ta_whole, .ref ta_roundPerson, .ref ta_roundClock, .ref ta_roundHour, .ref ta_gunClock, .ref ta_gunHour, .ref tau]))] H := hP
  have hD : va_D A [(mm, .inr (11, [.int 0, .ref mm_tape, .int 0, .ref mm_number, .ref mm_clockName, .ref mm_clockOff, .ref mm_clockGain, .ref mm_clockRough, .ref mm_personName, .ref mm_personOff, .ref mm_personGain, .ref mm_personRough, .ref mm_custom, .ref mm_customA, .ref mm_customB, .ref mm_ruleFrom, .ref mm_ruleTo, .ref mm_roundOf, .ref mm_roundAt, .ref mm_roundHour, .ref mm_gunAt, .ref mm_gunHour, .ref mm_knotSort, .ref mm_knotValue, .int 0, .int 0, .int 0, .int 0, .int 0, .int 0, .int 0, .int 0, .int 0, .int (-1), .int 0, .int 0, .int 0, .int 0, .int 0, .int 0, .int 0, .int 0, .int 0, .int 0, .int 0, .int 0, .ref mm_start, .ref mm_off, .ref mm_last, .ref mm_passed, .ref mm_kept, .ref mm_keptMany, .int 0, .int 0, .ref mm_history, .ref mm_names, .ref mm_worked, .int 0, .int 0, .int (-1), .ref mm_readThing, .ref mm_readHour, .ref mm_readLow, .ref mm_readHigh, .int 0, .int 0, .int 0, .ref mm_imageOff, .ref mm_imageLast, .ref mm_imagePassed, .ref mm_imageKept, .ref mm_imageMany, .ref mm_imageHistory])), (mm_number, .inl (k_mm_number, 10, .inl (fun _ => 0))), (xx, .inr (10, [.ref rr, .ref ta, .ref tb, .ref pa, .ref pb, .ref cn, .ref ci, .int 0, .ref cp, .ref ct, .ref hs, .ref rd, .ref wy, .ref ea, .ref eb])), (ta, .inr (8, [.int 0, .int 0, .int 0, .int 0, .int 0, .ref ta_name, .ref ta_first, .ref ta_gain, .ref ta_rough, .ref ta_custom, .ref ta_part, .ref ta_whole, .ref ta_roundPerson, .ref ta_roundClock, .ref ta_roundHour, .ref ta_gunClock, .ref ta_gunHour, .ref tau]))] := hD
  clear hPc hDc hKc hFc hP1 hD1 hk1 hz1 ht hvm
  have hw : r_8 = -2147483648 := hw
  subst r_8
  refine lv_aload_n hx hb dL_law_895 rfl (lv_at hl 2 rfl) ?_
  refine lv_aload_n hx hb dL_law_896 rfl (lv_at hl 4 rfl) ?_
  refine lv_iload hx hb dL_law_897 (lv_at hl 0 rfl) ?_
  refine lv_iconst (v := 1) hx hb dL_law_899 (by decide) ?_
  refine lv_iadd hx hb dL_law_900 ?_
  refine lv_topi (fun z_9 ez_9 => ?_)
  obtain rfl : z_9 = 1 := ez_9.trans (by decide)
  refine va_sld hx hb hX hbl hbA hS (pk_in 1 7 (by decide) (by decide) (by decide)) dL_law_901 ?_
  refine lv_topi (fun z_10 ez_10 => ?_)
  replace ez_10 : z_10 = xs 1 := ez_10
  subst z_10
  refine lv_aload_n hx hb dL_law_902 rfl (lv_at hl 4 rfl) ?_
  refine lv_iload hx hb dL_law_903 (lv_at hl 0 rfl) ?_
  refine lv_iconst (v := 2) hx hb dL_law_905 (by decide) ?_
  refine lv_iadd hx hb dL_law_906 ?_
  refine lv_topi (fun z_11 ez_11 => ?_)
  obtain rfl : z_11 = 2 := ez_11.trans (by decide)
  refine va_sld hx hb hX hbl hbA hS (pk_in 2 7 (by decide) (by decide) (by decide)) dL_law_907 ?_
  refine lv_topi (fun z_12 ez_12 => ?_)
  replace ez_12 : z_12 = xs 2 := ez_12
  subst z_12
  refine lv_aload_n hx hb dL_law_908 rfl (lv_at hl 4 rfl) ?_
  refine lv_iload hx hb dL_law_909 (lv_at hl 0 rfl) ?_
  refine lv_iconst (v := 3) hx hb dL_law_911 (by decide) ?_
  refine lv_iadd hx hb dL_law_912 ?_
  refine lv_topi (fun z_13 ez_13 => ?_)
  obtain rfl : z_13 = 3 := ez_13.trans (by decide)
  refine va_sld hx hb hX hbl hbA hS (pk_in 3 7 (by decide) (by decide) (by decide)) dL_law_913 ?_
  refine lv_topi (fun z_14 ez_14 => ?_)
  replace ez_14 : z_14 = xs 3 := ez_14
  subst z_14
  have hPc := hP.sub (ws' := [(mm, .inr (11, [.int 0, .ref mm_tape, .int 0, .ref mm_number, .ref mm_clockName, .ref mm_clockOff, .ref mm_clockGain, .ref mm_clockRough, .ref mm_personName, .ref mm_personOff, .ref mm_personGain, .ref mm_personRough, .ref mm_custom, .ref mm_customA, .ref mm_customB, .ref mm_ruleFrom, .ref mm_ruleTo, .ref mm_roundOf, .ref mm_roundAt, .ref mm_roundHour, .ref mm_gunAt, .ref mm_gunHour, .ref mm_knotSort, .ref mm_knotValue, .int 0, .int 0, .int 0, .int 0, .int 0, .int 0, .int 0, .int 0, .int 0, .int (-1), .int 0, .int 0, .int 0, .int 0, .int 0, .int 0, .int 0, .int 0, .int 0, .int 0, .int 0, .int 0, .ref mm_start, .ref mm_off, .ref mm_last, .ref mm_passed, .ref mm_kept, .ref mm_keptMany, .int 0, .int 0, .ref mm_history, .ref mm_names, .ref mm_worked, .int 0, .int 0, .int (-1), .ref mm_readThing, .ref mm_readHour, .ref mm_readLow, .ref mm_readHigh, .int 0, .int 0, .int 0, .ref mm_imageOff, .ref mm_imageLast, .ref mm_imagePassed, .ref mm_imageKept, .ref mm_imageMany, .ref mm_imageHistory])), (mm_number, .inl (k_mm_number, 10, .inl (fun _ => 0)))]) [0, 1] rfl
  have hDc := hD.sub (ws' := [(mm, .inr (11, [.int 0, .ref mm_tape, .int 0, .ref mm_number, .ref mm_clockName, .ref mm_clockOff, .ref mm_clockGain, .ref mm_clockRough, .ref mm_personName, .ref mm_personOff, .ref mm_personGain, .ref mm_personRough, .ref mm_custom, .ref mm_customA, .ref mm_customB, .ref mm_ruleFrom, .ref mm_ruleTo, .ref mm_roundOf, .ref mm_roundAt, .ref mm_roundHour, .ref mm_gunAt, .ref mm_gunHour, .ref mm_knotSort, .ref mm_knotValue, .int 0, .int 0, .int 0, .int 0, .int 0, .int 0, .int 0, .int 0, .int 0, .int (-1), .int 0, .int 0, .int 0, .int 0, .int 0, .int 0, .int 0, .int 0, .int 0, .int 0, .int 0, .int 0, .ref mm_start, .ref mm_off, .ref mm_last, .ref mm_passed, .ref mm_kept, .ref mm_keptMany, .int 0, .int 0, .ref mm_history, .ref mm_names, .ref mm_worked, .int 0, .int 0, .int (-1), .ref mm_readThing, .ref mm_readHour, .ref mm_readLow, .ref mm_readHigh, .int 0, .int 0, .int 0, .ref mm_imageOff, .ref mm_imageLast, .ref mm_imagePassed, .ref mm_imageKept, .ref mm_imageMany, .ref mm_imageHistory])), (mm_number, .inl (k_mm_number, 10, .inl (fun _ => 0)))]) [0, 1] (by decide) rfl
  have hKc := hK.sub (tys' := [(k_mm_number, .int)]) [0] rfl
  have hFc := va_free (wc := [(mm, .inr (11, [.int 0, .ref mm_tape, .int 0, .ref mm_number, .ref mm_clockName, .ref mm_clockOff, .ref mm_clockGain, .ref mm_clockRough, .ref mm_personName, .ref mm_personOff, .ref mm_personGain, .ref mm_personRough, .ref mm_custom, .ref mm_customA, .ref mm_customB, .ref mm_ruleFrom, .ref mm_ruleTo, .ref mm_roundOf, .ref mm_roundAt, .ref mm_roundHour, .ref mm_gunAt, .ref mm_gunHour, .ref mm_knotSort, .ref mm_knotValue, .int 0, .int 0, .int 0, .int 0, .int 0, .int 0, .int 0, .int 0, .int 0, .int (-1), .int 0, .int 0, .int 0, .int 0, .int 0, .int 0, .int 0, .int 0, .int 0, .int 0, .int 0, .int 0, .ref mm_start, .ref mm_off, .ref mm_last, .ref mm_passed, .ref mm_kept, .ref mm_keptMany, .int 0, .int 0, .ref mm_history, .ref mm_names, .ref mm_worked, .int 0, .int 0, .int (-1), .ref mm_readThing, .ref mm_readHour, .ref mm_readLow, .ref mm_readHigh, .int 0, .int 0, .int 0, .ref mm_imageOff, .ref mm_imageLast, .ref mm_imagePassed, .ref mm_imageKept, .ref mm_imageMany, .ref mm_imageHistory])), (mm_number, .inl (k_mm_number, 10, .inl (fun _ => 0)))]) hD hS hA [0, 1] rfl
  have := (by decide : (0 : Int32).toInt = 0)
  have := (by decide : (0 : Int32).toInt = 0)
  have := (by decide : (0 : Int32).toInt = 0)
  have := (by decide : (0 : Int32).toInt = 0)
  have := (by decide : (0 : Int32).toInt = 0)
  have := (by decide : (0 : Int32).toInt = 0)
  have := (by decide : (0 : Int32).toInt = 0)
  have := (by decide : (0 : Int32).toInt = 0)
  have := (by decide : (0 : Int32).toInt = 0)
  have := (by decide : (0 : Int32).toInt = 0)
  have := (by decide : (0 : Int32).toInt = 0)
  have := (by decide : ((-1) : Int32).toInt = -1)
  have := (by decide : (0 : Int32).toInt = 0)
  have := (by decide : (0 : Int32).toInt = 0)
  have := (by decide : (0 : Int32).toInt = 0)
  have := (by decide : (0 : Int32).toInt = 0)
  have := (by decide : (0 : Int32).toInt = 0)
  have := (by decide : (0 : Int32).toInt = 0)
  have := (by decide : (0 : Int32).toInt = 0)
  have := (by decide : (0 : Int32).toInt = 0)
  have := (by decide : (0 : Int32).toInt = 0)
  have := (by decide : (0 : Int32).toInt = 0)
  have := (by decide : (0 : Int32).toInt = 0)
  have := (by decide : (0 : Int32).toInt = 0)
  have := (by decide : (0 : Int32).toInt = 0)
  have := (by decide : (0 : Int32).toInt = 0)
  have := (by decide : (0 : Int32).toInt = 0)
  have := (by decide : (0 : Int32).toInt = 0)
  have := (by decide : ((-1) : Int32).toInt = -1)
  have := (by decide : (0 : Int32).toInt = 0)
  have := (by decide : (0 : Int32).toInt = 0)
  have := (by decide : (0 : Int32).toInt = 0)
  refine va_calli (va_runV (As := [.int (xs 1), .int (xs 2), .int (xs 3)]) (rest := [.int (-2147483648)]) ⟨hx, hb, hml, hown, hT⟩ (c_X11_moved l dC dI H.size mm (xs 1) (xs 2) (xs 3) (0 : Int32) mm_tape (0 : Int32) mm_number mm_clockName mm_clockOff mm_clockGain mm_clockRough mm_personName mm_personOff mm_personGain mm_personRough mm_custom mm_customA mm_customB mm_ruleFrom mm_ruleTo mm_roundOf mm_roundAt mm_roundHour mm_gunAt mm_gunHour mm_knotSort mm_knotValue (0 : Int32) (0 : Int32) (0 : Int32) (0 : Int32) (0 : Int32) (0 : Int32) (0 : Int32) (0 : Int32) (0 : Int32) ((-1) : Int32) (0 : Int32) (0 : Int32) (0 : Int32) (0 : Int32) (0 : Int32) (0 : Int32) (0 : Int32) (0 : Int32) (0 : Int32) (0 : Int32) (0 : Int32) (0 : Int32) mm_start mm_off mm_last mm_passed mm_kept mm_keptMany (0 : Int32) (0 : Int32) mm_history mm_names mm_worked (0 : Int32) (0 : Int32) ((-1) : Int32) mm_readThing mm_readHour mm_readLow mm_readHigh (0 : Int32) (0 : Int32) (0 : Int32) mm_imageOff mm_imageLast mm_imagePassed mm_imageKept mm_imageMany mm_imageHistory k_mm_number (fun _ => 0) (fun _ => rfl)) (cwV 3 hT (gwV mw_8_68 mw_8_69 mw_8_70 mw_1_16 mw_8_71) rfl rfl rfl (by decide +kernel) ⟨Nat.le_of_ble_eq_true rfl, Nat.le_of_ble_eq_true rfl⟩) ⟨fun a U g mk q => by obtain ⟨q0, q1, qP, qK, qD⟩ := q; exact ⟨q0, q1, qP, va_K.moved (u := U) (U := U.calling g mk a) (Vm.Alike.refl U.vm) qK, qD⟩, va_recv hK hP (ci := 11) (q0 := 0) rfl rfl, fun U hU hW => ⟨rfl, by rw [hU], by rw [hU]; exact hPc, va_K.moved hW.alike hKc, hDc.weaken (fun _ _ _ _ => trivial)⟩⟩ rfl rfl hl.1 rfl (lv_room (Nat.le_of_ble_eq_true rfl)) dL_law_914 ⟨Nat.le_of_ble_eq_true rfl, Nat.le_of_ble_eq_true rfl⟩) hS (fun q _ h => hFc q h) hFc (fun r_16 u t H1 locs ht hvm hw hB hz1 hk1 hS => ?_)
  obtain ⟨hP1, hD1⟩ := hB
  rw [ht] at hP1
  obtain ⟨hP, hD⟩ := va_join (wr := [(xx, .inr (10, [.ref rr, .ref ta, .ref tb, .ref pa, .ref pb, .ref cn, .ref ci, .int 0, .ref cp, .ref ct, .ref hs, .ref rd, .ref wy, .ref ea, .ref eb])), (ta, .inr (8, [.int 0, .int 0, .int 0, .int 0, .int 0, .ref ta_name, .ref ta_first, .ref ta_gain, .ref ta_rough, .ref ta_custom, .ref ta_part, .ref ta_whole, .ref ta_roundPerson, .ref ta_roundClock, .ref ta_roundHour, .ref ta_gunClock, .ref ta_gunHour, .ref tau]))]) (w1 := [(mm, .inr (11, [.int 0, .ref mm_tape, .int 0, .ref mm_number, .ref mm_clockName, .ref mm_clockOff, .ref mm_clockGain, .ref mm_clockRough, .ref mm_personName, .ref mm_personOff, .ref mm_personGain, .ref mm_personRough, .ref mm_custom, .ref mm_customA, .ref mm_customB, .ref mm_ruleFrom, .ref mm_ruleTo, .ref mm_roundOf, .ref mm_roundAt, .ref mm_roundHour, .ref mm_gunAt, .ref mm_gunHour, .ref mm_knotSort, .ref mm_knotValue, .int 0, .int 0, .int 0, .int 0, .int 0, .int 0, .int 0, .int 0, .int 0, .int (-1), .int 0, .int 0, .int 0, .int 0, .int 0, .int 0, .int 0, .int 0, .int 0, .int 0, .int 0, .int 0, .ref mm_start, .ref mm_off, .ref mm_last, .ref mm_passed, .ref mm_kept, .ref mm_keptMany, .int 0, .int 0, .ref mm_history, .ref mm_names, .ref mm_worked, .int 0, .int 0, .int (-1), .ref mm_readThing, .ref mm_readHour, .ref mm_readLow, .ref mm_readHigh, .int 0, .int 0, .int 0, .ref mm_imageOff, .ref mm_imageLast, .ref mm_imagePassed, .ref mm_imageKept, .ref mm_imageMany, .ref mm_imageHistory])), (mm_number, .inl (k_mm_number, 10, .inl (fun _ => 0)))]) hP hD [0, 1] [2, 3] rfl rfl (by decide) (by decide) hk1 hFc hP1 hD1
  generalize H1 = H at hP hS ⊢
  have hP : va_P (dC, dI) vwCl [(xx, .inr (10, [.ref rr, .ref ta, .ref tb, .ref pa, .ref pb, .ref cn, .ref ci, .int 0, .ref cp, .ref ct, .ref hs, .ref rd, .ref wy, .ref ea, .ref eb])), (ta, .inr (8, [.int 0, .int 0, .int 0, .int 0, .int 0, .ref ta_name, .ref ta_first, .ref ta_gain, .ref ta_rough, .ref ta_custom, .ref ta_part, .ref ta_whole, .ref ta_roundPerson, .ref ta_roundClock, .ref ta_roundHour, .ref ta_gunClock, .ref ta_gunHour, .ref tau])), (mm, .inr (11, [.int 0, .ref mm_tape, .int 0, .ref mm_number, .ref mm_clockName, .ref mm_clockOff, .ref mm_clockGain, .ref mm_clockRough, .ref mm_personName, .ref mm_personOff, .ref mm_personGain, .ref mm_personRough, .ref mm_custom, .ref mm_customA, .ref mm_customB, .ref mm_ruleFrom, .ref mm_ruleTo, .ref mm_roundOf, .ref mm_roundAt, .ref mm_roundHour, .ref mm_gunAt, .ref mm_gunHour, .ref mm_knotSort, .ref mm_knotValue, .int 0, .int 0, .int 0, .int 0, .int 0, .int 0, .int 0, .int 0, .int 0, .int (-1), .int 0, .int 0, .int 0, .int 0, .int 0, .int 0, .int 0, .int 0, .int 0, .int 0, .int 0, .int 0, .ref mm_start, .ref mm_off, .ref mm_last, .ref mm_passed, .ref mm_kept, .ref mm_keptMany, .int 0, .int 0, .ref mm_history, .ref mm_names, .ref mm_worked, .int 0, .int 0, .int (-1), .ref mm_readThing, .ref mm_readHour, .ref mm_readLow, .ref mm_readHigh, .int 0, .int 0, .int 0, .ref mm_imageOff, .ref mm_imageLast, .ref mm_imagePassed, .ref mm_imageKept, .ref mm_imageMany, .ref mm_imageHistory])), (mm_number, .inl (k_mm_number, 10, .inl (fun _ => 0)))] H := hP
  have hD : va_D A [(xx, .inr (10, [.ref rr, .ref ta, .ref tb, .ref pa, .ref pb, .ref cn, .ref ci, .int 0, .ref cp, .ref ct, .ref hs, .ref rd, .ref wy, .ref ea, .ref eb])), (ta, .inr (8, [.int 0, .int 0, .int 0, .int 0, .int 0, .ref ta_name, .ref ta_first, .ref ta_gain, .ref ta_rough, .ref ta_custom, .ref ta_part, .ref ta_whole, .ref ta_roundPerson, .ref ta_roundClock, .ref ta_roundHour, .ref ta_gunClock, .ref ta_gunHour, .ref tau])), (mm, .inr (11, [.int 0, .ref mm_tape, .int 0, .ref mm_number, .ref mm_clockName, .ref mm_clockOff, .ref mm_clockGain, .ref mm_clockRough, .ref mm_personName, .ref mm_personOff, .ref mm_personGain, .ref mm_personRough, .ref mm_custom, .ref mm_customA, .ref mm_customB, .ref mm_ruleFrom, .ref mm_ruleTo, .ref mm_roundOf, .ref mm_roundAt, .ref mm_roundHour, .ref mm_gunAt, .ref mm_gunHour, .ref mm_knotSort, .ref mm_knotValue, .int 0, .int 0, .int 0, .int 0, .int 0, .int 0, .int 0, .int 0, .int 0, .int (-1), .int 0, .int 0, .int 0, .int 0, .int 0, .int 0, .int 0, .int 0, .int 0, .int 0, .int 0, .int 0, .ref mm_start, .ref mm_off, .ref mm_last, .ref mm_passed, .ref mm_kept, .ref mm_keptMany, .int 0, .int 0, .ref mm_history, .ref mm_names, .ref mm_worked, .int 0, .int 0, .int (-1), .ref mm_readThing, .ref mm_readHour, .ref mm_readLow, .ref mm_readHigh, .int 0, .int 0, .int 0, .ref mm_imageOff, .ref mm_imageLast, .ref mm_imagePassed, .ref mm_imageKept, .ref mm_imageMany, .ref mm_imageHistory])), (mm_number, .inl (k_mm_number, 10, .inl (fun _ => 0)))] := hD
  clear hPc hDc hKc hFc hP1 hD1 hk1 hz1 ht hvm
  have hw : r_16 = -2147483648 := hw
  subst r_16
  refine lv_icmp_eq (tgt := 1482) hx hb dL_law_917 (by decide) (fun c_17 => ?_) (fun c_17 => absurd c_17 (by decide))
  refine lv_iinc (v := 7) (lv' := [(4, .int 7), (3, .ref oo), (2, .ref mm), (1, .ref xx), (0, .ref b)]) hx hb dL_law_1482 hl (k := 0) rfl (by decide) (by decide) rfl (fun ls hl => ?_)
  refine lv_goto (tgt := 23) hx hb dL_law_1485 (by decide) ?_
  refine lv_iload hx hb dL_law_23 (lv_at hl 0 rfl) ?_
  refine lv_aload_n hx hb dL_law_25 rfl (lv_at hl 4 rfl) ?_
  refine va_slen hx hb hX hbl hbA hS dL_law_26 ?_
  refine lv_topi (fun z_18 ez_18 => ?_)
  obtain rfl : z_18 = 7 := ez_18.trans (by decide)
  refine lv_bipush (v := 7) hx hb dL_law_27 (by decide) ?_
  refine lv_isub hx hb dL_law_29 ?_
  refine lv_topi (fun z_19 ez_19 => ?_)
  obtain rfl : z_19 = 0 := ez_19.trans (by decide)
  refine lv_icmp_gt (tgt := 1488) hx hb dL_law_30 (by decide) (fun c_20 => ?_) (fun c_20 => absurd c_20 (by decide))
  refine lv_iconst (v := 1) hx hb dL_law_1488 (by decide) ?_
  refine va_forget (fun q hq => hAo _ (hS.2.2 q hq)) ?_
  refine W.widen (k := 600002) (n := 7302232) (Nat.le_of_ble_eq_true rfl) (Nat.le_of_ble_eq_true rfl) ?_
  exact lw_ret hx hb hr hlocks dL_law_1489
set_option maxHeartbeats 4000000 in
set_option maxRecDepth 100000 in
theorem law_op_16 {p : Program} {l : Launch} {e : Env} {s : State} {m : MethodId} {below : List Frame} {meth : Method} {c : Code} {dC : Nat → ClassId} {dI : Nat → Nat → Nat} {b : Nat} {xs : Nat → Int32} {A : Nat → Prop} (C0 : lw_At p s m meth c b 7 xs) (hA : ∀ q, s.heap.size ≤ q → A q) (hbA : ¬ A b) (hAo : ∀ q, A q → s.heap.size ≤ q) {xx : Nat} {rr : Nat} {ta : Nat} {tb : Nat} {pa : Nat} {pb : Nat} {cn : Nat} {ci : Nat} {cp : Nat} {ct : Nat} {hs : Nat} {rd : Nat} {wy : Nat} {ea : Nat} {eb : Nat} {ta_name : Nat} {ta_first : Nat} {ta_gain : Nat} {ta_rough : Nat} {ta_custom : Nat} {ta_part : Nat} {ta_whole : Nat} {ta_roundPerson : Nat} {ta_roundClock : Nat} {ta_roundHour : Nat} {ta_gunClock : Nat} {ta_gunHour : Nat} {tau : Nat} {mm : Nat} {mm_tape : Nat} {mm_number : Nat} {mm_clockName : Nat} {mm_clockOff : Nat} {mm_clockGain : Nat} {mm_clockRough : Nat} {mm_personName : Nat} {mm_personOff : Nat} {mm_personGain : Nat} {mm_personRough : Nat} {mm_custom : Nat} {mm_customA : Nat} {mm_customB : Nat} {mm_ruleFrom : Nat} {mm_ruleTo : Nat} {mm_roundOf : Nat} {mm_roundAt : Nat} {mm_roundHour : Nat} {mm_gunAt : Nat} {mm_gunHour : Nat} {mm_knotSort : Nat} {mm_knotValue : Nat} {mm_start : Nat} {mm_off : Nat} {mm_last : Nat} {mm_passed : Nat} {mm_kept : Nat} {mm_keptMany : Nat} {mm_history : Nat} {mm_names : Nat} {mm_worked : Nat} {mm_readThing : Nat} {mm_readHour : Nat} {mm_readLow : Nat} {mm_readHigh : Nat} {mm_imageOff : Nat} {mm_imageLast : Nat} {mm_imagePassed : Nat} {mm_imageKept : Nat} {mm_imageMany : Nat} {mm_imageHistory : Nat} {k_mm_number : ClassId} {oo : Nat} {H : Heap} {locs : List Loc} {ls : Array Slot} (hK : va_K (dC, dI) vwCl [(k_mm_number, .int)] s) (hP : va_P (dC, dI) vwCl [(xx, .inr (10, [.ref rr, .ref ta, .ref tb, .ref pa, .ref pb, .ref cn, .ref ci, .int 0, .ref cp, .ref ct, .ref hs, .ref rd, .ref wy, .ref ea, .ref eb])), (ta, .inr (8, [.int 0, .int 0, .int 0, .int 0, .int 0, .ref ta_name, .ref ta_first, .ref ta_gain, .ref ta_rough, .ref ta_custom, .ref ta_part, .ref ta_whole, .ref ta_roundPerson, .ref ta_roundClock, .ref ta_roundHour, .ref ta_gunClock, .ref ta_gunHour, .ref tau])), (mm, .inr (11, [.int 0, .ref mm_tape, .int 0, .ref mm_number, .ref mm_clockName, .ref mm_clockOff, .ref mm_clockGain, .ref mm_clockRough, .ref mm_personName, .ref mm_personOff, .ref mm_personGain, .ref mm_personRough, .ref mm_custom, .ref mm_customA, .ref mm_customB, .ref mm_ruleFrom, .ref mm_ruleTo, .ref mm_roundOf, .ref mm_roundAt, .ref mm_roundHour, .ref mm_gunAt, .ref mm_gunHour, .ref mm_knotSort, .ref mm_knotValue, .int 0, .int 0, .int 0, .int 0, .int 0, .int 0, .int 0, .int 0, .int 0, .int (-1), .int 0, .int 0, .int 0, .int 0, .int 0, .int 0, .int 0, .int 0, .int 0, .int 0, .int 0, .int 0, .ref mm_start, .ref mm_off, .ref mm_last, .ref mm_passed, .ref mm_kept, .ref mm_keptMany, .int 0, .int 0, .ref mm_history, .ref mm_names, .ref mm_worked, .int 0, .int 0, .int (-1), .ref mm_readThing, .ref mm_readHour, .ref mm_readLow, .ref mm_readHigh, .int 0, .int 0, .int 0, .ref mm_imageOff, .ref mm_imageLast, .ref mm_imagePassed, .ref mm_imageKept, .ref mm_imageMany, .ref mm_imageHistory])), (mm_number, .inl (k_mm_number, 10, .inl (fun _ => 0)))] H) (hD : va_D A [(xx, .inr (10, [.ref rr, .ref ta, .ref tb, .ref pa, .ref pb, .ref cn, .ref ci, .int 0, .ref cp, .ref ct, .ref hs, .ref rd, .ref wy, .ref ea, .ref eb])), (ta, .inr (8, [.int 0, .int 0, .int 0, .int 0, .int 0, .ref ta_name, .ref ta_first, .ref ta_gain, .ref ta_rough, .ref ta_custom, .ref ta_part, .ref ta_whole, .ref ta_roundPerson, .ref ta_roundClock, .ref ta_roundHour, .ref ta_gunClock, .ref ta_gunHour, .ref tau])), (mm, .inr (11, [.int 0, .ref mm_tape, .int 0, .ref mm_number, .ref mm_clockName, .ref mm_clockOff, .ref mm_clockGain, .ref mm_clockRough, .ref mm_personName, .ref mm_personOff, .ref mm_personGain, .ref mm_personRough, .ref mm_custom, .ref mm_customA, .ref mm_customB, .ref mm_ruleFrom, .ref mm_ruleTo, .ref mm_roundOf, .ref mm_roundAt, .ref mm_roundHour, .ref mm_gunAt, .ref mm_gunHour, .ref mm_knotSort, .ref mm_knotValue, .int 0, .int 0, .int 0, .int 0, .int 0, .int 0, .int 0, .int 0, .int 0, .int (-1), .int 0, .int 0, .int 0, .int 0, .int 0, .int 0, .int 0, .int 0, .int 0, .int 0, .int 0, .int 0, .ref mm_start, .ref mm_off, .ref mm_last, .ref mm_passed, .ref mm_kept, .ref mm_keptMany, .int 0, .int 0, .ref mm_history, .ref mm_names, .ref mm_worked, .int 0, .int 0, .int (-1), .ref mm_readThing, .ref mm_readHour, .ref mm_readLow, .ref mm_readHigh, .int 0, .int 0, .int 0, .ref mm_imageOff, .ref mm_imageLast, .ref mm_imagePassed, .ref mm_imageKept, .ref mm_imageMany, .ref mm_imageHistory])), (mm_number, .inl (k_mm_number, 10, .inl (fun _ => 0)))]) (hS : va_S A s.heap H locs) (hl : lv_has ls 7 [(4, .int 0), (3, .ref oo), (2, .ref mm), (1, .ref xx), (0, .ref b)]) : W p l e room_1 s m #[Value.ref b] below meth c H locs 160 67979 (lw_Z below #[Value.ref b] s) (F0 m 922 ls []) := by
  obtain ⟨hx, hb, hr, hml, hown, hts, hX, hbl, hlocks, hgv⟩ := C0
  have hT : ∀ w ∈ pw_T, w.before #[Value.ref b] s = true := fun w h => hts w (List.mem_filter.mp h).1
  have hown : s.vm.findClass RL = some m.cls := hown
  refine lv_aload_n hx hb dL_law_922 rfl (lv_at hl 3 rfl) ?_
  refine lv_aload_n hx hb dL_law_923 rfl (lv_at hl 4 rfl) ?_
  refine lv_iload hx hb dL_law_924 (lv_at hl 0 rfl) ?_
  refine lv_iconst (v := 1) hx hb dL_law_926 (by decide) ?_
  refine lv_iadd hx hb dL_law_927 ?_
  refine lv_topi (fun z_1 ez_1 => ?_)
  obtain rfl : z_1 = 1 := ez_1.trans (by decide)
  refine va_sld hx hb hX hbl hbA hS (pk_in 1 7 (by decide) (by decide) (by decide)) dL_law_928 ?_
  refine lv_topi (fun z_2 ez_2 => ?_)
  replace ez_2 : z_2 = xs 1 := ez_2
  subst z_2
  refine lv_aload_n hx hb dL_law_929 rfl (lv_at hl 4 rfl) ?_
  refine lv_iload hx hb dL_law_930 (lv_at hl 0 rfl) ?_
  refine lv_iconst (v := 2) hx hb dL_law_932 (by decide) ?_
  refine lv_iadd hx hb dL_law_933 ?_
  refine lv_topi (fun z_3 ez_3 => ?_)
  obtain rfl : z_3 = 2 := ez_3.trans (by decide)
  refine va_sld hx hb hX hbl hbA hS (pk_in 2 7 (by decide) (by decide) (by decide)) dL_law_934 ?_
  refine lv_topi (fun z_4 ez_4 => ?_)
  replace ez_4 : z_4 = xs 2 := ez_4
  subst z_4
  have hPc := hP.sub (ws' := [(xx, .inr (10, [.ref rr, .ref ta, .ref tb, .ref pa, .ref pb, .ref cn, .ref ci, .int 0, .ref cp, .ref ct, .ref hs, .ref rd, .ref wy, .ref ea, .ref eb])), (ta, .inr (8, [.int 0, .int 0, .int 0, .int 0, .int 0, .ref ta_name, .ref ta_first, .ref ta_gain, .ref ta_rough, .ref ta_custom, .ref ta_part, .ref ta_whole, .ref ta_roundPerson, .ref ta_roundClock, .ref ta_roundHour, .ref ta_gunClock, .ref ta_gunHour, .ref tau]))]) [0, 1] rfl
  have hDc := hD.sub (ws' := [(xx, .inr (10, [.ref rr, .ref ta, .ref tb, .ref pa, .ref pb, .ref cn, .ref ci, .int 0, .ref cp, .ref ct, .ref hs, .ref rd, .ref wy, .ref ea, .ref eb])), (ta, .inr (8, [.int 0, .int 0, .int 0, .int 0, .int 0, .ref ta_name, .ref ta_first, .ref ta_gain, .ref ta_rough, .ref ta_custom, .ref ta_part, .ref ta_whole, .ref ta_roundPerson, .ref ta_roundClock, .ref ta_roundHour, .ref ta_gunClock, .ref ta_gunHour, .ref tau]))]) [0, 1] (by decide) rfl
  have hKc := hK.sub (tys' := []) [] rfl
  have hFc := va_free (wc := [(xx, .inr (10, [.ref rr, .ref ta, .ref tb, .ref pa, .ref pb, .ref cn, .ref ci, .int 0, .ref cp, .ref ct, .ref hs, .ref rd, .ref wy, .ref ea, .ref eb])), (ta, .inr (8, [.int 0, .int 0, .int 0, .int 0, .int 0, .ref ta_name, .ref ta_first, .ref ta_gain, .ref ta_rough, .ref ta_custom, .ref ta_part, .ref ta_whole, .ref ta_roundPerson, .ref ta_roundClock, .ref ta_roundHour, .ref ta_gunClock, .ref ta_gunHour, .ref tau]))]) hD hS hA [0, 1] rfl
  refine va_calli (va_runV (As := [.int (xs 1), .int (xs 2)]) (rest := []) ⟨hx, hb, hml, hown, hT⟩ (c_X10_ends l dC dI H.size xx (xs 1) (xs 2) rr ta tb pa pb cn ci (0 : Int32) cp ct hs rd wy ea eb (0 : Int32) (0 : Int32) (0 : Int32) ta_name ta_first ta_gain ta_rough ta_custom ta_part ta_whole ta_roundPerson ta_roundClock ta_roundHour ta_gunClock ta_gunHour tau ) (cwV 2 hT (gwV mw_4_212 mw_4_213 mw_4_214 mw_1_1 mw_4_215) rfl rfl rfl (by decide +kernel) ⟨Nat.le_of_ble_eq_true rfl, Nat.le_of_ble_eq_true rfl⟩) ⟨fun a U g mk q => by obtain ⟨q0, q1, qP, qK, qD⟩ := q; exact ⟨q0, q1, qP, va_K.moved (u := U) (U := U.calling g mk a) (Vm.Alike.refl U.vm) qK, qD⟩, va_recv hK hP (ci := 10) (q0 := 0) rfl rfl, fun U hU hW => ⟨rfl, by rw [hU], by rw [hU]; exact hPc, va_K.moved hW.alike hKc, hDc.weaken (fun _ _ _ _ => trivial)⟩⟩ rfl rfl hl.1 rfl (lv_room (Nat.le_of_ble_eq_true rfl)) dL_law_935 ⟨Nat.le_of_ble_eq_true rfl, Nat.le_of_ble_eq_true rfl⟩) hS (fun q _ h => hFc q h) hFc (fun r_6 u t H1 locs ht hvm hw hB hz1 hk1 hS => ?_)
  obtain ⟨hP1, hD1⟩ := hB
  rw [ht] at hP1
  obtain ⟨hP, hD⟩ := va_join (wr := [(mm, .inr (11, [.int 0, .ref mm_tape, .int 0, .ref mm_number, .ref mm_clockName, .ref mm_clockOff, .ref mm_clockGain, .ref mm_clockRough, .ref mm_personName, .ref mm_personOff, .ref mm_personGain, .ref mm_personRough, .ref mm_custom, .ref mm_customA, .ref mm_customB, .ref mm_ruleFrom, .ref mm_ruleTo, .ref mm_roundOf, .ref mm_roundAt, .ref mm_roundHour, .ref mm_gunAt, .ref mm_gunHour, .ref mm_knotSort, .ref mm_knotValue, .int 0, .int 0, .int 0, .int 0, .int 0, .int 0, .int 0, .int 0, .int 0, .int (-1), .int 0, .int 0, .int 0, .int 0, .int 0, .int 0, .int 0, .int 0, .int 0, .int 0, .int 0, .int 0, .ref mm_start, .ref mm_off, .ref mm_last, .ref mm_passed, .ref mm_kept, .ref mm_keptMany, .int 0, .int 0, .ref mm_history, .ref mm_names, .ref mm_worked, .int 0, .int 0, .int (-1), .ref mm_readThing, .ref mm_readHour, .ref mm_readLow, .ref mm_readHigh, .int 0, .int 0, .int 0, .ref mm_imageOff, .ref mm_imageLast, .ref mm_imagePassed, .ref mm_imageKept, .ref mm_imageMany, .ref mm_imageHistory])), (mm_number, .inl (k_mm_number, 10, .inl (fun _ => 0)))]) (w1 := [(xx, .inr (10, [.ref rr, .ref ta, .ref tb, .ref pa, .ref pb, .ref cn, .ref ci, .int 0, .ref cp, .ref ct, .ref hs, .ref rd, .ref wy, .ref ea, .ref eb])), (ta, .inr (8, [.int 0, .int 0, .int 0, .int 0, .int 0, .ref ta_name, .ref ta_first, .ref ta_gain, .ref ta_rough, .ref ta_custom, .ref ta_part, .ref ta_whole, .ref ta_roundPerson, .ref ta_roundClock, .ref ta_roundHour, .ref ta_gunClock, .ref ta_gunHour, .ref tau]))]) hP hD [0, 1] [2, 3] rfl rfl (by decide) (by decide) hk1 hFc hP1 hD1
  generalize H1 = H at hP hS ⊢
  have hP : va_P (dC, dI) vwCl [(mm, .inr (11, [.int 0, .ref mm_tape, .int 0, .ref mm_number, .ref mm_clockName, .ref mm_clockOff, .ref mm_clockGain, .ref mm_clockRough, .ref mm_personName, .ref mm_personOff, .ref mm_personGain, .ref mm_personRough, .ref mm_custom, .ref mm_customA, .ref mm_customB, .ref mm_ruleFrom, .ref mm_ruleTo, .ref mm_roundOf, .ref mm_roundAt, .ref mm_roundHour, .ref mm_gunAt, .ref mm_gunHour, .ref mm_knotSort, .ref mm_knotValue, .int 0, .int 0, .int 0, .int 0, .int 0, .int 0, .int 0, .int 0, .int 0, .int (-1), .int 0, .int 0, .int 0, .int 0, .int 0, .int 0, .int 0, .int 0, .int 0, .int 0, .int 0, .int 0, .ref mm_start, .ref mm_off, .ref mm_last, .ref mm_passed, .ref mm_kept, .ref mm_keptMany, .int 0, .int 0, .ref mm_history, .ref mm_names, .ref mm_worked, .int 0, .int 0, .int (-1), .ref mm_readThing, .ref mm_readHour, .ref mm_readLow, .ref mm_readHigh, .int 0, .int 0, .int 0, .ref mm_imageOff, .ref mm_imageLast, .ref mm_imagePassed, .ref mm_imageKept, .ref mm_imageMany, .ref mm_imageHistory])), (mm_number, .inl (k_mm_number, 10, .inl (fun _ => 0))), (xx, .inr (10, [.ref rr, .ref ta, .ref tb, .ref pa, .ref pb, .ref cn, .ref ci, .int 0, .ref cp, .ref ct, .ref hs, .ref rd, .ref wy, .ref ea, .ref eb])), (ta, .inr (8, [.int 0, .int 0, .int 0, .int 0, .int 0, .ref ta_name, .ref ta_first, .ref ta_gain, .ref ta_rough, .ref ta_custom, .ref ta_part, .ref ta_whole, .ref ta_roundPerson, .ref ta_roundClock, .ref ta_roundHour, .ref ta_gunClock, .ref ta_gunHour, .ref tau]))] H := hP
  have hD : va_D A [(mm, .inr (11, [.int 0, .ref mm_tape, .int 0, .ref mm_number, .ref mm_clockName, .ref mm_clockOff, .ref mm_clockGain, .ref mm_clockRough, .ref mm_personName, .ref mm_personOff, .ref mm_personGain, .ref mm_personRough, .ref mm_custom, .ref mm_customA, .ref mm_customB, .ref mm_ruleFrom, .ref mm_ruleTo, .ref mm_roundOf, .ref mm_roundAt, .ref mm_roundHour, .ref mm_gunAt, .ref mm_gunHour, .ref mm_knotSort, .ref mm_knotValue, .int 0, .int 0, .int 0, .int 0, .int 0, .int 0, .int 0, .int 0, .int 0, .int (-1), .int 0, .int 0, .int 0, .int 0, .int 0, .int 0, .int 0, .int 0, .int 0, .int 0, .int 0, .int 0, .ref mm_start, .ref mm_off, .ref mm_last, .ref mm_passed, .ref mm_kept, .ref mm_keptMany, .int 0, .int 0, .ref mm_history, .ref mm_names, .ref mm_worked, .int 0, .int 0, .int (-1), .ref mm_readThing, .ref mm_readHour, .ref mm_readLow, .ref mm_readHigh, .int 0, .int 0, .int 0, .ref mm_imageOff, .ref mm_imageLast, .ref mm_imagePassed, .ref mm_imageKept, .ref mm_imageMany, .ref mm_imageHistory])), (mm_number, .inl (k_mm_number, 10, .inl (fun _ => 0))), (xx, .inr (10, [.ref rr, .ref ta, .ref tb, .ref pa, .ref pb, .ref cn, .ref ci, .int 0, .ref cp, .ref ct, .ref hs, .ref rd, .ref wy, .ref ea, .ref eb])), (ta, .inr (8, [.int 0, .int 0, .int 0, .int 0, .int 0, .ref ta_name, .ref ta_first, .ref ta_gain, .ref ta_rough, .ref ta_custom, .ref ta_part, .ref ta_whole, .ref ta_roundPerson, .ref ta_roundClock, .ref ta_roundHour, .ref ta_gunClock, .ref ta_gunHour, .ref tau]))] := hD
  clear hPc hDc hKc hFc hP1 hD1 hk1 hz1 ht hvm
  have hw : r_6 = -2147483648 := hw
  subst r_6
  refine lv_aload_n hx hb dL_law_938 rfl (lv_at hl 2 rfl) ?_
  refine lv_aload_n hx hb dL_law_939 rfl (lv_at hl 4 rfl) ?_
  refine lv_iload hx hb dL_law_940 (lv_at hl 0 rfl) ?_
  refine lv_iconst (v := 1) hx hb dL_law_942 (by decide) ?_
  refine lv_iadd hx hb dL_law_943 ?_
  refine lv_topi (fun z_7 ez_7 => ?_)
  obtain rfl : z_7 = 1 := ez_7.trans (by decide)
  refine va_sld hx hb hX hbl hbA hS (pk_in 1 7 (by decide) (by decide) (by decide)) dL_law_944 ?_
  refine lv_topi (fun z_8 ez_8 => ?_)
  replace ez_8 : z_8 = xs 1 := ez_8
  subst z_8
  refine lv_aload_n hx hb dL_law_945 rfl (lv_at hl 4 rfl) ?_
  refine lv_iload hx hb dL_law_946 (lv_at hl 0 rfl) ?_
  refine lv_iconst (v := 2) hx hb dL_law_948 (by decide) ?_
  refine lv_iadd hx hb dL_law_949 ?_
  refine lv_topi (fun z_9 ez_9 => ?_)
  obtain rfl : z_9 = 2 := ez_9.trans (by decide)
  refine va_sld hx hb hX hbl hbA hS (pk_in 2 7 (by decide) (by decide) (by decide)) dL_law_950 ?_
  refine lv_topi (fun z_10 ez_10 => ?_)
  replace ez_10 : z_10 = xs 2 := ez_10
  subst z_10
  have hPc := hP.sub (ws' := [(mm, .inr (11, [.int 0, .ref mm_tape, .int 0, .ref mm_number, .ref mm_clockName, .ref mm_clockOff, .ref mm_clockGain, .ref mm_clockRough, .ref mm_personName, .ref mm_personOff, .ref mm_personGain, .ref mm_personRough, .ref mm_custom, .ref mm_customA, .ref mm_customB, .ref mm_ruleFrom, .ref mm_ruleTo, .ref mm_roundOf, .ref mm_roundAt, .ref mm_roundHour, .ref mm_gunAt, .ref mm_gunHour, .ref mm_knotSort, .ref mm_knotValue, .int 0, .int 0, .int 0, .int 0, .int 0, .int 0, .int 0, .int 0, .int 0, .int (-1), .int 0, .int 0, .int 0, .int 0, .int 0, .int 0, .int 0, .int 0, .int 0, .int 0, .int 0, .int 0, .ref mm_start, .ref mm_off, .ref mm_last, .ref mm_passed, .ref mm_kept, .ref mm_keptMany, .int 0, .int 0, .ref mm_history, .ref mm_names, .ref mm_worked, .int 0, .int 0, .int (-1), .ref mm_readThing, .ref mm_readHour, .ref mm_readLow, .ref mm_readHigh, .int 0, .int 0, .int 0, .ref mm_imageOff, .ref mm_imageLast, .ref mm_imagePassed, .ref mm_imageKept, .ref mm_imageMany, .ref mm_imageHistory])), (mm_number, .inl (k_mm_number, 10, .inl (fun _ => 0)))]) [0, 1] rfl
  have hDc := hD.sub (ws' := [(mm, .inr (11, [.int 0, .ref mm_tape, .int 0, .ref mm_number, .ref mm_clockName, .ref mm_clockOff, .ref mm_clockGain, .ref mm_clockRough, .ref mm_personName, .ref mm_personOff, .ref mm_personGain, .ref mm_personRough, .ref mm_custom, .ref mm_customA, .ref mm_customB, .ref mm_ruleFrom, .ref mm_ruleTo, .ref mm_roundOf, .ref mm_roundAt, .ref mm_roundHour, .ref mm_gunAt, .ref mm_gunHour, .ref mm_knotSort, .ref mm_knotValue, .int 0, .int 0, .int 0, .int 0, .int 0, .int 0, .int 0, .int 0, .int 0, .int (-1), .int 0, .int 0, .int 0, .int 0, .int 0, .int 0, .int 0, .int 0, .int 0, .int 0, .int 0, .int 0, .ref mm_start, .ref mm_off, .ref mm_last, .ref mm_passed, .ref mm_kept, .ref mm_keptMany, .int 0, .int 0, .ref mm_history, .ref mm_names, .ref mm_worked, .int 0, .int 0, .int (-1), .ref mm_readThing, .ref mm_readHour, .ref mm_readLow, .ref mm_readHigh, .int 0, .int 0, .int 0, .ref mm_imageOff, .ref mm_imageLast, .ref mm_imagePassed, .ref mm_imageKept, .ref mm_imageMany, .ref mm_imageHistory])), (mm_number, .inl (k_mm_number, 10, .inl (fun _ => 0)))]) [0, 1] (by decide) rfl
  have hKc := hK.sub (tys' := [(k_mm_number, .int)]) [0] rfl
  have hFc := va_free (wc := [(mm, .inr (11, [.int 0, .ref mm_tape, .int 0, .ref mm_number, .ref mm_clockName, .ref mm_clockOff, .ref mm_clockGain, .ref mm_clockRough, .ref mm_personName, .ref mm_personOff, .ref mm_personGain, .ref mm_personRough, .ref mm_custom, .ref mm_customA, .ref mm_customB, .ref mm_ruleFrom, .ref mm_ruleTo, .ref mm_roundOf, .ref mm_roundAt, .ref mm_roundHour, .ref mm_gunAt, .ref mm_gunHour, .ref mm_knotSort, .ref mm_knotValue, .int 0, .int 0, .int 0, .int 0, .int 0, .int 0, .int 0, .int 0, .int 0, .int (-1), .int 0, .int 0, .int 0, .int 0, .int 0, .int 0, .int 0, .int 0, .int 0, .int 0, .int 0, .int 0, .ref mm_start, .ref mm_off, .ref mm_last, .ref mm_passed, .ref mm_kept, .ref mm_keptMany, .int 0, .int 0, .ref mm_history, .ref mm_names, .ref mm_worked, .int 0, .int 0, .int (-1), .ref mm_readThing, .ref mm_readHour, .ref mm_readLow, .ref mm_readHigh, .int 0, .int 0, .int 0, .ref mm_imageOff, .ref mm_imageLast, .ref mm_imagePassed, .ref mm_imageKept, .ref mm_imageMany, .ref mm_imageHistory])), (mm_number, .inl (k_mm_number, 10, .inl (fun _ => 0)))]) hD hS hA [0, 1] rfl
  have := (by decide : (0 : Int32).toInt = 0)
  have := (by decide : (0 : Int32).toInt = 0)
  have := (by decide : (0 : Int32).toInt = 0)
  have := (by decide : (0 : Int32).toInt = 0)
  have := (by decide : (0 : Int32).toInt = 0)
  have := (by decide : (0 : Int32).toInt = 0)
  have := (by decide : (0 : Int32).toInt = 0)
  have := (by decide : (0 : Int32).toInt = 0)
  have := (by decide : (0 : Int32).toInt = 0)
  have := (by decide : (0 : Int32).toInt = 0)
  have := (by decide : (0 : Int32).toInt = 0)
  have := (by decide : ((-1) : Int32).toInt = -1)
  have := (by decide : (0 : Int32).toInt = 0)
  have := (by decide : (0 : Int32).toInt = 0)
  have := (by decide : (0 : Int32).toInt = 0)
  have := (by decide : (0 : Int32).toInt = 0)
  have := (by decide : (0 : Int32).toInt = 0)
  have := (by decide : (0 : Int32).toInt = 0)
  have := (by decide : (0 : Int32).toInt = 0)
  have := (by decide : (0 : Int32).toInt = 0)
  have := (by decide : (0 : Int32).toInt = 0)
  have := (by decide : (0 : Int32).toInt = 0)
  have := (by decide : (0 : Int32).toInt = 0)
  have := (by decide : (0 : Int32).toInt = 0)
  have := (by decide : (0 : Int32).toInt = 0)
  have := (by decide : (0 : Int32).toInt = 0)
  have := (by decide : (0 : Int32).toInt = 0)
  have := (by decide : (0 : Int32).toInt = 0)
  have := (by decide : ((-1) : Int32).toInt = -1)
  have := (by decide : (0 : Int32).toInt = 0)
  have := (by decide : (0 : Int32).toInt = 0)
  have := (by decide : (0 : Int32).toInt = 0)
  refine va_calli (va_runV (As := [.int (xs 1), .int (xs 2)]) (rest := [.int (-2147483648)]) ⟨hx, hb, hml, hown, hT⟩ (c_X11_ends l dC dI H.size mm (xs 1) (xs 2) (0 : Int32) mm_tape (0 : Int32) mm_number mm_clockName mm_clockOff mm_clockGain mm_clockRough mm_personName mm_personOff mm_personGain mm_personRough mm_custom mm_customA mm_customB mm_ruleFrom mm_ruleTo mm_roundOf mm_roundAt mm_roundHour mm_gunAt mm_gunHour mm_knotSort mm_knotValue (0 : Int32) (0 : Int32) (0 : Int32) (0 : Int32) (0 : Int32) (0 : Int32) (0 : Int32) (0 : Int32) (0 : Int32) ((-1) : Int32) (0 : Int32) (0 : Int32) (0 : Int32) (0 : Int32) (0 : Int32) (0 : Int32) (0 : Int32) (0 : Int32) (0 : Int32) (0 : Int32) (0 : Int32) (0 : Int32) mm_start mm_off mm_last mm_passed mm_kept mm_keptMany (0 : Int32) (0 : Int32) mm_history mm_names mm_worked (0 : Int32) (0 : Int32) ((-1) : Int32) mm_readThing mm_readHour mm_readLow mm_readHigh (0 : Int32) (0 : Int32) (0 : Int32) mm_imageOff mm_imageLast mm_imagePassed mm_imageKept mm_imageMany mm_imageHistory k_mm_number (fun _ => 0) (fun _ => rfl)) (cwV 2 hT (gwV mw_8_88 mw_8_89 mw_8_90 mw_1_16 mw_8_91) rfl rfl rfl (by decide +kernel) ⟨Nat.le_of_ble_eq_true rfl, Nat.le_of_ble_eq_true rfl⟩) ⟨fun a U g mk q => by obtain ⟨q0, q1, qP, qK, qD⟩ := q; exact ⟨q0, q1, qP, va_K.moved (u := U) (U := U.calling g mk a) (Vm.Alike.refl U.vm) qK, qD⟩, va_recv hK hP (ci := 11) (q0 := 0) rfl rfl, fun U hU hW => ⟨rfl, by rw [hU], by rw [hU]; exact hPc, va_K.moved hW.alike hKc, hDc.weaken (fun _ _ _ _ => trivial)⟩⟩ rfl rfl hl.1 rfl (lv_room (Nat.le_of_ble_eq_true rfl)) dL_law_951 ⟨Nat.le_of_ble_eq_true rfl, Nat.le_of_ble_eq_true rfl⟩) hS (fun q _ h => hFc q h) hFc (fun r_12 u t H1 locs ht hvm hw hB hz1 hk1 hS => ?_)
  obtain ⟨hP1, hD1⟩ := hB
  rw [ht] at hP1
  obtain ⟨hP, hD⟩ := va_join (wr := [(xx, .inr (10, [.ref rr, .ref ta, .ref tb, .ref pa, .ref pb, .ref cn, .ref ci, .int 0, .ref cp, .ref ct, .ref hs, .ref rd, .ref wy, .ref ea, .ref eb])), (ta, .inr (8, [.int 0, .int 0, .int 0, .int 0, .int 0, .ref ta_name, .ref ta_first, .ref ta_gain, .ref ta_rough, .ref ta_custom, .ref ta_part, .ref ta_whole, .ref ta_roundPerson, .ref ta_roundClock, .ref ta_roundHour, .ref ta_gunClock, .ref ta_gunHour, .ref tau]))]) (w1 := [(mm, .inr (11, [.int 0, .ref mm_tape, .int 0, .ref mm_number, .ref mm_clockName, .ref mm_clockOff, .ref mm_clockGain, .ref mm_clockRough, .ref mm_personName, .ref mm_personOff, .ref mm_personGain, .ref mm_personRough, .ref mm_custom, .ref mm_customA, .ref mm_customB, .ref mm_ruleFrom, .ref mm_ruleTo, .ref mm_roundOf, .ref mm_roundAt, .ref mm_roundHour, .ref mm_gunAt, .ref mm_gunHour, .ref mm_knotSort, .ref mm_knotValue, .int 0, .int 0, .int 0, .int 0, .int 0, .int 0, .int 0, .int 0, .int 0, .int (-1), .int 0, .int 0, .int 0, .int 0, .int 0, .int 0, .int 0, .int 0, .int 0, .int 0, .int 0, .int 0, .ref mm_start, .ref mm_off, .ref mm_last, .ref mm_passed, .ref mm_kept, .ref mm_keptMany, .int 0, .int 0, .ref mm_history, .ref mm_names, .ref mm_worked, .int 0, .int 0, .int (-1), .ref mm_readThing, .ref mm_readHour, .ref mm_readLow, .ref mm_readHigh, .int 0, .int 0, .int 0, .ref mm_imageOff, .ref mm_imageLast, .ref mm_imagePassed, .ref mm_imageKept, .ref mm_imageMany, .ref mm_imageHistory])), (mm_number, .inl (k_mm_number, 10, .inl (fun _ => 0)))]) hP hD [0, 1] [2, 3] rfl rfl (by decide) (by decide) hk1 hFc hP1 hD1
  generalize H1 = H at hP hS ⊢
  have hP : va_P (dC, dI) vwCl [(xx, .inr (10, [.ref rr, .ref ta, .ref tb, .ref pa, .ref pb, .ref cn, .ref ci, .int 0, .ref cp, .ref ct, .ref hs, .ref rd, .ref wy, .ref ea, .ref eb])), (ta, .inr (8, [.int 0, .int 0, .int 0, .int 0, .int 0, .ref ta_name, .ref ta_first, .ref ta_gain, .ref ta_rough, .ref ta_custom, .ref ta_part, .ref ta_whole, .ref ta_roundPerson, .ref ta_roundClock, .ref ta_roundHour, .ref ta_gunClock, .ref ta_gunHour, .ref tau])), (mm, .inr (11, [.int 0, .ref mm_tape, .int 0, .ref mm_number, .ref mm_clockName, .ref mm_clockOff, .ref mm_clockGain, .ref mm_clockRough, .ref mm_personName, .ref mm_personOff, .ref mm_personGain, .ref mm_personRough, .ref mm_custom, .ref mm_customA, .ref mm_customB, .ref mm_ruleFrom, .ref mm_ruleTo, .ref mm_roundOf, .ref mm_roundAt, .ref mm_roundHour, .ref mm_gunAt, .ref mm_gunHour, .ref mm_knotSort, .ref mm_knotValue, .int 0, .int 0, .int 0, .int 0, .int 0, .int 0, .int 0, .int 0, .int 0, .int (-1), .int 0, .int 0, .int 0, .int 0, .int 0, .int 0, .int 0, .int 0, .int 0, .int 0, .int 0, .int 0, .ref mm_start, .ref mm_off, .ref mm_last, .ref mm_passed, .ref mm_kept, .ref mm_keptMany, .int 0, .int 0, .ref mm_history, .ref mm_names, .ref mm_worked, .int 0, .int 0, .int (-1), .ref mm_readThing, .ref mm_readHour, .ref mm_readLow, .ref mm_readHigh, .int 0, .int 0, .int 0, .ref mm_imageOff, .ref mm_imageLast, .ref mm_imagePassed, .ref mm_imageKept, .ref mm_imageMany, .ref mm_imageHistory])), (mm_number, .inl (k_mm_number, 10, .inl (fun _ => 0)))] H := hP
  have hD : va_D A [(xx, .inr (10, [.ref rr, .ref ta, .ref tb, .ref pa, .ref pb, .ref cn, .ref ci, .int 0, .ref cp, .ref ct, .ref hs, .ref rd, .ref wy, .ref ea, .ref eb])), (ta, .inr (8, [.int 0, .int 0, .int 0, .int 0, .int 0, .ref ta_name, .ref ta_first, .ref ta_gain, .ref ta_rough, .ref ta_custom, .ref ta_part, .ref ta_whole, .ref ta_roundPerson, .ref ta_roundClock, .ref ta_roundHour, .ref ta_gunClock, .ref ta_gunHour, .ref tau])), (mm, .inr (11, [.int 0, .ref mm_tape, .int 0, .ref mm_number, .ref mm_clockName, .ref mm_clockOff, .ref mm_clockGain, .ref mm_clockRough, .ref mm_personName, .ref mm_personOff, .ref mm_personGain, .ref mm_personRough, .ref mm_custom, .ref mm_customA, .ref mm_customB, .ref mm_ruleFrom, .ref mm_ruleTo, .ref mm_roundOf, .ref mm_roundAt, .ref mm_roundHour, .ref mm_gunAt, .ref mm_gunHour, .ref mm_knotSort, .ref mm_knotValue, .int 0, .int 0, .int 0, .int 0, .int 0, .int 0, .int 0, .int 0, .int 0, .int (-1), .int 0, .int 0, .int 0, .int 0, .int 0, .int 0, .int 0, .int 0, .int 0, .int 0, .int 0, .int 0, .ref mm_start, .ref mm_off, .ref mm_last, .ref mm_passed, .ref mm_kept, .ref mm_keptMany, .int 0, .int 0, .ref mm_history, .ref mm_names, .ref mm_worked, .int 0, .int 0, .int (-1), .ref mm_readThing, .ref mm_readHour, .ref mm_readLow, .ref mm_readHigh, .int 0, .int 0, .int 0, .ref mm_imageOff, .ref mm_imageLast, .ref mm_imagePassed, .ref mm_imageKept, .ref mm_imageMany, .ref mm_imageHistory])), (mm_number, .inl (k_mm_number, 10, .inl (fun _ => 0)))] := hD
  clear hPc hDc hKc hFc hP1 hD1 hk1 hz1 ht hvm
  have hw : r_12 = -2147483648 := hw
  subst r_12
  refine lv_icmp_eq (tgt := 1482) hx hb dL_law_954 (by decide) (fun c_13 => ?_) (fun c_13 => absurd c_13 (by decide))
  refine lv_iinc (v := 7) (lv' := [(4, .int 7), (3, .ref oo), (2, .ref mm), (1, .ref xx), (0, .ref b)]) hx hb dL_law_1482 hl (k := 0) rfl (by decide) (by decide) rfl (fun ls hl => ?_)
  refine lv_goto (tgt := 23) hx hb dL_law_1485 (by decide) ?_
  refine lv_iload hx hb dL_law_23 (lv_at hl 0 rfl) ?_
  refine lv_aload_n hx hb dL_law_25 rfl (lv_at hl 4 rfl) ?_
  refine va_slen hx hb hX hbl hbA hS dL_law_26 ?_
  refine lv_topi (fun z_14 ez_14 => ?_)
  obtain rfl : z_14 = 7 := ez_14.trans (by decide)
  refine lv_bipush (v := 7) hx hb dL_law_27 (by decide) ?_
  refine lv_isub hx hb dL_law_29 ?_
  refine lv_topi (fun z_15 ez_15 => ?_)
  obtain rfl : z_15 = 0 := ez_15.trans (by decide)
  refine lv_icmp_gt (tgt := 1488) hx hb dL_law_30 (by decide) (fun c_16 => ?_) (fun c_16 => absurd c_16 (by decide))
  refine lv_iconst (v := 1) hx hb dL_law_1488 (by decide) ?_
  refine va_forget (fun q hq => hAo _ (hS.2.2 q hq)) ?_
  refine W.widen (k := 600002) (n := 7302232) (Nat.le_of_ble_eq_true rfl) (Nat.le_of_ble_eq_true rfl) ?_
  exact lw_ret hx hb hr hlocks dL_law_1489
set_option maxHeartbeats 4000000 in
set_option maxRecDepth 100000 in
theorem law_op_17 {p : Program} {l : Launch} {e : Env} {s : State} {m : MethodId} {below : List Frame} {meth : Method} {c : Code} {dC : Nat → ClassId} {dI : Nat → Nat → Nat} {b : Nat} {xs : Nat → Int32} {A : Nat → Prop} (C0 : lw_At p s m meth c b 7 xs) (hA : ∀ q, s.heap.size ≤ q → A q) (hbA : ¬ A b) (hAo : ∀ q, A q → s.heap.size ≤ q) {xx : Nat} {rr : Nat} {ta : Nat} {tb : Nat} {pa : Nat} {pb : Nat} {cn : Nat} {ci : Nat} {cp : Nat} {ct : Nat} {hs : Nat} {rd : Nat} {wy : Nat} {ea : Nat} {eb : Nat} {ta_name : Nat} {ta_first : Nat} {ta_gain : Nat} {ta_rough : Nat} {ta_custom : Nat} {ta_part : Nat} {ta_whole : Nat} {ta_roundPerson : Nat} {ta_roundClock : Nat} {ta_roundHour : Nat} {ta_gunClock : Nat} {ta_gunHour : Nat} {tau : Nat} {mm : Nat} {mm_tape : Nat} {mm_number : Nat} {mm_clockName : Nat} {mm_clockOff : Nat} {mm_clockGain : Nat} {mm_clockRough : Nat} {mm_personName : Nat} {mm_personOff : Nat} {mm_personGain : Nat} {mm_personRough : Nat} {mm_custom : Nat} {mm_customA : Nat} {mm_customB : Nat} {mm_ruleFrom : Nat} {mm_ruleTo : Nat} {mm_roundOf : Nat} {mm_roundAt : Nat} {mm_roundHour : Nat} {mm_gunAt : Nat} {mm_gunHour : Nat} {mm_knotSort : Nat} {mm_knotValue : Nat} {mm_start : Nat} {mm_off : Nat} {mm_last : Nat} {mm_passed : Nat} {mm_kept : Nat} {mm_keptMany : Nat} {mm_history : Nat} {mm_names : Nat} {mm_worked : Nat} {mm_readThing : Nat} {mm_readHour : Nat} {mm_readLow : Nat} {mm_readHigh : Nat} {mm_imageOff : Nat} {mm_imageLast : Nat} {mm_imagePassed : Nat} {mm_imageKept : Nat} {mm_imageMany : Nat} {mm_imageHistory : Nat} {k_mm_number : ClassId} {oo : Nat} {H : Heap} {locs : List Loc} {ls : Array Slot} (hK : va_K (dC, dI) vwCl [(k_mm_number, .int)] s) (hP : va_P (dC, dI) vwCl [(xx, .inr (10, [.ref rr, .ref ta, .ref tb, .ref pa, .ref pb, .ref cn, .ref ci, .int 0, .ref cp, .ref ct, .ref hs, .ref rd, .ref wy, .ref ea, .ref eb])), (ta, .inr (8, [.int 0, .int 0, .int 0, .int 0, .int 0, .ref ta_name, .ref ta_first, .ref ta_gain, .ref ta_rough, .ref ta_custom, .ref ta_part, .ref ta_whole, .ref ta_roundPerson, .ref ta_roundClock, .ref ta_roundHour, .ref ta_gunClock, .ref ta_gunHour, .ref tau])), (mm, .inr (11, [.int 0, .ref mm_tape, .int 0, .ref mm_number, .ref mm_clockName, .ref mm_clockOff, .ref mm_clockGain, .ref mm_clockRough, .ref mm_personName, .ref mm_personOff, .ref mm_personGain, .ref mm_personRough, .ref mm_custom, .ref mm_customA, .ref mm_customB, .ref mm_ruleFrom, .ref mm_ruleTo, .ref mm_roundOf, .ref mm_roundAt, .ref mm_roundHour, .ref mm_gunAt, .ref mm_gunHour, .ref mm_knotSort, .ref mm_knotValue, .int 0, .int 0, .int 0, .int 0, .int 0, .int 0, .int 0, .int 0, .int 0, .int (-1), .int 0, .int 0, .int 0, .int 0, .int 0, .int 0, .int 0, .int 0, .int 0, .int 0, .int 0, .int 0, .ref mm_start, .ref mm_off, .ref mm_last, .ref mm_passed, .ref mm_kept, .ref mm_keptMany, .int 0, .int 0, .ref mm_history, .ref mm_names, .ref mm_worked, .int 0, .int 0, .int (-1), .ref mm_readThing, .ref mm_readHour, .ref mm_readLow, .ref mm_readHigh, .int 0, .int 0, .int 0, .ref mm_imageOff, .ref mm_imageLast, .ref mm_imagePassed, .ref mm_imageKept, .ref mm_imageMany, .ref mm_imageHistory])), (mm_number, .inl (k_mm_number, 10, .inl (fun _ => 0)))] H) (hD : va_D A [(xx, .inr (10, [.ref rr, .ref ta, .ref tb, .ref pa, .ref pb, .ref cn, .ref ci, .int 0, .ref cp, .ref ct, .ref hs, .ref rd, .ref wy, .ref ea, .ref eb])), (ta, .inr (8, [.int 0, .int 0, .int 0, .int 0, .int 0, .ref ta_name, .ref ta_first, .ref ta_gain, .ref ta_rough, .ref ta_custom, .ref ta_part, .ref ta_whole, .ref ta_roundPerson, .ref ta_roundClock, .ref ta_roundHour, .ref ta_gunClock, .ref ta_gunHour, .ref tau])), (mm, .inr (11, [.int 0, .ref mm_tape, .int 0, .ref mm_number, .ref mm_clockName, .ref mm_clockOff, .ref mm_clockGain, .ref mm_clockRough, .ref mm_personName, .ref mm_personOff, .ref mm_personGain, .ref mm_personRough, .ref mm_custom, .ref mm_customA, .ref mm_customB, .ref mm_ruleFrom, .ref mm_ruleTo, .ref mm_roundOf, .ref mm_roundAt, .ref mm_roundHour, .ref mm_gunAt, .ref mm_gunHour, .ref mm_knotSort, .ref mm_knotValue, .int 0, .int 0, .int 0, .int 0, .int 0, .int 0, .int 0, .int 0, .int 0, .int (-1), .int 0, .int 0, .int 0, .int 0, .int 0, .int 0, .int 0, .int 0, .int 0, .int 0, .int 0, .int 0, .ref mm_start, .ref mm_off, .ref mm_last, .ref mm_passed, .ref mm_kept, .ref mm_keptMany, .int 0, .int 0, .ref mm_history, .ref mm_names, .ref mm_worked, .int 0, .int 0, .int (-1), .ref mm_readThing, .ref mm_readHour, .ref mm_readLow, .ref mm_readHigh, .int 0, .int 0, .int 0, .ref mm_imageOff, .ref mm_imageLast, .ref mm_imagePassed, .ref mm_imageKept, .ref mm_imageMany, .ref mm_imageHistory])), (mm_number, .inl (k_mm_number, 10, .inl (fun _ => 0)))]) (hS : va_S A s.heap H locs) (hl : lv_has ls 7 [(4, .int 0), (3, .ref oo), (2, .ref mm), (1, .ref xx), (0, .ref b)]) : W p l e room_1 s m #[Value.ref b] below meth c H locs 160 67979 (lw_Z below #[Value.ref b] s) (F0 m 959 ls []) := by
  obtain ⟨hx, hb, hr, hml, hown, hts, hX, hbl, hlocks, hgv⟩ := C0
  have hT : ∀ w ∈ pw_T, w.before #[Value.ref b] s = true := fun w h => hts w (List.mem_filter.mp h).1
  have hown : s.vm.findClass RL = some m.cls := hown
  refine lv_aload_n hx hb dL_law_959 rfl (lv_at hl 3 rfl) ?_
  refine lv_aload_n hx hb dL_law_960 rfl (lv_at hl 4 rfl) ?_
  refine lv_iload hx hb dL_law_961 (lv_at hl 0 rfl) ?_
  refine lv_iconst (v := 1) hx hb dL_law_963 (by decide) ?_
  refine lv_iadd hx hb dL_law_964 ?_
  refine lv_topi (fun z_1 ez_1 => ?_)
  obtain rfl : z_1 = 1 := ez_1.trans (by decide)
  refine va_sld hx hb hX hbl hbA hS (pk_in 1 7 (by decide) (by decide) (by decide)) dL_law_965 ?_
  refine lv_topi (fun z_2 ez_2 => ?_)
  replace ez_2 : z_2 = xs 1 := ez_2
  subst z_2
  refine lv_aload_n hx hb dL_law_966 rfl (lv_at hl 4 rfl) ?_
  refine lv_iload hx hb dL_law_967 (lv_at hl 0 rfl) ?_
  refine lv_iconst (v := 2) hx hb dL_law_969 (by decide) ?_
  refine lv_iadd hx hb dL_law_970 ?_
  refine lv_topi (fun z_3 ez_3 => ?_)
  obtain rfl : z_3 = 2 := ez_3.trans (by decide)
  refine va_sld hx hb hX hbl hbA hS (pk_in 2 7 (by decide) (by decide) (by decide)) dL_law_971 ?_
  refine lv_topi (fun z_4 ez_4 => ?_)
  replace ez_4 : z_4 = xs 2 := ez_4
  subst z_4
  refine lv_aload_n hx hb dL_law_972 rfl (lv_at hl 4 rfl) ?_
  refine lv_iload hx hb dL_law_973 (lv_at hl 0 rfl) ?_
  refine lv_iconst (v := 3) hx hb dL_law_975 (by decide) ?_
  refine lv_iadd hx hb dL_law_976 ?_
  refine lv_topi (fun z_5 ez_5 => ?_)
  obtain rfl : z_5 = 3 := ez_5.trans (by decide)
  refine va_sld hx hb hX hbl hbA hS (pk_in 3 7 (by decide) (by decide) (by decide)) dL_law_977 ?_
  refine lv_topi (fun z_6 ez_6 => ?_)
  replace ez_6 : z_6 = xs 3 := ez_6
  subst z_6
  refine lv_aload_n hx hb dL_law_978 rfl (lv_at hl 4 rfl) ?_
  refine lv_iload hx hb dL_law_979 (lv_at hl 0 rfl) ?_
  refine lv_iconst (v := 4) hx hb dL_law_981 (by decide) ?_
  refine lv_iadd hx hb dL_law_982 ?_
  refine lv_topi (fun z_7 ez_7 => ?_)
  obtain rfl : z_7 = 4 := ez_7.trans (by decide)
  refine va_sld hx hb hX hbl hbA hS (pk_in 4 7 (by decide) (by decide) (by decide)) dL_law_983 ?_
  refine lv_topi (fun z_8 ez_8 => ?_)
  replace ez_8 : z_8 = xs 4 := ez_8
  subst z_8
  have hPc := hP.sub (ws' := [(xx, .inr (10, [.ref rr, .ref ta, .ref tb, .ref pa, .ref pb, .ref cn, .ref ci, .int 0, .ref cp, .ref ct, .ref hs, .ref rd, .ref wy, .ref ea, .ref eb])), (ta, .inr (8, [.int 0, .int 0, .int 0, .int 0, .int 0, .ref ta_name, .ref ta_first, .ref ta_gain, .ref ta_rough, .ref ta_custom, .ref ta_part, .ref ta_whole, .ref ta_roundPerson, .ref ta_roundClock, .ref ta_roundHour, .ref ta_gunClock, .ref ta_gunHour, .ref tau]))]) [0, 1] rfl
  have hDc := hD.sub (ws' := [(xx, .inr (10, [.ref rr, .ref ta, .ref tb, .ref pa, .ref pb, .ref cn, .ref ci, .int 0, .ref cp, .ref ct, .ref hs, .ref rd, .ref wy, .ref ea, .ref eb])), (ta, .inr (8, [.int 0, .int 0, .int 0, .int 0, .int 0, .ref ta_name, .ref ta_first, .ref ta_gain, .ref ta_rough, .ref ta_custom, .ref ta_part, .ref ta_whole, .ref ta_roundPerson, .ref ta_roundClock, .ref ta_roundHour, .ref ta_gunClock, .ref ta_gunHour, .ref tau]))]) [0, 1] (by decide) rfl
  have hKc := hK.sub (tys' := []) [] rfl
  have hFc := va_free (wc := [(xx, .inr (10, [.ref rr, .ref ta, .ref tb, .ref pa, .ref pb, .ref cn, .ref ci, .int 0, .ref cp, .ref ct, .ref hs, .ref rd, .ref wy, .ref ea, .ref eb])), (ta, .inr (8, [.int 0, .int 0, .int 0, .int 0, .int 0, .ref ta_name, .ref ta_first, .ref ta_gain, .ref ta_rough, .ref ta_custom, .ref ta_part, .ref ta_whole, .ref ta_roundPerson, .ref ta_roundClock, .ref ta_roundHour, .ref ta_gunClock, .ref ta_gunHour, .ref tau]))]) hD hS hA [0, 1] rfl
  refine va_calli (va_runV (As := [.int (xs 1), .int (xs 2), .int (xs 3), .int (xs 4)]) (rest := []) ⟨hx, hb, hml, hown, hT⟩ (c_X10_reading l dC dI H.size xx (xs 1) (xs 2) (xs 3) (xs 4) rr ta tb pa pb cn ci (0 : Int32) cp ct hs rd wy ea eb (0 : Int32) (0 : Int32) (0 : Int32) ta_name ta_first ta_gain ta_rough ta_custom ta_part ta_whole ta_roundPerson ta_roundClock ta_roundHour ta_gunClock ta_gunHour tau ) (cwV 4 hT (gwV mw_5_4 mw_5_5 mw_5_6 mw_1_1 mw_5_7) rfl rfl rfl (by decide +kernel) ⟨Nat.le_of_ble_eq_true rfl, Nat.le_of_ble_eq_true rfl⟩) ⟨fun a U g mk q => by obtain ⟨q0, q1, qP, qK, qD⟩ := q; exact ⟨q0, q1, qP, va_K.moved (u := U) (U := U.calling g mk a) (Vm.Alike.refl U.vm) qK, qD⟩, va_recv hK hP (ci := 10) (q0 := 0) rfl rfl, fun U hU hW => ⟨rfl, by rw [hU], by rw [hU]; exact hPc, va_K.moved hW.alike hKc, hDc.weaken (fun _ _ _ _ => trivial)⟩⟩ rfl rfl hl.1 rfl (lv_room (Nat.le_of_ble_eq_true rfl)) dL_law_984 ⟨Nat.le_of_ble_eq_true rfl, Nat.le_of_ble_eq_true rfl⟩) hS (fun q _ h => hFc q h) hFc (fun r_10 u t H1 locs ht hvm hw hB hz1 hk1 hS => ?_)
  obtain ⟨hP1, hD1⟩ := hB
  rw [ht] at hP1
  obtain ⟨hP, hD⟩ := va_join (wr := [(mm, .inr (11, [.int 0, .ref mm_tape, .int 0, .ref mm_number, .ref mm_clockName, .ref mm_clockOff, .ref mm_clockGain, .ref mm_clockRough, .ref mm_personName, .ref mm_personOff, .ref mm_personGain, .ref mm_personRough, .ref mm_custom, .ref mm_customA, .ref mm_customB, .ref mm_ruleFrom, .ref mm_ruleTo, .ref mm_roundOf, .ref mm_roundAt, .ref mm_roundHour, .ref mm_gunAt, .ref mm_gunHour, .ref mm_knotSort, .ref mm_knotValue, .int 0, .int 0, .int 0, .int 0, .int 0, .int 0, .int 0, .int 0, .int 0, .int (-1), .int 0, .int 0, .int 0, .int 0, .int 0, .int 0, .int 0, .int 0, .int 0, .int 0, .int 0, .int 0, .ref mm_start, .ref mm_off, .ref mm_last, .ref mm_passed, .ref mm_kept, .ref mm_keptMany, .int 0, .int 0, .ref mm_history, .ref mm_names, .ref mm_worked, .int 0, .int 0, .int (-1), .ref mm_readThing, .ref mm_readHour, .ref mm_readLow, .ref mm_readHigh, .int 0, .int 0, .int 0, .ref mm_imageOff, .ref mm_imageLast, .ref mm_imagePassed, .ref mm_imageKept, .ref mm_imageMany, .ref mm_imageHistory])), (mm_number, .inl (k_mm_number, 10, .inl (fun _ => 0)))]) (w1 := [(xx, .inr (10, [.ref rr, .ref ta, .ref tb, .ref pa, .ref pb, .ref cn, .ref ci, .int 0, .ref cp, .ref ct, .ref hs, .ref rd, .ref wy, .ref ea, .ref eb])), (ta, .inr (8, [.int 0, .int 0, .int 0, .int 0, .int 0, .ref ta_name, .ref ta_first, .ref ta_gain, .ref ta_rough, .ref ta_custom, .ref ta_part, .ref ta_whole, .ref ta_roundPerson, .ref ta_roundClock, .ref ta_roundHour, .ref ta_gunClock, .ref ta_gunHour, .ref tau]))]) hP hD [0, 1] [2, 3] rfl rfl (by decide) (by decide) hk1 hFc hP1 hD1
  generalize H1 = H at hP hS ⊢
  have hP : va_P (dC, dI) vwCl [(mm, .inr (11, [.int 0, .ref mm_tape, .int 0, .ref mm_number, .ref mm_clockName, .ref mm_clockOff, .ref mm_clockGain, .ref mm_clockRough, .ref mm_personName, .ref mm_personOff, .ref mm_personGain, .ref mm_personRough, .ref mm_custom, .ref mm_customA, .ref mm_customB, .ref mm_ruleFrom, .ref mm_ruleTo, .ref mm_roundOf, .ref mm_roundAt, .ref mm_roundHour, .ref mm_gunAt, .ref mm_gunHour, .ref mm_knotSort, .ref mm_knotValue, .int 0, .int 0, .int 0, .int 0, .int 0, .int 0, .int 0, .int 0, .int 0, .int (-1), .int 0, .int 0, .int 0, .int 0, .int 0, .int 0, .int 0, .int 0, .int 0, .int 0, .int 0, .int 0, .ref mm_start, .ref mm_off, .ref mm_last, .ref mm_passed, .ref mm_kept, .ref mm_keptMany, .int 0, .int 0, .ref mm_history, .ref mm_names, .ref mm_worked, .int 0, .int 0, .int (-1), .ref mm_readThing, .ref mm_readHour, .ref mm_readLow, .ref mm_readHigh, .int 0, .int 0, .int 0, .ref mm_imageOff, .ref mm_imageLast, .ref mm_imagePassed, .ref mm_imageKept, .ref mm_imageMany, .ref mm_imageHistory])), (mm_number, .inl (k_mm_number, 10, .inl (fun _ => 0))), (xx, .inr (10, [.ref rr, .ref ta, .ref tb, .ref pa, .ref pb, .ref cn, .ref ci, .int 0, .ref cp, .ref ct, .ref hs, .ref rd, .ref wy, .ref ea, .ref eb])), (ta, .inr (8, [.int 0, .int 0, .int 0, .int 0, .int 0, .ref ta_name, .ref ta_first, .ref ta_gain, .ref ta_rough, .ref ta_custom, .ref ta_part, .ref ta_whole, .ref ta_roundPerson, .ref ta_roundClock, .ref ta_roundHour, .ref ta_gunClock, .ref ta_gunHour, .ref tau]))] H := hP
  have hD : va_D A [(mm, .inr (11, [.int 0, .ref mm_tape, .int 0, .ref mm_number, .ref mm_clockName, .ref mm_clockOff, .ref mm_clockGain, .ref mm_clockRough, .ref mm_personName, .ref mm_personOff, .ref mm_personGain, .ref mm_personRough, .ref mm_custom, .ref mm_customA, .ref mm_customB, .ref mm_ruleFrom, .ref mm_ruleTo, .ref mm_roundOf, .ref mm_roundAt, .ref mm_roundHour, .ref mm_gunAt, .ref mm_gunHour, .ref mm_knotSort, .ref mm_knotValue, .int 0, .int 0, .int 0, .int 0, .int 0, .int 0, .int 0, .int 0, .int 0, .int (-1), .int 0, .int 0, .int 0, .int 0, .int 0, .int 0, .int 0, .int 0, .int 0, .int 0, .int 0, .int 0, .ref mm_start, .ref mm_off, .ref mm_last, .ref mm_passed, .ref mm_kept, .ref mm_keptMany, .int 0, .int 0, .ref mm_history, .ref mm_names, .ref mm_worked, .int 0, .int 0, .int (-1), .ref mm_readThing, .ref mm_readHour, .ref mm_readLow, .ref mm_readHigh, .int 0, .int 0, .int 0, .ref mm_imageOff, .ref mm_imageLast, .ref mm_imagePassed, .ref mm_imageKept, .ref mm_imageMany, .ref mm_imageHistory])), (mm_number, .inl (k_mm_number, 10, .inl (fun _ => 0))), (xx, .inr (10, [.ref rr, .ref ta, .ref tb, .ref pa, .ref pb, .ref cn, .ref ci, .int 0, .ref cp, .ref ct, .ref hs, .ref rd, .ref wy, .ref ea, .ref eb])), (ta, .inr (8, [.int 0, .int 0, .int 0, .int 0, .int 0, .ref ta_name, .ref ta_first, .ref ta_gain, .ref ta_rough, .ref ta_custom, .ref ta_part, .ref ta_whole, .ref ta_roundPerson, .ref ta_roundClock, .ref ta_roundHour, .ref ta_gunClock, .ref ta_gunHour, .ref tau]))] := hD
  clear hPc hDc hKc hFc hP1 hD1 hk1 hz1 ht hvm
  have hw : r_10 = -1 := hw
  subst r_10
  refine lv_aload_n hx hb dL_law_987 rfl (lv_at hl 2 rfl) ?_
  refine lv_aload_n hx hb dL_law_988 rfl (lv_at hl 4 rfl) ?_
  refine lv_iload hx hb dL_law_989 (lv_at hl 0 rfl) ?_
  refine lv_iconst (v := 1) hx hb dL_law_991 (by decide) ?_
  refine lv_iadd hx hb dL_law_992 ?_
  refine lv_topi (fun z_11 ez_11 => ?_)
  obtain rfl : z_11 = 1 := ez_11.trans (by decide)
  refine va_sld hx hb hX hbl hbA hS (pk_in 1 7 (by decide) (by decide) (by decide)) dL_law_993 ?_
  refine lv_topi (fun z_12 ez_12 => ?_)
  replace ez_12 : z_12 = xs 1 := ez_12
  subst z_12
  refine lv_aload_n hx hb dL_law_994 rfl (lv_at hl 4 rfl) ?_
  refine lv_iload hx hb dL_law_995 (lv_at hl 0 rfl) ?_
  refine lv_iconst (v := 2) hx hb dL_law_997 (by decide) ?_
  refine lv_iadd hx hb dL_law_998 ?_
  refine lv_topi (fun z_13 ez_13 => ?_)
  obtain rfl : z_13 = 2 := ez_13.trans (by decide)
  refine va_sld hx hb hX hbl hbA hS (pk_in 2 7 (by decide) (by decide) (by decide)) dL_law_999 ?_
  refine lv_topi (fun z_14 ez_14 => ?_)
  replace ez_14 : z_14 = xs 2 := ez_14
  subst z_14
  refine lv_aload_n hx hb dL_law_1000 rfl (lv_at hl 4 rfl) ?_
  refine lv_iload hx hb dL_law_1001 (lv_at hl 0 rfl) ?_
  refine lv_iconst (v := 3) hx hb dL_law_1003 (by decide) ?_
  refine lv_iadd hx hb dL_law_1004 ?_
  refine lv_topi (fun z_15 ez_15 => ?_)
  obtain rfl : z_15 = 3 := ez_15.trans (by decide)
  refine va_sld hx hb hX hbl hbA hS (pk_in 3 7 (by decide) (by decide) (by decide)) dL_law_1005 ?_
  refine lv_topi (fun z_16 ez_16 => ?_)
  replace ez_16 : z_16 = xs 3 := ez_16
  subst z_16
  refine lv_aload_n hx hb dL_law_1006 rfl (lv_at hl 4 rfl) ?_
  refine lv_iload hx hb dL_law_1007 (lv_at hl 0 rfl) ?_
  refine lv_iconst (v := 4) hx hb dL_law_1009 (by decide) ?_
  refine lv_iadd hx hb dL_law_1010 ?_
  refine lv_topi (fun z_17 ez_17 => ?_)
  obtain rfl : z_17 = 4 := ez_17.trans (by decide)
  refine va_sld hx hb hX hbl hbA hS (pk_in 4 7 (by decide) (by decide) (by decide)) dL_law_1011 ?_
  refine lv_topi (fun z_18 ez_18 => ?_)
  replace ez_18 : z_18 = xs 4 := ez_18
  subst z_18
  have hPc := hP.sub (ws' := [(mm, .inr (11, [.int 0, .ref mm_tape, .int 0, .ref mm_number, .ref mm_clockName, .ref mm_clockOff, .ref mm_clockGain, .ref mm_clockRough, .ref mm_personName, .ref mm_personOff, .ref mm_personGain, .ref mm_personRough, .ref mm_custom, .ref mm_customA, .ref mm_customB, .ref mm_ruleFrom, .ref mm_ruleTo, .ref mm_roundOf, .ref mm_roundAt, .ref mm_roundHour, .ref mm_gunAt, .ref mm_gunHour, .ref mm_knotSort, .ref mm_knotValue, .int 0, .int 0, .int 0, .int 0, .int 0, .int 0, .int 0, .int 0, .int 0, .int (-1), .int 0, .int 0, .int 0, .int 0, .int 0, .int 0, .int 0, .int 0, .int 0, .int 0, .int 0, .int 0, .ref mm_start, .ref mm_off, .ref mm_last, .ref mm_passed, .ref mm_kept, .ref mm_keptMany, .int 0, .int 0, .ref mm_history, .ref mm_names, .ref mm_worked, .int 0, .int 0, .int (-1), .ref mm_readThing, .ref mm_readHour, .ref mm_readLow, .ref mm_readHigh, .int 0, .int 0, .int 0, .ref mm_imageOff, .ref mm_imageLast, .ref mm_imagePassed, .ref mm_imageKept, .ref mm_imageMany, .ref mm_imageHistory])), (mm_number, .inl (k_mm_number, 10, .inl (fun _ => 0)))]) [0, 1] rfl
  have hDc := hD.sub (ws' := [(mm, .inr (11, [.int 0, .ref mm_tape, .int 0, .ref mm_number, .ref mm_clockName, .ref mm_clockOff, .ref mm_clockGain, .ref mm_clockRough, .ref mm_personName, .ref mm_personOff, .ref mm_personGain, .ref mm_personRough, .ref mm_custom, .ref mm_customA, .ref mm_customB, .ref mm_ruleFrom, .ref mm_ruleTo, .ref mm_roundOf, .ref mm_roundAt, .ref mm_roundHour, .ref mm_gunAt, .ref mm_gunHour, .ref mm_knotSort, .ref mm_knotValue, .int 0, .int 0, .int 0, .int 0, .int 0, .int 0, .int 0, .int 0, .int 0, .int (-1), .int 0, .int 0, .int 0, .int 0, .int 0, .int 0, .int 0, .int 0, .int 0, .int 0, .int 0, .int 0, .ref mm_start, .ref mm_off, .ref mm_last, .ref mm_passed, .ref mm_kept, .ref mm_keptMany, .int 0, .int 0, .ref mm_history, .ref mm_names, .ref mm_worked, .int 0, .int 0, .int (-1), .ref mm_readThing, .ref mm_readHour, .ref mm_readLow, .ref mm_readHigh, .int 0, .int 0, .int 0, .ref mm_imageOff, .ref mm_imageLast, .ref mm_imagePassed, .ref mm_imageKept, .ref mm_imageMany, .ref mm_imageHistory])), (mm_number, .inl (k_mm_number, 10, .inl (fun _ => 0)))]) [0, 1] (by decide) rfl
  have hKc := hK.sub (tys' := [(k_mm_number, .int)]) [0] rfl
  have hFc := va_free (wc := [(mm, .inr (11, [.int 0, .ref mm_tape, .int 0, .ref mm_number, .ref mm_clockName, .ref mm_clockOff, .ref mm_clockGain, .ref mm_clockRough, .ref mm_personName, .ref mm_personOff, .ref mm_personGain, .ref mm_personRough, .ref mm_custom, .ref mm_customA, .ref mm_customB, .ref mm_ruleFrom, .ref mm_ruleTo, .ref mm_roundOf, .ref mm_roundAt, .ref mm_roundHour, .ref mm_gunAt, .ref mm_gunHour, .ref mm_knotSort, .ref mm_knotValue, .int 0, .int 0, .int 0, .int 0, .int 0, .int 0, .int 0, .int 0, .int 0, .int (-1), .int 0, .int 0, .int 0, .int 0, .int 0, .int 0, .int 0, .int 0, .int 0, .int 0, .int 0, .int 0, .ref mm_start, .ref mm_off, .ref mm_last, .ref mm_passed, .ref mm_kept, .ref mm_keptMany, .int 0, .int 0, .ref mm_history, .ref mm_names, .ref mm_worked, .int 0, .int 0, .int (-1), .ref mm_readThing, .ref mm_readHour, .ref mm_readLow, .ref mm_readHigh, .int 0, .int 0, .int 0, .ref mm_imageOff, .ref mm_imageLast, .ref mm_imagePassed, .ref mm_imageKept, .ref mm_imageMany, .ref mm_imageHistory])), (mm_number, .inl (k_mm_number, 10, .inl (fun _ => 0)))]) hD hS hA [0, 1] rfl
  have := (by decide : (0 : Int32).toInt = 0)
  have := (by decide : (0 : Int32).toInt = 0)
  have := (by decide : (0 : Int32).toInt = 0)
  have := (by decide : (0 : Int32).toInt = 0)
  have := (by decide : (0 : Int32).toInt = 0)
  have := (by decide : (0 : Int32).toInt = 0)
  have := (by decide : (0 : Int32).toInt = 0)
  have := (by decide : (0 : Int32).toInt = 0)
  have := (by decide : (0 : Int32).toInt = 0)
  have := (by decide : (0 : Int32).toInt = 0)
  have := (by decide : (0 : Int32).toInt = 0)
  have := (by decide : ((-1) : Int32).toInt = -1)
  have := (by decide : (0 : Int32).toInt = 0)
  have := (by decide : (0 : Int32).toInt = 0)
  have := (by decide : (0 : Int32).toInt = 0)
  have := (by decide : (0 : Int32).toInt = 0)
  have := (by decide : (0 : Int32).toInt = 0)
  have := (by decide : (0 : Int32).toInt = 0)
  have := (by decide : (0 : Int32).toInt = 0)
  have := (by decide : (0 : Int32).toInt = 0)
  have := (by decide : (0 : Int32).toInt = 0)
  have := (by decide : (0 : Int32).toInt = 0)
  have := (by decide : (0 : Int32).toInt = 0)
  have := (by decide : (0 : Int32).toInt = 0)
  have := (by decide : (0 : Int32).toInt = 0)
  have := (by decide : (0 : Int32).toInt = 0)
  have := (by decide : (0 : Int32).toInt = 0)
  have := (by decide : (0 : Int32).toInt = 0)
  have := (by decide : ((-1) : Int32).toInt = -1)
  have := (by decide : (0 : Int32).toInt = 0)
  have := (by decide : (0 : Int32).toInt = 0)
  have := (by decide : (0 : Int32).toInt = 0)
  refine va_calli (va_runV (As := [.int (xs 1), .int (xs 2), .int (xs 3), .int (xs 4)]) (rest := [.int (-1)]) ⟨hx, hb, hml, hown, hT⟩ (c_X11_reading l dC dI H.size mm (xs 1) (xs 2) (xs 3) (xs 4) (0 : Int32) mm_tape (0 : Int32) mm_number mm_clockName mm_clockOff mm_clockGain mm_clockRough mm_personName mm_personOff mm_personGain mm_personRough mm_custom mm_customA mm_customB mm_ruleFrom mm_ruleTo mm_roundOf mm_roundAt mm_roundHour mm_gunAt mm_gunHour mm_knotSort mm_knotValue (0 : Int32) (0 : Int32) (0 : Int32) (0 : Int32) (0 : Int32) (0 : Int32) (0 : Int32) (0 : Int32) (0 : Int32) ((-1) : Int32) (0 : Int32) (0 : Int32) (0 : Int32) (0 : Int32) (0 : Int32) (0 : Int32) (0 : Int32) (0 : Int32) (0 : Int32) (0 : Int32) (0 : Int32) (0 : Int32) mm_start mm_off mm_last mm_passed mm_kept mm_keptMany (0 : Int32) (0 : Int32) mm_history mm_names mm_worked (0 : Int32) (0 : Int32) ((-1) : Int32) mm_readThing mm_readHour mm_readLow mm_readHigh (0 : Int32) (0 : Int32) (0 : Int32) mm_imageOff mm_imageLast mm_imagePassed mm_imageKept mm_imageMany mm_imageHistory k_mm_number (fun _ => 0) (fun _ => rfl)) (cwV 4 hT (gwV mw_8_96 mw_8_97 mw_8_98 mw_1_16 mw_8_99) rfl rfl rfl (by decide +kernel) ⟨Nat.le_of_ble_eq_true rfl, Nat.le_of_ble_eq_true rfl⟩) ⟨fun a U g mk q => by obtain ⟨q0, q1, qP, qK, qD⟩ := q; exact ⟨q0, q1, qP, va_K.moved (u := U) (U := U.calling g mk a) (Vm.Alike.refl U.vm) qK, qD⟩, va_recv hK hP (ci := 11) (q0 := 0) rfl rfl, fun U hU hW => ⟨rfl, by rw [hU], by rw [hU]; exact hPc, va_K.moved hW.alike hKc, hDc.weaken (fun _ _ _ _ => trivial)⟩⟩ rfl rfl hl.1 rfl (lv_room (Nat.le_of_ble_eq_true rfl)) dL_law_1012 ⟨Nat.le_of_ble_eq_true rfl, Nat.le_of_ble_eq_true rfl⟩) hS (fun q _ h => hFc q h) hFc (fun r_20 u t H1 locs ht hvm hw hB hz1 hk1 hS => ?_)
  obtain ⟨hP1, hD1⟩ := hB
  rw [ht] at hP1
  obtain ⟨hP, hD⟩ := va_join (wr := [(xx, .inr (10, [.ref rr, .ref ta, .ref tb, .ref pa, .ref pb, .ref cn, .ref ci, .int 0, .ref cp, .ref ct, .ref hs, .ref rd, .ref wy, .ref ea, .ref eb])), (ta, .inr (8, [.int 0, .int 0, .int 0, .int 0, .int 0, .ref ta_name, .ref ta_first, .ref ta_gain, .ref ta_rough, .ref ta_custom, .ref ta_part, .ref ta_whole, .ref ta_roundPerson, .ref ta_roundClock, .ref ta_roundHour, .ref ta_gunClock, .ref ta_gunHour, .ref tau]))]) (w1 := [(mm, .inr (11, [.int 0, .ref mm_tape, .int 0, .ref mm_number, .ref mm_clockName, .ref mm_clockOff, .ref mm_clockGain, .ref mm_clockRough, .ref mm_personName, .ref mm_personOff, .ref mm_personGain, .ref mm_personRough, .ref mm_custom, .ref mm_customA, .ref mm_customB, .ref mm_ruleFrom, .ref mm_ruleTo, .ref mm_roundOf, .ref mm_roundAt, .ref mm_roundHour, .ref mm_gunAt, .ref mm_gunHour, .ref mm_knotSort, .ref mm_knotValue, .int 0, .int 0, .int 0, .int 0, .int 0, .int 0, .int 0, .int 0, .int 0, .int (-1), .int 0, .int 0, .int 0, .int 0, .int 0, .int 0, .int 0, .int 0, .int 0, .int 0, .int 0, .int 0, .ref mm_start, .ref mm_off, .ref mm_last, .ref mm_passed, .ref mm_kept, .ref mm_keptMany, .int 0, .int 0, .ref mm_history, .ref mm_names, .ref mm_worked, .int 0, .int 0, .int (-1), .ref mm_readThing, .ref mm_readHour, .ref mm_readLow, .ref mm_readHigh, .int 0, .int 0, .int 0, .ref mm_imageOff, .ref mm_imageLast, .ref mm_imagePassed, .ref mm_imageKept, .ref mm_imageMany, .ref mm_imageHistory])), (mm_number, .inl (k_mm_number, 10, .inl (fun _ => 0)))]) hP hD [0, 1] [2, 3] rfl rfl (by decide) (by decide) hk1 hFc hP1 hD1
  generalize H1 = H at hP hS ⊢
  have hP : va_P (dC, dI) vwCl [(xx, .inr (10, [.ref rr, .ref ta, .ref tb, .ref pa, .ref pb, .ref cn, .ref ci, .int 0, .ref cp, .ref ct, .ref hs, .ref rd, .ref wy, .ref ea, .ref eb])), (ta, .inr (8, [.int 0, .int 0, .int 0, .int 0, .int 0, .ref ta_name, .ref ta_first, .ref ta_gain, .ref ta_rough, .ref ta_custom, .ref ta_part, .ref ta_whole, .ref ta_roundPerson, .ref ta_roundClock, .ref ta_roundHour, .ref ta_gunClock, .ref ta_gunHour, .ref tau])), (mm, .inr (11, [.int 0, .ref mm_tape, .int 0, .ref mm_number, .ref mm_clockName, .ref mm_clockOff, .ref mm_clockGain, .ref mm_clockRough, .ref mm_personName, .ref mm_personOff, .ref mm_personGain, .ref mm_personRough, .ref mm_custom, .ref mm_customA, .ref mm_customB, .ref mm_ruleFrom, .ref mm_ruleTo, .ref mm_roundOf, .ref mm_roundAt, .ref mm_roundHour, .ref mm_gunAt, .ref mm_gunHour, .ref mm_knotSort, .ref mm_knotValue, .int 0, .int 0, .int 0, .int 0, .int 0, .int 0, .int 0, .int 0, .int 0, .int (-1), .int 0, .int 0, .int 0, .int 0, .int 0, .int 0, .int 0, .int 0, .int 0, .int 0, .int 0, .int 0, .ref mm_start, .ref mm_off, .ref mm_last, .ref mm_passed, .ref mm_kept, .ref mm_keptMany, .int 0, .int 0, .ref mm_history, .ref mm_names, .ref mm_worked, .int 0, .int 0, .int (-1), .ref mm_readThing, .ref mm_readHour, .ref mm_readLow, .ref mm_readHigh, .int 0, .int 0, .int 0, .ref mm_imageOff, .ref mm_imageLast, .ref mm_imagePassed, .ref mm_imageKept, .ref mm_imageMany, .ref mm_imageHistory])), (mm_number, .inl (k_mm_number, 10, .inl (fun _ => 0)))] H := hP
  have hD : va_D A [(xx, .inr (10, [.ref rr, .ref ta, .ref tb, .ref pa, .ref pb, .ref cn, .ref ci, .int 0, .ref cp, .ref ct, .ref hs, .ref rd, .ref wy, .ref ea, .ref eb])), (ta, .inr (8, [.int 0, .int 0, .int 0, .int 0, .int 0, .ref ta_name, .ref ta_first, .ref ta_gain, .ref ta_rough, .ref ta_custom, .ref ta_part, .ref ta_whole, .ref ta_roundPerson, .ref ta_roundClock, .ref ta_roundHour, .ref ta_gunClock, .ref ta_gunHour, .ref tau])), (mm, .inr (11, [.int 0, .ref mm_tape, .int 0, .ref mm_number, .ref mm_clockName, .ref mm_clockOff, .ref mm_clockGain, .ref mm_clockRough, .ref mm_personName, .ref mm_personOff, .ref mm_personGain, .ref mm_personRough, .ref mm_custom, .ref mm_customA, .ref mm_customB, .ref mm_ruleFrom, .ref mm_ruleTo, .ref mm_roundOf, .ref mm_roundAt, .ref mm_roundHour, .ref mm_gunAt, .ref mm_gunHour, .ref mm_knotSort, .ref mm_knotValue, .int 0, .int 0, .int 0, .int 0, .int 0, .int 0, .int 0, .int 0, .int 0, .int (-1), .int 0, .int 0, .int 0, .int 0, .int 0, .int 0, .int 0, .int 0, .int 0, .int 0, .int 0, .int 0, .ref mm_start, .ref mm_off, .ref mm_last, .ref mm_passed, .ref mm_kept, .ref mm_keptMany, .int 0, .int 0, .ref mm_history, .ref mm_names, .ref mm_worked, .int 0, .int 0, .int (-1), .ref mm_readThing, .ref mm_readHour, .ref mm_readLow, .ref mm_readHigh, .int 0, .int 0, .int 0, .ref mm_imageOff, .ref mm_imageLast, .ref mm_imagePassed, .ref mm_imageKept, .ref mm_imageMany, .ref mm_imageHistory])), (mm_number, .inl (k_mm_number, 10, .inl (fun _ => 0)))] := hD
  clear hPc hDc hKc hFc hP1 hD1 hk1 hz1 ht hvm
  have hw : r_20 = -1 := hw
  subst r_20
  refine lv_icmp_eq (tgt := 1482) hx hb dL_law_1015 (by decide) (fun c_21 => ?_) (fun c_21 => absurd c_21 (by decide))
  refine lv_iinc (v := 7) (lv' := [(4, .int 7), (3, .ref oo), (2, .ref mm), (1, .ref xx), (0, .ref b)]) hx hb dL_law_1482 hl (k := 0) rfl (by decide) (by decide) rfl (fun ls hl => ?_)
  refine lv_goto (tgt := 23) hx hb dL_law_1485 (by decide) ?_
  refine lv_iload hx hb dL_law_23 (lv_at hl 0 rfl) ?_
  refine lv_aload_n hx hb dL_law_25 rfl (lv_at hl 4 rfl) ?_
  refine va_slen hx hb hX hbl hbA hS dL_law_26 ?_
  refine lv_topi (fun z_22 ez_22 => ?_)
  obtain rfl : z_22 = 7 := ez_22.trans (by decide)
  refine lv_bipush (v := 7) hx hb dL_law_27 (by decide) ?_
  refine lv_isub hx hb dL_law_29 ?_
  refine lv_topi (fun z_23 ez_23 => ?_)
  obtain rfl : z_23 = 0 := ez_23.trans (by decide)
  refine lv_icmp_gt (tgt := 1488) hx hb dL_law_30 (by decide) (fun c_24 => ?_) (fun c_24 => absurd c_24 (by decide))
  refine lv_iconst (v := 1) hx hb dL_law_1488 (by decide) ?_
  refine va_forget (fun q hq => hAo _ (hS.2.2 q hq)) ?_
  refine W.widen (k := 600002) (n := 7302232) (Nat.le_of_ble_eq_true rfl) (Nat.le_of_ble_eq_true rfl) ?_
  exact lw_ret hx hb hr hlocks dL_law_1489
set_option maxHeartbeats 4000000 in
set_option maxRecDepth 100000 in
theorem law_op_18 {p : Program} {l : Launch} {e : Env} {s : State} {m : MethodId} {below : List Frame} {meth : Method} {c : Code} {dC : Nat → ClassId} {dI : Nat → Nat → Nat} {b : Nat} {xs : Nat → Int32} {A : Nat → Prop} (C0 : lw_At p s m meth c b 7 xs) (hA : ∀ q, s.heap.size ≤ q → A q) (hbA : ¬ A b) (hAo : ∀ q, A q → s.heap.size ≤ q) {xx : Nat} {rr : Nat} {ta : Nat} {tb : Nat} {pa : Nat} {pb : Nat} {cn : Nat} {ci : Nat} {cp : Nat} {ct : Nat} {hs : Nat} {rd : Nat} {wy : Nat} {ea : Nat} {eb : Nat} {rd_slot : Nat} {rd_hour : Nat} {rd_low : Nat} {rd_high : Nat} {rd_byHour : Nat} {wy_seconds : Nat} {mm : Nat} {mm_tape : Nat} {mm_number : Nat} {mm_clockName : Nat} {mm_clockOff : Nat} {mm_clockGain : Nat} {mm_clockRough : Nat} {mm_personName : Nat} {mm_personOff : Nat} {mm_personGain : Nat} {mm_personRough : Nat} {mm_custom : Nat} {mm_customA : Nat} {mm_customB : Nat} {mm_ruleFrom : Nat} {mm_ruleTo : Nat} {mm_roundOf : Nat} {mm_roundAt : Nat} {mm_roundHour : Nat} {mm_gunAt : Nat} {mm_gunHour : Nat} {mm_knotSort : Nat} {mm_knotValue : Nat} {mm_start : Nat} {mm_off : Nat} {mm_last : Nat} {mm_passed : Nat} {mm_kept : Nat} {mm_keptMany : Nat} {mm_history : Nat} {mm_names : Nat} {mm_worked : Nat} {mm_readThing : Nat} {mm_readHour : Nat} {mm_readLow : Nat} {mm_readHigh : Nat} {mm_imageOff : Nat} {mm_imageLast : Nat} {mm_imagePassed : Nat} {mm_imageKept : Nat} {mm_imageMany : Nat} {mm_imageHistory : Nat} {oo : Nat} {H : Heap} {locs : List Loc} {ls : Array Slot} (hK : va_K (dC, dI) vwCl [] s) (hP : va_P (dC, dI) vwCl [(xx, .inr (10, [.ref rr, .ref ta, .ref tb, .ref pa, .ref pb, .ref cn, .ref ci, .int 0, .ref cp, .ref ct, .ref hs, .ref rd, .ref wy, .ref ea, .ref eb])), (rd, .inr (5, [.int 0, .int (-1), .ref rd_slot, .ref rd_hour, .ref rd_low, .ref rd_high, .ref rd_byHour])), (wy, .inr (9, [.int (-1), .int 0, .ref wy_seconds])), (mm, .inr (11, [.int 0, .ref mm_tape, .int 0, .ref mm_number, .ref mm_clockName, .ref mm_clockOff, .ref mm_clockGain, .ref mm_clockRough, .ref mm_personName, .ref mm_personOff, .ref mm_personGain, .ref mm_personRough, .ref mm_custom, .ref mm_customA, .ref mm_customB, .ref mm_ruleFrom, .ref mm_ruleTo, .ref mm_roundOf, .ref mm_roundAt, .ref mm_roundHour, .ref mm_gunAt, .ref mm_gunHour, .ref mm_knotSort, .ref mm_knotValue, .int 0, .int 0, .int 0, .int 0, .int 0, .int 0, .int 0, .int 0, .int 0, .int (-1), .int 0, .int 0, .int 0, .int 0, .int 0, .int 0, .int 0, .int 0, .int 0, .int 0, .int 0, .int 0, .ref mm_start, .ref mm_off, .ref mm_last, .ref mm_passed, .ref mm_kept, .ref mm_keptMany, .int 0, .int 0, .ref mm_history, .ref mm_names, .ref mm_worked, .int 0, .int 0, .int (-1), .ref mm_readThing, .ref mm_readHour, .ref mm_readLow, .ref mm_readHigh, .int 0, .int 0, .int 0, .ref mm_imageOff, .ref mm_imageLast, .ref mm_imagePassed, .ref mm_imageKept, .ref mm_imageMany, .ref mm_imageHistory]))] H) (hD : va_D A [(xx, .inr (10, [.ref rr, .ref ta, .ref tb, .ref pa, .ref pb, .ref cn, .ref ci, .int 0, .ref cp, .ref ct, .ref hs, .ref rd, .ref wy, .ref ea, .ref eb])), (rd, .inr (5, [.int 0, .int (-1), .ref rd_slot, .ref rd_hour, .ref rd_low, .ref rd_high, .ref rd_byHour])), (wy, .inr (9, [.int (-1), .int 0, .ref wy_seconds])), (mm, .inr (11, [.int 0, .ref mm_tape, .int 0, .ref mm_number, .ref mm_clockName, .ref mm_clockOff, .ref mm_clockGain, .ref mm_clockRough, .ref mm_personName, .ref mm_personOff, .ref mm_personGain, .ref mm_personRough, .ref mm_custom, .ref mm_customA, .ref mm_customB, .ref mm_ruleFrom, .ref mm_ruleTo, .ref mm_roundOf, .ref mm_roundAt, .ref mm_roundHour, .ref mm_gunAt, .ref mm_gunHour, .ref mm_knotSort, .ref mm_knotValue, .int 0, .int 0, .int 0, .int 0, .int 0, .int 0, .int 0, .int 0, .int 0, .int (-1), .int 0, .int 0, .int 0, .int 0, .int 0, .int 0, .int 0, .int 0, .int 0, .int 0, .int 0, .int 0, .ref mm_start, .ref mm_off, .ref mm_last, .ref mm_passed, .ref mm_kept, .ref mm_keptMany, .int 0, .int 0, .ref mm_history, .ref mm_names, .ref mm_worked, .int 0, .int 0, .int (-1), .ref mm_readThing, .ref mm_readHour, .ref mm_readLow, .ref mm_readHigh, .int 0, .int 0, .int 0, .ref mm_imageOff, .ref mm_imageLast, .ref mm_imagePassed, .ref mm_imageKept, .ref mm_imageMany, .ref mm_imageHistory]))]) (hS : va_S A s.heap H locs) (hl : lv_has ls 7 [(4, .int 0), (3, .ref oo), (2, .ref mm), (1, .ref xx), (0, .ref b)]) : W p l e room_1 s m #[Value.ref b] below meth c H locs 160 67979 (lw_Z below #[Value.ref b] s) (F0 m 1020 ls []) := by
  obtain ⟨hx, hb, hr, hml, hown, hts, hX, hbl, hlocks, hgv⟩ := C0
  have hT : ∀ w ∈ pw_T, w.before #[Value.ref b] s = true := fun w h => hts w (List.mem_filter.mp h).1
  have hown : s.vm.findClass RL = some m.cls := hown
  refine lv_aload_n hx hb dL_law_1020 rfl (lv_at hl 3 rfl) ?_
  refine lv_aload_n hx hb dL_law_1021 rfl (lv_at hl 4 rfl) ?_
  refine lv_iload hx hb dL_law_1022 (lv_at hl 0 rfl) ?_
  refine lv_iconst (v := 1) hx hb dL_law_1024 (by decide) ?_
  refine lv_iadd hx hb dL_law_1025 ?_
  refine lv_topi (fun z_1 ez_1 => ?_)
  obtain rfl : z_1 = 1 := ez_1.trans (by decide)
  refine va_sld hx hb hX hbl hbA hS (pk_in 1 7 (by decide) (by decide) (by decide)) dL_law_1026 ?_
  refine lv_topi (fun z_2 ez_2 => ?_)
  replace ez_2 : z_2 = xs 1 := ez_2
  subst z_2
  have hPc := hP.sub (ws' := [(xx, .inr (10, [.ref rr, .ref ta, .ref tb, .ref pa, .ref pb, .ref cn, .ref ci, .int 0, .ref cp, .ref ct, .ref hs, .ref rd, .ref wy, .ref ea, .ref eb])), (rd, .inr (5, [.int 0, .int (-1), .ref rd_slot, .ref rd_hour, .ref rd_low, .ref rd_high, .ref rd_byHour])), (wy, .inr (9, [.int (-1), .int 0, .ref wy_seconds]))]) [0, 1, 2] rfl
  have hDc := hD.sub (ws' := [(xx, .inr (10, [.ref rr, .ref ta, .ref tb, .ref pa, .ref pb, .ref cn, .ref ci, .int 0, .ref cp, .ref ct, .ref hs, .ref rd, .ref wy, .ref ea, .ref eb])), (rd, .inr (5, [.int 0, .int (-1), .ref rd_slot, .ref rd_hour, .ref rd_low, .ref rd_high, .ref rd_byHour])), (wy, .inr (9, [.int (-1), .int 0, .ref wy_seconds]))]) [0, 1, 2] (by decide) rfl
  have hKc := hK.sub (tys' := []) [] rfl
  have hFc := va_free (wc := [(xx, .inr (10, [.ref rr, .ref ta, .ref tb, .ref pa, .ref pb, .ref cn, .ref ci, .int 0, .ref cp, .ref ct, .ref hs, .ref rd, .ref wy, .ref ea, .ref eb])), (rd, .inr (5, [.int 0, .int (-1), .ref rd_slot, .ref rd_hour, .ref rd_low, .ref rd_high, .ref rd_byHour])), (wy, .inr (9, [.int (-1), .int 0, .ref wy_seconds]))]) hD hS hA [0, 1, 2] rfl
  have := (by decide : (0 : Int32).toInt = 0)
  have := (by decide : ((-1) : Int32).toInt = -1)
  have := (by decide : ((-1) : Int32).toInt = -1)
  have := (by decide : (0 : Int32).toInt = 0)
  refine va_calli (va_runV (As := [.int (xs 1)]) (rest := []) ⟨hx, hb, hml, hown, hT⟩ (c_X10_known l dC dI H.size xx (xs 1) rr ta tb pa pb cn ci (0 : Int32) cp ct hs rd wy ea eb ((-1) : Int32) rd_slot rd_hour rd_low rd_high rd_byHour ((-1) : Int32) (0 : Int32) wy_seconds ) (cwV 1 hT (gwV mw_5_14 mw_5_15 mw_5_16 mw_1_1 mw_5_17) rfl rfl rfl (by decide +kernel) ⟨Nat.le_of_ble_eq_true rfl, Nat.le_of_ble_eq_true rfl⟩) ⟨fun a U g mk q => by obtain ⟨q0, q1, qP, qK, qD⟩ := q; exact ⟨q0, q1, qP, va_K.moved (u := U) (U := U.calling g mk a) (Vm.Alike.refl U.vm) qK, qD⟩, va_recv hK hP (ci := 10) (q0 := 0) rfl rfl, fun U hU hW => ⟨rfl, by rw [hU], by rw [hU]; exact hPc, va_K.moved hW.alike hKc, hDc.weaken (fun _ _ _ _ => trivial)⟩⟩ rfl rfl hl.1 rfl (lv_room (Nat.le_of_ble_eq_true rfl)) dL_law_1027 ⟨Nat.le_of_ble_eq_true rfl, Nat.le_of_ble_eq_true rfl⟩) hS (fun q _ h => hFc q h) hFc (fun r_4 u t H1 locs ht hvm hw hB hz1 hk1 hS => ?_)
  obtain ⟨hP1, hD1⟩ := hB
  rw [ht] at hP1
  obtain ⟨hP, hD⟩ := va_join (wr := [(mm, .inr (11, [.int 0, .ref mm_tape, .int 0, .ref mm_number, .ref mm_clockName, .ref mm_clockOff, .ref mm_clockGain, .ref mm_clockRough, .ref mm_personName, .ref mm_personOff, .ref mm_personGain, .ref mm_personRough, .ref mm_custom, .ref mm_customA, .ref mm_customB, .ref mm_ruleFrom, .ref mm_ruleTo, .ref mm_roundOf, .ref mm_roundAt, .ref mm_roundHour, .ref mm_gunAt, .ref mm_gunHour, .ref mm_knotSort, .ref mm_knotValue, .int 0, .int 0, .int 0, .int 0, .int 0, .int 0, .int 0, .int 0, .int 0, .int (-1), .int 0, .int 0, .int 0, .int 0, .int 0, .int 0, .int 0, .int 0, .int 0, .int 0, .int 0, .int 0, .ref mm_start, .ref mm_off, .ref mm_last, .ref mm_passed, .ref mm_kept, .ref mm_keptMany, .int 0, .int 0, .ref mm_history, .ref mm_names, .ref mm_worked, .int 0, .int 0, .int (-1), .ref mm_readThing, .ref mm_readHour, .ref mm_readLow, .ref mm_readHigh, .int 0, .int 0, .int 0, .ref mm_imageOff, .ref mm_imageLast, .ref mm_imagePassed, .ref mm_imageKept, .ref mm_imageMany, .ref mm_imageHistory]))]) (w1 := [(xx, .inr (10, [.ref rr, .ref ta, .ref tb, .ref pa, .ref pb, .ref cn, .ref ci, .int 0, .ref cp, .ref ct, .ref hs, .ref rd, .ref wy, .ref ea, .ref eb]))]) hP hD [0, 1, 2] [3] rfl rfl (by decide) (by decide) hk1 hFc hP1 hD1
  generalize H1 = H at hP hS ⊢
  have hP : va_P (dC, dI) vwCl [(mm, .inr (11, [.int 0, .ref mm_tape, .int 0, .ref mm_number, .ref mm_clockName, .ref mm_clockOff, .ref mm_clockGain, .ref mm_clockRough, .ref mm_personName, .ref mm_personOff, .ref mm_personGain, .ref mm_personRough, .ref mm_custom, .ref mm_customA, .ref mm_customB, .ref mm_ruleFrom, .ref mm_ruleTo, .ref mm_roundOf, .ref mm_roundAt, .ref mm_roundHour, .ref mm_gunAt, .ref mm_gunHour, .ref mm_knotSort, .ref mm_knotValue, .int 0, .int 0, .int 0, .int 0, .int 0, .int 0, .int 0, .int 0, .int 0, .int (-1), .int 0, .int 0, .int 0, .int 0, .int 0, .int 0, .int 0, .int 0, .int 0, .int 0, .int 0, .int 0, .ref mm_start, .ref mm_off, .ref mm_last, .ref mm_passed, .ref mm_kept, .ref mm_keptMany, .int 0, .int 0, .ref mm_history, .ref mm_names, .ref mm_worked, .int 0, .int 0, .int (-1), .ref mm_readThing, .ref mm_readHour, .ref mm_readLow, .ref mm_readHigh, .int 0, .int 0, .int 0, .ref mm_imageOff, .ref mm_imageLast, .ref mm_imagePassed, .ref mm_imageKept, .ref mm_imageMany, .ref mm_imageHistory])), (xx, .inr (10, [.ref rr, .ref ta, .ref tb, .ref pa, .ref pb, .ref cn, .ref ci, .int 0, .ref cp, .ref ct, .ref hs, .ref rd, .ref wy, .ref ea, .ref eb]))] H := hP
  have hD : va_D A [(mm, .inr (11, [.int 0, .ref mm_tape, .int 0, .ref mm_number, .ref mm_clockName, .ref mm_clockOff, .ref mm_clockGain, .ref mm_clockRough, .ref mm_personName, .ref mm_personOff, .ref mm_personGain, .ref mm_personRough, .ref mm_custom, .ref mm_customA, .ref mm_customB, .ref mm_ruleFrom, .ref mm_ruleTo, .ref mm_roundOf, .ref mm_roundAt, .ref mm_roundHour, .ref mm_gunAt, .ref mm_gunHour, .ref mm_knotSort, .ref mm_knotValue, .int 0, .int 0, .int 0, .int 0, .int 0, .int 0, .int 0, .int 0, .int 0, .int (-1), .int 0, .int 0, .int 0, .int 0, .int 0, .int 0, .int 0, .int 0, .int 0, .int 0, .int 0, .int 0, .ref mm_start, .ref mm_off, .ref mm_last, .ref mm_passed, .ref mm_kept, .ref mm_keptMany, .int 0, .int 0, .ref mm_history, .ref mm_names, .ref mm_worked, .int 0, .int 0, .int (-1), .ref mm_readThing, .ref mm_readHour, .ref mm_readLow, .ref mm_readHigh, .int 0, .int 0, .int 0, .ref mm_imageOff, .ref mm_imageLast, .ref mm_imagePassed, .ref mm_imageKept, .ref mm_imageMany, .ref mm_imageHistory])), (xx, .inr (10, [.ref rr, .ref ta, .ref tb, .ref pa, .ref pb, .ref cn, .ref ci, .int 0, .ref cp, .ref ct, .ref hs, .ref rd, .ref wy, .ref ea, .ref eb]))] := hD
  clear hPc hDc hKc hFc hP1 hD1 hk1 hz1 ht hvm
  have hw : (r_4 = 1 ∧ (-1 ≤ (xs 1).toInt ∧ (xs 1).toInt ≤ 0)) ∨ (r_4 = 0 ∧ ((xs 1).toInt < -1 ∨ 0 < (xs 1).toInt)) := hw
  rcases hw with ⟨hrr_4, hfr_4⟩ | ⟨hrr_4, hfr_4⟩
  · subst r_4
    refine lv_aload_n hx hb dL_law_1030 rfl (lv_at hl 2 rfl) ?_
    refine lv_aload_n hx hb dL_law_1031 rfl (lv_at hl 4 rfl) ?_
    refine lv_iload hx hb dL_law_1032 (lv_at hl 0 rfl) ?_
    refine lv_iconst (v := 1) hx hb dL_law_1034 (by decide) ?_
    refine lv_iadd hx hb dL_law_1035 ?_
    refine lv_topi (fun z_5 ez_5 => ?_)
    obtain rfl : z_5 = 1 := ez_5.trans (by decide)
    refine va_sld hx hb hX hbl hbA hS (pk_in 1 7 (by decide) (by decide) (by decide)) dL_law_1036 ?_
    refine lv_topi (fun z_6 ez_6 => ?_)
    replace ez_6 : z_6 = xs 1 := ez_6
    subst z_6
    have hPc := hP.sub (ws' := [(mm, .inr (11, [.int 0, .ref mm_tape, .int 0, .ref mm_number, .ref mm_clockName, .ref mm_clockOff, .ref mm_clockGain, .ref mm_clockRough, .ref mm_personName, .ref mm_personOff, .ref mm_personGain, .ref mm_personRough, .ref mm_custom, .ref mm_customA, .ref mm_customB, .ref mm_ruleFrom, .ref mm_ruleTo, .ref mm_roundOf, .ref mm_roundAt, .ref mm_roundHour, .ref mm_gunAt, .ref mm_gunHour, .ref mm_knotSort, .ref mm_knotValue, .int 0, .int 0, .int 0, .int 0, .int 0, .int 0, .int 0, .int 0, .int 0, .int (-1), .int 0, .int 0, .int 0, .int 0, .int 0, .int 0, .int 0, .int 0, .int 0, .int 0, .int 0, .int 0, .ref mm_start, .ref mm_off, .ref mm_last, .ref mm_passed, .ref mm_kept, .ref mm_keptMany, .int 0, .int 0, .ref mm_history, .ref mm_names, .ref mm_worked, .int 0, .int 0, .int (-1), .ref mm_readThing, .ref mm_readHour, .ref mm_readLow, .ref mm_readHigh, .int 0, .int 0, .int 0, .ref mm_imageOff, .ref mm_imageLast, .ref mm_imagePassed, .ref mm_imageKept, .ref mm_imageMany, .ref mm_imageHistory]))]) [0] rfl
    have hDc := hD.sub (ws' := [(mm, .inr (11, [.int 0, .ref mm_tape, .int 0, .ref mm_number, .ref mm_clockName, .ref mm_clockOff, .ref mm_clockGain, .ref mm_clockRough, .ref mm_personName, .ref mm_personOff, .ref mm_personGain, .ref mm_personRough, .ref mm_custom, .ref mm_customA, .ref mm_customB, .ref mm_ruleFrom, .ref mm_ruleTo, .ref mm_roundOf, .ref mm_roundAt, .ref mm_roundHour, .ref mm_gunAt, .ref mm_gunHour, .ref mm_knotSort, .ref mm_knotValue, .int 0, .int 0, .int 0, .int 0, .int 0, .int 0, .int 0, .int 0, .int 0, .int (-1), .int 0, .int 0, .int 0, .int 0, .int 0, .int 0, .int 0, .int 0, .int 0, .int 0, .int 0, .int 0, .ref mm_start, .ref mm_off, .ref mm_last, .ref mm_passed, .ref mm_kept, .ref mm_keptMany, .int 0, .int 0, .ref mm_history, .ref mm_names, .ref mm_worked, .int 0, .int 0, .int (-1), .ref mm_readThing, .ref mm_readHour, .ref mm_readLow, .ref mm_readHigh, .int 0, .int 0, .int 0, .ref mm_imageOff, .ref mm_imageLast, .ref mm_imagePassed, .ref mm_imageKept, .ref mm_imageMany, .ref mm_imageHistory]))]) [0] (by decide) rfl
    have hKc := hK.sub (tys' := []) [] rfl
    have hFc := va_free (wc := [(mm, .inr (11, [.int 0, .ref mm_tape, .int 0, .ref mm_number, .ref mm_clockName, .ref mm_clockOff, .ref mm_clockGain, .ref mm_clockRough, .ref mm_personName, .ref mm_personOff, .ref mm_personGain, .ref mm_personRough, .ref mm_custom, .ref mm_customA, .ref mm_customB, .ref mm_ruleFrom, .ref mm_ruleTo, .ref mm_roundOf, .ref mm_roundAt, .ref mm_roundHour, .ref mm_gunAt, .ref mm_gunHour, .ref mm_knotSort, .ref mm_knotValue, .int 0, .int 0, .int 0, .int 0, .int 0, .int 0, .int 0, .int 0, .int 0, .int (-1), .int 0, .int 0, .int 0, .int 0, .int 0, .int 0, .int 0, .int 0, .int 0, .int 0, .int 0, .int 0, .ref mm_start, .ref mm_off, .ref mm_last, .ref mm_passed, .ref mm_kept, .ref mm_keptMany, .int 0, .int 0, .ref mm_history, .ref mm_names, .ref mm_worked, .int 0, .int 0, .int (-1), .ref mm_readThing, .ref mm_readHour, .ref mm_readLow, .ref mm_readHigh, .int 0, .int 0, .int 0, .ref mm_imageOff, .ref mm_imageLast, .ref mm_imagePassed, .ref mm_imageKept, .ref mm_imageMany, .ref mm_imageHistory]))]) hD hS hA [0] rfl
    have := (by decide : (0 : Int32).toInt = 0)
    have := (by decide : (0 : Int32).toInt = 0)
    have := (by decide : (0 : Int32).toInt = 0)
    have := (by decide : (0 : Int32).toInt = 0)
    have := (by decide : (0 : Int32).toInt = 0)
    have := (by decide : (0 : Int32).toInt = 0)
    have := (by decide : (0 : Int32).toInt = 0)
    have := (by decide : (0 : Int32).toInt = 0)
    have := (by decide : (0 : Int32).toInt = 0)
    have := (by decide : (0 : Int32).toInt = 0)
    have := (by decide : (0 : Int32).toInt = 0)
    have := (by decide : ((-1) : Int32).toInt = -1)
    have := (by decide : (0 : Int32).toInt = 0)
    have := (by decide : (0 : Int32).toInt = 0)
    have := (by decide : (0 : Int32).toInt = 0)
    have := (by decide : (0 : Int32).toInt = 0)
    have := (by decide : (0 : Int32).toInt = 0)
    have := (by decide : (0 : Int32).toInt = 0)
    have := (by decide : (0 : Int32).toInt = 0)
    have := (by decide : (0 : Int32).toInt = 0)
    have := (by decide : (0 : Int32).toInt = 0)
    have := (by decide : (0 : Int32).toInt = 0)
    have := (by decide : (0 : Int32).toInt = 0)
    have := (by decide : (0 : Int32).toInt = 0)
    have := (by decide : (0 : Int32).toInt = 0)
    have := (by decide : (0 : Int32).toInt = 0)
    have := (by decide : (0 : Int32).toInt = 0)
    have := (by decide : ((-1) : Int32).toInt = -1)
    have := (by decide : (0 : Int32).toInt = 0)
    have := (by decide : (0 : Int32).toInt = 0)
    have := (by decide : (0 : Int32).toInt = 0)
    refine va_calli (va_runV (As := [.int (xs 1)]) (rest := [.int 1]) ⟨hx, hb, hml, hown, hT⟩ (c_X11_known l dC dI H.size mm (xs 1) (0 : Int32) mm_tape (0 : Int32) mm_number mm_clockName mm_clockOff mm_clockGain mm_clockRough mm_personName mm_personOff mm_personGain mm_personRough mm_custom mm_customA mm_customB mm_ruleFrom mm_ruleTo mm_roundOf mm_roundAt mm_roundHour mm_gunAt mm_gunHour mm_knotSort mm_knotValue (0 : Int32) (0 : Int32) (0 : Int32) (0 : Int32) (0 : Int32) (0 : Int32) (0 : Int32) (0 : Int32) (0 : Int32) ((-1) : Int32) (0 : Int32) (0 : Int32) (0 : Int32) (0 : Int32) (0 : Int32) (0 : Int32) (0 : Int32) (0 : Int32) (0 : Int32) (0 : Int32) (0 : Int32) (0 : Int32) mm_start mm_off mm_last mm_passed mm_kept mm_keptMany (0 : Int32) (0 : Int32) mm_history mm_names mm_worked (0 : Int32) ((-1) : Int32) mm_readThing mm_readHour mm_readLow mm_readHigh (0 : Int32) (0 : Int32) (0 : Int32) mm_imageOff mm_imageLast mm_imagePassed mm_imageKept mm_imageMany mm_imageHistory ) (cwV 1 hT (gwV mw_8_102 mw_8_103 mw_8_104 mw_1_16 mw_8_105) rfl rfl rfl (by decide +kernel) ⟨Nat.le_of_ble_eq_true rfl, Nat.le_of_ble_eq_true rfl⟩) ⟨fun a U g mk q => by obtain ⟨q0, q1, qP, qK, qD⟩ := q; exact ⟨q0, q1, qP, va_K.moved (u := U) (U := U.calling g mk a) (Vm.Alike.refl U.vm) qK, qD⟩, va_recv hK hP (ci := 11) (q0 := 0) rfl rfl, fun U hU hW => ⟨rfl, by rw [hU], by rw [hU]; exact hPc, va_K.moved hW.alike hKc, hDc.weaken (fun _ _ _ _ => trivial)⟩⟩ rfl rfl hl.1 rfl (lv_room (Nat.le_of_ble_eq_true rfl)) dL_law_1037 ⟨Nat.le_of_ble_eq_true rfl, Nat.le_of_ble_eq_true rfl⟩) hS (fun q _ h => hFc q h) hFc (fun r_8 u t H1 locs ht hvm hw hB hz1 hk1 hS => ?_)
    obtain ⟨hP1, hD1⟩ := hB
    rw [ht] at hP1
    obtain ⟨hP, hD⟩ := va_join (wr := [(xx, .inr (10, [.ref rr, .ref ta, .ref tb, .ref pa, .ref pb, .ref cn, .ref ci, .int 0, .ref cp, .ref ct, .ref hs, .ref rd, .ref wy, .ref ea, .ref eb]))]) (w1 := []) hP hD [0] [1] rfl rfl (by decide) (by decide) hk1 hFc hP1 hD1
    generalize H1 = H at hP hS ⊢
    have hP : va_P (dC, dI) vwCl [(xx, .inr (10, [.ref rr, .ref ta, .ref tb, .ref pa, .ref pb, .ref cn, .ref ci, .int 0, .ref cp, .ref ct, .ref hs, .ref rd, .ref wy, .ref ea, .ref eb]))] H := hP
    have hD : va_D A [(xx, .inr (10, [.ref rr, .ref ta, .ref tb, .ref pa, .ref pb, .ref cn, .ref ci, .int 0, .ref cp, .ref ct, .ref hs, .ref rd, .ref wy, .ref ea, .ref eb]))] := hD
    clear hPc hDc hKc hFc hP1 hD1 hk1 hz1 ht hvm
    have hw : (r_8 = 1 ∧ (-1 ≤ (xs 1).toInt ∧ (xs 1).toInt ≤ 0)) ∨ (r_8 = 0 ∧ ((xs 1).toInt < -1 ∨ 0 < (xs 1).toInt)) := hw
    rcases hw with ⟨hrr_8, hfr_8⟩ | ⟨hrr_8, hfr_8⟩
    · subst r_8
      refine lv_icmp_eq (tgt := 1482) hx hb dL_law_1040 (by decide) (fun c_9 => ?_) (fun c_9 => absurd c_9 (by decide))
      refine lv_iinc (v := 7) (lv' := [(4, .int 7), (3, .ref oo), (2, .ref mm), (1, .ref xx), (0, .ref b)]) hx hb dL_law_1482 hl (k := 0) rfl (by decide) (by decide) rfl (fun ls hl => ?_)
      refine lv_goto (tgt := 23) hx hb dL_law_1485 (by decide) ?_
      refine lv_iload hx hb dL_law_23 (lv_at hl 0 rfl) ?_
      refine lv_aload_n hx hb dL_law_25 rfl (lv_at hl 4 rfl) ?_
      refine va_slen hx hb hX hbl hbA hS dL_law_26 ?_
      refine lv_topi (fun z_10 ez_10 => ?_)
      obtain rfl : z_10 = 7 := ez_10.trans (by decide)
      refine lv_bipush (v := 7) hx hb dL_law_27 (by decide) ?_
      refine lv_isub hx hb dL_law_29 ?_
      refine lv_topi (fun z_11 ez_11 => ?_)
      obtain rfl : z_11 = 0 := ez_11.trans (by decide)
      refine lv_icmp_gt (tgt := 1488) hx hb dL_law_30 (by decide) (fun c_12 => ?_) (fun c_12 => absurd c_12 (by decide))
      refine lv_iconst (v := 1) hx hb dL_law_1488 (by decide) ?_
      refine va_forget (fun q hq => hAo _ (hS.2.2 q hq)) ?_
      refine W.widen (k := 600002) (n := 7302232) (Nat.le_of_ble_eq_true rfl) (Nat.le_of_ble_eq_true rfl) ?_
      exact lw_ret hx hb hr hlocks dL_law_1489
    · subst r_8
      exact False.elim (by omega)
  · subst r_4
    refine lv_aload_n hx hb dL_law_1030 rfl (lv_at hl 2 rfl) ?_
    refine lv_aload_n hx hb dL_law_1031 rfl (lv_at hl 4 rfl) ?_
    refine lv_iload hx hb dL_law_1032 (lv_at hl 0 rfl) ?_
    refine lv_iconst (v := 1) hx hb dL_law_1034 (by decide) ?_
    refine lv_iadd hx hb dL_law_1035 ?_
    refine lv_topi (fun z_13 ez_13 => ?_)
    obtain rfl : z_13 = 1 := ez_13.trans (by decide)
    refine va_sld hx hb hX hbl hbA hS (pk_in 1 7 (by decide) (by decide) (by decide)) dL_law_1036 ?_
    refine lv_topi (fun z_14 ez_14 => ?_)
    replace ez_14 : z_14 = xs 1 := ez_14
    subst z_14
    have hPc := hP.sub (ws' := [(mm, .inr (11, [.int 0, .ref mm_tape, .int 0, .ref mm_number, .ref mm_clockName, .ref mm_clockOff, .ref mm_clockGain, .ref mm_clockRough, .ref mm_personName, .ref mm_personOff, .ref mm_personGain, .ref mm_personRough, .ref mm_custom, .ref mm_customA, .ref mm_customB, .ref mm_ruleFrom, .ref mm_ruleTo, .ref mm_roundOf, .ref mm_roundAt, .ref mm_roundHour, .ref mm_gunAt, .ref mm_gunHour, .ref mm_knotSort, .ref mm_knotValue, .int 0, .int 0, .int 0, .int 0, .int 0, .int 0, .int 0, .int 0, .int 0, .int (-1), .int 0, .int 0, .int 0, .int 0, .int 0, .int 0, .int 0, .int 0, .int 0, .int 0, .int 0, .int 0, .ref mm_start, .ref mm_off, .ref mm_last, .ref mm_passed, .ref mm_kept, .ref mm_keptMany, .int 0, .int 0, .ref mm_history, .ref mm_names, .ref mm_worked, .int 0, .int 0, .int (-1), .ref mm_readThing, .ref mm_readHour, .ref mm_readLow, .ref mm_readHigh, .int 0, .int 0, .int 0, .ref mm_imageOff, .ref mm_imageLast, .ref mm_imagePassed, .ref mm_imageKept, .ref mm_imageMany, .ref mm_imageHistory]))]) [0] rfl
    have hDc := hD.sub (ws' := [(mm, .inr (11, [.int 0, .ref mm_tape, .int 0, .ref mm_number, .ref mm_clockName, .ref mm_clockOff, .ref mm_clockGain, .ref mm_clockRough, .ref mm_personName, .ref mm_personOff, .ref mm_personGain, .ref mm_personRough, .ref mm_custom, .ref mm_customA, .ref mm_customB, .ref mm_ruleFrom, .ref mm_ruleTo, .ref mm_roundOf, .ref mm_roundAt, .ref mm_roundHour, .ref mm_gunAt, .ref mm_gunHour, .ref mm_knotSort, .ref mm_knotValue, .int 0, .int 0, .int 0, .int 0, .int 0, .int 0, .int 0, .int 0, .int 0, .int (-1), .int 0, .int 0, .int 0, .int 0, .int 0, .int 0, .int 0, .int 0, .int 0, .int 0, .int 0, .int 0, .ref mm_start, .ref mm_off, .ref mm_last, .ref mm_passed, .ref mm_kept, .ref mm_keptMany, .int 0, .int 0, .ref mm_history, .ref mm_names, .ref mm_worked, .int 0, .int 0, .int (-1), .ref mm_readThing, .ref mm_readHour, .ref mm_readLow, .ref mm_readHigh, .int 0, .int 0, .int 0, .ref mm_imageOff, .ref mm_imageLast, .ref mm_imagePassed, .ref mm_imageKept, .ref mm_imageMany, .ref mm_imageHistory]))]) [0] (by decide) rfl
    have hKc := hK.sub (tys' := []) [] rfl
    have hFc := va_free (wc := [(mm, .inr (11, [.int 0, .ref mm_tape, .int 0, .ref mm_number, .ref mm_clockName, .ref mm_clockOff, .ref mm_clockGain, .ref mm_clockRough, .ref mm_personName, .ref mm_personOff, .ref mm_personGain, .ref mm_personRough, .ref mm_custom, .ref mm_customA, .ref mm_customB, .ref mm_ruleFrom, .ref mm_ruleTo, .ref mm_roundOf, .ref mm_roundAt, .ref mm_roundHour, .ref mm_gunAt, .ref mm_gunHour, .ref mm_knotSort, .ref mm_knotValue, .int 0, .int 0, .int 0, .int 0, .int 0, .int 0, .int 0, .int 0, .int 0, .int (-1), .int 0, .int 0, .int 0, .int 0, .int 0, .int 0, .int 0, .int 0, .int 0, .int 0, .int 0, .int 0, .ref mm_start, .ref mm_off, .ref mm_last, .ref mm_passed, .ref mm_kept, .ref mm_keptMany, .int 0, .int 0, .ref mm_history, .ref mm_names, .ref mm_worked, .int 0, .int 0, .int (-1), .ref mm_readThing, .ref mm_readHour, .ref mm_readLow, .ref mm_readHigh, .int 0, .int 0, .int 0, .ref mm_imageOff, .ref mm_imageLast, .ref mm_imagePassed, .ref mm_imageKept, .ref mm_imageMany, .ref mm_imageHistory]))]) hD hS hA [0] rfl
    have := (by decide : (0 : Int32).toInt = 0)
    have := (by decide : (0 : Int32).toInt = 0)
    have := (by decide : (0 : Int32).toInt = 0)
    have := (by decide : (0 : Int32).toInt = 0)
    have := (by decide : (0 : Int32).toInt = 0)
    have := (by decide : (0 : Int32).toInt = 0)
    have := (by decide : (0 : Int32).toInt = 0)
    have := (by decide : (0 : Int32).toInt = 0)
    have := (by decide : (0 : Int32).toInt = 0)
    have := (by decide : (0 : Int32).toInt = 0)
    have := (by decide : (0 : Int32).toInt = 0)
    have := (by decide : ((-1) : Int32).toInt = -1)
    have := (by decide : (0 : Int32).toInt = 0)
    have := (by decide : (0 : Int32).toInt = 0)
    have := (by decide : (0 : Int32).toInt = 0)
    have := (by decide : (0 : Int32).toInt = 0)
    have := (by decide : (0 : Int32).toInt = 0)
    have := (by decide : (0 : Int32).toInt = 0)
    have := (by decide : (0 : Int32).toInt = 0)
    have := (by decide : (0 : Int32).toInt = 0)
    have := (by decide : (0 : Int32).toInt = 0)
    have := (by decide : (0 : Int32).toInt = 0)
    have := (by decide : (0 : Int32).toInt = 0)
    have := (by decide : (0 : Int32).toInt = 0)
    have := (by decide : (0 : Int32).toInt = 0)
    have := (by decide : (0 : Int32).toInt = 0)
    have := (by decide : (0 : Int32).toInt = 0)
    have := (by decide : ((-1) : Int32).toInt = -1)
    have := (by decide : (0 : Int32).toInt = 0)
    have := (by decide : (0 : Int32).toInt = 0)
    have := (by decide : (0 : Int32).toInt = 0)
    refine va_calli (va_runV (As := [.int (xs 1)]) (rest := [.int 0]) ⟨hx, hb, hml, hown, hT⟩ (c_X11_known l dC dI H.size mm (xs 1) (0 : Int32) mm_tape (0 : Int32) mm_number mm_clockName mm_clockOff mm_clockGain mm_clockRough mm_personName mm_personOff mm_personGain mm_personRough mm_custom mm_customA mm_customB mm_ruleFrom mm_ruleTo mm_roundOf mm_roundAt mm_roundHour mm_gunAt mm_gunHour mm_knotSort mm_knotValue (0 : Int32) (0 : Int32) (0 : Int32) (0 : Int32) (0 : Int32) (0 : Int32) (0 : Int32) (0 : Int32) (0 : Int32) ((-1) : Int32) (0 : Int32) (0 : Int32) (0 : Int32) (0 : Int32) (0 : Int32) (0 : Int32) (0 : Int32) (0 : Int32) (0 : Int32) (0 : Int32) (0 : Int32) (0 : Int32) mm_start mm_off mm_last mm_passed mm_kept mm_keptMany (0 : Int32) (0 : Int32) mm_history mm_names mm_worked (0 : Int32) ((-1) : Int32) mm_readThing mm_readHour mm_readLow mm_readHigh (0 : Int32) (0 : Int32) (0 : Int32) mm_imageOff mm_imageLast mm_imagePassed mm_imageKept mm_imageMany mm_imageHistory ) (cwV 1 hT (gwV mw_8_102 mw_8_103 mw_8_104 mw_1_16 mw_8_105) rfl rfl rfl (by decide +kernel) ⟨Nat.le_of_ble_eq_true rfl, Nat.le_of_ble_eq_true rfl⟩) ⟨fun a U g mk q => by obtain ⟨q0, q1, qP, qK, qD⟩ := q; exact ⟨q0, q1, qP, va_K.moved (u := U) (U := U.calling g mk a) (Vm.Alike.refl U.vm) qK, qD⟩, va_recv hK hP (ci := 11) (q0 := 0) rfl rfl, fun U hU hW => ⟨rfl, by rw [hU], by rw [hU]; exact hPc, va_K.moved hW.alike hKc, hDc.weaken (fun _ _ _ _ => trivial)⟩⟩ rfl rfl hl.1 rfl (lv_room (Nat.le_of_ble_eq_true rfl)) dL_law_1037 ⟨Nat.le_of_ble_eq_true rfl, Nat.le_of_ble_eq_true rfl⟩) hS (fun q _ h => hFc q h) hFc (fun r_16 u t H1 locs ht hvm hw hB hz1 hk1 hS => ?_)
    obtain ⟨hP1, hD1⟩ := hB
    rw [ht] at hP1
    obtain ⟨hP, hD⟩ := va_join (wr := [(xx, .inr (10, [.ref rr, .ref ta, .ref tb, .ref pa, .ref pb, .ref cn, .ref ci, .int 0, .ref cp, .ref ct, .ref hs, .ref rd, .ref wy, .ref ea, .ref eb]))]) (w1 := []) hP hD [0] [1] rfl rfl (by decide) (by decide) hk1 hFc hP1 hD1
    generalize H1 = H at hP hS ⊢
    have hP : va_P (dC, dI) vwCl [(xx, .inr (10, [.ref rr, .ref ta, .ref tb, .ref pa, .ref pb, .ref cn, .ref ci, .int 0, .ref cp, .ref ct, .ref hs, .ref rd, .ref wy, .ref ea, .ref eb]))] H := hP
    have hD : va_D A [(xx, .inr (10, [.ref rr, .ref ta, .ref tb, .ref pa, .ref pb, .ref cn, .ref ci, .int 0, .ref cp, .ref ct, .ref hs, .ref rd, .ref wy, .ref ea, .ref eb]))] := hD
    clear hPc hDc hKc hFc hP1 hD1 hk1 hz1 ht hvm
    have hw : (r_16 = 1 ∧ (-1 ≤ (xs 1).toInt ∧ (xs 1).toInt ≤ 0)) ∨ (r_16 = 0 ∧ ((xs 1).toInt < -1 ∨ 0 < (xs 1).toInt)) := hw
    rcases hw with ⟨hrr_16, hfr_16⟩ | ⟨hrr_16, hfr_16⟩
    · subst r_16
      exact False.elim (by omega)
    · subst r_16
      refine lv_icmp_eq (tgt := 1482) hx hb dL_law_1040 (by decide) (fun c_17 => ?_) (fun c_17 => absurd c_17 (by decide))
      refine lv_iinc (v := 7) (lv' := [(4, .int 7), (3, .ref oo), (2, .ref mm), (1, .ref xx), (0, .ref b)]) hx hb dL_law_1482 hl (k := 0) rfl (by decide) (by decide) rfl (fun ls hl => ?_)
      refine lv_goto (tgt := 23) hx hb dL_law_1485 (by decide) ?_
      refine lv_iload hx hb dL_law_23 (lv_at hl 0 rfl) ?_
      refine lv_aload_n hx hb dL_law_25 rfl (lv_at hl 4 rfl) ?_
      refine va_slen hx hb hX hbl hbA hS dL_law_26 ?_
      refine lv_topi (fun z_18 ez_18 => ?_)
      obtain rfl : z_18 = 7 := ez_18.trans (by decide)
      refine lv_bipush (v := 7) hx hb dL_law_27 (by decide) ?_
      refine lv_isub hx hb dL_law_29 ?_
      refine lv_topi (fun z_19 ez_19 => ?_)
      obtain rfl : z_19 = 0 := ez_19.trans (by decide)
      refine lv_icmp_gt (tgt := 1488) hx hb dL_law_30 (by decide) (fun c_20 => ?_) (fun c_20 => absurd c_20 (by decide))
      refine lv_iconst (v := 1) hx hb dL_law_1488 (by decide) ?_
      refine va_forget (fun q hq => hAo _ (hS.2.2 q hq)) ?_
      refine W.widen (k := 600002) (n := 7302232) (Nat.le_of_ble_eq_true rfl) (Nat.le_of_ble_eq_true rfl) ?_
      exact lw_ret hx hb hr hlocks dL_law_1489
set_option maxHeartbeats 4000000 in
set_option maxRecDepth 100000 in
theorem law_op_19 {p : Program} {l : Launch} {e : Env} {s : State} {m : MethodId} {below : List Frame} {meth : Method} {c : Code} {dC : Nat → ClassId} {dI : Nat → Nat → Nat} {b : Nat} {xs : Nat → Int32} {A : Nat → Prop} (C0 : lw_At p s m meth c b 7 xs) (hA : ∀ q, s.heap.size ≤ q → A q) (hbA : ¬ A b) (hAo : ∀ q, A q → s.heap.size ≤ q) {xx : Nat} {rr : Nat} {ta : Nat} {tb : Nat} {pa : Nat} {pb : Nat} {cn : Nat} {ci : Nat} {cp : Nat} {ct : Nat} {hs : Nat} {rd : Nat} {wy : Nat} {ea : Nat} {eb : Nat} {pa_first : Nat} {pa_gain : Nat} {pa_custom : Nat} {pa_ruled : Nat} {pa_deedHour : Nat} {pa_deedPerson : Nat} {pa_deedClock : Nat} {k_pa_first : ClassId} {cp_last : Nat} {cp_passed : Nat} {cp_keptCount : Nat} {cp_off : Nat} {cp_since : Nat} {cp_kept : Nat} {cp_sorted : Nat} {k_cp_off : ClassId} {k_cp_since : ClassId} {k_cp_last : ClassId} {k_cp_passed : ClassId} {k_cp_keptCount : ClassId} {rd_slot : Nat} {rd_hour : Nat} {rd_low : Nat} {rd_high : Nat} {rd_byHour : Nat} {mm : Nat} {mm_tape : Nat} {mm_number : Nat} {mm_clockName : Nat} {mm_clockOff : Nat} {mm_clockGain : Nat} {mm_clockRough : Nat} {mm_personName : Nat} {mm_personOff : Nat} {mm_personGain : Nat} {mm_personRough : Nat} {mm_custom : Nat} {mm_customA : Nat} {mm_customB : Nat} {mm_ruleFrom : Nat} {mm_ruleTo : Nat} {mm_roundOf : Nat} {mm_roundAt : Nat} {mm_roundHour : Nat} {mm_gunAt : Nat} {mm_gunHour : Nat} {mm_knotSort : Nat} {mm_knotValue : Nat} {mm_start : Nat} {mm_off : Nat} {mm_last : Nat} {mm_passed : Nat} {mm_kept : Nat} {mm_keptMany : Nat} {mm_history : Nat} {mm_names : Nat} {mm_worked : Nat} {mm_readThing : Nat} {mm_readHour : Nat} {mm_readLow : Nat} {mm_readHigh : Nat} {mm_imageOff : Nat} {mm_imageLast : Nat} {mm_imagePassed : Nat} {mm_imageKept : Nat} {mm_imageMany : Nat} {mm_imageHistory : Nat} {k_mm_number : ClassId} {k_mm_off : ClassId} {k_mm_last : ClassId} {k_mm_passed : ClassId} {k_mm_keptMany : ClassId} {oo : Nat} {H : Heap} {locs : List Loc} {ls : Array Slot} (hK : va_K (dC, dI) vwCl [(k_pa_first, .int), (k_cp_off, .int), (k_cp_since, .int), (k_cp_last, .int), (k_cp_passed, .int), (k_cp_keptCount, .int), (k_mm_number, .int), (k_mm_off, .int), (k_mm_last, .int), (k_mm_passed, .int), (k_mm_keptMany, .int)] s) (hP : va_P (dC, dI) vwCl [(xx, .inr (10, [.ref rr, .ref ta, .ref tb, .ref pa, .ref pb, .ref cn, .ref ci, .int 0, .ref cp, .ref ct, .ref hs, .ref rd, .ref wy, .ref ea, .ref eb])), (pa, .inr (3, [.ref ta, .ref pa_first, .ref pa_gain, .ref pa_custom, .ref pa_ruled, .int 0, .ref pa_deedHour, .ref pa_deedPerson, .ref pa_deedClock])), (pa_first, .inl (k_pa_first, 10, .inl (fun _ => 0))), (cp, .inr (0, [.ref pa, .int 0, .int 0, .ref cp_last, .ref cp_passed, .ref cp_keptCount, .int 0, .int 0, .int 0, .int 0, .ref cp_off, .ref cp_since, .ref cp_kept, .ref cp_sorted])), (cp_off, .inl (k_cp_off, 10, .inl (fun _ => 0))), (cp_since, .inl (k_cp_since, 10, .inl (fun _ => 0))), (cp_last, .inl (k_cp_last, 5, .inl (fun _ => 0))), (cp_passed, .inl (k_cp_passed, 5, .inl (fun _ => 0))), (cp_keptCount, .inl (k_cp_keptCount, 5, .inl (fun _ => 0))), (rd, .inr (5, [.int 0, .int (-1), .ref rd_slot, .ref rd_hour, .ref rd_low, .ref rd_high, .ref rd_byHour])), (mm, .inr (11, [.int 0, .ref mm_tape, .int 0, .ref mm_number, .ref mm_clockName, .ref mm_clockOff, .ref mm_clockGain, .ref mm_clockRough, .ref mm_personName, .ref mm_personOff, .ref mm_personGain, .ref mm_personRough, .ref mm_custom, .ref mm_customA, .ref mm_customB, .ref mm_ruleFrom, .ref mm_ruleTo, .ref mm_roundOf, .ref mm_roundAt, .ref mm_roundHour, .ref mm_gunAt, .ref mm_gunHour, .ref mm_knotSort, .ref mm_knotValue, .int 0, .int 0, .int 0, .int 0, .int 0, .int 0, .int 0, .int 0, .int 0, .int (-1), .int 0, .int 0, .int 0, .int 0, .int 0, .int 0, .int 0, .int 0, .int 0, .int 0, .int 0, .int 0, .ref mm_start, .ref mm_off, .ref mm_last, .ref mm_passed, .ref mm_kept, .ref mm_keptMany, .int 0, .int 0, .ref mm_history, .ref mm_names, .ref mm_worked, .int 0, .int 0, .int (-1), .ref mm_readThing, .ref mm_readHour, .ref mm_readLow, .ref mm_readHigh, .int 0, .int 0, .int 0, .ref mm_imageOff, .ref mm_imageLast, .ref mm_imagePassed, .ref mm_imageKept, .ref mm_imageMany, .ref mm_imageHistory])), (mm_number, .inl (k_mm_number, 10, .inl (fun _ => 0))), (mm_off, .inl (k_mm_off, 20, .inl (fun _ => 0))), (mm_last, .inl (k_mm_last, 10, .inl (fun _ => 0))), (mm_passed, .inl (k_mm_passed, 10, .inl (fun _ => 0))), (mm_keptMany, .inl (k_mm_keptMany, 10, .inl (fun _ => 0)))] H) (hD : va_D A [(xx, .inr (10, [.ref rr, .ref ta, .ref tb, .ref pa, .ref pb, .ref cn, .ref ci, .int 0, .ref cp, .ref ct, .ref hs, .ref rd, .ref wy, .ref ea, .ref eb])), (pa, .inr (3, [.ref ta, .ref pa_first, .ref pa_gain, .ref pa_custom, .ref pa_ruled, .int 0, .ref pa_deedHour, .ref pa_deedPerson, .ref pa_deedClock])), (pa_first, .inl (k_pa_first, 10, .inl (fun _ => 0))), (cp, .inr (0, [.ref pa, .int 0, .int 0, .ref cp_last, .ref cp_passed, .ref cp_keptCount, .int 0, .int 0, .int 0, .int 0, .ref cp_off, .ref cp_since, .ref cp_kept, .ref cp_sorted])), (cp_off, .inl (k_cp_off, 10, .inl (fun _ => 0))), (cp_since, .inl (k_cp_since, 10, .inl (fun _ => 0))), (cp_last, .inl (k_cp_last, 5, .inl (fun _ => 0))), (cp_passed, .inl (k_cp_passed, 5, .inl (fun _ => 0))), (cp_keptCount, .inl (k_cp_keptCount, 5, .inl (fun _ => 0))), (rd, .inr (5, [.int 0, .int (-1), .ref rd_slot, .ref rd_hour, .ref rd_low, .ref rd_high, .ref rd_byHour])), (mm, .inr (11, [.int 0, .ref mm_tape, .int 0, .ref mm_number, .ref mm_clockName, .ref mm_clockOff, .ref mm_clockGain, .ref mm_clockRough, .ref mm_personName, .ref mm_personOff, .ref mm_personGain, .ref mm_personRough, .ref mm_custom, .ref mm_customA, .ref mm_customB, .ref mm_ruleFrom, .ref mm_ruleTo, .ref mm_roundOf, .ref mm_roundAt, .ref mm_roundHour, .ref mm_gunAt, .ref mm_gunHour, .ref mm_knotSort, .ref mm_knotValue, .int 0, .int 0, .int 0, .int 0, .int 0, .int 0, .int 0, .int 0, .int 0, .int (-1), .int 0, .int 0, .int 0, .int 0, .int 0, .int 0, .int 0, .int 0, .int 0, .int 0, .int 0, .int 0, .ref mm_start, .ref mm_off, .ref mm_last, .ref mm_passed, .ref mm_kept, .ref mm_keptMany, .int 0, .int 0, .ref mm_history, .ref mm_names, .ref mm_worked, .int 0, .int 0, .int (-1), .ref mm_readThing, .ref mm_readHour, .ref mm_readLow, .ref mm_readHigh, .int 0, .int 0, .int 0, .ref mm_imageOff, .ref mm_imageLast, .ref mm_imagePassed, .ref mm_imageKept, .ref mm_imageMany, .ref mm_imageHistory])), (mm_number, .inl (k_mm_number, 10, .inl (fun _ => 0))), (mm_off, .inl (k_mm_off, 20, .inl (fun _ => 0))), (mm_last, .inl (k_mm_last, 10, .inl (fun _ => 0))), (mm_passed, .inl (k_mm_passed, 10, .inl (fun _ => 0))), (mm_keptMany, .inl (k_mm_keptMany, 10, .inl (fun _ => 0)))]) (hS : va_S A s.heap H locs) (hl : lv_has ls 7 [(4, .int 0), (3, .ref oo), (2, .ref mm), (1, .ref xx), (0, .ref b)]) : W p l e room_1 s m #[Value.ref b] below meth c H locs 160 67979 (lw_Z below #[Value.ref b] s) (F0 m 1045 ls []) := by
  obtain ⟨hx, hb, hr, hml, hown, hts, hX, hbl, hlocks, hgv⟩ := C0
  have hT : ∀ w ∈ pw_T, w.before #[Value.ref b] s = true := fun w h => hts w (List.mem_filter.mp h).1
  have hown : s.vm.findClass RL = some m.cls := hown
  refine lv_aload_n hx hb dL_law_1045 rfl (lv_at hl 3 rfl) ?_
  have hPc := hP.sub (ws' := [(xx, .inr (10, [.ref rr, .ref ta, .ref tb, .ref pa, .ref pb, .ref cn, .ref ci, .int 0, .ref cp, .ref ct, .ref hs, .ref rd, .ref wy, .ref ea, .ref eb])), (cp, .inr (0, [.ref pa, .int 0, .int 0, .ref cp_last, .ref cp_passed, .ref cp_keptCount, .int 0, .int 0, .int 0, .int 0, .ref cp_off, .ref cp_since, .ref cp_kept, .ref cp_sorted])), (cp_off, .inl (k_cp_off, 10, .inl (fun _ => 0))), (cp_since, .inl (k_cp_since, 10, .inl (fun _ => 0))), (cp_last, .inl (k_cp_last, 5, .inl (fun _ => 0))), (cp_passed, .inl (k_cp_passed, 5, .inl (fun _ => 0))), (cp_keptCount, .inl (k_cp_keptCount, 5, .inl (fun _ => 0))), (pa, .inr (3, [.ref ta, .ref pa_first, .ref pa_gain, .ref pa_custom, .ref pa_ruled, .int 0, .ref pa_deedHour, .ref pa_deedPerson, .ref pa_deedClock])), (pa_first, .inl (k_pa_first, 10, .inl (fun _ => 0))), (rd, .inr (5, [.int 0, .int (-1), .ref rd_slot, .ref rd_hour, .ref rd_low, .ref rd_high, .ref rd_byHour]))]) [0, 3, 4, 5, 6, 7, 8, 1, 2, 9] rfl
  have hDc := hD.sub (ws' := [(xx, .inr (10, [.ref rr, .ref ta, .ref tb, .ref pa, .ref pb, .ref cn, .ref ci, .int 0, .ref cp, .ref ct, .ref hs, .ref rd, .ref wy, .ref ea, .ref eb])), (cp, .inr (0, [.ref pa, .int 0, .int 0, .ref cp_last, .ref cp_passed, .ref cp_keptCount, .int 0, .int 0, .int 0, .int 0, .ref cp_off, .ref cp_since, .ref cp_kept, .ref cp_sorted])), (cp_off, .inl (k_cp_off, 10, .inl (fun _ => 0))), (cp_since, .inl (k_cp_since, 10, .inl (fun _ => 0))), (cp_last, .inl (k_cp_last, 5, .inl (fun _ => 0))), (cp_passed, .inl (k_cp_passed, 5, .inl (fun _ => 0))), (cp_keptCount, .inl (k_cp_keptCount, 5, .inl (fun _ => 0))), (pa, .inr (3, [.ref ta, .ref pa_first, .ref pa_gain, .ref pa_custom, .ref pa_ruled, .int 0, .ref pa_deedHour, .ref pa_deedPerson, .ref pa_deedClock])), (pa_first, .inl (k_pa_first, 10, .inl (fun _ => 0))), (rd, .inr (5, [.int 0, .int (-1), .ref rd_slot, .ref rd_hour, .ref rd_low, .ref rd_high, .ref rd_byHour]))]) [0, 3, 4, 5, 6, 7, 8, 1, 2, 9] (by decide) rfl
  have hKc := hK.sub (tys' := [(k_cp_off, .int), (k_cp_since, .int), (k_cp_last, .int), (k_cp_passed, .int), (k_cp_keptCount, .int), (k_pa_first, .int)]) [1, 2, 3, 4, 5, 0] rfl
  have hFc := va_free (wc := [(xx, .inr (10, [.ref rr, .ref ta, .ref tb, .ref pa, .ref pb, .ref cn, .ref ci, .int 0, .ref cp, .ref ct, .ref hs, .ref rd, .ref wy, .ref ea, .ref eb])), (cp, .inr (0, [.ref pa, .int 0, .int 0, .ref cp_last, .ref cp_passed, .ref cp_keptCount, .int 0, .int 0, .int 0, .int 0, .ref cp_off, .ref cp_since, .ref cp_kept, .ref cp_sorted])), (cp_off, .inl (k_cp_off, 10, .inl (fun _ => 0))), (cp_since, .inl (k_cp_since, 10, .inl (fun _ => 0))), (cp_last, .inl (k_cp_last, 5, .inl (fun _ => 0))), (cp_passed, .inl (k_cp_passed, 5, .inl (fun _ => 0))), (cp_keptCount, .inl (k_cp_keptCount, 5, .inl (fun _ => 0))), (pa, .inr (3, [.ref ta, .ref pa_first, .ref pa_gain, .ref pa_custom, .ref pa_ruled, .int 0, .ref pa_deedHour, .ref pa_deedPerson, .ref pa_deedClock])), (pa_first, .inl (k_pa_first, 10, .inl (fun _ => 0))), (rd, .inr (5, [.int 0, .int (-1), .ref rd_slot, .ref rd_hour, .ref rd_low, .ref rd_high, .ref rd_byHour]))]) hD hS hA [0, 3, 4, 5, 6, 7, 8, 1, 2, 9] rfl
  refine va_calli (va_runV (As := []) (rest := []) ⟨hx, hb, hml, hown, hT⟩ (c_X10_judged l dC dI H.size xx rr ta tb pa pb cn ci (0 : Int32) cp ct hs rd wy ea eb pa (0 : Int32) (0 : Int32) cp_last cp_passed cp_keptCount (0 : Int32) (0 : Int32) (0 : Int32) (0 : Int32) cp_off cp_since cp_kept cp_sorted k_cp_off (fun _ => 0) k_cp_since (fun _ => 0) k_cp_last (fun _ => 0) k_cp_passed (fun _ => 0) k_cp_keptCount (fun _ => 0) ta pa_first pa_gain pa_custom pa_ruled (0 : Int32) pa_deedHour pa_deedPerson pa_deedClock k_pa_first (fun _ => 0) rd_slot rd_hour rd_low rd_high rd_byHour ) (cwV 0 hT (gwV mw_5_18 mw_5_19 mw_5_20 mw_1_1 mw_5_21) rfl rfl rfl (by decide +kernel) ⟨Nat.le_of_ble_eq_true rfl, Nat.le_of_ble_eq_true rfl⟩) ⟨fun a U g mk q => by obtain ⟨q0, q1, qP, qK, qD⟩ := q; exact ⟨q0, q1, qP, va_K.moved (u := U) (U := U.calling g mk a) (Vm.Alike.refl U.vm) qK, qD⟩, va_recv hK hP (ci := 10) (q0 := 0) rfl rfl, fun U hU hW => ⟨rfl, by rw [hU], by rw [hU]; exact hPc, va_K.moved hW.alike hKc, hDc.weaken (fun _ _ _ _ => trivial)⟩⟩ rfl rfl hl.1 rfl (lv_room (Nat.le_of_ble_eq_true rfl)) dL_law_1046 ⟨Nat.le_of_ble_eq_true rfl, Nat.le_of_ble_eq_true rfl⟩) hS (fun q _ h => hFc q h) hFc (fun r_2 u t H1 locs ht hvm hw hB hz1 hk1 hS => ?_)
  obtain ⟨x_3, x_4, x_5, x_6, x_7, hP1, hD1⟩ := hB
  rw [ht] at hP1
  obtain ⟨hP, hD⟩ := va_join (wr := [(mm, .inr (11, [.int 0, .ref mm_tape, .int 0, .ref mm_number, .ref mm_clockName, .ref mm_clockOff, .ref mm_clockGain, .ref mm_clockRough, .ref mm_personName, .ref mm_personOff, .ref mm_personGain, .ref mm_personRough, .ref mm_custom, .ref mm_customA, .ref mm_customB, .ref mm_ruleFrom, .ref mm_ruleTo, .ref mm_roundOf, .ref mm_roundAt, .ref mm_roundHour, .ref mm_gunAt, .ref mm_gunHour, .ref mm_knotSort, .ref mm_knotValue, .int 0, .int 0, .int 0, .int 0, .int 0, .int 0, .int 0, .int 0, .int 0, .int (-1), .int 0, .int 0, .int 0, .int 0, .int 0, .int 0, .int 0, .int 0, .int 0, .int 0, .int 0, .int 0, .ref mm_start, .ref mm_off, .ref mm_last, .ref mm_passed, .ref mm_kept, .ref mm_keptMany, .int 0, .int 0, .ref mm_history, .ref mm_names, .ref mm_worked, .int 0, .int 0, .int (-1), .ref mm_readThing, .ref mm_readHour, .ref mm_readLow, .ref mm_readHigh, .int 0, .int 0, .int 0, .ref mm_imageOff, .ref mm_imageLast, .ref mm_imagePassed, .ref mm_imageKept, .ref mm_imageMany, .ref mm_imageHistory])), (mm_number, .inl (k_mm_number, 10, .inl (fun _ => 0))), (mm_off, .inl (k_mm_off, 20, .inl (fun _ => 0))), (mm_last, .inl (k_mm_last, 10, .inl (fun _ => 0))), (mm_passed, .inl (k_mm_passed, 10, .inl (fun _ => 0))), (mm_keptMany, .inl (k_mm_keptMany, 10, .inl (fun _ => 0)))]) (w1 := [(xx, .inr (10, [.ref rr, .ref ta, .ref tb, .ref pa, .ref pb, .ref cn, .ref ci, .int 0, .ref cp, .ref ct, .ref hs, .ref rd, .ref wy, .ref ea, .ref eb])), (cp, .inr (0, [.ref pa, .int 0, .int 0, .ref cp_last, .ref cp_passed, .ref cp_keptCount, .int 0, .int 0, .int 0, .int 0, .ref cp_off, .ref cp_since, .ref cp_kept, .ref cp_sorted])), (cp_off, .inl (k_cp_off, 10, .inl x_3)), (cp_since, .inl (k_cp_since, 10, .inl x_4)), (cp_last, .inl (k_cp_last, 5, .inl x_5)), (cp_passed, .inl (k_cp_passed, 5, .inl x_6)), (cp_keptCount, .inl (k_cp_keptCount, 5, .inl x_7)), (pa, .inr (3, [.ref ta, .ref pa_first, .ref pa_gain, .ref pa_custom, .ref pa_ruled, .int 0, .ref pa_deedHour, .ref pa_deedPerson, .ref pa_deedClock])), (pa_first, .inl (k_pa_first, 10, .inl (fun _ => 0))), (rd, .inr (5, [.int 0, .int (-1), .ref rd_slot, .ref rd_hour, .ref rd_low, .ref rd_high, .ref rd_byHour]))]) hP hD [0, 3, 4, 5, 6, 7, 8, 1, 2, 9] [10, 11, 12, 13, 14, 15] rfl rfl (by decide) (by decide) hk1 hFc hP1 hD1
  generalize H1 = H at hP hS ⊢
  have hP : va_P (dC, dI) vwCl [(mm, .inr (11, [.int 0, .ref mm_tape, .int 0, .ref mm_number, .ref mm_clockName, .ref mm_clockOff, .ref mm_clockGain, .ref mm_clockRough, .ref mm_personName, .ref mm_personOff, .ref mm_personGain, .ref mm_personRough, .ref mm_custom, .ref mm_customA, .ref mm_customB, .ref mm_ruleFrom, .ref mm_ruleTo, .ref mm_roundOf, .ref mm_roundAt, .ref mm_roundHour, .ref mm_gunAt, .ref mm_gunHour, .ref mm_knotSort, .ref mm_knotValue, .int 0, .int 0, .int 0, .int 0, .int 0, .int 0, .int 0, .int 0, .int 0, .int (-1), .int 0, .int 0, .int 0, .int 0, .int 0, .int 0, .int 0, .int 0, .int 0, .int 0, .int 0, .int 0, .ref mm_start, .ref mm_off, .ref mm_last, .ref mm_passed, .ref mm_kept, .ref mm_keptMany, .int 0, .int 0, .ref mm_history, .ref mm_names, .ref mm_worked, .int 0, .int 0, .int (-1), .ref mm_readThing, .ref mm_readHour, .ref mm_readLow, .ref mm_readHigh, .int 0, .int 0, .int 0, .ref mm_imageOff, .ref mm_imageLast, .ref mm_imagePassed, .ref mm_imageKept, .ref mm_imageMany, .ref mm_imageHistory])), (mm_number, .inl (k_mm_number, 10, .inl (fun _ => 0))), (mm_off, .inl (k_mm_off, 20, .inl (fun _ => 0))), (mm_last, .inl (k_mm_last, 10, .inl (fun _ => 0))), (mm_passed, .inl (k_mm_passed, 10, .inl (fun _ => 0))), (mm_keptMany, .inl (k_mm_keptMany, 10, .inl (fun _ => 0))), (xx, .inr (10, [.ref rr, .ref ta, .ref tb, .ref pa, .ref pb, .ref cn, .ref ci, .int 0, .ref cp, .ref ct, .ref hs, .ref rd, .ref wy, .ref ea, .ref eb])), (cp, .inr (0, [.ref pa, .int 0, .int 0, .ref cp_last, .ref cp_passed, .ref cp_keptCount, .int 0, .int 0, .int 0, .int 0, .ref cp_off, .ref cp_since, .ref cp_kept, .ref cp_sorted])), (cp_off, .inl (k_cp_off, 10, .inl x_3)), (cp_since, .inl (k_cp_since, 10, .inl x_4)), (cp_last, .inl (k_cp_last, 5, .inl x_5)), (cp_passed, .inl (k_cp_passed, 5, .inl x_6)), (cp_keptCount, .inl (k_cp_keptCount, 5, .inl x_7)), (pa, .inr (3, [.ref ta, .ref pa_first, .ref pa_gain, .ref pa_custom, .ref pa_ruled, .int 0, .ref pa_deedHour, .ref pa_deedPerson, .ref pa_deedClock])), (pa_first, .inl (k_pa_first, 10, .inl (fun _ => 0))), (rd, .inr (5, [.int 0, .int (-1), .ref rd_slot, .ref rd_hour, .ref rd_low, .ref rd_high, .ref rd_byHour]))] H := hP
  have hD : va_D A [(mm, .inr (11, [.int 0, .ref mm_tape, .int 0, .ref mm_number, .ref mm_clockName, .ref mm_clockOff, .ref mm_clockGain, .ref mm_clockRough, .ref mm_personName, .ref mm_personOff, .ref mm_personGain, .ref mm_personRough, .ref mm_custom, .ref mm_customA, .ref mm_customB, .ref mm_ruleFrom, .ref mm_ruleTo, .ref mm_roundOf, .ref mm_roundAt, .ref mm_roundHour, .ref mm_gunAt, .ref mm_gunHour, .ref mm_knotSort, .ref mm_knotValue, .int 0, .int 0, .int 0, .int 0, .int 0, .int 0, .int 0, .int 0, .int 0, .int (-1), .int 0, .int 0, .int 0, .int 0, .int 0, .int 0, .int 0, .int 0, .int 0, .int 0, .int 0, .int 0, .ref mm_start, .ref mm_off, .ref mm_last, .ref mm_passed, .ref mm_kept, .ref mm_keptMany, .int 0, .int 0, .ref mm_history, .ref mm_names, .ref mm_worked, .int 0, .int 0, .int (-1), .ref mm_readThing, .ref mm_readHour, .ref mm_readLow, .ref mm_readHigh, .int 0, .int 0, .int 0, .ref mm_imageOff, .ref mm_imageLast, .ref mm_imagePassed, .ref mm_imageKept, .ref mm_imageMany, .ref mm_imageHistory])), (mm_number, .inl (k_mm_number, 10, .inl (fun _ => 0))), (mm_off, .inl (k_mm_off, 20, .inl (fun _ => 0))), (mm_last, .inl (k_mm_last, 10, .inl (fun _ => 0))), (mm_passed, .inl (k_mm_passed, 10, .inl (fun _ => 0))), (mm_keptMany, .inl (k_mm_keptMany, 10, .inl (fun _ => 0))), (xx, .inr (10, [.ref rr, .ref ta, .ref tb, .ref pa, .ref pb, .ref cn, .ref ci, .int 0, .ref cp, .ref ct, .ref hs, .ref rd, .ref wy, .ref ea, .ref eb])), (cp, .inr (0, [.ref pa, .int 0, .int 0, .ref cp_last, .ref cp_passed, .ref cp_keptCount, .int 0, .int 0, .int 0, .int 0, .ref cp_off, .ref cp_since, .ref cp_kept, .ref cp_sorted])), (cp_off, .inl (k_cp_off, 10, .inl x_3)), (cp_since, .inl (k_cp_since, 10, .inl x_4)), (cp_last, .inl (k_cp_last, 5, .inl x_5)), (cp_passed, .inl (k_cp_passed, 5, .inl x_6)), (cp_keptCount, .inl (k_cp_keptCount, 5, .inl x_7)), (pa, .inr (3, [.ref ta, .ref pa_first, .ref pa_gain, .ref pa_custom, .ref pa_ruled, .int 0, .ref pa_deedHour, .ref pa_deedPerson, .ref pa_deedClock])), (pa_first, .inl (k_pa_first, 10, .inl (fun _ => 0))), (rd, .inr (5, [.int 0, .int (-1), .ref rd_slot, .ref rd_hour, .ref rd_low, .ref rd_high, .ref rd_byHour]))] := hD
  clear hPc hDc hKc hFc hP1 hD1 hk1 hz1 ht hvm
  have hw : r_2 = -1 := hw
  subst r_2
  refine lv_aload_n hx hb dL_law_1049 rfl (lv_at hl 2 rfl) ?_
  have hPc := hP.sub (ws' := [(mm, .inr (11, [.int 0, .ref mm_tape, .int 0, .ref mm_number, .ref mm_clockName, .ref mm_clockOff, .ref mm_clockGain, .ref mm_clockRough, .ref mm_personName, .ref mm_personOff, .ref mm_personGain, .ref mm_personRough, .ref mm_custom, .ref mm_customA, .ref mm_customB, .ref mm_ruleFrom, .ref mm_ruleTo, .ref mm_roundOf, .ref mm_roundAt, .ref mm_roundHour, .ref mm_gunAt, .ref mm_gunHour, .ref mm_knotSort, .ref mm_knotValue, .int 0, .int 0, .int 0, .int 0, .int 0, .int 0, .int 0, .int 0, .int 0, .int (-1), .int 0, .int 0, .int 0, .int 0, .int 0, .int 0, .int 0, .int 0, .int 0, .int 0, .int 0, .int 0, .ref mm_start, .ref mm_off, .ref mm_last, .ref mm_passed, .ref mm_kept, .ref mm_keptMany, .int 0, .int 0, .ref mm_history, .ref mm_names, .ref mm_worked, .int 0, .int 0, .int (-1), .ref mm_readThing, .ref mm_readHour, .ref mm_readLow, .ref mm_readHigh, .int 0, .int 0, .int 0, .ref mm_imageOff, .ref mm_imageLast, .ref mm_imagePassed, .ref mm_imageKept, .ref mm_imageMany, .ref mm_imageHistory])), (mm_number, .inl (k_mm_number, 10, .inl (fun _ => 0))), (mm_off, .inl (k_mm_off, 20, .inl (fun _ => 0))), (mm_last, .inl (k_mm_last, 10, .inl (fun _ => 0))), (mm_passed, .inl (k_mm_passed, 10, .inl (fun _ => 0))), (mm_keptMany, .inl (k_mm_keptMany, 10, .inl (fun _ => 0)))]) [0, 1, 2, 3, 4, 5] rfl
  have hDc := hD.sub (ws' := [(mm, .inr (11, [.int 0, .ref mm_tape, .int 0, .ref mm_number, .ref mm_clockName, .ref mm_clockOff, .ref mm_clockGain, .ref mm_clockRough, .ref mm_personName, .ref mm_personOff, .ref mm_personGain, .ref mm_personRough, .ref mm_custom, .ref mm_customA, .ref mm_customB, .ref mm_ruleFrom, .ref mm_ruleTo, .ref mm_roundOf, .ref mm_roundAt, .ref mm_roundHour, .ref mm_gunAt, .ref mm_gunHour, .ref mm_knotSort, .ref mm_knotValue, .int 0, .int 0, .int 0, .int 0, .int 0, .int 0, .int 0, .int 0, .int 0, .int (-1), .int 0, .int 0, .int 0, .int 0, .int 0, .int 0, .int 0, .int 0, .int 0, .int 0, .int 0, .int 0, .ref mm_start, .ref mm_off, .ref mm_last, .ref mm_passed, .ref mm_kept, .ref mm_keptMany, .int 0, .int 0, .ref mm_history, .ref mm_names, .ref mm_worked, .int 0, .int 0, .int (-1), .ref mm_readThing, .ref mm_readHour, .ref mm_readLow, .ref mm_readHigh, .int 0, .int 0, .int 0, .ref mm_imageOff, .ref mm_imageLast, .ref mm_imagePassed, .ref mm_imageKept, .ref mm_imageMany, .ref mm_imageHistory])), (mm_number, .inl (k_mm_number, 10, .inl (fun _ => 0))), (mm_off, .inl (k_mm_off, 20, .inl (fun _ => 0))), (mm_last, .inl (k_mm_last, 10, .inl (fun _ => 0))), (mm_passed, .inl (k_mm_passed, 10, .inl (fun _ => 0))), (mm_keptMany, .inl (k_mm_keptMany, 10, .inl (fun _ => 0)))]) [0, 1, 2, 3, 4, 5] (by decide) rfl
  have hKc := hK.sub (tys' := [(k_mm_number, .int), (k_mm_off, .int), (k_mm_last, .int), (k_mm_passed, .int), (k_mm_keptMany, .int)]) [6, 7, 8, 9, 10] rfl
  have hFc := va_free (wc := [(mm, .inr (11, [.int 0, .ref mm_tape, .int 0, .ref mm_number, .ref mm_clockName, .ref mm_clockOff, .ref mm_clockGain, .ref mm_clockRough, .ref mm_personName, .ref mm_personOff, .ref mm_personGain, .ref mm_personRough, .ref mm_custom, .ref mm_customA, .ref mm_customB, .ref mm_ruleFrom, .ref mm_ruleTo, .ref mm_roundOf, .ref mm_roundAt, .ref mm_roundHour, .ref mm_gunAt, .ref mm_gunHour, .ref mm_knotSort, .ref mm_knotValue, .int 0, .int 0, .int 0, .int 0, .int 0, .int 0, .int 0, .int 0, .int 0, .int (-1), .int 0, .int 0, .int 0, .int 0, .int 0, .int 0, .int 0, .int 0, .int 0, .int 0, .int 0, .int 0, .ref mm_start, .ref mm_off, .ref mm_last, .ref mm_passed, .ref mm_kept, .ref mm_keptMany, .int 0, .int 0, .ref mm_history, .ref mm_names, .ref mm_worked, .int 0, .int 0, .int (-1), .ref mm_readThing, .ref mm_readHour, .ref mm_readLow, .ref mm_readHigh, .int 0, .int 0, .int 0, .ref mm_imageOff, .ref mm_imageLast, .ref mm_imagePassed, .ref mm_imageKept, .ref mm_imageMany, .ref mm_imageHistory])), (mm_number, .inl (k_mm_number, 10, .inl (fun _ => 0))), (mm_off, .inl (k_mm_off, 20, .inl (fun _ => 0))), (mm_last, .inl (k_mm_last, 10, .inl (fun _ => 0))), (mm_passed, .inl (k_mm_passed, 10, .inl (fun _ => 0))), (mm_keptMany, .inl (k_mm_keptMany, 10, .inl (fun _ => 0)))]) hD hS hA [0, 1, 2, 3, 4, 5] rfl
  have := (by decide : (0 : Int32).toInt = 0)
  have := (by decide : (0 : Int32).toInt = 0)
  have := (by decide : (0 : Int32).toInt = 0)
  have := (by decide : (0 : Int32).toInt = 0)
  have := (by decide : (0 : Int32).toInt = 0)
  have := (by decide : (0 : Int32).toInt = 0)
  have := (by decide : (0 : Int32).toInt = 0)
  have := (by decide : (0 : Int32).toInt = 0)
  have := (by decide : (0 : Int32).toInt = 0)
  have := (by decide : (0 : Int32).toInt = 0)
  have := (by decide : (0 : Int32).toInt = 0)
  have := (by decide : ((-1) : Int32).toInt = -1)
  have := (by decide : (0 : Int32).toInt = 0)
  have := (by decide : (0 : Int32).toInt = 0)
  have := (by decide : (0 : Int32).toInt = 0)
  have := (by decide : (0 : Int32).toInt = 0)
  have := (by decide : (0 : Int32).toInt = 0)
  have := (by decide : (0 : Int32).toInt = 0)
  have := (by decide : (0 : Int32).toInt = 0)
  have := (by decide : (0 : Int32).toInt = 0)
  have := (by decide : (0 : Int32).toInt = 0)
  have := (by decide : (0 : Int32).toInt = 0)
  have := (by decide : (0 : Int32).toInt = 0)
  have := (by decide : (0 : Int32).toInt = 0)
  have := (by decide : (0 : Int32).toInt = 0)
  have := (by decide : (0 : Int32).toInt = 0)
  have := (by decide : (0 : Int32).toInt = 0)
  have := (by decide : (0 : Int32).toInt = 0)
  have := (by decide : (0 : Int32).toInt = 0)
  have := (by decide : (0 : Int32).toInt = 0)
  refine va_calli (va_runV (As := []) (rest := [.int (-1)]) ⟨hx, hb, hml, hown, hT⟩ (c_X11_judged l dC dI H.size mm (0 : Int32) mm_tape (0 : Int32) mm_number mm_clockName mm_clockOff mm_clockGain mm_clockRough mm_personName mm_personOff mm_personGain mm_personRough mm_custom mm_customA mm_customB mm_ruleFrom mm_ruleTo mm_roundOf mm_roundAt mm_roundHour mm_gunAt mm_gunHour mm_knotSort mm_knotValue (0 : Int32) (0 : Int32) (0 : Int32) (0 : Int32) (0 : Int32) (0 : Int32) (0 : Int32) (0 : Int32) (0 : Int32) ((-1) : Int32) (0 : Int32) (0 : Int32) (0 : Int32) (0 : Int32) (0 : Int32) (0 : Int32) (0 : Int32) (0 : Int32) (0 : Int32) (0 : Int32) (0 : Int32) (0 : Int32) mm_start mm_off mm_last mm_passed mm_kept mm_keptMany (0 : Int32) (0 : Int32) mm_history mm_names mm_worked (0 : Int32) mm_readThing mm_readHour mm_readLow mm_readHigh (0 : Int32) (0 : Int32) (0 : Int32) mm_imageOff mm_imageLast mm_imagePassed mm_imageKept mm_imageMany mm_imageHistory k_mm_number (fun _ => 0) k_mm_off (fun _ => 0) k_mm_last (fun _ => 0) k_mm_passed (fun _ => 0) k_mm_keptMany (fun _ => 0) (fun _ => rfl)) (cwV 0 hT (gwV mw_8_106 mw_8_107 mw_8_108 mw_1_16 mw_8_109) rfl rfl rfl (by decide +kernel) ⟨Nat.le_of_ble_eq_true rfl, Nat.le_of_ble_eq_true rfl⟩) ⟨fun a U g mk q => by obtain ⟨q0, q1, qP, qK, qD⟩ := q; exact ⟨q0, q1, qP, va_K.moved (u := U) (U := U.calling g mk a) (Vm.Alike.refl U.vm) qK, qD⟩, va_recv hK hP (ci := 11) (q0 := 0) rfl rfl, fun U hU hW => ⟨rfl, by rw [hU], by rw [hU]; exact hPc, va_K.moved hW.alike hKc, hDc.weaken (fun _ _ _ _ => trivial)⟩⟩ rfl rfl hl.1 rfl (lv_room (Nat.le_of_ble_eq_true rfl)) dL_law_1050 ⟨Nat.le_of_ble_eq_true rfl, Nat.le_of_ble_eq_true rfl⟩) hS (fun q _ h => hFc q h) hFc (fun r_9 u t H1 locs ht hvm hw hB hz1 hk1 hS => ?_)
  obtain ⟨hP1, hD1⟩ := hB
  rw [ht] at hP1
  obtain ⟨hP, hD⟩ := va_join (wr := [(xx, .inr (10, [.ref rr, .ref ta, .ref tb, .ref pa, .ref pb, .ref cn, .ref ci, .int 0, .ref cp, .ref ct, .ref hs, .ref rd, .ref wy, .ref ea, .ref eb])), (cp, .inr (0, [.ref pa, .int 0, .int 0, .ref cp_last, .ref cp_passed, .ref cp_keptCount, .int 0, .int 0, .int 0, .int 0, .ref cp_off, .ref cp_since, .ref cp_kept, .ref cp_sorted])), (cp_off, .inl (k_cp_off, 10, .inl x_3)), (cp_since, .inl (k_cp_since, 10, .inl x_4)), (cp_last, .inl (k_cp_last, 5, .inl x_5)), (cp_passed, .inl (k_cp_passed, 5, .inl x_6)), (cp_keptCount, .inl (k_cp_keptCount, 5, .inl x_7)), (pa, .inr (3, [.ref ta, .ref pa_first, .ref pa_gain, .ref pa_custom, .ref pa_ruled, .int 0, .ref pa_deedHour, .ref pa_deedPerson, .ref pa_deedClock])), (pa_first, .inl (k_pa_first, 10, .inl (fun _ => 0))), (rd, .inr (5, [.int 0, .int (-1), .ref rd_slot, .ref rd_hour, .ref rd_low, .ref rd_high, .ref rd_byHour]))]) (w1 := []) hP hD [0, 1, 2, 3, 4, 5] [6, 7, 8, 9, 10, 11, 12, 13, 14, 15] rfl rfl (by decide) (by decide) hk1 hFc hP1 hD1
  generalize H1 = H at hP hS ⊢
  have hP : va_P (dC, dI) vwCl [(xx, .inr (10, [.ref rr, .ref ta, .ref tb, .ref pa, .ref pb, .ref cn, .ref ci, .int 0, .ref cp, .ref ct, .ref hs, .ref rd, .ref wy, .ref ea, .ref eb])), (cp, .inr (0, [.ref pa, .int 0, .int 0, .ref cp_last, .ref cp_passed, .ref cp_keptCount, .int 0, .int 0, .int 0, .int 0, .ref cp_off, .ref cp_since, .ref cp_kept, .ref cp_sorted])), (cp_off, .inl (k_cp_off, 10, .inl x_3)), (cp_since, .inl (k_cp_since, 10, .inl x_4)), (cp_last, .inl (k_cp_last, 5, .inl x_5)), (cp_passed, .inl (k_cp_passed, 5, .inl x_6)), (cp_keptCount, .inl (k_cp_keptCount, 5, .inl x_7)), (pa, .inr (3, [.ref ta, .ref pa_first, .ref pa_gain, .ref pa_custom, .ref pa_ruled, .int 0, .ref pa_deedHour, .ref pa_deedPerson, .ref pa_deedClock])), (pa_first, .inl (k_pa_first, 10, .inl (fun _ => 0))), (rd, .inr (5, [.int 0, .int (-1), .ref rd_slot, .ref rd_hour, .ref rd_low, .ref rd_high, .ref rd_byHour]))] H := hP
  have hD : va_D A [(xx, .inr (10, [.ref rr, .ref ta, .ref tb, .ref pa, .ref pb, .ref cn, .ref ci, .int 0, .ref cp, .ref ct, .ref hs, .ref rd, .ref wy, .ref ea, .ref eb])), (cp, .inr (0, [.ref pa, .int 0, .int 0, .ref cp_last, .ref cp_passed, .ref cp_keptCount, .int 0, .int 0, .int 0, .int 0, .ref cp_off, .ref cp_since, .ref cp_kept, .ref cp_sorted])), (cp_off, .inl (k_cp_off, 10, .inl x_3)), (cp_since, .inl (k_cp_since, 10, .inl x_4)), (cp_last, .inl (k_cp_last, 5, .inl x_5)), (cp_passed, .inl (k_cp_passed, 5, .inl x_6)), (cp_keptCount, .inl (k_cp_keptCount, 5, .inl x_7)), (pa, .inr (3, [.ref ta, .ref pa_first, .ref pa_gain, .ref pa_custom, .ref pa_ruled, .int 0, .ref pa_deedHour, .ref pa_deedPerson, .ref pa_deedClock])), (pa_first, .inl (k_pa_first, 10, .inl (fun _ => 0))), (rd, .inr (5, [.int 0, .int (-1), .ref rd_slot, .ref rd_hour, .ref rd_low, .ref rd_high, .ref rd_byHour]))] := hD
  clear hPc hDc hKc hFc hP1 hD1 hk1 hz1 ht hvm
  have hw : r_9 = -1 := hw
  subst r_9
  refine lv_icmp_eq (tgt := 1482) hx hb dL_law_1053 (by decide) (fun c_10 => ?_) (fun c_10 => absurd c_10 (by decide))
  refine lv_iinc (v := 7) (lv' := [(4, .int 7), (3, .ref oo), (2, .ref mm), (1, .ref xx), (0, .ref b)]) hx hb dL_law_1482 hl (k := 0) rfl (by decide) (by decide) rfl (fun ls hl => ?_)
  refine lv_goto (tgt := 23) hx hb dL_law_1485 (by decide) ?_
  refine lv_iload hx hb dL_law_23 (lv_at hl 0 rfl) ?_
  refine lv_aload_n hx hb dL_law_25 rfl (lv_at hl 4 rfl) ?_
  refine va_slen hx hb hX hbl hbA hS dL_law_26 ?_
  refine lv_topi (fun z_11 ez_11 => ?_)
  obtain rfl : z_11 = 7 := ez_11.trans (by decide)
  refine lv_bipush (v := 7) hx hb dL_law_27 (by decide) ?_
  refine lv_isub hx hb dL_law_29 ?_
  refine lv_topi (fun z_12 ez_12 => ?_)
  obtain rfl : z_12 = 0 := ez_12.trans (by decide)
  refine lv_icmp_gt (tgt := 1488) hx hb dL_law_30 (by decide) (fun c_13 => ?_) (fun c_13 => absurd c_13 (by decide))
  refine lv_iconst (v := 1) hx hb dL_law_1488 (by decide) ?_
  refine va_forget (fun q hq => hAo _ (hS.2.2 q hq)) ?_
  refine W.widen (k := 600002) (n := 7302232) (Nat.le_of_ble_eq_true rfl) (Nat.le_of_ble_eq_true rfl) ?_
  exact lw_ret hx hb hr hlocks dL_law_1489
set_option maxHeartbeats 4000000 in
set_option maxRecDepth 100000 in
theorem law_op_20 {p : Program} {l : Launch} {e : Env} {s : State} {m : MethodId} {below : List Frame} {meth : Method} {c : Code} {dC : Nat → ClassId} {dI : Nat → Nat → Nat} {b : Nat} {xs : Nat → Int32} {A : Nat → Prop} (C0 : lw_At p s m meth c b 7 xs) (hA : ∀ q, s.heap.size ≤ q → A q) (hbA : ¬ A b) (hAo : ∀ q, A q → s.heap.size ≤ q) {xx : Nat} {rr : Nat} {ta : Nat} {tb : Nat} {pa : Nat} {pb : Nat} {cn : Nat} {ci : Nat} {cp : Nat} {ct : Nat} {hs : Nat} {rd : Nat} {wy : Nat} {ea : Nat} {eb : Nat} {ta_name : Nat} {ta_first : Nat} {ta_gain : Nat} {ta_rough : Nat} {ta_custom : Nat} {ta_part : Nat} {ta_whole : Nat} {ta_roundPerson : Nat} {ta_roundClock : Nat} {ta_roundHour : Nat} {ta_gunClock : Nat} {ta_gunHour : Nat} {tau : Nat} {mm : Nat} {mm_tape : Nat} {mm_number : Nat} {mm_clockName : Nat} {mm_clockOff : Nat} {mm_clockGain : Nat} {mm_clockRough : Nat} {mm_personName : Nat} {mm_personOff : Nat} {mm_personGain : Nat} {mm_personRough : Nat} {mm_custom : Nat} {mm_customA : Nat} {mm_customB : Nat} {mm_ruleFrom : Nat} {mm_ruleTo : Nat} {mm_roundOf : Nat} {mm_roundAt : Nat} {mm_roundHour : Nat} {mm_gunAt : Nat} {mm_gunHour : Nat} {mm_knotSort : Nat} {mm_knotValue : Nat} {mm_start : Nat} {mm_off : Nat} {mm_last : Nat} {mm_passed : Nat} {mm_kept : Nat} {mm_keptMany : Nat} {mm_history : Nat} {mm_names : Nat} {mm_worked : Nat} {mm_readThing : Nat} {mm_readHour : Nat} {mm_readLow : Nat} {mm_readHigh : Nat} {mm_imageOff : Nat} {mm_imageLast : Nat} {mm_imagePassed : Nat} {mm_imageKept : Nat} {mm_imageMany : Nat} {mm_imageHistory : Nat} {k_mm_number : ClassId} {oo : Nat} {H : Heap} {locs : List Loc} {ls : Array Slot} (hK : va_K (dC, dI) vwCl [(k_mm_number, .int)] s) (hP : va_P (dC, dI) vwCl [(xx, .inr (10, [.ref rr, .ref ta, .ref tb, .ref pa, .ref pb, .ref cn, .ref ci, .int 0, .ref cp, .ref ct, .ref hs, .ref rd, .ref wy, .ref ea, .ref eb])), (ta, .inr (8, [.int 0, .int 0, .int 0, .int 0, .int 0, .ref ta_name, .ref ta_first, .ref ta_gain, .ref ta_rough, .ref ta_custom, .ref ta_part, .ref ta_whole, .ref ta_roundPerson, .ref ta_roundClock, .ref ta_roundHour, .ref ta_gunClock, .ref ta_gunHour, .ref tau])), (mm, .inr (11, [.int 0, .ref mm_tape, .int 0, .ref mm_number, .ref mm_clockName, .ref mm_clockOff, .ref mm_clockGain, .ref mm_clockRough, .ref mm_personName, .ref mm_personOff, .ref mm_personGain, .ref mm_personRough, .ref mm_custom, .ref mm_customA, .ref mm_customB, .ref mm_ruleFrom, .ref mm_ruleTo, .ref mm_roundOf, .ref mm_roundAt, .ref mm_roundHour, .ref mm_gunAt, .ref mm_gunHour, .ref mm_knotSort, .ref mm_knotValue, .int 0, .int 0, .int 0, .int 0, .int 0, .int 0, .int 0, .int 0, .int 0, .int (-1), .int 0, .int 0, .int 0, .int 0, .int 0, .int 0, .int 0, .int 0, .int 0, .int 0, .int 0, .int 0, .ref mm_start, .ref mm_off, .ref mm_last, .ref mm_passed, .ref mm_kept, .ref mm_keptMany, .int 0, .int 0, .ref mm_history, .ref mm_names, .ref mm_worked, .int 0, .int 0, .int (-1), .ref mm_readThing, .ref mm_readHour, .ref mm_readLow, .ref mm_readHigh, .int 0, .int 0, .int 0, .ref mm_imageOff, .ref mm_imageLast, .ref mm_imagePassed, .ref mm_imageKept, .ref mm_imageMany, .ref mm_imageHistory])), (mm_number, .inl (k_mm_number, 10, .inl (fun _ => 0)))] H) (hD : va_D A [(xx, .inr (10, [.ref rr, .ref ta, .ref tb, .ref pa, .ref pb, .ref cn, .ref ci, .int 0, .ref cp, .ref ct, .ref hs, .ref rd, .ref wy, .ref ea, .ref eb])), (ta, .inr (8, [.int 0, .int 0, .int 0, .int 0, .int 0, .ref ta_name, .ref ta_first, .ref ta_gain, .ref ta_rough, .ref ta_custom, .ref ta_part, .ref ta_whole, .ref ta_roundPerson, .ref ta_roundClock, .ref ta_roundHour, .ref ta_gunClock, .ref ta_gunHour, .ref tau])), (mm, .inr (11, [.int 0, .ref mm_tape, .int 0, .ref mm_number, .ref mm_clockName, .ref mm_clockOff, .ref mm_clockGain, .ref mm_clockRough, .ref mm_personName, .ref mm_personOff, .ref mm_personGain, .ref mm_personRough, .ref mm_custom, .ref mm_customA, .ref mm_customB, .ref mm_ruleFrom, .ref mm_ruleTo, .ref mm_roundOf, .ref mm_roundAt, .ref mm_roundHour, .ref mm_gunAt, .ref mm_gunHour, .ref mm_knotSort, .ref mm_knotValue, .int 0, .int 0, .int 0, .int 0, .int 0, .int 0, .int 0, .int 0, .int 0, .int (-1), .int 0, .int 0, .int 0, .int 0, .int 0, .int 0, .int 0, .int 0, .int 0, .int 0, .int 0, .int 0, .ref mm_start, .ref mm_off, .ref mm_last, .ref mm_passed, .ref mm_kept, .ref mm_keptMany, .int 0, .int 0, .ref mm_history, .ref mm_names, .ref mm_worked, .int 0, .int 0, .int (-1), .ref mm_readThing, .ref mm_readHour, .ref mm_readLow, .ref mm_readHigh, .int 0, .int 0, .int 0, .ref mm_imageOff, .ref mm_imageLast, .ref mm_imagePassed, .ref mm_imageKept, .ref mm_imageMany, .ref mm_imageHistory])), (mm_number, .inl (k_mm_number, 10, .inl (fun _ => 0)))]) (hS : va_S A s.heap H locs) (hl : lv_has ls 7 [(4, .int 0), (3, .ref oo), (2, .ref mm), (1, .ref xx), (0, .ref b)]) : W p l e room_1 s m #[Value.ref b] below meth c H locs 160 67979 (lw_Z below #[Value.ref b] s) (F0 m 1058 ls []) := by
  obtain ⟨hx, hb, hr, hml, hown, hts, hX, hbl, hlocks, hgv⟩ := C0
  have hT : ∀ w ∈ pw_T, w.before #[Value.ref b] s = true := fun w h => hts w (List.mem_filter.mp h).1
  have hown : s.vm.findClass RL = some m.cls := hown
  refine lv_aload_n hx hb dL_law_1058 rfl (lv_at hl 3 rfl) ?_
  refine lv_aload_n hx hb dL_law_1059 rfl (lv_at hl 4 rfl) ?_
  refine lv_iload hx hb dL_law_1060 (lv_at hl 0 rfl) ?_
  refine lv_iconst (v := 1) hx hb dL_law_1062 (by decide) ?_
  refine lv_iadd hx hb dL_law_1063 ?_
  refine lv_topi (fun z_1 ez_1 => ?_)
  obtain rfl : z_1 = 1 := ez_1.trans (by decide)
  refine va_sld hx hb hX hbl hbA hS (pk_in 1 7 (by decide) (by decide) (by decide)) dL_law_1064 ?_
  refine lv_topi (fun z_2 ez_2 => ?_)
  replace ez_2 : z_2 = xs 1 := ez_2
  subst z_2
  have hPc := hP.sub (ws' := [(xx, .inr (10, [.ref rr, .ref ta, .ref tb, .ref pa, .ref pb, .ref cn, .ref ci, .int 0, .ref cp, .ref ct, .ref hs, .ref rd, .ref wy, .ref ea, .ref eb])), (ta, .inr (8, [.int 0, .int 0, .int 0, .int 0, .int 0, .ref ta_name, .ref ta_first, .ref ta_gain, .ref ta_rough, .ref ta_custom, .ref ta_part, .ref ta_whole, .ref ta_roundPerson, .ref ta_roundClock, .ref ta_roundHour, .ref ta_gunClock, .ref ta_gunHour, .ref tau]))]) [0, 1] rfl
  have hDc := hD.sub (ws' := [(xx, .inr (10, [.ref rr, .ref ta, .ref tb, .ref pa, .ref pb, .ref cn, .ref ci, .int 0, .ref cp, .ref ct, .ref hs, .ref rd, .ref wy, .ref ea, .ref eb])), (ta, .inr (8, [.int 0, .int 0, .int 0, .int 0, .int 0, .ref ta_name, .ref ta_first, .ref ta_gain, .ref ta_rough, .ref ta_custom, .ref ta_part, .ref ta_whole, .ref ta_roundPerson, .ref ta_roundClock, .ref ta_roundHour, .ref ta_gunClock, .ref ta_gunHour, .ref tau]))]) [0, 1] (by decide) rfl
  have hKc := hK.sub (tys' := []) [] rfl
  have hFc := va_free (wc := [(xx, .inr (10, [.ref rr, .ref ta, .ref tb, .ref pa, .ref pb, .ref cn, .ref ci, .int 0, .ref cp, .ref ct, .ref hs, .ref rd, .ref wy, .ref ea, .ref eb])), (ta, .inr (8, [.int 0, .int 0, .int 0, .int 0, .int 0, .ref ta_name, .ref ta_first, .ref ta_gain, .ref ta_rough, .ref ta_custom, .ref ta_part, .ref ta_whole, .ref ta_roundPerson, .ref ta_roundClock, .ref ta_roundHour, .ref ta_gunClock, .ref ta_gunHour, .ref tau]))]) hD hS hA [0, 1] rfl
  refine va_calli (va_runV (As := [.int (xs 1)]) (rest := []) ⟨hx, hb, hml, hown, hT⟩ (c_X10_wrong l dC dI H.size xx (xs 1) rr ta tb pa pb cn ci (0 : Int32) cp ct hs rd wy ea eb (0 : Int32) (0 : Int32) (0 : Int32) ta_name ta_first ta_gain ta_rough ta_custom ta_part ta_whole ta_roundPerson ta_roundClock ta_roundHour ta_gunClock ta_gunHour tau ) (cwV 1 hT (gwV mw_5_36 mw_5_37 mw_5_38 mw_1_1 mw_5_39) rfl rfl rfl (by decide +kernel) ⟨Nat.le_of_ble_eq_true rfl, Nat.le_of_ble_eq_true rfl⟩) ⟨fun a U g mk q => by obtain ⟨q0, q1, qP, qK, qD⟩ := q; exact ⟨q0, q1, qP, va_K.moved (u := U) (U := U.calling g mk a) (Vm.Alike.refl U.vm) qK, qD⟩, va_recv hK hP (ci := 10) (q0 := 0) rfl rfl, fun U hU hW => ⟨rfl, by rw [hU], by rw [hU]; exact hPc, va_K.moved hW.alike hKc, hDc.weaken (fun _ _ _ _ => trivial)⟩⟩ rfl rfl hl.1 rfl (lv_room (Nat.le_of_ble_eq_true rfl)) dL_law_1065 ⟨Nat.le_of_ble_eq_true rfl, Nat.le_of_ble_eq_true rfl⟩) hS (fun q _ h => hFc q h) hFc (fun r_4 u t H1 locs ht hvm hw hB hz1 hk1 hS => ?_)
  obtain ⟨hP1, hD1⟩ := hB
  rw [ht] at hP1
  obtain ⟨hP, hD⟩ := va_join (wr := [(mm, .inr (11, [.int 0, .ref mm_tape, .int 0, .ref mm_number, .ref mm_clockName, .ref mm_clockOff, .ref mm_clockGain, .ref mm_clockRough, .ref mm_personName, .ref mm_personOff, .ref mm_personGain, .ref mm_personRough, .ref mm_custom, .ref mm_customA, .ref mm_customB, .ref mm_ruleFrom, .ref mm_ruleTo, .ref mm_roundOf, .ref mm_roundAt, .ref mm_roundHour, .ref mm_gunAt, .ref mm_gunHour, .ref mm_knotSort, .ref mm_knotValue, .int 0, .int 0, .int 0, .int 0, .int 0, .int 0, .int 0, .int 0, .int 0, .int (-1), .int 0, .int 0, .int 0, .int 0, .int 0, .int 0, .int 0, .int 0, .int 0, .int 0, .int 0, .int 0, .ref mm_start, .ref mm_off, .ref mm_last, .ref mm_passed, .ref mm_kept, .ref mm_keptMany, .int 0, .int 0, .ref mm_history, .ref mm_names, .ref mm_worked, .int 0, .int 0, .int (-1), .ref mm_readThing, .ref mm_readHour, .ref mm_readLow, .ref mm_readHigh, .int 0, .int 0, .int 0, .ref mm_imageOff, .ref mm_imageLast, .ref mm_imagePassed, .ref mm_imageKept, .ref mm_imageMany, .ref mm_imageHistory])), (mm_number, .inl (k_mm_number, 10, .inl (fun _ => 0)))]) (w1 := [(xx, .inr (10, [.ref rr, .ref ta, .ref tb, .ref pa, .ref pb, .ref cn, .ref ci, .int 0, .ref cp, .ref ct, .ref hs, .ref rd, .ref wy, .ref ea, .ref eb])), (ta, .inr (8, [.int 0, .int 0, .int 0, .int 0, .int 0, .ref ta_name, .ref ta_first, .ref ta_gain, .ref ta_rough, .ref ta_custom, .ref ta_part, .ref ta_whole, .ref ta_roundPerson, .ref ta_roundClock, .ref ta_roundHour, .ref ta_gunClock, .ref ta_gunHour, .ref tau]))]) hP hD [0, 1] [2, 3] rfl rfl (by decide) (by decide) hk1 hFc hP1 hD1
  generalize H1 = H at hP hS ⊢
  have hP : va_P (dC, dI) vwCl [(mm, .inr (11, [.int 0, .ref mm_tape, .int 0, .ref mm_number, .ref mm_clockName, .ref mm_clockOff, .ref mm_clockGain, .ref mm_clockRough, .ref mm_personName, .ref mm_personOff, .ref mm_personGain, .ref mm_personRough, .ref mm_custom, .ref mm_customA, .ref mm_customB, .ref mm_ruleFrom, .ref mm_ruleTo, .ref mm_roundOf, .ref mm_roundAt, .ref mm_roundHour, .ref mm_gunAt, .ref mm_gunHour, .ref mm_knotSort, .ref mm_knotValue, .int 0, .int 0, .int 0, .int 0, .int 0, .int 0, .int 0, .int 0, .int 0, .int (-1), .int 0, .int 0, .int 0, .int 0, .int 0, .int 0, .int 0, .int 0, .int 0, .int 0, .int 0, .int 0, .ref mm_start, .ref mm_off, .ref mm_last, .ref mm_passed, .ref mm_kept, .ref mm_keptMany, .int 0, .int 0, .ref mm_history, .ref mm_names, .ref mm_worked, .int 0, .int 0, .int (-1), .ref mm_readThing, .ref mm_readHour, .ref mm_readLow, .ref mm_readHigh, .int 0, .int 0, .int 0, .ref mm_imageOff, .ref mm_imageLast, .ref mm_imagePassed, .ref mm_imageKept, .ref mm_imageMany, .ref mm_imageHistory])), (mm_number, .inl (k_mm_number, 10, .inl (fun _ => 0))), (xx, .inr (10, [.ref rr, .ref ta, .ref tb, .ref pa, .ref pb, .ref cn, .ref ci, .int 0, .ref cp, .ref ct, .ref hs, .ref rd, .ref wy, .ref ea, .ref eb])), (ta, .inr (8, [.int 0, .int 0, .int 0, .int 0, .int 0, .ref ta_name, .ref ta_first, .ref ta_gain, .ref ta_rough, .ref ta_custom, .ref ta_part, .ref ta_whole, .ref ta_roundPerson, .ref ta_roundClock, .ref ta_roundHour, .ref ta_gunClock, .ref ta_gunHour, .ref tau]))] H := hP
  have hD : va_D A [(mm, .inr (11, [.int 0, .ref mm_tape, .int 0, .ref mm_number, .ref mm_clockName, .ref mm_clockOff, .ref mm_clockGain, .ref mm_clockRough, .ref mm_personName, .ref mm_personOff, .ref mm_personGain, .ref mm_personRough, .ref mm_custom, .ref mm_customA, .ref mm_customB, .ref mm_ruleFrom, .ref mm_ruleTo, .ref mm_roundOf, .ref mm_roundAt, .ref mm_roundHour, .ref mm_gunAt, .ref mm_gunHour, .ref mm_knotSort, .ref mm_knotValue, .int 0, .int 0, .int 0, .int 0, .int 0, .int 0, .int 0, .int 0, .int 0, .int (-1), .int 0, .int 0, .int 0, .int 0, .int 0, .int 0, .int 0, .int 0, .int 0, .int 0, .int 0, .int 0, .ref mm_start, .ref mm_off, .ref mm_last, .ref mm_passed, .ref mm_kept, .ref mm_keptMany, .int 0, .int 0, .ref mm_history, .ref mm_names, .ref mm_worked, .int 0, .int 0, .int (-1), .ref mm_readThing, .ref mm_readHour, .ref mm_readLow, .ref mm_readHigh, .int 0, .int 0, .int 0, .ref mm_imageOff, .ref mm_imageLast, .ref mm_imagePassed, .ref mm_imageKept, .ref mm_imageMany, .ref mm_imageHistory])), (mm_number, .inl (k_mm_number, 10, .inl (fun _ => 0))), (xx, .inr (10, [.ref rr, .ref ta, .ref tb, .ref pa, .ref pb, .ref cn, .ref ci, .int 0, .ref cp, .ref ct, .ref hs, .ref rd, .ref wy, .ref ea, .ref eb])), (ta, .inr (8, [.int 0, .int 0, .int 0, .int 0, .int 0, .ref ta_name, .ref ta_first, .ref ta_gain, .ref ta_rough, .ref ta_custom, .ref ta_part, .ref ta_whole, .ref ta_roundPerson, .ref ta_roundClock, .ref ta_roundHour, .ref ta_gunClock, .ref ta_gunHour, .ref tau]))] := hD
  clear hPc hDc hKc hFc hP1 hD1 hk1 hz1 ht hvm
  have hw : r_4 = -1 := hw
  subst r_4
  refine lv_aload_n hx hb dL_law_1068 rfl (lv_at hl 2 rfl) ?_
  refine lv_aload_n hx hb dL_law_1069 rfl (lv_at hl 4 rfl) ?_
  refine lv_iload hx hb dL_law_1070 (lv_at hl 0 rfl) ?_
  refine lv_iconst (v := 1) hx hb dL_law_1072 (by decide) ?_
  refine lv_iadd hx hb dL_law_1073 ?_
  refine lv_topi (fun z_5 ez_5 => ?_)
  obtain rfl : z_5 = 1 := ez_5.trans (by decide)
  refine va_sld hx hb hX hbl hbA hS (pk_in 1 7 (by decide) (by decide) (by decide)) dL_law_1074 ?_
  refine lv_topi (fun z_6 ez_6 => ?_)
  replace ez_6 : z_6 = xs 1 := ez_6
  subst z_6
  have hPc := hP.sub (ws' := [(mm, .inr (11, [.int 0, .ref mm_tape, .int 0, .ref mm_number, .ref mm_clockName, .ref mm_clockOff, .ref mm_clockGain, .ref mm_clockRough, .ref mm_personName, .ref mm_personOff, .ref mm_personGain, .ref mm_personRough, .ref mm_custom, .ref mm_customA, .ref mm_customB, .ref mm_ruleFrom, .ref mm_ruleTo, .ref mm_roundOf, .ref mm_roundAt, .ref mm_roundHour, .ref mm_gunAt, .ref mm_gunHour, .ref mm_knotSort, .ref mm_knotValue, .int 0, .int 0, .int 0, .int 0, .int 0, .int 0, .int 0, .int 0, .int 0, .int (-1), .int 0, .int 0, .int 0, .int 0, .int 0, .int 0, .int 0, .int 0, .int 0, .int 0, .int 0, .int 0, .ref mm_start, .ref mm_off, .ref mm_last, .ref mm_passed, .ref mm_kept, .ref mm_keptMany, .int 0, .int 0, .ref mm_history, .ref mm_names, .ref mm_worked, .int 0, .int 0, .int (-1), .ref mm_readThing, .ref mm_readHour, .ref mm_readLow, .ref mm_readHigh, .int 0, .int 0, .int 0, .ref mm_imageOff, .ref mm_imageLast, .ref mm_imagePassed, .ref mm_imageKept, .ref mm_imageMany, .ref mm_imageHistory])), (mm_number, .inl (k_mm_number, 10, .inl (fun _ => 0)))]) [0, 1] rfl
  have hDc := hD.sub (ws' := [(mm, .inr (11, [.int 0, .ref mm_tape, .int 0, .ref mm_number, .ref mm_clockName, .ref mm_clockOff, .ref mm_clockGain, .ref mm_clockRough, .ref mm_personName, .ref mm_personOff, .ref mm_personGain, .ref mm_personRough, .ref mm_custom, .ref mm_customA, .ref mm_customB, .ref mm_ruleFrom, .ref mm_ruleTo, .ref mm_roundOf, .ref mm_roundAt, .ref mm_roundHour, .ref mm_gunAt, .ref mm_gunHour, .ref mm_knotSort, .ref mm_knotValue, .int 0, .int 0, .int 0, .int 0, .int 0, .int 0, .int 0, .int 0, .int 0, .int (-1), .int 0, .int 0, .int 0, .int 0, .int 0, .int 0, .int 0, .int 0, .int 0, .int 0, .int 0, .int 0, .ref mm_start, .ref mm_off, .ref mm_last, .ref mm_passed, .ref mm_kept, .ref mm_keptMany, .int 0, .int 0, .ref mm_history, .ref mm_names, .ref mm_worked, .int 0, .int 0, .int (-1), .ref mm_readThing, .ref mm_readHour, .ref mm_readLow, .ref mm_readHigh, .int 0, .int 0, .int 0, .ref mm_imageOff, .ref mm_imageLast, .ref mm_imagePassed, .ref mm_imageKept, .ref mm_imageMany, .ref mm_imageHistory])), (mm_number, .inl (k_mm_number, 10, .inl (fun _ => 0)))]) [0, 1] (by decide) rfl
  have hKc := hK.sub (tys' := [(k_mm_number, .int)]) [0] rfl
  have hFc := va_free (wc := [(mm, .inr (11, [.int 0, .ref mm_tape, .int 0, .ref mm_number, .ref mm_clockName, .ref mm_clockOff, .ref mm_clockGain, .ref mm_clockRough, .ref mm_personName, .ref mm_personOff, .ref mm_personGain, .ref mm_personRough, .ref mm_custom, .ref mm_customA, .ref mm_customB, .ref mm_ruleFrom, .ref mm_ruleTo, .ref mm_roundOf, .ref mm_roundAt, .ref mm_roundHour, .ref mm_gunAt, .ref mm_gunHour, .ref mm_knotSort, .ref mm_knotValue, .int 0, .int 0, .int 0, .int 0, .int 0, .int 0, .int 0, .int 0, .int 0, .int (-1), .int 0, .int 0, .int 0, .int 0, .int 0, .int 0, .int 0, .int 0, .int 0, .int 0, .int 0, .int 0, .ref mm_start, .ref mm_off, .ref mm_last, .ref mm_passed, .ref mm_kept, .ref mm_keptMany, .int 0, .int 0, .ref mm_history, .ref mm_names, .ref mm_worked, .int 0, .int 0, .int (-1), .ref mm_readThing, .ref mm_readHour, .ref mm_readLow, .ref mm_readHigh, .int 0, .int 0, .int 0, .ref mm_imageOff, .ref mm_imageLast, .ref mm_imagePassed, .ref mm_imageKept, .ref mm_imageMany, .ref mm_imageHistory])), (mm_number, .inl (k_mm_number, 10, .inl (fun _ => 0)))]) hD hS hA [0, 1] rfl
  have := (by decide : (0 : Int32).toInt = 0)
  have := (by decide : (0 : Int32).toInt = 0)
  have := (by decide : (0 : Int32).toInt = 0)
  have := (by decide : (0 : Int32).toInt = 0)
  have := (by decide : (0 : Int32).toInt = 0)
  have := (by decide : (0 : Int32).toInt = 0)
  have := (by decide : (0 : Int32).toInt = 0)
  have := (by decide : (0 : Int32).toInt = 0)
  have := (by decide : (0 : Int32).toInt = 0)
  have := (by decide : (0 : Int32).toInt = 0)
  have := (by decide : (0 : Int32).toInt = 0)
  have := (by decide : ((-1) : Int32).toInt = -1)
  have := (by decide : (0 : Int32).toInt = 0)
  have := (by decide : (0 : Int32).toInt = 0)
  have := (by decide : (0 : Int32).toInt = 0)
  have := (by decide : (0 : Int32).toInt = 0)
  have := (by decide : (0 : Int32).toInt = 0)
  have := (by decide : (0 : Int32).toInt = 0)
  have := (by decide : (0 : Int32).toInt = 0)
  have := (by decide : (0 : Int32).toInt = 0)
  have := (by decide : (0 : Int32).toInt = 0)
  have := (by decide : (0 : Int32).toInt = 0)
  have := (by decide : (0 : Int32).toInt = 0)
  have := (by decide : (0 : Int32).toInt = 0)
  have := (by decide : (0 : Int32).toInt = 0)
  have := (by decide : (0 : Int32).toInt = 0)
  have := (by decide : (0 : Int32).toInt = 0)
  have := (by decide : (0 : Int32).toInt = 0)
  have := (by decide : ((-1) : Int32).toInt = -1)
  have := (by decide : (0 : Int32).toInt = 0)
  have := (by decide : (0 : Int32).toInt = 0)
  have := (by decide : (0 : Int32).toInt = 0)
  refine va_calli (va_runV (As := [.int (xs 1)]) (rest := [.int (-1)]) ⟨hx, hb, hml, hown, hT⟩ (c_X11_wrong l dC dI H.size mm (xs 1) (0 : Int32) mm_tape (0 : Int32) mm_number mm_clockName mm_clockOff mm_clockGain mm_clockRough mm_personName mm_personOff mm_personGain mm_personRough mm_custom mm_customA mm_customB mm_ruleFrom mm_ruleTo mm_roundOf mm_roundAt mm_roundHour mm_gunAt mm_gunHour mm_knotSort mm_knotValue (0 : Int32) (0 : Int32) (0 : Int32) (0 : Int32) (0 : Int32) (0 : Int32) (0 : Int32) (0 : Int32) (0 : Int32) ((-1) : Int32) (0 : Int32) (0 : Int32) (0 : Int32) (0 : Int32) (0 : Int32) (0 : Int32) (0 : Int32) (0 : Int32) (0 : Int32) (0 : Int32) (0 : Int32) (0 : Int32) mm_start mm_off mm_last mm_passed mm_kept mm_keptMany (0 : Int32) (0 : Int32) mm_history mm_names mm_worked (0 : Int32) (0 : Int32) ((-1) : Int32) mm_readThing mm_readHour mm_readLow mm_readHigh (0 : Int32) (0 : Int32) (0 : Int32) mm_imageOff mm_imageLast mm_imagePassed mm_imageKept mm_imageMany mm_imageHistory k_mm_number (fun _ => 0) (fun _ => rfl)) (cwV 1 hT (gwV mw_8_118 mw_8_119 mw_8_120 mw_1_16 mw_8_121) rfl rfl rfl (by decide +kernel) ⟨Nat.le_of_ble_eq_true rfl, Nat.le_of_ble_eq_true rfl⟩) ⟨fun a U g mk q => by obtain ⟨q0, q1, qP, qK, qD⟩ := q; exact ⟨q0, q1, qP, va_K.moved (u := U) (U := U.calling g mk a) (Vm.Alike.refl U.vm) qK, qD⟩, va_recv hK hP (ci := 11) (q0 := 0) rfl rfl, fun U hU hW => ⟨rfl, by rw [hU], by rw [hU]; exact hPc, va_K.moved hW.alike hKc, hDc.weaken (fun _ _ _ _ => trivial)⟩⟩ rfl rfl hl.1 rfl (lv_room (Nat.le_of_ble_eq_true rfl)) dL_law_1075 ⟨Nat.le_of_ble_eq_true rfl, Nat.le_of_ble_eq_true rfl⟩) hS (fun q _ h => hFc q h) hFc (fun r_8 u t H1 locs ht hvm hw hB hz1 hk1 hS => ?_)
  obtain ⟨hP1, hD1⟩ := hB
  rw [ht] at hP1
  obtain ⟨hP, hD⟩ := va_join (wr := [(xx, .inr (10, [.ref rr, .ref ta, .ref tb, .ref pa, .ref pb, .ref cn, .ref ci, .int 0, .ref cp, .ref ct, .ref hs, .ref rd, .ref wy, .ref ea, .ref eb])), (ta, .inr (8, [.int 0, .int 0, .int 0, .int 0, .int 0, .ref ta_name, .ref ta_first, .ref ta_gain, .ref ta_rough, .ref ta_custom, .ref ta_part, .ref ta_whole, .ref ta_roundPerson, .ref ta_roundClock, .ref ta_roundHour, .ref ta_gunClock, .ref ta_gunHour, .ref tau]))]) (w1 := [(mm, .inr (11, [.int 0, .ref mm_tape, .int 0, .ref mm_number, .ref mm_clockName, .ref mm_clockOff, .ref mm_clockGain, .ref mm_clockRough, .ref mm_personName, .ref mm_personOff, .ref mm_personGain, .ref mm_personRough, .ref mm_custom, .ref mm_customA, .ref mm_customB, .ref mm_ruleFrom, .ref mm_ruleTo, .ref mm_roundOf, .ref mm_roundAt, .ref mm_roundHour, .ref mm_gunAt, .ref mm_gunHour, .ref mm_knotSort, .ref mm_knotValue, .int 0, .int 0, .int 0, .int 0, .int 0, .int 0, .int 0, .int 0, .int 0, .int (-1), .int 0, .int 0, .int 0, .int 0, .int 0, .int 0, .int 0, .int 0, .int 0, .int 0, .int 0, .int 0, .ref mm_start, .ref mm_off, .ref mm_last, .ref mm_passed, .ref mm_kept, .ref mm_keptMany, .int 0, .int 0, .ref mm_history, .ref mm_names, .ref mm_worked, .int 0, .int 0, .int (-1), .ref mm_readThing, .ref mm_readHour, .ref mm_readLow, .ref mm_readHigh, .int 0, .int 0, .int 0, .ref mm_imageOff, .ref mm_imageLast, .ref mm_imagePassed, .ref mm_imageKept, .ref mm_imageMany, .ref mm_imageHistory])), (mm_number, .inl (k_mm_number, 10, .inl (fun _ => 0)))]) hP hD [0, 1] [2, 3] rfl rfl (by decide) (by decide) hk1 hFc hP1 hD1
  generalize H1 = H at hP hS ⊢
  have hP : va_P (dC, dI) vwCl [(xx, .inr (10, [.ref rr, .ref ta, .ref tb, .ref pa, .ref pb, .ref cn, .ref ci, .int 0, .ref cp, .ref ct, .ref hs, .ref rd, .ref wy, .ref ea, .ref eb])), (ta, .inr (8, [.int 0, .int 0, .int 0, .int 0, .int 0, .ref ta_name, .ref ta_first, .ref ta_gain, .ref ta_rough, .ref ta_custom, .ref ta_part, .ref ta_whole, .ref ta_roundPerson, .ref ta_roundClock, .ref ta_roundHour, .ref ta_gunClock, .ref ta_gunHour, .ref tau])), (mm, .inr (11, [.int 0, .ref mm_tape, .int 0, .ref mm_number, .ref mm_clockName, .ref mm_clockOff, .ref mm_clockGain, .ref mm_clockRough, .ref mm_personName, .ref mm_personOff, .ref mm_personGain, .ref mm_personRough, .ref mm_custom, .ref mm_customA, .ref mm_customB, .ref mm_ruleFrom, .ref mm_ruleTo, .ref mm_roundOf, .ref mm_roundAt, .ref mm_roundHour, .ref mm_gunAt, .ref mm_gunHour, .ref mm_knotSort, .ref mm_knotValue, .int 0, .int 0, .int 0, .int 0, .int 0, .int 0, .int 0, .int 0, .int 0, .int (-1), .int 0, .int 0, .int 0, .int 0, .int 0, .int 0, .int 0, .int 0, .int 0, .int 0, .int 0, .int 0, .ref mm_start, .ref mm_off, .ref mm_last, .ref mm_passed, .ref mm_kept, .ref mm_keptMany, .int 0, .int 0, .ref mm_history, .ref mm_names, .ref mm_worked, .int 0, .int 0, .int (-1), .ref mm_readThing, .ref mm_readHour, .ref mm_readLow, .ref mm_readHigh, .int 0, .int 0, .int 0, .ref mm_imageOff, .ref mm_imageLast, .ref mm_imagePassed, .ref mm_imageKept, .ref mm_imageMany, .ref mm_imageHistory])), (mm_number, .inl (k_mm_number, 10, .inl (fun _ => 0)))] H := hP
  have hD : va_D A [(xx, .inr (10, [.ref rr, .ref ta, .ref tb, .ref pa, .ref pb, .ref cn, .ref ci, .int 0, .ref cp, .ref ct, .ref hs, .ref rd, .ref wy, .ref ea, .ref eb])), (ta, .inr (8, [.int 0, .int 0, .int 0, .int 0, .int 0, .ref ta_name, .ref ta_first, .ref ta_gain, .ref ta_rough, .ref ta_custom, .ref ta_part, .ref ta_whole, .ref ta_roundPerson, .ref ta_roundClock, .ref ta_roundHour, .ref ta_gunClock, .ref ta_gunHour, .ref tau])), (mm, .inr (11, [.int 0, .ref mm_tape, .int 0, .ref mm_number, .ref mm_clockName, .ref mm_clockOff, .ref mm_clockGain, .ref mm_clockRough, .ref mm_personName, .ref mm_personOff, .ref mm_personGain, .ref mm_personRough, .ref mm_custom, .ref mm_customA, .ref mm_customB, .ref mm_ruleFrom, .ref mm_ruleTo, .ref mm_roundOf, .ref mm_roundAt, .ref mm_roundHour, .ref mm_gunAt, .ref mm_gunHour, .ref mm_knotSort, .ref mm_knotValue, .int 0, .int 0, .int 0, .int 0, .int 0, .int 0, .int 0, .int 0, .int 0, .int (-1), .int 0, .int 0, .int 0, .int 0, .int 0, .int 0, .int 0, .int 0, .int 0, .int 0, .int 0, .int 0, .ref mm_start, .ref mm_off, .ref mm_last, .ref mm_passed, .ref mm_kept, .ref mm_keptMany, .int 0, .int 0, .ref mm_history, .ref mm_names, .ref mm_worked, .int 0, .int 0, .int (-1), .ref mm_readThing, .ref mm_readHour, .ref mm_readLow, .ref mm_readHigh, .int 0, .int 0, .int 0, .ref mm_imageOff, .ref mm_imageLast, .ref mm_imagePassed, .ref mm_imageKept, .ref mm_imageMany, .ref mm_imageHistory])), (mm_number, .inl (k_mm_number, 10, .inl (fun _ => 0)))] := hD
  clear hPc hDc hKc hFc hP1 hD1 hk1 hz1 ht hvm
  have hw : r_8 = -1 := hw
  subst r_8
  refine lv_icmp_eq (tgt := 1482) hx hb dL_law_1078 (by decide) (fun c_9 => ?_) (fun c_9 => absurd c_9 (by decide))
  refine lv_iinc (v := 7) (lv' := [(4, .int 7), (3, .ref oo), (2, .ref mm), (1, .ref xx), (0, .ref b)]) hx hb dL_law_1482 hl (k := 0) rfl (by decide) (by decide) rfl (fun ls hl => ?_)
  refine lv_goto (tgt := 23) hx hb dL_law_1485 (by decide) ?_
  refine lv_iload hx hb dL_law_23 (lv_at hl 0 rfl) ?_
  refine lv_aload_n hx hb dL_law_25 rfl (lv_at hl 4 rfl) ?_
  refine va_slen hx hb hX hbl hbA hS dL_law_26 ?_
  refine lv_topi (fun z_10 ez_10 => ?_)
  obtain rfl : z_10 = 7 := ez_10.trans (by decide)
  refine lv_bipush (v := 7) hx hb dL_law_27 (by decide) ?_
  refine lv_isub hx hb dL_law_29 ?_
  refine lv_topi (fun z_11 ez_11 => ?_)
  obtain rfl : z_11 = 0 := ez_11.trans (by decide)
  refine lv_icmp_gt (tgt := 1488) hx hb dL_law_30 (by decide) (fun c_12 => ?_) (fun c_12 => absurd c_12 (by decide))
  refine lv_iconst (v := 1) hx hb dL_law_1488 (by decide) ?_
  refine va_forget (fun q hq => hAo _ (hS.2.2 q hq)) ?_
  refine W.widen (k := 600002) (n := 7302232) (Nat.le_of_ble_eq_true rfl) (Nat.le_of_ble_eq_true rfl) ?_
  exact lw_ret hx hb hr hlocks dL_law_1489
set_option maxHeartbeats 4000000 in
set_option maxRecDepth 100000 in
theorem law_op_21 {p : Program} {l : Launch} {e : Env} {s : State} {m : MethodId} {below : List Frame} {meth : Method} {c : Code} {dC : Nat → ClassId} {dI : Nat → Nat → Nat} {b : Nat} {xs : Nat → Int32} {A : Nat → Prop} (C0 : lw_At p s m meth c b 7 xs) (hA : ∀ q, s.heap.size ≤ q → A q) (hbA : ¬ A b) (hAo : ∀ q, A q → s.heap.size ≤ q) {xx : Nat} {rr : Nat} {ta : Nat} {tb : Nat} {pa : Nat} {pb : Nat} {cn : Nat} {ci : Nat} {cp : Nat} {ct : Nat} {hs : Nat} {rd : Nat} {wy : Nat} {ea : Nat} {eb : Nat} {ta_name : Nat} {ta_first : Nat} {ta_gain : Nat} {ta_rough : Nat} {ta_custom : Nat} {ta_part : Nat} {ta_whole : Nat} {ta_roundPerson : Nat} {ta_roundClock : Nat} {ta_roundHour : Nat} {ta_gunClock : Nat} {ta_gunHour : Nat} {tau : Nat} {mm : Nat} {mm_tape : Nat} {mm_number : Nat} {mm_clockName : Nat} {mm_clockOff : Nat} {mm_clockGain : Nat} {mm_clockRough : Nat} {mm_personName : Nat} {mm_personOff : Nat} {mm_personGain : Nat} {mm_personRough : Nat} {mm_custom : Nat} {mm_customA : Nat} {mm_customB : Nat} {mm_ruleFrom : Nat} {mm_ruleTo : Nat} {mm_roundOf : Nat} {mm_roundAt : Nat} {mm_roundHour : Nat} {mm_gunAt : Nat} {mm_gunHour : Nat} {mm_knotSort : Nat} {mm_knotValue : Nat} {mm_start : Nat} {mm_off : Nat} {mm_last : Nat} {mm_passed : Nat} {mm_kept : Nat} {mm_keptMany : Nat} {mm_history : Nat} {mm_names : Nat} {mm_worked : Nat} {mm_readThing : Nat} {mm_readHour : Nat} {mm_readLow : Nat} {mm_readHigh : Nat} {mm_imageOff : Nat} {mm_imageLast : Nat} {mm_imagePassed : Nat} {mm_imageKept : Nat} {mm_imageMany : Nat} {mm_imageHistory : Nat} {k_mm_number : ClassId} {oo : Nat} {H : Heap} {locs : List Loc} {ls : Array Slot} (hK : va_K (dC, dI) vwCl [(k_mm_number, .int)] s) (hP : va_P (dC, dI) vwCl [(xx, .inr (10, [.ref rr, .ref ta, .ref tb, .ref pa, .ref pb, .ref cn, .ref ci, .int 0, .ref cp, .ref ct, .ref hs, .ref rd, .ref wy, .ref ea, .ref eb])), (ta, .inr (8, [.int 0, .int 0, .int 0, .int 0, .int 0, .ref ta_name, .ref ta_first, .ref ta_gain, .ref ta_rough, .ref ta_custom, .ref ta_part, .ref ta_whole, .ref ta_roundPerson, .ref ta_roundClock, .ref ta_roundHour, .ref ta_gunClock, .ref ta_gunHour, .ref tau])), (mm, .inr (11, [.int 0, .ref mm_tape, .int 0, .ref mm_number, .ref mm_clockName, .ref mm_clockOff, .ref mm_clockGain, .ref mm_clockRough, .ref mm_personName, .ref mm_personOff, .ref mm_personGain, .ref mm_personRough, .ref mm_custom, .ref mm_customA, .ref mm_customB, .ref mm_ruleFrom, .ref mm_ruleTo, .ref mm_roundOf, .ref mm_roundAt, .ref mm_roundHour, .ref mm_gunAt, .ref mm_gunHour, .ref mm_knotSort, .ref mm_knotValue, .int 0, .int 0, .int 0, .int 0, .int 0, .int 0, .int 0, .int 0, .int 0, .int (-1), .int 0, .int 0, .int 0, .int 0, .int 0, .int 0, .int 0, .int 0, .int 0, .int 0, .int 0, .int 0, .ref mm_start, .ref mm_off, .ref mm_last, .ref mm_passed, .ref mm_kept, .ref mm_keptMany, .int 0, .int 0, .ref mm_history, .ref mm_names, .ref mm_worked, .int 0, .int 0, .int (-1), .ref mm_readThing, .ref mm_readHour, .ref mm_readLow, .ref mm_readHigh, .int 0, .int 0, .int 0, .ref mm_imageOff, .ref mm_imageLast, .ref mm_imagePassed, .ref mm_imageKept, .ref mm_imageMany, .ref mm_imageHistory])), (mm_number, .inl (k_mm_number, 10, .inl (fun _ => 0)))] H) (hD : va_D A [(xx, .inr (10, [.ref rr, .ref ta, .ref tb, .ref pa, .ref pb, .ref cn, .ref ci, .int 0, .ref cp, .ref ct, .ref hs, .ref rd, .ref wy, .ref ea, .ref eb])), (ta, .inr (8, [.int 0, .int 0, .int 0, .int 0, .int 0, .ref ta_name, .ref ta_first, .ref ta_gain, .ref ta_rough, .ref ta_custom, .ref ta_part, .ref ta_whole, .ref ta_roundPerson, .ref ta_roundClock, .ref ta_roundHour, .ref ta_gunClock, .ref ta_gunHour, .ref tau])), (mm, .inr (11, [.int 0, .ref mm_tape, .int 0, .ref mm_number, .ref mm_clockName, .ref mm_clockOff, .ref mm_clockGain, .ref mm_clockRough, .ref mm_personName, .ref mm_personOff, .ref mm_personGain, .ref mm_personRough, .ref mm_custom, .ref mm_customA, .ref mm_customB, .ref mm_ruleFrom, .ref mm_ruleTo, .ref mm_roundOf, .ref mm_roundAt, .ref mm_roundHour, .ref mm_gunAt, .ref mm_gunHour, .ref mm_knotSort, .ref mm_knotValue, .int 0, .int 0, .int 0, .int 0, .int 0, .int 0, .int 0, .int 0, .int 0, .int (-1), .int 0, .int 0, .int 0, .int 0, .int 0, .int 0, .int 0, .int 0, .int 0, .int 0, .int 0, .int 0, .ref mm_start, .ref mm_off, .ref mm_last, .ref mm_passed, .ref mm_kept, .ref mm_keptMany, .int 0, .int 0, .ref mm_history, .ref mm_names, .ref mm_worked, .int 0, .int 0, .int (-1), .ref mm_readThing, .ref mm_readHour, .ref mm_readLow, .ref mm_readHigh, .int 0, .int 0, .int 0, .ref mm_imageOff, .ref mm_imageLast, .ref mm_imagePassed, .ref mm_imageKept, .ref mm_imageMany, .ref mm_imageHistory])), (mm_number, .inl (k_mm_number, 10, .inl (fun _ => 0)))]) (hS : va_S A s.heap H locs) (hl : lv_has ls 7 [(4, .int 0), (3, .ref oo), (2, .ref mm), (1, .ref xx), (0, .ref b)]) : W p l e room_1 s m #[Value.ref b] below meth c H locs 160 67979 (lw_Z below #[Value.ref b] s) (F0 m 1083 ls []) := by
  obtain ⟨hx, hb, hr, hml, hown, hts, hX, hbl, hlocks, hgv⟩ := C0
  have hT : ∀ w ∈ pw_T, w.before #[Value.ref b] s = true := fun w h => hts w (List.mem_filter.mp h).1
  have hown : s.vm.findClass RL = some m.cls := hown
  refine lv_aload_n hx hb dL_law_1083 rfl (lv_at hl 3 rfl) ?_
  refine lv_aload_n hx hb dL_law_1084 rfl (lv_at hl 4 rfl) ?_
  refine lv_iload hx hb dL_law_1085 (lv_at hl 0 rfl) ?_
  refine lv_iconst (v := 1) hx hb dL_law_1087 (by decide) ?_
  refine lv_iadd hx hb dL_law_1088 ?_
  refine lv_topi (fun z_1 ez_1 => ?_)
  obtain rfl : z_1 = 1 := ez_1.trans (by decide)
  refine va_sld hx hb hX hbl hbA hS (pk_in 1 7 (by decide) (by decide) (by decide)) dL_law_1089 ?_
  refine lv_topi (fun z_2 ez_2 => ?_)
  replace ez_2 : z_2 = xs 1 := ez_2
  subst z_2
  refine lv_aload_n hx hb dL_law_1090 rfl (lv_at hl 4 rfl) ?_
  refine lv_iload hx hb dL_law_1091 (lv_at hl 0 rfl) ?_
  refine lv_iconst (v := 2) hx hb dL_law_1093 (by decide) ?_
  refine lv_iadd hx hb dL_law_1094 ?_
  refine lv_topi (fun z_3 ez_3 => ?_)
  obtain rfl : z_3 = 2 := ez_3.trans (by decide)
  refine va_sld hx hb hX hbl hbA hS (pk_in 2 7 (by decide) (by decide) (by decide)) dL_law_1095 ?_
  refine lv_topi (fun z_4 ez_4 => ?_)
  replace ez_4 : z_4 = xs 2 := ez_4
  subst z_4
  have hPc := hP.sub (ws' := [(xx, .inr (10, [.ref rr, .ref ta, .ref tb, .ref pa, .ref pb, .ref cn, .ref ci, .int 0, .ref cp, .ref ct, .ref hs, .ref rd, .ref wy, .ref ea, .ref eb])), (ta, .inr (8, [.int 0, .int 0, .int 0, .int 0, .int 0, .ref ta_name, .ref ta_first, .ref ta_gain, .ref ta_rough, .ref ta_custom, .ref ta_part, .ref ta_whole, .ref ta_roundPerson, .ref ta_roundClock, .ref ta_roundHour, .ref ta_gunClock, .ref ta_gunHour, .ref tau]))]) [0, 1] rfl
  have hDc := hD.sub (ws' := [(xx, .inr (10, [.ref rr, .ref ta, .ref tb, .ref pa, .ref pb, .ref cn, .ref ci, .int 0, .ref cp, .ref ct, .ref hs, .ref rd, .ref wy, .ref ea, .ref eb])), (ta, .inr (8, [.int 0, .int 0, .int 0, .int 0, .int 0, .ref ta_name, .ref ta_first, .ref ta_gain, .ref ta_rough, .ref ta_custom, .ref ta_part, .ref ta_whole, .ref ta_roundPerson, .ref ta_roundClock, .ref ta_roundHour, .ref ta_gunClock, .ref ta_gunHour, .ref tau]))]) [0, 1] (by decide) rfl
  have hKc := hK.sub (tys' := []) [] rfl
  have hFc := va_free (wc := [(xx, .inr (10, [.ref rr, .ref ta, .ref tb, .ref pa, .ref pb, .ref cn, .ref ci, .int 0, .ref cp, .ref ct, .ref hs, .ref rd, .ref wy, .ref ea, .ref eb])), (ta, .inr (8, [.int 0, .int 0, .int 0, .int 0, .int 0, .ref ta_name, .ref ta_first, .ref ta_gain, .ref ta_rough, .ref ta_custom, .ref ta_part, .ref ta_whole, .ref ta_roundPerson, .ref ta_roundClock, .ref ta_roundHour, .ref ta_gunClock, .ref ta_gunHour, .ref tau]))]) hD hS hA [0, 1] rfl
  refine va_calli (va_runV (As := [.int (xs 1), .int (xs 2)]) (rest := []) ⟨hx, hb, hml, hown, hT⟩ (c_X10_way l dC dI H.size xx (xs 1) (xs 2) rr ta tb pa pb cn ci (0 : Int32) cp ct hs rd wy ea eb (0 : Int32) (0 : Int32) (0 : Int32) ta_name ta_first ta_gain ta_rough ta_custom ta_part ta_whole ta_roundPerson ta_roundClock ta_roundHour ta_gunClock ta_gunHour tau ) (cwV 2 hT (gwV mw_5_56 mw_5_57 mw_5_58 mw_1_1 mw_5_59) rfl rfl rfl (by decide +kernel) ⟨Nat.le_of_ble_eq_true rfl, Nat.le_of_ble_eq_true rfl⟩) ⟨fun a U g mk q => by obtain ⟨q0, q1, qP, qK, qD⟩ := q; exact ⟨q0, q1, qP, va_K.moved (u := U) (U := U.calling g mk a) (Vm.Alike.refl U.vm) qK, qD⟩, va_recv hK hP (ci := 10) (q0 := 0) rfl rfl, fun U hU hW => ⟨rfl, by rw [hU], by rw [hU]; exact hPc, va_K.moved hW.alike hKc, hDc.weaken (fun _ _ _ _ => trivial)⟩⟩ rfl rfl hl.1 rfl (lv_room (Nat.le_of_ble_eq_true rfl)) dL_law_1096 ⟨Nat.le_of_ble_eq_true rfl, Nat.le_of_ble_eq_true rfl⟩) hS (fun q _ h => hFc q h) hFc (fun r_6 u t H1 locs ht hvm hw hB hz1 hk1 hS => ?_)
  obtain ⟨hP1, hD1⟩ := hB
  rw [ht] at hP1
  obtain ⟨hP, hD⟩ := va_join (wr := [(mm, .inr (11, [.int 0, .ref mm_tape, .int 0, .ref mm_number, .ref mm_clockName, .ref mm_clockOff, .ref mm_clockGain, .ref mm_clockRough, .ref mm_personName, .ref mm_personOff, .ref mm_personGain, .ref mm_personRough, .ref mm_custom, .ref mm_customA, .ref mm_customB, .ref mm_ruleFrom, .ref mm_ruleTo, .ref mm_roundOf, .ref mm_roundAt, .ref mm_roundHour, .ref mm_gunAt, .ref mm_gunHour, .ref mm_knotSort, .ref mm_knotValue, .int 0, .int 0, .int 0, .int 0, .int 0, .int 0, .int 0, .int 0, .int 0, .int (-1), .int 0, .int 0, .int 0, .int 0, .int 0, .int 0, .int 0, .int 0, .int 0, .int 0, .int 0, .int 0, .ref mm_start, .ref mm_off, .ref mm_last, .ref mm_passed, .ref mm_kept, .ref mm_keptMany, .int 0, .int 0, .ref mm_history, .ref mm_names, .ref mm_worked, .int 0, .int 0, .int (-1), .ref mm_readThing, .ref mm_readHour, .ref mm_readLow, .ref mm_readHigh, .int 0, .int 0, .int 0, .ref mm_imageOff, .ref mm_imageLast, .ref mm_imagePassed, .ref mm_imageKept, .ref mm_imageMany, .ref mm_imageHistory])), (mm_number, .inl (k_mm_number, 10, .inl (fun _ => 0)))]) (w1 := [(xx, .inr (10, [.ref rr, .ref ta, .ref tb, .ref pa, .ref pb, .ref cn, .ref ci, .int 0, .ref cp, .ref ct, .ref hs, .ref rd, .ref wy, .ref ea, .ref eb])), (ta, .inr (8, [.int 0, .int 0, .int 0, .int 0, .int 0, .ref ta_name, .ref ta_first, .ref ta_gain, .ref ta_rough, .ref ta_custom, .ref ta_part, .ref ta_whole, .ref ta_roundPerson, .ref ta_roundClock, .ref ta_roundHour, .ref ta_gunClock, .ref ta_gunHour, .ref tau]))]) hP hD [0, 1] [2, 3] rfl rfl (by decide) (by decide) hk1 hFc hP1 hD1
  generalize H1 = H at hP hS ⊢
  have hP : va_P (dC, dI) vwCl [(mm, .inr (11, [.int 0, .ref mm_tape, .int 0, .ref mm_number, .ref mm_clockName, .ref mm_clockOff, .ref mm_clockGain, .ref mm_clockRough, .ref mm_personName, .ref mm_personOff, .ref mm_personGain, .ref mm_personRough, .ref mm_custom, .ref mm_customA, .ref mm_customB, .ref mm_ruleFrom, .ref mm_ruleTo, .ref mm_roundOf, .ref mm_roundAt, .ref mm_roundHour, .ref mm_gunAt, .ref mm_gunHour, .ref mm_knotSort, .ref mm_knotValue, .int 0, .int 0, .int 0, .int 0, .int 0, .int 0, .int 0, .int 0, .int 0, .int (-1), .int 0, .int 0, .int 0, .int 0, .int 0, .int 0, .int 0, .int 0, .int 0, .int 0, .int 0, .int 0, .ref mm_start, .ref mm_off, .ref mm_last, .ref mm_passed, .ref mm_kept, .ref mm_keptMany, .int 0, .int 0, .ref mm_history, .ref mm_names, .ref mm_worked, .int 0, .int 0, .int (-1), .ref mm_readThing, .ref mm_readHour, .ref mm_readLow, .ref mm_readHigh, .int 0, .int 0, .int 0, .ref mm_imageOff, .ref mm_imageLast, .ref mm_imagePassed, .ref mm_imageKept, .ref mm_imageMany, .ref mm_imageHistory])), (mm_number, .inl (k_mm_number, 10, .inl (fun _ => 0))), (xx, .inr (10, [.ref rr, .ref ta, .ref tb, .ref pa, .ref pb, .ref cn, .ref ci, .int 0, .ref cp, .ref ct, .ref hs, .ref rd, .ref wy, .ref ea, .ref eb])), (ta, .inr (8, [.int 0, .int 0, .int 0, .int 0, .int 0, .ref ta_name, .ref ta_first, .ref ta_gain, .ref ta_rough, .ref ta_custom, .ref ta_part, .ref ta_whole, .ref ta_roundPerson, .ref ta_roundClock, .ref ta_roundHour, .ref ta_gunClock, .ref ta_gunHour, .ref tau]))] H := hP
  have hD : va_D A [(mm, .inr (11, [.int 0, .ref mm_tape, .int 0, .ref mm_number, .ref mm_clockName, .ref mm_clockOff, .ref mm_clockGain, .ref mm_clockRough, .ref mm_personName, .ref mm_personOff, .ref mm_personGain, .ref mm_personRough, .ref mm_custom, .ref mm_customA, .ref mm_customB, .ref mm_ruleFrom, .ref mm_ruleTo, .ref mm_roundOf, .ref mm_roundAt, .ref mm_roundHour, .ref mm_gunAt, .ref mm_gunHour, .ref mm_knotSort, .ref mm_knotValue, .int 0, .int 0, .int 0, .int 0, .int 0, .int 0, .int 0, .int 0, .int 0, .int (-1), .int 0, .int 0, .int 0, .int 0, .int 0, .int 0, .int 0, .int 0, .int 0, .int 0, .int 0, .int 0, .ref mm_start, .ref mm_off, .ref mm_last, .ref mm_passed, .ref mm_kept, .ref mm_keptMany, .int 0, .int 0, .ref mm_history, .ref mm_names, .ref mm_worked, .int 0, .int 0, .int (-1), .ref mm_readThing, .ref mm_readHour, .ref mm_readLow, .ref mm_readHigh, .int 0, .int 0, .int 0, .ref mm_imageOff, .ref mm_imageLast, .ref mm_imagePassed, .ref mm_imageKept, .ref mm_imageMany, .ref mm_imageHistory])), (mm_number, .inl (k_mm_number, 10, .inl (fun _ => 0))), (xx, .inr (10, [.ref rr, .ref ta, .ref tb, .ref pa, .ref pb, .ref cn, .ref ci, .int 0, .ref cp, .ref ct, .ref hs, .ref rd, .ref wy, .ref ea, .ref eb])), (ta, .inr (8, [.int 0, .int 0, .int 0, .int 0, .int 0, .ref ta_name, .ref ta_first, .ref ta_gain, .ref ta_rough, .ref ta_custom, .ref ta_part, .ref ta_whole, .ref ta_roundPerson, .ref ta_roundClock, .ref ta_roundHour, .ref ta_gunClock, .ref ta_gunHour, .ref tau]))] := hD
  clear hPc hDc hKc hFc hP1 hD1 hk1 hz1 ht hvm
  have hw : r_6 = -2147483648 := hw
  subst r_6
  refine lv_aload_n hx hb dL_law_1099 rfl (lv_at hl 2 rfl) ?_
  refine lv_aload_n hx hb dL_law_1100 rfl (lv_at hl 4 rfl) ?_
  refine lv_iload hx hb dL_law_1101 (lv_at hl 0 rfl) ?_
  refine lv_iconst (v := 1) hx hb dL_law_1103 (by decide) ?_
  refine lv_iadd hx hb dL_law_1104 ?_
  refine lv_topi (fun z_7 ez_7 => ?_)
  obtain rfl : z_7 = 1 := ez_7.trans (by decide)
  refine va_sld hx hb hX hbl hbA hS (pk_in 1 7 (by decide) (by decide) (by decide)) dL_law_1105 ?_
  refine lv_topi (fun z_8 ez_8 => ?_)
  replace ez_8 : z_8 = xs 1 := ez_8
  subst z_8
  refine lv_aload_n hx hb dL_law_1106 rfl (lv_at hl 4 rfl) ?_
  refine lv_iload hx hb dL_law_1107 (lv_at hl 0 rfl) ?_
  refine lv_iconst (v := 2) hx hb dL_law_1109 (by decide) ?_
  refine lv_iadd hx hb dL_law_1110 ?_
  refine lv_topi (fun z_9 ez_9 => ?_)
  obtain rfl : z_9 = 2 := ez_9.trans (by decide)
  refine va_sld hx hb hX hbl hbA hS (pk_in 2 7 (by decide) (by decide) (by decide)) dL_law_1111 ?_
  refine lv_topi (fun z_10 ez_10 => ?_)
  replace ez_10 : z_10 = xs 2 := ez_10
  subst z_10
  have hPc := hP.sub (ws' := [(mm, .inr (11, [.int 0, .ref mm_tape, .int 0, .ref mm_number, .ref mm_clockName, .ref mm_clockOff, .ref mm_clockGain, .ref mm_clockRough, .ref mm_personName, .ref mm_personOff, .ref mm_personGain, .ref mm_personRough, .ref mm_custom, .ref mm_customA, .ref mm_customB, .ref mm_ruleFrom, .ref mm_ruleTo, .ref mm_roundOf, .ref mm_roundAt, .ref mm_roundHour, .ref mm_gunAt, .ref mm_gunHour, .ref mm_knotSort, .ref mm_knotValue, .int 0, .int 0, .int 0, .int 0, .int 0, .int 0, .int 0, .int 0, .int 0, .int (-1), .int 0, .int 0, .int 0, .int 0, .int 0, .int 0, .int 0, .int 0, .int 0, .int 0, .int 0, .int 0, .ref mm_start, .ref mm_off, .ref mm_last, .ref mm_passed, .ref mm_kept, .ref mm_keptMany, .int 0, .int 0, .ref mm_history, .ref mm_names, .ref mm_worked, .int 0, .int 0, .int (-1), .ref mm_readThing, .ref mm_readHour, .ref mm_readLow, .ref mm_readHigh, .int 0, .int 0, .int 0, .ref mm_imageOff, .ref mm_imageLast, .ref mm_imagePassed, .ref mm_imageKept, .ref mm_imageMany, .ref mm_imageHistory])), (mm_number, .inl (k_mm_number, 10, .inl (fun _ => 0)))]) [0, 1] rfl
  have hDc := hD.sub (ws' := [(mm, .inr (11, [.int 0, .ref mm_tape, .int 0, .ref mm_number, .ref mm_clockName, .ref mm_clockOff, .ref mm_clockGain, .ref mm_clockRough, .ref mm_personName, .ref mm_personOff, .ref mm_personGain, .ref mm_personRough, .ref mm_custom, .ref mm_customA, .ref mm_customB, .ref mm_ruleFrom, .ref mm_ruleTo, .ref mm_roundOf, .ref mm_roundAt, .ref mm_roundHour, .ref mm_gunAt, .ref mm_gunHour, .ref mm_knotSort, .ref mm_knotValue, .int 0, .int 0, .int 0, .int 0, .int 0, .int 0, .int 0, .int 0, .int 0, .int (-1), .int 0, .int 0, .int 0, .int 0, .int 0, .int 0, .int 0, .int 0, .int 0, .int 0, .int 0, .int 0, .ref mm_start, .ref mm_off, .ref mm_last, .ref mm_passed, .ref mm_kept, .ref mm_keptMany, .int 0, .int 0, .ref mm_history, .ref mm_names, .ref mm_worked, .int 0, .int 0, .int (-1), .ref mm_readThing, .ref mm_readHour, .ref mm_readLow, .ref mm_readHigh, .int 0, .int 0, .int 0, .ref mm_imageOff, .ref mm_imageLast, .ref mm_imagePassed, .ref mm_imageKept, .ref mm_imageMany, .ref mm_imageHistory])), (mm_number, .inl (k_mm_number, 10, .inl (fun _ => 0)))]) [0, 1] (by decide) rfl
  have hKc := hK.sub (tys' := [(k_mm_number, .int)]) [0] rfl
  have hFc := va_free (wc := [(mm, .inr (11, [.int 0, .ref mm_tape, .int 0, .ref mm_number, .ref mm_clockName, .ref mm_clockOff, .ref mm_clockGain, .ref mm_clockRough, .ref mm_personName, .ref mm_personOff, .ref mm_personGain, .ref mm_personRough, .ref mm_custom, .ref mm_customA, .ref mm_customB, .ref mm_ruleFrom, .ref mm_ruleTo, .ref mm_roundOf, .ref mm_roundAt, .ref mm_roundHour, .ref mm_gunAt, .ref mm_gunHour, .ref mm_knotSort, .ref mm_knotValue, .int 0, .int 0, .int 0, .int 0, .int 0, .int 0, .int 0, .int 0, .int 0, .int (-1), .int 0, .int 0, .int 0, .int 0, .int 0, .int 0, .int 0, .int 0, .int 0, .int 0, .int 0, .int 0, .ref mm_start, .ref mm_off, .ref mm_last, .ref mm_passed, .ref mm_kept, .ref mm_keptMany, .int 0, .int 0, .ref mm_history, .ref mm_names, .ref mm_worked, .int 0, .int 0, .int (-1), .ref mm_readThing, .ref mm_readHour, .ref mm_readLow, .ref mm_readHigh, .int 0, .int 0, .int 0, .ref mm_imageOff, .ref mm_imageLast, .ref mm_imagePassed, .ref mm_imageKept, .ref mm_imageMany, .ref mm_imageHistory])), (mm_number, .inl (k_mm_number, 10, .inl (fun _ => 0)))]) hD hS hA [0, 1] rfl
  have := (by decide : (0 : Int32).toInt = 0)
  have := (by decide : (0 : Int32).toInt = 0)
  have := (by decide : (0 : Int32).toInt = 0)
  have := (by decide : (0 : Int32).toInt = 0)
  have := (by decide : (0 : Int32).toInt = 0)
  have := (by decide : (0 : Int32).toInt = 0)
  have := (by decide : (0 : Int32).toInt = 0)
  have := (by decide : (0 : Int32).toInt = 0)
  have := (by decide : (0 : Int32).toInt = 0)
  have := (by decide : (0 : Int32).toInt = 0)
  have := (by decide : (0 : Int32).toInt = 0)
  have := (by decide : ((-1) : Int32).toInt = -1)
  have := (by decide : (0 : Int32).toInt = 0)
  have := (by decide : (0 : Int32).toInt = 0)
  have := (by decide : (0 : Int32).toInt = 0)
  have := (by decide : (0 : Int32).toInt = 0)
  have := (by decide : (0 : Int32).toInt = 0)
  have := (by decide : (0 : Int32).toInt = 0)
  have := (by decide : (0 : Int32).toInt = 0)
  have := (by decide : (0 : Int32).toInt = 0)
  have := (by decide : (0 : Int32).toInt = 0)
  have := (by decide : (0 : Int32).toInt = 0)
  have := (by decide : (0 : Int32).toInt = 0)
  have := (by decide : (0 : Int32).toInt = 0)
  have := (by decide : (0 : Int32).toInt = 0)
  have := (by decide : (0 : Int32).toInt = 0)
  have := (by decide : (0 : Int32).toInt = 0)
  have := (by decide : (0 : Int32).toInt = 0)
  have := (by decide : ((-1) : Int32).toInt = -1)
  have := (by decide : (0 : Int32).toInt = 0)
  have := (by decide : (0 : Int32).toInt = 0)
  have := (by decide : (0 : Int32).toInt = 0)
  refine va_calli (va_runV (As := [.int (xs 1), .int (xs 2)]) (rest := [.int (-2147483648)]) ⟨hx, hb, hml, hown, hT⟩ (c_X11_way l dC dI H.size mm (xs 1) (xs 2) (0 : Int32) mm_tape (0 : Int32) mm_number mm_clockName mm_clockOff mm_clockGain mm_clockRough mm_personName mm_personOff mm_personGain mm_personRough mm_custom mm_customA mm_customB mm_ruleFrom mm_ruleTo mm_roundOf mm_roundAt mm_roundHour mm_gunAt mm_gunHour mm_knotSort mm_knotValue (0 : Int32) (0 : Int32) (0 : Int32) (0 : Int32) (0 : Int32) (0 : Int32) (0 : Int32) (0 : Int32) (0 : Int32) ((-1) : Int32) (0 : Int32) (0 : Int32) (0 : Int32) (0 : Int32) (0 : Int32) (0 : Int32) (0 : Int32) (0 : Int32) (0 : Int32) (0 : Int32) (0 : Int32) (0 : Int32) mm_start mm_off mm_last mm_passed mm_kept mm_keptMany (0 : Int32) (0 : Int32) mm_history mm_names mm_worked (0 : Int32) (0 : Int32) ((-1) : Int32) mm_readThing mm_readHour mm_readLow mm_readHigh (0 : Int32) (0 : Int32) (0 : Int32) mm_imageOff mm_imageLast mm_imagePassed mm_imageKept mm_imageMany mm_imageHistory k_mm_number (fun _ => 0) (fun _ => rfl)) (cwV 2 hT (gwV mw_8_122 mw_8_123 mw_8_124 mw_1_16 mw_8_125) rfl rfl rfl (by decide +kernel) ⟨Nat.le_of_ble_eq_true rfl, Nat.le_of_ble_eq_true rfl⟩) ⟨fun a U g mk q => by obtain ⟨q0, q1, qP, qK, qD⟩ := q; exact ⟨q0, q1, qP, va_K.moved (u := U) (U := U.calling g mk a) (Vm.Alike.refl U.vm) qK, qD⟩, va_recv hK hP (ci := 11) (q0 := 0) rfl rfl, fun U hU hW => ⟨rfl, by rw [hU], by rw [hU]; exact hPc, va_K.moved hW.alike hKc, hDc.weaken (fun _ _ _ _ => trivial)⟩⟩ rfl rfl hl.1 rfl (lv_room (Nat.le_of_ble_eq_true rfl)) dL_law_1112 ⟨Nat.le_of_ble_eq_true rfl, Nat.le_of_ble_eq_true rfl⟩) hS (fun q _ h => hFc q h) hFc (fun r_12 u t H1 locs ht hvm hw hB hz1 hk1 hS => ?_)
  obtain ⟨hP1, hD1⟩ := hB
  rw [ht] at hP1
  obtain ⟨hP, hD⟩ := va_join (wr := [(xx, .inr (10, [.ref rr, .ref ta, .ref tb, .ref pa, .ref pb, .ref cn, .ref ci, .int 0, .ref cp, .ref ct, .ref hs, .ref rd, .ref wy, .ref ea, .ref eb])), (ta, .inr (8, [.int 0, .int 0, .int 0, .int 0, .int 0, .ref ta_name, .ref ta_first, .ref ta_gain, .ref ta_rough, .ref ta_custom, .ref ta_part, .ref ta_whole, .ref ta_roundPerson, .ref ta_roundClock, .ref ta_roundHour, .ref ta_gunClock, .ref ta_gunHour, .ref tau]))]) (w1 := [(mm, .inr (11, [.int 0, .ref mm_tape, .int 0, .ref mm_number, .ref mm_clockName, .ref mm_clockOff, .ref mm_clockGain, .ref mm_clockRough, .ref mm_personName, .ref mm_personOff, .ref mm_personGain, .ref mm_personRough, .ref mm_custom, .ref mm_customA, .ref mm_customB, .ref mm_ruleFrom, .ref mm_ruleTo, .ref mm_roundOf, .ref mm_roundAt, .ref mm_roundHour, .ref mm_gunAt, .ref mm_gunHour, .ref mm_knotSort, .ref mm_knotValue, .int 0, .int 0, .int 0, .int 0, .int 0, .int 0, .int 0, .int 0, .int 0, .int (-1), .int 0, .int 0, .int 0, .int 0, .int 0, .int 0, .int 0, .int 0, .int 0, .int 0, .int 0, .int 0, .ref mm_start, .ref mm_off, .ref mm_last, .ref mm_passed, .ref mm_kept, .ref mm_keptMany, .int 0, .int 0, .ref mm_history, .ref mm_names, .ref mm_worked, .int 0, .int 0, .int (-1), .ref mm_readThing, .ref mm_readHour, .ref mm_readLow, .ref mm_readHigh, .int 0, .int 0, .int 0, .ref mm_imageOff, .ref mm_imageLast, .ref mm_imagePassed, .ref mm_imageKept, .ref mm_imageMany, .ref mm_imageHistory])), (mm_number, .inl (k_mm_number, 10, .inl (fun _ => 0)))]) hP hD [0, 1] [2, 3] rfl rfl (by decide) (by decide) hk1 hFc hP1 hD1
  generalize H1 = H at hP hS ⊢
  have hP : va_P (dC, dI) vwCl [(xx, .inr (10, [.ref rr, .ref ta, .ref tb, .ref pa, .ref pb, .ref cn, .ref ci, .int 0, .ref cp, .ref ct, .ref hs, .ref rd, .ref wy, .ref ea, .ref eb])), (ta, .inr (8, [.int 0, .int 0, .int 0, .int 0, .int 0, .ref ta_name, .ref ta_first, .ref ta_gain, .ref ta_rough, .ref ta_custom, .ref ta_part, .ref ta_whole, .ref ta_roundPerson, .ref ta_roundClock, .ref ta_roundHour, .ref ta_gunClock, .ref ta_gunHour, .ref tau])), (mm, .inr (11, [.int 0, .ref mm_tape, .int 0, .ref mm_number, .ref mm_clockName, .ref mm_clockOff, .ref mm_clockGain, .ref mm_clockRough, .ref mm_personName, .ref mm_personOff, .ref mm_personGain, .ref mm_personRough, .ref mm_custom, .ref mm_customA, .ref mm_customB, .ref mm_ruleFrom, .ref mm_ruleTo, .ref mm_roundOf, .ref mm_roundAt, .ref mm_roundHour, .ref mm_gunAt, .ref mm_gunHour, .ref mm_knotSort, .ref mm_knotValue, .int 0, .int 0, .int 0, .int 0, .int 0, .int 0, .int 0, .int 0, .int 0, .int (-1), .int 0, .int 0, .int 0, .int 0, .int 0, .int 0, .int 0, .int 0, .int 0, .int 0, .int 0, .int 0, .ref mm_start, .ref mm_off, .ref mm_last, .ref mm_passed, .ref mm_kept, .ref mm_keptMany, .int 0, .int 0, .ref mm_history, .ref mm_names, .ref mm_worked, .int 0, .int 0, .int (-1), .ref mm_readThing, .ref mm_readHour, .ref mm_readLow, .ref mm_readHigh, .int 0, .int 0, .int 0, .ref mm_imageOff, .ref mm_imageLast, .ref mm_imagePassed, .ref mm_imageKept, .ref mm_imageMany, .ref mm_imageHistory])), (mm_number, .inl (k_mm_number, 10, .inl (fun _ => 0)))] H := hP
  have hD : va_D A [(xx, .inr (10, [.ref rr, .ref ta, .ref tb, .ref pa, .ref pb, .ref cn, .ref ci, .int 0, .ref cp, .ref ct, .ref hs, .ref rd, .ref wy, .ref ea, .ref eb])), (ta, .inr (8, [.int 0, .int 0, .int 0, .int 0, .int 0, .ref ta_name, .ref ta_first, .ref ta_gain, .ref ta_rough, .ref ta_custom, .ref ta_part, .ref ta_whole, .ref ta_roundPerson, .ref ta_roundClock, .ref ta_roundHour, .ref ta_gunClock, .ref ta_gunHour, .ref tau])), (mm, .inr (11, [.int 0, .ref mm_tape, .int 0, .ref mm_number, .ref mm_clockName, .ref mm_clockOff, .ref mm_clockGain, .ref mm_clockRough, .ref mm_personName, .ref mm_personOff, .ref mm_personGain, .ref mm_personRough, .ref mm_custom, .ref mm_customA, .ref mm_customB, .ref mm_ruleFrom, .ref mm_ruleTo, .ref mm_roundOf, .ref mm_roundAt, .ref mm_roundHour, .ref mm_gunAt, .ref mm_gunHour, .ref mm_knotSort, .ref mm_knotValue, .int 0, .int 0, .int 0, .int 0, .int 0, .int 0, .int 0, .int 0, .int 0, .int (-1), .int 0, .int 0, .int 0, .int 0, .int 0, .int 0, .int 0, .int 0, .int 0, .int 0, .int 0, .int 0, .ref mm_start, .ref mm_off, .ref mm_last, .ref mm_passed, .ref mm_kept, .ref mm_keptMany, .int 0, .int 0, .ref mm_history, .ref mm_names, .ref mm_worked, .int 0, .int 0, .int (-1), .ref mm_readThing, .ref mm_readHour, .ref mm_readLow, .ref mm_readHigh, .int 0, .int 0, .int 0, .ref mm_imageOff, .ref mm_imageLast, .ref mm_imagePassed, .ref mm_imageKept, .ref mm_imageMany, .ref mm_imageHistory])), (mm_number, .inl (k_mm_number, 10, .inl (fun _ => 0)))] := hD
  clear hPc hDc hKc hFc hP1 hD1 hk1 hz1 ht hvm
  have hw : r_12 = -2147483648 := hw
  subst r_12
  refine lv_icmp_eq (tgt := 1482) hx hb dL_law_1115 (by decide) (fun c_13 => ?_) (fun c_13 => absurd c_13 (by decide))
  refine lv_iinc (v := 7) (lv' := [(4, .int 7), (3, .ref oo), (2, .ref mm), (1, .ref xx), (0, .ref b)]) hx hb dL_law_1482 hl (k := 0) rfl (by decide) (by decide) rfl (fun ls hl => ?_)
  refine lv_goto (tgt := 23) hx hb dL_law_1485 (by decide) ?_
  refine lv_iload hx hb dL_law_23 (lv_at hl 0 rfl) ?_
  refine lv_aload_n hx hb dL_law_25 rfl (lv_at hl 4 rfl) ?_
  refine va_slen hx hb hX hbl hbA hS dL_law_26 ?_
  refine lv_topi (fun z_14 ez_14 => ?_)
  obtain rfl : z_14 = 7 := ez_14.trans (by decide)
  refine lv_bipush (v := 7) hx hb dL_law_27 (by decide) ?_
  refine lv_isub hx hb dL_law_29 ?_
  refine lv_topi (fun z_15 ez_15 => ?_)
  obtain rfl : z_15 = 0 := ez_15.trans (by decide)
  refine lv_icmp_gt (tgt := 1488) hx hb dL_law_30 (by decide) (fun c_16 => ?_) (fun c_16 => absurd c_16 (by decide))
  refine lv_iconst (v := 1) hx hb dL_law_1488 (by decide) ?_
  refine va_forget (fun q hq => hAo _ (hS.2.2 q hq)) ?_
  refine W.widen (k := 600002) (n := 7302232) (Nat.le_of_ble_eq_true rfl) (Nat.le_of_ble_eq_true rfl) ?_
  exact lw_ret hx hb hr hlocks dL_law_1489
set_option maxHeartbeats 4000000 in
set_option maxRecDepth 100000 in
theorem law_op_22 {p : Program} {l : Launch} {e : Env} {s : State} {m : MethodId} {below : List Frame} {meth : Method} {c : Code} {dC : Nat → ClassId} {dI : Nat → Nat → Nat} {b : Nat} {xs : Nat → Int32} {A : Nat → Prop} (C0 : lw_At p s m meth c b 7 xs) (hA : ∀ q, s.heap.size ≤ q → A q) (hbA : ¬ A b) (hAo : ∀ q, A q → s.heap.size ≤ q) {xx : Nat} {rr : Nat} {ta : Nat} {tb : Nat} {pa : Nat} {pb : Nat} {cn : Nat} {ci : Nat} {cp : Nat} {ct : Nat} {hs : Nat} {rd : Nat} {wy : Nat} {ea : Nat} {eb : Nat} {ta_name : Nat} {ta_first : Nat} {ta_gain : Nat} {ta_rough : Nat} {ta_custom : Nat} {ta_part : Nat} {ta_whole : Nat} {ta_roundPerson : Nat} {ta_roundClock : Nat} {ta_roundHour : Nat} {ta_gunClock : Nat} {ta_gunHour : Nat} {tau : Nat} {k_ta_first : ClassId} {k_ta_gain : ClassId} {k_ta_custom : ClassId} {tau_kind : Nat} {tau_number : Nat} {tau_from : Nat} {tau_until : Nat} {tau_names : Nat} {tau_stack : Nat} {k_tau_from : ClassId} {k_tau_until : ClassId} {pb_first : Nat} {pb_gain : Nat} {pb_custom : Nat} {pb_ruled : Nat} {pb_deedHour : Nat} {pb_deedPerson : Nat} {pb_deedClock : Nat} {k_pb_first : ClassId} {k_pb_gain : ClassId} {k_pb_custom : ClassId} {k_pb_ruled : ClassId} {cn_last : Nat} {cn_passed : Nat} {cn_keptCount : Nat} {cn_off : Nat} {cn_since : Nat} {cn_kept : Nat} {cn_sorted : Nat} {ct_last : Nat} {ct_passed : Nat} {ct_keptCount : Nat} {ct_off : Nat} {ct_since : Nat} {ct_kept : Nat} {ct_sorted : Nat} {k_ct_off : ClassId} {k_ct_since : ClassId} {k_ct_last : ClassId} {k_ct_passed : ClassId} {k_ct_keptCount : ClassId} {mm : Nat} {mm_tape : Nat} {mm_number : Nat} {mm_clockName : Nat} {mm_clockOff : Nat} {mm_clockGain : Nat} {mm_clockRough : Nat} {mm_personName : Nat} {mm_personOff : Nat} {mm_personGain : Nat} {mm_personRough : Nat} {mm_custom : Nat} {mm_customA : Nat} {mm_customB : Nat} {mm_ruleFrom : Nat} {mm_ruleTo : Nat} {mm_roundOf : Nat} {mm_roundAt : Nat} {mm_roundHour : Nat} {mm_gunAt : Nat} {mm_gunHour : Nat} {mm_knotSort : Nat} {mm_knotValue : Nat} {mm_start : Nat} {mm_off : Nat} {mm_last : Nat} {mm_passed : Nat} {mm_kept : Nat} {mm_keptMany : Nat} {mm_history : Nat} {mm_names : Nat} {mm_worked : Nat} {mm_readThing : Nat} {mm_readHour : Nat} {mm_readLow : Nat} {mm_readHigh : Nat} {mm_imageOff : Nat} {mm_imageLast : Nat} {mm_imagePassed : Nat} {mm_imageKept : Nat} {mm_imageMany : Nat} {mm_imageHistory : Nat} {k_mm_number : ClassId} {k_mm_off : ClassId} {k_mm_last : ClassId} {k_mm_passed : ClassId} {k_mm_keptMany : ClassId} {oo : Nat} {H : Heap} {locs : List Loc} {ls : Array Slot} (hK : va_K (dC, dI) vwCl [(k_ta_first, .int), (k_ta_gain, .int), (k_ta_custom, .int), (k_tau_from, .int), (k_tau_until, .int), (k_pb_first, .int), (k_pb_gain, .int), (k_pb_custom, .int), (k_pb_ruled, .boolean), (k_ct_off, .int), (k_ct_since, .int), (k_ct_last, .int), (k_ct_passed, .int), (k_ct_keptCount, .int), (k_mm_number, .int), (k_mm_off, .int), (k_mm_last, .int), (k_mm_passed, .int), (k_mm_keptMany, .int)] s) (hP : va_P (dC, dI) vwCl [(xx, .inr (10, [.ref rr, .ref ta, .ref tb, .ref pa, .ref pb, .ref cn, .ref ci, .int 0, .ref cp, .ref ct, .ref hs, .ref rd, .ref wy, .ref ea, .ref eb])), (ta, .inr (8, [.int 0, .int 0, .int 0, .int 0, .int 0, .ref ta_name, .ref ta_first, .ref ta_gain, .ref ta_rough, .ref ta_custom, .ref ta_part, .ref ta_whole, .ref ta_roundPerson, .ref ta_roundClock, .ref ta_roundHour, .ref ta_gunClock, .ref ta_gunHour, .ref tau])), (ta_first, .inl (k_ta_first, 10, .inl (fun _ => 0))), (ta_gain, .inl (k_ta_gain, 10, .inl (fun _ => 0))), (ta_custom, .inl (k_ta_custom, 5, .inl (fun _ => 0))), (tau, .inr (6, [.int 0, .ref tau_kind, .ref tau_number, .ref tau_from, .ref tau_until, .ref tau_names, .ref tau_stack])), (tau_from, .inl (k_tau_from, 5, .inl (fun _ => 0))), (tau_until, .inl (k_tau_until, 5, .inl (fun _ => 0))), (pb, .inr (3, [.ref ta, .ref pb_first, .ref pb_gain, .ref pb_custom, .ref pb_ruled, .int 0, .ref pb_deedHour, .ref pb_deedPerson, .ref pb_deedClock])), (pb_first, .inl (k_pb_first, 10, .inl (fun _ => 0))), (pb_gain, .inl (k_pb_gain, 10, .inl (fun _ => 0))), (pb_custom, .inl (k_pb_custom, 5, .inl (fun _ => 0))), (pb_ruled, .inl (k_pb_ruled, 5, .inl (fun _ => 0))), (cn, .inr (0, [.ref pa, .int 0, .int 0, .ref cn_last, .ref cn_passed, .ref cn_keptCount, .int 0, .int 0, .int 0, .int 0, .ref cn_off, .ref cn_since, .ref cn_kept, .ref cn_sorted])), (ct, .inr (0, [.ref pa, .int 0, .int 0, .ref ct_last, .ref ct_passed, .ref ct_keptCount, .int 0, .int 0, .int 0, .int 0, .ref ct_off, .ref ct_since, .ref ct_kept, .ref ct_sorted])), (ct_off, .inl (k_ct_off, 10, .inl (fun _ => 0))), (ct_since, .inl (k_ct_since, 10, .inl (fun _ => 0))), (ct_last, .inl (k_ct_last, 5, .inl (fun _ => 0))), (ct_passed, .inl (k_ct_passed, 5, .inl (fun _ => 0))), (ct_keptCount, .inl (k_ct_keptCount, 5, .inl (fun _ => 0))), (mm, .inr (11, [.int 0, .ref mm_tape, .int 0, .ref mm_number, .ref mm_clockName, .ref mm_clockOff, .ref mm_clockGain, .ref mm_clockRough, .ref mm_personName, .ref mm_personOff, .ref mm_personGain, .ref mm_personRough, .ref mm_custom, .ref mm_customA, .ref mm_customB, .ref mm_ruleFrom, .ref mm_ruleTo, .ref mm_roundOf, .ref mm_roundAt, .ref mm_roundHour, .ref mm_gunAt, .ref mm_gunHour, .ref mm_knotSort, .ref mm_knotValue, .int 0, .int 0, .int 0, .int 0, .int 0, .int 0, .int 0, .int 0, .int 0, .int (-1), .int 0, .int 0, .int 0, .int 0, .int 0, .int 0, .int 0, .int 0, .int 0, .int 0, .int 0, .int 0, .ref mm_start, .ref mm_off, .ref mm_last, .ref mm_passed, .ref mm_kept, .ref mm_keptMany, .int 0, .int 0, .ref mm_history, .ref mm_names, .ref mm_worked, .int 0, .int 0, .int (-1), .ref mm_readThing, .ref mm_readHour, .ref mm_readLow, .ref mm_readHigh, .int 0, .int 0, .int 0, .ref mm_imageOff, .ref mm_imageLast, .ref mm_imagePassed, .ref mm_imageKept, .ref mm_imageMany, .ref mm_imageHistory])), (mm_number, .inl (k_mm_number, 10, .inl (fun _ => 0))), (mm_off, .inl (k_mm_off, 20, .inl (fun _ => 0))), (mm_last, .inl (k_mm_last, 10, .inl (fun _ => 0))), (mm_passed, .inl (k_mm_passed, 10, .inl (fun _ => 0))), (mm_keptMany, .inl (k_mm_keptMany, 10, .inl (fun _ => 0)))] H) (hD : va_D A [(xx, .inr (10, [.ref rr, .ref ta, .ref tb, .ref pa, .ref pb, .ref cn, .ref ci, .int 0, .ref cp, .ref ct, .ref hs, .ref rd, .ref wy, .ref ea, .ref eb])), (ta, .inr (8, [.int 0, .int 0, .int 0, .int 0, .int 0, .ref ta_name, .ref ta_first, .ref ta_gain, .ref ta_rough, .ref ta_custom, .ref ta_part, .ref ta_whole, .ref ta_roundPerson, .ref ta_roundClock, .ref ta_roundHour, .ref ta_gunClock, .ref ta_gunHour, .ref tau])), (ta_first, .inl (k_ta_first, 10, .inl (fun _ => 0))), (ta_gain, .inl (k_ta_gain, 10, .inl (fun _ => 0))), (ta_custom, .inl (k_ta_custom, 5, .inl (fun _ => 0))), (tau, .inr (6, [.int 0, .ref tau_kind, .ref tau_number, .ref tau_from, .ref tau_until, .ref tau_names, .ref tau_stack])), (tau_from, .inl (k_tau_from, 5, .inl (fun _ => 0))), (tau_until, .inl (k_tau_until, 5, .inl (fun _ => 0))), (pb, .inr (3, [.ref ta, .ref pb_first, .ref pb_gain, .ref pb_custom, .ref pb_ruled, .int 0, .ref pb_deedHour, .ref pb_deedPerson, .ref pb_deedClock])), (pb_first, .inl (k_pb_first, 10, .inl (fun _ => 0))), (pb_gain, .inl (k_pb_gain, 10, .inl (fun _ => 0))), (pb_custom, .inl (k_pb_custom, 5, .inl (fun _ => 0))), (pb_ruled, .inl (k_pb_ruled, 5, .inl (fun _ => 0))), (cn, .inr (0, [.ref pa, .int 0, .int 0, .ref cn_last, .ref cn_passed, .ref cn_keptCount, .int 0, .int 0, .int 0, .int 0, .ref cn_off, .ref cn_since, .ref cn_kept, .ref cn_sorted])), (ct, .inr (0, [.ref pa, .int 0, .int 0, .ref ct_last, .ref ct_passed, .ref ct_keptCount, .int 0, .int 0, .int 0, .int 0, .ref ct_off, .ref ct_since, .ref ct_kept, .ref ct_sorted])), (ct_off, .inl (k_ct_off, 10, .inl (fun _ => 0))), (ct_since, .inl (k_ct_since, 10, .inl (fun _ => 0))), (ct_last, .inl (k_ct_last, 5, .inl (fun _ => 0))), (ct_passed, .inl (k_ct_passed, 5, .inl (fun _ => 0))), (ct_keptCount, .inl (k_ct_keptCount, 5, .inl (fun _ => 0))), (mm, .inr (11, [.int 0, .ref mm_tape, .int 0, .ref mm_number, .ref mm_clockName, .ref mm_clockOff, .ref mm_clockGain, .ref mm_clockRough, .ref mm_personName, .ref mm_personOff, .ref mm_personGain, .ref mm_personRough, .ref mm_custom, .ref mm_customA, .ref mm_customB, .ref mm_ruleFrom, .ref mm_ruleTo, .ref mm_roundOf, .ref mm_roundAt, .ref mm_roundHour, .ref mm_gunAt, .ref mm_gunHour, .ref mm_knotSort, .ref mm_knotValue, .int 0, .int 0, .int 0, .int 0, .int 0, .int 0, .int 0, .int 0, .int 0, .int (-1), .int 0, .int 0, .int 0, .int 0, .int 0, .int 0, .int 0, .int 0, .int 0, .int 0, .int 0, .int 0, .ref mm_start, .ref mm_off, .ref mm_last, .ref mm_passed, .ref mm_kept, .ref mm_keptMany, .int 0, .int 0, .ref mm_history, .ref mm_names, .ref mm_worked, .int 0, .int 0, .int (-1), .ref mm_readThing, .ref mm_readHour, .ref mm_readLow, .ref mm_readHigh, .int 0, .int 0, .int 0, .ref mm_imageOff, .ref mm_imageLast, .ref mm_imagePassed, .ref mm_imageKept, .ref mm_imageMany, .ref mm_imageHistory])), (mm_number, .inl (k_mm_number, 10, .inl (fun _ => 0))), (mm_off, .inl (k_mm_off, 20, .inl (fun _ => 0))), (mm_last, .inl (k_mm_last, 10, .inl (fun _ => 0))), (mm_passed, .inl (k_mm_passed, 10, .inl (fun _ => 0))), (mm_keptMany, .inl (k_mm_keptMany, 10, .inl (fun _ => 0)))]) (hS : va_S A s.heap H locs) (hl : lv_has ls 7 [(4, .int 0), (3, .ref oo), (2, .ref mm), (1, .ref xx), (0, .ref b)]) : W p l e room_1 s m #[Value.ref b] below meth c H locs 160 67979 (lw_Z below #[Value.ref b] s) (F0 m 1120 ls []) := by
  obtain ⟨hx, hb, hr, hml, hown, hts, hX, hbl, hlocks, hgv⟩ := C0
  have hT : ∀ w ∈ pw_T, w.before #[Value.ref b] s = true := fun w h => hts w (List.mem_filter.mp h).1
  have hown : s.vm.findClass RL = some m.cls := hown
  refine lv_aload_n hx hb dL_law_1120 rfl (lv_at hl 3 rfl) ?_
  refine lv_aload_n hx hb dL_law_1121 rfl (lv_at hl 4 rfl) ?_
  refine lv_iload hx hb dL_law_1122 (lv_at hl 0 rfl) ?_
  refine lv_iconst (v := 1) hx hb dL_law_1124 (by decide) ?_
  refine lv_iadd hx hb dL_law_1125 ?_
  refine lv_topi (fun z_1 ez_1 => ?_)
  obtain rfl : z_1 = 1 := ez_1.trans (by decide)
  refine va_sld hx hb hX hbl hbA hS (pk_in 1 7 (by decide) (by decide) (by decide)) dL_law_1126 ?_
  refine lv_topi (fun z_2 ez_2 => ?_)
  replace ez_2 : z_2 = xs 1 := ez_2
  subst z_2
  refine lv_aload_n hx hb dL_law_1127 rfl (lv_at hl 4 rfl) ?_
  refine lv_iload hx hb dL_law_1128 (lv_at hl 0 rfl) ?_
  refine lv_iconst (v := 2) hx hb dL_law_1130 (by decide) ?_
  refine lv_iadd hx hb dL_law_1131 ?_
  refine lv_topi (fun z_3 ez_3 => ?_)
  obtain rfl : z_3 = 2 := ez_3.trans (by decide)
  refine va_sld hx hb hX hbl hbA hS (pk_in 2 7 (by decide) (by decide) (by decide)) dL_law_1132 ?_
  refine lv_topi (fun z_4 ez_4 => ?_)
  replace ez_4 : z_4 = xs 2 := ez_4
  subst z_4
  have hPc := hP.sub (ws' := [(xx, .inr (10, [.ref rr, .ref ta, .ref tb, .ref pa, .ref pb, .ref cn, .ref ci, .int 0, .ref cp, .ref ct, .ref hs, .ref rd, .ref wy, .ref ea, .ref eb])), (pb, .inr (3, [.ref ta, .ref pb_first, .ref pb_gain, .ref pb_custom, .ref pb_ruled, .int 0, .ref pb_deedHour, .ref pb_deedPerson, .ref pb_deedClock])), (pb_first, .inl (k_pb_first, 10, .inl (fun _ => 0))), (pb_gain, .inl (k_pb_gain, 10, .inl (fun _ => 0))), (pb_custom, .inl (k_pb_custom, 5, .inl (fun _ => 0))), (pb_ruled, .inl (k_pb_ruled, 5, .inl (fun _ => 0))), (ta, .inr (8, [.int 0, .int 0, .int 0, .int 0, .int 0, .ref ta_name, .ref ta_first, .ref ta_gain, .ref ta_rough, .ref ta_custom, .ref ta_part, .ref ta_whole, .ref ta_roundPerson, .ref ta_roundClock, .ref ta_roundHour, .ref ta_gunClock, .ref ta_gunHour, .ref tau])), (ta_first, .inl (k_ta_first, 10, .inl (fun _ => 0))), (ta_gain, .inl (k_ta_gain, 10, .inl (fun _ => 0))), (ta_custom, .inl (k_ta_custom, 5, .inl (fun _ => 0))), (tau, .inr (6, [.int 0, .ref tau_kind, .ref tau_number, .ref tau_from, .ref tau_until, .ref tau_names, .ref tau_stack])), (tau_from, .inl (k_tau_from, 5, .inl (fun _ => 0))), (tau_until, .inl (k_tau_until, 5, .inl (fun _ => 0))), (ct, .inr (0, [.ref pa, .int 0, .int 0, .ref ct_last, .ref ct_passed, .ref ct_keptCount, .int 0, .int 0, .int 0, .int 0, .ref ct_off, .ref ct_since, .ref ct_kept, .ref ct_sorted])), (ct_off, .inl (k_ct_off, 10, .inl (fun _ => 0))), (ct_since, .inl (k_ct_since, 10, .inl (fun _ => 0))), (ct_last, .inl (k_ct_last, 5, .inl (fun _ => 0))), (ct_passed, .inl (k_ct_passed, 5, .inl (fun _ => 0))), (ct_keptCount, .inl (k_ct_keptCount, 5, .inl (fun _ => 0))), (cn, .inr (0, [.ref pa, .int 0, .int 0, .ref cn_last, .ref cn_passed, .ref cn_keptCount, .int 0, .int 0, .int 0, .int 0, .ref cn_off, .ref cn_since, .ref cn_kept, .ref cn_sorted]))]) [0, 8, 9, 10, 11, 12, 1, 2, 3, 4, 5, 6, 7, 14, 15, 16, 17, 18, 19, 13] rfl
  have hDc := hD.sub (ws' := [(xx, .inr (10, [.ref rr, .ref ta, .ref tb, .ref pa, .ref pb, .ref cn, .ref ci, .int 0, .ref cp, .ref ct, .ref hs, .ref rd, .ref wy, .ref ea, .ref eb])), (pb, .inr (3, [.ref ta, .ref pb_first, .ref pb_gain, .ref pb_custom, .ref pb_ruled, .int 0, .ref pb_deedHour, .ref pb_deedPerson, .ref pb_deedClock])), (pb_first, .inl (k_pb_first, 10, .inl (fun _ => 0))), (pb_gain, .inl (k_pb_gain, 10, .inl (fun _ => 0))), (pb_custom, .inl (k_pb_custom, 5, .inl (fun _ => 0))), (pb_ruled, .inl (k_pb_ruled, 5, .inl (fun _ => 0))), (ta, .inr (8, [.int 0, .int 0, .int 0, .int 0, .int 0, .ref ta_name, .ref ta_first, .ref ta_gain, .ref ta_rough, .ref ta_custom, .ref ta_part, .ref ta_whole, .ref ta_roundPerson, .ref ta_roundClock, .ref ta_roundHour, .ref ta_gunClock, .ref ta_gunHour, .ref tau])), (ta_first, .inl (k_ta_first, 10, .inl (fun _ => 0))), (ta_gain, .inl (k_ta_gain, 10, .inl (fun _ => 0))), (ta_custom, .inl (k_ta_custom, 5, .inl (fun _ => 0))), (tau, .inr (6, [.int 0, .ref tau_kind, .ref tau_number, .ref tau_from, .ref tau_until, .ref tau_names, .ref tau_stack])), (tau_from, .inl (k_tau_from, 5, .inl (fun _ => 0))), (tau_until, .inl (k_tau_until, 5, .inl (fun _ => 0))), (ct, .inr (0, [.ref pa, .int 0, .int 0, .ref ct_last, .ref ct_passed, .ref ct_keptCount, .int 0, .int 0, .int 0, .int 0, .ref ct_off, .ref ct_since, .ref ct_kept, .ref ct_sorted])), (ct_off, .inl (k_ct_off, 10, .inl (fun _ => 0))), (ct_since, .inl (k_ct_since, 10, .inl (fun _ => 0))), (ct_last, .inl (k_ct_last, 5, .inl (fun _ => 0))), (ct_passed, .inl (k_ct_passed, 5, .inl (fun _ => 0))), (ct_keptCount, .inl (k_ct_keptCount, 5, .inl (fun _ => 0))), (cn, .inr (0, [.ref pa, .int 0, .int 0, .ref cn_last, .ref cn_passed, .ref cn_keptCount, .int 0, .int 0, .int 0, .int 0, .ref cn_off, .ref cn_since, .ref cn_kept, .ref cn_sorted]))]) [0, 8, 9, 10, 11, 12, 1, 2, 3, 4, 5, 6, 7, 14, 15, 16, 17, 18, 19, 13] (by decide) rfl
  have hKc := hK.sub (tys' := [(k_pb_first, .int), (k_pb_gain, .int), (k_pb_custom, .int), (k_pb_ruled, .boolean), (k_ta_first, .int), (k_ta_gain, .int), (k_ta_custom, .int), (k_tau_from, .int), (k_tau_until, .int), (k_ct_off, .int), (k_ct_since, .int), (k_ct_last, .int), (k_ct_passed, .int), (k_ct_keptCount, .int)]) [5, 6, 7, 8, 0, 1, 2, 3, 4, 9, 10, 11, 12, 13] rfl
  have hFc := va_free (wc := [(xx, .inr (10, [.ref rr, .ref ta, .ref tb, .ref pa, .ref pb, .ref cn, .ref ci, .int 0, .ref cp, .ref ct, .ref hs, .ref rd, .ref wy, .ref ea, .ref eb])), (pb, .inr (3, [.ref ta, .ref pb_first, .ref pb_gain, .ref pb_custom, .ref pb_ruled, .int 0, .ref pb_deedHour, .ref pb_deedPerson, .ref pb_deedClock])), (pb_first, .inl (k_pb_first, 10, .inl (fun _ => 0))), (pb_gain, .inl (k_pb_gain, 10, .inl (fun _ => 0))), (pb_custom, .inl (k_pb_custom, 5, .inl (fun _ => 0))), (pb_ruled, .inl (k_pb_ruled, 5, .inl (fun _ => 0))), (ta, .inr (8, [.int 0, .int 0, .int 0, .int 0, .int 0, .ref ta_name, .ref ta_first, .ref ta_gain, .ref ta_rough, .ref ta_custom, .ref ta_part, .ref ta_whole, .ref ta_roundPerson, .ref ta_roundClock, .ref ta_roundHour, .ref ta_gunClock, .ref ta_gunHour, .ref tau])), (ta_first, .inl (k_ta_first, 10, .inl (fun _ => 0))), (ta_gain, .inl (k_ta_gain, 10, .inl (fun _ => 0))), (ta_custom, .inl (k_ta_custom, 5, .inl (fun _ => 0))), (tau, .inr (6, [.int 0, .ref tau_kind, .ref tau_number, .ref tau_from, .ref tau_until, .ref tau_names, .ref tau_stack])), (tau_from, .inl (k_tau_from, 5, .inl (fun _ => 0))), (tau_until, .inl (k_tau_until, 5, .inl (fun _ => 0))), (ct, .inr (0, [.ref pa, .int 0, .int 0, .ref ct_last, .ref ct_passed, .ref ct_keptCount, .int 0, .int 0, .int 0, .int 0, .ref ct_off, .ref ct_since, .ref ct_kept, .ref ct_sorted])), (ct_off, .inl (k_ct_off, 10, .inl (fun _ => 0))), (ct_since, .inl (k_ct_since, 10, .inl (fun _ => 0))), (ct_last, .inl (k_ct_last, 5, .inl (fun _ => 0))), (ct_passed, .inl (k_ct_passed, 5, .inl (fun _ => 0))), (ct_keptCount, .inl (k_ct_keptCount, 5, .inl (fun _ => 0))), (cn, .inr (0, [.ref pa, .int 0, .int 0, .ref cn_last, .ref cn_passed, .ref cn_keptCount, .int 0, .int 0, .int 0, .int 0, .ref cn_off, .ref cn_since, .ref cn_kept, .ref cn_sorted]))]) hD hS hA [0, 8, 9, 10, 11, 12, 1, 2, 3, 4, 5, 6, 7, 14, 15, 16, 17, 18, 19, 13] rfl
  have := (by decide : (0 : Int32).toInt = 0)
  have := (by decide : (0 : Int32).toInt = 0)
  have := (by decide : (0 : Int32).toInt = 0)
  have := (by decide : (0 : Int32).toInt = 0)
  have := (by decide : (0 : Int32).toInt = 0)
  have := (by decide : (0 : Int32).toInt = 0)
  have := (by decide : (0 : Int32).toInt = 0)
  have := (by decide : (0 : Int32).toInt = 0)
  have := (by decide : (0 : Int32).toInt = 0)
  have := (by decide : (0 : Int32).toInt = 0)
  have := (by decide : (0 : Int32).toInt = 0)
  have := (by decide : (0 : Int32).toInt = 0)
  have := (by decide : (0 : Int32).toInt = 0)
  have := (by decide : (0 : Int32).toInt = 0)
  have := (by decide : (0 : Int32).toInt = 0)
  refine va_calli (va_runV (As := [.int (xs 1), .int (xs 2)]) (rest := []) ⟨hx, hb, hml, hown, hT⟩ (c_X10_tried l dC dI H.size xx (xs 1) (xs 2) rr ta tb pa pb cn ci (0 : Int32) cp ct hs rd wy ea eb ta pb_first pb_gain pb_custom pb_ruled (0 : Int32) pb_deedHour pb_deedPerson pb_deedClock k_pb_first (fun _ => 0) k_pb_gain (fun _ => 0) k_pb_custom (fun _ => 0) k_pb_ruled (fun _ => 0) (0 : Int32) ta_name ta_first ta_gain ta_rough ta_custom ta_part ta_whole ta_roundPerson ta_roundClock ta_roundHour ta_gunClock ta_gunHour tau k_ta_first (fun _ => 0) k_ta_gain (fun _ => 0) k_ta_custom (fun _ => 0) (0 : Int32) tau_kind tau_number tau_from tau_until tau_names tau_stack k_tau_from (fun _ => 0) k_tau_until (fun _ => 0) pa (0 : Int32) (0 : Int32) ct_last ct_passed ct_keptCount (0 : Int32) (0 : Int32) (0 : Int32) (0 : Int32) ct_off ct_since ct_kept ct_sorted k_ct_off (fun _ => 0) k_ct_since (fun _ => 0) k_ct_last (fun _ => 0) k_ct_passed (fun _ => 0) k_ct_keptCount (fun _ => 0) pa (0 : Int32) cn_last cn_passed cn_keptCount (0 : Int32) (0 : Int32) (0 : Int32) (0 : Int32) cn_off cn_since cn_kept cn_sorted ) (cwV 2 hT (gwV mw_5_60 mw_5_61 mw_5_62 mw_1_1 mw_5_63) rfl rfl rfl (by decide +kernel) ⟨Nat.le_of_ble_eq_true rfl, Nat.le_of_ble_eq_true rfl⟩) ⟨fun a U g mk q => by obtain ⟨q0, q1, qP, qK, qD⟩ := q; exact ⟨q0, q1, qP, va_K.moved (u := U) (U := U.calling g mk a) (Vm.Alike.refl U.vm) qK, qD⟩, va_recv hK hP (ci := 10) (q0 := 0) rfl rfl, fun U hU hW => ⟨rfl, by rw [hU], by rw [hU]; exact hPc, va_K.moved hW.alike hKc, hDc.weaken (fun _ _ _ _ => trivial)⟩⟩ rfl rfl hl.1 rfl (lv_room (Nat.le_of_ble_eq_true rfl)) dL_law_1133 ⟨Nat.le_of_ble_eq_true rfl, Nat.le_of_ble_eq_true rfl⟩) hS (fun q _ h => hFc q h) hFc (fun r_6 u t H1 locs ht hvm hw hB hz1 hk1 hS => ?_)
  obtain ⟨hP1, hD1⟩ := hB
  rw [ht] at hP1
  obtain ⟨hP, hD⟩ := va_join (wr := [(mm, .inr (11, [.int 0, .ref mm_tape, .int 0, .ref mm_number, .ref mm_clockName, .ref mm_clockOff, .ref mm_clockGain, .ref mm_clockRough, .ref mm_personName, .ref mm_personOff, .ref mm_personGain, .ref mm_personRough, .ref mm_custom, .ref mm_customA, .ref mm_customB, .ref mm_ruleFrom, .ref mm_ruleTo, .ref mm_roundOf, .ref mm_roundAt, .ref mm_roundHour, .ref mm_gunAt, .ref mm_gunHour, .ref mm_knotSort, .ref mm_knotValue, .int 0, .int 0, .int 0, .int 0, .int 0, .int 0, .int 0, .int 0, .int 0, .int (-1), .int 0, .int 0, .int 0, .int 0, .int 0, .int 0, .int 0, .int 0, .int 0, .int 0, .int 0, .int 0, .ref mm_start, .ref mm_off, .ref mm_last, .ref mm_passed, .ref mm_kept, .ref mm_keptMany, .int 0, .int 0, .ref mm_history, .ref mm_names, .ref mm_worked, .int 0, .int 0, .int (-1), .ref mm_readThing, .ref mm_readHour, .ref mm_readLow, .ref mm_readHigh, .int 0, .int 0, .int 0, .ref mm_imageOff, .ref mm_imageLast, .ref mm_imagePassed, .ref mm_imageKept, .ref mm_imageMany, .ref mm_imageHistory])), (mm_number, .inl (k_mm_number, 10, .inl (fun _ => 0))), (mm_off, .inl (k_mm_off, 20, .inl (fun _ => 0))), (mm_last, .inl (k_mm_last, 10, .inl (fun _ => 0))), (mm_passed, .inl (k_mm_passed, 10, .inl (fun _ => 0))), (mm_keptMany, .inl (k_mm_keptMany, 10, .inl (fun _ => 0)))]) (w1 := [(xx, .inr (10, [.ref rr, .ref ta, .ref tb, .ref pa, .ref pb, .ref cn, .ref ci, .int 0, .ref cp, .ref ct, .ref hs, .ref rd, .ref wy, .ref ea, .ref eb]))]) hP hD [0, 8, 9, 10, 11, 12, 1, 2, 3, 4, 5, 6, 7, 14, 15, 16, 17, 18, 19, 13] [20, 21, 22, 23, 24, 25] rfl rfl (by decide) (by decide) hk1 hFc hP1 hD1
  generalize H1 = H at hP hS ⊢
  have hP : va_P (dC, dI) vwCl [(mm, .inr (11, [.int 0, .ref mm_tape, .int 0, .ref mm_number, .ref mm_clockName, .ref mm_clockOff, .ref mm_clockGain, .ref mm_clockRough, .ref mm_personName, .ref mm_personOff, .ref mm_personGain, .ref mm_personRough, .ref mm_custom, .ref mm_customA, .ref mm_customB, .ref mm_ruleFrom, .ref mm_ruleTo, .ref mm_roundOf, .ref mm_roundAt, .ref mm_roundHour, .ref mm_gunAt, .ref mm_gunHour, .ref mm_knotSort, .ref mm_knotValue, .int 0, .int 0, .int 0, .int 0, .int 0, .int 0, .int 0, .int 0, .int 0, .int (-1), .int 0, .int 0, .int 0, .int 0, .int 0, .int 0, .int 0, .int 0, .int 0, .int 0, .int 0, .int 0, .ref mm_start, .ref mm_off, .ref mm_last, .ref mm_passed, .ref mm_kept, .ref mm_keptMany, .int 0, .int 0, .ref mm_history, .ref mm_names, .ref mm_worked, .int 0, .int 0, .int (-1), .ref mm_readThing, .ref mm_readHour, .ref mm_readLow, .ref mm_readHigh, .int 0, .int 0, .int 0, .ref mm_imageOff, .ref mm_imageLast, .ref mm_imagePassed, .ref mm_imageKept, .ref mm_imageMany, .ref mm_imageHistory])), (mm_number, .inl (k_mm_number, 10, .inl (fun _ => 0))), (mm_off, .inl (k_mm_off, 20, .inl (fun _ => 0))), (mm_last, .inl (k_mm_last, 10, .inl (fun _ => 0))), (mm_passed, .inl (k_mm_passed, 10, .inl (fun _ => 0))), (mm_keptMany, .inl (k_mm_keptMany, 10, .inl (fun _ => 0))), (xx, .inr (10, [.ref rr, .ref ta, .ref tb, .ref pa, .ref pb, .ref cn, .ref ci, .int 0, .ref cp, .ref ct, .ref hs, .ref rd, .ref wy, .ref ea, .ref eb]))] H := hP
  have hD : va_D A [(mm, .inr (11, [.int 0, .ref mm_tape, .int 0, .ref mm_number, .ref mm_clockName, .ref mm_clockOff, .ref mm_clockGain, .ref mm_clockRough, .ref mm_personName, .ref mm_personOff, .ref mm_personGain, .ref mm_personRough, .ref mm_custom, .ref mm_customA, .ref mm_customB, .ref mm_ruleFrom, .ref mm_ruleTo, .ref mm_roundOf, .ref mm_roundAt, .ref mm_roundHour, .ref mm_gunAt, .ref mm_gunHour, .ref mm_knotSort, .ref mm_knotValue, .int 0, .int 0, .int 0, .int 0, .int 0, .int 0, .int 0, .int 0, .int 0, .int (-1), .int 0, .int 0, .int 0, .int 0, .int 0, .int 0, .int 0, .int 0, .int 0, .int 0, .int 0, .int 0, .ref mm_start, .ref mm_off, .ref mm_last, .ref mm_passed, .ref mm_kept, .ref mm_keptMany, .int 0, .int 0, .ref mm_history, .ref mm_names, .ref mm_worked, .int 0, .int 0, .int (-1), .ref mm_readThing, .ref mm_readHour, .ref mm_readLow, .ref mm_readHigh, .int 0, .int 0, .int 0, .ref mm_imageOff, .ref mm_imageLast, .ref mm_imagePassed, .ref mm_imageKept, .ref mm_imageMany, .ref mm_imageHistory])), (mm_number, .inl (k_mm_number, 10, .inl (fun _ => 0))), (mm_off, .inl (k_mm_off, 20, .inl (fun _ => 0))), (mm_last, .inl (k_mm_last, 10, .inl (fun _ => 0))), (mm_passed, .inl (k_mm_passed, 10, .inl (fun _ => 0))), (mm_keptMany, .inl (k_mm_keptMany, 10, .inl (fun _ => 0))), (xx, .inr (10, [.ref rr, .ref ta, .ref tb, .ref pa, .ref pb, .ref cn, .ref ci, .int 0, .ref cp, .ref ct, .ref hs, .ref rd, .ref wy, .ref ea, .ref eb]))] := hD
  clear hPc hDc hKc hFc hP1 hD1 hk1 hz1 ht hvm
  have hw : (r_6 = 0 ∧ (4 ≤ (xs 1).toInt ∧ (xs 1).toInt ≤ 6 ∧ (xs 2).toInt = 0)) ∨ (r_6 = -1 ∧ ((xs 1).toInt < 4 ∨ 6 < (xs 1).toInt ∨ (xs 2).toInt ≠ 0)) := hw
  rcases hw with ⟨hrr_6, hfr_6⟩ | ⟨hrr_6, hfr_6⟩
  · subst r_6
    refine lv_aload_n hx hb dL_law_1136 rfl (lv_at hl 2 rfl) ?_
    refine lv_aload_n hx hb dL_law_1137 rfl (lv_at hl 4 rfl) ?_
    refine lv_iload hx hb dL_law_1138 (lv_at hl 0 rfl) ?_
    refine lv_iconst (v := 1) hx hb dL_law_1140 (by decide) ?_
    refine lv_iadd hx hb dL_law_1141 ?_
    refine lv_topi (fun z_7 ez_7 => ?_)
    obtain rfl : z_7 = 1 := ez_7.trans (by decide)
    refine va_sld hx hb hX hbl hbA hS (pk_in 1 7 (by decide) (by decide) (by decide)) dL_law_1142 ?_
    refine lv_topi (fun z_8 ez_8 => ?_)
    replace ez_8 : z_8 = xs 1 := ez_8
    subst z_8
    refine lv_aload_n hx hb dL_law_1143 rfl (lv_at hl 4 rfl) ?_
    refine lv_iload hx hb dL_law_1144 (lv_at hl 0 rfl) ?_
    refine lv_iconst (v := 2) hx hb dL_law_1146 (by decide) ?_
    refine lv_iadd hx hb dL_law_1147 ?_
    refine lv_topi (fun z_9 ez_9 => ?_)
    obtain rfl : z_9 = 2 := ez_9.trans (by decide)
    refine va_sld hx hb hX hbl hbA hS (pk_in 2 7 (by decide) (by decide) (by decide)) dL_law_1148 ?_
    refine lv_topi (fun z_10 ez_10 => ?_)
    replace ez_10 : z_10 = xs 2 := ez_10
    subst z_10
    have hPc := hP.sub (ws' := [(mm, .inr (11, [.int 0, .ref mm_tape, .int 0, .ref mm_number, .ref mm_clockName, .ref mm_clockOff, .ref mm_clockGain, .ref mm_clockRough, .ref mm_personName, .ref mm_personOff, .ref mm_personGain, .ref mm_personRough, .ref mm_custom, .ref mm_customA, .ref mm_customB, .ref mm_ruleFrom, .ref mm_ruleTo, .ref mm_roundOf, .ref mm_roundAt, .ref mm_roundHour, .ref mm_gunAt, .ref mm_gunHour, .ref mm_knotSort, .ref mm_knotValue, .int 0, .int 0, .int 0, .int 0, .int 0, .int 0, .int 0, .int 0, .int 0, .int (-1), .int 0, .int 0, .int 0, .int 0, .int 0, .int 0, .int 0, .int 0, .int 0, .int 0, .int 0, .int 0, .ref mm_start, .ref mm_off, .ref mm_last, .ref mm_passed, .ref mm_kept, .ref mm_keptMany, .int 0, .int 0, .ref mm_history, .ref mm_names, .ref mm_worked, .int 0, .int 0, .int (-1), .ref mm_readThing, .ref mm_readHour, .ref mm_readLow, .ref mm_readHigh, .int 0, .int 0, .int 0, .ref mm_imageOff, .ref mm_imageLast, .ref mm_imagePassed, .ref mm_imageKept, .ref mm_imageMany, .ref mm_imageHistory])), (mm_number, .inl (k_mm_number, 10, .inl (fun _ => 0))), (mm_off, .inl (k_mm_off, 20, .inl (fun _ => 0))), (mm_last, .inl (k_mm_last, 10, .inl (fun _ => 0))), (mm_passed, .inl (k_mm_passed, 10, .inl (fun _ => 0))), (mm_keptMany, .inl (k_mm_keptMany, 10, .inl (fun _ => 0)))]) [0, 1, 2, 3, 4, 5] rfl
    have hDc := hD.sub (ws' := [(mm, .inr (11, [.int 0, .ref mm_tape, .int 0, .ref mm_number, .ref mm_clockName, .ref mm_clockOff, .ref mm_clockGain, .ref mm_clockRough, .ref mm_personName, .ref mm_personOff, .ref mm_personGain, .ref mm_personRough, .ref mm_custom, .ref mm_customA, .ref mm_customB, .ref mm_ruleFrom, .ref mm_ruleTo, .ref mm_roundOf, .ref mm_roundAt, .ref mm_roundHour, .ref mm_gunAt, .ref mm_gunHour, .ref mm_knotSort, .ref mm_knotValue, .int 0, .int 0, .int 0, .int 0, .int 0, .int 0, .int 0, .int 0, .int 0, .int (-1), .int 0, .int 0, .int 0, .int 0, .int 0, .int 0, .int 0, .int 0, .int 0, .int 0, .int 0, .int 0, .ref mm_start, .ref mm_off, .ref mm_last, .ref mm_passed, .ref mm_kept, .ref mm_keptMany, .int 0, .int 0, .ref mm_history, .ref mm_names, .ref mm_worked, .int 0, .int 0, .int (-1), .ref mm_readThing, .ref mm_readHour, .ref mm_readLow, .ref mm_readHigh, .int 0, .int 0, .int 0, .ref mm_imageOff, .ref mm_imageLast, .ref mm_imagePassed, .ref mm_imageKept, .ref mm_imageMany, .ref mm_imageHistory])), (mm_number, .inl (k_mm_number, 10, .inl (fun _ => 0))), (mm_off, .inl (k_mm_off, 20, .inl (fun _ => 0))), (mm_last, .inl (k_mm_last, 10, .inl (fun _ => 0))), (mm_passed, .inl (k_mm_passed, 10, .inl (fun _ => 0))), (mm_keptMany, .inl (k_mm_keptMany, 10, .inl (fun _ => 0)))]) [0, 1, 2, 3, 4, 5] (by decide) rfl
    have hKc := hK.sub (tys' := [(k_mm_number, .int), (k_mm_off, .int), (k_mm_last, .int), (k_mm_passed, .int), (k_mm_keptMany, .int)]) [14, 15, 16, 17, 18] rfl
    have hFc := va_free (wc := [(mm, .inr (11, [.int 0, .ref mm_tape, .int 0, .ref mm_number, .ref mm_clockName, .ref mm_clockOff, .ref mm_clockGain, .ref mm_clockRough, .ref mm_personName, .ref mm_personOff, .ref mm_personGain, .ref mm_personRough, .ref mm_custom, .ref mm_customA, .ref mm_customB, .ref mm_ruleFrom, .ref mm_ruleTo, .ref mm_roundOf, .ref mm_roundAt, .ref mm_roundHour, .ref mm_gunAt, .ref mm_gunHour, .ref mm_knotSort, .ref mm_knotValue, .int 0, .int 0, .int 0, .int 0, .int 0, .int 0, .int 0, .int 0, .int 0, .int (-1), .int 0, .int 0, .int 0, .int 0, .int 0, .int 0, .int 0, .int 0, .int 0, .int 0, .int 0, .int 0, .ref mm_start, .ref mm_off, .ref mm_last, .ref mm_passed, .ref mm_kept, .ref mm_keptMany, .int 0, .int 0, .ref mm_history, .ref mm_names, .ref mm_worked, .int 0, .int 0, .int (-1), .ref mm_readThing, .ref mm_readHour, .ref mm_readLow, .ref mm_readHigh, .int 0, .int 0, .int 0, .ref mm_imageOff, .ref mm_imageLast, .ref mm_imagePassed, .ref mm_imageKept, .ref mm_imageMany, .ref mm_imageHistory])), (mm_number, .inl (k_mm_number, 10, .inl (fun _ => 0))), (mm_off, .inl (k_mm_off, 20, .inl (fun _ => 0))), (mm_last, .inl (k_mm_last, 10, .inl (fun _ => 0))), (mm_passed, .inl (k_mm_passed, 10, .inl (fun _ => 0))), (mm_keptMany, .inl (k_mm_keptMany, 10, .inl (fun _ => 0)))]) hD hS hA [0, 1, 2, 3, 4, 5] rfl
    have := (by decide : (0 : Int32).toInt = 0)
    have := (by decide : (0 : Int32).toInt = 0)
    have := (by decide : (0 : Int32).toInt = 0)
    have := (by decide : (0 : Int32).toInt = 0)
    have := (by decide : (0 : Int32).toInt = 0)
    have := (by decide : (0 : Int32).toInt = 0)
    have := (by decide : (0 : Int32).toInt = 0)
    have := (by decide : (0 : Int32).toInt = 0)
    have := (by decide : (0 : Int32).toInt = 0)
    have := (by decide : (0 : Int32).toInt = 0)
    have := (by decide : (0 : Int32).toInt = 0)
    have := (by decide : ((-1) : Int32).toInt = -1)
    have := (by decide : (0 : Int32).toInt = 0)
    have := (by decide : (0 : Int32).toInt = 0)
    have := (by decide : (0 : Int32).toInt = 0)
    have := (by decide : (0 : Int32).toInt = 0)
    have := (by decide : (0 : Int32).toInt = 0)
    have := (by decide : (0 : Int32).toInt = 0)
    have := (by decide : (0 : Int32).toInt = 0)
    have := (by decide : (0 : Int32).toInt = 0)
    have := (by decide : (0 : Int32).toInt = 0)
    have := (by decide : (0 : Int32).toInt = 0)
    have := (by decide : (0 : Int32).toInt = 0)
    have := (by decide : (0 : Int32).toInt = 0)
    have := (by decide : (0 : Int32).toInt = 0)
    have := (by decide : (0 : Int32).toInt = 0)
    have := (by decide : (0 : Int32).toInt = 0)
    have := (by decide : ((-1) : Int32).toInt = -1)
    have := (by decide : (0 : Int32).toInt = 0)
    have := (by decide : (0 : Int32).toInt = 0)
    have := (by decide : (0 : Int32).toInt = 0)
    refine va_calli (va_runV (As := [.int (xs 1), .int (xs 2)]) (rest := [.int 0]) ⟨hx, hb, hml, hown, hT⟩ (c_X11_tried l dC dI H.size mm (xs 1) (xs 2) (0 : Int32) mm_tape (0 : Int32) mm_number mm_clockName mm_clockOff mm_clockGain mm_clockRough mm_personName mm_personOff mm_personGain mm_personRough mm_custom mm_customA mm_customB mm_ruleFrom mm_ruleTo mm_roundOf mm_roundAt mm_roundHour mm_gunAt mm_gunHour mm_knotSort mm_knotValue (0 : Int32) (0 : Int32) (0 : Int32) (0 : Int32) (0 : Int32) (0 : Int32) (0 : Int32) (0 : Int32) (0 : Int32) ((-1) : Int32) (0 : Int32) (0 : Int32) (0 : Int32) (0 : Int32) (0 : Int32) (0 : Int32) (0 : Int32) (0 : Int32) (0 : Int32) (0 : Int32) (0 : Int32) (0 : Int32) mm_start mm_off mm_last mm_passed mm_kept mm_keptMany (0 : Int32) mm_history mm_names mm_worked (0 : Int32) (0 : Int32) ((-1) : Int32) mm_readThing mm_readHour mm_readLow mm_readHigh (0 : Int32) (0 : Int32) (0 : Int32) mm_imageOff mm_imageLast mm_imagePassed mm_imageKept mm_imageMany mm_imageHistory k_mm_number (fun _ => 0) k_mm_off (fun _ => 0) k_mm_last (fun _ => 0) k_mm_passed (fun _ => 0) k_mm_keptMany (fun _ => 0) (fun _ => rfl)) (cwV 2 hT (gwV mw_8_126 mw_8_127 mw_8_128 mw_1_16 mw_8_129) rfl rfl rfl (by decide +kernel) ⟨Nat.le_of_ble_eq_true rfl, Nat.le_of_ble_eq_true rfl⟩) ⟨fun a U g mk q => by obtain ⟨q0, q1, qP, qK, qD⟩ := q; exact ⟨q0, q1, qP, va_K.moved (u := U) (U := U.calling g mk a) (Vm.Alike.refl U.vm) qK, qD⟩, va_recv hK hP (ci := 11) (q0 := 0) rfl rfl, fun U hU hW => ⟨rfl, by rw [hU], by rw [hU]; exact hPc, va_K.moved hW.alike hKc, hDc.weaken (fun _ _ _ _ => trivial)⟩⟩ rfl rfl hl.1 rfl (lv_room (Nat.le_of_ble_eq_true rfl)) dL_law_1149 ⟨Nat.le_of_ble_eq_true rfl, Nat.le_of_ble_eq_true rfl⟩) hS (fun q _ h => hFc q h) hFc (fun r_12 u t H1 locs ht hvm hw hB hz1 hk1 hS => ?_)
    obtain ⟨hP1, hD1⟩ := hB
    rw [ht] at hP1
    obtain ⟨hP, hD⟩ := va_join (wr := [(xx, .inr (10, [.ref rr, .ref ta, .ref tb, .ref pa, .ref pb, .ref cn, .ref ci, .int 0, .ref cp, .ref ct, .ref hs, .ref rd, .ref wy, .ref ea, .ref eb]))]) (w1 := []) hP hD [0, 1, 2, 3, 4, 5] [6] rfl rfl (by decide) (by decide) hk1 hFc hP1 hD1
    generalize H1 = H at hP hS ⊢
    have hP : va_P (dC, dI) vwCl [(xx, .inr (10, [.ref rr, .ref ta, .ref tb, .ref pa, .ref pb, .ref cn, .ref ci, .int 0, .ref cp, .ref ct, .ref hs, .ref rd, .ref wy, .ref ea, .ref eb]))] H := hP
    have hD : va_D A [(xx, .inr (10, [.ref rr, .ref ta, .ref tb, .ref pa, .ref pb, .ref cn, .ref ci, .int 0, .ref cp, .ref ct, .ref hs, .ref rd, .ref wy, .ref ea, .ref eb]))] := hD
    clear hPc hDc hKc hFc hP1 hD1 hk1 hz1 ht hvm
    have hw : (r_12 = 0 ∧ (4 ≤ (xs 1).toInt ∧ (xs 1).toInt ≤ 6 ∧ (xs 2).toInt = 0)) ∨ (r_12 = -1 ∧ ((xs 1).toInt < 4 ∨ 6 < (xs 1).toInt ∨ (xs 2).toInt ≠ 0)) := hw
    rcases hw with ⟨hrr_12, hfr_12⟩ | ⟨hrr_12, hfr_12⟩
    · subst r_12
      refine lv_icmp_eq (tgt := 1482) hx hb dL_law_1152 (by decide) (fun c_13 => ?_) (fun c_13 => absurd c_13 (by decide))
      refine lv_iinc (v := 7) (lv' := [(4, .int 7), (3, .ref oo), (2, .ref mm), (1, .ref xx), (0, .ref b)]) hx hb dL_law_1482 hl (k := 0) rfl (by decide) (by decide) rfl (fun ls hl => ?_)
      refine lv_goto (tgt := 23) hx hb dL_law_1485 (by decide) ?_
      refine lv_iload hx hb dL_law_23 (lv_at hl 0 rfl) ?_
      refine lv_aload_n hx hb dL_law_25 rfl (lv_at hl 4 rfl) ?_
      refine va_slen hx hb hX hbl hbA hS dL_law_26 ?_
      refine lv_topi (fun z_14 ez_14 => ?_)
      obtain rfl : z_14 = 7 := ez_14.trans (by decide)
      refine lv_bipush (v := 7) hx hb dL_law_27 (by decide) ?_
      refine lv_isub hx hb dL_law_29 ?_
      refine lv_topi (fun z_15 ez_15 => ?_)
      obtain rfl : z_15 = 0 := ez_15.trans (by decide)
      refine lv_icmp_gt (tgt := 1488) hx hb dL_law_30 (by decide) (fun c_16 => ?_) (fun c_16 => absurd c_16 (by decide))
      refine lv_iconst (v := 1) hx hb dL_law_1488 (by decide) ?_
      refine va_forget (fun q hq => hAo _ (hS.2.2 q hq)) ?_
      refine W.widen (k := 600002) (n := 7302232) (Nat.le_of_ble_eq_true rfl) (Nat.le_of_ble_eq_true rfl) ?_
      exact lw_ret hx hb hr hlocks dL_law_1489
    · subst r_12
      exact False.elim (by omega)
  · subst r_6
    refine lv_aload_n hx hb dL_law_1136 rfl (lv_at hl 2 rfl) ?_
    refine lv_aload_n hx hb dL_law_1137 rfl (lv_at hl 4 rfl) ?_
    refine lv_iload hx hb dL_law_1138 (lv_at hl 0 rfl) ?_
    refine lv_iconst (v := 1) hx hb dL_law_1140 (by decide) ?_
    refine lv_iadd hx hb dL_law_1141 ?_
    refine lv_topi (fun z_17 ez_17 => ?_)
    obtain rfl : z_17 = 1 := ez_17.trans (by decide)
    refine va_sld hx hb hX hbl hbA hS (pk_in 1 7 (by decide) (by decide) (by decide)) dL_law_1142 ?_
    refine lv_topi (fun z_18 ez_18 => ?_)
    replace ez_18 : z_18 = xs 1 := ez_18
    subst z_18
    refine lv_aload_n hx hb dL_law_1143 rfl (lv_at hl 4 rfl) ?_
    refine lv_iload hx hb dL_law_1144 (lv_at hl 0 rfl) ?_
    refine lv_iconst (v := 2) hx hb dL_law_1146 (by decide) ?_
    refine lv_iadd hx hb dL_law_1147 ?_
    refine lv_topi (fun z_19 ez_19 => ?_)
    obtain rfl : z_19 = 2 := ez_19.trans (by decide)
    refine va_sld hx hb hX hbl hbA hS (pk_in 2 7 (by decide) (by decide) (by decide)) dL_law_1148 ?_
    refine lv_topi (fun z_20 ez_20 => ?_)
    replace ez_20 : z_20 = xs 2 := ez_20
    subst z_20
    have hPc := hP.sub (ws' := [(mm, .inr (11, [.int 0, .ref mm_tape, .int 0, .ref mm_number, .ref mm_clockName, .ref mm_clockOff, .ref mm_clockGain, .ref mm_clockRough, .ref mm_personName, .ref mm_personOff, .ref mm_personGain, .ref mm_personRough, .ref mm_custom, .ref mm_customA, .ref mm_customB, .ref mm_ruleFrom, .ref mm_ruleTo, .ref mm_roundOf, .ref mm_roundAt, .ref mm_roundHour, .ref mm_gunAt, .ref mm_gunHour, .ref mm_knotSort, .ref mm_knotValue, .int 0, .int 0, .int 0, .int 0, .int 0, .int 0, .int 0, .int 0, .int 0, .int (-1), .int 0, .int 0, .int 0, .int 0, .int 0, .int 0, .int 0, .int 0, .int 0, .int 0, .int 0, .int 0, .ref mm_start, .ref mm_off, .ref mm_last, .ref mm_passed, .ref mm_kept, .ref mm_keptMany, .int 0, .int 0, .ref mm_history, .ref mm_names, .ref mm_worked, .int 0, .int 0, .int (-1), .ref mm_readThing, .ref mm_readHour, .ref mm_readLow, .ref mm_readHigh, .int 0, .int 0, .int 0, .ref mm_imageOff, .ref mm_imageLast, .ref mm_imagePassed, .ref mm_imageKept, .ref mm_imageMany, .ref mm_imageHistory])), (mm_number, .inl (k_mm_number, 10, .inl (fun _ => 0))), (mm_off, .inl (k_mm_off, 20, .inl (fun _ => 0))), (mm_last, .inl (k_mm_last, 10, .inl (fun _ => 0))), (mm_passed, .inl (k_mm_passed, 10, .inl (fun _ => 0))), (mm_keptMany, .inl (k_mm_keptMany, 10, .inl (fun _ => 0)))]) [0, 1, 2, 3, 4, 5] rfl
    have hDc := hD.sub (ws' := [(mm, .inr (11, [.int 0, .ref mm_tape, .int 0, .ref mm_number, .ref mm_clockName, .ref mm_clockOff, .ref mm_clockGain, .ref mm_clockRough, .ref mm_personName, .ref mm_personOff, .ref mm_personGain, .ref mm_personRough, .ref mm_custom, .ref mm_customA, .ref mm_customB, .ref mm_ruleFrom, .ref mm_ruleTo, .ref mm_roundOf, .ref mm_roundAt, .ref mm_roundHour, .ref mm_gunAt, .ref mm_gunHour, .ref mm_knotSort, .ref mm_knotValue, .int 0, .int 0, .int 0, .int 0, .int 0, .int 0, .int 0, .int 0, .int 0, .int (-1), .int 0, .int 0, .int 0, .int 0, .int 0, .int 0, .int 0, .int 0, .int 0, .int 0, .int 0, .int 0, .ref mm_start, .ref mm_off, .ref mm_last, .ref mm_passed, .ref mm_kept, .ref mm_keptMany, .int 0, .int 0, .ref mm_history, .ref mm_names, .ref mm_worked, .int 0, .int 0, .int (-1), .ref mm_readThing, .ref mm_readHour, .ref mm_readLow, .ref mm_readHigh, .int 0, .int 0, .int 0, .ref mm_imageOff, .ref mm_imageLast, .ref mm_imagePassed, .ref mm_imageKept, .ref mm_imageMany, .ref mm_imageHistory])), (mm_number, .inl (k_mm_number, 10, .inl (fun _ => 0))), (mm_off, .inl (k_mm_off, 20, .inl (fun _ => 0))), (mm_last, .inl (k_mm_last, 10, .inl (fun _ => 0))), (mm_passed, .inl (k_mm_passed, 10, .inl (fun _ => 0))), (mm_keptMany, .inl (k_mm_keptMany, 10, .inl (fun _ => 0)))]) [0, 1, 2, 3, 4, 5] (by decide) rfl
    have hKc := hK.sub (tys' := [(k_mm_number, .int), (k_mm_off, .int), (k_mm_last, .int), (k_mm_passed, .int), (k_mm_keptMany, .int)]) [14, 15, 16, 17, 18] rfl
    have hFc := va_free (wc := [(mm, .inr (11, [.int 0, .ref mm_tape, .int 0, .ref mm_number, .ref mm_clockName, .ref mm_clockOff, .ref mm_clockGain, .ref mm_clockRough, .ref mm_personName, .ref mm_personOff, .ref mm_personGain, .ref mm_personRough, .ref mm_custom, .ref mm_customA, .ref mm_customB, .ref mm_ruleFrom, .ref mm_ruleTo, .ref mm_roundOf, .ref mm_roundAt, .ref mm_roundHour, .ref mm_gunAt, .ref mm_gunHour, .ref mm_knotSort, .ref mm_knotValue, .int 0, .int 0, .int 0, .int 0, .int 0, .int 0, .int 0, .int 0, .int 0, .int (-1), .int 0, .int 0, .int 0, .int 0, .int 0, .int 0, .int 0, .int 0, .int 0, .int 0, .int 0, .int 0, .ref mm_start, .ref mm_off, .ref mm_last, .ref mm_passed, .ref mm_kept, .ref mm_keptMany, .int 0, .int 0, .ref mm_history, .ref mm_names, .ref mm_worked, .int 0, .int 0, .int (-1), .ref mm_readThing, .ref mm_readHour, .ref mm_readLow, .ref mm_readHigh, .int 0, .int 0, .int 0, .ref mm_imageOff, .ref mm_imageLast, .ref mm_imagePassed, .ref mm_imageKept, .ref mm_imageMany, .ref mm_imageHistory])), (mm_number, .inl (k_mm_number, 10, .inl (fun _ => 0))), (mm_off, .inl (k_mm_off, 20, .inl (fun _ => 0))), (mm_last, .inl (k_mm_last, 10, .inl (fun _ => 0))), (mm_passed, .inl (k_mm_passed, 10, .inl (fun _ => 0))), (mm_keptMany, .inl (k_mm_keptMany, 10, .inl (fun _ => 0)))]) hD hS hA [0, 1, 2, 3, 4, 5] rfl
    have := (by decide : (0 : Int32).toInt = 0)
    have := (by decide : (0 : Int32).toInt = 0)
    have := (by decide : (0 : Int32).toInt = 0)
    have := (by decide : (0 : Int32).toInt = 0)
    have := (by decide : (0 : Int32).toInt = 0)
    have := (by decide : (0 : Int32).toInt = 0)
    have := (by decide : (0 : Int32).toInt = 0)
    have := (by decide : (0 : Int32).toInt = 0)
    have := (by decide : (0 : Int32).toInt = 0)
    have := (by decide : (0 : Int32).toInt = 0)
    have := (by decide : (0 : Int32).toInt = 0)
    have := (by decide : ((-1) : Int32).toInt = -1)
    have := (by decide : (0 : Int32).toInt = 0)
    have := (by decide : (0 : Int32).toInt = 0)
    have := (by decide : (0 : Int32).toInt = 0)
    have := (by decide : (0 : Int32).toInt = 0)
    have := (by decide : (0 : Int32).toInt = 0)
    have := (by decide : (0 : Int32).toInt = 0)
    have := (by decide : (0 : Int32).toInt = 0)
    have := (by decide : (0 : Int32).toInt = 0)
    have := (by decide : (0 : Int32).toInt = 0)
    have := (by decide : (0 : Int32).toInt = 0)
    have := (by decide : (0 : Int32).toInt = 0)
    have := (by decide : (0 : Int32).toInt = 0)
    have := (by decide : (0 : Int32).toInt = 0)
    have := (by decide : (0 : Int32).toInt = 0)
    have := (by decide : (0 : Int32).toInt = 0)
    have := (by decide : ((-1) : Int32).toInt = -1)
    have := (by decide : (0 : Int32).toInt = 0)
    have := (by decide : (0 : Int32).toInt = 0)
    have := (by decide : (0 : Int32).toInt = 0)
    refine va_calli (va_runV (As := [.int (xs 1), .int (xs 2)]) (rest := [.int (-1)]) ⟨hx, hb, hml, hown, hT⟩ (c_X11_tried l dC dI H.size mm (xs 1) (xs 2) (0 : Int32) mm_tape (0 : Int32) mm_number mm_clockName mm_clockOff mm_clockGain mm_clockRough mm_personName mm_personOff mm_personGain mm_personRough mm_custom mm_customA mm_customB mm_ruleFrom mm_ruleTo mm_roundOf mm_roundAt mm_roundHour mm_gunAt mm_gunHour mm_knotSort mm_knotValue (0 : Int32) (0 : Int32) (0 : Int32) (0 : Int32) (0 : Int32) (0 : Int32) (0 : Int32) (0 : Int32) (0 : Int32) ((-1) : Int32) (0 : Int32) (0 : Int32) (0 : Int32) (0 : Int32) (0 : Int32) (0 : Int32) (0 : Int32) (0 : Int32) (0 : Int32) (0 : Int32) (0 : Int32) (0 : Int32) mm_start mm_off mm_last mm_passed mm_kept mm_keptMany (0 : Int32) mm_history mm_names mm_worked (0 : Int32) (0 : Int32) ((-1) : Int32) mm_readThing mm_readHour mm_readLow mm_readHigh (0 : Int32) (0 : Int32) (0 : Int32) mm_imageOff mm_imageLast mm_imagePassed mm_imageKept mm_imageMany mm_imageHistory k_mm_number (fun _ => 0) k_mm_off (fun _ => 0) k_mm_last (fun _ => 0) k_mm_passed (fun _ => 0) k_mm_keptMany (fun _ => 0) (fun _ => rfl)) (cwV 2 hT (gwV mw_8_126 mw_8_127 mw_8_128 mw_1_16 mw_8_129) rfl rfl rfl (by decide +kernel) ⟨Nat.le_of_ble_eq_true rfl, Nat.le_of_ble_eq_true rfl⟩) ⟨fun a U g mk q => by obtain ⟨q0, q1, qP, qK, qD⟩ := q; exact ⟨q0, q1, qP, va_K.moved (u := U) (U := U.calling g mk a) (Vm.Alike.refl U.vm) qK, qD⟩, va_recv hK hP (ci := 11) (q0 := 0) rfl rfl, fun U hU hW => ⟨rfl, by rw [hU], by rw [hU]; exact hPc, va_K.moved hW.alike hKc, hDc.weaken (fun _ _ _ _ => trivial)⟩⟩ rfl rfl hl.1 rfl (lv_room (Nat.le_of_ble_eq_true rfl)) dL_law_1149 ⟨Nat.le_of_ble_eq_true rfl, Nat.le_of_ble_eq_true rfl⟩) hS (fun q _ h => hFc q h) hFc (fun r_22 u t H1 locs ht hvm hw hB hz1 hk1 hS => ?_)
    obtain ⟨hP1, hD1⟩ := hB
    rw [ht] at hP1
    obtain ⟨hP, hD⟩ := va_join (wr := [(xx, .inr (10, [.ref rr, .ref ta, .ref tb, .ref pa, .ref pb, .ref cn, .ref ci, .int 0, .ref cp, .ref ct, .ref hs, .ref rd, .ref wy, .ref ea, .ref eb]))]) (w1 := []) hP hD [0, 1, 2, 3, 4, 5] [6] rfl rfl (by decide) (by decide) hk1 hFc hP1 hD1
    generalize H1 = H at hP hS ⊢
    have hP : va_P (dC, dI) vwCl [(xx, .inr (10, [.ref rr, .ref ta, .ref tb, .ref pa, .ref pb, .ref cn, .ref ci, .int 0, .ref cp, .ref ct, .ref hs, .ref rd, .ref wy, .ref ea, .ref eb]))] H := hP
    have hD : va_D A [(xx, .inr (10, [.ref rr, .ref ta, .ref tb, .ref pa, .ref pb, .ref cn, .ref ci, .int 0, .ref cp, .ref ct, .ref hs, .ref rd, .ref wy, .ref ea, .ref eb]))] := hD
    clear hPc hDc hKc hFc hP1 hD1 hk1 hz1 ht hvm
    have hw : (r_22 = 0 ∧ (4 ≤ (xs 1).toInt ∧ (xs 1).toInt ≤ 6 ∧ (xs 2).toInt = 0)) ∨ (r_22 = -1 ∧ ((xs 1).toInt < 4 ∨ 6 < (xs 1).toInt ∨ (xs 2).toInt ≠ 0)) := hw
    rcases hw with ⟨hrr_22, hfr_22⟩ | ⟨hrr_22, hfr_22⟩
    · subst r_22
      exact False.elim (by omega)
    · subst r_22
      refine lv_icmp_eq (tgt := 1482) hx hb dL_law_1152 (by decide) (fun c_23 => ?_) (fun c_23 => absurd c_23 (by decide))
      refine lv_iinc (v := 7) (lv' := [(4, .int 7), (3, .ref oo), (2, .ref mm), (1, .ref xx), (0, .ref b)]) hx hb dL_law_1482 hl (k := 0) rfl (by decide) (by decide) rfl (fun ls hl => ?_)
      refine lv_goto (tgt := 23) hx hb dL_law_1485 (by decide) ?_
      refine lv_iload hx hb dL_law_23 (lv_at hl 0 rfl) ?_
      refine lv_aload_n hx hb dL_law_25 rfl (lv_at hl 4 rfl) ?_
      refine va_slen hx hb hX hbl hbA hS dL_law_26 ?_
      refine lv_topi (fun z_24 ez_24 => ?_)
      obtain rfl : z_24 = 7 := ez_24.trans (by decide)
      refine lv_bipush (v := 7) hx hb dL_law_27 (by decide) ?_
      refine lv_isub hx hb dL_law_29 ?_
      refine lv_topi (fun z_25 ez_25 => ?_)
      obtain rfl : z_25 = 0 := ez_25.trans (by decide)
      refine lv_icmp_gt (tgt := 1488) hx hb dL_law_30 (by decide) (fun c_26 => ?_) (fun c_26 => absurd c_26 (by decide))
      refine lv_iconst (v := 1) hx hb dL_law_1488 (by decide) ?_
      refine va_forget (fun q hq => hAo _ (hS.2.2 q hq)) ?_
      refine W.widen (k := 600002) (n := 7302232) (Nat.le_of_ble_eq_true rfl) (Nat.le_of_ble_eq_true rfl) ?_
      exact lw_ret hx hb hr hlocks dL_law_1489
set_option maxHeartbeats 4000000 in
set_option maxRecDepth 100000 in
theorem law_op_23 {p : Program} {l : Launch} {e : Env} {s : State} {m : MethodId} {below : List Frame} {meth : Method} {c : Code} {dC : Nat → ClassId} {dI : Nat → Nat → Nat} {b : Nat} {xs : Nat → Int32} {A : Nat → Prop} (C0 : lw_At p s m meth c b 7 xs) (hA : ∀ q, s.heap.size ≤ q → A q) (hbA : ¬ A b) (hAo : ∀ q, A q → s.heap.size ≤ q) {xx : Nat} {rr : Nat} {ta : Nat} {tb : Nat} {pa : Nat} {pb : Nat} {cn : Nat} {ci : Nat} {cp : Nat} {ct : Nat} {hs : Nat} {rd : Nat} {wy : Nat} {ea : Nat} {eb : Nat} {ta_name : Nat} {ta_first : Nat} {ta_gain : Nat} {ta_rough : Nat} {ta_custom : Nat} {ta_part : Nat} {ta_whole : Nat} {ta_roundPerson : Nat} {ta_roundClock : Nat} {ta_roundHour : Nat} {ta_gunClock : Nat} {ta_gunHour : Nat} {tau : Nat} {mm : Nat} {mm_tape : Nat} {mm_number : Nat} {mm_clockName : Nat} {mm_clockOff : Nat} {mm_clockGain : Nat} {mm_clockRough : Nat} {mm_personName : Nat} {mm_personOff : Nat} {mm_personGain : Nat} {mm_personRough : Nat} {mm_custom : Nat} {mm_customA : Nat} {mm_customB : Nat} {mm_ruleFrom : Nat} {mm_ruleTo : Nat} {mm_roundOf : Nat} {mm_roundAt : Nat} {mm_roundHour : Nat} {mm_gunAt : Nat} {mm_gunHour : Nat} {mm_knotSort : Nat} {mm_knotValue : Nat} {mm_start : Nat} {mm_off : Nat} {mm_last : Nat} {mm_passed : Nat} {mm_kept : Nat} {mm_keptMany : Nat} {mm_history : Nat} {mm_names : Nat} {mm_worked : Nat} {mm_readThing : Nat} {mm_readHour : Nat} {mm_readLow : Nat} {mm_readHigh : Nat} {mm_imageOff : Nat} {mm_imageLast : Nat} {mm_imagePassed : Nat} {mm_imageKept : Nat} {mm_imageMany : Nat} {mm_imageHistory : Nat} {k_mm_number : ClassId} {oo : Nat} {H : Heap} {locs : List Loc} {ls : Array Slot} (hK : va_K (dC, dI) vwCl [(k_mm_number, .int)] s) (hP : va_P (dC, dI) vwCl [(xx, .inr (10, [.ref rr, .ref ta, .ref tb, .ref pa, .ref pb, .ref cn, .ref ci, .int 0, .ref cp, .ref ct, .ref hs, .ref rd, .ref wy, .ref ea, .ref eb])), (ta, .inr (8, [.int 0, .int 0, .int 0, .int 0, .int 0, .ref ta_name, .ref ta_first, .ref ta_gain, .ref ta_rough, .ref ta_custom, .ref ta_part, .ref ta_whole, .ref ta_roundPerson, .ref ta_roundClock, .ref ta_roundHour, .ref ta_gunClock, .ref ta_gunHour, .ref tau])), (mm, .inr (11, [.int 0, .ref mm_tape, .int 0, .ref mm_number, .ref mm_clockName, .ref mm_clockOff, .ref mm_clockGain, .ref mm_clockRough, .ref mm_personName, .ref mm_personOff, .ref mm_personGain, .ref mm_personRough, .ref mm_custom, .ref mm_customA, .ref mm_customB, .ref mm_ruleFrom, .ref mm_ruleTo, .ref mm_roundOf, .ref mm_roundAt, .ref mm_roundHour, .ref mm_gunAt, .ref mm_gunHour, .ref mm_knotSort, .ref mm_knotValue, .int 0, .int 0, .int 0, .int 0, .int 0, .int 0, .int 0, .int 0, .int 0, .int (-1), .int 0, .int 0, .int 0, .int 0, .int 0, .int 0, .int 0, .int 0, .int 0, .int 0, .int 0, .int 0, .ref mm_start, .ref mm_off, .ref mm_last, .ref mm_passed, .ref mm_kept, .ref mm_keptMany, .int 0, .int 0, .ref mm_history, .ref mm_names, .ref mm_worked, .int 0, .int 0, .int (-1), .ref mm_readThing, .ref mm_readHour, .ref mm_readLow, .ref mm_readHigh, .int 0, .int 0, .int 0, .ref mm_imageOff, .ref mm_imageLast, .ref mm_imagePassed, .ref mm_imageKept, .ref mm_imageMany, .ref mm_imageHistory])), (mm_number, .inl (k_mm_number, 10, .inl (fun _ => 0)))] H) (hD : va_D A [(xx, .inr (10, [.ref rr, .ref ta, .ref tb, .ref pa, .ref pb, .ref cn, .ref ci, .int 0, .ref cp, .ref ct, .ref hs, .ref rd, .ref wy, .ref ea, .ref eb])), (ta, .inr (8, [.int 0, .int 0, .int 0, .int 0, .int 0, .ref ta_name, .ref ta_first, .ref ta_gain, .ref ta_rough, .ref ta_custom, .ref ta_part, .ref ta_whole, .ref ta_roundPerson, .ref ta_roundClock, .ref ta_roundHour, .ref ta_gunClock, .ref ta_gunHour, .ref tau])), (mm, .inr (11, [.int 0, .ref mm_tape, .int 0, .ref mm_number, .ref mm_clockName, .ref mm_clockOff, .ref mm_clockGain, .ref mm_clockRough, .ref mm_personName, .ref mm_personOff, .ref mm_personGain, .ref mm_personRough, .ref mm_custom, .ref mm_customA, .ref mm_customB, .ref mm_ruleFrom, .ref mm_ruleTo, .ref mm_roundOf, .ref mm_roundAt, .ref mm_roundHour, .ref mm_gunAt, .ref mm_gunHour, .ref mm_knotSort, .ref mm_knotValue, .int 0, .int 0, .int 0, .int 0, .int 0, .int 0, .int 0, .int 0, .int 0, .int (-1), .int 0, .int 0, .int 0, .int 0, .int 0, .int 0, .int 0, .int 0, .int 0, .int 0, .int 0, .int 0, .ref mm_start, .ref mm_off, .ref mm_last, .ref mm_passed, .ref mm_kept, .ref mm_keptMany, .int 0, .int 0, .ref mm_history, .ref mm_names, .ref mm_worked, .int 0, .int 0, .int (-1), .ref mm_readThing, .ref mm_readHour, .ref mm_readLow, .ref mm_readHigh, .int 0, .int 0, .int 0, .ref mm_imageOff, .ref mm_imageLast, .ref mm_imagePassed, .ref mm_imageKept, .ref mm_imageMany, .ref mm_imageHistory])), (mm_number, .inl (k_mm_number, 10, .inl (fun _ => 0)))]) (hS : va_S A s.heap H locs) (hl : lv_has ls 7 [(4, .int 0), (3, .ref oo), (2, .ref mm), (1, .ref xx), (0, .ref b)]) : W p l e room_1 s m #[Value.ref b] below meth c H locs 160 67979 (lw_Z below #[Value.ref b] s) (F0 m 1157 ls []) := by
  obtain ⟨hx, hb, hr, hml, hown, hts, hX, hbl, hlocks, hgv⟩ := C0
  have hT : ∀ w ∈ pw_T, w.before #[Value.ref b] s = true := fun w h => hts w (List.mem_filter.mp h).1
  have hown : s.vm.findClass RL = some m.cls := hown
  refine lv_aload_n hx hb dL_law_1157 rfl (lv_at hl 3 rfl) ?_
  refine lv_aload_n hx hb dL_law_1158 rfl (lv_at hl 4 rfl) ?_
  refine lv_iload hx hb dL_law_1159 (lv_at hl 0 rfl) ?_
  refine lv_iconst (v := 1) hx hb dL_law_1161 (by decide) ?_
  refine lv_iadd hx hb dL_law_1162 ?_
  refine lv_topi (fun z_1 ez_1 => ?_)
  obtain rfl : z_1 = 1 := ez_1.trans (by decide)
  refine va_sld hx hb hX hbl hbA hS (pk_in 1 7 (by decide) (by decide) (by decide)) dL_law_1163 ?_
  refine lv_topi (fun z_2 ez_2 => ?_)
  replace ez_2 : z_2 = xs 1 := ez_2
  subst z_2
  refine lv_aload_n hx hb dL_law_1164 rfl (lv_at hl 4 rfl) ?_
  refine lv_iload hx hb dL_law_1165 (lv_at hl 0 rfl) ?_
  refine lv_iconst (v := 2) hx hb dL_law_1167 (by decide) ?_
  refine lv_iadd hx hb dL_law_1168 ?_
  refine lv_topi (fun z_3 ez_3 => ?_)
  obtain rfl : z_3 = 2 := ez_3.trans (by decide)
  refine va_sld hx hb hX hbl hbA hS (pk_in 2 7 (by decide) (by decide) (by decide)) dL_law_1169 ?_
  refine lv_topi (fun z_4 ez_4 => ?_)
  replace ez_4 : z_4 = xs 2 := ez_4
  subst z_4
  refine lv_aload_n hx hb dL_law_1170 rfl (lv_at hl 4 rfl) ?_
  refine lv_iload hx hb dL_law_1171 (lv_at hl 0 rfl) ?_
  refine lv_iconst (v := 3) hx hb dL_law_1173 (by decide) ?_
  refine lv_iadd hx hb dL_law_1174 ?_
  refine lv_topi (fun z_5 ez_5 => ?_)
  obtain rfl : z_5 = 3 := ez_5.trans (by decide)
  refine va_sld hx hb hX hbl hbA hS (pk_in 3 7 (by decide) (by decide) (by decide)) dL_law_1175 ?_
  refine lv_topi (fun z_6 ez_6 => ?_)
  replace ez_6 : z_6 = xs 3 := ez_6
  subst z_6
  have hPc := hP.sub (ws' := [(xx, .inr (10, [.ref rr, .ref ta, .ref tb, .ref pa, .ref pb, .ref cn, .ref ci, .int 0, .ref cp, .ref ct, .ref hs, .ref rd, .ref wy, .ref ea, .ref eb])), (ta, .inr (8, [.int 0, .int 0, .int 0, .int 0, .int 0, .ref ta_name, .ref ta_first, .ref ta_gain, .ref ta_rough, .ref ta_custom, .ref ta_part, .ref ta_whole, .ref ta_roundPerson, .ref ta_roundClock, .ref ta_roundHour, .ref ta_gunClock, .ref ta_gunHour, .ref tau]))]) [0, 1] rfl
  have hDc := hD.sub (ws' := [(xx, .inr (10, [.ref rr, .ref ta, .ref tb, .ref pa, .ref pb, .ref cn, .ref ci, .int 0, .ref cp, .ref ct, .ref hs, .ref rd, .ref wy, .ref ea, .ref eb])), (ta, .inr (8, [.int 0, .int 0, .int 0, .int 0, .int 0, .ref ta_name, .ref ta_first, .ref ta_gain, .ref ta_rough, .ref ta_custom, .ref ta_part, .ref ta_whole, .ref ta_roundPerson, .ref ta_roundClock, .ref ta_roundHour, .ref ta_gunClock, .ref ta_gunHour, .ref tau]))]) [0, 1] (by decide) rfl
  have hKc := hK.sub (tys' := []) [] rfl
  have hFc := va_free (wc := [(xx, .inr (10, [.ref rr, .ref ta, .ref tb, .ref pa, .ref pb, .ref cn, .ref ci, .int 0, .ref cp, .ref ct, .ref hs, .ref rd, .ref wy, .ref ea, .ref eb])), (ta, .inr (8, [.int 0, .int 0, .int 0, .int 0, .int 0, .ref ta_name, .ref ta_first, .ref ta_gain, .ref ta_rough, .ref ta_custom, .ref ta_part, .ref ta_whole, .ref ta_roundPerson, .ref ta_roundClock, .ref ta_roundHour, .ref ta_gunClock, .ref ta_gunHour, .ref tau]))]) hD hS hA [0, 1] rfl
  refine va_calli (va_runV (As := [.int (xs 1), .int (xs 2), .int (xs 3)]) (rest := []) ⟨hx, hb, hml, hown, hT⟩ (c_X10_other l dC dI H.size xx (xs 1) (xs 2) (xs 3) rr ta tb pa pb cn ci (0 : Int32) cp ct hs rd wy ea eb (0 : Int32) (0 : Int32) (0 : Int32) ta_name ta_first ta_gain ta_rough ta_custom ta_part ta_whole ta_roundPerson ta_roundClock ta_roundHour ta_gunClock ta_gunHour tau ) (cwV 3 hT (gwV mw_5_98 mw_5_99 mw_5_100 mw_1_1 mw_5_101) rfl rfl rfl (by decide +kernel) ⟨Nat.le_of_ble_eq_true rfl, Nat.le_of_ble_eq_true rfl⟩) ⟨fun a U g mk q => by obtain ⟨q0, q1, qP, qK, qD⟩ := q; exact ⟨q0, q1, qP, va_K.moved (u := U) (U := U.calling g mk a) (Vm.Alike.refl U.vm) qK, qD⟩, va_recv hK hP (ci := 10) (q0 := 0) rfl rfl, fun U hU hW => ⟨rfl, by rw [hU], by rw [hU]; exact hPc, va_K.moved hW.alike hKc, hDc.weaken (fun _ _ _ _ => trivial)⟩⟩ rfl rfl hl.1 rfl (lv_room (Nat.le_of_ble_eq_true rfl)) dL_law_1176 ⟨Nat.le_of_ble_eq_true rfl, Nat.le_of_ble_eq_true rfl⟩) hS (fun q _ h => hFc q h) hFc (fun r_8 u t H1 locs ht hvm hw hB hz1 hk1 hS => ?_)
  obtain ⟨hP1, hD1⟩ := hB
  rw [ht] at hP1
  obtain ⟨hP, hD⟩ := va_join (wr := [(mm, .inr (11, [.int 0, .ref mm_tape, .int 0, .ref mm_number, .ref mm_clockName, .ref mm_clockOff, .ref mm_clockGain, .ref mm_clockRough, .ref mm_personName, .ref mm_personOff, .ref mm_personGain, .ref mm_personRough, .ref mm_custom, .ref mm_customA, .ref mm_customB, .ref mm_ruleFrom, .ref mm_ruleTo, .ref mm_roundOf, .ref mm_roundAt, .ref mm_roundHour, .ref mm_gunAt, .ref mm_gunHour, .ref mm_knotSort, .ref mm_knotValue, .int 0, .int 0, .int 0, .int 0, .int 0, .int 0, .int 0, .int 0, .int 0, .int (-1), .int 0, .int 0, .int 0, .int 0, .int 0, .int 0, .int 0, .int 0, .int 0, .int 0, .int 0, .int 0, .ref mm_start, .ref mm_off, .ref mm_last, .ref mm_passed, .ref mm_kept, .ref mm_keptMany, .int 0, .int 0, .ref mm_history, .ref mm_names, .ref mm_worked, .int 0, .int 0, .int (-1), .ref mm_readThing, .ref mm_readHour, .ref mm_readLow, .ref mm_readHigh, .int 0, .int 0, .int 0, .ref mm_imageOff, .ref mm_imageLast, .ref mm_imagePassed, .ref mm_imageKept, .ref mm_imageMany, .ref mm_imageHistory])), (mm_number, .inl (k_mm_number, 10, .inl (fun _ => 0)))]) (w1 := [(xx, .inr (10, [.ref rr, .ref ta, .ref tb, .ref pa, .ref pb, .ref cn, .ref ci, .int 0, .ref cp, .ref ct, .ref hs, .ref rd, .ref wy, .ref ea, .ref eb])), (ta, .inr (8, [.int 0, .int 0, .int 0, .int 0, .int 0, .ref ta_name, .ref ta_first, .ref ta_gain, .ref ta_rough, .ref ta_custom, .ref ta_part, .ref ta_whole, .ref ta_roundPerson, .ref ta_roundClock, .ref ta_roundHour, .ref ta_gunClock, .ref ta_gunHour, .ref tau]))]) hP hD [0, 1] [2, 3] rfl rfl (by decide) (by decide) hk1 hFc hP1 hD1
  generalize H1 = H at hP hS ⊢
  have hP : va_P (dC, dI) vwCl [(mm, .inr (11, [.int 0, .ref mm_tape, .int 0, .ref mm_number, .ref mm_clockName, .ref mm_clockOff, .ref mm_clockGain, .ref mm_clockRough, .ref mm_personName, .ref mm_personOff, .ref mm_personGain, .ref mm_personRough, .ref mm_custom, .ref mm_customA, .ref mm_customB, .ref mm_ruleFrom, .ref mm_ruleTo, .ref mm_roundOf, .ref mm_roundAt, .ref mm_roundHour, .ref mm_gunAt, .ref mm_gunHour, .ref mm_knotSort, .ref mm_knotValue, .int 0, .int 0, .int 0, .int 0, .int 0, .int 0, .int 0, .int 0, .int 0, .int (-1), .int 0, .int 0, .int 0, .int 0, .int 0, .int 0, .int 0, .int 0, .int 0, .int 0, .int 0, .int 0, .ref mm_start, .ref mm_off, .ref mm_last, .ref mm_passed, .ref mm_kept, .ref mm_keptMany, .int 0, .int 0, .ref mm_history, .ref mm_names, .ref mm_worked, .int 0, .int 0, .int (-1), .ref mm_readThing, .ref mm_readHour, .ref mm_readLow, .ref mm_readHigh, .int 0, .int 0, .int 0, .ref mm_imageOff, .ref mm_imageLast, .ref mm_imagePassed, .ref mm_imageKept, .ref mm_imageMany, .ref mm_imageHistory])), (mm_number, .inl (k_mm_number, 10, .inl (fun _ => 0))), (xx, .inr (10, [.ref rr, .ref ta, .ref tb, .ref pa, .ref pb, .ref cn, .ref ci, .int 0, .ref cp, .ref ct, .ref hs, .ref rd, .ref wy, .ref ea, .ref eb])), (ta, .inr (8, [.int 0, .int 0, .int 0, .int 0, .int 0, .ref ta_name, .ref ta_first, .ref ta_gain, .ref ta_rough, .ref ta_custom, .ref ta_part, .ref ta_whole, .ref ta_roundPerson, .ref ta_roundClock, .ref ta_roundHour, .ref ta_gunClock, .ref ta_gunHour, .ref tau]))] H := hP
  have hD : va_D A [(mm, .inr (11, [.int 0, .ref mm_tape, .int 0, .ref mm_number, .ref mm_clockName, .ref mm_clockOff, .ref mm_clockGain, .ref mm_clockRough, .ref mm_personName, .ref mm_personOff, .ref mm_personGain, .ref mm_personRough, .ref mm_custom, .ref mm_customA, .ref mm_customB, .ref mm_ruleFrom, .ref mm_ruleTo, .ref mm_roundOf, .ref mm_roundAt, .ref mm_roundHour, .ref mm_gunAt, .ref mm_gunHour, .ref mm_knotSort, .ref mm_knotValue, .int 0, .int 0, .int 0, .int 0, .int 0, .int 0, .int 0, .int 0, .int 0, .int (-1), .int 0, .int 0, .int 0, .int 0, .int 0, .int 0, .int 0, .int 0, .int 0, .int 0, .int 0, .int 0, .ref mm_start, .ref mm_off, .ref mm_last, .ref mm_passed, .ref mm_kept, .ref mm_keptMany, .int 0, .int 0, .ref mm_history, .ref mm_names, .ref mm_worked, .int 0, .int 0, .int (-1), .ref mm_readThing, .ref mm_readHour, .ref mm_readLow, .ref mm_readHigh, .int 0, .int 0, .int 0, .ref mm_imageOff, .ref mm_imageLast, .ref mm_imagePassed, .ref mm_imageKept, .ref mm_imageMany, .ref mm_imageHistory])), (mm_number, .inl (k_mm_number, 10, .inl (fun _ => 0))), (xx, .inr (10, [.ref rr, .ref ta, .ref tb, .ref pa, .ref pb, .ref cn, .ref ci, .int 0, .ref cp, .ref ct, .ref hs, .ref rd, .ref wy, .ref ea, .ref eb])), (ta, .inr (8, [.int 0, .int 0, .int 0, .int 0, .int 0, .ref ta_name, .ref ta_first, .ref ta_gain, .ref ta_rough, .ref ta_custom, .ref ta_part, .ref ta_whole, .ref ta_roundPerson, .ref ta_roundClock, .ref ta_roundHour, .ref ta_gunClock, .ref ta_gunHour, .ref tau]))] := hD
  clear hPc hDc hKc hFc hP1 hD1 hk1 hz1 ht hvm
  have hw : r_8 = -2147483648 := hw
  subst r_8
  refine lv_aload_n hx hb dL_law_1179 rfl (lv_at hl 2 rfl) ?_
  refine lv_aload_n hx hb dL_law_1180 rfl (lv_at hl 4 rfl) ?_
  refine lv_iload hx hb dL_law_1181 (lv_at hl 0 rfl) ?_
  refine lv_iconst (v := 1) hx hb dL_law_1183 (by decide) ?_
  refine lv_iadd hx hb dL_law_1184 ?_
  refine lv_topi (fun z_9 ez_9 => ?_)
  obtain rfl : z_9 = 1 := ez_9.trans (by decide)
  refine va_sld hx hb hX hbl hbA hS (pk_in 1 7 (by decide) (by decide) (by decide)) dL_law_1185 ?_
  refine lv_topi (fun z_10 ez_10 => ?_)
  replace ez_10 : z_10 = xs 1 := ez_10
  subst z_10
  refine lv_aload_n hx hb dL_law_1186 rfl (lv_at hl 4 rfl) ?_
  refine lv_iload hx hb dL_law_1187 (lv_at hl 0 rfl) ?_
  refine lv_iconst (v := 2) hx hb dL_law_1189 (by decide) ?_
  refine lv_iadd hx hb dL_law_1190 ?_
  refine lv_topi (fun z_11 ez_11 => ?_)
  obtain rfl : z_11 = 2 := ez_11.trans (by decide)
  refine va_sld hx hb hX hbl hbA hS (pk_in 2 7 (by decide) (by decide) (by decide)) dL_law_1191 ?_
  refine lv_topi (fun z_12 ez_12 => ?_)
  replace ez_12 : z_12 = xs 2 := ez_12
  subst z_12
  refine lv_aload_n hx hb dL_law_1192 rfl (lv_at hl 4 rfl) ?_
  refine lv_iload hx hb dL_law_1193 (lv_at hl 0 rfl) ?_
  refine lv_iconst (v := 3) hx hb dL_law_1195 (by decide) ?_
  refine lv_iadd hx hb dL_law_1196 ?_
  refine lv_topi (fun z_13 ez_13 => ?_)
  obtain rfl : z_13 = 3 := ez_13.trans (by decide)
  refine va_sld hx hb hX hbl hbA hS (pk_in 3 7 (by decide) (by decide) (by decide)) dL_law_1197 ?_
  refine lv_topi (fun z_14 ez_14 => ?_)
  replace ez_14 : z_14 = xs 3 := ez_14
  subst z_14
  have hPc := hP.sub (ws' := [(mm, .inr (11, [.int 0, .ref mm_tape, .int 0, .ref mm_number, .ref mm_clockName, .ref mm_clockOff, .ref mm_clockGain, .ref mm_clockRough, .ref mm_personName, .ref mm_personOff, .ref mm_personGain, .ref mm_personRough, .ref mm_custom, .ref mm_customA, .ref mm_customB, .ref mm_ruleFrom, .ref mm_ruleTo, .ref mm_roundOf, .ref mm_roundAt, .ref mm_roundHour, .ref mm_gunAt, .ref mm_gunHour, .ref mm_knotSort, .ref mm_knotValue, .int 0, .int 0, .int 0, .int 0, .int 0, .int 0, .int 0, .int 0, .int 0, .int (-1), .int 0, .int 0, .int 0, .int 0, .int 0, .int 0, .int 0, .int 0, .int 0, .int 0, .int 0, .int 0, .ref mm_start, .ref mm_off, .ref mm_last, .ref mm_passed, .ref mm_kept, .ref mm_keptMany, .int 0, .int 0, .ref mm_history, .ref mm_names, .ref mm_worked, .int 0, .int 0, .int (-1), .ref mm_readThing, .ref mm_readHour, .ref mm_readLow, .ref mm_readHigh, .int 0, .int 0, .int 0, .ref mm_imageOff, .ref mm_imageLast, .ref mm_imagePassed, .ref mm_imageKept, .ref mm_imageMany, .ref mm_imageHistory])), (mm_number, .inl (k_mm_number, 10, .inl (fun _ => 0)))]) [0, 1] rfl
  have hDc := hD.sub (ws' := [(mm, .inr (11, [.int 0, .ref mm_tape, .int 0, .ref mm_number, .ref mm_clockName, .ref mm_clockOff, .ref mm_clockGain, .ref mm_clockRough, .ref mm_personName, .ref mm_personOff, .ref mm_personGain, .ref mm_personRough, .ref mm_custom, .ref mm_customA, .ref mm_customB, .ref mm_ruleFrom, .ref mm_ruleTo, .ref mm_roundOf, .ref mm_roundAt, .ref mm_roundHour, .ref mm_gunAt, .ref mm_gunHour, .ref mm_knotSort, .ref mm_knotValue, .int 0, .int 0, .int 0, .int 0, .int 0, .int 0, .int 0, .int 0, .int 0, .int (-1), .int 0, .int 0, .int 0, .int 0, .int 0, .int 0, .int 0, .int 0, .int 0, .int 0, .int 0, .int 0, .ref mm_start, .ref mm_off, .ref mm_last, .ref mm_passed, .ref mm_kept, .ref mm_keptMany, .int 0, .int 0, .ref mm_history, .ref mm_names, .ref mm_worked, .int 0, .int 0, .int (-1), .ref mm_readThing, .ref mm_readHour, .ref mm_readLow, .ref mm_readHigh, .int 0, .int 0, .int 0, .ref mm_imageOff, .ref mm_imageLast, .ref mm_imagePassed, .ref mm_imageKept, .ref mm_imageMany, .ref mm_imageHistory])), (mm_number, .inl (k_mm_number, 10, .inl (fun _ => 0)))]) [0, 1] (by decide) rfl
  have hKc := hK.sub (tys' := [(k_mm_number, .int)]) [0] rfl
  have hFc := va_free (wc := [(mm, .inr (11, [.int 0, .ref mm_tape, .int 0, .ref mm_number, .ref mm_clockName, .ref mm_clockOff, .ref mm_clockGain, .ref mm_clockRough, .ref mm_personName, .ref mm_personOff, .ref mm_personGain, .ref mm_personRough, .ref mm_custom, .ref mm_customA, .ref mm_customB, .ref mm_ruleFrom, .ref mm_ruleTo, .ref mm_roundOf, .ref mm_roundAt, .ref mm_roundHour, .ref mm_gunAt, .ref mm_gunHour, .ref mm_knotSort, .ref mm_knotValue, .int 0, .int 0, .int 0, .int 0, .int 0, .int 0, .int 0, .int 0, .int 0, .int (-1), .int 0, .int 0, .int 0, .int 0, .int 0, .int 0, .int 0, .int 0, .int 0, .int 0, .int 0, .int 0, .ref mm_start, .ref mm_off, .ref mm_last, .ref mm_passed, .ref mm_kept, .ref mm_keptMany, .int 0, .int 0, .ref mm_history, .ref mm_names, .ref mm_worked, .int 0, .int 0, .int (-1), .ref mm_readThing, .ref mm_readHour, .ref mm_readLow, .ref mm_readHigh, .int 0, .int 0, .int 0, .ref mm_imageOff, .ref mm_imageLast, .ref mm_imagePassed, .ref mm_imageKept, .ref mm_imageMany, .ref mm_imageHistory])), (mm_number, .inl (k_mm_number, 10, .inl (fun _ => 0)))]) hD hS hA [0, 1] rfl
  have := (by decide : (0 : Int32).toInt = 0)
  have := (by decide : (0 : Int32).toInt = 0)
  have := (by decide : (0 : Int32).toInt = 0)
  have := (by decide : (0 : Int32).toInt = 0)
  have := (by decide : (0 : Int32).toInt = 0)
  have := (by decide : (0 : Int32).toInt = 0)
  have := (by decide : (0 : Int32).toInt = 0)
  have := (by decide : (0 : Int32).toInt = 0)
  have := (by decide : (0 : Int32).toInt = 0)
  have := (by decide : (0 : Int32).toInt = 0)
  have := (by decide : (0 : Int32).toInt = 0)
  have := (by decide : ((-1) : Int32).toInt = -1)
  have := (by decide : (0 : Int32).toInt = 0)
  have := (by decide : (0 : Int32).toInt = 0)
  have := (by decide : (0 : Int32).toInt = 0)
  have := (by decide : (0 : Int32).toInt = 0)
  have := (by decide : (0 : Int32).toInt = 0)
  have := (by decide : (0 : Int32).toInt = 0)
  have := (by decide : (0 : Int32).toInt = 0)
  have := (by decide : (0 : Int32).toInt = 0)
  have := (by decide : (0 : Int32).toInt = 0)
  have := (by decide : (0 : Int32).toInt = 0)
  have := (by decide : (0 : Int32).toInt = 0)
  have := (by decide : (0 : Int32).toInt = 0)
  have := (by decide : (0 : Int32).toInt = 0)
  have := (by decide : (0 : Int32).toInt = 0)
  have := (by decide : (0 : Int32).toInt = 0)
  have := (by decide : (0 : Int32).toInt = 0)
  have := (by decide : ((-1) : Int32).toInt = -1)
  have := (by decide : (0 : Int32).toInt = 0)
  have := (by decide : (0 : Int32).toInt = 0)
  have := (by decide : (0 : Int32).toInt = 0)
  refine va_calli (va_runV (As := [.int (xs 1), .int (xs 2), .int (xs 3)]) (rest := [.int (-2147483648)]) ⟨hx, hb, hml, hown, hT⟩ (c_X11_other l dC dI H.size mm (xs 1) (xs 2) (xs 3) (0 : Int32) mm_tape (0 : Int32) mm_number mm_clockName mm_clockOff mm_clockGain mm_clockRough mm_personName mm_personOff mm_personGain mm_personRough mm_custom mm_customA mm_customB mm_ruleFrom mm_ruleTo mm_roundOf mm_roundAt mm_roundHour mm_gunAt mm_gunHour mm_knotSort mm_knotValue (0 : Int32) (0 : Int32) (0 : Int32) (0 : Int32) (0 : Int32) (0 : Int32) (0 : Int32) (0 : Int32) (0 : Int32) ((-1) : Int32) (0 : Int32) (0 : Int32) (0 : Int32) (0 : Int32) (0 : Int32) (0 : Int32) (0 : Int32) (0 : Int32) (0 : Int32) (0 : Int32) (0 : Int32) (0 : Int32) mm_start mm_off mm_last mm_passed mm_kept mm_keptMany (0 : Int32) (0 : Int32) mm_history mm_names mm_worked (0 : Int32) (0 : Int32) ((-1) : Int32) mm_readThing mm_readHour mm_readLow mm_readHigh (0 : Int32) (0 : Int32) (0 : Int32) mm_imageOff mm_imageLast mm_imagePassed mm_imageKept mm_imageMany mm_imageHistory k_mm_number (fun _ => 0) (fun _ => rfl)) (cwV 3 hT (gwV mw_8_134 mw_8_135 mw_8_136 mw_1_16 mw_8_137) rfl rfl rfl (by decide +kernel) ⟨Nat.le_of_ble_eq_true rfl, Nat.le_of_ble_eq_true rfl⟩) ⟨fun a U g mk q => by obtain ⟨q0, q1, qP, qK, qD⟩ := q; exact ⟨q0, q1, qP, va_K.moved (u := U) (U := U.calling g mk a) (Vm.Alike.refl U.vm) qK, qD⟩, va_recv hK hP (ci := 11) (q0 := 0) rfl rfl, fun U hU hW => ⟨rfl, by rw [hU], by rw [hU]; exact hPc, va_K.moved hW.alike hKc, hDc.weaken (fun _ _ _ _ => trivial)⟩⟩ rfl rfl hl.1 rfl (lv_room (Nat.le_of_ble_eq_true rfl)) dL_law_1198 ⟨Nat.le_of_ble_eq_true rfl, Nat.le_of_ble_eq_true rfl⟩) hS (fun q _ h => hFc q h) hFc (fun r_16 u t H1 locs ht hvm hw hB hz1 hk1 hS => ?_)
  obtain ⟨hP1, hD1⟩ := hB
  rw [ht] at hP1
  obtain ⟨hP, hD⟩ := va_join (wr := [(xx, .inr (10, [.ref rr, .ref ta, .ref tb, .ref pa, .ref pb, .ref cn, .ref ci, .int 0, .ref cp, .ref ct, .ref hs, .ref rd, .ref wy, .ref ea, .ref eb])), (ta, .inr (8, [.int 0, .int 0, .int 0, .int 0, .int 0, .ref ta_name, .ref ta_first, .ref ta_gain, .ref ta_rough, .ref ta_custom, .ref ta_part, .ref ta_whole, .ref ta_roundPerson, .ref ta_roundClock, .ref ta_roundHour, .ref ta_gunClock, .ref ta_gunHour, .ref tau]))]) (w1 := [(mm, .inr (11, [.int 0, .ref mm_tape, .int 0, .ref mm_number, .ref mm_clockName, .ref mm_clockOff, .ref mm_clockGain, .ref mm_clockRough, .ref mm_personName, .ref mm_personOff, .ref mm_personGain, .ref mm_personRough, .ref mm_custom, .ref mm_customA, .ref mm_customB, .ref mm_ruleFrom, .ref mm_ruleTo, .ref mm_roundOf, .ref mm_roundAt, .ref mm_roundHour, .ref mm_gunAt, .ref mm_gunHour, .ref mm_knotSort, .ref mm_knotValue, .int 0, .int 0, .int 0, .int 0, .int 0, .int 0, .int 0, .int 0, .int 0, .int (-1), .int 0, .int 0, .int 0, .int 0, .int 0, .int 0, .int 0, .int 0, .int 0, .int 0, .int 0, .int 0, .ref mm_start, .ref mm_off, .ref mm_last, .ref mm_passed, .ref mm_kept, .ref mm_keptMany, .int 0, .int 0, .ref mm_history, .ref mm_names, .ref mm_worked, .int 0, .int 0, .int (-1), .ref mm_readThing, .ref mm_readHour, .ref mm_readLow, .ref mm_readHigh, .int 0, .int 0, .int 0, .ref mm_imageOff, .ref mm_imageLast, .ref mm_imagePassed, .ref mm_imageKept, .ref mm_imageMany, .ref mm_imageHistory])), (mm_number, .inl (k_mm_number, 10, .inl (fun _ => 0)))]) hP hD [0, 1] [2, 3] rfl rfl (by decide) (by decide) hk1 hFc hP1 hD1
  generalize H1 = H at hP hS ⊢
  have hP : va_P (dC, dI) vwCl [(xx, .inr (10, [.ref rr, .ref ta, .ref tb, .ref pa, .ref pb, .ref cn, .ref ci, .int 0, .ref cp, .ref ct, .ref hs, .ref rd, .ref wy, .ref ea, .ref eb])), (ta, .inr (8, [.int 0, .int 0, .int 0, .int 0, .int 0, .ref ta_name, .ref ta_first, .ref ta_gain, .ref ta_rough, .ref ta_custom, .ref ta_part, .ref ta_whole, .ref ta_roundPerson, .ref ta_roundClock, .ref ta_roundHour, .ref ta_gunClock, .ref ta_gunHour, .ref tau])), (mm, .inr (11, [.int 0, .ref mm_tape, .int 0, .ref mm_number, .ref mm_clockName, .ref mm_clockOff, .ref mm_clockGain, .ref mm_clockRough, .ref mm_personName, .ref mm_personOff, .ref mm_personGain, .ref mm_personRough, .ref mm_custom, .ref mm_customA, .ref mm_customB, .ref mm_ruleFrom, .ref mm_ruleTo, .ref mm_roundOf, .ref mm_roundAt, .ref mm_roundHour, .ref mm_gunAt, .ref mm_gunHour, .ref mm_knotSort, .ref mm_knotValue, .int 0, .int 0, .int 0, .int 0, .int 0, .int 0, .int 0, .int 0, .int 0, .int (-1), .int 0, .int 0, .int 0, .int 0, .int 0, .int 0, .int 0, .int 0, .int 0, .int 0, .int 0, .int 0, .ref mm_start, .ref mm_off, .ref mm_last, .ref mm_passed, .ref mm_kept, .ref mm_keptMany, .int 0, .int 0, .ref mm_history, .ref mm_names, .ref mm_worked, .int 0, .int 0, .int (-1), .ref mm_readThing, .ref mm_readHour, .ref mm_readLow, .ref mm_readHigh, .int 0, .int 0, .int 0, .ref mm_imageOff, .ref mm_imageLast, .ref mm_imagePassed, .ref mm_imageKept, .ref mm_imageMany, .ref mm_imageHistory])), (mm_number, .inl (k_mm_number, 10, .inl (fun _ => 0)))] H := hP
  have hD : va_D A [(xx, .inr (10, [.ref rr, .ref ta, .ref tb, .ref pa, .ref pb, .ref cn, .ref ci, .int 0, .ref cp, .ref ct, .ref hs, .ref rd, .ref wy, .ref ea, .ref eb])), (ta, .inr (8, [.int 0, .int 0, .int 0, .int 0, .int 0, .ref ta_name, .ref ta_first, .ref ta_gain, .ref ta_rough, .ref ta_custom, .ref ta_part, .ref ta_whole, .ref ta_roundPerson, .ref ta_roundClock, .ref ta_roundHour, .ref ta_gunClock, .ref ta_gunHour, .ref tau])), (mm, .inr (11, [.int 0, .ref mm_tape, .int 0, .ref mm_number, .ref mm_clockName, .ref mm_clockOff, .ref mm_clockGain, .ref mm_clockRough, .ref mm_personName, .ref mm_personOff, .ref mm_personGain, .ref mm_personRough, .ref mm_custom, .ref mm_customA, .ref mm_customB, .ref mm_ruleFrom, .ref mm_ruleTo, .ref mm_roundOf, .ref mm_roundAt, .ref mm_roundHour, .ref mm_gunAt, .ref mm_gunHour, .ref mm_knotSort, .ref mm_knotValue, .int 0, .int 0, .int 0, .int 0, .int 0, .int 0, .int 0, .int 0, .int 0, .int (-1), .int 0, .int 0, .int 0, .int 0, .int 0, .int 0, .int 0, .int 0, .int 0, .int 0, .int 0, .int 0, .ref mm_start, .ref mm_off, .ref mm_last, .ref mm_passed, .ref mm_kept, .ref mm_keptMany, .int 0, .int 0, .ref mm_history, .ref mm_names, .ref mm_worked, .int 0, .int 0, .int (-1), .ref mm_readThing, .ref mm_readHour, .ref mm_readLow, .ref mm_readHigh, .int 0, .int 0, .int 0, .ref mm_imageOff, .ref mm_imageLast, .ref mm_imagePassed, .ref mm_imageKept, .ref mm_imageMany, .ref mm_imageHistory])), (mm_number, .inl (k_mm_number, 10, .inl (fun _ => 0)))] := hD
  clear hPc hDc hKc hFc hP1 hD1 hk1 hz1 ht hvm
  have hw : r_16 = -2147483648 := hw
  subst r_16
  refine lv_icmp_eq (tgt := 1482) hx hb dL_law_1201 (by decide) (fun c_17 => ?_) (fun c_17 => absurd c_17 (by decide))
  refine lv_iinc (v := 7) (lv' := [(4, .int 7), (3, .ref oo), (2, .ref mm), (1, .ref xx), (0, .ref b)]) hx hb dL_law_1482 hl (k := 0) rfl (by decide) (by decide) rfl (fun ls hl => ?_)
  refine lv_goto (tgt := 23) hx hb dL_law_1485 (by decide) ?_
  refine lv_iload hx hb dL_law_23 (lv_at hl 0 rfl) ?_
  refine lv_aload_n hx hb dL_law_25 rfl (lv_at hl 4 rfl) ?_
  refine va_slen hx hb hX hbl hbA hS dL_law_26 ?_
  refine lv_topi (fun z_18 ez_18 => ?_)
  obtain rfl : z_18 = 7 := ez_18.trans (by decide)
  refine lv_bipush (v := 7) hx hb dL_law_27 (by decide) ?_
  refine lv_isub hx hb dL_law_29 ?_
  refine lv_topi (fun z_19 ez_19 => ?_)
  obtain rfl : z_19 = 0 := ez_19.trans (by decide)
  refine lv_icmp_gt (tgt := 1488) hx hb dL_law_30 (by decide) (fun c_20 => ?_) (fun c_20 => absurd c_20 (by decide))
  refine lv_iconst (v := 1) hx hb dL_law_1488 (by decide) ?_
  refine va_forget (fun q hq => hAo _ (hS.2.2 q hq)) ?_
  refine W.widen (k := 600002) (n := 7302232) (Nat.le_of_ble_eq_true rfl) (Nat.le_of_ble_eq_true rfl) ?_
  exact lw_ret hx hb hr hlocks dL_law_1489
set_option maxHeartbeats 4000000 in
set_option maxRecDepth 100000 in
theorem law_op_24 {p : Program} {l : Launch} {e : Env} {s : State} {m : MethodId} {below : List Frame} {meth : Method} {c : Code} {dC : Nat → ClassId} {dI : Nat → Nat → Nat} {b : Nat} {xs : Nat → Int32} {A : Nat → Prop} (C0 : lw_At p s m meth c b 7 xs) (hA : ∀ q, s.heap.size ≤ q → A q) (hbA : ¬ A b) (hAo : ∀ q, A q → s.heap.size ≤ q) {xx : Nat} {rr : Nat} {ta : Nat} {tb : Nat} {pa : Nat} {pb : Nat} {cn : Nat} {ci : Nat} {cp : Nat} {ct : Nat} {hs : Nat} {rd : Nat} {wy : Nat} {ea : Nat} {eb : Nat} {ta_name : Nat} {ta_first : Nat} {ta_gain : Nat} {ta_rough : Nat} {ta_custom : Nat} {ta_part : Nat} {ta_whole : Nat} {ta_roundPerson : Nat} {ta_roundClock : Nat} {ta_roundHour : Nat} {ta_gunClock : Nat} {ta_gunHour : Nat} {tau : Nat} {mm : Nat} {mm_tape : Nat} {mm_number : Nat} {mm_clockName : Nat} {mm_clockOff : Nat} {mm_clockGain : Nat} {mm_clockRough : Nat} {mm_personName : Nat} {mm_personOff : Nat} {mm_personGain : Nat} {mm_personRough : Nat} {mm_custom : Nat} {mm_customA : Nat} {mm_customB : Nat} {mm_ruleFrom : Nat} {mm_ruleTo : Nat} {mm_roundOf : Nat} {mm_roundAt : Nat} {mm_roundHour : Nat} {mm_gunAt : Nat} {mm_gunHour : Nat} {mm_knotSort : Nat} {mm_knotValue : Nat} {mm_start : Nat} {mm_off : Nat} {mm_last : Nat} {mm_passed : Nat} {mm_kept : Nat} {mm_keptMany : Nat} {mm_history : Nat} {mm_names : Nat} {mm_worked : Nat} {mm_readThing : Nat} {mm_readHour : Nat} {mm_readLow : Nat} {mm_readHigh : Nat} {mm_imageOff : Nat} {mm_imageLast : Nat} {mm_imagePassed : Nat} {mm_imageKept : Nat} {mm_imageMany : Nat} {mm_imageHistory : Nat} {k_mm_number : ClassId} {oo : Nat} {H : Heap} {locs : List Loc} {ls : Array Slot} (hK : va_K (dC, dI) vwCl [(k_mm_number, .int)] s) (hP : va_P (dC, dI) vwCl [(xx, .inr (10, [.ref rr, .ref ta, .ref tb, .ref pa, .ref pb, .ref cn, .ref ci, .int 0, .ref cp, .ref ct, .ref hs, .ref rd, .ref wy, .ref ea, .ref eb])), (ta, .inr (8, [.int 0, .int 0, .int 0, .int 0, .int 0, .ref ta_name, .ref ta_first, .ref ta_gain, .ref ta_rough, .ref ta_custom, .ref ta_part, .ref ta_whole, .ref ta_roundPerson, .ref ta_roundClock, .ref ta_roundHour, .ref ta_gunClock, .ref ta_gunHour, .ref tau])), (mm, .inr (11, [.int 0, .ref mm_tape, .int 0, .ref mm_number, .ref mm_clockName, .ref mm_clockOff, .ref mm_clockGain, .ref mm_clockRough, .ref mm_personName, .ref mm_personOff, .ref mm_personGain, .ref mm_personRough, .ref mm_custom, .ref mm_customA, .ref mm_customB, .ref mm_ruleFrom, .ref mm_ruleTo, .ref mm_roundOf, .ref mm_roundAt, .ref mm_roundHour, .ref mm_gunAt, .ref mm_gunHour, .ref mm_knotSort, .ref mm_knotValue, .int 0, .int 0, .int 0, .int 0, .int 0, .int 0, .int 0, .int 0, .int 0, .int (-1), .int 0, .int 0, .int 0, .int 0, .int 0, .int 0, .int 0, .int 0, .int 0, .int 0, .int 0, .int 0, .ref mm_start, .ref mm_off, .ref mm_last, .ref mm_passed, .ref mm_kept, .ref mm_keptMany, .int 0, .int 0, .ref mm_history, .ref mm_names, .ref mm_worked, .int 0, .int 0, .int (-1), .ref mm_readThing, .ref mm_readHour, .ref mm_readLow, .ref mm_readHigh, .int 0, .int 0, .int 0, .ref mm_imageOff, .ref mm_imageLast, .ref mm_imagePassed, .ref mm_imageKept, .ref mm_imageMany, .ref mm_imageHistory])), (mm_number, .inl (k_mm_number, 10, .inl (fun _ => 0)))] H) (hD : va_D A [(xx, .inr (10, [.ref rr, .ref ta, .ref tb, .ref pa, .ref pb, .ref cn, .ref ci, .int 0, .ref cp, .ref ct, .ref hs, .ref rd, .ref wy, .ref ea, .ref eb])), (ta, .inr (8, [.int 0, .int 0, .int 0, .int 0, .int 0, .ref ta_name, .ref ta_first, .ref ta_gain, .ref ta_rough, .ref ta_custom, .ref ta_part, .ref ta_whole, .ref ta_roundPerson, .ref ta_roundClock, .ref ta_roundHour, .ref ta_gunClock, .ref ta_gunHour, .ref tau])), (mm, .inr (11, [.int 0, .ref mm_tape, .int 0, .ref mm_number, .ref mm_clockName, .ref mm_clockOff, .ref mm_clockGain, .ref mm_clockRough, .ref mm_personName, .ref mm_personOff, .ref mm_personGain, .ref mm_personRough, .ref mm_custom, .ref mm_customA, .ref mm_customB, .ref mm_ruleFrom, .ref mm_ruleTo, .ref mm_roundOf, .ref mm_roundAt, .ref mm_roundHour, .ref mm_gunAt, .ref mm_gunHour, .ref mm_knotSort, .ref mm_knotValue, .int 0, .int 0, .int 0, .int 0, .int 0, .int 0, .int 0, .int 0, .int 0, .int (-1), .int 0, .int 0, .int 0, .int 0, .int 0, .int 0, .int 0, .int 0, .int 0, .int 0, .int 0, .int 0, .ref mm_start, .ref mm_off, .ref mm_last, .ref mm_passed, .ref mm_kept, .ref mm_keptMany, .int 0, .int 0, .ref mm_history, .ref mm_names, .ref mm_worked, .int 0, .int 0, .int (-1), .ref mm_readThing, .ref mm_readHour, .ref mm_readLow, .ref mm_readHigh, .int 0, .int 0, .int 0, .ref mm_imageOff, .ref mm_imageLast, .ref mm_imagePassed, .ref mm_imageKept, .ref mm_imageMany, .ref mm_imageHistory])), (mm_number, .inl (k_mm_number, 10, .inl (fun _ => 0)))]) (hS : va_S A s.heap H locs) (hl : lv_has ls 7 [(4, .int 0), (3, .ref oo), (2, .ref mm), (1, .ref xx), (0, .ref b)]) : W p l e room_1 s m #[Value.ref b] below meth c H locs 160 67979 (lw_Z below #[Value.ref b] s) (F0 m 1206 ls []) := by
  obtain ⟨hx, hb, hr, hml, hown, hts, hX, hbl, hlocks, hgv⟩ := C0
  have hT : ∀ w ∈ pw_T, w.before #[Value.ref b] s = true := fun w h => hts w (List.mem_filter.mp h).1
  have hown : s.vm.findClass RL = some m.cls := hown
  refine lv_aload_n hx hb dL_law_1206 rfl (lv_at hl 3 rfl) ?_
  refine lv_aload_n hx hb dL_law_1207 rfl (lv_at hl 4 rfl) ?_
  refine lv_iload hx hb dL_law_1208 (lv_at hl 0 rfl) ?_
  refine lv_iconst (v := 1) hx hb dL_law_1210 (by decide) ?_
  refine lv_iadd hx hb dL_law_1211 ?_
  refine lv_topi (fun z_1 ez_1 => ?_)
  obtain rfl : z_1 = 1 := ez_1.trans (by decide)
  refine va_sld hx hb hX hbl hbA hS (pk_in 1 7 (by decide) (by decide) (by decide)) dL_law_1212 ?_
  refine lv_topi (fun z_2 ez_2 => ?_)
  replace ez_2 : z_2 = xs 1 := ez_2
  subst z_2
  have hPc := hP.sub (ws' := [(xx, .inr (10, [.ref rr, .ref ta, .ref tb, .ref pa, .ref pb, .ref cn, .ref ci, .int 0, .ref cp, .ref ct, .ref hs, .ref rd, .ref wy, .ref ea, .ref eb])), (ta, .inr (8, [.int 0, .int 0, .int 0, .int 0, .int 0, .ref ta_name, .ref ta_first, .ref ta_gain, .ref ta_rough, .ref ta_custom, .ref ta_part, .ref ta_whole, .ref ta_roundPerson, .ref ta_roundClock, .ref ta_roundHour, .ref ta_gunClock, .ref ta_gunHour, .ref tau]))]) [0, 1] rfl
  have hDc := hD.sub (ws' := [(xx, .inr (10, [.ref rr, .ref ta, .ref tb, .ref pa, .ref pb, .ref cn, .ref ci, .int 0, .ref cp, .ref ct, .ref hs, .ref rd, .ref wy, .ref ea, .ref eb])), (ta, .inr (8, [.int 0, .int 0, .int 0, .int 0, .int 0, .ref ta_name, .ref ta_first, .ref ta_gain, .ref ta_rough, .ref ta_custom, .ref ta_part, .ref ta_whole, .ref ta_roundPerson, .ref ta_roundClock, .ref ta_roundHour, .ref ta_gunClock, .ref ta_gunHour, .ref tau]))]) [0, 1] (by decide) rfl
  have hKc := hK.sub (tys' := []) [] rfl
  have hFc := va_free (wc := [(xx, .inr (10, [.ref rr, .ref ta, .ref tb, .ref pa, .ref pb, .ref cn, .ref ci, .int 0, .ref cp, .ref ct, .ref hs, .ref rd, .ref wy, .ref ea, .ref eb])), (ta, .inr (8, [.int 0, .int 0, .int 0, .int 0, .int 0, .ref ta_name, .ref ta_first, .ref ta_gain, .ref ta_rough, .ref ta_custom, .ref ta_part, .ref ta_whole, .ref ta_roundPerson, .ref ta_roundClock, .ref ta_roundHour, .ref ta_gunClock, .ref ta_gunHour, .ref tau]))]) hD hS hA [0, 1] rfl
  refine va_calli (va_runV (As := [.int (xs 1)]) (rest := []) ⟨hx, hb, hml, hown, hT⟩ (c_X10_agree l dC dI H.size xx (xs 1) rr ta tb pa pb cn ci (0 : Int32) cp ct hs rd wy ea eb (0 : Int32) (0 : Int32) (0 : Int32) ta_name ta_first ta_gain ta_rough ta_custom ta_part ta_whole ta_roundPerson ta_roundClock ta_roundHour ta_gunClock ta_gunHour tau ) (cwV 1 hT (gwV mw_5_102 mw_5_103 mw_5_104 mw_1_1 mw_5_105) rfl rfl rfl (by decide +kernel) ⟨Nat.le_of_ble_eq_true rfl, Nat.le_of_ble_eq_true rfl⟩) ⟨fun a U g mk q => by obtain ⟨q0, q1, qP, qK, qD⟩ := q; exact ⟨q0, q1, qP, va_K.moved (u := U) (U := U.calling g mk a) (Vm.Alike.refl U.vm) qK, qD⟩, va_recv hK hP (ci := 10) (q0 := 0) rfl rfl, fun U hU hW => ⟨rfl, by rw [hU], by rw [hU]; exact hPc, va_K.moved hW.alike hKc, hDc.weaken (fun _ _ _ _ => trivial)⟩⟩ rfl rfl hl.1 rfl (lv_room (Nat.le_of_ble_eq_true rfl)) dL_law_1213 ⟨Nat.le_of_ble_eq_true rfl, Nat.le_of_ble_eq_true rfl⟩) hS (fun q _ h => hFc q h) hFc (fun r_4 u t H1 locs ht hvm hw hB hz1 hk1 hS => ?_)
  obtain ⟨hP1, hD1⟩ := hB
  rw [ht] at hP1
  obtain ⟨hP, hD⟩ := va_join (wr := [(mm, .inr (11, [.int 0, .ref mm_tape, .int 0, .ref mm_number, .ref mm_clockName, .ref mm_clockOff, .ref mm_clockGain, .ref mm_clockRough, .ref mm_personName, .ref mm_personOff, .ref mm_personGain, .ref mm_personRough, .ref mm_custom, .ref mm_customA, .ref mm_customB, .ref mm_ruleFrom, .ref mm_ruleTo, .ref mm_roundOf, .ref mm_roundAt, .ref mm_roundHour, .ref mm_gunAt, .ref mm_gunHour, .ref mm_knotSort, .ref mm_knotValue, .int 0, .int 0, .int 0, .int 0, .int 0, .int 0, .int 0, .int 0, .int 0, .int (-1), .int 0, .int 0, .int 0, .int 0, .int 0, .int 0, .int 0, .int 0, .int 0, .int 0, .int 0, .int 0, .ref mm_start, .ref mm_off, .ref mm_last, .ref mm_passed, .ref mm_kept, .ref mm_keptMany, .int 0, .int 0, .ref mm_history, .ref mm_names, .ref mm_worked, .int 0, .int 0, .int (-1), .ref mm_readThing, .ref mm_readHour, .ref mm_readLow, .ref mm_readHigh, .int 0, .int 0, .int 0, .ref mm_imageOff, .ref mm_imageLast, .ref mm_imagePassed, .ref mm_imageKept, .ref mm_imageMany, .ref mm_imageHistory])), (mm_number, .inl (k_mm_number, 10, .inl (fun _ => 0)))]) (w1 := [(xx, .inr (10, [.ref rr, .ref ta, .ref tb, .ref pa, .ref pb, .ref cn, .ref ci, .int 0, .ref cp, .ref ct, .ref hs, .ref rd, .ref wy, .ref ea, .ref eb])), (ta, .inr (8, [.int 0, .int 0, .int 0, .int 0, .int 0, .ref ta_name, .ref ta_first, .ref ta_gain, .ref ta_rough, .ref ta_custom, .ref ta_part, .ref ta_whole, .ref ta_roundPerson, .ref ta_roundClock, .ref ta_roundHour, .ref ta_gunClock, .ref ta_gunHour, .ref tau]))]) hP hD [0, 1] [2, 3] rfl rfl (by decide) (by decide) hk1 hFc hP1 hD1
  generalize H1 = H at hP hS ⊢
  have hP : va_P (dC, dI) vwCl [(mm, .inr (11, [.int 0, .ref mm_tape, .int 0, .ref mm_number, .ref mm_clockName, .ref mm_clockOff, .ref mm_clockGain, .ref mm_clockRough, .ref mm_personName, .ref mm_personOff, .ref mm_personGain, .ref mm_personRough, .ref mm_custom, .ref mm_customA, .ref mm_customB, .ref mm_ruleFrom, .ref mm_ruleTo, .ref mm_roundOf, .ref mm_roundAt, .ref mm_roundHour, .ref mm_gunAt, .ref mm_gunHour, .ref mm_knotSort, .ref mm_knotValue, .int 0, .int 0, .int 0, .int 0, .int 0, .int 0, .int 0, .int 0, .int 0, .int (-1), .int 0, .int 0, .int 0, .int 0, .int 0, .int 0, .int 0, .int 0, .int 0, .int 0, .int 0, .int 0, .ref mm_start, .ref mm_off, .ref mm_last, .ref mm_passed, .ref mm_kept, .ref mm_keptMany, .int 0, .int 0, .ref mm_history, .ref mm_names, .ref mm_worked, .int 0, .int 0, .int (-1), .ref mm_readThing, .ref mm_readHour, .ref mm_readLow, .ref mm_readHigh, .int 0, .int 0, .int 0, .ref mm_imageOff, .ref mm_imageLast, .ref mm_imagePassed, .ref mm_imageKept, .ref mm_imageMany, .ref mm_imageHistory])), (mm_number, .inl (k_mm_number, 10, .inl (fun _ => 0))), (xx, .inr (10, [.ref rr, .ref ta, .ref tb, .ref pa, .ref pb, .ref cn, .ref ci, .int 0, .ref cp, .ref ct, .ref hs, .ref rd, .ref wy, .ref ea, .ref eb])), (ta, .inr (8, [.int 0, .int 0, .int 0, .int 0, .int 0, .ref ta_name, .ref ta_first, .ref ta_gain, .ref ta_rough, .ref ta_custom, .ref ta_part, .ref ta_whole, .ref ta_roundPerson, .ref ta_roundClock, .ref ta_roundHour, .ref ta_gunClock, .ref ta_gunHour, .ref tau]))] H := hP
  have hD : va_D A [(mm, .inr (11, [.int 0, .ref mm_tape, .int 0, .ref mm_number, .ref mm_clockName, .ref mm_clockOff, .ref mm_clockGain, .ref mm_clockRough, .ref mm_personName, .ref mm_personOff, .ref mm_personGain, .ref mm_personRough, .ref mm_custom, .ref mm_customA, .ref mm_customB, .ref mm_ruleFrom, .ref mm_ruleTo, .ref mm_roundOf, .ref mm_roundAt, .ref mm_roundHour, .ref mm_gunAt, .ref mm_gunHour, .ref mm_knotSort, .ref mm_knotValue, .int 0, .int 0, .int 0, .int 0, .int 0, .int 0, .int 0, .int 0, .int 0, .int (-1), .int 0, .int 0, .int 0, .int 0, .int 0, .int 0, .int 0, .int 0, .int 0, .int 0, .int 0, .int 0, .ref mm_start, .ref mm_off, .ref mm_last, .ref mm_passed, .ref mm_kept, .ref mm_keptMany, .int 0, .int 0, .ref mm_history, .ref mm_names, .ref mm_worked, .int 0, .int 0, .int (-1), .ref mm_readThing, .ref mm_readHour, .ref mm_readLow, .ref mm_readHigh, .int 0, .int 0, .int 0, .ref mm_imageOff, .ref mm_imageLast, .ref mm_imagePassed, .ref mm_imageKept, .ref mm_imageMany, .ref mm_imageHistory])), (mm_number, .inl (k_mm_number, 10, .inl (fun _ => 0))), (xx, .inr (10, [.ref rr, .ref ta, .ref tb, .ref pa, .ref pb, .ref cn, .ref ci, .int 0, .ref cp, .ref ct, .ref hs, .ref rd, .ref wy, .ref ea, .ref eb])), (ta, .inr (8, [.int 0, .int 0, .int 0, .int 0, .int 0, .ref ta_name, .ref ta_first, .ref ta_gain, .ref ta_rough, .ref ta_custom, .ref ta_part, .ref ta_whole, .ref ta_roundPerson, .ref ta_roundClock, .ref ta_roundHour, .ref ta_gunClock, .ref ta_gunHour, .ref tau]))] := hD
  clear hPc hDc hKc hFc hP1 hD1 hk1 hz1 ht hvm
  have hw : r_4 = -1 := hw
  subst r_4
  refine lv_aload_n hx hb dL_law_1216 rfl (lv_at hl 2 rfl) ?_
  refine lv_aload_n hx hb dL_law_1217 rfl (lv_at hl 4 rfl) ?_
  refine lv_iload hx hb dL_law_1218 (lv_at hl 0 rfl) ?_
  refine lv_iconst (v := 1) hx hb dL_law_1220 (by decide) ?_
  refine lv_iadd hx hb dL_law_1221 ?_
  refine lv_topi (fun z_5 ez_5 => ?_)
  obtain rfl : z_5 = 1 := ez_5.trans (by decide)
  refine va_sld hx hb hX hbl hbA hS (pk_in 1 7 (by decide) (by decide) (by decide)) dL_law_1222 ?_
  refine lv_topi (fun z_6 ez_6 => ?_)
  replace ez_6 : z_6 = xs 1 := ez_6
  subst z_6
  have hPc := hP.sub (ws' := [(mm, .inr (11, [.int 0, .ref mm_tape, .int 0, .ref mm_number, .ref mm_clockName, .ref mm_clockOff, .ref mm_clockGain, .ref mm_clockRough, .ref mm_personName, .ref mm_personOff, .ref mm_personGain, .ref mm_personRough, .ref mm_custom, .ref mm_customA, .ref mm_customB, .ref mm_ruleFrom, .ref mm_ruleTo, .ref mm_roundOf, .ref mm_roundAt, .ref mm_roundHour, .ref mm_gunAt, .ref mm_gunHour, .ref mm_knotSort, .ref mm_knotValue, .int 0, .int 0, .int 0, .int 0, .int 0, .int 0, .int 0, .int 0, .int 0, .int (-1), .int 0, .int 0, .int 0, .int 0, .int 0, .int 0, .int 0, .int 0, .int 0, .int 0, .int 0, .int 0, .ref mm_start, .ref mm_off, .ref mm_last, .ref mm_passed, .ref mm_kept, .ref mm_keptMany, .int 0, .int 0, .ref mm_history, .ref mm_names, .ref mm_worked, .int 0, .int 0, .int (-1), .ref mm_readThing, .ref mm_readHour, .ref mm_readLow, .ref mm_readHigh, .int 0, .int 0, .int 0, .ref mm_imageOff, .ref mm_imageLast, .ref mm_imagePassed, .ref mm_imageKept, .ref mm_imageMany, .ref mm_imageHistory])), (mm_number, .inl (k_mm_number, 10, .inl (fun _ => 0)))]) [0, 1] rfl
  have hDc := hD.sub (ws' := [(mm, .inr (11, [.int 0, .ref mm_tape, .int 0, .ref mm_number, .ref mm_clockName, .ref mm_clockOff, .ref mm_clockGain, .ref mm_clockRough, .ref mm_personName, .ref mm_personOff, .ref mm_personGain, .ref mm_personRough, .ref mm_custom, .ref mm_customA, .ref mm_customB, .ref mm_ruleFrom, .ref mm_ruleTo, .ref mm_roundOf, .ref mm_roundAt, .ref mm_roundHour, .ref mm_gunAt, .ref mm_gunHour, .ref mm_knotSort, .ref mm_knotValue, .int 0, .int 0, .int 0, .int 0, .int 0, .int 0, .int 0, .int 0, .int 0, .int (-1), .int 0, .int 0, .int 0, .int 0, .int 0, .int 0, .int 0, .int 0, .int 0, .int 0, .int 0, .int 0, .ref mm_start, .ref mm_off, .ref mm_last, .ref mm_passed, .ref mm_kept, .ref mm_keptMany, .int 0, .int 0, .ref mm_history, .ref mm_names, .ref mm_worked, .int 0, .int 0, .int (-1), .ref mm_readThing, .ref mm_readHour, .ref mm_readLow, .ref mm_readHigh, .int 0, .int 0, .int 0, .ref mm_imageOff, .ref mm_imageLast, .ref mm_imagePassed, .ref mm_imageKept, .ref mm_imageMany, .ref mm_imageHistory])), (mm_number, .inl (k_mm_number, 10, .inl (fun _ => 0)))]) [0, 1] (by decide) rfl
  have hKc := hK.sub (tys' := [(k_mm_number, .int)]) [0] rfl
  have hFc := va_free (wc := [(mm, .inr (11, [.int 0, .ref mm_tape, .int 0, .ref mm_number, .ref mm_clockName, .ref mm_clockOff, .ref mm_clockGain, .ref mm_clockRough, .ref mm_personName, .ref mm_personOff, .ref mm_personGain, .ref mm_personRough, .ref mm_custom, .ref mm_customA, .ref mm_customB, .ref mm_ruleFrom, .ref mm_ruleTo, .ref mm_roundOf, .ref mm_roundAt, .ref mm_roundHour, .ref mm_gunAt, .ref mm_gunHour, .ref mm_knotSort, .ref mm_knotValue, .int 0, .int 0, .int 0, .int 0, .int 0, .int 0, .int 0, .int 0, .int 0, .int (-1), .int 0, .int 0, .int 0, .int 0, .int 0, .int 0, .int 0, .int 0, .int 0, .int 0, .int 0, .int 0, .ref mm_start, .ref mm_off, .ref mm_last, .ref mm_passed, .ref mm_kept, .ref mm_keptMany, .int 0, .int 0, .ref mm_history, .ref mm_names, .ref mm_worked, .int 0, .int 0, .int (-1), .ref mm_readThing, .ref mm_readHour, .ref mm_readLow, .ref mm_readHigh, .int 0, .int 0, .int 0, .ref mm_imageOff, .ref mm_imageLast, .ref mm_imagePassed, .ref mm_imageKept, .ref mm_imageMany, .ref mm_imageHistory])), (mm_number, .inl (k_mm_number, 10, .inl (fun _ => 0)))]) hD hS hA [0, 1] rfl
  have := (by decide : (0 : Int32).toInt = 0)
  have := (by decide : (0 : Int32).toInt = 0)
  have := (by decide : (0 : Int32).toInt = 0)
  have := (by decide : (0 : Int32).toInt = 0)
  have := (by decide : (0 : Int32).toInt = 0)
  have := (by decide : (0 : Int32).toInt = 0)
  have := (by decide : (0 : Int32).toInt = 0)
  have := (by decide : (0 : Int32).toInt = 0)
  have := (by decide : (0 : Int32).toInt = 0)
  have := (by decide : (0 : Int32).toInt = 0)
  have := (by decide : (0 : Int32).toInt = 0)
  have := (by decide : ((-1) : Int32).toInt = -1)
  have := (by decide : (0 : Int32).toInt = 0)
  have := (by decide : (0 : Int32).toInt = 0)
  have := (by decide : (0 : Int32).toInt = 0)
  have := (by decide : (0 : Int32).toInt = 0)
  have := (by decide : (0 : Int32).toInt = 0)
  have := (by decide : (0 : Int32).toInt = 0)
  have := (by decide : (0 : Int32).toInt = 0)
  have := (by decide : (0 : Int32).toInt = 0)
  have := (by decide : (0 : Int32).toInt = 0)
  have := (by decide : (0 : Int32).toInt = 0)
  have := (by decide : (0 : Int32).toInt = 0)
  have := (by decide : (0 : Int32).toInt = 0)
  have := (by decide : (0 : Int32).toInt = 0)
  have := (by decide : (0 : Int32).toInt = 0)
  have := (by decide : (0 : Int32).toInt = 0)
  have := (by decide : (0 : Int32).toInt = 0)
  have := (by decide : ((-1) : Int32).toInt = -1)
  have := (by decide : (0 : Int32).toInt = 0)
  have := (by decide : (0 : Int32).toInt = 0)
  have := (by decide : (0 : Int32).toInt = 0)
  refine va_calli (va_runV (As := [.int (xs 1)]) (rest := [.int (-1)]) ⟨hx, hb, hml, hown, hT⟩ (c_X11_agree l dC dI H.size mm (xs 1) (0 : Int32) mm_tape (0 : Int32) mm_number mm_clockName mm_clockOff mm_clockGain mm_clockRough mm_personName mm_personOff mm_personGain mm_personRough mm_custom mm_customA mm_customB mm_ruleFrom mm_ruleTo mm_roundOf mm_roundAt mm_roundHour mm_gunAt mm_gunHour mm_knotSort mm_knotValue (0 : Int32) (0 : Int32) (0 : Int32) (0 : Int32) (0 : Int32) (0 : Int32) (0 : Int32) (0 : Int32) (0 : Int32) ((-1) : Int32) (0 : Int32) (0 : Int32) (0 : Int32) (0 : Int32) (0 : Int32) (0 : Int32) (0 : Int32) (0 : Int32) (0 : Int32) (0 : Int32) (0 : Int32) (0 : Int32) mm_start mm_off mm_last mm_passed mm_kept mm_keptMany (0 : Int32) (0 : Int32) mm_history mm_names mm_worked (0 : Int32) (0 : Int32) ((-1) : Int32) mm_readThing mm_readHour mm_readLow mm_readHigh (0 : Int32) (0 : Int32) (0 : Int32) mm_imageOff mm_imageLast mm_imagePassed mm_imageKept mm_imageMany mm_imageHistory k_mm_number (fun _ => 0) (fun _ => rfl)) (cwV 1 hT (gwV mw_8_138 mw_8_139 mw_8_140 mw_1_16 mw_8_141) rfl rfl rfl (by decide +kernel) ⟨Nat.le_of_ble_eq_true rfl, Nat.le_of_ble_eq_true rfl⟩) ⟨fun a U g mk q => by obtain ⟨q0, q1, qP, qK, qD⟩ := q; exact ⟨q0, q1, qP, va_K.moved (u := U) (U := U.calling g mk a) (Vm.Alike.refl U.vm) qK, qD⟩, va_recv hK hP (ci := 11) (q0 := 0) rfl rfl, fun U hU hW => ⟨rfl, by rw [hU], by rw [hU]; exact hPc, va_K.moved hW.alike hKc, hDc.weaken (fun _ _ _ _ => trivial)⟩⟩ rfl rfl hl.1 rfl (lv_room (Nat.le_of_ble_eq_true rfl)) dL_law_1223 ⟨Nat.le_of_ble_eq_true rfl, Nat.le_of_ble_eq_true rfl⟩) hS (fun q _ h => hFc q h) hFc (fun r_8 u t H1 locs ht hvm hw hB hz1 hk1 hS => ?_)
  obtain ⟨hP1, hD1⟩ := hB
  rw [ht] at hP1
  obtain ⟨hP, hD⟩ := va_join (wr := [(xx, .inr (10, [.ref rr, .ref ta, .ref tb, .ref pa, .ref pb, .ref cn, .ref ci, .int 0, .ref cp, .ref ct, .ref hs, .ref rd, .ref wy, .ref ea, .ref eb])), (ta, .inr (8, [.int 0, .int 0, .int 0, .int 0, .int 0, .ref ta_name, .ref ta_first, .ref ta_gain, .ref ta_rough, .ref ta_custom, .ref ta_part, .ref ta_whole, .ref ta_roundPerson, .ref ta_roundClock, .ref ta_roundHour, .ref ta_gunClock, .ref ta_gunHour, .ref tau]))]) (w1 := [(mm, .inr (11, [.int 0, .ref mm_tape, .int 0, .ref mm_number, .ref mm_clockName, .ref mm_clockOff, .ref mm_clockGain, .ref mm_clockRough, .ref mm_personName, .ref mm_personOff, .ref mm_personGain, .ref mm_personRough, .ref mm_custom, .ref mm_customA, .ref mm_customB, .ref mm_ruleFrom, .ref mm_ruleTo, .ref mm_roundOf, .ref mm_roundAt, .ref mm_roundHour, .ref mm_gunAt, .ref mm_gunHour, .ref mm_knotSort, .ref mm_knotValue, .int 0, .int 0, .int 0, .int 0, .int 0, .int 0, .int 0, .int 0, .int 0, .int (-1), .int 0, .int 0, .int 0, .int 0, .int 0, .int 0, .int 0, .int 0, .int 0, .int 0, .int 0, .int 0, .ref mm_start, .ref mm_off, .ref mm_last, .ref mm_passed, .ref mm_kept, .ref mm_keptMany, .int 0, .int 0, .ref mm_history, .ref mm_names, .ref mm_worked, .int 0, .int 0, .int (-1), .ref mm_readThing, .ref mm_readHour, .ref mm_readLow, .ref mm_readHigh, .int 0, .int 0, .int 0, .ref mm_imageOff, .ref mm_imageLast, .ref mm_imagePassed, .ref mm_imageKept, .ref mm_imageMany, .ref mm_imageHistory])), (mm_number, .inl (k_mm_number, 10, .inl (fun _ => 0)))]) hP hD [0, 1] [2, 3] rfl rfl (by decide) (by decide) hk1 hFc hP1 hD1
  generalize H1 = H at hP hS ⊢
  have hP : va_P (dC, dI) vwCl [(xx, .inr (10, [.ref rr, .ref ta, .ref tb, .ref pa, .ref pb, .ref cn, .ref ci, .int 0, .ref cp, .ref ct, .ref hs, .ref rd, .ref wy, .ref ea, .ref eb])), (ta, .inr (8, [.int 0, .int 0, .int 0, .int 0, .int 0, .ref ta_name, .ref ta_first, .ref ta_gain, .ref ta_rough, .ref ta_custom, .ref ta_part, .ref ta_whole, .ref ta_roundPerson, .ref ta_roundClock, .ref ta_roundHour, .ref ta_gunClock, .ref ta_gunHour, .ref tau])), (mm, .inr (11, [.int 0, .ref mm_tape, .int 0, .ref mm_number, .ref mm_clockName, .ref mm_clockOff, .ref mm_clockGain, .ref mm_clockRough, .ref mm_personName, .ref mm_personOff, .ref mm_personGain, .ref mm_personRough, .ref mm_custom, .ref mm_customA, .ref mm_customB, .ref mm_ruleFrom, .ref mm_ruleTo, .ref mm_roundOf, .ref mm_roundAt, .ref mm_roundHour, .ref mm_gunAt, .ref mm_gunHour, .ref mm_knotSort, .ref mm_knotValue, .int 0, .int 0, .int 0, .int 0, .int 0, .int 0, .int 0, .int 0, .int 0, .int (-1), .int 0, .int 0, .int 0, .int 0, .int 0, .int 0, .int 0, .int 0, .int 0, .int 0, .int 0, .int 0, .ref mm_start, .ref mm_off, .ref mm_last, .ref mm_passed, .ref mm_kept, .ref mm_keptMany, .int 0, .int 0, .ref mm_history, .ref mm_names, .ref mm_worked, .int 0, .int 0, .int (-1), .ref mm_readThing, .ref mm_readHour, .ref mm_readLow, .ref mm_readHigh, .int 0, .int 0, .int 0, .ref mm_imageOff, .ref mm_imageLast, .ref mm_imagePassed, .ref mm_imageKept, .ref mm_imageMany, .ref mm_imageHistory])), (mm_number, .inl (k_mm_number, 10, .inl (fun _ => 0)))] H := hP
  have hD : va_D A [(xx, .inr (10, [.ref rr, .ref ta, .ref tb, .ref pa, .ref pb, .ref cn, .ref ci, .int 0, .ref cp, .ref ct, .ref hs, .ref rd, .ref wy, .ref ea, .ref eb])), (ta, .inr (8, [.int 0, .int 0, .int 0, .int 0, .int 0, .ref ta_name, .ref ta_first, .ref ta_gain, .ref ta_rough, .ref ta_custom, .ref ta_part, .ref ta_whole, .ref ta_roundPerson, .ref ta_roundClock, .ref ta_roundHour, .ref ta_gunClock, .ref ta_gunHour, .ref tau])), (mm, .inr (11, [.int 0, .ref mm_tape, .int 0, .ref mm_number, .ref mm_clockName, .ref mm_clockOff, .ref mm_clockGain, .ref mm_clockRough, .ref mm_personName, .ref mm_personOff, .ref mm_personGain, .ref mm_personRough, .ref mm_custom, .ref mm_customA, .ref mm_customB, .ref mm_ruleFrom, .ref mm_ruleTo, .ref mm_roundOf, .ref mm_roundAt, .ref mm_roundHour, .ref mm_gunAt, .ref mm_gunHour, .ref mm_knotSort, .ref mm_knotValue, .int 0, .int 0, .int 0, .int 0, .int 0, .int 0, .int 0, .int 0, .int 0, .int (-1), .int 0, .int 0, .int 0, .int 0, .int 0, .int 0, .int 0, .int 0, .int 0, .int 0, .int 0, .int 0, .ref mm_start, .ref mm_off, .ref mm_last, .ref mm_passed, .ref mm_kept, .ref mm_keptMany, .int 0, .int 0, .ref mm_history, .ref mm_names, .ref mm_worked, .int 0, .int 0, .int (-1), .ref mm_readThing, .ref mm_readHour, .ref mm_readLow, .ref mm_readHigh, .int 0, .int 0, .int 0, .ref mm_imageOff, .ref mm_imageLast, .ref mm_imagePassed, .ref mm_imageKept, .ref mm_imageMany, .ref mm_imageHistory])), (mm_number, .inl (k_mm_number, 10, .inl (fun _ => 0)))] := hD
  clear hPc hDc hKc hFc hP1 hD1 hk1 hz1 ht hvm
  have hw : r_8 = -1 := hw
  subst r_8
  refine lv_icmp_eq (tgt := 1482) hx hb dL_law_1226 (by decide) (fun c_9 => ?_) (fun c_9 => absurd c_9 (by decide))
  refine lv_iinc (v := 7) (lv' := [(4, .int 7), (3, .ref oo), (2, .ref mm), (1, .ref xx), (0, .ref b)]) hx hb dL_law_1482 hl (k := 0) rfl (by decide) (by decide) rfl (fun ls hl => ?_)
  refine lv_goto (tgt := 23) hx hb dL_law_1485 (by decide) ?_
  refine lv_iload hx hb dL_law_23 (lv_at hl 0 rfl) ?_
  refine lv_aload_n hx hb dL_law_25 rfl (lv_at hl 4 rfl) ?_
  refine va_slen hx hb hX hbl hbA hS dL_law_26 ?_
  refine lv_topi (fun z_10 ez_10 => ?_)
  obtain rfl : z_10 = 7 := ez_10.trans (by decide)
  refine lv_bipush (v := 7) hx hb dL_law_27 (by decide) ?_
  refine lv_isub hx hb dL_law_29 ?_
  refine lv_topi (fun z_11 ez_11 => ?_)
  obtain rfl : z_11 = 0 := ez_11.trans (by decide)
  refine lv_icmp_gt (tgt := 1488) hx hb dL_law_30 (by decide) (fun c_12 => ?_) (fun c_12 => absurd c_12 (by decide))
  refine lv_iconst (v := 1) hx hb dL_law_1488 (by decide) ?_
  refine va_forget (fun q hq => hAo _ (hS.2.2 q hq)) ?_
  refine W.widen (k := 600002) (n := 7302232) (Nat.le_of_ble_eq_true rfl) (Nat.le_of_ble_eq_true rfl) ?_
  exact lw_ret hx hb hr hlocks dL_law_1489
set_option maxHeartbeats 4000000 in
set_option maxRecDepth 100000 in
theorem law_op_25 {p : Program} {l : Launch} {e : Env} {s : State} {m : MethodId} {below : List Frame} {meth : Method} {c : Code} {dC : Nat → ClassId} {dI : Nat → Nat → Nat} {b : Nat} {xs : Nat → Int32} {A : Nat → Prop} (C0 : lw_At p s m meth c b 7 xs) (hA : ∀ q, s.heap.size ≤ q → A q) (hbA : ¬ A b) (hAo : ∀ q, A q → s.heap.size ≤ q) {xx : Nat} {rr : Nat} {ta : Nat} {tb : Nat} {pa : Nat} {pb : Nat} {cn : Nat} {ci : Nat} {cp : Nat} {ct : Nat} {hs : Nat} {rd : Nat} {wy : Nat} {ea : Nat} {eb : Nat} {ta_name : Nat} {ta_first : Nat} {ta_gain : Nat} {ta_rough : Nat} {ta_custom : Nat} {ta_part : Nat} {ta_whole : Nat} {ta_roundPerson : Nat} {ta_roundClock : Nat} {ta_roundHour : Nat} {ta_gunClock : Nat} {ta_gunHour : Nat} {tau : Nat} {mm : Nat} {mm_tape : Nat} {mm_number : Nat} {mm_clockName : Nat} {mm_clockOff : Nat} {mm_clockGain : Nat} {mm_clockRough : Nat} {mm_personName : Nat} {mm_personOff : Nat} {mm_personGain : Nat} {mm_personRough : Nat} {mm_custom : Nat} {mm_customA : Nat} {mm_customB : Nat} {mm_ruleFrom : Nat} {mm_ruleTo : Nat} {mm_roundOf : Nat} {mm_roundAt : Nat} {mm_roundHour : Nat} {mm_gunAt : Nat} {mm_gunHour : Nat} {mm_knotSort : Nat} {mm_knotValue : Nat} {mm_start : Nat} {mm_off : Nat} {mm_last : Nat} {mm_passed : Nat} {mm_kept : Nat} {mm_keptMany : Nat} {mm_history : Nat} {mm_names : Nat} {mm_worked : Nat} {mm_readThing : Nat} {mm_readHour : Nat} {mm_readLow : Nat} {mm_readHigh : Nat} {mm_imageOff : Nat} {mm_imageLast : Nat} {mm_imagePassed : Nat} {mm_imageKept : Nat} {mm_imageMany : Nat} {mm_imageHistory : Nat} {k_mm_number : ClassId} {oo : Nat} {H : Heap} {locs : List Loc} {ls : Array Slot} (hK : va_K (dC, dI) vwCl [(k_mm_number, .int)] s) (hP : va_P (dC, dI) vwCl [(xx, .inr (10, [.ref rr, .ref ta, .ref tb, .ref pa, .ref pb, .ref cn, .ref ci, .int 0, .ref cp, .ref ct, .ref hs, .ref rd, .ref wy, .ref ea, .ref eb])), (ta, .inr (8, [.int 0, .int 0, .int 0, .int 0, .int 0, .ref ta_name, .ref ta_first, .ref ta_gain, .ref ta_rough, .ref ta_custom, .ref ta_part, .ref ta_whole, .ref ta_roundPerson, .ref ta_roundClock, .ref ta_roundHour, .ref ta_gunClock, .ref ta_gunHour, .ref tau])), (mm, .inr (11, [.int 0, .ref mm_tape, .int 0, .ref mm_number, .ref mm_clockName, .ref mm_clockOff, .ref mm_clockGain, .ref mm_clockRough, .ref mm_personName, .ref mm_personOff, .ref mm_personGain, .ref mm_personRough, .ref mm_custom, .ref mm_customA, .ref mm_customB, .ref mm_ruleFrom, .ref mm_ruleTo, .ref mm_roundOf, .ref mm_roundAt, .ref mm_roundHour, .ref mm_gunAt, .ref mm_gunHour, .ref mm_knotSort, .ref mm_knotValue, .int 0, .int 0, .int 0, .int 0, .int 0, .int 0, .int 0, .int 0, .int 0, .int (-1), .int 0, .int 0, .int 0, .int 0, .int 0, .int 0, .int 0, .int 0, .int 0, .int 0, .int 0, .int 0, .ref mm_start, .ref mm_off, .ref mm_last, .ref mm_passed, .ref mm_kept, .ref mm_keptMany, .int 0, .int 0, .ref mm_history, .ref mm_names, .ref mm_worked, .int 0, .int 0, .int (-1), .ref mm_readThing, .ref mm_readHour, .ref mm_readLow, .ref mm_readHigh, .int 0, .int 0, .int 0, .ref mm_imageOff, .ref mm_imageLast, .ref mm_imagePassed, .ref mm_imageKept, .ref mm_imageMany, .ref mm_imageHistory])), (mm_number, .inl (k_mm_number, 10, .inl (fun _ => 0)))] H) (hD : va_D A [(xx, .inr (10, [.ref rr, .ref ta, .ref tb, .ref pa, .ref pb, .ref cn, .ref ci, .int 0, .ref cp, .ref ct, .ref hs, .ref rd, .ref wy, .ref ea, .ref eb])), (ta, .inr (8, [.int 0, .int 0, .int 0, .int 0, .int 0, .ref ta_name, .ref ta_first, .ref ta_gain, .ref ta_rough, .ref ta_custom, .ref ta_part, .ref ta_whole, .ref ta_roundPerson, .ref ta_roundClock, .ref ta_roundHour, .ref ta_gunClock, .ref ta_gunHour, .ref tau])), (mm, .inr (11, [.int 0, .ref mm_tape, .int 0, .ref mm_number, .ref mm_clockName, .ref mm_clockOff, .ref mm_clockGain, .ref mm_clockRough, .ref mm_personName, .ref mm_personOff, .ref mm_personGain, .ref mm_personRough, .ref mm_custom, .ref mm_customA, .ref mm_customB, .ref mm_ruleFrom, .ref mm_ruleTo, .ref mm_roundOf, .ref mm_roundAt, .ref mm_roundHour, .ref mm_gunAt, .ref mm_gunHour, .ref mm_knotSort, .ref mm_knotValue, .int 0, .int 0, .int 0, .int 0, .int 0, .int 0, .int 0, .int 0, .int 0, .int (-1), .int 0, .int 0, .int 0, .int 0, .int 0, .int 0, .int 0, .int 0, .int 0, .int 0, .int 0, .int 0, .ref mm_start, .ref mm_off, .ref mm_last, .ref mm_passed, .ref mm_kept, .ref mm_keptMany, .int 0, .int 0, .ref mm_history, .ref mm_names, .ref mm_worked, .int 0, .int 0, .int (-1), .ref mm_readThing, .ref mm_readHour, .ref mm_readLow, .ref mm_readHigh, .int 0, .int 0, .int 0, .ref mm_imageOff, .ref mm_imageLast, .ref mm_imagePassed, .ref mm_imageKept, .ref mm_imageMany, .ref mm_imageHistory])), (mm_number, .inl (k_mm_number, 10, .inl (fun _ => 0)))]) (hS : va_S A s.heap H locs) (hl : lv_has ls 7 [(4, .int 0), (3, .ref oo), (2, .ref mm), (1, .ref xx), (0, .ref b)]) : W p l e room_1 s m #[Value.ref b] below meth c H locs 160 67979 (lw_Z below #[Value.ref b] s) (F0 m 1231 ls []) := by
  obtain ⟨hx, hb, hr, hml, hown, hts, hX, hbl, hlocks, hgv⟩ := C0
  have hT : ∀ w ∈ pw_T, w.before #[Value.ref b] s = true := fun w h => hts w (List.mem_filter.mp h).1
  have hown : s.vm.findClass RL = some m.cls := hown
  refine lv_aload_n hx hb dL_law_1231 rfl (lv_at hl 3 rfl) ?_
  refine lv_aload_n hx hb dL_law_1232 rfl (lv_at hl 4 rfl) ?_
  refine lv_iload hx hb dL_law_1233 (lv_at hl 0 rfl) ?_
  refine lv_iconst (v := 1) hx hb dL_law_1235 (by decide) ?_
  refine lv_iadd hx hb dL_law_1236 ?_
  refine lv_topi (fun z_1 ez_1 => ?_)
  obtain rfl : z_1 = 1 := ez_1.trans (by decide)
  refine va_sld hx hb hX hbl hbA hS (pk_in 1 7 (by decide) (by decide) (by decide)) dL_law_1237 ?_
  refine lv_topi (fun z_2 ez_2 => ?_)
  replace ez_2 : z_2 = xs 1 := ez_2
  subst z_2
  refine lv_aload_n hx hb dL_law_1238 rfl (lv_at hl 4 rfl) ?_
  refine lv_iload hx hb dL_law_1239 (lv_at hl 0 rfl) ?_
  refine lv_iconst (v := 2) hx hb dL_law_1241 (by decide) ?_
  refine lv_iadd hx hb dL_law_1242 ?_
  refine lv_topi (fun z_3 ez_3 => ?_)
  obtain rfl : z_3 = 2 := ez_3.trans (by decide)
  refine va_sld hx hb hX hbl hbA hS (pk_in 2 7 (by decide) (by decide) (by decide)) dL_law_1243 ?_
  refine lv_topi (fun z_4 ez_4 => ?_)
  replace ez_4 : z_4 = xs 2 := ez_4
  subst z_4
  have hPc := hP.sub (ws' := [(xx, .inr (10, [.ref rr, .ref ta, .ref tb, .ref pa, .ref pb, .ref cn, .ref ci, .int 0, .ref cp, .ref ct, .ref hs, .ref rd, .ref wy, .ref ea, .ref eb])), (ta, .inr (8, [.int 0, .int 0, .int 0, .int 0, .int 0, .ref ta_name, .ref ta_first, .ref ta_gain, .ref ta_rough, .ref ta_custom, .ref ta_part, .ref ta_whole, .ref ta_roundPerson, .ref ta_roundClock, .ref ta_roundHour, .ref ta_gunClock, .ref ta_gunHour, .ref tau]))]) [0, 1] rfl
  have hDc := hD.sub (ws' := [(xx, .inr (10, [.ref rr, .ref ta, .ref tb, .ref pa, .ref pb, .ref cn, .ref ci, .int 0, .ref cp, .ref ct, .ref hs, .ref rd, .ref wy, .ref ea, .ref eb])), (ta, .inr (8, [.int 0, .int 0, .int 0, .int 0, .int 0, .ref ta_name, .ref ta_first, .ref ta_gain, .ref ta_rough, .ref ta_custom, .ref ta_part, .ref ta_whole, .ref ta_roundPerson, .ref ta_roundClock, .ref ta_roundHour, .ref ta_gunClock, .ref ta_gunHour, .ref tau]))]) [0, 1] (by decide) rfl
  have hKc := hK.sub (tys' := []) [] rfl
  have hFc := va_free (wc := [(xx, .inr (10, [.ref rr, .ref ta, .ref tb, .ref pa, .ref pb, .ref cn, .ref ci, .int 0, .ref cp, .ref ct, .ref hs, .ref rd, .ref wy, .ref ea, .ref eb])), (ta, .inr (8, [.int 0, .int 0, .int 0, .int 0, .int 0, .ref ta_name, .ref ta_first, .ref ta_gain, .ref ta_rough, .ref ta_custom, .ref ta_part, .ref ta_whole, .ref ta_roundPerson, .ref ta_roundClock, .ref ta_roundHour, .ref ta_gunClock, .ref ta_gunHour, .ref tau]))]) hD hS hA [0, 1] rfl
  refine va_calli (va_runV (As := [.int (xs 1), .int (xs 2)]) (rest := []) ⟨hx, hb, hml, hown, hT⟩ (c_X10_often l dC dI H.size xx (xs 1) (xs 2) rr ta tb pa pb cn ci (0 : Int32) cp ct hs rd wy ea eb (0 : Int32) (0 : Int32) (0 : Int32) ta_name ta_first ta_gain ta_rough ta_custom ta_part ta_whole ta_roundPerson ta_roundClock ta_roundHour ta_gunClock ta_gunHour tau ) (cwV 2 hT (gwV mw_5_107 mw_5_108 mw_5_109 mw_1_1 mw_5_110) rfl rfl rfl (by decide +kernel) ⟨Nat.le_of_ble_eq_true rfl, Nat.le_of_ble_eq_true rfl⟩) ⟨fun a U g mk q => by obtain ⟨q0, q1, qP, qK, qD⟩ := q; exact ⟨q0, q1, qP, va_K.moved (u := U) (U := U.calling g mk a) (Vm.Alike.refl U.vm) qK, qD⟩, va_recv hK hP (ci := 10) (q0 := 0) rfl rfl, fun U hU hW => ⟨rfl, by rw [hU], by rw [hU]; exact hPc, va_K.moved hW.alike hKc, hDc.weaken (fun _ _ _ _ => trivial)⟩⟩ rfl rfl hl.1 rfl (lv_room (Nat.le_of_ble_eq_true rfl)) dL_law_1244 ⟨Nat.le_of_ble_eq_true rfl, Nat.le_of_ble_eq_true rfl⟩) hS (fun q _ h => hFc q h) hFc (fun r_6 u t H1 locs ht hvm hw hB hz1 hk1 hS => ?_)
  obtain ⟨hP1, hD1⟩ := hB
  rw [ht] at hP1
  obtain ⟨hP, hD⟩ := va_join (wr := [(mm, .inr (11, [.int 0, .ref mm_tape, .int 0, .ref mm_number, .ref mm_clockName, .ref mm_clockOff, .ref mm_clockGain, .ref mm_clockRough, .ref mm_personName, .ref mm_personOff, .ref mm_personGain, .ref mm_personRough, .ref mm_custom, .ref mm_customA, .ref mm_customB, .ref mm_ruleFrom, .ref mm_ruleTo, .ref mm_roundOf, .ref mm_roundAt, .ref mm_roundHour, .ref mm_gunAt, .ref mm_gunHour, .ref mm_knotSort, .ref mm_knotValue, .int 0, .int 0, .int 0, .int 0, .int 0, .int 0, .int 0, .int 0, .int 0, .int (-1), .int 0, .int 0, .int 0, .int 0, .int 0, .int 0, .int 0, .int 0, .int 0, .int 0, .int 0, .int 0, .ref mm_start, .ref mm_off, .ref mm_last, .ref mm_passed, .ref mm_kept, .ref mm_keptMany, .int 0, .int 0, .ref mm_history, .ref mm_names, .ref mm_worked, .int 0, .int 0, .int (-1), .ref mm_readThing, .ref mm_readHour, .ref mm_readLow, .ref mm_readHigh, .int 0, .int 0, .int 0, .ref mm_imageOff, .ref mm_imageLast, .ref mm_imagePassed, .ref mm_imageKept, .ref mm_imageMany, .ref mm_imageHistory])), (mm_number, .inl (k_mm_number, 10, .inl (fun _ => 0)))]) (w1 := [(xx, .inr (10, [.ref rr, .ref ta, .ref tb, .ref pa, .ref pb, .ref cn, .ref ci, .int 0, .ref cp, .ref ct, .ref hs, .ref rd, .ref wy, .ref ea, .ref eb])), (ta, .inr (8, [.int 0, .int 0, .int 0, .int 0, .int 0, .ref ta_name, .ref ta_first, .ref ta_gain, .ref ta_rough, .ref ta_custom, .ref ta_part, .ref ta_whole, .ref ta_roundPerson, .ref ta_roundClock, .ref ta_roundHour, .ref ta_gunClock, .ref ta_gunHour, .ref tau]))]) hP hD [0, 1] [2, 3] rfl rfl (by decide) (by decide) hk1 hFc hP1 hD1
  generalize H1 = H at hP hS ⊢
  have hP : va_P (dC, dI) vwCl [(mm, .inr (11, [.int 0, .ref mm_tape, .int 0, .ref mm_number, .ref mm_clockName, .ref mm_clockOff, .ref mm_clockGain, .ref mm_clockRough, .ref mm_personName, .ref mm_personOff, .ref mm_personGain, .ref mm_personRough, .ref mm_custom, .ref mm_customA, .ref mm_customB, .ref mm_ruleFrom, .ref mm_ruleTo, .ref mm_roundOf, .ref mm_roundAt, .ref mm_roundHour, .ref mm_gunAt, .ref mm_gunHour, .ref mm_knotSort, .ref mm_knotValue, .int 0, .int 0, .int 0, .int 0, .int 0, .int 0, .int 0, .int 0, .int 0, .int (-1), .int 0, .int 0, .int 0, .int 0, .int 0, .int 0, .int 0, .int 0, .int 0, .int 0, .int 0, .int 0, .ref mm_start, .ref mm_off, .ref mm_last, .ref mm_passed, .ref mm_kept, .ref mm_keptMany, .int 0, .int 0, .ref mm_history, .ref mm_names, .ref mm_worked, .int 0, .int 0, .int (-1), .ref mm_readThing, .ref mm_readHour, .ref mm_readLow, .ref mm_readHigh, .int 0, .int 0, .int 0, .ref mm_imageOff, .ref mm_imageLast, .ref mm_imagePassed, .ref mm_imageKept, .ref mm_imageMany, .ref mm_imageHistory])), (mm_number, .inl (k_mm_number, 10, .inl (fun _ => 0))), (xx, .inr (10, [.ref rr, .ref ta, .ref tb, .ref pa, .ref pb, .ref cn, .ref ci, .int 0, .ref cp, .ref ct, .ref hs, .ref rd, .ref wy, .ref ea, .ref eb])), (ta, .inr (8, [.int 0, .int 0, .int 0, .int 0, .int 0, .ref ta_name, .ref ta_first, .ref ta_gain, .ref ta_rough, .ref ta_custom, .ref ta_part, .ref ta_whole, .ref ta_roundPerson, .ref ta_roundClock, .ref ta_roundHour, .ref ta_gunClock, .ref ta_gunHour, .ref tau]))] H := hP
  have hD : va_D A [(mm, .inr (11, [.int 0, .ref mm_tape, .int 0, .ref mm_number, .ref mm_clockName, .ref mm_clockOff, .ref mm_clockGain, .ref mm_clockRough, .ref mm_personName, .ref mm_personOff, .ref mm_personGain, .ref mm_personRough, .ref mm_custom, .ref mm_customA, .ref mm_customB, .ref mm_ruleFrom, .ref mm_ruleTo, .ref mm_roundOf, .ref mm_roundAt, .ref mm_roundHour, .ref mm_gunAt, .ref mm_gunHour, .ref mm_knotSort, .ref mm_knotValue, .int 0, .int 0, .int 0, .int 0, .int 0, .int 0, .int 0, .int 0, .int 0, .int (-1), .int 0, .int 0, .int 0, .int 0, .int 0, .int 0, .int 0, .int 0, .int 0, .int 0, .int 0, .int 0, .ref mm_start, .ref mm_off, .ref mm_last, .ref mm_passed, .ref mm_kept, .ref mm_keptMany, .int 0, .int 0, .ref mm_history, .ref mm_names, .ref mm_worked, .int 0, .int 0, .int (-1), .ref mm_readThing, .ref mm_readHour, .ref mm_readLow, .ref mm_readHigh, .int 0, .int 0, .int 0, .ref mm_imageOff, .ref mm_imageLast, .ref mm_imagePassed, .ref mm_imageKept, .ref mm_imageMany, .ref mm_imageHistory])), (mm_number, .inl (k_mm_number, 10, .inl (fun _ => 0))), (xx, .inr (10, [.ref rr, .ref ta, .ref tb, .ref pa, .ref pb, .ref cn, .ref ci, .int 0, .ref cp, .ref ct, .ref hs, .ref rd, .ref wy, .ref ea, .ref eb])), (ta, .inr (8, [.int 0, .int 0, .int 0, .int 0, .int 0, .ref ta_name, .ref ta_first, .ref ta_gain, .ref ta_rough, .ref ta_custom, .ref ta_part, .ref ta_whole, .ref ta_roundPerson, .ref ta_roundClock, .ref ta_roundHour, .ref ta_gunClock, .ref ta_gunHour, .ref tau]))] := hD
  clear hPc hDc hKc hFc hP1 hD1 hk1 hz1 ht hvm
  have hw : r_6 = -1 := hw
  subst r_6
  refine lv_aload_n hx hb dL_law_1247 rfl (lv_at hl 2 rfl) ?_
  refine lv_aload_n hx hb dL_law_1248 rfl (lv_at hl 4 rfl) ?_
  refine lv_iload hx hb dL_law_1249 (lv_at hl 0 rfl) ?_
  refine lv_iconst (v := 1) hx hb dL_law_1251 (by decide) ?_
  refine lv_iadd hx hb dL_law_1252 ?_
  refine lv_topi (fun z_7 ez_7 => ?_)
  obtain rfl : z_7 = 1 := ez_7.trans (by decide)
  refine va_sld hx hb hX hbl hbA hS (pk_in 1 7 (by decide) (by decide) (by decide)) dL_law_1253 ?_
  refine lv_topi (fun z_8 ez_8 => ?_)
  replace ez_8 : z_8 = xs 1 := ez_8
  subst z_8
  refine lv_aload_n hx hb dL_law_1254 rfl (lv_at hl 4 rfl) ?_
  refine lv_iload hx hb dL_law_1255 (lv_at hl 0 rfl) ?_
  refine lv_iconst (v := 2) hx hb dL_law_1257 (by decide) ?_
  refine lv_iadd hx hb dL_law_1258 ?_
  refine lv_topi (fun z_9 ez_9 => ?_)
  obtain rfl : z_9 = 2 := ez_9.trans (by decide)
  refine va_sld hx hb hX hbl hbA hS (pk_in 2 7 (by decide) (by decide) (by decide)) dL_law_1259 ?_
  refine lv_topi (fun z_10 ez_10 => ?_)
  replace ez_10 : z_10 = xs 2 := ez_10
  subst z_10
  have hPc := hP.sub (ws' := [(mm, .inr (11, [.int 0, .ref mm_tape, .int 0, .ref mm_number, .ref mm_clockName, .ref mm_clockOff, .ref mm_clockGain, .ref mm_clockRough, .ref mm_personName, .ref mm_personOff, .ref mm_personGain, .ref mm_personRough, .ref mm_custom, .ref mm_customA, .ref mm_customB, .ref mm_ruleFrom, .ref mm_ruleTo, .ref mm_roundOf, .ref mm_roundAt, .ref mm_roundHour, .ref mm_gunAt, .ref mm_gunHour, .ref mm_knotSort, .ref mm_knotValue, .int 0, .int 0, .int 0, .int 0, .int 0, .int 0, .int 0, .int 0, .int 0, .int (-1), .int 0, .int 0, .int 0, .int 0, .int 0, .int 0, .int 0, .int 0, .int 0, .int 0, .int 0, .int 0, .ref mm_start, .ref mm_off, .ref mm_last, .ref mm_passed, .ref mm_kept, .ref mm_keptMany, .int 0, .int 0, .ref mm_history, .ref mm_names, .ref mm_worked, .int 0, .int 0, .int (-1), .ref mm_readThing, .ref mm_readHour, .ref mm_readLow, .ref mm_readHigh, .int 0, .int 0, .int 0, .ref mm_imageOff, .ref mm_imageLast, .ref mm_imagePassed, .ref mm_imageKept, .ref mm_imageMany, .ref mm_imageHistory])), (mm_number, .inl (k_mm_number, 10, .inl (fun _ => 0)))]) [0, 1] rfl
  have hDc := hD.sub (ws' := [(mm, .inr (11, [.int 0, .ref mm_tape, .int 0, .ref mm_number, .ref mm_clockName, .ref mm_clockOff, .ref mm_clockGain, .ref mm_clockRough, .ref mm_personName, .ref mm_personOff, .ref mm_personGain, .ref mm_personRough, .ref mm_custom, .ref mm_customA, .ref mm_customB, .ref mm_ruleFrom, .ref mm_ruleTo, .ref mm_roundOf, .ref mm_roundAt, .ref mm_roundHour, .ref mm_gunAt, .ref mm_gunHour, .ref mm_knotSort, .ref mm_knotValue, .int 0, .int 0, .int 0, .int 0, .int 0, .int 0, .int 0, .int 0, .int 0, .int (-1), .int 0, .int 0, .int 0, .int 0, .int 0, .int 0, .int 0, .int 0, .int 0, .int 0, .int 0, .int 0, .ref mm_start, .ref mm_off, .ref mm_last, .ref mm_passed, .ref mm_kept, .ref mm_keptMany, .int 0, .int 0, .ref mm_history, .ref mm_names, .ref mm_worked, .int 0, .int 0, .int (-1), .ref mm_readThing, .ref mm_readHour, .ref mm_readLow, .ref mm_readHigh, .int 0, .int 0, .int 0, .ref mm_imageOff, .ref mm_imageLast, .ref mm_imagePassed, .ref mm_imageKept, .ref mm_imageMany, .ref mm_imageHistory])), (mm_number, .inl (k_mm_number, 10, .inl (fun _ => 0)))]) [0, 1] (by decide) rfl
  have hKc := hK.sub (tys' := [(k_mm_number, .int)]) [0] rfl
  have hFc := va_free (wc := [(mm, .inr (11, [.int 0, .ref mm_tape, .int 0, .ref mm_number, .ref mm_clockName, .ref mm_clockOff, .ref mm_clockGain, .ref mm_clockRough, .ref mm_personName, .ref mm_personOff, .ref mm_personGain, .ref mm_personRough, .ref mm_custom, .ref mm_customA, .ref mm_customB, .ref mm_ruleFrom, .ref mm_ruleTo, .ref mm_roundOf, .ref mm_roundAt, .ref mm_roundHour, .ref mm_gunAt, .ref mm_gunHour, .ref mm_knotSort, .ref mm_knotValue, .int 0, .int 0, .int 0, .int 0, .int 0, .int 0, .int 0, .int 0, .int 0, .int (-1), .int 0, .int 0, .int 0, .int 0, .int 0, .int 0, .int 0, .int 0, .int 0, .int 0, .int 0, .int 0, .ref mm_start, .ref mm_off, .ref mm_last, .ref mm_passed, .ref mm_kept, .ref mm_keptMany, .int 0, .int 0, .ref mm_history, .ref mm_names, .ref mm_worked, .int 0, .int 0, .int (-1), .ref mm_readThing, .ref mm_readHour, .ref mm_readLow, .ref mm_readHigh, .int 0, .int 0, .int 0, .ref mm_imageOff, .ref mm_imageLast, .ref mm_imagePassed, .ref mm_imageKept, .ref mm_imageMany, .ref mm_imageHistory])), (mm_number, .inl (k_mm_number, 10, .inl (fun _ => 0)))]) hD hS hA [0, 1] rfl
  have := (by decide : (0 : Int32).toInt = 0)
  have := (by decide : (0 : Int32).toInt = 0)
  have := (by decide : (0 : Int32).toInt = 0)
  have := (by decide : (0 : Int32).toInt = 0)
  have := (by decide : (0 : Int32).toInt = 0)
  have := (by decide : (0 : Int32).toInt = 0)
  have := (by decide : (0 : Int32).toInt = 0)
  have := (by decide : (0 : Int32).toInt = 0)
  have := (by decide : (0 : Int32).toInt = 0)
  have := (by decide : (0 : Int32).toInt = 0)
  have := (by decide : (0 : Int32).toInt = 0)
  have := (by decide : ((-1) : Int32).toInt = -1)
  have := (by decide : (0 : Int32).toInt = 0)
  have := (by decide : (0 : Int32).toInt = 0)
  have := (by decide : (0 : Int32).toInt = 0)
  have := (by decide : (0 : Int32).toInt = 0)
  have := (by decide : (0 : Int32).toInt = 0)
  have := (by decide : (0 : Int32).toInt = 0)
  have := (by decide : (0 : Int32).toInt = 0)
  have := (by decide : (0 : Int32).toInt = 0)
  have := (by decide : (0 : Int32).toInt = 0)
  have := (by decide : (0 : Int32).toInt = 0)
  have := (by decide : (0 : Int32).toInt = 0)
  have := (by decide : (0 : Int32).toInt = 0)
  have := (by decide : (0 : Int32).toInt = 0)
  have := (by decide : (0 : Int32).toInt = 0)
  have := (by decide : (0 : Int32).toInt = 0)
  have := (by decide : (0 : Int32).toInt = 0)
  have := (by decide : ((-1) : Int32).toInt = -1)
  have := (by decide : (0 : Int32).toInt = 0)
  have := (by decide : (0 : Int32).toInt = 0)
  have := (by decide : (0 : Int32).toInt = 0)
  refine va_calli (va_runV (As := [.int (xs 1), .int (xs 2)]) (rest := [.int (-1)]) ⟨hx, hb, hml, hown, hT⟩ (c_X11_often l dC dI H.size mm (xs 1) (xs 2) (0 : Int32) mm_tape (0 : Int32) mm_number mm_clockName mm_clockOff mm_clockGain mm_clockRough mm_personName mm_personOff mm_personGain mm_personRough mm_custom mm_customA mm_customB mm_ruleFrom mm_ruleTo mm_roundOf mm_roundAt mm_roundHour mm_gunAt mm_gunHour mm_knotSort mm_knotValue (0 : Int32) (0 : Int32) (0 : Int32) (0 : Int32) (0 : Int32) (0 : Int32) (0 : Int32) (0 : Int32) (0 : Int32) ((-1) : Int32) (0 : Int32) (0 : Int32) (0 : Int32) (0 : Int32) (0 : Int32) (0 : Int32) (0 : Int32) (0 : Int32) (0 : Int32) (0 : Int32) (0 : Int32) (0 : Int32) mm_start mm_off mm_last mm_passed mm_kept mm_keptMany (0 : Int32) (0 : Int32) mm_history mm_names mm_worked (0 : Int32) (0 : Int32) ((-1) : Int32) mm_readThing mm_readHour mm_readLow mm_readHigh (0 : Int32) (0 : Int32) (0 : Int32) mm_imageOff mm_imageLast mm_imagePassed mm_imageKept mm_imageMany mm_imageHistory k_mm_number (fun _ => 0) (fun _ => rfl)) (cwV 2 hT (gwV mw_8_146 mw_8_147 mw_8_148 mw_1_16 mw_8_149) rfl rfl rfl (by decide +kernel) ⟨Nat.le_of_ble_eq_true rfl, Nat.le_of_ble_eq_true rfl⟩) ⟨fun a U g mk q => by obtain ⟨q0, q1, qP, qK, qD⟩ := q; exact ⟨q0, q1, qP, va_K.moved (u := U) (U := U.calling g mk a) (Vm.Alike.refl U.vm) qK, qD⟩, va_recv hK hP (ci := 11) (q0 := 0) rfl rfl, fun U hU hW => ⟨rfl, by rw [hU], by rw [hU]; exact hPc, va_K.moved hW.alike hKc, hDc.weaken (fun _ _ _ _ => trivial)⟩⟩ rfl rfl hl.1 rfl (lv_room (Nat.le_of_ble_eq_true rfl)) dL_law_1260 ⟨Nat.le_of_ble_eq_true rfl, Nat.le_of_ble_eq_true rfl⟩) hS (fun q _ h => hFc q h) hFc (fun r_12 u t H1 locs ht hvm hw hB hz1 hk1 hS => ?_)
  obtain ⟨hP1, hD1⟩ := hB
  rw [ht] at hP1
  obtain ⟨hP, hD⟩ := va_join (wr := [(xx, .inr (10, [.ref rr, .ref ta, .ref tb, .ref pa, .ref pb, .ref cn, .ref ci, .int 0, .ref cp, .ref ct, .ref hs, .ref rd, .ref wy, .ref ea, .ref eb])), (ta, .inr (8, [.int 0, .int 0, .int 0, .int 0, .int 0, .ref ta_name, .ref ta_first, .ref ta_gain, .ref ta_rough, .ref ta_custom, .ref ta_part, .ref ta_whole, .ref ta_roundPerson, .ref ta_roundClock, .ref ta_roundHour, .ref ta_gunClock, .ref ta_gunHour, .ref tau]))]) (w1 := [(mm, .inr (11, [.int 0, .ref mm_tape, .int 0, .ref mm_number, .ref mm_clockName, .ref mm_clockOff, .ref mm_clockGain, .ref mm_clockRough, .ref mm_personName, .ref mm_personOff, .ref mm_personGain, .ref mm_personRough, .ref mm_custom, .ref mm_customA, .ref mm_customB, .ref mm_ruleFrom, .ref mm_ruleTo, .ref mm_roundOf, .ref mm_roundAt, .ref mm_roundHour, .ref mm_gunAt, .ref mm_gunHour, .ref mm_knotSort, .ref mm_knotValue, .int 0, .int 0, .int 0, .int 0, .int 0, .int 0, .int 0, .int 0, .int 0, .int (-1), .int 0, .int 0, .int 0, .int 0, .int 0, .int 0, .int 0, .int 0, .int 0, .int 0, .int 0, .int 0, .ref mm_start, .ref mm_off, .ref mm_last, .ref mm_passed, .ref mm_kept, .ref mm_keptMany, .int 0, .int 0, .ref mm_history, .ref mm_names, .ref mm_worked, .int 0, .int 0, .int (-1), .ref mm_readThing, .ref mm_readHour, .ref mm_readLow, .ref mm_readHigh, .int 0, .int 0, .int 0, .ref mm_imageOff, .ref mm_imageLast, .ref mm_imagePassed, .ref mm_imageKept, .ref mm_imageMany, .ref mm_imageHistory])), (mm_number, .inl (k_mm_number, 10, .inl (fun _ => 0)))]) hP hD [0, 1] [2, 3] rfl rfl (by decide) (by decide) hk1 hFc hP1 hD1
  generalize H1 = H at hP hS ⊢
  have hP : va_P (dC, dI) vwCl [(xx, .inr (10, [.ref rr, .ref ta, .ref tb, .ref pa, .ref pb, .ref cn, .ref ci, .int 0, .ref cp, .ref ct, .ref hs, .ref rd, .ref wy, .ref ea, .ref eb])), (ta, .inr (8, [.int 0, .int 0, .int 0, .int 0, .int 0, .ref ta_name, .ref ta_first, .ref ta_gain, .ref ta_rough, .ref ta_custom, .ref ta_part, .ref ta_whole, .ref ta_roundPerson, .ref ta_roundClock, .ref ta_roundHour, .ref ta_gunClock, .ref ta_gunHour, .ref tau])), (mm, .inr (11, [.int 0, .ref mm_tape, .int 0, .ref mm_number, .ref mm_clockName, .ref mm_clockOff, .ref mm_clockGain, .ref mm_clockRough, .ref mm_personName, .ref mm_personOff, .ref mm_personGain, .ref mm_personRough, .ref mm_custom, .ref mm_customA, .ref mm_customB, .ref mm_ruleFrom, .ref mm_ruleTo, .ref mm_roundOf, .ref mm_roundAt, .ref mm_roundHour, .ref mm_gunAt, .ref mm_gunHour, .ref mm_knotSort, .ref mm_knotValue, .int 0, .int 0, .int 0, .int 0, .int 0, .int 0, .int 0, .int 0, .int 0, .int (-1), .int 0, .int 0, .int 0, .int 0, .int 0, .int 0, .int 0, .int 0, .int 0, .int 0, .int 0, .int 0, .ref mm_start, .ref mm_off, .ref mm_last, .ref mm_passed, .ref mm_kept, .ref mm_keptMany, .int 0, .int 0, .ref mm_history, .ref mm_names, .ref mm_worked, .int 0, .int 0, .int (-1), .ref mm_readThing, .ref mm_readHour, .ref mm_readLow, .ref mm_readHigh, .int 0, .int 0, .int 0, .ref mm_imageOff, .ref mm_imageLast, .ref mm_imagePassed, .ref mm_imageKept, .ref mm_imageMany, .ref mm_imageHistory])), (mm_number, .inl (k_mm_number, 10, .inl (fun _ => 0)))] H := hP
  have hD : va_D A [(xx, .inr (10, [.ref rr, .ref ta, .ref tb, .ref pa, .ref pb, .ref cn, .ref ci, .int 0, .ref cp, .ref ct, .ref hs, .ref rd, .ref wy, .ref ea, .ref eb])), (ta, .inr (8, [.int 0, .int 0, .int 0, .int 0, .int 0, .ref ta_name, .ref ta_first, .ref ta_gain, .ref ta_rough, .ref ta_custom, .ref ta_part, .ref ta_whole, .ref ta_roundPerson, .ref ta_roundClock, .ref ta_roundHour, .ref ta_gunClock, .ref ta_gunHour, .ref tau])), (mm, .inr (11, [.int 0, .ref mm_tape, .int 0, .ref mm_number, .ref mm_clockName, .ref mm_clockOff, .ref mm_clockGain, .ref mm_clockRough, .ref mm_personName, .ref mm_personOff, .ref mm_personGain, .ref mm_personRough, .ref mm_custom, .ref mm_customA, .ref mm_customB, .ref mm_ruleFrom, .ref mm_ruleTo, .ref mm_roundOf, .ref mm_roundAt, .ref mm_roundHour, .ref mm_gunAt, .ref mm_gunHour, .ref mm_knotSort, .ref mm_knotValue, .int 0, .int 0, .int 0, .int 0, .int 0, .int 0, .int 0, .int 0, .int 0, .int (-1), .int 0, .int 0, .int 0, .int 0, .int 0, .int 0, .int 0, .int 0, .int 0, .int 0, .int 0, .int 0, .ref mm_start, .ref mm_off, .ref mm_last, .ref mm_passed, .ref mm_kept, .ref mm_keptMany, .int 0, .int 0, .ref mm_history, .ref mm_names, .ref mm_worked, .int 0, .int 0, .int (-1), .ref mm_readThing, .ref mm_readHour, .ref mm_readLow, .ref mm_readHigh, .int 0, .int 0, .int 0, .ref mm_imageOff, .ref mm_imageLast, .ref mm_imagePassed, .ref mm_imageKept, .ref mm_imageMany, .ref mm_imageHistory])), (mm_number, .inl (k_mm_number, 10, .inl (fun _ => 0)))] := hD
  clear hPc hDc hKc hFc hP1 hD1 hk1 hz1 ht hvm
  have hw : r_12 = -1 := hw
  subst r_12
  refine lv_icmp_eq (tgt := 1482) hx hb dL_law_1263 (by decide) (fun c_13 => ?_) (fun c_13 => absurd c_13 (by decide))
  refine lv_iinc (v := 7) (lv' := [(4, .int 7), (3, .ref oo), (2, .ref mm), (1, .ref xx), (0, .ref b)]) hx hb dL_law_1482 hl (k := 0) rfl (by decide) (by decide) rfl (fun ls hl => ?_)
  refine lv_goto (tgt := 23) hx hb dL_law_1485 (by decide) ?_
  refine lv_iload hx hb dL_law_23 (lv_at hl 0 rfl) ?_
  refine lv_aload_n hx hb dL_law_25 rfl (lv_at hl 4 rfl) ?_
  refine va_slen hx hb hX hbl hbA hS dL_law_26 ?_
  refine lv_topi (fun z_14 ez_14 => ?_)
  obtain rfl : z_14 = 7 := ez_14.trans (by decide)
  refine lv_bipush (v := 7) hx hb dL_law_27 (by decide) ?_
  refine lv_isub hx hb dL_law_29 ?_
  refine lv_topi (fun z_15 ez_15 => ?_)
  obtain rfl : z_15 = 0 := ez_15.trans (by decide)
  refine lv_icmp_gt (tgt := 1488) hx hb dL_law_30 (by decide) (fun c_16 => ?_) (fun c_16 => absurd c_16 (by decide))
  refine lv_iconst (v := 1) hx hb dL_law_1488 (by decide) ?_
  refine va_forget (fun q hq => hAo _ (hS.2.2 q hq)) ?_
  refine W.widen (k := 600002) (n := 7302232) (Nat.le_of_ble_eq_true rfl) (Nat.le_of_ble_eq_true rfl) ?_
  exact lw_ret hx hb hr hlocks dL_law_1489
set_option maxHeartbeats 4000000 in
set_option maxRecDepth 100000 in
theorem law_op_26 {p : Program} {l : Launch} {e : Env} {s : State} {m : MethodId} {below : List Frame} {meth : Method} {c : Code} {dC : Nat → ClassId} {dI : Nat → Nat → Nat} {b : Nat} {xs : Nat → Int32} {A : Nat → Prop} (C0 : lw_At p s m meth c b 7 xs) (hA : ∀ q, s.heap.size ≤ q → A q) (hbA : ¬ A b) (hAo : ∀ q, A q → s.heap.size ≤ q) {xx : Nat} {rr : Nat} {ta : Nat} {tb : Nat} {pa : Nat} {pb : Nat} {cn : Nat} {ci : Nat} {cp : Nat} {ct : Nat} {hs : Nat} {rd : Nat} {wy : Nat} {ea : Nat} {eb : Nat} {ta_name : Nat} {ta_first : Nat} {ta_gain : Nat} {ta_rough : Nat} {ta_custom : Nat} {ta_part : Nat} {ta_whole : Nat} {ta_roundPerson : Nat} {ta_roundClock : Nat} {ta_roundHour : Nat} {ta_gunClock : Nat} {ta_gunHour : Nat} {tau : Nat} {k_ta_first : ClassId} {k_ta_gain : ClassId} {k_ta_custom : ClassId} {tau_kind : Nat} {tau_number : Nat} {tau_from : Nat} {tau_until : Nat} {tau_names : Nat} {tau_stack : Nat} {k_tau_from : ClassId} {k_tau_until : ClassId} {pb_first : Nat} {pb_gain : Nat} {pb_custom : Nat} {pb_ruled : Nat} {pb_deedHour : Nat} {pb_deedPerson : Nat} {pb_deedClock : Nat} {k_pb_first : ClassId} {k_pb_gain : ClassId} {k_pb_custom : ClassId} {k_pb_ruled : ClassId} {cn_last : Nat} {cn_passed : Nat} {cn_keptCount : Nat} {cn_off : Nat} {cn_since : Nat} {cn_kept : Nat} {cn_sorted : Nat} {ct_last : Nat} {ct_passed : Nat} {ct_keptCount : Nat} {ct_off : Nat} {ct_since : Nat} {ct_kept : Nat} {ct_sorted : Nat} {k_ct_off : ClassId} {k_ct_since : ClassId} {k_ct_last : ClassId} {k_ct_passed : ClassId} {k_ct_keptCount : ClassId} {mm : Nat} {mm_tape : Nat} {mm_number : Nat} {mm_clockName : Nat} {mm_clockOff : Nat} {mm_clockGain : Nat} {mm_clockRough : Nat} {mm_personName : Nat} {mm_personOff : Nat} {mm_personGain : Nat} {mm_personRough : Nat} {mm_custom : Nat} {mm_customA : Nat} {mm_customB : Nat} {mm_ruleFrom : Nat} {mm_ruleTo : Nat} {mm_roundOf : Nat} {mm_roundAt : Nat} {mm_roundHour : Nat} {mm_gunAt : Nat} {mm_gunHour : Nat} {mm_knotSort : Nat} {mm_knotValue : Nat} {mm_start : Nat} {mm_off : Nat} {mm_last : Nat} {mm_passed : Nat} {mm_kept : Nat} {mm_keptMany : Nat} {mm_history : Nat} {mm_names : Nat} {mm_worked : Nat} {mm_readThing : Nat} {mm_readHour : Nat} {mm_readLow : Nat} {mm_readHigh : Nat} {mm_imageOff : Nat} {mm_imageLast : Nat} {mm_imagePassed : Nat} {mm_imageKept : Nat} {mm_imageMany : Nat} {mm_imageHistory : Nat} {k_mm_number : ClassId} {k_mm_off : ClassId} {k_mm_last : ClassId} {k_mm_passed : ClassId} {k_mm_keptMany : ClassId} {oo : Nat} {H : Heap} {locs : List Loc} {ls : Array Slot} (hK : va_K (dC, dI) vwCl [(k_ta_first, .int), (k_ta_gain, .int), (k_ta_custom, .int), (k_tau_from, .int), (k_tau_until, .int), (k_pb_first, .int), (k_pb_gain, .int), (k_pb_custom, .int), (k_pb_ruled, .boolean), (k_ct_off, .int), (k_ct_since, .int), (k_ct_last, .int), (k_ct_passed, .int), (k_ct_keptCount, .int), (k_mm_number, .int), (k_mm_off, .int), (k_mm_last, .int), (k_mm_passed, .int), (k_mm_keptMany, .int)] s) (hP : va_P (dC, dI) vwCl [(xx, .inr (10, [.ref rr, .ref ta, .ref tb, .ref pa, .ref pb, .ref cn, .ref ci, .int 0, .ref cp, .ref ct, .ref hs, .ref rd, .ref wy, .ref ea, .ref eb])), (ta, .inr (8, [.int 0, .int 0, .int 0, .int 0, .int 0, .ref ta_name, .ref ta_first, .ref ta_gain, .ref ta_rough, .ref ta_custom, .ref ta_part, .ref ta_whole, .ref ta_roundPerson, .ref ta_roundClock, .ref ta_roundHour, .ref ta_gunClock, .ref ta_gunHour, .ref tau])), (ta_first, .inl (k_ta_first, 10, .inl (fun _ => 0))), (ta_gain, .inl (k_ta_gain, 10, .inl (fun _ => 0))), (ta_custom, .inl (k_ta_custom, 5, .inl (fun _ => 0))), (tau, .inr (6, [.int 0, .ref tau_kind, .ref tau_number, .ref tau_from, .ref tau_until, .ref tau_names, .ref tau_stack])), (tau_from, .inl (k_tau_from, 5, .inl (fun _ => 0))), (tau_until, .inl (k_tau_until, 5, .inl (fun _ => 0))), (pb, .inr (3, [.ref ta, .ref pb_first, .ref pb_gain, .ref pb_custom, .ref pb_ruled, .int 0, .ref pb_deedHour, .ref pb_deedPerson, .ref pb_deedClock])), (pb_first, .inl (k_pb_first, 10, .inl (fun _ => 0))), (pb_gain, .inl (k_pb_gain, 10, .inl (fun _ => 0))), (pb_custom, .inl (k_pb_custom, 5, .inl (fun _ => 0))), (pb_ruled, .inl (k_pb_ruled, 5, .inl (fun _ => 0))), (cn, .inr (0, [.ref pa, .int 0, .int 0, .ref cn_last, .ref cn_passed, .ref cn_keptCount, .int 0, .int 0, .int 0, .int 0, .ref cn_off, .ref cn_since, .ref cn_kept, .ref cn_sorted])), (ct, .inr (0, [.ref pa, .int 0, .int 0, .ref ct_last, .ref ct_passed, .ref ct_keptCount, .int 0, .int 0, .int 0, .int 0, .ref ct_off, .ref ct_since, .ref ct_kept, .ref ct_sorted])), (ct_off, .inl (k_ct_off, 10, .inl (fun _ => 0))), (ct_since, .inl (k_ct_since, 10, .inl (fun _ => 0))), (ct_last, .inl (k_ct_last, 5, .inl (fun _ => 0))), (ct_passed, .inl (k_ct_passed, 5, .inl (fun _ => 0))), (ct_keptCount, .inl (k_ct_keptCount, 5, .inl (fun _ => 0))), (mm, .inr (11, [.int 0, .ref mm_tape, .int 0, .ref mm_number, .ref mm_clockName, .ref mm_clockOff, .ref mm_clockGain, .ref mm_clockRough, .ref mm_personName, .ref mm_personOff, .ref mm_personGain, .ref mm_personRough, .ref mm_custom, .ref mm_customA, .ref mm_customB, .ref mm_ruleFrom, .ref mm_ruleTo, .ref mm_roundOf, .ref mm_roundAt, .ref mm_roundHour, .ref mm_gunAt, .ref mm_gunHour, .ref mm_knotSort, .ref mm_knotValue, .int 0, .int 0, .int 0, .int 0, .int 0, .int 0, .int 0, .int 0, .int 0, .int (-1), .int 0, .int 0, .int 0, .int 0, .int 0, .int 0, .int 0, .int 0, .int 0, .int 0, .int 0, .int 0, .ref mm_start, .ref mm_off, .ref mm_last, .ref mm_passed, .ref mm_kept, .ref mm_keptMany, .int 0, .int 0, .ref mm_history, .ref mm_names, .ref mm_worked, .int 0, .int 0, .int (-1), .ref mm_readThing, .ref mm_readHour, .ref mm_readLow, .ref mm_readHigh, .int 0, .int 0, .int 0, .ref mm_imageOff, .ref mm_imageLast, .ref mm_imagePassed, .ref mm_imageKept, .ref mm_imageMany, .ref mm_imageHistory])), (mm_number, .inl (k_mm_number, 10, .inl (fun _ => 0))), (mm_off, .inl (k_mm_off, 20, .inl (fun _ => 0))), (mm_last, .inl (k_mm_last, 10, .inl (fun _ => 0))), (mm_passed, .inl (k_mm_passed, 10, .inl (fun _ => 0))), (mm_keptMany, .inl (k_mm_keptMany, 10, .inl (fun _ => 0)))] H) (hD : va_D A [(xx, .inr (10, [.ref rr, .ref ta, .ref tb, .ref pa, .ref pb, .ref cn, .ref ci, .int 0, .ref cp, .ref ct, .ref hs, .ref rd, .ref wy, .ref ea, .ref eb])), (ta, .inr (8, [.int 0, .int 0, .int 0, .int 0, .int 0, .ref ta_name, .ref ta_first, .ref ta_gain, .ref ta_rough, .ref ta_custom, .ref ta_part, .ref ta_whole, .ref ta_roundPerson, .ref ta_roundClock, .ref ta_roundHour, .ref ta_gunClock, .ref ta_gunHour, .ref tau])), (ta_first, .inl (k_ta_first, 10, .inl (fun _ => 0))), (ta_gain, .inl (k_ta_gain, 10, .inl (fun _ => 0))), (ta_custom, .inl (k_ta_custom, 5, .inl (fun _ => 0))), (tau, .inr (6, [.int 0, .ref tau_kind, .ref tau_number, .ref tau_from, .ref tau_until, .ref tau_names, .ref tau_stack])), (tau_from, .inl (k_tau_from, 5, .inl (fun _ => 0))), (tau_until, .inl (k_tau_until, 5, .inl (fun _ => 0))), (pb, .inr (3, [.ref ta, .ref pb_first, .ref pb_gain, .ref pb_custom, .ref pb_ruled, .int 0, .ref pb_deedHour, .ref pb_deedPerson, .ref pb_deedClock])), (pb_first, .inl (k_pb_first, 10, .inl (fun _ => 0))), (pb_gain, .inl (k_pb_gain, 10, .inl (fun _ => 0))), (pb_custom, .inl (k_pb_custom, 5, .inl (fun _ => 0))), (pb_ruled, .inl (k_pb_ruled, 5, .inl (fun _ => 0))), (cn, .inr (0, [.ref pa, .int 0, .int 0, .ref cn_last, .ref cn_passed, .ref cn_keptCount, .int 0, .int 0, .int 0, .int 0, .ref cn_off, .ref cn_since, .ref cn_kept, .ref cn_sorted])), (ct, .inr (0, [.ref pa, .int 0, .int 0, .ref ct_last, .ref ct_passed, .ref ct_keptCount, .int 0, .int 0, .int 0, .int 0, .ref ct_off, .ref ct_since, .ref ct_kept, .ref ct_sorted])), (ct_off, .inl (k_ct_off, 10, .inl (fun _ => 0))), (ct_since, .inl (k_ct_since, 10, .inl (fun _ => 0))), (ct_last, .inl (k_ct_last, 5, .inl (fun _ => 0))), (ct_passed, .inl (k_ct_passed, 5, .inl (fun _ => 0))), (ct_keptCount, .inl (k_ct_keptCount, 5, .inl (fun _ => 0))), (mm, .inr (11, [.int 0, .ref mm_tape, .int 0, .ref mm_number, .ref mm_clockName, .ref mm_clockOff, .ref mm_clockGain, .ref mm_clockRough, .ref mm_personName, .ref mm_personOff, .ref mm_personGain, .ref mm_personRough, .ref mm_custom, .ref mm_customA, .ref mm_customB, .ref mm_ruleFrom, .ref mm_ruleTo, .ref mm_roundOf, .ref mm_roundAt, .ref mm_roundHour, .ref mm_gunAt, .ref mm_gunHour, .ref mm_knotSort, .ref mm_knotValue, .int 0, .int 0, .int 0, .int 0, .int 0, .int 0, .int 0, .int 0, .int 0, .int (-1), .int 0, .int 0, .int 0, .int 0, .int 0, .int 0, .int 0, .int 0, .int 0, .int 0, .int 0, .int 0, .ref mm_start, .ref mm_off, .ref mm_last, .ref mm_passed, .ref mm_kept, .ref mm_keptMany, .int 0, .int 0, .ref mm_history, .ref mm_names, .ref mm_worked, .int 0, .int 0, .int (-1), .ref mm_readThing, .ref mm_readHour, .ref mm_readLow, .ref mm_readHigh, .int 0, .int 0, .int 0, .ref mm_imageOff, .ref mm_imageLast, .ref mm_imagePassed, .ref mm_imageKept, .ref mm_imageMany, .ref mm_imageHistory])), (mm_number, .inl (k_mm_number, 10, .inl (fun _ => 0))), (mm_off, .inl (k_mm_off, 20, .inl (fun _ => 0))), (mm_last, .inl (k_mm_last, 10, .inl (fun _ => 0))), (mm_passed, .inl (k_mm_passed, 10, .inl (fun _ => 0))), (mm_keptMany, .inl (k_mm_keptMany, 10, .inl (fun _ => 0)))]) (hS : va_S A s.heap H locs) (hl : lv_has ls 7 [(4, .int 0), (3, .ref oo), (2, .ref mm), (1, .ref xx), (0, .ref b)]) : W p l e room_1 s m #[Value.ref b] below meth c H locs 160 67979 (lw_Z below #[Value.ref b] s) (F0 m 1268 ls []) := by
  obtain ⟨hx, hb, hr, hml, hown, hts, hX, hbl, hlocks, hgv⟩ := C0
  have hT : ∀ w ∈ pw_T, w.before #[Value.ref b] s = true := fun w h => hts w (List.mem_filter.mp h).1
  have hown : s.vm.findClass RL = some m.cls := hown
  refine lv_aload_n hx hb dL_law_1268 rfl (lv_at hl 3 rfl) ?_
  refine lv_aload_n hx hb dL_law_1269 rfl (lv_at hl 4 rfl) ?_
  refine lv_iload hx hb dL_law_1270 (lv_at hl 0 rfl) ?_
  refine lv_iconst (v := 1) hx hb dL_law_1272 (by decide) ?_
  refine lv_iadd hx hb dL_law_1273 ?_
  refine lv_topi (fun z_1 ez_1 => ?_)
  obtain rfl : z_1 = 1 := ez_1.trans (by decide)
  refine va_sld hx hb hX hbl hbA hS (pk_in 1 7 (by decide) (by decide) (by decide)) dL_law_1274 ?_
  refine lv_topi (fun z_2 ez_2 => ?_)
  replace ez_2 : z_2 = xs 1 := ez_2
  subst z_2
  refine lv_aload_n hx hb dL_law_1275 rfl (lv_at hl 4 rfl) ?_
  refine lv_iload hx hb dL_law_1276 (lv_at hl 0 rfl) ?_
  refine lv_iconst (v := 2) hx hb dL_law_1278 (by decide) ?_
  refine lv_iadd hx hb dL_law_1279 ?_
  refine lv_topi (fun z_3 ez_3 => ?_)
  obtain rfl : z_3 = 2 := ez_3.trans (by decide)
  refine va_sld hx hb hX hbl hbA hS (pk_in 2 7 (by decide) (by decide) (by decide)) dL_law_1280 ?_
  refine lv_topi (fun z_4 ez_4 => ?_)
  replace ez_4 : z_4 = xs 2 := ez_4
  subst z_4
  have hPc := hP.sub (ws' := [(xx, .inr (10, [.ref rr, .ref ta, .ref tb, .ref pa, .ref pb, .ref cn, .ref ci, .int 0, .ref cp, .ref ct, .ref hs, .ref rd, .ref wy, .ref ea, .ref eb])), (pb, .inr (3, [.ref ta, .ref pb_first, .ref pb_gain, .ref pb_custom, .ref pb_ruled, .int 0, .ref pb_deedHour, .ref pb_deedPerson, .ref pb_deedClock])), (pb_first, .inl (k_pb_first, 10, .inl (fun _ => 0))), (pb_gain, .inl (k_pb_gain, 10, .inl (fun _ => 0))), (pb_custom, .inl (k_pb_custom, 5, .inl (fun _ => 0))), (pb_ruled, .inl (k_pb_ruled, 5, .inl (fun _ => 0))), (ta, .inr (8, [.int 0, .int 0, .int 0, .int 0, .int 0, .ref ta_name, .ref ta_first, .ref ta_gain, .ref ta_rough, .ref ta_custom, .ref ta_part, .ref ta_whole, .ref ta_roundPerson, .ref ta_roundClock, .ref ta_roundHour, .ref ta_gunClock, .ref ta_gunHour, .ref tau])), (ta_first, .inl (k_ta_first, 10, .inl (fun _ => 0))), (ta_gain, .inl (k_ta_gain, 10, .inl (fun _ => 0))), (ta_custom, .inl (k_ta_custom, 5, .inl (fun _ => 0))), (tau, .inr (6, [.int 0, .ref tau_kind, .ref tau_number, .ref tau_from, .ref tau_until, .ref tau_names, .ref tau_stack])), (tau_from, .inl (k_tau_from, 5, .inl (fun _ => 0))), (tau_until, .inl (k_tau_until, 5, .inl (fun _ => 0))), (ct, .inr (0, [.ref pa, .int 0, .int 0, .ref ct_last, .ref ct_passed, .ref ct_keptCount, .int 0, .int 0, .int 0, .int 0, .ref ct_off, .ref ct_since, .ref ct_kept, .ref ct_sorted])), (ct_off, .inl (k_ct_off, 10, .inl (fun _ => 0))), (ct_since, .inl (k_ct_since, 10, .inl (fun _ => 0))), (ct_last, .inl (k_ct_last, 5, .inl (fun _ => 0))), (ct_passed, .inl (k_ct_passed, 5, .inl (fun _ => 0))), (ct_keptCount, .inl (k_ct_keptCount, 5, .inl (fun _ => 0))), (cn, .inr (0, [.ref pa, .int 0, .int 0, .ref cn_last, .ref cn_passed, .ref cn_keptCount, .int 0, .int 0, .int 0, .int 0, .ref cn_off, .ref cn_since, .ref cn_kept, .ref cn_sorted]))]) [0, 8, 9, 10, 11, 12, 1, 2, 3, 4, 5, 6, 7, 14, 15, 16, 17, 18, 19, 13] rfl
  have hDc := hD.sub (ws' := [(xx, .inr (10, [.ref rr, .ref ta, .ref tb, .ref pa, .ref pb, .ref cn, .ref ci, .int 0, .ref cp, .ref ct, .ref hs, .ref rd, .ref wy, .ref ea, .ref eb])), (pb, .inr (3, [.ref ta, .ref pb_first, .ref pb_gain, .ref pb_custom, .ref pb_ruled, .int 0, .ref pb_deedHour, .ref pb_deedPerson, .ref pb_deedClock])), (pb_first, .inl (k_pb_first, 10, .inl (fun _ => 0))), (pb_gain, .inl (k_pb_gain, 10, .inl (fun _ => 0))), (pb_custom, .inl (k_pb_custom, 5, .inl (fun _ => 0))), (pb_ruled, .inl (k_pb_ruled, 5, .inl (fun _ => 0))), (ta, .inr (8, [.int 0, .int 0, .int 0, .int 0, .int 0, .ref ta_name, .ref ta_first, .ref ta_gain, .ref ta_rough, .ref ta_custom, .ref ta_part, .ref ta_whole, .ref ta_roundPerson, .ref ta_roundClock, .ref ta_roundHour, .ref ta_gunClock, .ref ta_gunHour, .ref tau])), (ta_first, .inl (k_ta_first, 10, .inl (fun _ => 0))), (ta_gain, .inl (k_ta_gain, 10, .inl (fun _ => 0))), (ta_custom, .inl (k_ta_custom, 5, .inl (fun _ => 0))), (tau, .inr (6, [.int 0, .ref tau_kind, .ref tau_number, .ref tau_from, .ref tau_until, .ref tau_names, .ref tau_stack])), (tau_from, .inl (k_tau_from, 5, .inl (fun _ => 0))), (tau_until, .inl (k_tau_until, 5, .inl (fun _ => 0))), (ct, .inr (0, [.ref pa, .int 0, .int 0, .ref ct_last, .ref ct_passed, .ref ct_keptCount, .int 0, .int 0, .int 0, .int 0, .ref ct_off, .ref ct_since, .ref ct_kept, .ref ct_sorted])), (ct_off, .inl (k_ct_off, 10, .inl (fun _ => 0))), (ct_since, .inl (k_ct_since, 10, .inl (fun _ => 0))), (ct_last, .inl (k_ct_last, 5, .inl (fun _ => 0))), (ct_passed, .inl (k_ct_passed, 5, .inl (fun _ => 0))), (ct_keptCount, .inl (k_ct_keptCount, 5, .inl (fun _ => 0))), (cn, .inr (0, [.ref pa, .int 0, .int 0, .ref cn_last, .ref cn_passed, .ref cn_keptCount, .int 0, .int 0, .int 0, .int 0, .ref cn_off, .ref cn_since, .ref cn_kept, .ref cn_sorted]))]) [0, 8, 9, 10, 11, 12, 1, 2, 3, 4, 5, 6, 7, 14, 15, 16, 17, 18, 19, 13] (by decide) rfl
  have hKc := hK.sub (tys' := [(k_pb_first, .int), (k_pb_gain, .int), (k_pb_custom, .int), (k_pb_ruled, .boolean), (k_ta_first, .int), (k_ta_gain, .int), (k_ta_custom, .int), (k_tau_from, .int), (k_tau_until, .int), (k_ct_off, .int), (k_ct_since, .int), (k_ct_last, .int), (k_ct_passed, .int), (k_ct_keptCount, .int)]) [5, 6, 7, 8, 0, 1, 2, 3, 4, 9, 10, 11, 12, 13] rfl
  have hFc := va_free (wc := [(xx, .inr (10, [.ref rr, .ref ta, .ref tb, .ref pa, .ref pb, .ref cn, .ref ci, .int 0, .ref cp, .ref ct, .ref hs, .ref rd, .ref wy, .ref ea, .ref eb])), (pb, .inr (3, [.ref ta, .ref pb_first, .ref pb_gain, .ref pb_custom, .ref pb_ruled, .int 0, .ref pb_deedHour, .ref pb_deedPerson, .ref pb_deedClock])), (pb_first, .inl (k_pb_first, 10, .inl (fun _ => 0))), (pb_gain, .inl (k_pb_gain, 10, .inl (fun _ => 0))), (pb_custom, .inl (k_pb_custom, 5, .inl (fun _ => 0))), (pb_ruled, .inl (k_pb_ruled, 5, .inl (fun _ => 0))), (ta, .inr (8, [.int 0, .int 0, .int 0, .int 0, .int 0, .ref ta_name, .ref ta_first, .ref ta_gain, .ref ta_rough, .ref ta_custom, .ref ta_part, .ref ta_whole, .ref ta_roundPerson, .ref ta_roundClock, .ref ta_roundHour, .ref ta_gunClock, .ref ta_gunHour, .ref tau])), (ta_first, .inl (k_ta_first, 10, .inl (fun _ => 0))), (ta_gain, .inl (k_ta_gain, 10, .inl (fun _ => 0))), (ta_custom, .inl (k_ta_custom, 5, .inl (fun _ => 0))), (tau, .inr (6, [.int 0, .ref tau_kind, .ref tau_number, .ref tau_from, .ref tau_until, .ref tau_names, .ref tau_stack])), (tau_from, .inl (k_tau_from, 5, .inl (fun _ => 0))), (tau_until, .inl (k_tau_until, 5, .inl (fun _ => 0))), (ct, .inr (0, [.ref pa, .int 0, .int 0, .ref ct_last, .ref ct_passed, .ref ct_keptCount, .int 0, .int 0, .int 0, .int 0, .ref ct_off, .ref ct_since, .ref ct_kept, .ref ct_sorted])), (ct_off, .inl (k_ct_off, 10, .inl (fun _ => 0))), (ct_since, .inl (k_ct_since, 10, .inl (fun _ => 0))), (ct_last, .inl (k_ct_last, 5, .inl (fun _ => 0))), (ct_passed, .inl (k_ct_passed, 5, .inl (fun _ => 0))), (ct_keptCount, .inl (k_ct_keptCount, 5, .inl (fun _ => 0))), (cn, .inr (0, [.ref pa, .int 0, .int 0, .ref cn_last, .ref cn_passed, .ref cn_keptCount, .int 0, .int 0, .int 0, .int 0, .ref cn_off, .ref cn_since, .ref cn_kept, .ref cn_sorted]))]) hD hS hA [0, 8, 9, 10, 11, 12, 1, 2, 3, 4, 5, 6, 7, 14, 15, 16, 17, 18, 19, 13] rfl
  have := (by decide : (0 : Int32).toInt = 0)
  have := (by decide : (0 : Int32).toInt = 0)
  have := (by decide : (0 : Int32).toInt = 0)
  have := (by decide : (0 : Int32).toInt = 0)
  have := (by decide : (0 : Int32).toInt = 0)
  have := (by decide : (0 : Int32).toInt = 0)
  have := (by decide : (0 : Int32).toInt = 0)
  have := (by decide : (0 : Int32).toInt = 0)
  have := (by decide : (0 : Int32).toInt = 0)
  have := (by decide : (0 : Int32).toInt = 0)
  have := (by decide : (0 : Int32).toInt = 0)
  have := (by decide : (0 : Int32).toInt = 0)
  have := (by decide : (0 : Int32).toInt = 0)
  have := (by decide : (0 : Int32).toInt = 0)
  have := (by decide : (0 : Int32).toInt = 0)
  refine va_calli (va_runV (As := [.int (xs 1), .int (xs 2)]) (rest := []) ⟨hx, hb, hml, hown, hT⟩ (c_X10_fewest l dC dI H.size xx (xs 1) (xs 2) rr ta tb pa pb cn ci (0 : Int32) cp ct hs rd wy ea eb ta pb_first pb_gain pb_custom pb_ruled (0 : Int32) pb_deedHour pb_deedPerson pb_deedClock k_pb_first (fun _ => 0) k_pb_gain (fun _ => 0) k_pb_custom (fun _ => 0) k_pb_ruled (fun _ => 0) (0 : Int32) ta_name ta_first ta_gain ta_rough ta_custom ta_part ta_whole ta_roundPerson ta_roundClock ta_roundHour ta_gunClock ta_gunHour tau k_ta_first (fun _ => 0) k_ta_gain (fun _ => 0) k_ta_custom (fun _ => 0) (0 : Int32) tau_kind tau_number tau_from tau_until tau_names tau_stack k_tau_from (fun _ => 0) k_tau_until (fun _ => 0) pa (0 : Int32) (0 : Int32) ct_last ct_passed ct_keptCount (0 : Int32) (0 : Int32) (0 : Int32) (0 : Int32) ct_off ct_since ct_kept ct_sorted k_ct_off (fun _ => 0) k_ct_since (fun _ => 0) k_ct_last (fun _ => 0) k_ct_passed (fun _ => 0) k_ct_keptCount (fun _ => 0) pa (0 : Int32) cn_last cn_passed cn_keptCount (0 : Int32) (0 : Int32) (0 : Int32) (0 : Int32) cn_off cn_since cn_kept cn_sorted ) (cwV 2 hT (gwV mw_5_120 mw_5_121 mw_5_122 mw_1_1 mw_5_123) rfl rfl rfl (by decide +kernel) ⟨Nat.le_of_ble_eq_true rfl, Nat.le_of_ble_eq_true rfl⟩) ⟨fun a U g mk q => by obtain ⟨q0, q1, qP, qK, qD⟩ := q; exact ⟨q0, q1, qP, va_K.moved (u := U) (U := U.calling g mk a) (Vm.Alike.refl U.vm) qK, qD⟩, va_recv hK hP (ci := 10) (q0 := 0) rfl rfl, fun U hU hW => ⟨rfl, by rw [hU], by rw [hU]; exact hPc, va_K.moved hW.alike hKc, hDc.weaken (fun _ _ _ _ => trivial)⟩⟩ rfl rfl hl.1 rfl (lv_room (Nat.le_of_ble_eq_true rfl)) dL_law_1281 ⟨Nat.le_of_ble_eq_true rfl, Nat.le_of_ble_eq_true rfl⟩) hS (fun q _ h => hFc q h) hFc (fun r_6 u t H1 locs ht hvm hw hB hz1 hk1 hS => ?_)
  obtain ⟨hP1, hD1⟩ := hB
  rw [ht] at hP1
  obtain ⟨hP, hD⟩ := va_join (wr := [(mm, .inr (11, [.int 0, .ref mm_tape, .int 0, .ref mm_number, .ref mm_clockName, .ref mm_clockOff, .ref mm_clockGain, .ref mm_clockRough, .ref mm_personName, .ref mm_personOff, .ref mm_personGain, .ref mm_personRough, .ref mm_custom, .ref mm_customA, .ref mm_customB, .ref mm_ruleFrom, .ref mm_ruleTo, .ref mm_roundOf, .ref mm_roundAt, .ref mm_roundHour, .ref mm_gunAt, .ref mm_gunHour, .ref mm_knotSort, .ref mm_knotValue, .int 0, .int 0, .int 0, .int 0, .int 0, .int 0, .int 0, .int 0, .int 0, .int (-1), .int 0, .int 0, .int 0, .int 0, .int 0, .int 0, .int 0, .int 0, .int 0, .int 0, .int 0, .int 0, .ref mm_start, .ref mm_off, .ref mm_last, .ref mm_passed, .ref mm_kept, .ref mm_keptMany, .int 0, .int 0, .ref mm_history, .ref mm_names, .ref mm_worked, .int 0, .int 0, .int (-1), .ref mm_readThing, .ref mm_readHour, .ref mm_readLow, .ref mm_readHigh, .int 0, .int 0, .int 0, .ref mm_imageOff, .ref mm_imageLast, .ref mm_imagePassed, .ref mm_imageKept, .ref mm_imageMany, .ref mm_imageHistory])), (mm_number, .inl (k_mm_number, 10, .inl (fun _ => 0))), (mm_off, .inl (k_mm_off, 20, .inl (fun _ => 0))), (mm_last, .inl (k_mm_last, 10, .inl (fun _ => 0))), (mm_passed, .inl (k_mm_passed, 10, .inl (fun _ => 0))), (mm_keptMany, .inl (k_mm_keptMany, 10, .inl (fun _ => 0)))]) (w1 := [(xx, .inr (10, [.ref rr, .ref ta, .ref tb, .ref pa, .ref pb, .ref cn, .ref ci, .int 0, .ref cp, .ref ct, .ref hs, .ref rd, .ref wy, .ref ea, .ref eb]))]) hP hD [0, 8, 9, 10, 11, 12, 1, 2, 3, 4, 5, 6, 7, 14, 15, 16, 17, 18, 19, 13] [20, 21, 22, 23, 24, 25] rfl rfl (by decide) (by decide) hk1 hFc hP1 hD1
  generalize H1 = H at hP hS ⊢
  have hP : va_P (dC, dI) vwCl [(mm, .inr (11, [.int 0, .ref mm_tape, .int 0, .ref mm_number, .ref mm_clockName, .ref mm_clockOff, .ref mm_clockGain, .ref mm_clockRough, .ref mm_personName, .ref mm_personOff, .ref mm_personGain, .ref mm_personRough, .ref mm_custom, .ref mm_customA, .ref mm_customB, .ref mm_ruleFrom, .ref mm_ruleTo, .ref mm_roundOf, .ref mm_roundAt, .ref mm_roundHour, .ref mm_gunAt, .ref mm_gunHour, .ref mm_knotSort, .ref mm_knotValue, .int 0, .int 0, .int 0, .int 0, .int 0, .int 0, .int 0, .int 0, .int 0, .int (-1), .int 0, .int 0, .int 0, .int 0, .int 0, .int 0, .int 0, .int 0, .int 0, .int 0, .int 0, .int 0, .ref mm_start, .ref mm_off, .ref mm_last, .ref mm_passed, .ref mm_kept, .ref mm_keptMany, .int 0, .int 0, .ref mm_history, .ref mm_names, .ref mm_worked, .int 0, .int 0, .int (-1), .ref mm_readThing, .ref mm_readHour, .ref mm_readLow, .ref mm_readHigh, .int 0, .int 0, .int 0, .ref mm_imageOff, .ref mm_imageLast, .ref mm_imagePassed, .ref mm_imageKept, .ref mm_imageMany, .ref mm_imageHistory])), (mm_number, .inl (k_mm_number, 10, .inl (fun _ => 0))), (mm_off, .inl (k_mm_off, 20, .inl (fun _ => 0))), (mm_last, .inl (k_mm_last, 10, .inl (fun _ => 0))), (mm_passed, .inl (k_mm_passed, 10, .inl (fun _ => 0))), (mm_keptMany, .inl (k_mm_keptMany, 10, .inl (fun _ => 0))), (xx, .inr (10, [.ref rr, .ref ta, .ref tb, .ref pa, .ref pb, .ref cn, .ref ci, .int 0, .ref cp, .ref ct, .ref hs, .ref rd, .ref wy, .ref ea, .ref eb]))] H := hP
  have hD : va_D A [(mm, .inr (11, [.int 0, .ref mm_tape, .int 0, .ref mm_number, .ref mm_clockName, .ref mm_clockOff, .ref mm_clockGain, .ref mm_clockRough, .ref mm_personName, .ref mm_personOff, .ref mm_personGain, .ref mm_personRough, .ref mm_custom, .ref mm_customA, .ref mm_customB, .ref mm_ruleFrom, .ref mm_ruleTo, .ref mm_roundOf, .ref mm_roundAt, .ref mm_roundHour, .ref mm_gunAt, .ref mm_gunHour, .ref mm_knotSort, .ref mm_knotValue, .int 0, .int 0, .int 0, .int 0, .int 0, .int 0, .int 0, .int 0, .int 0, .int (-1), .int 0, .int 0, .int 0, .int 0, .int 0, .int 0, .int 0, .int 0, .int 0, .int 0, .int 0, .int 0, .ref mm_start, .ref mm_off, .ref mm_last, .ref mm_passed, .ref mm_kept, .ref mm_keptMany, .int 0, .int 0, .ref mm_history, .ref mm_names, .ref mm_worked, .int 0, .int 0, .int (-1), .ref mm_readThing, .ref mm_readHour, .ref mm_readLow, .ref mm_readHigh, .int 0, .int 0, .int 0, .ref mm_imageOff, .ref mm_imageLast, .ref mm_imagePassed, .ref mm_imageKept, .ref mm_imageMany, .ref mm_imageHistory])), (mm_number, .inl (k_mm_number, 10, .inl (fun _ => 0))), (mm_off, .inl (k_mm_off, 20, .inl (fun _ => 0))), (mm_last, .inl (k_mm_last, 10, .inl (fun _ => 0))), (mm_passed, .inl (k_mm_passed, 10, .inl (fun _ => 0))), (mm_keptMany, .inl (k_mm_keptMany, 10, .inl (fun _ => 0))), (xx, .inr (10, [.ref rr, .ref ta, .ref tb, .ref pa, .ref pb, .ref cn, .ref ci, .int 0, .ref cp, .ref ct, .ref hs, .ref rd, .ref wy, .ref ea, .ref eb]))] := hD
  clear hPc hDc hKc hFc hP1 hD1 hk1 hz1 ht hvm
  have hw : (r_6 = 0 ∧ (0 ≤ (xs 1).toInt ∧ (xs 1).toInt ≤ 100000 ∧ 0 ≤ (xs 2).toInt ∧ (xs 2).toInt ≤ 1)) ∨ (r_6 = -1 ∧ ((xs 1).toInt < 0 ∨ 100000 < (xs 1).toInt ∨ (xs 2).toInt < 0 ∨ 1 < (xs 2).toInt)) := hw
  rcases hw with ⟨hrr_6, hfr_6⟩ | ⟨hrr_6, hfr_6⟩
  · subst r_6
    refine lv_aload_n hx hb dL_law_1284 rfl (lv_at hl 2 rfl) ?_
    refine lv_aload_n hx hb dL_law_1285 rfl (lv_at hl 4 rfl) ?_
    refine lv_iload hx hb dL_law_1286 (lv_at hl 0 rfl) ?_
    refine lv_iconst (v := 1) hx hb dL_law_1288 (by decide) ?_
    refine lv_iadd hx hb dL_law_1289 ?_
    refine lv_topi (fun z_7 ez_7 => ?_)
    obtain rfl : z_7 = 1 := ez_7.trans (by decide)
    refine va_sld hx hb hX hbl hbA hS (pk_in 1 7 (by decide) (by decide) (by decide)) dL_law_1290 ?_
    refine lv_topi (fun z_8 ez_8 => ?_)
    replace ez_8 : z_8 = xs 1 := ez_8
    subst z_8
    refine lv_aload_n hx hb dL_law_1291 rfl (lv_at hl 4 rfl) ?_
    refine lv_iload hx hb dL_law_1292 (lv_at hl 0 rfl) ?_
    refine lv_iconst (v := 2) hx hb dL_law_1294 (by decide) ?_
    refine lv_iadd hx hb dL_law_1295 ?_
    refine lv_topi (fun z_9 ez_9 => ?_)
    obtain rfl : z_9 = 2 := ez_9.trans (by decide)
    refine va_sld hx hb hX hbl hbA hS (pk_in 2 7 (by decide) (by decide) (by decide)) dL_law_1296 ?_
    refine lv_topi (fun z_10 ez_10 => ?_)
    replace ez_10 : z_10 = xs 2 := ez_10
    subst z_10
    have hPc := hP.sub (ws' := [(mm, .inr (11, [.int 0, .ref mm_tape, .int 0, .ref mm_number, .ref mm_clockName, .ref mm_clockOff, .ref mm_clockGain, .ref mm_clockRough, .ref mm_personName, .ref mm_personOff, .ref mm_personGain, .ref mm_personRough, .ref mm_custom, .ref mm_customA, .ref mm_customB, .ref mm_ruleFrom, .ref mm_ruleTo, .ref mm_roundOf, .ref mm_roundAt, .ref mm_roundHour, .ref mm_gunAt, .ref mm_gunHour, .ref mm_knotSort, .ref mm_knotValue, .int 0, .int 0, .int 0, .int 0, .int 0, .int 0, .int 0, .int 0, .int 0, .int (-1), .int 0, .int 0, .int 0, .int 0, .int 0, .int 0, .int 0, .int 0, .int 0, .int 0, .int 0, .int 0, .ref mm_start, .ref mm_off, .ref mm_last, .ref mm_passed, .ref mm_kept, .ref mm_keptMany, .int 0, .int 0, .ref mm_history, .ref mm_names, .ref mm_worked, .int 0, .int 0, .int (-1), .ref mm_readThing, .ref mm_readHour, .ref mm_readLow, .ref mm_readHigh, .int 0, .int 0, .int 0, .ref mm_imageOff, .ref mm_imageLast, .ref mm_imagePassed, .ref mm_imageKept, .ref mm_imageMany, .ref mm_imageHistory])), (mm_number, .inl (k_mm_number, 10, .inl (fun _ => 0))), (mm_off, .inl (k_mm_off, 20, .inl (fun _ => 0))), (mm_last, .inl (k_mm_last, 10, .inl (fun _ => 0))), (mm_passed, .inl (k_mm_passed, 10, .inl (fun _ => 0))), (mm_keptMany, .inl (k_mm_keptMany, 10, .inl (fun _ => 0)))]) [0, 1, 2, 3, 4, 5] rfl
    have hDc := hD.sub (ws' := [(mm, .inr (11, [.int 0, .ref mm_tape, .int 0, .ref mm_number, .ref mm_clockName, .ref mm_clockOff, .ref mm_clockGain, .ref mm_clockRough, .ref mm_personName, .ref mm_personOff, .ref mm_personGain, .ref mm_personRough, .ref mm_custom, .ref mm_customA, .ref mm_customB, .ref mm_ruleFrom, .ref mm_ruleTo, .ref mm_roundOf, .ref mm_roundAt, .ref mm_roundHour, .ref mm_gunAt, .ref mm_gunHour, .ref mm_knotSort, .ref mm_knotValue, .int 0, .int 0, .int 0, .int 0, .int 0, .int 0, .int 0, .int 0, .int 0, .int (-1), .int 0, .int 0, .int 0, .int 0, .int 0, .int 0, .int 0, .int 0, .int 0, .int 0, .int 0, .int 0, .ref mm_start, .ref mm_off, .ref mm_last, .ref mm_passed, .ref mm_kept, .ref mm_keptMany, .int 0, .int 0, .ref mm_history, .ref mm_names, .ref mm_worked, .int 0, .int 0, .int (-1), .ref mm_readThing, .ref mm_readHour, .ref mm_readLow, .ref mm_readHigh, .int 0, .int 0, .int 0, .ref mm_imageOff, .ref mm_imageLast, .ref mm_imagePassed, .ref mm_imageKept, .ref mm_imageMany, .ref mm_imageHistory])), (mm_number, .inl (k_mm_number, 10, .inl (fun _ => 0))), (mm_off, .inl (k_mm_off, 20, .inl (fun _ => 0))), (mm_last, .inl (k_mm_last, 10, .inl (fun _ => 0))), (mm_passed, .inl (k_mm_passed, 10, .inl (fun _ => 0))), (mm_keptMany, .inl (k_mm_keptMany, 10, .inl (fun _ => 0)))]) [0, 1, 2, 3, 4, 5] (by decide) rfl
    have hKc := hK.sub (tys' := [(k_mm_number, .int), (k_mm_off, .int), (k_mm_last, .int), (k_mm_passed, .int), (k_mm_keptMany, .int)]) [14, 15, 16, 17, 18] rfl
    have hFc := va_free (wc := [(mm, .inr (11, [.int 0, .ref mm_tape, .int 0, .ref mm_number, .ref mm_clockName, .ref mm_clockOff, .ref mm_clockGain, .ref mm_clockRough, .ref mm_personName, .ref mm_personOff, .ref mm_personGain, .ref mm_personRough, .ref mm_custom, .ref mm_customA, .ref mm_customB, .ref mm_ruleFrom, .ref mm_ruleTo, .ref mm_roundOf, .ref mm_roundAt, .ref mm_roundHour, .ref mm_gunAt, .ref mm_gunHour, .ref mm_knotSort, .ref mm_knotValue, .int 0, .int 0, .int 0, .int 0, .int 0, .int 0, .int 0, .int 0, .int 0, .int (-1), .int 0, .int 0, .int 0, .int 0, .int 0, .int 0, .int 0, .int 0, .int 0, .int 0, .int 0, .int 0, .ref mm_start, .ref mm_off, .ref mm_last, .ref mm_passed, .ref mm_kept, .ref mm_keptMany, .int 0, .int 0, .ref mm_history, .ref mm_names, .ref mm_worked, .int 0, .int 0, .int (-1), .ref mm_readThing, .ref mm_readHour, .ref mm_readLow, .ref mm_readHigh, .int 0, .int 0, .int 0, .ref mm_imageOff, .ref mm_imageLast, .ref mm_imagePassed, .ref mm_imageKept, .ref mm_imageMany, .ref mm_imageHistory])), (mm_number, .inl (k_mm_number, 10, .inl (fun _ => 0))), (mm_off, .inl (k_mm_off, 20, .inl (fun _ => 0))), (mm_last, .inl (k_mm_last, 10, .inl (fun _ => 0))), (mm_passed, .inl (k_mm_passed, 10, .inl (fun _ => 0))), (mm_keptMany, .inl (k_mm_keptMany, 10, .inl (fun _ => 0)))]) hD hS hA [0, 1, 2, 3, 4, 5] rfl
    have := (by decide : (0 : Int32).toInt = 0)
    have := (by decide : (0 : Int32).toInt = 0)
    have := (by decide : (0 : Int32).toInt = 0)
    have := (by decide : (0 : Int32).toInt = 0)
    have := (by decide : (0 : Int32).toInt = 0)
    have := (by decide : (0 : Int32).toInt = 0)
    have := (by decide : (0 : Int32).toInt = 0)
    have := (by decide : (0 : Int32).toInt = 0)
    have := (by decide : (0 : Int32).toInt = 0)
    have := (by decide : (0 : Int32).toInt = 0)
    have := (by decide : (0 : Int32).toInt = 0)
    have := (by decide : ((-1) : Int32).toInt = -1)
    have := (by decide : (0 : Int32).toInt = 0)
    have := (by decide : (0 : Int32).toInt = 0)
    have := (by decide : (0 : Int32).toInt = 0)
    have := (by decide : (0 : Int32).toInt = 0)
    have := (by decide : (0 : Int32).toInt = 0)
    have := (by decide : (0 : Int32).toInt = 0)
    have := (by decide : (0 : Int32).toInt = 0)
    have := (by decide : (0 : Int32).toInt = 0)
    have := (by decide : (0 : Int32).toInt = 0)
    have := (by decide : (0 : Int32).toInt = 0)
    have := (by decide : (0 : Int32).toInt = 0)
    have := (by decide : (0 : Int32).toInt = 0)
    have := (by decide : (0 : Int32).toInt = 0)
    have := (by decide : (0 : Int32).toInt = 0)
    have := (by decide : (0 : Int32).toInt = 0)
    have := (by decide : ((-1) : Int32).toInt = -1)
    have := (by decide : (0 : Int32).toInt = 0)
    have := (by decide : (0 : Int32).toInt = 0)
    have := (by decide : (0 : Int32).toInt = 0)
    refine va_calli (va_runV (As := [.int (xs 1), .int (xs 2)]) (rest := [.int 0]) ⟨hx, hb, hml, hown, hT⟩ (c_X11_fewest l dC dI H.size mm (xs 1) (xs 2) (0 : Int32) mm_tape (0 : Int32) mm_number mm_clockName mm_clockOff mm_clockGain mm_clockRough mm_personName mm_personOff mm_personGain mm_personRough mm_custom mm_customA mm_customB mm_ruleFrom mm_ruleTo mm_roundOf mm_roundAt mm_roundHour mm_gunAt mm_gunHour mm_knotSort mm_knotValue (0 : Int32) (0 : Int32) (0 : Int32) (0 : Int32) (0 : Int32) (0 : Int32) (0 : Int32) (0 : Int32) (0 : Int32) ((-1) : Int32) (0 : Int32) (0 : Int32) (0 : Int32) (0 : Int32) (0 : Int32) (0 : Int32) (0 : Int32) (0 : Int32) (0 : Int32) (0 : Int32) (0 : Int32) (0 : Int32) mm_start mm_off mm_last mm_passed mm_kept mm_keptMany (0 : Int32) mm_history mm_names mm_worked (0 : Int32) (0 : Int32) ((-1) : Int32) mm_readThing mm_readHour mm_readLow mm_readHigh (0 : Int32) (0 : Int32) (0 : Int32) mm_imageOff mm_imageLast mm_imagePassed mm_imageKept mm_imageMany mm_imageHistory k_mm_number (fun _ => 0) k_mm_off (fun _ => 0) k_mm_last (fun _ => 0) k_mm_passed (fun _ => 0) k_mm_keptMany (fun _ => 0) (fun _ => rfl)) (cwV 2 hT (gwV mw_8_154 mw_8_155 mw_8_156 mw_1_16 mw_8_157) rfl rfl rfl (by decide +kernel) ⟨Nat.le_of_ble_eq_true rfl, Nat.le_of_ble_eq_true rfl⟩) ⟨fun a U g mk q => by obtain ⟨q0, q1, qP, qK, qD⟩ := q; exact ⟨q0, q1, qP, va_K.moved (u := U) (U := U.calling g mk a) (Vm.Alike.refl U.vm) qK, qD⟩, va_recv hK hP (ci := 11) (q0 := 0) rfl rfl, fun U hU hW => ⟨rfl, by rw [hU], by rw [hU]; exact hPc, va_K.moved hW.alike hKc, hDc.weaken (fun _ _ _ _ => trivial)⟩⟩ rfl rfl hl.1 rfl (lv_room (Nat.le_of_ble_eq_true rfl)) dL_law_1297 ⟨Nat.le_of_ble_eq_true rfl, Nat.le_of_ble_eq_true rfl⟩) hS (fun q _ h => hFc q h) hFc (fun r_12 u t H1 locs ht hvm hw hB hz1 hk1 hS => ?_)
    obtain ⟨hP1, hD1⟩ := hB
    rw [ht] at hP1
    obtain ⟨hP, hD⟩ := va_join (wr := [(xx, .inr (10, [.ref rr, .ref ta, .ref tb, .ref pa, .ref pb, .ref cn, .ref ci, .int 0, .ref cp, .ref ct, .ref hs, .ref rd, .ref wy, .ref ea, .ref eb]))]) (w1 := []) hP hD [0, 1, 2, 3, 4, 5] [6] rfl rfl (by decide) (by decide) hk1 hFc hP1 hD1
    generalize H1 = H at hP hS ⊢
    have hP : va_P (dC, dI) vwCl [(xx, .inr (10, [.ref rr, .ref ta, .ref tb, .ref pa, .ref pb, .ref cn, .ref ci, .int 0, .ref cp, .ref ct, .ref hs, .ref rd, .ref wy, .ref ea, .ref eb]))] H := hP
    have hD : va_D A [(xx, .inr (10, [.ref rr, .ref ta, .ref tb, .ref pa, .ref pb, .ref cn, .ref ci, .int 0, .ref cp, .ref ct, .ref hs, .ref rd, .ref wy, .ref ea, .ref eb]))] := hD
    clear hPc hDc hKc hFc hP1 hD1 hk1 hz1 ht hvm
    have hw : (r_12 = 0 ∧ (0 ≤ (xs 1).toInt ∧ (xs 1).toInt ≤ 100000 ∧ 0 ≤ (xs 2).toInt ∧ (xs 2).toInt ≤ 1)) ∨ (r_12 = -1 ∧ ((xs 1).toInt < 0 ∨ 100000 < (xs 1).toInt ∨ (xs 2).toInt < 0 ∨ 1 < (xs 2).toInt)) := hw
    rcases hw with ⟨hrr_12, hfr_12⟩ | ⟨hrr_12, hfr_12⟩
    · subst r_12
      refine lv_icmp_eq (tgt := 1482) hx hb dL_law_1300 (by decide) (fun c_13 => ?_) (fun c_13 => absurd c_13 (by decide))
      refine lv_iinc (v := 7) (lv' := [(4, .int 7), (3, .ref oo), (2, .ref mm), (1, .ref xx), (0, .ref b)]) hx hb dL_law_1482 hl (k := 0) rfl (by decide) (by decide) rfl (fun ls hl => ?_)
      refine lv_goto (tgt := 23) hx hb dL_law_1485 (by decide) ?_
      refine lv_iload hx hb dL_law_23 (lv_at hl 0 rfl) ?_
      refine lv_aload_n hx hb dL_law_25 rfl (lv_at hl 4 rfl) ?_
      refine va_slen hx hb hX hbl hbA hS dL_law_26 ?_
      refine lv_topi (fun z_14 ez_14 => ?_)
      obtain rfl : z_14 = 7 := ez_14.trans (by decide)
      refine lv_bipush (v := 7) hx hb dL_law_27 (by decide) ?_
      refine lv_isub hx hb dL_law_29 ?_
      refine lv_topi (fun z_15 ez_15 => ?_)
      obtain rfl : z_15 = 0 := ez_15.trans (by decide)
      refine lv_icmp_gt (tgt := 1488) hx hb dL_law_30 (by decide) (fun c_16 => ?_) (fun c_16 => absurd c_16 (by decide))
      refine lv_iconst (v := 1) hx hb dL_law_1488 (by decide) ?_
      refine va_forget (fun q hq => hAo _ (hS.2.2 q hq)) ?_
      refine W.widen (k := 600002) (n := 7302232) (Nat.le_of_ble_eq_true rfl) (Nat.le_of_ble_eq_true rfl) ?_
      exact lw_ret hx hb hr hlocks dL_law_1489
    · subst r_12
      exact False.elim (by omega)
  · subst r_6
    refine lv_aload_n hx hb dL_law_1284 rfl (lv_at hl 2 rfl) ?_
    refine lv_aload_n hx hb dL_law_1285 rfl (lv_at hl 4 rfl) ?_
    refine lv_iload hx hb dL_law_1286 (lv_at hl 0 rfl) ?_
    refine lv_iconst (v := 1) hx hb dL_law_1288 (by decide) ?_
    refine lv_iadd hx hb dL_law_1289 ?_
    refine lv_topi (fun z_17 ez_17 => ?_)
    obtain rfl : z_17 = 1 := ez_17.trans (by decide)
    refine va_sld hx hb hX hbl hbA hS (pk_in 1 7 (by decide) (by decide) (by decide)) dL_law_1290 ?_
    refine lv_topi (fun z_18 ez_18 => ?_)
    replace ez_18 : z_18 = xs 1 := ez_18
    subst z_18
    refine lv_aload_n hx hb dL_law_1291 rfl (lv_at hl 4 rfl) ?_
    refine lv_iload hx hb dL_law_1292 (lv_at hl 0 rfl) ?_
    refine lv_iconst (v := 2) hx hb dL_law_1294 (by decide) ?_
    refine lv_iadd hx hb dL_law_1295 ?_
    refine lv_topi (fun z_19 ez_19 => ?_)
    obtain rfl : z_19 = 2 := ez_19.trans (by decide)
    refine va_sld hx hb hX hbl hbA hS (pk_in 2 7 (by decide) (by decide) (by decide)) dL_law_1296 ?_
    refine lv_topi (fun z_20 ez_20 => ?_)
    replace ez_20 : z_20 = xs 2 := ez_20
    subst z_20
    have hPc := hP.sub (ws' := [(mm, .inr (11, [.int 0, .ref mm_tape, .int 0, .ref mm_number, .ref mm_clockName, .ref mm_clockOff, .ref mm_clockGain, .ref mm_clockRough, .ref mm_personName, .ref mm_personOff, .ref mm_personGain, .ref mm_personRough, .ref mm_custom, .ref mm_customA, .ref mm_customB, .ref mm_ruleFrom, .ref mm_ruleTo, .ref mm_roundOf, .ref mm_roundAt, .ref mm_roundHour, .ref mm_gunAt, .ref mm_gunHour, .ref mm_knotSort, .ref mm_knotValue, .int 0, .int 0, .int 0, .int 0, .int 0, .int 0, .int 0, .int 0, .int 0, .int (-1), .int 0, .int 0, .int 0, .int 0, .int 0, .int 0, .int 0, .int 0, .int 0, .int 0, .int 0, .int 0, .ref mm_start, .ref mm_off, .ref mm_last, .ref mm_passed, .ref mm_kept, .ref mm_keptMany, .int 0, .int 0, .ref mm_history, .ref mm_names, .ref mm_worked, .int 0, .int 0, .int (-1), .ref mm_readThing, .ref mm_readHour, .ref mm_readLow, .ref mm_readHigh, .int 0, .int 0, .int 0, .ref mm_imageOff, .ref mm_imageLast, .ref mm_imagePassed, .ref mm_imageKept, .ref mm_imageMany, .ref mm_imageHistory])), (mm_number, .inl (k_mm_number, 10, .inl (fun _ => 0))), (mm_off, .inl (k_mm_off, 20, .inl (fun _ => 0))), (mm_last, .inl (k_mm_last, 10, .inl (fun _ => 0))), (mm_passed, .inl (k_mm_passed, 10, .inl (fun _ => 0))), (mm_keptMany, .inl (k_mm_keptMany, 10, .inl (fun _ => 0)))]) [0, 1, 2, 3, 4, 5] rfl
    have hDc := hD.sub (ws' := [(mm, .inr (11, [.int 0, .ref mm_tape, .int 0, .ref mm_number, .ref mm_clockName, .ref mm_clockOff, .ref mm_clockGain, .ref mm_clockRough, .ref mm_personName, .ref mm_personOff, .ref mm_personGain, .ref mm_personRough, .ref mm_custom, .ref mm_customA, .ref mm_customB, .ref mm_ruleFrom, .ref mm_ruleTo, .ref mm_roundOf, .ref mm_roundAt, .ref mm_roundHour, .ref mm_gunAt, .ref mm_gunHour, .ref mm_knotSort, .ref mm_knotValue, .int 0, .int 0, .int 0, .int 0, .int 0, .int 0, .int 0, .int 0, .int 0, .int (-1), .int 0, .int 0, .int 0, .int 0, .int 0, .int 0, .int 0, .int 0, .int 0, .int 0, .int 0, .int 0, .ref mm_start, .ref mm_off, .ref mm_last, .ref mm_passed, .ref mm_kept, .ref mm_keptMany, .int 0, .int 0, .ref mm_history, .ref mm_names, .ref mm_worked, .int 0, .int 0, .int (-1), .ref mm_readThing, .ref mm_readHour, .ref mm_readLow, .ref mm_readHigh, .int 0, .int 0, .int 0, .ref mm_imageOff, .ref mm_imageLast, .ref mm_imagePassed, .ref mm_imageKept, .ref mm_imageMany, .ref mm_imageHistory])), (mm_number, .inl (k_mm_number, 10, .inl (fun _ => 0))), (mm_off, .inl (k_mm_off, 20, .inl (fun _ => 0))), (mm_last, .inl (k_mm_last, 10, .inl (fun _ => 0))), (mm_passed, .inl (k_mm_passed, 10, .inl (fun _ => 0))), (mm_keptMany, .inl (k_mm_keptMany, 10, .inl (fun _ => 0)))]) [0, 1, 2, 3, 4, 5] (by decide) rfl
    have hKc := hK.sub (tys' := [(k_mm_number, .int), (k_mm_off, .int), (k_mm_last, .int), (k_mm_passed, .int), (k_mm_keptMany, .int)]) [14, 15, 16, 17, 18] rfl
    have hFc := va_free (wc := [(mm, .inr (11, [.int 0, .ref mm_tape, .int 0, .ref mm_number, .ref mm_clockName, .ref mm_clockOff, .ref mm_clockGain, .ref mm_clockRough, .ref mm_personName, .ref mm_personOff, .ref mm_personGain, .ref mm_personRough, .ref mm_custom, .ref mm_customA, .ref mm_customB, .ref mm_ruleFrom, .ref mm_ruleTo, .ref mm_roundOf, .ref mm_roundAt, .ref mm_roundHour, .ref mm_gunAt, .ref mm_gunHour, .ref mm_knotSort, .ref mm_knotValue, .int 0, .int 0, .int 0, .int 0, .int 0, .int 0, .int 0, .int 0, .int 0, .int (-1), .int 0, .int 0, .int 0, .int 0, .int 0, .int 0, .int 0, .int 0, .int 0, .int 0, .int 0, .int 0, .ref mm_start, .ref mm_off, .ref mm_last, .ref mm_passed, .ref mm_kept, .ref mm_keptMany, .int 0, .int 0, .ref mm_history, .ref mm_names, .ref mm_worked, .int 0, .int 0, .int (-1), .ref mm_readThing, .ref mm_readHour, .ref mm_readLow, .ref mm_readHigh, .int 0, .int 0, .int 0, .ref mm_imageOff, .ref mm_imageLast, .ref mm_imagePassed, .ref mm_imageKept, .ref mm_imageMany, .ref mm_imageHistory])), (mm_number, .inl (k_mm_number, 10, .inl (fun _ => 0))), (mm_off, .inl (k_mm_off, 20, .inl (fun _ => 0))), (mm_last, .inl (k_mm_last, 10, .inl (fun _ => 0))), (mm_passed, .inl (k_mm_passed, 10, .inl (fun _ => 0))), (mm_keptMany, .inl (k_mm_keptMany, 10, .inl (fun _ => 0)))]) hD hS hA [0, 1, 2, 3, 4, 5] rfl
    have := (by decide : (0 : Int32).toInt = 0)
    have := (by decide : (0 : Int32).toInt = 0)
    have := (by decide : (0 : Int32).toInt = 0)
    have := (by decide : (0 : Int32).toInt = 0)
    have := (by decide : (0 : Int32).toInt = 0)
    have := (by decide : (0 : Int32).toInt = 0)
    have := (by decide : (0 : Int32).toInt = 0)
    have := (by decide : (0 : Int32).toInt = 0)
    have := (by decide : (0 : Int32).toInt = 0)
    have := (by decide : (0 : Int32).toInt = 0)
    have := (by decide : (0 : Int32).toInt = 0)
    have := (by decide : ((-1) : Int32).toInt = -1)
    have := (by decide : (0 : Int32).toInt = 0)
    have := (by decide : (0 : Int32).toInt = 0)
    have := (by decide : (0 : Int32).toInt = 0)
    have := (by decide : (0 : Int32).toInt = 0)
    have := (by decide : (0 : Int32).toInt = 0)
    have := (by decide : (0 : Int32).toInt = 0)
    have := (by decide : (0 : Int32).toInt = 0)
    have := (by decide : (0 : Int32).toInt = 0)
    have := (by decide : (0 : Int32).toInt = 0)
    have := (by decide : (0 : Int32).toInt = 0)
    have := (by decide : (0 : Int32).toInt = 0)
    have := (by decide : (0 : Int32).toInt = 0)
    have := (by decide : (0 : Int32).toInt = 0)
    have := (by decide : (0 : Int32).toInt = 0)
    have := (by decide : (0 : Int32).toInt = 0)
    have := (by decide : ((-1) : Int32).toInt = -1)
    have := (by decide : (0 : Int32).toInt = 0)
    have := (by decide : (0 : Int32).toInt = 0)
    have := (by decide : (0 : Int32).toInt = 0)
    refine va_calli (va_runV (As := [.int (xs 1), .int (xs 2)]) (rest := [.int (-1)]) ⟨hx, hb, hml, hown, hT⟩ (c_X11_fewest l dC dI H.size mm (xs 1) (xs 2) (0 : Int32) mm_tape (0 : Int32) mm_number mm_clockName mm_clockOff mm_clockGain mm_clockRough mm_personName mm_personOff mm_personGain mm_personRough mm_custom mm_customA mm_customB mm_ruleFrom mm_ruleTo mm_roundOf mm_roundAt mm_roundHour mm_gunAt mm_gunHour mm_knotSort mm_knotValue (0 : Int32) (0 : Int32) (0 : Int32) (0 : Int32) (0 : Int32) (0 : Int32) (0 : Int32) (0 : Int32) (0 : Int32) ((-1) : Int32) (0 : Int32) (0 : Int32) (0 : Int32) (0 : Int32) (0 : Int32) (0 : Int32) (0 : Int32) (0 : Int32) (0 : Int32) (0 : Int32) (0 : Int32) (0 : Int32) mm_start mm_off mm_last mm_passed mm_kept mm_keptMany (0 : Int32) mm_history mm_names mm_worked (0 : Int32) (0 : Int32) ((-1) : Int32) mm_readThing mm_readHour mm_readLow mm_readHigh (0 : Int32) (0 : Int32) (0 : Int32) mm_imageOff mm_imageLast mm_imagePassed mm_imageKept mm_imageMany mm_imageHistory k_mm_number (fun _ => 0) k_mm_off (fun _ => 0) k_mm_last (fun _ => 0) k_mm_passed (fun _ => 0) k_mm_keptMany (fun _ => 0) (fun _ => rfl)) (cwV 2 hT (gwV mw_8_154 mw_8_155 mw_8_156 mw_1_16 mw_8_157) rfl rfl rfl (by decide +kernel) ⟨Nat.le_of_ble_eq_true rfl, Nat.le_of_ble_eq_true rfl⟩) ⟨fun a U g mk q => by obtain ⟨q0, q1, qP, qK, qD⟩ := q; exact ⟨q0, q1, qP, va_K.moved (u := U) (U := U.calling g mk a) (Vm.Alike.refl U.vm) qK, qD⟩, va_recv hK hP (ci := 11) (q0 := 0) rfl rfl, fun U hU hW => ⟨rfl, by rw [hU], by rw [hU]; exact hPc, va_K.moved hW.alike hKc, hDc.weaken (fun _ _ _ _ => trivial)⟩⟩ rfl rfl hl.1 rfl (lv_room (Nat.le_of_ble_eq_true rfl)) dL_law_1297 ⟨Nat.le_of_ble_eq_true rfl, Nat.le_of_ble_eq_true rfl⟩) hS (fun q _ h => hFc q h) hFc (fun r_22 u t H1 locs ht hvm hw hB hz1 hk1 hS => ?_)
    obtain ⟨hP1, hD1⟩ := hB
    rw [ht] at hP1
    obtain ⟨hP, hD⟩ := va_join (wr := [(xx, .inr (10, [.ref rr, .ref ta, .ref tb, .ref pa, .ref pb, .ref cn, .ref ci, .int 0, .ref cp, .ref ct, .ref hs, .ref rd, .ref wy, .ref ea, .ref eb]))]) (w1 := []) hP hD [0, 1, 2, 3, 4, 5] [6] rfl rfl (by decide) (by decide) hk1 hFc hP1 hD1
    generalize H1 = H at hP hS ⊢
    have hP : va_P (dC, dI) vwCl [(xx, .inr (10, [.ref rr, .ref ta, .ref tb, .ref pa, .ref pb, .ref cn, .ref ci, .int 0, .ref cp, .ref ct, .ref hs, .ref rd, .ref wy, .ref ea, .ref eb]))] H := hP
    have hD : va_D A [(xx, .inr (10, [.ref rr, .ref ta, .ref tb, .ref pa, .ref pb, .ref cn, .ref ci, .int 0, .ref cp, .ref ct, .ref hs, .ref rd, .ref wy, .ref ea, .ref eb]))] := hD
    clear hPc hDc hKc hFc hP1 hD1 hk1 hz1 ht hvm
    have hw : (r_22 = 0 ∧ (0 ≤ (xs 1).toInt ∧ (xs 1).toInt ≤ 100000 ∧ 0 ≤ (xs 2).toInt ∧ (xs 2).toInt ≤ 1)) ∨ (r_22 = -1 ∧ ((xs 1).toInt < 0 ∨ 100000 < (xs 1).toInt ∨ (xs 2).toInt < 0 ∨ 1 < (xs 2).toInt)) := hw
    rcases hw with ⟨hrr_22, hfr_22⟩ | ⟨hrr_22, hfr_22⟩
    · subst r_22
      exact False.elim (by omega)
    · subst r_22
      refine lv_icmp_eq (tgt := 1482) hx hb dL_law_1300 (by decide) (fun c_23 => ?_) (fun c_23 => absurd c_23 (by decide))
      refine lv_iinc (v := 7) (lv' := [(4, .int 7), (3, .ref oo), (2, .ref mm), (1, .ref xx), (0, .ref b)]) hx hb dL_law_1482 hl (k := 0) rfl (by decide) (by decide) rfl (fun ls hl => ?_)
      refine lv_goto (tgt := 23) hx hb dL_law_1485 (by decide) ?_
      refine lv_iload hx hb dL_law_23 (lv_at hl 0 rfl) ?_
      refine lv_aload_n hx hb dL_law_25 rfl (lv_at hl 4 rfl) ?_
      refine va_slen hx hb hX hbl hbA hS dL_law_26 ?_
      refine lv_topi (fun z_24 ez_24 => ?_)
      obtain rfl : z_24 = 7 := ez_24.trans (by decide)
      refine lv_bipush (v := 7) hx hb dL_law_27 (by decide) ?_
      refine lv_isub hx hb dL_law_29 ?_
      refine lv_topi (fun z_25 ez_25 => ?_)
      obtain rfl : z_25 = 0 := ez_25.trans (by decide)
      refine lv_icmp_gt (tgt := 1488) hx hb dL_law_30 (by decide) (fun c_26 => ?_) (fun c_26 => absurd c_26 (by decide))
      refine lv_iconst (v := 1) hx hb dL_law_1488 (by decide) ?_
      refine va_forget (fun q hq => hAo _ (hS.2.2 q hq)) ?_
      refine W.widen (k := 600002) (n := 7302232) (Nat.le_of_ble_eq_true rfl) (Nat.le_of_ble_eq_true rfl) ?_
      exact lw_ret hx hb hr hlocks dL_law_1489
set_option maxHeartbeats 4000000 in
set_option maxRecDepth 100000 in
theorem law_op_27 {p : Program} {l : Launch} {e : Env} {s : State} {m : MethodId} {below : List Frame} {meth : Method} {c : Code} {dC : Nat → ClassId} {dI : Nat → Nat → Nat} {b : Nat} {xs : Nat → Int32} {A : Nat → Prop} (C0 : lw_At p s m meth c b 7 xs) (hA : ∀ q, s.heap.size ≤ q → A q) (hbA : ¬ A b) (hAo : ∀ q, A q → s.heap.size ≤ q) {xx : Nat} {rr : Nat} {ta : Nat} {tb : Nat} {pa : Nat} {pb : Nat} {cn : Nat} {ci : Nat} {cp : Nat} {ct : Nat} {hs : Nat} {rd : Nat} {wy : Nat} {ea : Nat} {eb : Nat} {ta_name : Nat} {ta_first : Nat} {ta_gain : Nat} {ta_rough : Nat} {ta_custom : Nat} {ta_part : Nat} {ta_whole : Nat} {ta_roundPerson : Nat} {ta_roundClock : Nat} {ta_roundHour : Nat} {ta_gunClock : Nat} {ta_gunHour : Nat} {tau : Nat} {mm : Nat} {mm_tape : Nat} {mm_number : Nat} {mm_clockName : Nat} {mm_clockOff : Nat} {mm_clockGain : Nat} {mm_clockRough : Nat} {mm_personName : Nat} {mm_personOff : Nat} {mm_personGain : Nat} {mm_personRough : Nat} {mm_custom : Nat} {mm_customA : Nat} {mm_customB : Nat} {mm_ruleFrom : Nat} {mm_ruleTo : Nat} {mm_roundOf : Nat} {mm_roundAt : Nat} {mm_roundHour : Nat} {mm_gunAt : Nat} {mm_gunHour : Nat} {mm_knotSort : Nat} {mm_knotValue : Nat} {mm_start : Nat} {mm_off : Nat} {mm_last : Nat} {mm_passed : Nat} {mm_kept : Nat} {mm_keptMany : Nat} {mm_history : Nat} {mm_names : Nat} {mm_worked : Nat} {mm_readThing : Nat} {mm_readHour : Nat} {mm_readLow : Nat} {mm_readHigh : Nat} {mm_imageOff : Nat} {mm_imageLast : Nat} {mm_imagePassed : Nat} {mm_imageKept : Nat} {mm_imageMany : Nat} {mm_imageHistory : Nat} {k_mm_number : ClassId} {oo : Nat} {H : Heap} {locs : List Loc} {ls : Array Slot} (hK : va_K (dC, dI) vwCl [(k_mm_number, .int)] s) (hP : va_P (dC, dI) vwCl [(xx, .inr (10, [.ref rr, .ref ta, .ref tb, .ref pa, .ref pb, .ref cn, .ref ci, .int 0, .ref cp, .ref ct, .ref hs, .ref rd, .ref wy, .ref ea, .ref eb])), (ta, .inr (8, [.int 0, .int 0, .int 0, .int 0, .int 0, .ref ta_name, .ref ta_first, .ref ta_gain, .ref ta_rough, .ref ta_custom, .ref ta_part, .ref ta_whole, .ref ta_roundPerson, .ref ta_roundClock, .ref ta_roundHour, .ref ta_gunClock, .ref ta_gunHour, .ref tau])), (mm, .inr (11, [.int 0, .ref mm_tape, .int 0, .ref mm_number, .ref mm_clockName, .ref mm_clockOff, .ref mm_clockGain, .ref mm_clockRough, .ref mm_personName, .ref mm_personOff, .ref mm_personGain, .ref mm_personRough, .ref mm_custom, .ref mm_customA, .ref mm_customB, .ref mm_ruleFrom, .ref mm_ruleTo, .ref mm_roundOf, .ref mm_roundAt, .ref mm_roundHour, .ref mm_gunAt, .ref mm_gunHour, .ref mm_knotSort, .ref mm_knotValue, .int 0, .int 0, .int 0, .int 0, .int 0, .int 0, .int 0, .int 0, .int 0, .int (-1), .int 0, .int 0, .int 0, .int 0, .int 0, .int 0, .int 0, .int 0, .int 0, .int 0, .int 0, .int 0, .ref mm_start, .ref mm_off, .ref mm_last, .ref mm_passed, .ref mm_kept, .ref mm_keptMany, .int 0, .int 0, .ref mm_history, .ref mm_names, .ref mm_worked, .int 0, .int 0, .int (-1), .ref mm_readThing, .ref mm_readHour, .ref mm_readLow, .ref mm_readHigh, .int 0, .int 0, .int 0, .ref mm_imageOff, .ref mm_imageLast, .ref mm_imagePassed, .ref mm_imageKept, .ref mm_imageMany, .ref mm_imageHistory])), (mm_number, .inl (k_mm_number, 10, .inl (fun _ => 0)))] H) (hD : va_D A [(xx, .inr (10, [.ref rr, .ref ta, .ref tb, .ref pa, .ref pb, .ref cn, .ref ci, .int 0, .ref cp, .ref ct, .ref hs, .ref rd, .ref wy, .ref ea, .ref eb])), (ta, .inr (8, [.int 0, .int 0, .int 0, .int 0, .int 0, .ref ta_name, .ref ta_first, .ref ta_gain, .ref ta_rough, .ref ta_custom, .ref ta_part, .ref ta_whole, .ref ta_roundPerson, .ref ta_roundClock, .ref ta_roundHour, .ref ta_gunClock, .ref ta_gunHour, .ref tau])), (mm, .inr (11, [.int 0, .ref mm_tape, .int 0, .ref mm_number, .ref mm_clockName, .ref mm_clockOff, .ref mm_clockGain, .ref mm_clockRough, .ref mm_personName, .ref mm_personOff, .ref mm_personGain, .ref mm_personRough, .ref mm_custom, .ref mm_customA, .ref mm_customB, .ref mm_ruleFrom, .ref mm_ruleTo, .ref mm_roundOf, .ref mm_roundAt, .ref mm_roundHour, .ref mm_gunAt, .ref mm_gunHour, .ref mm_knotSort, .ref mm_knotValue, .int 0, .int 0, .int 0, .int 0, .int 0, .int 0, .int 0, .int 0, .int 0, .int (-1), .int 0, .int 0, .int 0, .int 0, .int 0, .int 0, .int 0, .int 0, .int 0, .int 0, .int 0, .int 0, .ref mm_start, .ref mm_off, .ref mm_last, .ref mm_passed, .ref mm_kept, .ref mm_keptMany, .int 0, .int 0, .ref mm_history, .ref mm_names, .ref mm_worked, .int 0, .int 0, .int (-1), .ref mm_readThing, .ref mm_readHour, .ref mm_readLow, .ref mm_readHigh, .int 0, .int 0, .int 0, .ref mm_imageOff, .ref mm_imageLast, .ref mm_imagePassed, .ref mm_imageKept, .ref mm_imageMany, .ref mm_imageHistory])), (mm_number, .inl (k_mm_number, 10, .inl (fun _ => 0)))]) (hS : va_S A s.heap H locs) (hl : lv_has ls 7 [(4, .int 0), (3, .ref oo), (2, .ref mm), (1, .ref xx), (0, .ref b)]) : W p l e room_1 s m #[Value.ref b] below meth c H locs 160 67979 (lw_Z below #[Value.ref b] s) (F0 m 1305 ls []) := by
  obtain ⟨hx, hb, hr, hml, hown, hts, hX, hbl, hlocks, hgv⟩ := C0
  have hT : ∀ w ∈ pw_T, w.before #[Value.ref b] s = true := fun w h => hts w (List.mem_filter.mp h).1
  have hown : s.vm.findClass RL = some m.cls := hown
  refine lv_aload_n hx hb dL_law_1305 rfl (lv_at hl 3 rfl) ?_
  refine lv_aload_n hx hb dL_law_1306 rfl (lv_at hl 4 rfl) ?_
  refine lv_iload hx hb dL_law_1307 (lv_at hl 0 rfl) ?_
  refine lv_iconst (v := 1) hx hb dL_law_1309 (by decide) ?_
  refine lv_iadd hx hb dL_law_1310 ?_
  refine lv_topi (fun z_1 ez_1 => ?_)
  obtain rfl : z_1 = 1 := ez_1.trans (by decide)
  refine va_sld hx hb hX hbl hbA hS (pk_in 1 7 (by decide) (by decide) (by decide)) dL_law_1311 ?_
  refine lv_topi (fun z_2 ez_2 => ?_)
  replace ez_2 : z_2 = xs 1 := ez_2
  subst z_2
  refine lv_aload_n hx hb dL_law_1312 rfl (lv_at hl 4 rfl) ?_
  refine lv_iload hx hb dL_law_1313 (lv_at hl 0 rfl) ?_
  refine lv_iconst (v := 2) hx hb dL_law_1315 (by decide) ?_
  refine lv_iadd hx hb dL_law_1316 ?_
  refine lv_topi (fun z_3 ez_3 => ?_)
  obtain rfl : z_3 = 2 := ez_3.trans (by decide)
  refine va_sld hx hb hX hbl hbA hS (pk_in 2 7 (by decide) (by decide) (by decide)) dL_law_1317 ?_
  refine lv_topi (fun z_4 ez_4 => ?_)
  replace ez_4 : z_4 = xs 2 := ez_4
  subst z_4
  refine lv_aload_n hx hb dL_law_1318 rfl (lv_at hl 4 rfl) ?_
  refine lv_iload hx hb dL_law_1319 (lv_at hl 0 rfl) ?_
  refine lv_iconst (v := 3) hx hb dL_law_1321 (by decide) ?_
  refine lv_iadd hx hb dL_law_1322 ?_
  refine lv_topi (fun z_5 ez_5 => ?_)
  obtain rfl : z_5 = 3 := ez_5.trans (by decide)
  refine va_sld hx hb hX hbl hbA hS (pk_in 3 7 (by decide) (by decide) (by decide)) dL_law_1323 ?_
  refine lv_topi (fun z_6 ez_6 => ?_)
  replace ez_6 : z_6 = xs 3 := ez_6
  subst z_6
  refine lv_aload_n hx hb dL_law_1324 rfl (lv_at hl 4 rfl) ?_
  refine lv_iload hx hb dL_law_1325 (lv_at hl 0 rfl) ?_
  refine lv_iconst (v := 4) hx hb dL_law_1327 (by decide) ?_
  refine lv_iadd hx hb dL_law_1328 ?_
  refine lv_topi (fun z_7 ez_7 => ?_)
  obtain rfl : z_7 = 4 := ez_7.trans (by decide)
  refine va_sld hx hb hX hbl hbA hS (pk_in 4 7 (by decide) (by decide) (by decide)) dL_law_1329 ?_
  refine lv_topi (fun z_8 ez_8 => ?_)
  replace ez_8 : z_8 = xs 4 := ez_8
  subst z_8
  exact False.elim (by omega)
set_option maxHeartbeats 4000000 in
set_option maxRecDepth 100000 in
theorem law_op_28 {p : Program} {l : Launch} {e : Env} {s : State} {m : MethodId} {below : List Frame} {meth : Method} {c : Code} {dC : Nat → ClassId} {dI : Nat → Nat → Nat} {b : Nat} {xs : Nat → Int32} {A : Nat → Prop} (C0 : lw_At p s m meth c b 7 xs) (hA : ∀ q, s.heap.size ≤ q → A q) (hbA : ¬ A b) (hAo : ∀ q, A q → s.heap.size ≤ q) {xx : Nat} {rr : Nat} {ta : Nat} {tb : Nat} {pa : Nat} {pb : Nat} {cn : Nat} {ci : Nat} {cp : Nat} {ct : Nat} {hs : Nat} {rd : Nat} {wy : Nat} {ea : Nat} {eb : Nat} {ta_name : Nat} {ta_first : Nat} {ta_gain : Nat} {ta_rough : Nat} {ta_custom : Nat} {ta_part : Nat} {ta_whole : Nat} {ta_roundPerson : Nat} {ta_roundClock : Nat} {ta_roundHour : Nat} {ta_gunClock : Nat} {ta_gunHour : Nat} {tau : Nat} {mm : Nat} {mm_tape : Nat} {mm_number : Nat} {mm_clockName : Nat} {mm_clockOff : Nat} {mm_clockGain : Nat} {mm_clockRough : Nat} {mm_personName : Nat} {mm_personOff : Nat} {mm_personGain : Nat} {mm_personRough : Nat} {mm_custom : Nat} {mm_customA : Nat} {mm_customB : Nat} {mm_ruleFrom : Nat} {mm_ruleTo : Nat} {mm_roundOf : Nat} {mm_roundAt : Nat} {mm_roundHour : Nat} {mm_gunAt : Nat} {mm_gunHour : Nat} {mm_knotSort : Nat} {mm_knotValue : Nat} {mm_start : Nat} {mm_off : Nat} {mm_last : Nat} {mm_passed : Nat} {mm_kept : Nat} {mm_keptMany : Nat} {mm_history : Nat} {mm_names : Nat} {mm_worked : Nat} {mm_readThing : Nat} {mm_readHour : Nat} {mm_readLow : Nat} {mm_readHigh : Nat} {mm_imageOff : Nat} {mm_imageLast : Nat} {mm_imagePassed : Nat} {mm_imageKept : Nat} {mm_imageMany : Nat} {mm_imageHistory : Nat} {k_mm_number : ClassId} {oo : Nat} {H : Heap} {locs : List Loc} {ls : Array Slot} (hK : va_K (dC, dI) vwCl [(k_mm_number, .int)] s) (hP : va_P (dC, dI) vwCl [(xx, .inr (10, [.ref rr, .ref ta, .ref tb, .ref pa, .ref pb, .ref cn, .ref ci, .int 0, .ref cp, .ref ct, .ref hs, .ref rd, .ref wy, .ref ea, .ref eb])), (ta, .inr (8, [.int 0, .int 0, .int 0, .int 0, .int 0, .ref ta_name, .ref ta_first, .ref ta_gain, .ref ta_rough, .ref ta_custom, .ref ta_part, .ref ta_whole, .ref ta_roundPerson, .ref ta_roundClock, .ref ta_roundHour, .ref ta_gunClock, .ref ta_gunHour, .ref tau])), (mm, .inr (11, [.int 0, .ref mm_tape, .int 0, .ref mm_number, .ref mm_clockName, .ref mm_clockOff, .ref mm_clockGain, .ref mm_clockRough, .ref mm_personName, .ref mm_personOff, .ref mm_personGain, .ref mm_personRough, .ref mm_custom, .ref mm_customA, .ref mm_customB, .ref mm_ruleFrom, .ref mm_ruleTo, .ref mm_roundOf, .ref mm_roundAt, .ref mm_roundHour, .ref mm_gunAt, .ref mm_gunHour, .ref mm_knotSort, .ref mm_knotValue, .int 0, .int 0, .int 0, .int 0, .int 0, .int 0, .int 0, .int 0, .int 0, .int (-1), .int 0, .int 0, .int 0, .int 0, .int 0, .int 0, .int 0, .int 0, .int 0, .int 0, .int 0, .int 0, .ref mm_start, .ref mm_off, .ref mm_last, .ref mm_passed, .ref mm_kept, .ref mm_keptMany, .int 0, .int 0, .ref mm_history, .ref mm_names, .ref mm_worked, .int 0, .int 0, .int (-1), .ref mm_readThing, .ref mm_readHour, .ref mm_readLow, .ref mm_readHigh, .int 0, .int 0, .int 0, .ref mm_imageOff, .ref mm_imageLast, .ref mm_imagePassed, .ref mm_imageKept, .ref mm_imageMany, .ref mm_imageHistory])), (mm_number, .inl (k_mm_number, 10, .inl (fun _ => 0)))] H) (hD : va_D A [(xx, .inr (10, [.ref rr, .ref ta, .ref tb, .ref pa, .ref pb, .ref cn, .ref ci, .int 0, .ref cp, .ref ct, .ref hs, .ref rd, .ref wy, .ref ea, .ref eb])), (ta, .inr (8, [.int 0, .int 0, .int 0, .int 0, .int 0, .ref ta_name, .ref ta_first, .ref ta_gain, .ref ta_rough, .ref ta_custom, .ref ta_part, .ref ta_whole, .ref ta_roundPerson, .ref ta_roundClock, .ref ta_roundHour, .ref ta_gunClock, .ref ta_gunHour, .ref tau])), (mm, .inr (11, [.int 0, .ref mm_tape, .int 0, .ref mm_number, .ref mm_clockName, .ref mm_clockOff, .ref mm_clockGain, .ref mm_clockRough, .ref mm_personName, .ref mm_personOff, .ref mm_personGain, .ref mm_personRough, .ref mm_custom, .ref mm_customA, .ref mm_customB, .ref mm_ruleFrom, .ref mm_ruleTo, .ref mm_roundOf, .ref mm_roundAt, .ref mm_roundHour, .ref mm_gunAt, .ref mm_gunHour, .ref mm_knotSort, .ref mm_knotValue, .int 0, .int 0, .int 0, .int 0, .int 0, .int 0, .int 0, .int 0, .int 0, .int (-1), .int 0, .int 0, .int 0, .int 0, .int 0, .int 0, .int 0, .int 0, .int 0, .int 0, .int 0, .int 0, .ref mm_start, .ref mm_off, .ref mm_last, .ref mm_passed, .ref mm_kept, .ref mm_keptMany, .int 0, .int 0, .ref mm_history, .ref mm_names, .ref mm_worked, .int 0, .int 0, .int (-1), .ref mm_readThing, .ref mm_readHour, .ref mm_readLow, .ref mm_readHigh, .int 0, .int 0, .int 0, .ref mm_imageOff, .ref mm_imageLast, .ref mm_imagePassed, .ref mm_imageKept, .ref mm_imageMany, .ref mm_imageHistory])), (mm_number, .inl (k_mm_number, 10, .inl (fun _ => 0)))]) (hS : va_S A s.heap H locs) (hl : lv_has ls 7 [(4, .int 0), (3, .ref oo), (2, .ref mm), (1, .ref xx), (0, .ref b)]) : W p l e room_1 s m #[Value.ref b] below meth c H locs 160 67979 (lw_Z below #[Value.ref b] s) (F0 m 1394 ls []) := by
  obtain ⟨hx, hb, hr, hml, hown, hts, hX, hbl, hlocks, hgv⟩ := C0
  have hT : ∀ w ∈ pw_T, w.before #[Value.ref b] s = true := fun w h => hts w (List.mem_filter.mp h).1
  have hown : s.vm.findClass RL = some m.cls := hown
  refine lv_aload_n hx hb dL_law_1394 rfl (lv_at hl 3 rfl) ?_
  refine lv_aload_n hx hb dL_law_1395 rfl (lv_at hl 4 rfl) ?_
  refine lv_iload hx hb dL_law_1396 (lv_at hl 0 rfl) ?_
  refine lv_iconst (v := 1) hx hb dL_law_1398 (by decide) ?_
  refine lv_iadd hx hb dL_law_1399 ?_
  refine lv_topi (fun z_1 ez_1 => ?_)
  obtain rfl : z_1 = 1 := ez_1.trans (by decide)
  refine va_sld hx hb hX hbl hbA hS (pk_in 1 7 (by decide) (by decide) (by decide)) dL_law_1400 ?_
  refine lv_topi (fun z_2 ez_2 => ?_)
  replace ez_2 : z_2 = xs 1 := ez_2
  subst z_2
  refine lv_aload_n hx hb dL_law_1401 rfl (lv_at hl 4 rfl) ?_
  refine lv_iload hx hb dL_law_1402 (lv_at hl 0 rfl) ?_
  refine lv_iconst (v := 2) hx hb dL_law_1404 (by decide) ?_
  refine lv_iadd hx hb dL_law_1405 ?_
  refine lv_topi (fun z_3 ez_3 => ?_)
  obtain rfl : z_3 = 2 := ez_3.trans (by decide)
  refine va_sld hx hb hX hbl hbA hS (pk_in 2 7 (by decide) (by decide) (by decide)) dL_law_1406 ?_
  refine lv_topi (fun z_4 ez_4 => ?_)
  replace ez_4 : z_4 = xs 2 := ez_4
  subst z_4
  have hPc := hP.sub (ws' := [(xx, .inr (10, [.ref rr, .ref ta, .ref tb, .ref pa, .ref pb, .ref cn, .ref ci, .int 0, .ref cp, .ref ct, .ref hs, .ref rd, .ref wy, .ref ea, .ref eb])), (ta, .inr (8, [.int 0, .int 0, .int 0, .int 0, .int 0, .ref ta_name, .ref ta_first, .ref ta_gain, .ref ta_rough, .ref ta_custom, .ref ta_part, .ref ta_whole, .ref ta_roundPerson, .ref ta_roundClock, .ref ta_roundHour, .ref ta_gunClock, .ref ta_gunHour, .ref tau]))]) [0, 1] rfl
  have hDc := hD.sub (ws' := [(xx, .inr (10, [.ref rr, .ref ta, .ref tb, .ref pa, .ref pb, .ref cn, .ref ci, .int 0, .ref cp, .ref ct, .ref hs, .ref rd, .ref wy, .ref ea, .ref eb])), (ta, .inr (8, [.int 0, .int 0, .int 0, .int 0, .int 0, .ref ta_name, .ref ta_first, .ref ta_gain, .ref ta_rough, .ref ta_custom, .ref ta_part, .ref ta_whole, .ref ta_roundPerson, .ref ta_roundClock, .ref ta_roundHour, .ref ta_gunClock, .ref ta_gunHour, .ref tau]))]) [0, 1] (by decide) rfl
  have hKc := hK.sub (tys' := []) [] rfl
  have hFc := va_free (wc := [(xx, .inr (10, [.ref rr, .ref ta, .ref tb, .ref pa, .ref pb, .ref cn, .ref ci, .int 0, .ref cp, .ref ct, .ref hs, .ref rd, .ref wy, .ref ea, .ref eb])), (ta, .inr (8, [.int 0, .int 0, .int 0, .int 0, .int 0, .ref ta_name, .ref ta_first, .ref ta_gain, .ref ta_rough, .ref ta_custom, .ref ta_part, .ref ta_whole, .ref ta_roundPerson, .ref ta_roundClock, .ref ta_roundHour, .ref ta_gunClock, .ref ta_gunHour, .ref tau]))]) hD hS hA [0, 1] rfl
  refine va_calli (va_runV (As := [.int (xs 1), .int (xs 2)]) (rest := []) ⟨hx, hb, hml, hown, hT⟩ (c_X10_waits l dC dI H.size xx (xs 1) (xs 2) rr ta tb pa pb cn ci (0 : Int32) cp ct hs rd wy ea eb (0 : Int32) (0 : Int32) (0 : Int32) ta_name ta_first ta_gain ta_rough ta_custom ta_part ta_whole ta_roundPerson ta_roundClock ta_roundHour ta_gunClock ta_gunHour tau ) (cwV 2 hT (gwV mw_5_143 mw_5_144 mw_5_145 mw_1_1 mw_5_146) rfl rfl rfl (by decide +kernel) ⟨Nat.le_of_ble_eq_true rfl, Nat.le_of_ble_eq_true rfl⟩) ⟨fun a U g mk q => by obtain ⟨q0, q1, qP, qK, qD⟩ := q; exact ⟨q0, q1, qP, va_K.moved (u := U) (U := U.calling g mk a) (Vm.Alike.refl U.vm) qK, qD⟩, va_recv hK hP (ci := 10) (q0 := 0) rfl rfl, fun U hU hW => ⟨rfl, by rw [hU], by rw [hU]; exact hPc, va_K.moved hW.alike hKc, hDc.weaken (fun _ _ _ _ => trivial)⟩⟩ rfl rfl hl.1 rfl (lv_room (Nat.le_of_ble_eq_true rfl)) dL_law_1407 ⟨Nat.le_of_ble_eq_true rfl, Nat.le_of_ble_eq_true rfl⟩) hS (fun q _ h => hFc q h) hFc (fun r_6 u t H1 locs ht hvm hw hB hz1 hk1 hS => ?_)
  obtain ⟨hP1, hD1⟩ := hB
  rw [ht] at hP1
  obtain ⟨hP, hD⟩ := va_join (wr := [(mm, .inr (11, [.int 0, .ref mm_tape, .int 0, .ref mm_number, .ref mm_clockName, .ref mm_clockOff, .ref mm_clockGain, .ref mm_clockRough, .ref mm_personName, .ref mm_personOff, .ref mm_personGain, .ref mm_personRough, .ref mm_custom, .ref mm_customA, .ref mm_customB, .ref mm_ruleFrom, .ref mm_ruleTo, .ref mm_roundOf, .ref mm_roundAt, .ref mm_roundHour, .ref mm_gunAt, .ref mm_gunHour, .ref mm_knotSort, .ref mm_knotValue, .int 0, .int 0, .int 0, .int 0, .int 0, .int 0, .int 0, .int 0, .int 0, .int (-1), .int 0, .int 0, .int 0, .int 0, .int 0, .int 0, .int 0, .int 0, .int 0, .int 0, .int 0, .int 0, .ref mm_start, .ref mm_off, .ref mm_last, .ref mm_passed, .ref mm_kept, .ref mm_keptMany, .int 0, .int 0, .ref mm_history, .ref mm_names, .ref mm_worked, .int 0, .int 0, .int (-1), .ref mm_readThing, .ref mm_readHour, .ref mm_readLow, .ref mm_readHigh, .int 0, .int 0, .int 0, .ref mm_imageOff, .ref mm_imageLast, .ref mm_imagePassed, .ref mm_imageKept, .ref mm_imageMany, .ref mm_imageHistory])), (mm_number, .inl (k_mm_number, 10, .inl (fun _ => 0)))]) (w1 := [(xx, .inr (10, [.ref rr, .ref ta, .ref tb, .ref pa, .ref pb, .ref cn, .ref ci, .int 0, .ref cp, .ref ct, .ref hs, .ref rd, .ref wy, .ref ea, .ref eb])), (ta, .inr (8, [.int 0, .int 0, .int 0, .int 0, .int 0, .ref ta_name, .ref ta_first, .ref ta_gain, .ref ta_rough, .ref ta_custom, .ref ta_part, .ref ta_whole, .ref ta_roundPerson, .ref ta_roundClock, .ref ta_roundHour, .ref ta_gunClock, .ref ta_gunHour, .ref tau]))]) hP hD [0, 1] [2, 3] rfl rfl (by decide) (by decide) hk1 hFc hP1 hD1
  generalize H1 = H at hP hS ⊢
  have hP : va_P (dC, dI) vwCl [(mm, .inr (11, [.int 0, .ref mm_tape, .int 0, .ref mm_number, .ref mm_clockName, .ref mm_clockOff, .ref mm_clockGain, .ref mm_clockRough, .ref mm_personName, .ref mm_personOff, .ref mm_personGain, .ref mm_personRough, .ref mm_custom, .ref mm_customA, .ref mm_customB, .ref mm_ruleFrom, .ref mm_ruleTo, .ref mm_roundOf, .ref mm_roundAt, .ref mm_roundHour, .ref mm_gunAt, .ref mm_gunHour, .ref mm_knotSort, .ref mm_knotValue, .int 0, .int 0, .int 0, .int 0, .int 0, .int 0, .int 0, .int 0, .int 0, .int (-1), .int 0, .int 0, .int 0, .int 0, .int 0, .int 0, .int 0, .int 0, .int 0, .int 0, .int 0, .int 0, .ref mm_start, .ref mm_off, .ref mm_last, .ref mm_passed, .ref mm_kept, .ref mm_keptMany, .int 0, .int 0, .ref mm_history, .ref mm_names, .ref mm_worked, .int 0, .int 0, .int (-1), .ref mm_readThing, .ref mm_readHour, .ref mm_readLow, .ref mm_readHigh, .int 0, .int 0, .int 0, .ref mm_imageOff, .ref mm_imageLast, .ref mm_imagePassed, .ref mm_imageKept, .ref mm_imageMany, .ref mm_imageHistory])), (mm_number, .inl (k_mm_number, 10, .inl (fun _ => 0))), (xx, .inr (10, [.ref rr, .ref ta, .ref tb, .ref pa, .ref pb, .ref cn, .ref ci, .int 0, .ref cp, .ref ct, .ref hs, .ref rd, .ref wy, .ref ea, .ref eb])), (ta, .inr (8, [.int 0, .int 0, .int 0, .int 0, .int 0, .ref ta_name, .ref ta_first, .ref ta_gain, .ref ta_rough, .ref ta_custom, .ref ta_part, .ref ta_whole, .ref ta_roundPerson, .ref ta_roundClock, .ref ta_roundHour, .ref ta_gunClock, .ref ta_gunHour, .ref tau]))] H := hP
  have hD : va_D A [(mm, .inr (11, [.int 0, .ref mm_tape, .int 0, .ref mm_number, .ref mm_clockName, .ref mm_clockOff, .ref mm_clockGain, .ref mm_clockRough, .ref mm_personName, .ref mm_personOff, .ref mm_personGain, .ref mm_personRough, .ref mm_custom, .ref mm_customA, .ref mm_customB, .ref mm_ruleFrom, .ref mm_ruleTo, .ref mm_roundOf, .ref mm_roundAt, .ref mm_roundHour, .ref mm_gunAt, .ref mm_gunHour, .ref mm_knotSort, .ref mm_knotValue, .int 0, .int 0, .int 0, .int 0, .int 0, .int 0, .int 0, .int 0, .int 0, .int (-1), .int 0, .int 0, .int 0, .int 0, .int 0, .int 0, .int 0, .int 0, .int 0, .int 0, .int 0, .int 0, .ref mm_start, .ref mm_off, .ref mm_last, .ref mm_passed, .ref mm_kept, .ref mm_keptMany, .int 0, .int 0, .ref mm_history, .ref mm_names, .ref mm_worked, .int 0, .int 0, .int (-1), .ref mm_readThing, .ref mm_readHour, .ref mm_readLow, .ref mm_readHigh, .int 0, .int 0, .int 0, .ref mm_imageOff, .ref mm_imageLast, .ref mm_imagePassed, .ref mm_imageKept, .ref mm_imageMany, .ref mm_imageHistory])), (mm_number, .inl (k_mm_number, 10, .inl (fun _ => 0))), (xx, .inr (10, [.ref rr, .ref ta, .ref tb, .ref pa, .ref pb, .ref cn, .ref ci, .int 0, .ref cp, .ref ct, .ref hs, .ref rd, .ref wy, .ref ea, .ref eb])), (ta, .inr (8, [.int 0, .int 0, .int 0, .int 0, .int 0, .ref ta_name, .ref ta_first, .ref ta_gain, .ref ta_rough, .ref ta_custom, .ref ta_part, .ref ta_whole, .ref ta_roundPerson, .ref ta_roundClock, .ref ta_roundHour, .ref ta_gunClock, .ref ta_gunHour, .ref tau]))] := hD
  clear hPc hDc hKc hFc hP1 hD1 hk1 hz1 ht hvm
  have hw : r_6 = -2147483648 := hw
  subst r_6
  refine lv_aload_n hx hb dL_law_1410 rfl (lv_at hl 2 rfl) ?_
  refine lv_aload_n hx hb dL_law_1411 rfl (lv_at hl 4 rfl) ?_
  refine lv_iload hx hb dL_law_1412 (lv_at hl 0 rfl) ?_
  refine lv_iconst (v := 1) hx hb dL_law_1414 (by decide) ?_
  refine lv_iadd hx hb dL_law_1415 ?_
  refine lv_topi (fun z_7 ez_7 => ?_)
  obtain rfl : z_7 = 1 := ez_7.trans (by decide)
  refine va_sld hx hb hX hbl hbA hS (pk_in 1 7 (by decide) (by decide) (by decide)) dL_law_1416 ?_
  refine lv_topi (fun z_8 ez_8 => ?_)
  replace ez_8 : z_8 = xs 1 := ez_8
  subst z_8
  refine lv_aload_n hx hb dL_law_1417 rfl (lv_at hl 4 rfl) ?_
  refine lv_iload hx hb dL_law_1418 (lv_at hl 0 rfl) ?_
  refine lv_iconst (v := 2) hx hb dL_law_1420 (by decide) ?_
  refine lv_iadd hx hb dL_law_1421 ?_
  refine lv_topi (fun z_9 ez_9 => ?_)
  obtain rfl : z_9 = 2 := ez_9.trans (by decide)
  refine va_sld hx hb hX hbl hbA hS (pk_in 2 7 (by decide) (by decide) (by decide)) dL_law_1422 ?_
  refine lv_topi (fun z_10 ez_10 => ?_)
  replace ez_10 : z_10 = xs 2 := ez_10
  subst z_10
  have hPc := hP.sub (ws' := [(mm, .inr (11, [.int 0, .ref mm_tape, .int 0, .ref mm_number, .ref mm_clockName, .ref mm_clockOff, .ref mm_clockGain, .ref mm_clockRough, .ref mm_personName, .ref mm_personOff, .ref mm_personGain, .ref mm_personRough, .ref mm_custom, .ref mm_customA, .ref mm_customB, .ref mm_ruleFrom, .ref mm_ruleTo, .ref mm_roundOf, .ref mm_roundAt, .ref mm_roundHour, .ref mm_gunAt, .ref mm_gunHour, .ref mm_knotSort, .ref mm_knotValue, .int 0, .int 0, .int 0, .int 0, .int 0, .int 0, .int 0, .int 0, .int 0, .int (-1), .int 0, .int 0, .int 0, .int 0, .int 0, .int 0, .int 0, .int 0, .int 0, .int 0, .int 0, .int 0, .ref mm_start, .ref mm_off, .ref mm_last, .ref mm_passed, .ref mm_kept, .ref mm_keptMany, .int 0, .int 0, .ref mm_history, .ref mm_names, .ref mm_worked, .int 0, .int 0, .int (-1), .ref mm_readThing, .ref mm_readHour, .ref mm_readLow, .ref mm_readHigh, .int 0, .int 0, .int 0, .ref mm_imageOff, .ref mm_imageLast, .ref mm_imagePassed, .ref mm_imageKept, .ref mm_imageMany, .ref mm_imageHistory])), (mm_number, .inl (k_mm_number, 10, .inl (fun _ => 0)))]) [0, 1] rfl
  have hDc := hD.sub (ws' := [(mm, .inr (11, [.int 0, .ref mm_tape, .int 0, .ref mm_number, .ref mm_clockName, .ref mm_clockOff, .ref mm_clockGain, .ref mm_clockRough, .ref mm_personName, .ref mm_personOff, .ref mm_personGain, .ref mm_personRough, .ref mm_custom, .ref mm_customA, .ref mm_customB, .ref mm_ruleFrom, .ref mm_ruleTo, .ref mm_roundOf, .ref mm_roundAt, .ref mm_roundHour, .ref mm_gunAt, .ref mm_gunHour, .ref mm_knotSort, .ref mm_knotValue, .int 0, .int 0, .int 0, .int 0, .int 0, .int 0, .int 0, .int 0, .int 0, .int (-1), .int 0, .int 0, .int 0, .int 0, .int 0, .int 0, .int 0, .int 0, .int 0, .int 0, .int 0, .int 0, .ref mm_start, .ref mm_off, .ref mm_last, .ref mm_passed, .ref mm_kept, .ref mm_keptMany, .int 0, .int 0, .ref mm_history, .ref mm_names, .ref mm_worked, .int 0, .int 0, .int (-1), .ref mm_readThing, .ref mm_readHour, .ref mm_readLow, .ref mm_readHigh, .int 0, .int 0, .int 0, .ref mm_imageOff, .ref mm_imageLast, .ref mm_imagePassed, .ref mm_imageKept, .ref mm_imageMany, .ref mm_imageHistory])), (mm_number, .inl (k_mm_number, 10, .inl (fun _ => 0)))]) [0, 1] (by decide) rfl
  have hKc := hK.sub (tys' := [(k_mm_number, .int)]) [0] rfl
  have hFc := va_free (wc := [(mm, .inr (11, [.int 0, .ref mm_tape, .int 0, .ref mm_number, .ref mm_clockName, .ref mm_clockOff, .ref mm_clockGain, .ref mm_clockRough, .ref mm_personName, .ref mm_personOff, .ref mm_personGain, .ref mm_personRough, .ref mm_custom, .ref mm_customA, .ref mm_customB, .ref mm_ruleFrom, .ref mm_ruleTo, .ref mm_roundOf, .ref mm_roundAt, .ref mm_roundHour, .ref mm_gunAt, .ref mm_gunHour, .ref mm_knotSort, .ref mm_knotValue, .int 0, .int 0, .int 0, .int 0, .int 0, .int 0, .int 0, .int 0, .int 0, .int (-1), .int 0, .int 0, .int 0, .int 0, .int 0, .int 0, .int 0, .int 0, .int 0, .int 0, .int 0, .int 0, .ref mm_start, .ref mm_off, .ref mm_last, .ref mm_passed, .ref mm_kept, .ref mm_keptMany, .int 0, .int 0, .ref mm_history, .ref mm_names, .ref mm_worked, .int 0, .int 0, .int (-1), .ref mm_readThing, .ref mm_readHour, .ref mm_readLow, .ref mm_readHigh, .int 0, .int 0, .int 0, .ref mm_imageOff, .ref mm_imageLast, .ref mm_imagePassed, .ref mm_imageKept, .ref mm_imageMany, .ref mm_imageHistory])), (mm_number, .inl (k_mm_number, 10, .inl (fun _ => 0)))]) hD hS hA [0, 1] rfl
  have := (by decide : (0 : Int32).toInt = 0)
  have := (by decide : (0 : Int32).toInt = 0)
  have := (by decide : (0 : Int32).toInt = 0)
  have := (by decide : (0 : Int32).toInt = 0)
  have := (by decide : (0 : Int32).toInt = 0)
  have := (by decide : (0 : Int32).toInt = 0)
  have := (by decide : (0 : Int32).toInt = 0)
  have := (by decide : (0 : Int32).toInt = 0)
  have := (by decide : (0 : Int32).toInt = 0)
  have := (by decide : (0 : Int32).toInt = 0)
  have := (by decide : (0 : Int32).toInt = 0)
  have := (by decide : ((-1) : Int32).toInt = -1)
  have := (by decide : (0 : Int32).toInt = 0)
  have := (by decide : (0 : Int32).toInt = 0)
  have := (by decide : (0 : Int32).toInt = 0)
  have := (by decide : (0 : Int32).toInt = 0)
  have := (by decide : (0 : Int32).toInt = 0)
  have := (by decide : (0 : Int32).toInt = 0)
  have := (by decide : (0 : Int32).toInt = 0)
  have := (by decide : (0 : Int32).toInt = 0)
  have := (by decide : (0 : Int32).toInt = 0)
  have := (by decide : (0 : Int32).toInt = 0)
  have := (by decide : (0 : Int32).toInt = 0)
  have := (by decide : (0 : Int32).toInt = 0)
  have := (by decide : (0 : Int32).toInt = 0)
  have := (by decide : (0 : Int32).toInt = 0)
  have := (by decide : (0 : Int32).toInt = 0)
  have := (by decide : (0 : Int32).toInt = 0)
  have := (by decide : ((-1) : Int32).toInt = -1)
  have := (by decide : (0 : Int32).toInt = 0)
  have := (by decide : (0 : Int32).toInt = 0)
  have := (by decide : (0 : Int32).toInt = 0)
  refine va_calli (va_runV (As := [.int (xs 1), .int (xs 2)]) (rest := [.int (-2147483648)]) ⟨hx, hb, hml, hown, hT⟩ (c_X11_waits l dC dI H.size mm (xs 1) (xs 2) (0 : Int32) mm_tape (0 : Int32) mm_number mm_clockName mm_clockOff mm_clockGain mm_clockRough mm_personName mm_personOff mm_personGain mm_personRough mm_custom mm_customA mm_customB mm_ruleFrom mm_ruleTo mm_roundOf mm_roundAt mm_roundHour mm_gunAt mm_gunHour mm_knotSort mm_knotValue (0 : Int32) (0 : Int32) (0 : Int32) (0 : Int32) (0 : Int32) (0 : Int32) (0 : Int32) (0 : Int32) (0 : Int32) ((-1) : Int32) (0 : Int32) (0 : Int32) (0 : Int32) (0 : Int32) (0 : Int32) (0 : Int32) (0 : Int32) (0 : Int32) (0 : Int32) (0 : Int32) (0 : Int32) (0 : Int32) mm_start mm_off mm_last mm_passed mm_kept mm_keptMany (0 : Int32) (0 : Int32) mm_history mm_names mm_worked (0 : Int32) (0 : Int32) ((-1) : Int32) mm_readThing mm_readHour mm_readLow mm_readHigh (0 : Int32) (0 : Int32) (0 : Int32) mm_imageOff mm_imageLast mm_imagePassed mm_imageKept mm_imageMany mm_imageHistory k_mm_number (fun _ => 0) (fun _ => rfl)) (cwV 2 hT (gwV mw_8_165 mw_8_166 mw_8_167 mw_1_16 mw_8_168) rfl rfl rfl (by decide +kernel) ⟨Nat.le_of_ble_eq_true rfl, Nat.le_of_ble_eq_true rfl⟩) ⟨fun a U g mk q => by obtain ⟨q0, q1, qP, qK, qD⟩ := q; exact ⟨q0, q1, qP, va_K.moved (u := U) (U := U.calling g mk a) (Vm.Alike.refl U.vm) qK, qD⟩, va_recv hK hP (ci := 11) (q0 := 0) rfl rfl, fun U hU hW => ⟨rfl, by rw [hU], by rw [hU]; exact hPc, va_K.moved hW.alike hKc, hDc.weaken (fun _ _ _ _ => trivial)⟩⟩ rfl rfl hl.1 rfl (lv_room (Nat.le_of_ble_eq_true rfl)) dL_law_1423 ⟨Nat.le_of_ble_eq_true rfl, Nat.le_of_ble_eq_true rfl⟩) hS (fun q _ h => hFc q h) hFc (fun r_12 u t H1 locs ht hvm hw hB hz1 hk1 hS => ?_)
  obtain ⟨hP1, hD1⟩ := hB
  rw [ht] at hP1
  obtain ⟨hP, hD⟩ := va_join (wr := [(xx, .inr (10, [.ref rr, .ref ta, .ref tb, .ref pa, .ref pb, .ref cn, .ref ci, .int 0, .ref cp, .ref ct, .ref hs, .ref rd, .ref wy, .ref ea, .ref eb])), (ta, .inr (8, [.int 0, .int 0, .int 0, .int 0, .int 0, .ref ta_name, .ref ta_first, .ref ta_gain, .ref ta_rough, .ref ta_custom, .ref ta_part, .ref ta_whole, .ref ta_roundPerson, .ref ta_roundClock, .ref ta_roundHour, .ref ta_gunClock, .ref ta_gunHour, .ref tau]))]) (w1 := [(mm, .inr (11, [.int 0, .ref mm_tape, .int 0, .ref mm_number, .ref mm_clockName, .ref mm_clockOff, .ref mm_clockGain, .ref mm_clockRough, .ref mm_personName, .ref mm_personOff, .ref mm_personGain, .ref mm_personRough, .ref mm_custom, .ref mm_customA, .ref mm_customB, .ref mm_ruleFrom, .ref mm_ruleTo, .ref mm_roundOf, .ref mm_roundAt, .ref mm_roundHour, .ref mm_gunAt, .ref mm_gunHour, .ref mm_knotSort, .ref mm_knotValue, .int 0, .int 0, .int 0, .int 0, .int 0, .int 0, .int 0, .int 0, .int 0, .int (-1), .int 0, .int 0, .int 0, .int 0, .int 0, .int 0, .int 0, .int 0, .int 0, .int 0, .int 0, .int 0, .ref mm_start, .ref mm_off, .ref mm_last, .ref mm_passed, .ref mm_kept, .ref mm_keptMany, .int 0, .int 0, .ref mm_history, .ref mm_names, .ref mm_worked, .int 0, .int 0, .int (-1), .ref mm_readThing, .ref mm_readHour, .ref mm_readLow, .ref mm_readHigh, .int 0, .int 0, .int 0, .ref mm_imageOff, .ref mm_imageLast, .ref mm_imagePassed, .ref mm_imageKept, .ref mm_imageMany, .ref mm_imageHistory])), (mm_number, .inl (k_mm_number, 10, .inl (fun _ => 0)))]) hP hD [0, 1] [2, 3] rfl rfl (by decide) (by decide) hk1 hFc hP1 hD1
  generalize H1 = H at hP hS ⊢
  have hP : va_P (dC, dI) vwCl [(xx, .inr (10, [.ref rr, .ref ta, .ref tb, .ref pa, .ref pb, .ref cn, .ref ci, .int 0, .ref cp, .ref ct, .ref hs, .ref rd, .ref wy, .ref ea, .ref eb])), (ta, .inr (8, [.int 0, .int 0, .int 0, .int 0, .int 0, .ref ta_name, .ref ta_first, .ref ta_gain, .ref ta_rough, .ref ta_custom, .ref ta_part, .ref ta_whole, .ref ta_roundPerson, .ref ta_roundClock, .ref ta_roundHour, .ref ta_gunClock, .ref ta_gunHour, .ref tau])), (mm, .inr (11, [.int 0, .ref mm_tape, .int 0, .ref mm_number, .ref mm_clockName, .ref mm_clockOff, .ref mm_clockGain, .ref mm_clockRough, .ref mm_personName, .ref mm_personOff, .ref mm_personGain, .ref mm_personRough, .ref mm_custom, .ref mm_customA, .ref mm_customB, .ref mm_ruleFrom, .ref mm_ruleTo, .ref mm_roundOf, .ref mm_roundAt, .ref mm_roundHour, .ref mm_gunAt, .ref mm_gunHour, .ref mm_knotSort, .ref mm_knotValue, .int 0, .int 0, .int 0, .int 0, .int 0, .int 0, .int 0, .int 0, .int 0, .int (-1), .int 0, .int 0, .int 0, .int 0, .int 0, .int 0, .int 0, .int 0, .int 0, .int 0, .int 0, .int 0, .ref mm_start, .ref mm_off, .ref mm_last, .ref mm_passed, .ref mm_kept, .ref mm_keptMany, .int 0, .int 0, .ref mm_history, .ref mm_names, .ref mm_worked, .int 0, .int 0, .int (-1), .ref mm_readThing, .ref mm_readHour, .ref mm_readLow, .ref mm_readHigh, .int 0, .int 0, .int 0, .ref mm_imageOff, .ref mm_imageLast, .ref mm_imagePassed, .ref mm_imageKept, .ref mm_imageMany, .ref mm_imageHistory])), (mm_number, .inl (k_mm_number, 10, .inl (fun _ => 0)))] H := hP
  have hD : va_D A [(xx, .inr (10, [.ref rr, .ref ta, .ref tb, .ref pa, .ref pb, .ref cn, .ref ci, .int 0, .ref cp, .ref ct, .ref hs, .ref rd, .ref wy, .ref ea, .ref eb])), (ta, .inr (8, [.int 0, .int 0, .int 0, .int 0, .int 0, .ref ta_name, .ref ta_first, .ref ta_gain, .ref ta_rough, .ref ta_custom, .ref ta_part, .ref ta_whole, .ref ta_roundPerson, .ref ta_roundClock, .ref ta_roundHour, .ref ta_gunClock, .ref ta_gunHour, .ref tau])), (mm, .inr (11, [.int 0, .ref mm_tape, .int 0, .ref mm_number, .ref mm_clockName, .ref mm_clockOff, .ref mm_clockGain, .ref mm_clockRough, .ref mm_personName, .ref mm_personOff, .ref mm_personGain, .ref mm_personRough, .ref mm_custom, .ref mm_customA, .ref mm_customB, .ref mm_ruleFrom, .ref mm_ruleTo, .ref mm_roundOf, .ref mm_roundAt, .ref mm_roundHour, .ref mm_gunAt, .ref mm_gunHour, .ref mm_knotSort, .ref mm_knotValue, .int 0, .int 0, .int 0, .int 0, .int 0, .int 0, .int 0, .int 0, .int 0, .int (-1), .int 0, .int 0, .int 0, .int 0, .int 0, .int 0, .int 0, .int 0, .int 0, .int 0, .int 0, .int 0, .ref mm_start, .ref mm_off, .ref mm_last, .ref mm_passed, .ref mm_kept, .ref mm_keptMany, .int 0, .int 0, .ref mm_history, .ref mm_names, .ref mm_worked, .int 0, .int 0, .int (-1), .ref mm_readThing, .ref mm_readHour, .ref mm_readLow, .ref mm_readHigh, .int 0, .int 0, .int 0, .ref mm_imageOff, .ref mm_imageLast, .ref mm_imagePassed, .ref mm_imageKept, .ref mm_imageMany, .ref mm_imageHistory])), (mm_number, .inl (k_mm_number, 10, .inl (fun _ => 0)))] := hD
  clear hPc hDc hKc hFc hP1 hD1 hk1 hz1 ht hvm
  have hw : r_12 = -2147483648 := hw
  subst r_12
  refine lv_icmp_eq (tgt := 1482) hx hb dL_law_1426 (by decide) (fun c_13 => ?_) (fun c_13 => absurd c_13 (by decide))
  refine lv_iinc (v := 7) (lv' := [(4, .int 7), (3, .ref oo), (2, .ref mm), (1, .ref xx), (0, .ref b)]) hx hb dL_law_1482 hl (k := 0) rfl (by decide) (by decide) rfl (fun ls hl => ?_)
  refine lv_goto (tgt := 23) hx hb dL_law_1485 (by decide) ?_
  refine lv_iload hx hb dL_law_23 (lv_at hl 0 rfl) ?_
  refine lv_aload_n hx hb dL_law_25 rfl (lv_at hl 4 rfl) ?_
  refine va_slen hx hb hX hbl hbA hS dL_law_26 ?_
  refine lv_topi (fun z_14 ez_14 => ?_)
  obtain rfl : z_14 = 7 := ez_14.trans (by decide)
  refine lv_bipush (v := 7) hx hb dL_law_27 (by decide) ?_
  refine lv_isub hx hb dL_law_29 ?_
  refine lv_topi (fun z_15 ez_15 => ?_)
  obtain rfl : z_15 = 0 := ez_15.trans (by decide)
  refine lv_icmp_gt (tgt := 1488) hx hb dL_law_30 (by decide) (fun c_16 => ?_) (fun c_16 => absurd c_16 (by decide))
  refine lv_iconst (v := 1) hx hb dL_law_1488 (by decide) ?_
  refine va_forget (fun q hq => hAo _ (hS.2.2 q hq)) ?_
  refine W.widen (k := 600002) (n := 7302232) (Nat.le_of_ble_eq_true rfl) (Nat.le_of_ble_eq_true rfl) ?_
  exact lw_ret hx hb hr hlocks dL_law_1489
set_option maxHeartbeats 4000000 in
set_option maxRecDepth 100000 in
theorem law_op_29 {p : Program} {l : Launch} {e : Env} {s : State} {m : MethodId} {below : List Frame} {meth : Method} {c : Code} {dC : Nat → ClassId} {dI : Nat → Nat → Nat} {b : Nat} {xs : Nat → Int32} {A : Nat → Prop} (C0 : lw_At p s m meth c b 7 xs) (hA : ∀ q, s.heap.size ≤ q → A q) (hbA : ¬ A b) (hAo : ∀ q, A q → s.heap.size ≤ q) {xx : Nat} {rr : Nat} {ta : Nat} {tb : Nat} {pa : Nat} {pb : Nat} {cn : Nat} {ci : Nat} {cp : Nat} {ct : Nat} {hs : Nat} {rd : Nat} {wy : Nat} {ea : Nat} {eb : Nat} {cn_last : Nat} {cn_passed : Nat} {cn_keptCount : Nat} {cn_off : Nat} {cn_since : Nat} {cn_kept : Nat} {cn_sorted : Nat} {k_cn_off : ClassId} {k_cn_since : ClassId} {k_cn_last : ClassId} {k_cn_passed : ClassId} {k_cn_keptCount : ClassId} {k_cn_kept : ClassId} {ci_last : Nat} {ci_passed : Nat} {ci_keptCount : Nat} {ci_off : Nat} {ci_since : Nat} {ci_kept : Nat} {ci_sorted : Nat} {k_ci_off : ClassId} {k_ci_since : ClassId} {k_ci_last : ClassId} {k_ci_passed : ClassId} {k_ci_keptCount : ClassId} {k_ci_kept : ClassId} {mm : Nat} {mm_tape : Nat} {mm_number : Nat} {mm_clockName : Nat} {mm_clockOff : Nat} {mm_clockGain : Nat} {mm_clockRough : Nat} {mm_personName : Nat} {mm_personOff : Nat} {mm_personGain : Nat} {mm_personRough : Nat} {mm_custom : Nat} {mm_customA : Nat} {mm_customB : Nat} {mm_ruleFrom : Nat} {mm_ruleTo : Nat} {mm_roundOf : Nat} {mm_roundAt : Nat} {mm_roundHour : Nat} {mm_gunAt : Nat} {mm_gunHour : Nat} {mm_knotSort : Nat} {mm_knotValue : Nat} {mm_start : Nat} {mm_off : Nat} {mm_last : Nat} {mm_passed : Nat} {mm_kept : Nat} {mm_keptMany : Nat} {mm_history : Nat} {mm_names : Nat} {mm_worked : Nat} {mm_readThing : Nat} {mm_readHour : Nat} {mm_readLow : Nat} {mm_readHigh : Nat} {mm_imageOff : Nat} {mm_imageLast : Nat} {mm_imagePassed : Nat} {mm_imageKept : Nat} {mm_imageMany : Nat} {mm_imageHistory : Nat} {k_mm_off : ClassId} {k_mm_last : ClassId} {k_mm_passed : ClassId} {k_mm_keptMany : ClassId} {k_mm_kept : ClassId} {k_mm_imageOff : ClassId} {k_mm_imageLast : ClassId} {k_mm_imagePassed : ClassId} {k_mm_imageMany : ClassId} {k_mm_imageKept : ClassId} {oo : Nat} {H : Heap} {locs : List Loc} {ls : Array Slot} (hK : va_K (dC, dI) vwCl [(k_cn_off, .int), (k_cn_since, .int), (k_cn_last, .int), (k_cn_passed, .int), (k_cn_keptCount, .int), (k_cn_kept, .int), (k_ci_off, .int), (k_ci_since, .int), (k_ci_last, .int), (k_ci_passed, .int), (k_ci_keptCount, .int), (k_ci_kept, .int), (k_mm_off, .int), (k_mm_last, .int), (k_mm_passed, .int), (k_mm_keptMany, .int), (k_mm_kept, .int), (k_mm_imageOff, .int), (k_mm_imageLast, .int), (k_mm_imagePassed, .int), (k_mm_imageMany, .int), (k_mm_imageKept, .int)] s) (hP : va_P (dC, dI) vwCl [(xx, .inr (10, [.ref rr, .ref ta, .ref tb, .ref pa, .ref pb, .ref cn, .ref ci, .int 0, .ref cp, .ref ct, .ref hs, .ref rd, .ref wy, .ref ea, .ref eb])), (cn, .inr (0, [.ref pa, .int 0, .int 0, .ref cn_last, .ref cn_passed, .ref cn_keptCount, .int 0, .int 0, .int 0, .int 0, .ref cn_off, .ref cn_since, .ref cn_kept, .ref cn_sorted])), (cn_off, .inl (k_cn_off, 10, .inl (fun _ => 0))), (cn_since, .inl (k_cn_since, 10, .inl (fun _ => 0))), (cn_last, .inl (k_cn_last, 5, .inl (fun _ => 0))), (cn_passed, .inl (k_cn_passed, 5, .inl (fun _ => 0))), (cn_keptCount, .inl (k_cn_keptCount, 5, .inl (fun _ => 0))), (cn_kept, .inl (k_cn_kept, 25, .inl (fun _ => 0))), (ci, .inr (0, [.ref pa, .int 0, .int 0, .ref ci_last, .ref ci_passed, .ref ci_keptCount, .int 0, .int 0, .int 0, .int 0, .ref ci_off, .ref ci_since, .ref ci_kept, .ref ci_sorted])), (ci_off, .inl (k_ci_off, 10, .inl (fun _ => 0))), (ci_since, .inl (k_ci_since, 10, .inl (fun _ => 0))), (ci_last, .inl (k_ci_last, 5, .inl (fun _ => 0))), (ci_passed, .inl (k_ci_passed, 5, .inl (fun _ => 0))), (ci_keptCount, .inl (k_ci_keptCount, 5, .inl (fun _ => 0))), (ci_kept, .inl (k_ci_kept, 25, .inl (fun _ => 0))), (mm, .inr (11, [.int 0, .ref mm_tape, .int 0, .ref mm_number, .ref mm_clockName, .ref mm_clockOff, .ref mm_clockGain, .ref mm_clockRough, .ref mm_personName, .ref mm_personOff, .ref mm_personGain, .ref mm_personRough, .ref mm_custom, .ref mm_customA, .ref mm_customB, .ref mm_ruleFrom, .ref mm_ruleTo, .ref mm_roundOf, .ref mm_roundAt, .ref mm_roundHour, .ref mm_gunAt, .ref mm_gunHour, .ref mm_knotSort, .ref mm_knotValue, .int 0, .int 0, .int 0, .int 0, .int 0, .int 0, .int 0, .int 0, .int 0, .int (-1), .int 0, .int 0, .int 0, .int 0, .int 0, .int 0, .int 0, .int 0, .int 0, .int 0, .int 0, .int 0, .ref mm_start, .ref mm_off, .ref mm_last, .ref mm_passed, .ref mm_kept, .ref mm_keptMany, .int 0, .int 0, .ref mm_history, .ref mm_names, .ref mm_worked, .int 0, .int 0, .int (-1), .ref mm_readThing, .ref mm_readHour, .ref mm_readLow, .ref mm_readHigh, .int 0, .int 0, .int 0, .ref mm_imageOff, .ref mm_imageLast, .ref mm_imagePassed, .ref mm_imageKept, .ref mm_imageMany, .ref mm_imageHistory])), (mm_off, .inl (k_mm_off, 20, .inl (fun _ => 0))), (mm_last, .inl (k_mm_last, 10, .inl (fun _ => 0))), (mm_passed, .inl (k_mm_passed, 10, .inl (fun _ => 0))), (mm_keptMany, .inl (k_mm_keptMany, 10, .inl (fun _ => 0))), (mm_kept, .inl (k_mm_kept, 50, .inl (fun _ => 0))), (mm_imageOff, .inl (k_mm_imageOff, 10, .inl (fun _ => 0))), (mm_imageLast, .inl (k_mm_imageLast, 5, .inl (fun _ => 0))), (mm_imagePassed, .inl (k_mm_imagePassed, 5, .inl (fun _ => 0))), (mm_imageMany, .inl (k_mm_imageMany, 5, .inl (fun _ => 0))), (mm_imageKept, .inl (k_mm_imageKept, 25, .inl (fun _ => 0)))] H) (hD : va_D A [(xx, .inr (10, [.ref rr, .ref ta, .ref tb, .ref pa, .ref pb, .ref cn, .ref ci, .int 0, .ref cp, .ref ct, .ref hs, .ref rd, .ref wy, .ref ea, .ref eb])), (cn, .inr (0, [.ref pa, .int 0, .int 0, .ref cn_last, .ref cn_passed, .ref cn_keptCount, .int 0, .int 0, .int 0, .int 0, .ref cn_off, .ref cn_since, .ref cn_kept, .ref cn_sorted])), (cn_off, .inl (k_cn_off, 10, .inl (fun _ => 0))), (cn_since, .inl (k_cn_since, 10, .inl (fun _ => 0))), (cn_last, .inl (k_cn_last, 5, .inl (fun _ => 0))), (cn_passed, .inl (k_cn_passed, 5, .inl (fun _ => 0))), (cn_keptCount, .inl (k_cn_keptCount, 5, .inl (fun _ => 0))), (cn_kept, .inl (k_cn_kept, 25, .inl (fun _ => 0))), (ci, .inr (0, [.ref pa, .int 0, .int 0, .ref ci_last, .ref ci_passed, .ref ci_keptCount, .int 0, .int 0, .int 0, .int 0, .ref ci_off, .ref ci_since, .ref ci_kept, .ref ci_sorted])), (ci_off, .inl (k_ci_off, 10, .inl (fun _ => 0))), (ci_since, .inl (k_ci_since, 10, .inl (fun _ => 0))), (ci_last, .inl (k_ci_last, 5, .inl (fun _ => 0))), (ci_passed, .inl (k_ci_passed, 5, .inl (fun _ => 0))), (ci_keptCount, .inl (k_ci_keptCount, 5, .inl (fun _ => 0))), (ci_kept, .inl (k_ci_kept, 25, .inl (fun _ => 0))), (mm, .inr (11, [.int 0, .ref mm_tape, .int 0, .ref mm_number, .ref mm_clockName, .ref mm_clockOff, .ref mm_clockGain, .ref mm_clockRough, .ref mm_personName, .ref mm_personOff, .ref mm_personGain, .ref mm_personRough, .ref mm_custom, .ref mm_customA, .ref mm_customB, .ref mm_ruleFrom, .ref mm_ruleTo, .ref mm_roundOf, .ref mm_roundAt, .ref mm_roundHour, .ref mm_gunAt, .ref mm_gunHour, .ref mm_knotSort, .ref mm_knotValue, .int 0, .int 0, .int 0, .int 0, .int 0, .int 0, .int 0, .int 0, .int 0, .int (-1), .int 0, .int 0, .int 0, .int 0, .int 0, .int 0, .int 0, .int 0, .int 0, .int 0, .int 0, .int 0, .ref mm_start, .ref mm_off, .ref mm_last, .ref mm_passed, .ref mm_kept, .ref mm_keptMany, .int 0, .int 0, .ref mm_history, .ref mm_names, .ref mm_worked, .int 0, .int 0, .int (-1), .ref mm_readThing, .ref mm_readHour, .ref mm_readLow, .ref mm_readHigh, .int 0, .int 0, .int 0, .ref mm_imageOff, .ref mm_imageLast, .ref mm_imagePassed, .ref mm_imageKept, .ref mm_imageMany, .ref mm_imageHistory])), (mm_off, .inl (k_mm_off, 20, .inl (fun _ => 0))), (mm_last, .inl (k_mm_last, 10, .inl (fun _ => 0))), (mm_passed, .inl (k_mm_passed, 10, .inl (fun _ => 0))), (mm_keptMany, .inl (k_mm_keptMany, 10, .inl (fun _ => 0))), (mm_kept, .inl (k_mm_kept, 50, .inl (fun _ => 0))), (mm_imageOff, .inl (k_mm_imageOff, 10, .inl (fun _ => 0))), (mm_imageLast, .inl (k_mm_imageLast, 5, .inl (fun _ => 0))), (mm_imagePassed, .inl (k_mm_imagePassed, 5, .inl (fun _ => 0))), (mm_imageMany, .inl (k_mm_imageMany, 5, .inl (fun _ => 0))), (mm_imageKept, .inl (k_mm_imageKept, 25, .inl (fun _ => 0)))]) (hS : va_S A s.heap H locs) (hl : lv_has ls 7 [(4, .int 0), (3, .ref oo), (2, .ref mm), (1, .ref xx), (0, .ref b)]) : W p l e room_1 s m #[Value.ref b] below meth c H locs 160 67979 (lw_Z below #[Value.ref b] s) (F0 m 1431 ls []) := by
  obtain ⟨hx, hb, hr, hml, hown, hts, hX, hbl, hlocks, hgv⟩ := C0
  have hT : ∀ w ∈ pw_T, w.before #[Value.ref b] s = true := fun w h => hts w (List.mem_filter.mp h).1
  have hown : s.vm.findClass RL = some m.cls := hown
  refine lv_aload_n hx hb dL_law_1431 rfl (lv_at hl 3 rfl) ?_
  have hPc := hP.sub (ws' := [(xx, .inr (10, [.ref rr, .ref ta, .ref tb, .ref pa, .ref pb, .ref cn, .ref ci, .int 0, .ref cp, .ref ct, .ref hs, .ref rd, .ref wy, .ref ea, .ref eb])), (ci, .inr (0, [.ref pa, .int 0, .int 0, .ref ci_last, .ref ci_passed, .ref ci_keptCount, .int 0, .int 0, .int 0, .int 0, .ref ci_off, .ref ci_since, .ref ci_kept, .ref ci_sorted])), (ci_off, .inl (k_ci_off, 10, .inl (fun _ => 0))), (ci_since, .inl (k_ci_since, 10, .inl (fun _ => 0))), (ci_last, .inl (k_ci_last, 5, .inl (fun _ => 0))), (ci_passed, .inl (k_ci_passed, 5, .inl (fun _ => 0))), (ci_keptCount, .inl (k_ci_keptCount, 5, .inl (fun _ => 0))), (ci_kept, .inl (k_ci_kept, 25, .inl (fun _ => 0))), (cn, .inr (0, [.ref pa, .int 0, .int 0, .ref cn_last, .ref cn_passed, .ref cn_keptCount, .int 0, .int 0, .int 0, .int 0, .ref cn_off, .ref cn_since, .ref cn_kept, .ref cn_sorted])), (cn_off, .inl (k_cn_off, 10, .inl (fun _ => 0))), (cn_since, .inl (k_cn_since, 10, .inl (fun _ => 0))), (cn_last, .inl (k_cn_last, 5, .inl (fun _ => 0))), (cn_passed, .inl (k_cn_passed, 5, .inl (fun _ => 0))), (cn_keptCount, .inl (k_cn_keptCount, 5, .inl (fun _ => 0))), (cn_kept, .inl (k_cn_kept, 25, .inl (fun _ => 0)))]) [0, 8, 9, 10, 11, 12, 13, 14, 1, 2, 3, 4, 5, 6, 7] rfl
  have hDc := hD.sub (ws' := [(xx, .inr (10, [.ref rr, .ref ta, .ref tb, .ref pa, .ref pb, .ref cn, .ref ci, .int 0, .ref cp, .ref ct, .ref hs, .ref rd, .ref wy, .ref ea, .ref eb])), (ci, .inr (0, [.ref pa, .int 0, .int 0, .ref ci_last, .ref ci_passed, .ref ci_keptCount, .int 0, .int 0, .int 0, .int 0, .ref ci_off, .ref ci_since, .ref ci_kept, .ref ci_sorted])), (ci_off, .inl (k_ci_off, 10, .inl (fun _ => 0))), (ci_since, .inl (k_ci_since, 10, .inl (fun _ => 0))), (ci_last, .inl (k_ci_last, 5, .inl (fun _ => 0))), (ci_passed, .inl (k_ci_passed, 5, .inl (fun _ => 0))), (ci_keptCount, .inl (k_ci_keptCount, 5, .inl (fun _ => 0))), (ci_kept, .inl (k_ci_kept, 25, .inl (fun _ => 0))), (cn, .inr (0, [.ref pa, .int 0, .int 0, .ref cn_last, .ref cn_passed, .ref cn_keptCount, .int 0, .int 0, .int 0, .int 0, .ref cn_off, .ref cn_since, .ref cn_kept, .ref cn_sorted])), (cn_off, .inl (k_cn_off, 10, .inl (fun _ => 0))), (cn_since, .inl (k_cn_since, 10, .inl (fun _ => 0))), (cn_last, .inl (k_cn_last, 5, .inl (fun _ => 0))), (cn_passed, .inl (k_cn_passed, 5, .inl (fun _ => 0))), (cn_keptCount, .inl (k_cn_keptCount, 5, .inl (fun _ => 0))), (cn_kept, .inl (k_cn_kept, 25, .inl (fun _ => 0)))]) [0, 8, 9, 10, 11, 12, 13, 14, 1, 2, 3, 4, 5, 6, 7] (by decide) rfl
  have hKc := hK.sub (tys' := [(k_ci_off, .int), (k_ci_since, .int), (k_ci_last, .int), (k_ci_passed, .int), (k_ci_keptCount, .int), (k_ci_kept, .int), (k_cn_off, .int), (k_cn_since, .int), (k_cn_last, .int), (k_cn_passed, .int), (k_cn_keptCount, .int), (k_cn_kept, .int)]) [6, 7, 8, 9, 10, 11, 0, 1, 2, 3, 4, 5] rfl
  have hFc := va_free (wc := [(xx, .inr (10, [.ref rr, .ref ta, .ref tb, .ref pa, .ref pb, .ref cn, .ref ci, .int 0, .ref cp, .ref ct, .ref hs, .ref rd, .ref wy, .ref ea, .ref eb])), (ci, .inr (0, [.ref pa, .int 0, .int 0, .ref ci_last, .ref ci_passed, .ref ci_keptCount, .int 0, .int 0, .int 0, .int 0, .ref ci_off, .ref ci_since, .ref ci_kept, .ref ci_sorted])), (ci_off, .inl (k_ci_off, 10, .inl (fun _ => 0))), (ci_since, .inl (k_ci_since, 10, .inl (fun _ => 0))), (ci_last, .inl (k_ci_last, 5, .inl (fun _ => 0))), (ci_passed, .inl (k_ci_passed, 5, .inl (fun _ => 0))), (ci_keptCount, .inl (k_ci_keptCount, 5, .inl (fun _ => 0))), (ci_kept, .inl (k_ci_kept, 25, .inl (fun _ => 0))), (cn, .inr (0, [.ref pa, .int 0, .int 0, .ref cn_last, .ref cn_passed, .ref cn_keptCount, .int 0, .int 0, .int 0, .int 0, .ref cn_off, .ref cn_since, .ref cn_kept, .ref cn_sorted])), (cn_off, .inl (k_cn_off, 10, .inl (fun _ => 0))), (cn_since, .inl (k_cn_since, 10, .inl (fun _ => 0))), (cn_last, .inl (k_cn_last, 5, .inl (fun _ => 0))), (cn_passed, .inl (k_cn_passed, 5, .inl (fun _ => 0))), (cn_keptCount, .inl (k_cn_keptCount, 5, .inl (fun _ => 0))), (cn_kept, .inl (k_cn_kept, 25, .inl (fun _ => 0)))]) hD hS hA [0, 8, 9, 10, 11, 12, 13, 14, 1, 2, 3, 4, 5, 6, 7] rfl
  refine va_calli (va_runV (As := []) (rest := []) ⟨hx, hb, hml, hown, hT⟩ (c_X10_keep l dC dI H.size xx rr ta tb pa pb cn ci (0 : Int32) cp ct hs rd wy ea eb pa (0 : Int32) (0 : Int32) ci_last ci_passed ci_keptCount (0 : Int32) (0 : Int32) (0 : Int32) (0 : Int32) ci_off ci_since ci_kept ci_sorted k_ci_off (fun _ => 0) k_ci_since (fun _ => 0) k_ci_last (fun _ => 0) k_ci_passed (fun _ => 0) k_ci_keptCount (fun _ => 0) k_ci_kept (fun _ => 0) pa (0 : Int32) cn_last cn_passed cn_keptCount (0 : Int32) (0 : Int32) (0 : Int32) cn_off cn_since cn_kept cn_sorted k_cn_off (fun _ => 0) k_cn_since (fun _ => 0) k_cn_last (fun _ => 0) k_cn_passed (fun _ => 0) k_cn_keptCount (fun _ => 0) k_cn_kept (fun _ => 0) ) (cwV 0 hT (gwV mw_5_147 mw_5_148 mw_5_149 mw_1_1 mw_5_150) rfl rfl rfl (by decide +kernel) ⟨Nat.le_of_ble_eq_true rfl, Nat.le_of_ble_eq_true rfl⟩) ⟨fun a U g mk q => by obtain ⟨q0, q1, qP, qK, qD⟩ := q; exact ⟨q0, q1, qP, va_K.moved (u := U) (U := U.calling g mk a) (Vm.Alike.refl U.vm) qK, qD⟩, va_recv hK hP (ci := 10) (q0 := 0) rfl rfl, fun U hU hW => ⟨rfl, by rw [hU], by rw [hU]; exact hPc, va_K.moved hW.alike hKc, hDc.weaken (fun _ _ _ _ => trivial)⟩⟩ rfl rfl hl.1 rfl (lv_room (Nat.le_of_ble_eq_true rfl)) dL_law_1432 ⟨Nat.le_of_ble_eq_true rfl, Nat.le_of_ble_eq_true rfl⟩) hS (fun q _ h => hFc q h) hFc (fun r_2 u t H1 locs ht hvm hw hB hz1 hk1 hS => ?_)
  obtain ⟨x_3, x_4, x_5, x_6, x_7, x_8, hP1, hD1⟩ := hB
  rw [ht] at hP1
  obtain ⟨hP, hD⟩ := va_join (wr := [(mm, .inr (11, [.int 0, .ref mm_tape, .int 0, .ref mm_number, .ref mm_clockName, .ref mm_clockOff, .ref mm_clockGain, .ref mm_clockRough, .ref mm_personName, .ref mm_personOff, .ref mm_personGain, .ref mm_personRough, .ref mm_custom, .ref mm_customA, .ref mm_customB, .ref mm_ruleFrom, .ref mm_ruleTo, .ref mm_roundOf, .ref mm_roundAt, .ref mm_roundHour, .ref mm_gunAt, .ref mm_gunHour, .ref mm_knotSort, .ref mm_knotValue, .int 0, .int 0, .int 0, .int 0, .int 0, .int 0, .int 0, .int 0, .int 0, .int (-1), .int 0, .int 0, .int 0, .int 0, .int 0, .int 0, .int 0, .int 0, .int 0, .int 0, .int 0, .int 0, .ref mm_start, .ref mm_off, .ref mm_last, .ref mm_passed, .ref mm_kept, .ref mm_keptMany, .int 0, .int 0, .ref mm_history, .ref mm_names, .ref mm_worked, .int 0, .int 0, .int (-1), .ref mm_readThing, .ref mm_readHour, .ref mm_readLow, .ref mm_readHigh, .int 0, .int 0, .int 0, .ref mm_imageOff, .ref mm_imageLast, .ref mm_imagePassed, .ref mm_imageKept, .ref mm_imageMany, .ref mm_imageHistory])), (mm_off, .inl (k_mm_off, 20, .inl (fun _ => 0))), (mm_last, .inl (k_mm_last, 10, .inl (fun _ => 0))), (mm_passed, .inl (k_mm_passed, 10, .inl (fun _ => 0))), (mm_keptMany, .inl (k_mm_keptMany, 10, .inl (fun _ => 0))), (mm_kept, .inl (k_mm_kept, 50, .inl (fun _ => 0))), (mm_imageOff, .inl (k_mm_imageOff, 10, .inl (fun _ => 0))), (mm_imageLast, .inl (k_mm_imageLast, 5, .inl (fun _ => 0))), (mm_imagePassed, .inl (k_mm_imagePassed, 5, .inl (fun _ => 0))), (mm_imageMany, .inl (k_mm_imageMany, 5, .inl (fun _ => 0))), (mm_imageKept, .inl (k_mm_imageKept, 25, .inl (fun _ => 0)))]) (w1 := [(xx, .inr (10, [.ref rr, .ref ta, .ref tb, .ref pa, .ref pb, .ref cn, .ref ci, .int 1, .ref cp, .ref ct, .ref hs, .ref rd, .ref wy, .ref ea, .ref eb])), (ci, .inr (0, [.ref pa, .int 0, .int 0, .ref ci_last, .ref ci_passed, .ref ci_keptCount, .int 0, .int 0, .int 0, .int 0, .ref ci_off, .ref ci_since, .ref ci_kept, .ref ci_sorted])), (ci_off, .inl (k_ci_off, 10, .inl x_3)), (ci_since, .inl (k_ci_since, 10, .inl x_4)), (ci_last, .inl (k_ci_last, 5, .inl x_5)), (ci_passed, .inl (k_ci_passed, 5, .inl x_6)), (ci_keptCount, .inl (k_ci_keptCount, 5, .inl x_7)), (ci_kept, .inl (k_ci_kept, 25, .inl x_8)), (cn, .inr (0, [.ref pa, .int 0, .int 0, .ref cn_last, .ref cn_passed, .ref cn_keptCount, .int 0, .int 0, .int 0, .int 0, .ref cn_off, .ref cn_since, .ref cn_kept, .ref cn_sorted])), (cn_off, .inl (k_cn_off, 10, .inl (fun _ => 0))), (cn_since, .inl (k_cn_since, 10, .inl (fun _ => 0))), (cn_last, .inl (k_cn_last, 5, .inl (fun _ => 0))), (cn_passed, .inl (k_cn_passed, 5, .inl (fun _ => 0))), (cn_keptCount, .inl (k_cn_keptCount, 5, .inl (fun _ => 0))), (cn_kept, .inl (k_cn_kept, 25, .inl (fun _ => 0)))]) hP hD [0, 8, 9, 10, 11, 12, 13, 14, 1, 2, 3, 4, 5, 6, 7] [15, 16, 17, 18, 19, 20, 21, 22, 23, 24, 25] rfl rfl (by decide) (by decide) hk1 hFc hP1 hD1
  generalize H1 = H at hP hS ⊢
  have hP : va_P (dC, dI) vwCl [(mm, .inr (11, [.int 0, .ref mm_tape, .int 0, .ref mm_number, .ref mm_clockName, .ref mm_clockOff, .ref mm_clockGain, .ref mm_clockRough, .ref mm_personName, .ref mm_personOff, .ref mm_personGain, .ref mm_personRough, .ref mm_custom, .ref mm_customA, .ref mm_customB, .ref mm_ruleFrom, .ref mm_ruleTo, .ref mm_roundOf, .ref mm_roundAt, .ref mm_roundHour, .ref mm_gunAt, .ref mm_gunHour, .ref mm_knotSort, .ref mm_knotValue, .int 0, .int 0, .int 0, .int 0, .int 0, .int 0, .int 0, .int 0, .int 0, .int (-1), .int 0, .int 0, .int 0, .int 0, .int 0, .int 0, .int 0, .int 0, .int 0, .int 0, .int 0, .int 0, .ref mm_start, .ref mm_off, .ref mm_last, .ref mm_passed, .ref mm_kept, .ref mm_keptMany, .int 0, .int 0, .ref mm_history, .ref mm_names, .ref mm_worked, .int 0, .int 0, .int (-1), .ref mm_readThing, .ref mm_readHour, .ref mm_readLow, .ref mm_readHigh, .int 0, .int 0, .int 0, .ref mm_imageOff, .ref mm_imageLast, .ref mm_imagePassed, .ref mm_imageKept, .ref mm_imageMany, .ref mm_imageHistory])), (mm_off, .inl (k_mm_off, 20, .inl (fun _ => 0))), (mm_last, .inl (k_mm_last, 10, .inl (fun _ => 0))), (mm_passed, .inl (k_mm_passed, 10, .inl (fun _ => 0))), (mm_keptMany, .inl (k_mm_keptMany, 10, .inl (fun _ => 0))), (mm_kept, .inl (k_mm_kept, 50, .inl (fun _ => 0))), (mm_imageOff, .inl (k_mm_imageOff, 10, .inl (fun _ => 0))), (mm_imageLast, .inl (k_mm_imageLast, 5, .inl (fun _ => 0))), (mm_imagePassed, .inl (k_mm_imagePassed, 5, .inl (fun _ => 0))), (mm_imageMany, .inl (k_mm_imageMany, 5, .inl (fun _ => 0))), (mm_imageKept, .inl (k_mm_imageKept, 25, .inl (fun _ => 0))), (xx, .inr (10, [.ref rr, .ref ta, .ref tb, .ref pa, .ref pb, .ref cn, .ref ci, .int 1, .ref cp, .ref ct, .ref hs, .ref rd, .ref wy, .ref ea, .ref eb])), (ci, .inr (0, [.ref pa, .int 0, .int 0, .ref ci_last, .ref ci_passed, .ref ci_keptCount, .int 0, .int 0, .int 0, .int 0, .ref ci_off, .ref ci_since, .ref ci_kept, .ref ci_sorted])), (ci_off, .inl (k_ci_off, 10, .inl x_3)), (ci_since, .inl (k_ci_since, 10, .inl x_4)), (ci_last, .inl (k_ci_last, 5, .inl x_5)), (ci_passed, .inl (k_ci_passed, 5, .inl x_6)), (ci_keptCount, .inl (k_ci_keptCount, 5, .inl x_7)), (ci_kept, .inl (k_ci_kept, 25, .inl x_8)), (cn, .inr (0, [.ref pa, .int 0, .int 0, .ref cn_last, .ref cn_passed, .ref cn_keptCount, .int 0, .int 0, .int 0, .int 0, .ref cn_off, .ref cn_since, .ref cn_kept, .ref cn_sorted])), (cn_off, .inl (k_cn_off, 10, .inl (fun _ => 0))), (cn_since, .inl (k_cn_since, 10, .inl (fun _ => 0))), (cn_last, .inl (k_cn_last, 5, .inl (fun _ => 0))), (cn_passed, .inl (k_cn_passed, 5, .inl (fun _ => 0))), (cn_keptCount, .inl (k_cn_keptCount, 5, .inl (fun _ => 0))), (cn_kept, .inl (k_cn_kept, 25, .inl (fun _ => 0)))] H := hP
  have hD : va_D A [(mm, .inr (11, [.int 0, .ref mm_tape, .int 0, .ref mm_number, .ref mm_clockName, .ref mm_clockOff, .ref mm_clockGain, .ref mm_clockRough, .ref mm_personName, .ref mm_personOff, .ref mm_personGain, .ref mm_personRough, .ref mm_custom, .ref mm_customA, .ref mm_customB, .ref mm_ruleFrom, .ref mm_ruleTo, .ref mm_roundOf, .ref mm_roundAt, .ref mm_roundHour, .ref mm_gunAt, .ref mm_gunHour, .ref mm_knotSort, .ref mm_knotValue, .int 0, .int 0, .int 0, .int 0, .int 0, .int 0, .int 0, .int 0, .int 0, .int (-1), .int 0, .int 0, .int 0, .int 0, .int 0, .int 0, .int 0, .int 0, .int 0, .int 0, .int 0, .int 0, .ref mm_start, .ref mm_off, .ref mm_last, .ref mm_passed, .ref mm_kept, .ref mm_keptMany, .int 0, .int 0, .ref mm_history, .ref mm_names, .ref mm_worked, .int 0, .int 0, .int (-1), .ref mm_readThing, .ref mm_readHour, .ref mm_readLow, .ref mm_readHigh, .int 0, .int 0, .int 0, .ref mm_imageOff, .ref mm_imageLast, .ref mm_imagePassed, .ref mm_imageKept, .ref mm_imageMany, .ref mm_imageHistory])), (mm_off, .inl (k_mm_off, 20, .inl (fun _ => 0))), (mm_last, .inl (k_mm_last, 10, .inl (fun _ => 0))), (mm_passed, .inl (k_mm_passed, 10, .inl (fun _ => 0))), (mm_keptMany, .inl (k_mm_keptMany, 10, .inl (fun _ => 0))), (mm_kept, .inl (k_mm_kept, 50, .inl (fun _ => 0))), (mm_imageOff, .inl (k_mm_imageOff, 10, .inl (fun _ => 0))), (mm_imageLast, .inl (k_mm_imageLast, 5, .inl (fun _ => 0))), (mm_imagePassed, .inl (k_mm_imagePassed, 5, .inl (fun _ => 0))), (mm_imageMany, .inl (k_mm_imageMany, 5, .inl (fun _ => 0))), (mm_imageKept, .inl (k_mm_imageKept, 25, .inl (fun _ => 0))), (xx, .inr (10, [.ref rr, .ref ta, .ref tb, .ref pa, .ref pb, .ref cn, .ref ci, .int 1, .ref cp, .ref ct, .ref hs, .ref rd, .ref wy, .ref ea, .ref eb])), (ci, .inr (0, [.ref pa, .int 0, .int 0, .ref ci_last, .ref ci_passed, .ref ci_keptCount, .int 0, .int 0, .int 0, .int 0, .ref ci_off, .ref ci_since, .ref ci_kept, .ref ci_sorted])), (ci_off, .inl (k_ci_off, 10, .inl x_3)), (ci_since, .inl (k_ci_since, 10, .inl x_4)), (ci_last, .inl (k_ci_last, 5, .inl x_5)), (ci_passed, .inl (k_ci_passed, 5, .inl x_6)), (ci_keptCount, .inl (k_ci_keptCount, 5, .inl x_7)), (ci_kept, .inl (k_ci_kept, 25, .inl x_8)), (cn, .inr (0, [.ref pa, .int 0, .int 0, .ref cn_last, .ref cn_passed, .ref cn_keptCount, .int 0, .int 0, .int 0, .int 0, .ref cn_off, .ref cn_since, .ref cn_kept, .ref cn_sorted])), (cn_off, .inl (k_cn_off, 10, .inl (fun _ => 0))), (cn_since, .inl (k_cn_since, 10, .inl (fun _ => 0))), (cn_last, .inl (k_cn_last, 5, .inl (fun _ => 0))), (cn_passed, .inl (k_cn_passed, 5, .inl (fun _ => 0))), (cn_keptCount, .inl (k_cn_keptCount, 5, .inl (fun _ => 0))), (cn_kept, .inl (k_cn_kept, 25, .inl (fun _ => 0)))] := hD
  clear hPc hDc hKc hFc hP1 hD1 hk1 hz1 ht hvm
  have hw : r_2 = 0 := hw
  subst r_2
  refine lv_aload_n hx hb dL_law_1435 rfl (lv_at hl 2 rfl) ?_
  have hPc := hP.sub (ws' := [(mm, .inr (11, [.int 0, .ref mm_tape, .int 0, .ref mm_number, .ref mm_clockName, .ref mm_clockOff, .ref mm_clockGain, .ref mm_clockRough, .ref mm_personName, .ref mm_personOff, .ref mm_personGain, .ref mm_personRough, .ref mm_custom, .ref mm_customA, .ref mm_customB, .ref mm_ruleFrom, .ref mm_ruleTo, .ref mm_roundOf, .ref mm_roundAt, .ref mm_roundHour, .ref mm_gunAt, .ref mm_gunHour, .ref mm_knotSort, .ref mm_knotValue, .int 0, .int 0, .int 0, .int 0, .int 0, .int 0, .int 0, .int 0, .int 0, .int (-1), .int 0, .int 0, .int 0, .int 0, .int 0, .int 0, .int 0, .int 0, .int 0, .int 0, .int 0, .int 0, .ref mm_start, .ref mm_off, .ref mm_last, .ref mm_passed, .ref mm_kept, .ref mm_keptMany, .int 0, .int 0, .ref mm_history, .ref mm_names, .ref mm_worked, .int 0, .int 0, .int (-1), .ref mm_readThing, .ref mm_readHour, .ref mm_readLow, .ref mm_readHigh, .int 0, .int 0, .int 0, .ref mm_imageOff, .ref mm_imageLast, .ref mm_imagePassed, .ref mm_imageKept, .ref mm_imageMany, .ref mm_imageHistory])), (mm_off, .inl (k_mm_off, 20, .inl (fun _ => 0))), (mm_imageOff, .inl (k_mm_imageOff, 10, .inl (fun _ => 0))), (mm_last, .inl (k_mm_last, 10, .inl (fun _ => 0))), (mm_imageLast, .inl (k_mm_imageLast, 5, .inl (fun _ => 0))), (mm_passed, .inl (k_mm_passed, 10, .inl (fun _ => 0))), (mm_imagePassed, .inl (k_mm_imagePassed, 5, .inl (fun _ => 0))), (mm_keptMany, .inl (k_mm_keptMany, 10, .inl (fun _ => 0))), (mm_imageMany, .inl (k_mm_imageMany, 5, .inl (fun _ => 0))), (mm_kept, .inl (k_mm_kept, 50, .inl (fun _ => 0))), (mm_imageKept, .inl (k_mm_imageKept, 25, .inl (fun _ => 0)))]) [0, 1, 6, 2, 7, 3, 8, 4, 9, 5, 10] rfl
  have hDc := hD.sub (ws' := [(mm, .inr (11, [.int 0, .ref mm_tape, .int 0, .ref mm_number, .ref mm_clockName, .ref mm_clockOff, .ref mm_clockGain, .ref mm_clockRough, .ref mm_personName, .ref mm_personOff, .ref mm_personGain, .ref mm_personRough, .ref mm_custom, .ref mm_customA, .ref mm_customB, .ref mm_ruleFrom, .ref mm_ruleTo, .ref mm_roundOf, .ref mm_roundAt, .ref mm_roundHour, .ref mm_gunAt, .ref mm_gunHour, .ref mm_knotSort, .ref mm_knotValue, .int 0, .int 0, .int 0, .int 0, .int 0, .int 0, .int 0, .int 0, .int 0, .int (-1), .int 0, .int 0, .int 0, .int 0, .int 0, .int 0, .int 0, .int 0, .int 0, .int 0, .int 0, .int 0, .ref mm_start, .ref mm_off, .ref mm_last, .ref mm_passed, .ref mm_kept, .ref mm_keptMany, .int 0, .int 0, .ref mm_history, .ref mm_names, .ref mm_worked, .int 0, .int 0, .int (-1), .ref mm_readThing, .ref mm_readHour, .ref mm_readLow, .ref mm_readHigh, .int 0, .int 0, .int 0, .ref mm_imageOff, .ref mm_imageLast, .ref mm_imagePassed, .ref mm_imageKept, .ref mm_imageMany, .ref mm_imageHistory])), (mm_off, .inl (k_mm_off, 20, .inl (fun _ => 0))), (mm_imageOff, .inl (k_mm_imageOff, 10, .inl (fun _ => 0))), (mm_last, .inl (k_mm_last, 10, .inl (fun _ => 0))), (mm_imageLast, .inl (k_mm_imageLast, 5, .inl (fun _ => 0))), (mm_passed, .inl (k_mm_passed, 10, .inl (fun _ => 0))), (mm_imagePassed, .inl (k_mm_imagePassed, 5, .inl (fun _ => 0))), (mm_keptMany, .inl (k_mm_keptMany, 10, .inl (fun _ => 0))), (mm_imageMany, .inl (k_mm_imageMany, 5, .inl (fun _ => 0))), (mm_kept, .inl (k_mm_kept, 50, .inl (fun _ => 0))), (mm_imageKept, .inl (k_mm_imageKept, 25, .inl (fun _ => 0)))]) [0, 1, 6, 2, 7, 3, 8, 4, 9, 5, 10] (by decide) rfl
  have hKc := hK.sub (tys' := [(k_mm_off, .int), (k_mm_imageOff, .int), (k_mm_last, .int), (k_mm_imageLast, .int), (k_mm_passed, .int), (k_mm_imagePassed, .int), (k_mm_keptMany, .int), (k_mm_imageMany, .int), (k_mm_kept, .int), (k_mm_imageKept, .int)]) [12, 17, 13, 18, 14, 19, 15, 20, 16, 21] rfl
  have hFc := va_free (wc := [(mm, .inr (11, [.int 0, .ref mm_tape, .int 0, .ref mm_number, .ref mm_clockName, .ref mm_clockOff, .ref mm_clockGain, .ref mm_clockRough, .ref mm_personName, .ref mm_personOff, .ref mm_personGain, .ref mm_personRough, .ref mm_custom, .ref mm_customA, .ref mm_customB, .ref mm_ruleFrom, .ref mm_ruleTo, .ref mm_roundOf, .ref mm_roundAt, .ref mm_roundHour, .ref mm_gunAt, .ref mm_gunHour, .ref mm_knotSort, .ref mm_knotValue, .int 0, .int 0, .int 0, .int 0, .int 0, .int 0, .int 0, .int 0, .int 0, .int (-1), .int 0, .int 0, .int 0, .int 0, .int 0, .int 0, .int 0, .int 0, .int 0, .int 0, .int 0, .int 0, .ref mm_start, .ref mm_off, .ref mm_last, .ref mm_passed, .ref mm_kept, .ref mm_keptMany, .int 0, .int 0, .ref mm_history, .ref mm_names, .ref mm_worked, .int 0, .int 0, .int (-1), .ref mm_readThing, .ref mm_readHour, .ref mm_readLow, .ref mm_readHigh, .int 0, .int 0, .int 0, .ref mm_imageOff, .ref mm_imageLast, .ref mm_imagePassed, .ref mm_imageKept, .ref mm_imageMany, .ref mm_imageHistory])), (mm_off, .inl (k_mm_off, 20, .inl (fun _ => 0))), (mm_imageOff, .inl (k_mm_imageOff, 10, .inl (fun _ => 0))), (mm_last, .inl (k_mm_last, 10, .inl (fun _ => 0))), (mm_imageLast, .inl (k_mm_imageLast, 5, .inl (fun _ => 0))), (mm_passed, .inl (k_mm_passed, 10, .inl (fun _ => 0))), (mm_imagePassed, .inl (k_mm_imagePassed, 5, .inl (fun _ => 0))), (mm_keptMany, .inl (k_mm_keptMany, 10, .inl (fun _ => 0))), (mm_imageMany, .inl (k_mm_imageMany, 5, .inl (fun _ => 0))), (mm_kept, .inl (k_mm_kept, 50, .inl (fun _ => 0))), (mm_imageKept, .inl (k_mm_imageKept, 25, .inl (fun _ => 0)))]) hD hS hA [0, 1, 6, 2, 7, 3, 8, 4, 9, 5, 10] rfl
  refine va_calli (va_runV (As := []) (rest := [.int 0]) ⟨hx, hb, hml, hown, hT⟩ (c_X11_keep l dC dI H.size mm (0 : Int32) mm_tape (0 : Int32) mm_number mm_clockName mm_clockOff mm_clockGain mm_clockRough mm_personName mm_personOff mm_personGain mm_personRough mm_custom mm_customA mm_customB mm_ruleFrom mm_ruleTo mm_roundOf mm_roundAt mm_roundHour mm_gunAt mm_gunHour mm_knotSort mm_knotValue (0 : Int32) (0 : Int32) (0 : Int32) (0 : Int32) (0 : Int32) (0 : Int32) (0 : Int32) (0 : Int32) (0 : Int32) ((-1) : Int32) (0 : Int32) (0 : Int32) (0 : Int32) (0 : Int32) (0 : Int32) (0 : Int32) (0 : Int32) (0 : Int32) (0 : Int32) (0 : Int32) (0 : Int32) (0 : Int32) mm_start mm_off mm_last mm_passed mm_kept mm_keptMany (0 : Int32) mm_history mm_names mm_worked (0 : Int32) (0 : Int32) ((-1) : Int32) mm_readThing mm_readHour mm_readLow mm_readHigh (0 : Int32) (0 : Int32) (0 : Int32) mm_imageOff mm_imageLast mm_imagePassed mm_imageKept mm_imageMany mm_imageHistory k_mm_off (fun _ => 0) k_mm_imageOff (fun _ => 0) k_mm_last (fun _ => 0) k_mm_imageLast (fun _ => 0) k_mm_passed (fun _ => 0) k_mm_imagePassed (fun _ => 0) k_mm_keptMany (fun _ => 0) k_mm_imageMany (fun _ => 0) k_mm_kept (fun _ => 0) k_mm_imageKept (fun _ => 0) ) (cwV 0 hT (gwV mw_8_169 mw_8_170 mw_8_171 mw_1_16 mw_8_172) rfl rfl rfl (by decide +kernel) ⟨Nat.le_of_ble_eq_true rfl, Nat.le_of_ble_eq_true rfl⟩) ⟨fun a U g mk q => by obtain ⟨q0, q1, qP, qK, qD⟩ := q; exact ⟨q0, q1, qP, va_K.moved (u := U) (U := U.calling g mk a) (Vm.Alike.refl U.vm) qK, qD⟩, va_recv hK hP (ci := 11) (q0 := 0) rfl rfl, fun U hU hW => ⟨rfl, by rw [hU], by rw [hU]; exact hPc, va_K.moved hW.alike hKc, hDc.weaken (fun _ _ _ _ => trivial)⟩⟩ rfl rfl hl.1 rfl (lv_room (Nat.le_of_ble_eq_true rfl)) dL_law_1436 ⟨Nat.le_of_ble_eq_true rfl, Nat.le_of_ble_eq_true rfl⟩) hS (fun q _ h => hFc q h) hFc (fun r_10 u t H1 locs ht hvm hw hB hz1 hk1 hS => ?_)
  obtain ⟨hP1, hD1⟩ := hB
  rw [ht] at hP1
  obtain ⟨hP, hD⟩ := va_join (wr := [(xx, .inr (10, [.ref rr, .ref ta, .ref tb, .ref pa, .ref pb, .ref cn, .ref ci, .int 1, .ref cp, .ref ct, .ref hs, .ref rd, .ref wy, .ref ea, .ref eb])), (ci, .inr (0, [.ref pa, .int 0, .int 0, .ref ci_last, .ref ci_passed, .ref ci_keptCount, .int 0, .int 0, .int 0, .int 0, .ref ci_off, .ref ci_since, .ref ci_kept, .ref ci_sorted])), (ci_off, .inl (k_ci_off, 10, .inl x_3)), (ci_since, .inl (k_ci_since, 10, .inl x_4)), (ci_last, .inl (k_ci_last, 5, .inl x_5)), (ci_passed, .inl (k_ci_passed, 5, .inl x_6)), (ci_keptCount, .inl (k_ci_keptCount, 5, .inl x_7)), (ci_kept, .inl (k_ci_kept, 25, .inl x_8)), (cn, .inr (0, [.ref pa, .int 0, .int 0, .ref cn_last, .ref cn_passed, .ref cn_keptCount, .int 0, .int 0, .int 0, .int 0, .ref cn_off, .ref cn_since, .ref cn_kept, .ref cn_sorted])), (cn_off, .inl (k_cn_off, 10, .inl (fun _ => 0))), (cn_since, .inl (k_cn_since, 10, .inl (fun _ => 0))), (cn_last, .inl (k_cn_last, 5, .inl (fun _ => 0))), (cn_passed, .inl (k_cn_passed, 5, .inl (fun _ => 0))), (cn_keptCount, .inl (k_cn_keptCount, 5, .inl (fun _ => 0))), (cn_kept, .inl (k_cn_kept, 25, .inl (fun _ => 0)))]) (w1 := []) hP hD [0, 1, 6, 2, 7, 3, 8, 4, 9, 5, 10] [11, 12, 13, 14, 15, 16, 17, 18, 19, 20, 21, 22, 23, 24, 25] rfl rfl (by decide) (by decide) hk1 hFc hP1 hD1
  generalize H1 = H at hP hS ⊢
  have hP : va_P (dC, dI) vwCl [(xx, .inr (10, [.ref rr, .ref ta, .ref tb, .ref pa, .ref pb, .ref cn, .ref ci, .int 1, .ref cp, .ref ct, .ref hs, .ref rd, .ref wy, .ref ea, .ref eb])), (ci, .inr (0, [.ref pa, .int 0, .int 0, .ref ci_last, .ref ci_passed, .ref ci_keptCount, .int 0, .int 0, .int 0, .int 0, .ref ci_off, .ref ci_since, .ref ci_kept, .ref ci_sorted])), (ci_off, .inl (k_ci_off, 10, .inl x_3)), (ci_since, .inl (k_ci_since, 10, .inl x_4)), (ci_last, .inl (k_ci_last, 5, .inl x_5)), (ci_passed, .inl (k_ci_passed, 5, .inl x_6)), (ci_keptCount, .inl (k_ci_keptCount, 5, .inl x_7)), (ci_kept, .inl (k_ci_kept, 25, .inl x_8)), (cn, .inr (0, [.ref pa, .int 0, .int 0, .ref cn_last, .ref cn_passed, .ref cn_keptCount, .int 0, .int 0, .int 0, .int 0, .ref cn_off, .ref cn_since, .ref cn_kept, .ref cn_sorted])), (cn_off, .inl (k_cn_off, 10, .inl (fun _ => 0))), (cn_since, .inl (k_cn_since, 10, .inl (fun _ => 0))), (cn_last, .inl (k_cn_last, 5, .inl (fun _ => 0))), (cn_passed, .inl (k_cn_passed, 5, .inl (fun _ => 0))), (cn_keptCount, .inl (k_cn_keptCount, 5, .inl (fun _ => 0))), (cn_kept, .inl (k_cn_kept, 25, .inl (fun _ => 0)))] H := hP
  have hD : va_D A [(xx, .inr (10, [.ref rr, .ref ta, .ref tb, .ref pa, .ref pb, .ref cn, .ref ci, .int 1, .ref cp, .ref ct, .ref hs, .ref rd, .ref wy, .ref ea, .ref eb])), (ci, .inr (0, [.ref pa, .int 0, .int 0, .ref ci_last, .ref ci_passed, .ref ci_keptCount, .int 0, .int 0, .int 0, .int 0, .ref ci_off, .ref ci_since, .ref ci_kept, .ref ci_sorted])), (ci_off, .inl (k_ci_off, 10, .inl x_3)), (ci_since, .inl (k_ci_since, 10, .inl x_4)), (ci_last, .inl (k_ci_last, 5, .inl x_5)), (ci_passed, .inl (k_ci_passed, 5, .inl x_6)), (ci_keptCount, .inl (k_ci_keptCount, 5, .inl x_7)), (ci_kept, .inl (k_ci_kept, 25, .inl x_8)), (cn, .inr (0, [.ref pa, .int 0, .int 0, .ref cn_last, .ref cn_passed, .ref cn_keptCount, .int 0, .int 0, .int 0, .int 0, .ref cn_off, .ref cn_since, .ref cn_kept, .ref cn_sorted])), (cn_off, .inl (k_cn_off, 10, .inl (fun _ => 0))), (cn_since, .inl (k_cn_since, 10, .inl (fun _ => 0))), (cn_last, .inl (k_cn_last, 5, .inl (fun _ => 0))), (cn_passed, .inl (k_cn_passed, 5, .inl (fun _ => 0))), (cn_keptCount, .inl (k_cn_keptCount, 5, .inl (fun _ => 0))), (cn_kept, .inl (k_cn_kept, 25, .inl (fun _ => 0)))] := hD
  clear hPc hDc hKc hFc hP1 hD1 hk1 hz1 ht hvm
  have hw : r_10 = 0 := hw
  subst r_10
  refine lv_icmp_eq (tgt := 1482) hx hb dL_law_1439 (by decide) (fun c_11 => ?_) (fun c_11 => absurd c_11 (by decide))
  refine lv_iinc (v := 7) (lv' := [(4, .int 7), (3, .ref oo), (2, .ref mm), (1, .ref xx), (0, .ref b)]) hx hb dL_law_1482 hl (k := 0) rfl (by decide) (by decide) rfl (fun ls hl => ?_)
  refine lv_goto (tgt := 23) hx hb dL_law_1485 (by decide) ?_
  refine lv_iload hx hb dL_law_23 (lv_at hl 0 rfl) ?_
  refine lv_aload_n hx hb dL_law_25 rfl (lv_at hl 4 rfl) ?_
  refine va_slen hx hb hX hbl hbA hS dL_law_26 ?_
  refine lv_topi (fun z_12 ez_12 => ?_)
  obtain rfl : z_12 = 7 := ez_12.trans (by decide)
  refine lv_bipush (v := 7) hx hb dL_law_27 (by decide) ?_
  refine lv_isub hx hb dL_law_29 ?_
  refine lv_topi (fun z_13 ez_13 => ?_)
  obtain rfl : z_13 = 0 := ez_13.trans (by decide)
  refine lv_icmp_gt (tgt := 1488) hx hb dL_law_30 (by decide) (fun c_14 => ?_) (fun c_14 => absurd c_14 (by decide))
  refine lv_iconst (v := 1) hx hb dL_law_1488 (by decide) ?_
  refine va_forget (fun q hq => hAo _ (hS.2.2 q hq)) ?_
  refine W.widen (k := 600002) (n := 7302232) (Nat.le_of_ble_eq_true rfl) (Nat.le_of_ble_eq_true rfl) ?_
  exact lw_ret hx hb hr hlocks dL_law_1489
set_option maxHeartbeats 4000000 in
set_option maxRecDepth 100000 in
theorem law_op_30 {p : Program} {l : Launch} {e : Env} {s : State} {m : MethodId} {below : List Frame} {meth : Method} {c : Code} {dC : Nat → ClassId} {dI : Nat → Nat → Nat} {b : Nat} {xs : Nat → Int32} {A : Nat → Prop} (C0 : lw_At p s m meth c b 7 xs) (hA : ∀ q, s.heap.size ≤ q → A q) (hbA : ¬ A b) (hAo : ∀ q, A q → s.heap.size ≤ q) {xx : Nat} {rr : Nat} {ta : Nat} {tb : Nat} {pa : Nat} {pb : Nat} {cn : Nat} {ci : Nat} {cp : Nat} {ct : Nat} {hs : Nat} {rd : Nat} {wy : Nat} {ea : Nat} {eb : Nat} {mm : Nat} {mm_tape : Nat} {mm_number : Nat} {mm_clockName : Nat} {mm_clockOff : Nat} {mm_clockGain : Nat} {mm_clockRough : Nat} {mm_personName : Nat} {mm_personOff : Nat} {mm_personGain : Nat} {mm_personRough : Nat} {mm_custom : Nat} {mm_customA : Nat} {mm_customB : Nat} {mm_ruleFrom : Nat} {mm_ruleTo : Nat} {mm_roundOf : Nat} {mm_roundAt : Nat} {mm_roundHour : Nat} {mm_gunAt : Nat} {mm_gunHour : Nat} {mm_knotSort : Nat} {mm_knotValue : Nat} {mm_start : Nat} {mm_off : Nat} {mm_last : Nat} {mm_passed : Nat} {mm_kept : Nat} {mm_keptMany : Nat} {mm_history : Nat} {mm_names : Nat} {mm_worked : Nat} {mm_readThing : Nat} {mm_readHour : Nat} {mm_readLow : Nat} {mm_readHigh : Nat} {mm_imageOff : Nat} {mm_imageLast : Nat} {mm_imagePassed : Nat} {mm_imageKept : Nat} {mm_imageMany : Nat} {mm_imageHistory : Nat} {oo : Nat} {H : Heap} {locs : List Loc} {ls : Array Slot} (hK : va_K (dC, dI) vwCl [] s) (hP : va_P (dC, dI) vwCl [(xx, .inr (10, [.ref rr, .ref ta, .ref tb, .ref pa, .ref pb, .ref cn, .ref ci, .int 0, .ref cp, .ref ct, .ref hs, .ref rd, .ref wy, .ref ea, .ref eb])), (mm, .inr (11, [.int 0, .ref mm_tape, .int 0, .ref mm_number, .ref mm_clockName, .ref mm_clockOff, .ref mm_clockGain, .ref mm_clockRough, .ref mm_personName, .ref mm_personOff, .ref mm_personGain, .ref mm_personRough, .ref mm_custom, .ref mm_customA, .ref mm_customB, .ref mm_ruleFrom, .ref mm_ruleTo, .ref mm_roundOf, .ref mm_roundAt, .ref mm_roundHour, .ref mm_gunAt, .ref mm_gunHour, .ref mm_knotSort, .ref mm_knotValue, .int 0, .int 0, .int 0, .int 0, .int 0, .int 0, .int 0, .int 0, .int 0, .int (-1), .int 0, .int 0, .int 0, .int 0, .int 0, .int 0, .int 0, .int 0, .int 0, .int 0, .int 0, .int 0, .ref mm_start, .ref mm_off, .ref mm_last, .ref mm_passed, .ref mm_kept, .ref mm_keptMany, .int 0, .int 0, .ref mm_history, .ref mm_names, .ref mm_worked, .int 0, .int 0, .int (-1), .ref mm_readThing, .ref mm_readHour, .ref mm_readLow, .ref mm_readHigh, .int 0, .int 0, .int 0, .ref mm_imageOff, .ref mm_imageLast, .ref mm_imagePassed, .ref mm_imageKept, .ref mm_imageMany, .ref mm_imageHistory]))] H) (hD : va_D A [(xx, .inr (10, [.ref rr, .ref ta, .ref tb, .ref pa, .ref pb, .ref cn, .ref ci, .int 0, .ref cp, .ref ct, .ref hs, .ref rd, .ref wy, .ref ea, .ref eb])), (mm, .inr (11, [.int 0, .ref mm_tape, .int 0, .ref mm_number, .ref mm_clockName, .ref mm_clockOff, .ref mm_clockGain, .ref mm_clockRough, .ref mm_personName, .ref mm_personOff, .ref mm_personGain, .ref mm_personRough, .ref mm_custom, .ref mm_customA, .ref mm_customB, .ref mm_ruleFrom, .ref mm_ruleTo, .ref mm_roundOf, .ref mm_roundAt, .ref mm_roundHour, .ref mm_gunAt, .ref mm_gunHour, .ref mm_knotSort, .ref mm_knotValue, .int 0, .int 0, .int 0, .int 0, .int 0, .int 0, .int 0, .int 0, .int 0, .int (-1), .int 0, .int 0, .int 0, .int 0, .int 0, .int 0, .int 0, .int 0, .int 0, .int 0, .int 0, .int 0, .ref mm_start, .ref mm_off, .ref mm_last, .ref mm_passed, .ref mm_kept, .ref mm_keptMany, .int 0, .int 0, .ref mm_history, .ref mm_names, .ref mm_worked, .int 0, .int 0, .int (-1), .ref mm_readThing, .ref mm_readHour, .ref mm_readLow, .ref mm_readHigh, .int 0, .int 0, .int 0, .ref mm_imageOff, .ref mm_imageLast, .ref mm_imagePassed, .ref mm_imageKept, .ref mm_imageMany, .ref mm_imageHistory]))]) (hS : va_S A s.heap H locs) (hl : lv_has ls 7 [(4, .int 0), (3, .ref oo), (2, .ref mm), (1, .ref xx), (0, .ref b)]) : W p l e room_1 s m #[Value.ref b] below meth c H locs 160 67979 (lw_Z below #[Value.ref b] s) (F0 m 1444 ls []) := by
  obtain ⟨hx, hb, hr, hml, hown, hts, hX, hbl, hlocks, hgv⟩ := C0
  have hT : ∀ w ∈ pw_T, w.before #[Value.ref b] s = true := fun w h => hts w (List.mem_filter.mp h).1
  have hown : s.vm.findClass RL = some m.cls := hown
  refine lv_aload_n hx hb dL_law_1444 rfl (lv_at hl 3 rfl) ?_
  have hPc := hP.sub (ws' := [(xx, .inr (10, [.ref rr, .ref ta, .ref tb, .ref pa, .ref pb, .ref cn, .ref ci, .int 0, .ref cp, .ref ct, .ref hs, .ref rd, .ref wy, .ref ea, .ref eb]))]) [0] rfl
  have hDc := hD.sub (ws' := [(xx, .inr (10, [.ref rr, .ref ta, .ref tb, .ref pa, .ref pb, .ref cn, .ref ci, .int 0, .ref cp, .ref ct, .ref hs, .ref rd, .ref wy, .ref ea, .ref eb]))]) [0] (by decide) rfl
  have hKc := hK.sub (tys' := []) [] rfl
  have hFc := va_free (wc := [(xx, .inr (10, [.ref rr, .ref ta, .ref tb, .ref pa, .ref pb, .ref cn, .ref ci, .int 0, .ref cp, .ref ct, .ref hs, .ref rd, .ref wy, .ref ea, .ref eb]))]) hD hS hA [0] rfl
  refine va_calli (va_runV (As := []) (rest := []) ⟨hx, hb, hml, hown, hT⟩ (c_X10_back l dC dI H.size xx rr ta tb pa pb cn ci cp ct hs rd wy ea eb ) (cwV 0 hT (gwV mw_5_151 mw_5_152 mw_5_153 mw_1_1 mw_5_154) rfl rfl rfl (by decide +kernel) ⟨Nat.le_of_ble_eq_true rfl, Nat.le_of_ble_eq_true rfl⟩) ⟨fun a U g mk q => by obtain ⟨q0, q1, qP, qK, qD⟩ := q; exact ⟨q0, q1, qP, va_K.moved (u := U) (U := U.calling g mk a) (Vm.Alike.refl U.vm) qK, qD⟩, va_recv hK hP (ci := 10) (q0 := 0) rfl rfl, fun U hU hW => ⟨rfl, by rw [hU], by rw [hU]; exact hPc, va_K.moved hW.alike hKc, hDc.weaken (fun _ _ _ _ => trivial)⟩⟩ rfl rfl hl.1 rfl (lv_room (Nat.le_of_ble_eq_true rfl)) dL_law_1445 ⟨Nat.le_of_ble_eq_true rfl, Nat.le_of_ble_eq_true rfl⟩) hS (fun q _ h => hFc q h) hFc (fun r_2 u t H1 locs ht hvm hw hB hz1 hk1 hS => ?_)
  obtain ⟨hP1, hD1⟩ := hB
  rw [ht] at hP1
  obtain ⟨hP, hD⟩ := va_join (wr := [(mm, .inr (11, [.int 0, .ref mm_tape, .int 0, .ref mm_number, .ref mm_clockName, .ref mm_clockOff, .ref mm_clockGain, .ref mm_clockRough, .ref mm_personName, .ref mm_personOff, .ref mm_personGain, .ref mm_personRough, .ref mm_custom, .ref mm_customA, .ref mm_customB, .ref mm_ruleFrom, .ref mm_ruleTo, .ref mm_roundOf, .ref mm_roundAt, .ref mm_roundHour, .ref mm_gunAt, .ref mm_gunHour, .ref mm_knotSort, .ref mm_knotValue, .int 0, .int 0, .int 0, .int 0, .int 0, .int 0, .int 0, .int 0, .int 0, .int (-1), .int 0, .int 0, .int 0, .int 0, .int 0, .int 0, .int 0, .int 0, .int 0, .int 0, .int 0, .int 0, .ref mm_start, .ref mm_off, .ref mm_last, .ref mm_passed, .ref mm_kept, .ref mm_keptMany, .int 0, .int 0, .ref mm_history, .ref mm_names, .ref mm_worked, .int 0, .int 0, .int (-1), .ref mm_readThing, .ref mm_readHour, .ref mm_readLow, .ref mm_readHigh, .int 0, .int 0, .int 0, .ref mm_imageOff, .ref mm_imageLast, .ref mm_imagePassed, .ref mm_imageKept, .ref mm_imageMany, .ref mm_imageHistory]))]) (w1 := [(xx, .inr (10, [.ref rr, .ref ta, .ref tb, .ref pa, .ref pb, .ref cn, .ref ci, .int 0, .ref cp, .ref ct, .ref hs, .ref rd, .ref wy, .ref ea, .ref eb]))]) hP hD [0] [1] rfl rfl (by decide) (by decide) hk1 hFc hP1 hD1
  generalize H1 = H at hP hS ⊢
  have hP : va_P (dC, dI) vwCl [(mm, .inr (11, [.int 0, .ref mm_tape, .int 0, .ref mm_number, .ref mm_clockName, .ref mm_clockOff, .ref mm_clockGain, .ref mm_clockRough, .ref mm_personName, .ref mm_personOff, .ref mm_personGain, .ref mm_personRough, .ref mm_custom, .ref mm_customA, .ref mm_customB, .ref mm_ruleFrom, .ref mm_ruleTo, .ref mm_roundOf, .ref mm_roundAt, .ref mm_roundHour, .ref mm_gunAt, .ref mm_gunHour, .ref mm_knotSort, .ref mm_knotValue, .int 0, .int 0, .int 0, .int 0, .int 0, .int 0, .int 0, .int 0, .int 0, .int (-1), .int 0, .int 0, .int 0, .int 0, .int 0, .int 0, .int 0, .int 0, .int 0, .int 0, .int 0, .int 0, .ref mm_start, .ref mm_off, .ref mm_last, .ref mm_passed, .ref mm_kept, .ref mm_keptMany, .int 0, .int 0, .ref mm_history, .ref mm_names, .ref mm_worked, .int 0, .int 0, .int (-1), .ref mm_readThing, .ref mm_readHour, .ref mm_readLow, .ref mm_readHigh, .int 0, .int 0, .int 0, .ref mm_imageOff, .ref mm_imageLast, .ref mm_imagePassed, .ref mm_imageKept, .ref mm_imageMany, .ref mm_imageHistory])), (xx, .inr (10, [.ref rr, .ref ta, .ref tb, .ref pa, .ref pb, .ref cn, .ref ci, .int 0, .ref cp, .ref ct, .ref hs, .ref rd, .ref wy, .ref ea, .ref eb]))] H := hP
  have hD : va_D A [(mm, .inr (11, [.int 0, .ref mm_tape, .int 0, .ref mm_number, .ref mm_clockName, .ref mm_clockOff, .ref mm_clockGain, .ref mm_clockRough, .ref mm_personName, .ref mm_personOff, .ref mm_personGain, .ref mm_personRough, .ref mm_custom, .ref mm_customA, .ref mm_customB, .ref mm_ruleFrom, .ref mm_ruleTo, .ref mm_roundOf, .ref mm_roundAt, .ref mm_roundHour, .ref mm_gunAt, .ref mm_gunHour, .ref mm_knotSort, .ref mm_knotValue, .int 0, .int 0, .int 0, .int 0, .int 0, .int 0, .int 0, .int 0, .int 0, .int (-1), .int 0, .int 0, .int 0, .int 0, .int 0, .int 0, .int 0, .int 0, .int 0, .int 0, .int 0, .int 0, .ref mm_start, .ref mm_off, .ref mm_last, .ref mm_passed, .ref mm_kept, .ref mm_keptMany, .int 0, .int 0, .ref mm_history, .ref mm_names, .ref mm_worked, .int 0, .int 0, .int (-1), .ref mm_readThing, .ref mm_readHour, .ref mm_readLow, .ref mm_readHigh, .int 0, .int 0, .int 0, .ref mm_imageOff, .ref mm_imageLast, .ref mm_imagePassed, .ref mm_imageKept, .ref mm_imageMany, .ref mm_imageHistory])), (xx, .inr (10, [.ref rr, .ref ta, .ref tb, .ref pa, .ref pb, .ref cn, .ref ci, .int 0, .ref cp, .ref ct, .ref hs, .ref rd, .ref wy, .ref ea, .ref eb]))] := hD
  clear hPc hDc hKc hFc hP1 hD1 hk1 hz1 ht hvm
  have hw : r_2 = -1 := hw
  subst r_2
  refine lv_aload_n hx hb dL_law_1448 rfl (lv_at hl 2 rfl) ?_
  have hPc := hP.sub (ws' := [(mm, .inr (11, [.int 0, .ref mm_tape, .int 0, .ref mm_number, .ref mm_clockName, .ref mm_clockOff, .ref mm_clockGain, .ref mm_clockRough, .ref mm_personName, .ref mm_personOff, .ref mm_personGain, .ref mm_personRough, .ref mm_custom, .ref mm_customA, .ref mm_customB, .ref mm_ruleFrom, .ref mm_ruleTo, .ref mm_roundOf, .ref mm_roundAt, .ref mm_roundHour, .ref mm_gunAt, .ref mm_gunHour, .ref mm_knotSort, .ref mm_knotValue, .int 0, .int 0, .int 0, .int 0, .int 0, .int 0, .int 0, .int 0, .int 0, .int (-1), .int 0, .int 0, .int 0, .int 0, .int 0, .int 0, .int 0, .int 0, .int 0, .int 0, .int 0, .int 0, .ref mm_start, .ref mm_off, .ref mm_last, .ref mm_passed, .ref mm_kept, .ref mm_keptMany, .int 0, .int 0, .ref mm_history, .ref mm_names, .ref mm_worked, .int 0, .int 0, .int (-1), .ref mm_readThing, .ref mm_readHour, .ref mm_readLow, .ref mm_readHigh, .int 0, .int 0, .int 0, .ref mm_imageOff, .ref mm_imageLast, .ref mm_imagePassed, .ref mm_imageKept, .ref mm_imageMany, .ref mm_imageHistory]))]) [0] rfl
  have hDc := hD.sub (ws' := [(mm, .inr (11, [.int 0, .ref mm_tape, .int 0, .ref mm_number, .ref mm_clockName, .ref mm_clockOff, .ref mm_clockGain, .ref mm_clockRough, .ref mm_personName, .ref mm_personOff, .ref mm_personGain, .ref mm_personRough, .ref mm_custom, .ref mm_customA, .ref mm_customB, .ref mm_ruleFrom, .ref mm_ruleTo, .ref mm_roundOf, .ref mm_roundAt, .ref mm_roundHour, .ref mm_gunAt, .ref mm_gunHour, .ref mm_knotSort, .ref mm_knotValue, .int 0, .int 0, .int 0, .int 0, .int 0, .int 0, .int 0, .int 0, .int 0, .int (-1), .int 0, .int 0, .int 0, .int 0, .int 0, .int 0, .int 0, .int 0, .int 0, .int 0, .int 0, .int 0, .ref mm_start, .ref mm_off, .ref mm_last, .ref mm_passed, .ref mm_kept, .ref mm_keptMany, .int 0, .int 0, .ref mm_history, .ref mm_names, .ref mm_worked, .int 0, .int 0, .int (-1), .ref mm_readThing, .ref mm_readHour, .ref mm_readLow, .ref mm_readHigh, .int 0, .int 0, .int 0, .ref mm_imageOff, .ref mm_imageLast, .ref mm_imagePassed, .ref mm_imageKept, .ref mm_imageMany, .ref mm_imageHistory]))]) [0] (by decide) rfl
  have hKc := hK.sub (tys' := []) [] rfl
  have hFc := va_free (wc := [(mm, .inr (11, [.int 0, .ref mm_tape, .int 0, .ref mm_number, .ref mm_clockName, .ref mm_clockOff, .ref mm_clockGain, .ref mm_clockRough, .ref mm_personName, .ref mm_personOff, .ref mm_personGain, .ref mm_personRough, .ref mm_custom, .ref mm_customA, .ref mm_customB, .ref mm_ruleFrom, .ref mm_ruleTo, .ref mm_roundOf, .ref mm_roundAt, .ref mm_roundHour, .ref mm_gunAt, .ref mm_gunHour, .ref mm_knotSort, .ref mm_knotValue, .int 0, .int 0, .int 0, .int 0, .int 0, .int 0, .int 0, .int 0, .int 0, .int (-1), .int 0, .int 0, .int 0, .int 0, .int 0, .int 0, .int 0, .int 0, .int 0, .int 0, .int 0, .int 0, .ref mm_start, .ref mm_off, .ref mm_last, .ref mm_passed, .ref mm_kept, .ref mm_keptMany, .int 0, .int 0, .ref mm_history, .ref mm_names, .ref mm_worked, .int 0, .int 0, .int (-1), .ref mm_readThing, .ref mm_readHour, .ref mm_readLow, .ref mm_readHigh, .int 0, .int 0, .int 0, .ref mm_imageOff, .ref mm_imageLast, .ref mm_imagePassed, .ref mm_imageKept, .ref mm_imageMany, .ref mm_imageHistory]))]) hD hS hA [0] rfl
  refine va_calli (va_runV (As := []) (rest := [.int (-1)]) ⟨hx, hb, hml, hown, hT⟩ (c_X11_back l dC dI H.size mm (0 : Int32) mm_tape (0 : Int32) mm_number mm_clockName mm_clockOff mm_clockGain mm_clockRough mm_personName mm_personOff mm_personGain mm_personRough mm_custom mm_customA mm_customB mm_ruleFrom mm_ruleTo mm_roundOf mm_roundAt mm_roundHour mm_gunAt mm_gunHour mm_knotSort mm_knotValue (0 : Int32) (0 : Int32) (0 : Int32) (0 : Int32) (0 : Int32) (0 : Int32) (0 : Int32) (0 : Int32) (0 : Int32) ((-1) : Int32) (0 : Int32) (0 : Int32) (0 : Int32) (0 : Int32) (0 : Int32) (0 : Int32) (0 : Int32) (0 : Int32) (0 : Int32) (0 : Int32) (0 : Int32) (0 : Int32) mm_start mm_off mm_last mm_passed mm_kept mm_keptMany (0 : Int32) (0 : Int32) mm_history mm_names mm_worked (0 : Int32) (0 : Int32) ((-1) : Int32) mm_readThing mm_readHour mm_readLow mm_readHigh (0 : Int32) (0 : Int32) mm_imageOff mm_imageLast mm_imagePassed mm_imageKept mm_imageMany mm_imageHistory ) (cwV 0 hT (gwV mw_8_173 mw_8_174 mw_8_175 mw_1_16 mw_8_176) rfl rfl rfl (by decide +kernel) ⟨Nat.le_of_ble_eq_true rfl, Nat.le_of_ble_eq_true rfl⟩) ⟨fun a U g mk q => by obtain ⟨q0, q1, qP, qK, qD⟩ := q; exact ⟨q0, q1, qP, va_K.moved (u := U) (U := U.calling g mk a) (Vm.Alike.refl U.vm) qK, qD⟩, va_recv hK hP (ci := 11) (q0 := 0) rfl rfl, fun U hU hW => ⟨rfl, by rw [hU], by rw [hU]; exact hPc, va_K.moved hW.alike hKc, hDc.weaken (fun _ _ _ _ => trivial)⟩⟩ rfl rfl hl.1 rfl (lv_room (Nat.le_of_ble_eq_true rfl)) dL_law_1449 ⟨Nat.le_of_ble_eq_true rfl, Nat.le_of_ble_eq_true rfl⟩) hS (fun q _ h => hFc q h) hFc (fun r_4 u t H1 locs ht hvm hw hB hz1 hk1 hS => ?_)
  obtain ⟨hP1, hD1⟩ := hB
  rw [ht] at hP1
  obtain ⟨hP, hD⟩ := va_join (wr := [(xx, .inr (10, [.ref rr, .ref ta, .ref tb, .ref pa, .ref pb, .ref cn, .ref ci, .int 0, .ref cp, .ref ct, .ref hs, .ref rd, .ref wy, .ref ea, .ref eb]))]) (w1 := []) hP hD [0] [1] rfl rfl (by decide) (by decide) hk1 hFc hP1 hD1
  generalize H1 = H at hP hS ⊢
  have hP : va_P (dC, dI) vwCl [(xx, .inr (10, [.ref rr, .ref ta, .ref tb, .ref pa, .ref pb, .ref cn, .ref ci, .int 0, .ref cp, .ref ct, .ref hs, .ref rd, .ref wy, .ref ea, .ref eb]))] H := hP
  have hD : va_D A [(xx, .inr (10, [.ref rr, .ref ta, .ref tb, .ref pa, .ref pb, .ref cn, .ref ci, .int 0, .ref cp, .ref ct, .ref hs, .ref rd, .ref wy, .ref ea, .ref eb]))] := hD
  clear hPc hDc hKc hFc hP1 hD1 hk1 hz1 ht hvm
  have hw : r_4 = -1 := hw
  subst r_4
  refine lv_icmp_eq (tgt := 1482) hx hb dL_law_1452 (by decide) (fun c_5 => ?_) (fun c_5 => absurd c_5 (by decide))
  refine lv_iinc (v := 7) (lv' := [(4, .int 7), (3, .ref oo), (2, .ref mm), (1, .ref xx), (0, .ref b)]) hx hb dL_law_1482 hl (k := 0) rfl (by decide) (by decide) rfl (fun ls hl => ?_)
  refine lv_goto (tgt := 23) hx hb dL_law_1485 (by decide) ?_
  refine lv_iload hx hb dL_law_23 (lv_at hl 0 rfl) ?_
  refine lv_aload_n hx hb dL_law_25 rfl (lv_at hl 4 rfl) ?_
  refine va_slen hx hb hX hbl hbA hS dL_law_26 ?_
  refine lv_topi (fun z_6 ez_6 => ?_)
  obtain rfl : z_6 = 7 := ez_6.trans (by decide)
  refine lv_bipush (v := 7) hx hb dL_law_27 (by decide) ?_
  refine lv_isub hx hb dL_law_29 ?_
  refine lv_topi (fun z_7 ez_7 => ?_)
  obtain rfl : z_7 = 0 := ez_7.trans (by decide)
  refine lv_icmp_gt (tgt := 1488) hx hb dL_law_30 (by decide) (fun c_8 => ?_) (fun c_8 => absurd c_8 (by decide))
  refine lv_iconst (v := 1) hx hb dL_law_1488 (by decide) ?_
  refine va_forget (fun q hq => hAo _ (hS.2.2 q hq)) ?_
  refine W.widen (k := 600002) (n := 7302232) (Nat.le_of_ble_eq_true rfl) (Nat.le_of_ble_eq_true rfl) ?_
  exact lw_ret hx hb hr hlocks dL_law_1489
set_option maxHeartbeats 4000000 in
set_option maxRecDepth 100000 in
theorem law_op_31 {p : Program} {l : Launch} {e : Env} {s : State} {m : MethodId} {below : List Frame} {meth : Method} {c : Code} {dC : Nat → ClassId} {dI : Nat → Nat → Nat} {b : Nat} {xs : Nat → Int32} {A : Nat → Prop} (C0 : lw_At p s m meth c b 7 xs) (hA : ∀ q, s.heap.size ≤ q → A q) (hbA : ¬ A b) (hAo : ∀ q, A q → s.heap.size ≤ q) {xx : Nat} {rr : Nat} {ta : Nat} {tb : Nat} {pa : Nat} {pb : Nat} {cn : Nat} {ci : Nat} {cp : Nat} {ct : Nat} {hs : Nat} {rd : Nat} {wy : Nat} {ea : Nat} {eb : Nat} {ta_name : Nat} {ta_first : Nat} {ta_gain : Nat} {ta_rough : Nat} {ta_custom : Nat} {ta_part : Nat} {ta_whole : Nat} {ta_roundPerson : Nat} {ta_roundClock : Nat} {ta_roundHour : Nat} {ta_gunClock : Nat} {ta_gunHour : Nat} {tau : Nat} {tau_kind : Nat} {tau_number : Nat} {tau_from : Nat} {tau_until : Nat} {tau_names : Nat} {tau_stack : Nat} {cn_last : Nat} {cn_passed : Nat} {cn_keptCount : Nat} {cn_off : Nat} {cn_since : Nat} {cn_kept : Nat} {cn_sorted : Nat} {rd_slot : Nat} {rd_hour : Nat} {rd_low : Nat} {rd_high : Nat} {rd_byHour : Nat} {mm : Nat} {mm_tape : Nat} {mm_number : Nat} {mm_clockName : Nat} {mm_clockOff : Nat} {mm_clockGain : Nat} {mm_clockRough : Nat} {mm_personName : Nat} {mm_personOff : Nat} {mm_personGain : Nat} {mm_personRough : Nat} {mm_custom : Nat} {mm_customA : Nat} {mm_customB : Nat} {mm_ruleFrom : Nat} {mm_ruleTo : Nat} {mm_roundOf : Nat} {mm_roundAt : Nat} {mm_roundHour : Nat} {mm_gunAt : Nat} {mm_gunHour : Nat} {mm_knotSort : Nat} {mm_knotValue : Nat} {mm_start : Nat} {mm_off : Nat} {mm_last : Nat} {mm_passed : Nat} {mm_kept : Nat} {mm_keptMany : Nat} {mm_history : Nat} {mm_names : Nat} {mm_worked : Nat} {mm_readThing : Nat} {mm_readHour : Nat} {mm_readLow : Nat} {mm_readHigh : Nat} {mm_imageOff : Nat} {mm_imageLast : Nat} {mm_imagePassed : Nat} {mm_imageKept : Nat} {mm_imageMany : Nat} {mm_imageHistory : Nat} {k_mm_number : ClassId} {oo : Nat} {H : Heap} {locs : List Loc} {ls : Array Slot} (hK : va_K (dC, dI) vwCl [(k_mm_number, .int)] s) (hP : va_P (dC, dI) vwCl [(xx, .inr (10, [.ref rr, .ref ta, .ref tb, .ref pa, .ref pb, .ref cn, .ref ci, .int 0, .ref cp, .ref ct, .ref hs, .ref rd, .ref wy, .ref ea, .ref eb])), (ta, .inr (8, [.int 0, .int 0, .int 0, .int 0, .int 0, .ref ta_name, .ref ta_first, .ref ta_gain, .ref ta_rough, .ref ta_custom, .ref ta_part, .ref ta_whole, .ref ta_roundPerson, .ref ta_roundClock, .ref ta_roundHour, .ref ta_gunClock, .ref ta_gunHour, .ref tau])), (tau, .inr (6, [.int 0, .ref tau_kind, .ref tau_number, .ref tau_from, .ref tau_until, .ref tau_names, .ref tau_stack])), (cn, .inr (0, [.ref pa, .int 0, .int 0, .ref cn_last, .ref cn_passed, .ref cn_keptCount, .int 0, .int 0, .int 0, .int 0, .ref cn_off, .ref cn_since, .ref cn_kept, .ref cn_sorted])), (rd, .inr (5, [.int 0, .int (-1), .ref rd_slot, .ref rd_hour, .ref rd_low, .ref rd_high, .ref rd_byHour])), (mm, .inr (11, [.int 0, .ref mm_tape, .int 0, .ref mm_number, .ref mm_clockName, .ref mm_clockOff, .ref mm_clockGain, .ref mm_clockRough, .ref mm_personName, .ref mm_personOff, .ref mm_personGain, .ref mm_personRough, .ref mm_custom, .ref mm_customA, .ref mm_customB, .ref mm_ruleFrom, .ref mm_ruleTo, .ref mm_roundOf, .ref mm_roundAt, .ref mm_roundHour, .ref mm_gunAt, .ref mm_gunHour, .ref mm_knotSort, .ref mm_knotValue, .int 0, .int 0, .int 0, .int 0, .int 0, .int 0, .int 0, .int 0, .int 0, .int (-1), .int 0, .int 0, .int 0, .int 0, .int 0, .int 0, .int 0, .int 0, .int 0, .int 0, .int 0, .int 0, .ref mm_start, .ref mm_off, .ref mm_last, .ref mm_passed, .ref mm_kept, .ref mm_keptMany, .int 0, .int 0, .ref mm_history, .ref mm_names, .ref mm_worked, .int 0, .int 0, .int (-1), .ref mm_readThing, .ref mm_readHour, .ref mm_readLow, .ref mm_readHigh, .int 0, .int 0, .int 0, .ref mm_imageOff, .ref mm_imageLast, .ref mm_imagePassed, .ref mm_imageKept, .ref mm_imageMany, .ref mm_imageHistory])), (mm_number, .inl (k_mm_number, 10, .inl (fun _ => 0)))] H) (hD : va_D A [(xx, .inr (10, [.ref rr, .ref ta, .ref tb, .ref pa, .ref pb, .ref cn, .ref ci, .int 0, .ref cp, .ref ct, .ref hs, .ref rd, .ref wy, .ref ea, .ref eb])), (ta, .inr (8, [.int 0, .int 0, .int 0, .int 0, .int 0, .ref ta_name, .ref ta_first, .ref ta_gain, .ref ta_rough, .ref ta_custom, .ref ta_part, .ref ta_whole, .ref ta_roundPerson, .ref ta_roundClock, .ref ta_roundHour, .ref ta_gunClock, .ref ta_gunHour, .ref tau])), (tau, .inr (6, [.int 0, .ref tau_kind, .ref tau_number, .ref tau_from, .ref tau_until, .ref tau_names, .ref tau_stack])), (cn, .inr (0, [.ref pa, .int 0, .int 0, .ref cn_last, .ref cn_passed, .ref cn_keptCount, .int 0, .int 0, .int 0, .int 0, .ref cn_off, .ref cn_since, .ref cn_kept, .ref cn_sorted])), (rd, .inr (5, [.int 0, .int (-1), .ref rd_slot, .ref rd_hour, .ref rd_low, .ref rd_high, .ref rd_byHour])), (mm, .inr (11, [.int 0, .ref mm_tape, .int 0, .ref mm_number, .ref mm_clockName, .ref mm_clockOff, .ref mm_clockGain, .ref mm_clockRough, .ref mm_personName, .ref mm_personOff, .ref mm_personGain, .ref mm_personRough, .ref mm_custom, .ref mm_customA, .ref mm_customB, .ref mm_ruleFrom, .ref mm_ruleTo, .ref mm_roundOf, .ref mm_roundAt, .ref mm_roundHour, .ref mm_gunAt, .ref mm_gunHour, .ref mm_knotSort, .ref mm_knotValue, .int 0, .int 0, .int 0, .int 0, .int 0, .int 0, .int 0, .int 0, .int 0, .int (-1), .int 0, .int 0, .int 0, .int 0, .int 0, .int 0, .int 0, .int 0, .int 0, .int 0, .int 0, .int 0, .ref mm_start, .ref mm_off, .ref mm_last, .ref mm_passed, .ref mm_kept, .ref mm_keptMany, .int 0, .int 0, .ref mm_history, .ref mm_names, .ref mm_worked, .int 0, .int 0, .int (-1), .ref mm_readThing, .ref mm_readHour, .ref mm_readLow, .ref mm_readHigh, .int 0, .int 0, .int 0, .ref mm_imageOff, .ref mm_imageLast, .ref mm_imagePassed, .ref mm_imageKept, .ref mm_imageMany, .ref mm_imageHistory])), (mm_number, .inl (k_mm_number, 10, .inl (fun _ => 0)))]) (hS : va_S A s.heap H locs) (hl : lv_has ls 7 [(4, .int 0), (3, .ref oo), (2, .ref mm), (1, .ref xx), (0, .ref b)]) : W p l e room_1 s m #[Value.ref b] below meth c H locs 160 67979 (lw_Z below #[Value.ref b] s) (F0 m 1457 ls []) := by
  obtain ⟨hx, hb, hr, hml, hown, hts, hX, hbl, hlocks, hgv⟩ := C0
  have hT : ∀ w ∈ pw_T, w.before #[Value.ref b] s = true := fun w h => hts w (List.mem_filter.mp h).1
  have hown : s.vm.findClass RL = some m.cls := hown
  refine lv_aload_n hx hb dL_law_1457 rfl (lv_at hl 3 rfl) ?_
  refine lv_aload_n hx hb dL_law_1458 rfl (lv_at hl 4 rfl) ?_
  refine lv_iload hx hb dL_law_1459 (lv_at hl 0 rfl) ?_
  refine lv_iconst (v := 1) hx hb dL_law_1461 (by decide) ?_
  refine lv_iadd hx hb dL_law_1462 ?_
  refine lv_topi (fun z_1 ez_1 => ?_)
  obtain rfl : z_1 = 1 := ez_1.trans (by decide)
  refine va_sld hx hb hX hbl hbA hS (pk_in 1 7 (by decide) (by decide) (by decide)) dL_law_1463 ?_
  refine lv_topi (fun z_2 ez_2 => ?_)
  replace ez_2 : z_2 = xs 1 := ez_2
  subst z_2
  have hPc := hP.sub (ws' := [(xx, .inr (10, [.ref rr, .ref ta, .ref tb, .ref pa, .ref pb, .ref cn, .ref ci, .int 0, .ref cp, .ref ct, .ref hs, .ref rd, .ref wy, .ref ea, .ref eb])), (ta, .inr (8, [.int 0, .int 0, .int 0, .int 0, .int 0, .ref ta_name, .ref ta_first, .ref ta_gain, .ref ta_rough, .ref ta_custom, .ref ta_part, .ref ta_whole, .ref ta_roundPerson, .ref ta_roundClock, .ref ta_roundHour, .ref ta_gunClock, .ref ta_gunHour, .ref tau])), (rd, .inr (5, [.int 0, .int (-1), .ref rd_slot, .ref rd_hour, .ref rd_low, .ref rd_high, .ref rd_byHour])), (cn, .inr (0, [.ref pa, .int 0, .int 0, .ref cn_last, .ref cn_passed, .ref cn_keptCount, .int 0, .int 0, .int 0, .int 0, .ref cn_off, .ref cn_since, .ref cn_kept, .ref cn_sorted])), (tau, .inr (6, [.int 0, .ref tau_kind, .ref tau_number, .ref tau_from, .ref tau_until, .ref tau_names, .ref tau_stack]))]) [0, 1, 4, 3, 2] rfl
  have hDc := hD.sub (ws' := [(xx, .inr (10, [.ref rr, .ref ta, .ref tb, .ref pa, .ref pb, .ref cn, .ref ci, .int 0, .ref cp, .ref ct, .ref hs, .ref rd, .ref wy, .ref ea, .ref eb])), (ta, .inr (8, [.int 0, .int 0, .int 0, .int 0, .int 0, .ref ta_name, .ref ta_first, .ref ta_gain, .ref ta_rough, .ref ta_custom, .ref ta_part, .ref ta_whole, .ref ta_roundPerson, .ref ta_roundClock, .ref ta_roundHour, .ref ta_gunClock, .ref ta_gunHour, .ref tau])), (rd, .inr (5, [.int 0, .int (-1), .ref rd_slot, .ref rd_hour, .ref rd_low, .ref rd_high, .ref rd_byHour])), (cn, .inr (0, [.ref pa, .int 0, .int 0, .ref cn_last, .ref cn_passed, .ref cn_keptCount, .int 0, .int 0, .int 0, .int 0, .ref cn_off, .ref cn_since, .ref cn_kept, .ref cn_sorted])), (tau, .inr (6, [.int 0, .ref tau_kind, .ref tau_number, .ref tau_from, .ref tau_until, .ref tau_names, .ref tau_stack]))]) [0, 1, 4, 3, 2] (by decide) rfl
  have hKc := hK.sub (tys' := []) [] rfl
  have hFc := va_free (wc := [(xx, .inr (10, [.ref rr, .ref ta, .ref tb, .ref pa, .ref pb, .ref cn, .ref ci, .int 0, .ref cp, .ref ct, .ref hs, .ref rd, .ref wy, .ref ea, .ref eb])), (ta, .inr (8, [.int 0, .int 0, .int 0, .int 0, .int 0, .ref ta_name, .ref ta_first, .ref ta_gain, .ref ta_rough, .ref ta_custom, .ref ta_part, .ref ta_whole, .ref ta_roundPerson, .ref ta_roundClock, .ref ta_roundHour, .ref ta_gunClock, .ref ta_gunHour, .ref tau])), (rd, .inr (5, [.int 0, .int (-1), .ref rd_slot, .ref rd_hour, .ref rd_low, .ref rd_high, .ref rd_byHour])), (cn, .inr (0, [.ref pa, .int 0, .int 0, .ref cn_last, .ref cn_passed, .ref cn_keptCount, .int 0, .int 0, .int 0, .int 0, .ref cn_off, .ref cn_since, .ref cn_kept, .ref cn_sorted])), (tau, .inr (6, [.int 0, .ref tau_kind, .ref tau_number, .ref tau_from, .ref tau_until, .ref tau_names, .ref tau_stack]))]) hD hS hA [0, 1, 4, 3, 2] rfl
  have := (by decide : (0 : Int32).toInt = 0)
  have := (by decide : (0 : Int32).toInt = 0)
  have := (by decide : (0 : Int32).toInt = 0)
  have := (by decide : (0 : Int32).toInt = 0)
  have := (by decide : (0 : Int32).toInt = 0)
  have := (by decide : (0 : Int32).toInt = 0)
  refine va_calli (va_runV (As := [.int (xs 1)]) (rest := []) ⟨hx, hb, hml, hown, hT⟩ (c_X10_count l dC dI H.size xx (xs 1) rr ta tb pa pb cn ci (0 : Int32) cp ct hs rd wy ea eb (0 : Int32) ta_name ta_first ta_gain ta_rough ta_custom ta_part ta_whole ta_roundPerson ta_roundClock ta_roundHour ta_gunClock ta_gunHour tau rd_slot rd_hour rd_low rd_high rd_byHour pa cn_last cn_passed cn_keptCount (0 : Int32) (0 : Int32) (0 : Int32) (0 : Int32) cn_off cn_since cn_kept cn_sorted tau_kind tau_number tau_from tau_until tau_names tau_stack ) (cwV 1 hT (gwV mw_5_155 mw_5_156 mw_5_157 mw_1_1 mw_5_158) rfl rfl rfl (by decide +kernel) ⟨Nat.le_of_ble_eq_true rfl, Nat.le_of_ble_eq_true rfl⟩) ⟨fun a U g mk q => by obtain ⟨q0, q1, qP, qK, qD⟩ := q; exact ⟨q0, q1, qP, va_K.moved (u := U) (U := U.calling g mk a) (Vm.Alike.refl U.vm) qK, qD⟩, va_recv hK hP (ci := 10) (q0 := 0) rfl rfl, fun U hU hW => ⟨rfl, by rw [hU], by rw [hU]; exact hPc, va_K.moved hW.alike hKc, hDc.weaken (fun _ _ _ _ => trivial)⟩⟩ rfl rfl hl.1 rfl (lv_room (Nat.le_of_ble_eq_true rfl)) dL_law_1464 ⟨Nat.le_of_ble_eq_true rfl, Nat.le_of_ble_eq_true rfl⟩) hS (fun q _ h => hFc q h) hFc (fun r_4 u t H1 locs ht hvm hw hB hz1 hk1 hS => ?_)
  obtain ⟨hP1, hD1⟩ := hB
  rw [ht] at hP1
  obtain ⟨hP, hD⟩ := va_join (wr := [(mm, .inr (11, [.int 0, .ref mm_tape, .int 0, .ref mm_number, .ref mm_clockName, .ref mm_clockOff, .ref mm_clockGain, .ref mm_clockRough, .ref mm_personName, .ref mm_personOff, .ref mm_personGain, .ref mm_personRough, .ref mm_custom, .ref mm_customA, .ref mm_customB, .ref mm_ruleFrom, .ref mm_ruleTo, .ref mm_roundOf, .ref mm_roundAt, .ref mm_roundHour, .ref mm_gunAt, .ref mm_gunHour, .ref mm_knotSort, .ref mm_knotValue, .int 0, .int 0, .int 0, .int 0, .int 0, .int 0, .int 0, .int 0, .int 0, .int (-1), .int 0, .int 0, .int 0, .int 0, .int 0, .int 0, .int 0, .int 0, .int 0, .int 0, .int 0, .int 0, .ref mm_start, .ref mm_off, .ref mm_last, .ref mm_passed, .ref mm_kept, .ref mm_keptMany, .int 0, .int 0, .ref mm_history, .ref mm_names, .ref mm_worked, .int 0, .int 0, .int (-1), .ref mm_readThing, .ref mm_readHour, .ref mm_readLow, .ref mm_readHigh, .int 0, .int 0, .int 0, .ref mm_imageOff, .ref mm_imageLast, .ref mm_imagePassed, .ref mm_imageKept, .ref mm_imageMany, .ref mm_imageHistory])), (mm_number, .inl (k_mm_number, 10, .inl (fun _ => 0)))]) (w1 := [(xx, .inr (10, [.ref rr, .ref ta, .ref tb, .ref pa, .ref pb, .ref cn, .ref ci, .int 0, .ref cp, .ref ct, .ref hs, .ref rd, .ref wy, .ref ea, .ref eb])), (ta, .inr (8, [.int 0, .int 0, .int 0, .int 0, .int 0, .ref ta_name, .ref ta_first, .ref ta_gain, .ref ta_rough, .ref ta_custom, .ref ta_part, .ref ta_whole, .ref ta_roundPerson, .ref ta_roundClock, .ref ta_roundHour, .ref ta_gunClock, .ref ta_gunHour, .ref tau])), (rd, .inr (5, [.int 0, .int (-1), .ref rd_slot, .ref rd_hour, .ref rd_low, .ref rd_high, .ref rd_byHour])), (cn, .inr (0, [.ref pa, .int 0, .int 0, .ref cn_last, .ref cn_passed, .ref cn_keptCount, .int 0, .int 0, .int 0, .int 0, .ref cn_off, .ref cn_since, .ref cn_kept, .ref cn_sorted])), (tau, .inr (6, [.int 0, .ref tau_kind, .ref tau_number, .ref tau_from, .ref tau_until, .ref tau_names, .ref tau_stack]))]) hP hD [0, 1, 4, 3, 2] [5, 6] rfl rfl (by decide) (by decide) hk1 hFc hP1 hD1
  generalize H1 = H at hP hS ⊢
  have hP : va_P (dC, dI) vwCl [(mm, .inr (11, [.int 0, .ref mm_tape, .int 0, .ref mm_number, .ref mm_clockName, .ref mm_clockOff, .ref mm_clockGain, .ref mm_clockRough, .ref mm_personName, .ref mm_personOff, .ref mm_personGain, .ref mm_personRough, .ref mm_custom, .ref mm_customA, .ref mm_customB, .ref mm_ruleFrom, .ref mm_ruleTo, .ref mm_roundOf, .ref mm_roundAt, .ref mm_roundHour, .ref mm_gunAt, .ref mm_gunHour, .ref mm_knotSort, .ref mm_knotValue, .int 0, .int 0, .int 0, .int 0, .int 0, .int 0, .int 0, .int 0, .int 0, .int (-1), .int 0, .int 0, .int 0, .int 0, .int 0, .int 0, .int 0, .int 0, .int 0, .int 0, .int 0, .int 0, .ref mm_start, .ref mm_off, .ref mm_last, .ref mm_passed, .ref mm_kept, .ref mm_keptMany, .int 0, .int 0, .ref mm_history, .ref mm_names, .ref mm_worked, .int 0, .int 0, .int (-1), .ref mm_readThing, .ref mm_readHour, .ref mm_readLow, .ref mm_readHigh, .int 0, .int 0, .int 0, .ref mm_imageOff, .ref mm_imageLast, .ref mm_imagePassed, .ref mm_imageKept, .ref mm_imageMany, .ref mm_imageHistory])), (mm_number, .inl (k_mm_number, 10, .inl (fun _ => 0))), (xx, .inr (10, [.ref rr, .ref ta, .ref tb, .ref pa, .ref pb, .ref cn, .ref ci, .int 0, .ref cp, .ref ct, .ref hs, .ref rd, .ref wy, .ref ea, .ref eb])), (ta, .inr (8, [.int 0, .int 0, .int 0, .int 0, .int 0, .ref ta_name, .ref ta_first, .ref ta_gain, .ref ta_rough, .ref ta_custom, .ref ta_part, .ref ta_whole, .ref ta_roundPerson, .ref ta_roundClock, .ref ta_roundHour, .ref ta_gunClock, .ref ta_gunHour, .ref tau])), (rd, .inr (5, [.int 0, .int (-1), .ref rd_slot, .ref rd_hour, .ref rd_low, .ref rd_high, .ref rd_byHour])), (cn, .inr (0, [.ref pa, .int 0, .int 0, .ref cn_last, .ref cn_passed, .ref cn_keptCount, .int 0, .int 0, .int 0, .int 0, .ref cn_off, .ref cn_since, .ref cn_kept, .ref cn_sorted])), (tau, .inr (6, [.int 0, .ref tau_kind, .ref tau_number, .ref tau_from, .ref tau_until, .ref tau_names, .ref tau_stack]))] H := hP
  have hD : va_D A [(mm, .inr (11, [.int 0, .ref mm_tape, .int 0, .ref mm_number, .ref mm_clockName, .ref mm_clockOff, .ref mm_clockGain, .ref mm_clockRough, .ref mm_personName, .ref mm_personOff, .ref mm_personGain, .ref mm_personRough, .ref mm_custom, .ref mm_customA, .ref mm_customB, .ref mm_ruleFrom, .ref mm_ruleTo, .ref mm_roundOf, .ref mm_roundAt, .ref mm_roundHour, .ref mm_gunAt, .ref mm_gunHour, .ref mm_knotSort, .ref mm_knotValue, .int 0, .int 0, .int 0, .int 0, .int 0, .int 0, .int 0, .int 0, .int 0, .int (-1), .int 0, .int 0, .int 0, .int 0, .int 0, .int 0, .int 0, .int 0, .int 0, .int 0, .int 0, .int 0, .ref mm_start, .ref mm_off, .ref mm_last, .ref mm_passed, .ref mm_kept, .ref mm_keptMany, .int 0, .int 0, .ref mm_history, .ref mm_names, .ref mm_worked, .int 0, .int 0, .int (-1), .ref mm_readThing, .ref mm_readHour, .ref mm_readLow, .ref mm_readHigh, .int 0, .int 0, .int 0, .ref mm_imageOff, .ref mm_imageLast, .ref mm_imagePassed, .ref mm_imageKept, .ref mm_imageMany, .ref mm_imageHistory])), (mm_number, .inl (k_mm_number, 10, .inl (fun _ => 0))), (xx, .inr (10, [.ref rr, .ref ta, .ref tb, .ref pa, .ref pb, .ref cn, .ref ci, .int 0, .ref cp, .ref ct, .ref hs, .ref rd, .ref wy, .ref ea, .ref eb])), (ta, .inr (8, [.int 0, .int 0, .int 0, .int 0, .int 0, .ref ta_name, .ref ta_first, .ref ta_gain, .ref ta_rough, .ref ta_custom, .ref ta_part, .ref ta_whole, .ref ta_roundPerson, .ref ta_roundClock, .ref ta_roundHour, .ref ta_gunClock, .ref ta_gunHour, .ref tau])), (rd, .inr (5, [.int 0, .int (-1), .ref rd_slot, .ref rd_hour, .ref rd_low, .ref rd_high, .ref rd_byHour])), (cn, .inr (0, [.ref pa, .int 0, .int 0, .ref cn_last, .ref cn_passed, .ref cn_keptCount, .int 0, .int 0, .int 0, .int 0, .ref cn_off, .ref cn_since, .ref cn_kept, .ref cn_sorted])), (tau, .inr (6, [.int 0, .ref tau_kind, .ref tau_number, .ref tau_from, .ref tau_until, .ref tau_names, .ref tau_stack]))] := hD
  clear hPc hDc hKc hFc hP1 hD1 hk1 hz1 ht hvm
  have hw : (r_4 = 0 ∧ (0 ≤ (xs 1).toInt ∧ (xs 1).toInt ≤ 8)) ∨ (r_4 = -1 ∧ ((xs 1).toInt < 0 ∨ 8 < (xs 1).toInt)) := hw
  rcases hw with ⟨hrr_4, hfr_4⟩ | ⟨hrr_4, hfr_4⟩
  · subst r_4
    refine lv_aload_n hx hb dL_law_1467 rfl (lv_at hl 2 rfl) ?_
    refine lv_aload_n hx hb dL_law_1468 rfl (lv_at hl 4 rfl) ?_
    refine lv_iload hx hb dL_law_1469 (lv_at hl 0 rfl) ?_
    refine lv_iconst (v := 1) hx hb dL_law_1471 (by decide) ?_
    refine lv_iadd hx hb dL_law_1472 ?_
    refine lv_topi (fun z_5 ez_5 => ?_)
    obtain rfl : z_5 = 1 := ez_5.trans (by decide)
    refine va_sld hx hb hX hbl hbA hS (pk_in 1 7 (by decide) (by decide) (by decide)) dL_law_1473 ?_
    refine lv_topi (fun z_6 ez_6 => ?_)
    replace ez_6 : z_6 = xs 1 := ez_6
    subst z_6
    have hPc := hP.sub (ws' := [(mm, .inr (11, [.int 0, .ref mm_tape, .int 0, .ref mm_number, .ref mm_clockName, .ref mm_clockOff, .ref mm_clockGain, .ref mm_clockRough, .ref mm_personName, .ref mm_personOff, .ref mm_personGain, .ref mm_personRough, .ref mm_custom, .ref mm_customA, .ref mm_customB, .ref mm_ruleFrom, .ref mm_ruleTo, .ref mm_roundOf, .ref mm_roundAt, .ref mm_roundHour, .ref mm_gunAt, .ref mm_gunHour, .ref mm_knotSort, .ref mm_knotValue, .int 0, .int 0, .int 0, .int 0, .int 0, .int 0, .int 0, .int 0, .int 0, .int (-1), .int 0, .int 0, .int 0, .int 0, .int 0, .int 0, .int 0, .int 0, .int 0, .int 0, .int 0, .int 0, .ref mm_start, .ref mm_off, .ref mm_last, .ref mm_passed, .ref mm_kept, .ref mm_keptMany, .int 0, .int 0, .ref mm_history, .ref mm_names, .ref mm_worked, .int 0, .int 0, .int (-1), .ref mm_readThing, .ref mm_readHour, .ref mm_readLow, .ref mm_readHigh, .int 0, .int 0, .int 0, .ref mm_imageOff, .ref mm_imageLast, .ref mm_imagePassed, .ref mm_imageKept, .ref mm_imageMany, .ref mm_imageHistory])), (mm_number, .inl (k_mm_number, 10, .inl (fun _ => 0)))]) [0, 1] rfl
    have hDc := hD.sub (ws' := [(mm, .inr (11, [.int 0, .ref mm_tape, .int 0, .ref mm_number, .ref mm_clockName, .ref mm_clockOff, .ref mm_clockGain, .ref mm_clockRough, .ref mm_personName, .ref mm_personOff, .ref mm_personGain, .ref mm_personRough, .ref mm_custom, .ref mm_customA, .ref mm_customB, .ref mm_ruleFrom, .ref mm_ruleTo, .ref mm_roundOf, .ref mm_roundAt, .ref mm_roundHour, .ref mm_gunAt, .ref mm_gunHour, .ref mm_knotSort, .ref mm_knotValue, .int 0, .int 0, .int 0, .int 0, .int 0, .int 0, .int 0, .int 0, .int 0, .int (-1), .int 0, .int 0, .int 0, .int 0, .int 0, .int 0, .int 0, .int 0, .int 0, .int 0, .int 0, .int 0, .ref mm_start, .ref mm_off, .ref mm_last, .ref mm_passed, .ref mm_kept, .ref mm_keptMany, .int 0, .int 0, .ref mm_history, .ref mm_names, .ref mm_worked, .int 0, .int 0, .int (-1), .ref mm_readThing, .ref mm_readHour, .ref mm_readLow, .ref mm_readHigh, .int 0, .int 0, .int 0, .ref mm_imageOff, .ref mm_imageLast, .ref mm_imagePassed, .ref mm_imageKept, .ref mm_imageMany, .ref mm_imageHistory])), (mm_number, .inl (k_mm_number, 10, .inl (fun _ => 0)))]) [0, 1] (by decide) rfl
    have hKc := hK.sub (tys' := [(k_mm_number, .int)]) [0] rfl
    have hFc := va_free (wc := [(mm, .inr (11, [.int 0, .ref mm_tape, .int 0, .ref mm_number, .ref mm_clockName, .ref mm_clockOff, .ref mm_clockGain, .ref mm_clockRough, .ref mm_personName, .ref mm_personOff, .ref mm_personGain, .ref mm_personRough, .ref mm_custom, .ref mm_customA, .ref mm_customB, .ref mm_ruleFrom, .ref mm_ruleTo, .ref mm_roundOf, .ref mm_roundAt, .ref mm_roundHour, .ref mm_gunAt, .ref mm_gunHour, .ref mm_knotSort, .ref mm_knotValue, .int 0, .int 0, .int 0, .int 0, .int 0, .int 0, .int 0, .int 0, .int 0, .int (-1), .int 0, .int 0, .int 0, .int 0, .int 0, .int 0, .int 0, .int 0, .int 0, .int 0, .int 0, .int 0, .ref mm_start, .ref mm_off, .ref mm_last, .ref mm_passed, .ref mm_kept, .ref mm_keptMany, .int 0, .int 0, .ref mm_history, .ref mm_names, .ref mm_worked, .int 0, .int 0, .int (-1), .ref mm_readThing, .ref mm_readHour, .ref mm_readLow, .ref mm_readHigh, .int 0, .int 0, .int 0, .ref mm_imageOff, .ref mm_imageLast, .ref mm_imagePassed, .ref mm_imageKept, .ref mm_imageMany, .ref mm_imageHistory])), (mm_number, .inl (k_mm_number, 10, .inl (fun _ => 0)))]) hD hS hA [0, 1] rfl
    have := (by decide : (0 : Int32).toInt = 0)
    have := (by decide : (0 : Int32).toInt = 0)
    have := (by decide : (0 : Int32).toInt = 0)
    have := (by decide : (0 : Int32).toInt = 0)
    have := (by decide : (0 : Int32).toInt = 0)
    have := (by decide : (0 : Int32).toInt = 0)
    have := (by decide : (0 : Int32).toInt = 0)
    have := (by decide : (0 : Int32).toInt = 0)
    have := (by decide : (0 : Int32).toInt = 0)
    have := (by decide : (0 : Int32).toInt = 0)
    have := (by decide : (0 : Int32).toInt = 0)
    have := (by decide : ((-1) : Int32).toInt = -1)
    have := (by decide : (0 : Int32).toInt = 0)
    have := (by decide : (0 : Int32).toInt = 0)
    have := (by decide : (0 : Int32).toInt = 0)
    have := (by decide : (0 : Int32).toInt = 0)
    have := (by decide : (0 : Int32).toInt = 0)
    have := (by decide : (0 : Int32).toInt = 0)
    have := (by decide : (0 : Int32).toInt = 0)
    have := (by decide : (0 : Int32).toInt = 0)
    have := (by decide : (0 : Int32).toInt = 0)
    have := (by decide : (0 : Int32).toInt = 0)
    have := (by decide : (0 : Int32).toInt = 0)
    have := (by decide : (0 : Int32).toInt = 0)
    have := (by decide : (0 : Int32).toInt = 0)
    have := (by decide : (0 : Int32).toInt = 0)
    have := (by decide : (0 : Int32).toInt = 0)
    have := (by decide : (0 : Int32).toInt = 0)
    refine va_calli (va_runV (As := [.int (xs 1)]) (rest := [.int 0]) ⟨hx, hb, hml, hown, hT⟩ (c_X11_count l dC dI H.size mm (xs 1) (0 : Int32) mm_tape (0 : Int32) mm_number mm_clockName mm_clockOff mm_clockGain mm_clockRough mm_personName mm_personOff mm_personGain mm_personRough mm_custom mm_customA mm_customB mm_ruleFrom mm_ruleTo mm_roundOf mm_roundAt mm_roundHour mm_gunAt mm_gunHour mm_knotSort mm_knotValue (0 : Int32) (0 : Int32) (0 : Int32) (0 : Int32) (0 : Int32) (0 : Int32) (0 : Int32) (0 : Int32) (0 : Int32) ((-1) : Int32) (0 : Int32) (0 : Int32) (0 : Int32) (0 : Int32) (0 : Int32) (0 : Int32) (0 : Int32) (0 : Int32) (0 : Int32) (0 : Int32) (0 : Int32) (0 : Int32) mm_start mm_off mm_last mm_passed mm_kept mm_keptMany mm_history mm_names mm_worked (0 : Int32) mm_readThing mm_readHour mm_readLow mm_readHigh (0 : Int32) (0 : Int32) (0 : Int32) mm_imageOff mm_imageLast mm_imagePassed mm_imageKept mm_imageMany mm_imageHistory k_mm_number (fun _ => 0) (fun _ => rfl)) (cwV 1 hT (gwV mw_8_177 mw_8_178 mw_8_179 mw_1_16 mw_8_180) rfl rfl rfl (by decide +kernel) ⟨Nat.le_of_ble_eq_true rfl, Nat.le_of_ble_eq_true rfl⟩) ⟨fun a U g mk q => by obtain ⟨q0, q1, qP, qK, qD⟩ := q; exact ⟨q0, q1, qP, va_K.moved (u := U) (U := U.calling g mk a) (Vm.Alike.refl U.vm) qK, qD⟩, va_recv hK hP (ci := 11) (q0 := 0) rfl rfl, fun U hU hW => ⟨rfl, by rw [hU], by rw [hU]; exact hPc, va_K.moved hW.alike hKc, hDc.weaken (fun _ _ _ _ => trivial)⟩⟩ rfl rfl hl.1 rfl (lv_room (Nat.le_of_ble_eq_true rfl)) dL_law_1474 ⟨Nat.le_of_ble_eq_true rfl, Nat.le_of_ble_eq_true rfl⟩) hS (fun q _ h => hFc q h) hFc (fun r_8 u t H1 locs ht hvm hw hB hz1 hk1 hS => ?_)
    obtain ⟨hP1, hD1⟩ := hB
    rw [ht] at hP1
    obtain ⟨hP, hD⟩ := va_join (wr := [(xx, .inr (10, [.ref rr, .ref ta, .ref tb, .ref pa, .ref pb, .ref cn, .ref ci, .int 0, .ref cp, .ref ct, .ref hs, .ref rd, .ref wy, .ref ea, .ref eb])), (ta, .inr (8, [.int 0, .int 0, .int 0, .int 0, .int 0, .ref ta_name, .ref ta_first, .ref ta_gain, .ref ta_rough, .ref ta_custom, .ref ta_part, .ref ta_whole, .ref ta_roundPerson, .ref ta_roundClock, .ref ta_roundHour, .ref ta_gunClock, .ref ta_gunHour, .ref tau])), (rd, .inr (5, [.int 0, .int (-1), .ref rd_slot, .ref rd_hour, .ref rd_low, .ref rd_high, .ref rd_byHour])), (cn, .inr (0, [.ref pa, .int 0, .int 0, .ref cn_last, .ref cn_passed, .ref cn_keptCount, .int 0, .int 0, .int 0, .int 0, .ref cn_off, .ref cn_since, .ref cn_kept, .ref cn_sorted])), (tau, .inr (6, [.int 0, .ref tau_kind, .ref tau_number, .ref tau_from, .ref tau_until, .ref tau_names, .ref tau_stack]))]) (w1 := []) hP hD [0, 1] [2, 3, 4, 5, 6] rfl rfl (by decide) (by decide) hk1 hFc hP1 hD1
    generalize H1 = H at hP hS ⊢
    have hP : va_P (dC, dI) vwCl [(xx, .inr (10, [.ref rr, .ref ta, .ref tb, .ref pa, .ref pb, .ref cn, .ref ci, .int 0, .ref cp, .ref ct, .ref hs, .ref rd, .ref wy, .ref ea, .ref eb])), (ta, .inr (8, [.int 0, .int 0, .int 0, .int 0, .int 0, .ref ta_name, .ref ta_first, .ref ta_gain, .ref ta_rough, .ref ta_custom, .ref ta_part, .ref ta_whole, .ref ta_roundPerson, .ref ta_roundClock, .ref ta_roundHour, .ref ta_gunClock, .ref ta_gunHour, .ref tau])), (rd, .inr (5, [.int 0, .int (-1), .ref rd_slot, .ref rd_hour, .ref rd_low, .ref rd_high, .ref rd_byHour])), (cn, .inr (0, [.ref pa, .int 0, .int 0, .ref cn_last, .ref cn_passed, .ref cn_keptCount, .int 0, .int 0, .int 0, .int 0, .ref cn_off, .ref cn_since, .ref cn_kept, .ref cn_sorted])), (tau, .inr (6, [.int 0, .ref tau_kind, .ref tau_number, .ref tau_from, .ref tau_until, .ref tau_names, .ref tau_stack]))] H := hP
    have hD : va_D A [(xx, .inr (10, [.ref rr, .ref ta, .ref tb, .ref pa, .ref pb, .ref cn, .ref ci, .int 0, .ref cp, .ref ct, .ref hs, .ref rd, .ref wy, .ref ea, .ref eb])), (ta, .inr (8, [.int 0, .int 0, .int 0, .int 0, .int 0, .ref ta_name, .ref ta_first, .ref ta_gain, .ref ta_rough, .ref ta_custom, .ref ta_part, .ref ta_whole, .ref ta_roundPerson, .ref ta_roundClock, .ref ta_roundHour, .ref ta_gunClock, .ref ta_gunHour, .ref tau])), (rd, .inr (5, [.int 0, .int (-1), .ref rd_slot, .ref rd_hour, .ref rd_low, .ref rd_high, .ref rd_byHour])), (cn, .inr (0, [.ref pa, .int 0, .int 0, .ref cn_last, .ref cn_passed, .ref cn_keptCount, .int 0, .int 0, .int 0, .int 0, .ref cn_off, .ref cn_since, .ref cn_kept, .ref cn_sorted])), (tau, .inr (6, [.int 0, .ref tau_kind, .ref tau_number, .ref tau_from, .ref tau_until, .ref tau_names, .ref tau_stack]))] := hD
    clear hPc hDc hKc hFc hP1 hD1 hk1 hz1 ht hvm
    have hw : (r_8 = 0 ∧ (0 ≤ (xs 1).toInt ∧ (xs 1).toInt ≤ 8)) ∨ (r_8 = -1 ∧ ((xs 1).toInt < 0 ∨ 8 < (xs 1).toInt)) := hw
    rcases hw with ⟨hrr_8, hfr_8⟩ | ⟨hrr_8, hfr_8⟩
    · subst r_8
      refine lv_icmp_eq (tgt := 1482) hx hb dL_law_1477 (by decide) (fun c_9 => ?_) (fun c_9 => absurd c_9 (by decide))
      refine lv_iinc (v := 7) (lv' := [(4, .int 7), (3, .ref oo), (2, .ref mm), (1, .ref xx), (0, .ref b)]) hx hb dL_law_1482 hl (k := 0) rfl (by decide) (by decide) rfl (fun ls hl => ?_)
      refine lv_goto (tgt := 23) hx hb dL_law_1485 (by decide) ?_
      refine lv_iload hx hb dL_law_23 (lv_at hl 0 rfl) ?_
      refine lv_aload_n hx hb dL_law_25 rfl (lv_at hl 4 rfl) ?_
      refine va_slen hx hb hX hbl hbA hS dL_law_26 ?_
      refine lv_topi (fun z_10 ez_10 => ?_)
      obtain rfl : z_10 = 7 := ez_10.trans (by decide)
      refine lv_bipush (v := 7) hx hb dL_law_27 (by decide) ?_
      refine lv_isub hx hb dL_law_29 ?_
      refine lv_topi (fun z_11 ez_11 => ?_)
      obtain rfl : z_11 = 0 := ez_11.trans (by decide)
      refine lv_icmp_gt (tgt := 1488) hx hb dL_law_30 (by decide) (fun c_12 => ?_) (fun c_12 => absurd c_12 (by decide))
      refine lv_iconst (v := 1) hx hb dL_law_1488 (by decide) ?_
      refine va_forget (fun q hq => hAo _ (hS.2.2 q hq)) ?_
      refine W.widen (k := 600002) (n := 7302232) (Nat.le_of_ble_eq_true rfl) (Nat.le_of_ble_eq_true rfl) ?_
      exact lw_ret hx hb hr hlocks dL_law_1489
    · subst r_8
      exact False.elim (by omega)
  · subst r_4
    refine lv_aload_n hx hb dL_law_1467 rfl (lv_at hl 2 rfl) ?_
    refine lv_aload_n hx hb dL_law_1468 rfl (lv_at hl 4 rfl) ?_
    refine lv_iload hx hb dL_law_1469 (lv_at hl 0 rfl) ?_
    refine lv_iconst (v := 1) hx hb dL_law_1471 (by decide) ?_
    refine lv_iadd hx hb dL_law_1472 ?_
    refine lv_topi (fun z_13 ez_13 => ?_)
    obtain rfl : z_13 = 1 := ez_13.trans (by decide)
    refine va_sld hx hb hX hbl hbA hS (pk_in 1 7 (by decide) (by decide) (by decide)) dL_law_1473 ?_
    refine lv_topi (fun z_14 ez_14 => ?_)
    replace ez_14 : z_14 = xs 1 := ez_14
    subst z_14
    have hPc := hP.sub (ws' := [(mm, .inr (11, [.int 0, .ref mm_tape, .int 0, .ref mm_number, .ref mm_clockName, .ref mm_clockOff, .ref mm_clockGain, .ref mm_clockRough, .ref mm_personName, .ref mm_personOff, .ref mm_personGain, .ref mm_personRough, .ref mm_custom, .ref mm_customA, .ref mm_customB, .ref mm_ruleFrom, .ref mm_ruleTo, .ref mm_roundOf, .ref mm_roundAt, .ref mm_roundHour, .ref mm_gunAt, .ref mm_gunHour, .ref mm_knotSort, .ref mm_knotValue, .int 0, .int 0, .int 0, .int 0, .int 0, .int 0, .int 0, .int 0, .int 0, .int (-1), .int 0, .int 0, .int 0, .int 0, .int 0, .int 0, .int 0, .int 0, .int 0, .int 0, .int 0, .int 0, .ref mm_start, .ref mm_off, .ref mm_last, .ref mm_passed, .ref mm_kept, .ref mm_keptMany, .int 0, .int 0, .ref mm_history, .ref mm_names, .ref mm_worked, .int 0, .int 0, .int (-1), .ref mm_readThing, .ref mm_readHour, .ref mm_readLow, .ref mm_readHigh, .int 0, .int 0, .int 0, .ref mm_imageOff, .ref mm_imageLast, .ref mm_imagePassed, .ref mm_imageKept, .ref mm_imageMany, .ref mm_imageHistory])), (mm_number, .inl (k_mm_number, 10, .inl (fun _ => 0)))]) [0, 1] rfl
    have hDc := hD.sub (ws' := [(mm, .inr (11, [.int 0, .ref mm_tape, .int 0, .ref mm_number, .ref mm_clockName, .ref mm_clockOff, .ref mm_clockGain, .ref mm_clockRough, .ref mm_personName, .ref mm_personOff, .ref mm_personGain, .ref mm_personRough, .ref mm_custom, .ref mm_customA, .ref mm_customB, .ref mm_ruleFrom, .ref mm_ruleTo, .ref mm_roundOf, .ref mm_roundAt, .ref mm_roundHour, .ref mm_gunAt, .ref mm_gunHour, .ref mm_knotSort, .ref mm_knotValue, .int 0, .int 0, .int 0, .int 0, .int 0, .int 0, .int 0, .int 0, .int 0, .int (-1), .int 0, .int 0, .int 0, .int 0, .int 0, .int 0, .int 0, .int 0, .int 0, .int 0, .int 0, .int 0, .ref mm_start, .ref mm_off, .ref mm_last, .ref mm_passed, .ref mm_kept, .ref mm_keptMany, .int 0, .int 0, .ref mm_history, .ref mm_names, .ref mm_worked, .int 0, .int 0, .int (-1), .ref mm_readThing, .ref mm_readHour, .ref mm_readLow, .ref mm_readHigh, .int 0, .int 0, .int 0, .ref mm_imageOff, .ref mm_imageLast, .ref mm_imagePassed, .ref mm_imageKept, .ref mm_imageMany, .ref mm_imageHistory])), (mm_number, .inl (k_mm_number, 10, .inl (fun _ => 0)))]) [0, 1] (by decide) rfl
    have hKc := hK.sub (tys' := [(k_mm_number, .int)]) [0] rfl
    have hFc := va_free (wc := [(mm, .inr (11, [.int 0, .ref mm_tape, .int 0, .ref mm_number, .ref mm_clockName, .ref mm_clockOff, .ref mm_clockGain, .ref mm_clockRough, .ref mm_personName, .ref mm_personOff, .ref mm_personGain, .ref mm_personRough, .ref mm_custom, .ref mm_customA, .ref mm_customB, .ref mm_ruleFrom, .ref mm_ruleTo, .ref mm_roundOf, .ref mm_roundAt, .ref mm_roundHour, .ref mm_gunAt, .ref mm_gunHour, .ref mm_knotSort, .ref mm_knotValue, .int 0, .int 0, .int 0, .int 0, .int 0, .int 0, .int 0, .int 0, .int 0, .int (-1), .int 0, .int 0, .int 0, .int 0, .int 0, .int 0, .int 0, .int 0, .int 0, .int 0, .int 0, .int 0, .ref mm_start, .ref mm_off, .ref mm_last, .ref mm_passed, .ref mm_kept, .ref mm_keptMany, .int 0, .int 0, .ref mm_history, .ref mm_names, .ref mm_worked, .int 0, .int 0, .int (-1), .ref mm_readThing, .ref mm_readHour, .ref mm_readLow, .ref mm_readHigh, .int 0, .int 0, .int 0, .ref mm_imageOff, .ref mm_imageLast, .ref mm_imagePassed, .ref mm_imageKept, .ref mm_imageMany, .ref mm_imageHistory])), (mm_number, .inl (k_mm_number, 10, .inl (fun _ => 0)))]) hD hS hA [0, 1] rfl
    have := (by decide : (0 : Int32).toInt = 0)
    have := (by decide : (0 : Int32).toInt = 0)
    have := (by decide : (0 : Int32).toInt = 0)
    have := (by decide : (0 : Int32).toInt = 0)
    have := (by decide : (0 : Int32).toInt = 0)
    have := (by decide : (0 : Int32).toInt = 0)
    have := (by decide : (0 : Int32).toInt = 0)
    have := (by decide : (0 : Int32).toInt = 0)
    have := (by decide : (0 : Int32).toInt = 0)
    have := (by decide : (0 : Int32).toInt = 0)
    have := (by decide : (0 : Int32).toInt = 0)
    have := (by decide : ((-1) : Int32).toInt = -1)
    have := (by decide : (0 : Int32).toInt = 0)
    have := (by decide : (0 : Int32).toInt = 0)
    have := (by decide : (0 : Int32).toInt = 0)
    have := (by decide : (0 : Int32).toInt = 0)
    have := (by decide : (0 : Int32).toInt = 0)
    have := (by decide : (0 : Int32).toInt = 0)
    have := (by decide : (0 : Int32).toInt = 0)
    have := (by decide : (0 : Int32).toInt = 0)
    have := (by decide : (0 : Int32).toInt = 0)
    have := (by decide : (0 : Int32).toInt = 0)
    have := (by decide : (0 : Int32).toInt = 0)
    have := (by decide : (0 : Int32).toInt = 0)
    have := (by decide : (0 : Int32).toInt = 0)
    have := (by decide : (0 : Int32).toInt = 0)
    have := (by decide : (0 : Int32).toInt = 0)
    have := (by decide : (0 : Int32).toInt = 0)
    refine va_calli (va_runV (As := [.int (xs 1)]) (rest := [.int (-1)]) ⟨hx, hb, hml, hown, hT⟩ (c_X11_count l dC dI H.size mm (xs 1) (0 : Int32) mm_tape (0 : Int32) mm_number mm_clockName mm_clockOff mm_clockGain mm_clockRough mm_personName mm_personOff mm_personGain mm_personRough mm_custom mm_customA mm_customB mm_ruleFrom mm_ruleTo mm_roundOf mm_roundAt mm_roundHour mm_gunAt mm_gunHour mm_knotSort mm_knotValue (0 : Int32) (0 : Int32) (0 : Int32) (0 : Int32) (0 : Int32) (0 : Int32) (0 : Int32) (0 : Int32) (0 : Int32) ((-1) : Int32) (0 : Int32) (0 : Int32) (0 : Int32) (0 : Int32) (0 : Int32) (0 : Int32) (0 : Int32) (0 : Int32) (0 : Int32) (0 : Int32) (0 : Int32) (0 : Int32) mm_start mm_off mm_last mm_passed mm_kept mm_keptMany mm_history mm_names mm_worked (0 : Int32) mm_readThing mm_readHour mm_readLow mm_readHigh (0 : Int32) (0 : Int32) (0 : Int32) mm_imageOff mm_imageLast mm_imagePassed mm_imageKept mm_imageMany mm_imageHistory k_mm_number (fun _ => 0) (fun _ => rfl)) (cwV 1 hT (gwV mw_8_177 mw_8_178 mw_8_179 mw_1_16 mw_8_180) rfl rfl rfl (by decide +kernel) ⟨Nat.le_of_ble_eq_true rfl, Nat.le_of_ble_eq_true rfl⟩) ⟨fun a U g mk q => by obtain ⟨q0, q1, qP, qK, qD⟩ := q; exact ⟨q0, q1, qP, va_K.moved (u := U) (U := U.calling g mk a) (Vm.Alike.refl U.vm) qK, qD⟩, va_recv hK hP (ci := 11) (q0 := 0) rfl rfl, fun U hU hW => ⟨rfl, by rw [hU], by rw [hU]; exact hPc, va_K.moved hW.alike hKc, hDc.weaken (fun _ _ _ _ => trivial)⟩⟩ rfl rfl hl.1 rfl (lv_room (Nat.le_of_ble_eq_true rfl)) dL_law_1474 ⟨Nat.le_of_ble_eq_true rfl, Nat.le_of_ble_eq_true rfl⟩) hS (fun q _ h => hFc q h) hFc (fun r_16 u t H1 locs ht hvm hw hB hz1 hk1 hS => ?_)
    obtain ⟨hP1, hD1⟩ := hB
    rw [ht] at hP1
    obtain ⟨hP, hD⟩ := va_join (wr := [(xx, .inr (10, [.ref rr, .ref ta, .ref tb, .ref pa, .ref pb, .ref cn, .ref ci, .int 0, .ref cp, .ref ct, .ref hs, .ref rd, .ref wy, .ref ea, .ref eb])), (ta, .inr (8, [.int 0, .int 0, .int 0, .int 0, .int 0, .ref ta_name, .ref ta_first, .ref ta_gain, .ref ta_rough, .ref ta_custom, .ref ta_part, .ref ta_whole, .ref ta_roundPerson, .ref ta_roundClock, .ref ta_roundHour, .ref ta_gunClock, .ref ta_gunHour, .ref tau])), (rd, .inr (5, [.int 0, .int (-1), .ref rd_slot, .ref rd_hour, .ref rd_low, .ref rd_high, .ref rd_byHour])), (cn, .inr (0, [.ref pa, .int 0, .int 0, .ref cn_last, .ref cn_passed, .ref cn_keptCount, .int 0, .int 0, .int 0, .int 0, .ref cn_off, .ref cn_since, .ref cn_kept, .ref cn_sorted])), (tau, .inr (6, [.int 0, .ref tau_kind, .ref tau_number, .ref tau_from, .ref tau_until, .ref tau_names, .ref tau_stack]))]) (w1 := []) hP hD [0, 1] [2, 3, 4, 5, 6] rfl rfl (by decide) (by decide) hk1 hFc hP1 hD1
    generalize H1 = H at hP hS ⊢
    have hP : va_P (dC, dI) vwCl [(xx, .inr (10, [.ref rr, .ref ta, .ref tb, .ref pa, .ref pb, .ref cn, .ref ci, .int 0, .ref cp, .ref ct, .ref hs, .ref rd, .ref wy, .ref ea, .ref eb])), (ta, .inr (8, [.int 0, .int 0, .int 0, .int 0, .int 0, .ref ta_name, .ref ta_first, .ref ta_gain, .ref ta_rough, .ref ta_custom, .ref ta_part, .ref ta_whole, .ref ta_roundPerson, .ref ta_roundClock, .ref ta_roundHour, .ref ta_gunClock, .ref ta_gunHour, .ref tau])), (rd, .inr (5, [.int 0, .int (-1), .ref rd_slot, .ref rd_hour, .ref rd_low, .ref rd_high, .ref rd_byHour])), (cn, .inr (0, [.ref pa, .int 0, .int 0, .ref cn_last, .ref cn_passed, .ref cn_keptCount, .int 0, .int 0, .int 0, .int 0, .ref cn_off, .ref cn_since, .ref cn_kept, .ref cn_sorted])), (tau, .inr (6, [.int 0, .ref tau_kind, .ref tau_number, .ref tau_from, .ref tau_until, .ref tau_names, .ref tau_stack]))] H := hP
    have hD : va_D A [(xx, .inr (10, [.ref rr, .ref ta, .ref tb, .ref pa, .ref pb, .ref cn, .ref ci, .int 0, .ref cp, .ref ct, .ref hs, .ref rd, .ref wy, .ref ea, .ref eb])), (ta, .inr (8, [.int 0, .int 0, .int 0, .int 0, .int 0, .ref ta_name, .ref ta_first, .ref ta_gain, .ref ta_rough, .ref ta_custom, .ref ta_part, .ref ta_whole, .ref ta_roundPerson, .ref ta_roundClock, .ref ta_roundHour, .ref ta_gunClock, .ref ta_gunHour, .ref tau])), (rd, .inr (5, [.int 0, .int (-1), .ref rd_slot, .ref rd_hour, .ref rd_low, .ref rd_high, .ref rd_byHour])), (cn, .inr (0, [.ref pa, .int 0, .int 0, .ref cn_last, .ref cn_passed, .ref cn_keptCount, .int 0, .int 0, .int 0, .int 0, .ref cn_off, .ref cn_since, .ref cn_kept, .ref cn_sorted])), (tau, .inr (6, [.int 0, .ref tau_kind, .ref tau_number, .ref tau_from, .ref tau_until, .ref tau_names, .ref tau_stack]))] := hD
    clear hPc hDc hKc hFc hP1 hD1 hk1 hz1 ht hvm
    have hw : (r_16 = 0 ∧ (0 ≤ (xs 1).toInt ∧ (xs 1).toInt ≤ 8)) ∨ (r_16 = -1 ∧ ((xs 1).toInt < 0 ∨ 8 < (xs 1).toInt)) := hw
    rcases hw with ⟨hrr_16, hfr_16⟩ | ⟨hrr_16, hfr_16⟩
    · subst r_16
      exact False.elim (by omega)
    · subst r_16
      refine lv_icmp_eq (tgt := 1482) hx hb dL_law_1477 (by decide) (fun c_17 => ?_) (fun c_17 => absurd c_17 (by decide))
      refine lv_iinc (v := 7) (lv' := [(4, .int 7), (3, .ref oo), (2, .ref mm), (1, .ref xx), (0, .ref b)]) hx hb dL_law_1482 hl (k := 0) rfl (by decide) (by decide) rfl (fun ls hl => ?_)
      refine lv_goto (tgt := 23) hx hb dL_law_1485 (by decide) ?_
      refine lv_iload hx hb dL_law_23 (lv_at hl 0 rfl) ?_
      refine lv_aload_n hx hb dL_law_25 rfl (lv_at hl 4 rfl) ?_
      refine va_slen hx hb hX hbl hbA hS dL_law_26 ?_
      refine lv_topi (fun z_18 ez_18 => ?_)
      obtain rfl : z_18 = 7 := ez_18.trans (by decide)
      refine lv_bipush (v := 7) hx hb dL_law_27 (by decide) ?_
      refine lv_isub hx hb dL_law_29 ?_
      refine lv_topi (fun z_19 ez_19 => ?_)
      obtain rfl : z_19 = 0 := ez_19.trans (by decide)
      refine lv_icmp_gt (tgt := 1488) hx hb dL_law_30 (by decide) (fun c_20 => ?_) (fun c_20 => absurd c_20 (by decide))
      refine lv_iconst (v := 1) hx hb dL_law_1488 (by decide) ?_
      refine va_forget (fun q hq => hAo _ (hS.2.2 q hq)) ?_
      refine W.widen (k := 600002) (n := 7302232) (Nat.le_of_ble_eq_true rfl) (Nat.le_of_ble_eq_true rfl) ?_
      exact lw_ret hx hb hr hlocks dL_law_1489
