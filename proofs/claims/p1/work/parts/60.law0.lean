/-! THE CLAIM OUT OF ONE WALK OF THE LAW'S BODY. Your part is whole_start (and what it stands on); all else here is the same for every law, but numbers. -/
def R_law : String := "PassedClocksLaw"
def lw_P (b : Addr) (xs : List Int32) (args : Array Value) (s : State) : Prop := args = #[.ref b] ∧ s.IntsAt b xs ∧ xs.length ≤ 7 ∧ (Jvm.Cond.and given_1 narrow_1).before args s = true
def lw_Q (_ : Array Value) (s : State) (o : Outcome) (t : State) : Prop := o = .returned (some (.int 1)) ∧ Framed s o t [] 600002 7302232
def lw_Z (below : List Frame) (a : Array Value) (s : State) : State → Prop := fun t => ∃ o, t.status = .running ∧ Ended t below o ∧ lw_Q a s o t
/-- the law's own end, with 1 on the stack, nothing written that was there before, its room as the claim has it -/
theorem lw_ret {p : Program} {l : Launch} {e : Env} {s : State} {m : MethodId} {below : List Frame} {meth : Method} {c : Code} {b : Nat} (hx : p.tables.exec = Jvm.exec) (hb : c.code = code) (hr : meth.sig.returnType = ret) (hlocks : meth.locks = false) {pc : Nat} {H : Heap} {ls : Array Slot} (hdg : decode code pc = .ok (.ireturn, 1)) : W p l e room_1 s m #[Value.ref b] below meth c H [] 600002 7302232 (lw_Z below #[Value.ref b] s) (F0 m pc ls [.int 1]) := by
  intro T hT X
  obtain ⟨fs, hret, hrun, hended, hW, hframe⟩ := X.leave (v := some (.int 1)) (hlocks := hlocks) (fun h => by rw [hr] at h; cases h)
  have hmeth' : T.vm.method? m = some meth := X.method'
  refine ⟨T.setFrames fs, ?_, .returned (some (.int 1)), hrun, hended, rfl, ⟨_, rfl⟩, hW, hframe⟩
  jvm_step X.here [X.here.top, hx, hb, hdg, hmeth', hr, ret, narrow_b1]
  (try refine ⟨rfl, ?_⟩); (try refine ⟨rfl, ?_⟩)
  first | (intro acts; rw [hret _ acts rfl rfl rfl]) | rw [hret _ _ rfl rfl rfl]
  exact Steps.refl _
/-- what holds at the law's entry: the machine, the code, the tables' words (any of lw_tbl by 'hts w (by decide +kernel)'), the script of L ints xs at the cell b, what the Statement gives of the start (any of its parts by flat_of_before) -/
def lw_At (p : Program) (s : State) (m : MethodId) (meth : Method) (c : Code) (b L : Nat) (xs : Nat → Int32) : Prop :=
  p.tables.exec = Jvm.exec ∧ c.code = code ∧ meth.sig.returnType = ret ∧ c.maxLocals = 7 ∧ s.vm.findClass R_law = some m.cls ∧ (∀ w ∈ lw_tbl, w.before #[Value.ref b] s = true) ∧ va_X b L xs s s.heap ∧ b < s.heap.size ∧ meth.locks = false ∧ (Jvm.Cond.and given_1 narrow_1).before #[Value.ref b] s = true

theorem dL_law_184 : decode cL_law 184 = .ok (.aload_n 1, 1) := by decide +kernel
theorem dL_law_185 : decode cL_law 185 = .ok (.aload_n 0, 1) := by decide +kernel
theorem dL_law_186 : decode cL_law 186 = .ok (.iload 4, 2) := by decide +kernel
theorem dL_law_188 : decode cL_law 188 = .ok (.iconst 1, 1) := by decide +kernel
theorem dL_law_189 : decode cL_law 189 = .ok (.iadd, 1) := by decide +kernel
theorem dL_law_190 : decode cL_law 190 = .ok (.iaload, 1) := by decide +kernel
theorem dL_law_191 : decode cL_law 191 = .ok (.aload_n 0, 1) := by decide +kernel
theorem dL_law_192 : decode cL_law 192 = .ok (.iload 4, 2) := by decide +kernel
theorem dL_law_194 : decode cL_law 194 = .ok (.iconst 2, 1) := by decide +kernel
theorem dL_law_195 : decode cL_law 195 = .ok (.iadd, 1) := by decide +kernel
theorem dL_law_196 : decode cL_law 196 = .ok (.iaload, 1) := by decide +kernel
theorem dL_law_197 : decode cL_law 197 = .ok (.aload_n 0, 1) := by decide +kernel
theorem dL_law_198 : decode cL_law 198 = .ok (.iload 4, 2) := by decide +kernel
theorem dL_law_200 : decode cL_law 200 = .ok (.iconst 3, 1) := by decide +kernel
theorem dL_law_201 : decode cL_law 201 = .ok (.iadd, 1) := by decide +kernel
theorem dL_law_202 : decode cL_law 202 = .ok (.iaload, 1) := by decide +kernel
theorem dL_law_203 : decode cL_law 203 = .ok (.aload_n 0, 1) := by decide +kernel
theorem dL_law_204 : decode cL_law 204 = .ok (.iload 4, 2) := by decide +kernel
theorem dL_law_206 : decode cL_law 206 = .ok (.iconst 4, 1) := by decide +kernel
theorem dL_law_207 : decode cL_law 207 = .ok (.iadd, 1) := by decide +kernel
theorem dL_law_208 : decode cL_law 208 = .ok (.iaload, 1) := by decide +kernel
theorem dL_law_209 : decode cL_law 209 = .ok (.aload_n 0, 1) := by decide +kernel
theorem dL_law_210 : decode cL_law 210 = .ok (.iload 4, 2) := by decide +kernel
theorem dL_law_212 : decode cL_law 212 = .ok (.iconst 5, 1) := by decide +kernel
theorem dL_law_213 : decode cL_law 213 = .ok (.iadd, 1) := by decide +kernel
theorem dL_law_214 : decode cL_law 214 = .ok (.iaload, 1) := by decide +kernel
theorem dL_law_215 : decode cL_law 215 = .ok (.invokevirtual 21, 3) := by decide +kernel
theorem dL_law_218 : decode cL_law 218 = .ok (.aload_n 2, 1) := by decide +kernel
theorem dL_law_219 : decode cL_law 219 = .ok (.aload_n 0, 1) := by decide +kernel
theorem dL_law_220 : decode cL_law 220 = .ok (.iload 4, 2) := by decide +kernel
theorem dL_law_222 : decode cL_law 222 = .ok (.iconst 1, 1) := by decide +kernel
theorem dL_law_223 : decode cL_law 223 = .ok (.iadd, 1) := by decide +kernel
theorem dL_law_224 : decode cL_law 224 = .ok (.iaload, 1) := by decide +kernel
theorem dL_law_225 : decode cL_law 225 = .ok (.aload_n 0, 1) := by decide +kernel
theorem dL_law_226 : decode cL_law 226 = .ok (.iload 4, 2) := by decide +kernel
theorem dL_law_228 : decode cL_law 228 = .ok (.iconst 2, 1) := by decide +kernel
theorem dL_law_229 : decode cL_law 229 = .ok (.iadd, 1) := by decide +kernel
theorem dL_law_230 : decode cL_law 230 = .ok (.iaload, 1) := by decide +kernel
theorem dL_law_231 : decode cL_law 231 = .ok (.aload_n 0, 1) := by decide +kernel
theorem dL_law_232 : decode cL_law 232 = .ok (.iload 4, 2) := by decide +kernel
theorem dL_law_234 : decode cL_law 234 = .ok (.iconst 3, 1) := by decide +kernel
theorem dL_law_235 : decode cL_law 235 = .ok (.iadd, 1) := by decide +kernel
theorem dL_law_236 : decode cL_law 236 = .ok (.iaload, 1) := by decide +kernel
theorem dL_law_237 : decode cL_law 237 = .ok (.aload_n 0, 1) := by decide +kernel
theorem dL_law_238 : decode cL_law 238 = .ok (.iload 4, 2) := by decide +kernel
theorem dL_law_240 : decode cL_law 240 = .ok (.iconst 4, 1) := by decide +kernel
theorem dL_law_241 : decode cL_law 241 = .ok (.iadd, 1) := by decide +kernel
theorem dL_law_242 : decode cL_law 242 = .ok (.iaload, 1) := by decide +kernel
theorem dL_law_243 : decode cL_law 243 = .ok (.aload_n 0, 1) := by decide +kernel
theorem dL_law_244 : decode cL_law 244 = .ok (.iload 4, 2) := by decide +kernel
theorem dL_law_246 : decode cL_law 246 = .ok (.iconst 5, 1) := by decide +kernel
theorem dL_law_247 : decode cL_law 247 = .ok (.iadd, 1) := by decide +kernel
theorem dL_law_248 : decode cL_law 248 = .ok (.iaload, 1) := by decide +kernel
theorem dL_law_249 : decode cL_law 249 = .ok (.invokevirtual 25, 3) := by decide +kernel
theorem dL_law_252 : decode cL_law 252 = .ok (.if_icmp .eq 1230, 3) := by decide +kernel
theorem dL_law_1482 : decode cL_law 1482 = .ok (.iinc 4 7, 3) := by decide +kernel
theorem dL_law_1485 : decode cL_law 1485 = .ok (.goto (-1462), 3) := by decide +kernel
theorem dL_law_23 : decode cL_law 23 = .ok (.iload 4, 2) := by decide +kernel
theorem dL_law_25 : decode cL_law 25 = .ok (.aload_n 0, 1) := by decide +kernel
theorem dL_law_26 : decode cL_law 26 = .ok (.arraylength, 1) := by decide +kernel
theorem dL_law_27 : decode cL_law 27 = .ok (.bipush 7, 2) := by decide +kernel
theorem dL_law_29 : decode cL_law 29 = .ok (.isub, 1) := by decide +kernel
theorem dL_law_30 : decode cL_law 30 = .ok (.if_icmp .gt 1458, 3) := by decide +kernel
theorem dL_law_1488 : decode cL_law 1488 = .ok (.iconst 1, 1) := by decide +kernel
theorem dL_law_1489 : decode cL_law 1489 = .ok (.ireturn, 1) := by decide +kernel
theorem dL_law_257 : decode cL_law 257 = .ok (.aload_n 1, 1) := by decide +kernel
theorem dL_law_258 : decode cL_law 258 = .ok (.aload_n 0, 1) := by decide +kernel
theorem dL_law_259 : decode cL_law 259 = .ok (.iload 4, 2) := by decide +kernel
theorem dL_law_261 : decode cL_law 261 = .ok (.iconst 1, 1) := by decide +kernel
theorem dL_law_262 : decode cL_law 262 = .ok (.iadd, 1) := by decide +kernel
theorem dL_law_263 : decode cL_law 263 = .ok (.iaload, 1) := by decide +kernel
theorem dL_law_264 : decode cL_law 264 = .ok (.invokevirtual 26, 3) := by decide +kernel
theorem dL_law_267 : decode cL_law 267 = .ok (.aload_n 2, 1) := by decide +kernel
theorem dL_law_268 : decode cL_law 268 = .ok (.aload_n 0, 1) := by decide +kernel
theorem dL_law_269 : decode cL_law 269 = .ok (.iload 4, 2) := by decide +kernel
theorem dL_law_271 : decode cL_law 271 = .ok (.iconst 1, 1) := by decide +kernel
theorem dL_law_272 : decode cL_law 272 = .ok (.iadd, 1) := by decide +kernel
theorem dL_law_273 : decode cL_law 273 = .ok (.iaload, 1) := by decide +kernel
theorem dL_law_274 : decode cL_law 274 = .ok (.invokevirtual 30, 3) := by decide +kernel
theorem dL_law_277 : decode cL_law 277 = .ok (.if_icmp .eq 1205, 3) := by decide +kernel
theorem dL_law_282 : decode cL_law 282 = .ok (.aload_n 1, 1) := by decide +kernel
theorem dL_law_283 : decode cL_law 283 = .ok (.aload_n 0, 1) := by decide +kernel
theorem dL_law_284 : decode cL_law 284 = .ok (.iload 4, 2) := by decide +kernel
theorem dL_law_286 : decode cL_law 286 = .ok (.iconst 1, 1) := by decide +kernel
theorem dL_law_287 : decode cL_law 287 = .ok (.iadd, 1) := by decide +kernel
theorem dL_law_288 : decode cL_law 288 = .ok (.iaload, 1) := by decide +kernel
theorem dL_law_289 : decode cL_law 289 = .ok (.invokevirtual 31, 3) := by decide +kernel
theorem dL_law_292 : decode cL_law 292 = .ok (.aload_n 2, 1) := by decide +kernel
theorem dL_law_293 : decode cL_law 293 = .ok (.aload_n 0, 1) := by decide +kernel
theorem dL_law_294 : decode cL_law 294 = .ok (.iload 4, 2) := by decide +kernel
theorem dL_law_296 : decode cL_law 296 = .ok (.iconst 1, 1) := by decide +kernel
theorem dL_law_297 : decode cL_law 297 = .ok (.iadd, 1) := by decide +kernel
theorem dL_law_298 : decode cL_law 298 = .ok (.iaload, 1) := by decide +kernel
theorem dL_law_299 : decode cL_law 299 = .ok (.invokevirtual 34, 3) := by decide +kernel
theorem dL_law_302 : decode cL_law 302 = .ok (.if_icmp .eq 1180, 3) := by decide +kernel
theorem dL_law_307 : decode cL_law 307 = .ok (.aload_n 1, 1) := by decide +kernel
theorem dL_law_308 : decode cL_law 308 = .ok (.aload_n 0, 1) := by decide +kernel
theorem dL_law_309 : decode cL_law 309 = .ok (.iload 4, 2) := by decide +kernel
theorem dL_law_311 : decode cL_law 311 = .ok (.iconst 1, 1) := by decide +kernel
theorem dL_law_312 : decode cL_law 312 = .ok (.iadd, 1) := by decide +kernel
theorem dL_law_313 : decode cL_law 313 = .ok (.iaload, 1) := by decide +kernel
theorem dL_law_314 : decode cL_law 314 = .ok (.aload_n 0, 1) := by decide +kernel
theorem dL_law_315 : decode cL_law 315 = .ok (.iload 4, 2) := by decide +kernel
theorem dL_law_317 : decode cL_law 317 = .ok (.iconst 2, 1) := by decide +kernel
theorem dL_law_318 : decode cL_law 318 = .ok (.iadd, 1) := by decide +kernel
theorem dL_law_319 : decode cL_law 319 = .ok (.iaload, 1) := by decide +kernel
theorem dL_law_320 : decode cL_law 320 = .ok (.invokevirtual 35, 3) := by decide +kernel
theorem dL_law_323 : decode cL_law 323 = .ok (.aload_n 2, 1) := by decide +kernel
theorem dL_law_324 : decode cL_law 324 = .ok (.aload_n 0, 1) := by decide +kernel
theorem dL_law_325 : decode cL_law 325 = .ok (.iload 4, 2) := by decide +kernel
theorem dL_law_327 : decode cL_law 327 = .ok (.iconst 1, 1) := by decide +kernel
theorem dL_law_328 : decode cL_law 328 = .ok (.iadd, 1) := by decide +kernel
theorem dL_law_329 : decode cL_law 329 = .ok (.iaload, 1) := by decide +kernel
theorem dL_law_330 : decode cL_law 330 = .ok (.aload_n 0, 1) := by decide +kernel
theorem dL_law_331 : decode cL_law 331 = .ok (.iload 4, 2) := by decide +kernel
theorem dL_law_333 : decode cL_law 333 = .ok (.iconst 2, 1) := by decide +kernel
theorem dL_law_334 : decode cL_law 334 = .ok (.iadd, 1) := by decide +kernel
theorem dL_law_335 : decode cL_law 335 = .ok (.iaload, 1) := by decide +kernel
theorem dL_law_336 : decode cL_law 336 = .ok (.invokevirtual 38, 3) := by decide +kernel
theorem dL_law_339 : decode cL_law 339 = .ok (.if_icmp .eq 1143, 3) := by decide +kernel
set_option maxHeartbeats 4000000 in
set_option maxRecDepth 100000 in
theorem law_op_0 {p : Program} {l : Launch} {e : Env} {s : State} {m : MethodId} {below : List Frame} {meth : Method} {c : Code} {dC : Nat → ClassId} {dI : Nat → Nat → Nat} {b : Nat} {xs : Nat → Int32} {A : Nat → Prop} (C0 : lw_At p s m meth c b 7 xs) (hA : ∀ q, s.heap.size ≤ q → A q) (hbA : ¬ A b) (hAo : ∀ q, A q → s.heap.size ≤ q) {xx : Nat} {rr : Nat} {ta : Nat} {tb : Nat} {pa : Nat} {pb : Nat} {cn : Nat} {ci : Nat} {cp : Nat} {ct : Nat} {hs : Nat} {rd : Nat} {wy : Nat} {ea : Nat} {eb : Nat} {rr_tape : Nat} {tk : Nat} {k_rr_tape : ClassId} {mm : Nat} {mm_tape : Nat} {mm_number : Nat} {mm_clockName : Nat} {mm_clockOff : Nat} {mm_clockGain : Nat} {mm_clockRough : Nat} {mm_personName : Nat} {mm_personOff : Nat} {mm_personGain : Nat} {mm_personRough : Nat} {mm_custom : Nat} {mm_customA : Nat} {mm_customB : Nat} {mm_ruleFrom : Nat} {mm_ruleTo : Nat} {mm_roundOf : Nat} {mm_roundAt : Nat} {mm_roundHour : Nat} {mm_gunAt : Nat} {mm_gunHour : Nat} {mm_knotSort : Nat} {mm_knotValue : Nat} {mm_start : Nat} {mm_off : Nat} {mm_last : Nat} {mm_passed : Nat} {mm_kept : Nat} {mm_keptMany : Nat} {mm_history : Nat} {mm_names : Nat} {mm_worked : Nat} {mm_readThing : Nat} {mm_readHour : Nat} {mm_readLow : Nat} {mm_readHigh : Nat} {mm_imageOff : Nat} {mm_imageLast : Nat} {mm_imagePassed : Nat} {mm_imageKept : Nat} {mm_imageMany : Nat} {mm_imageHistory : Nat} {k_mm_tape : ClassId} {oo : Nat} {H : Heap} {locs : List Loc} {ls : Array Slot} (hK : va_K (dC, dI) vwCl [(k_rr_tape, .byte), (k_mm_tape, .int)] s) (hP : va_P (dC, dI) vwCl [(xx, .inr (10, [.ref rr, .ref ta, .ref tb, .ref pa, .ref pb, .ref cn, .ref ci, .int 0, .ref cp, .ref ct, .ref hs, .ref rd, .ref wy, .ref ea, .ref eb])), (rr, .inr (4, [.ref rr_tape, .int 0, .int 0, .int (-1), .ref tk, .null, .int 0, .int 0])), (rr_tape, .inl (k_rr_tape, 700, .inl (fun _ => 0))), (mm, .inr (11, [.int 0, .ref mm_tape, .int 0, .ref mm_number, .ref mm_clockName, .ref mm_clockOff, .ref mm_clockGain, .ref mm_clockRough, .ref mm_personName, .ref mm_personOff, .ref mm_personGain, .ref mm_personRough, .ref mm_custom, .ref mm_customA, .ref mm_customB, .ref mm_ruleFrom, .ref mm_ruleTo, .ref mm_roundOf, .ref mm_roundAt, .ref mm_roundHour, .ref mm_gunAt, .ref mm_gunHour, .ref mm_knotSort, .ref mm_knotValue, .int 0, .int 0, .int 0, .int 0, .int 0, .int 0, .int 0, .int 0, .int 0, .int (-1), .int 0, .int 0, .int 0, .int 0, .int 0, .int 0, .int 0, .int 0, .int 0, .int 0, .int 0, .int 0, .ref mm_start, .ref mm_off, .ref mm_last, .ref mm_passed, .ref mm_kept, .ref mm_keptMany, .int 0, .int 0, .ref mm_history, .ref mm_names, .ref mm_worked, .int 0, .int 0, .int (-1), .ref mm_readThing, .ref mm_readHour, .ref mm_readLow, .ref mm_readHigh, .int 0, .int 0, .int 0, .ref mm_imageOff, .ref mm_imageLast, .ref mm_imagePassed, .ref mm_imageKept, .ref mm_imageMany, .ref mm_imageHistory])), (mm_tape, .inl (k_mm_tape, 700, .inl (fun _ => 0)))] H) (hD : va_D A [(xx, .inr (10, [.ref rr, .ref ta, .ref tb, .ref pa, .ref pb, .ref cn, .ref ci, .int 0, .ref cp, .ref ct, .ref hs, .ref rd, .ref wy, .ref ea, .ref eb])), (rr, .inr (4, [.ref rr_tape, .int 0, .int 0, .int (-1), .ref tk, .null, .int 0, .int 0])), (rr_tape, .inl (k_rr_tape, 700, .inl (fun _ => 0))), (mm, .inr (11, [.int 0, .ref mm_tape, .int 0, .ref mm_number, .ref mm_clockName, .ref mm_clockOff, .ref mm_clockGain, .ref mm_clockRough, .ref mm_personName, .ref mm_personOff, .ref mm_personGain, .ref mm_personRough, .ref mm_custom, .ref mm_customA, .ref mm_customB, .ref mm_ruleFrom, .ref mm_ruleTo, .ref mm_roundOf, .ref mm_roundAt, .ref mm_roundHour, .ref mm_gunAt, .ref mm_gunHour, .ref mm_knotSort, .ref mm_knotValue, .int 0, .int 0, .int 0, .int 0, .int 0, .int 0, .int 0, .int 0, .int 0, .int (-1), .int 0, .int 0, .int 0, .int 0, .int 0, .int 0, .int 0, .int 0, .int 0, .int 0, .int 0, .int 0, .ref mm_start, .ref mm_off, .ref mm_last, .ref mm_passed, .ref mm_kept, .ref mm_keptMany, .int 0, .int 0, .ref mm_history, .ref mm_names, .ref mm_worked, .int 0, .int 0, .int (-1), .ref mm_readThing, .ref mm_readHour, .ref mm_readLow, .ref mm_readHigh, .int 0, .int 0, .int 0, .ref mm_imageOff, .ref mm_imageLast, .ref mm_imagePassed, .ref mm_imageKept, .ref mm_imageMany, .ref mm_imageHistory])), (mm_tape, .inl (k_mm_tape, 700, .inl (fun _ => 0)))]) (hS : va_S A s.heap H locs) (hl : lv_has ls 7 [(4, .int 0), (3, .ref oo), (2, .ref mm), (1, .ref xx), (0, .ref b)]) : W p l e room_1 s m #[Value.ref b] below meth c H locs 160 67979 (lw_Z below #[Value.ref b] s) (F0 m 184 ls []) := by
  obtain ⟨hx, hb, hr, hml, hown, hts, hX, hbl, hlocks, hgv⟩ := C0
  have hT : ∀ w ∈ pw_T, w.before #[Value.ref b] s = true := fun w h => hts w (List.mem_filter.mp h).1
  have hown : s.vm.findClass RL = some m.cls := hown
  refine lv_aload_n hx hb dL_law_184 rfl (lv_at hl 3 rfl) ?_
  refine lv_aload_n hx hb dL_law_185 rfl (lv_at hl 4 rfl) ?_
  refine lv_iload hx hb dL_law_186 (lv_at hl 0 rfl) ?_
  refine lv_iconst (v := 1) hx hb dL_law_188 (by decide) ?_
  refine lv_iadd hx hb dL_law_189 ?_
  refine lv_topi (fun z_1 ez_1 => ?_)
  obtain rfl : z_1 = 1 := ez_1.trans (by decide)
  refine va_sld hx hb hX hbl hbA hS (pk_in 1 7 (by decide) (by decide) (by decide)) dL_law_190 ?_
  refine lv_topi (fun z_2 ez_2 => ?_)
  replace ez_2 : z_2 = xs 1 := ez_2
  subst z_2
  refine lv_aload_n hx hb dL_law_191 rfl (lv_at hl 4 rfl) ?_
  refine lv_iload hx hb dL_law_192 (lv_at hl 0 rfl) ?_
  refine lv_iconst (v := 2) hx hb dL_law_194 (by decide) ?_
  refine lv_iadd hx hb dL_law_195 ?_
  refine lv_topi (fun z_3 ez_3 => ?_)
  obtain rfl : z_3 = 2 := ez_3.trans (by decide)
  refine va_sld hx hb hX hbl hbA hS (pk_in 2 7 (by decide) (by decide) (by decide)) dL_law_196 ?_
  refine lv_topi (fun z_4 ez_4 => ?_)
  replace ez_4 : z_4 = xs 2 := ez_4
  subst z_4
  refine lv_aload_n hx hb dL_law_197 rfl (lv_at hl 4 rfl) ?_
  refine lv_iload hx hb dL_law_198 (lv_at hl 0 rfl) ?_
  refine lv_iconst (v := 3) hx hb dL_law_200 (by decide) ?_
  refine lv_iadd hx hb dL_law_201 ?_
  refine lv_topi (fun z_5 ez_5 => ?_)
  obtain rfl : z_5 = 3 := ez_5.trans (by decide)
  refine va_sld hx hb hX hbl hbA hS (pk_in 3 7 (by decide) (by decide) (by decide)) dL_law_202 ?_
  refine lv_topi (fun z_6 ez_6 => ?_)
  replace ez_6 : z_6 = xs 3 := ez_6
  subst z_6
  refine lv_aload_n hx hb dL_law_203 rfl (lv_at hl 4 rfl) ?_
  refine lv_iload hx hb dL_law_204 (lv_at hl 0 rfl) ?_
  refine lv_iconst (v := 4) hx hb dL_law_206 (by decide) ?_
  refine lv_iadd hx hb dL_law_207 ?_
  refine lv_topi (fun z_7 ez_7 => ?_)
  obtain rfl : z_7 = 4 := ez_7.trans (by decide)
  refine va_sld hx hb hX hbl hbA hS (pk_in 4 7 (by decide) (by decide) (by decide)) dL_law_208 ?_
  refine lv_topi (fun z_8 ez_8 => ?_)
  replace ez_8 : z_8 = xs 4 := ez_8
  subst z_8
  refine lv_aload_n hx hb dL_law_209 rfl (lv_at hl 4 rfl) ?_
  refine lv_iload hx hb dL_law_210 (lv_at hl 0 rfl) ?_
  refine lv_iconst (v := 5) hx hb dL_law_212 (by decide) ?_
  refine lv_iadd hx hb dL_law_213 ?_
  refine lv_topi (fun z_9 ez_9 => ?_)
  obtain rfl : z_9 = 5 := ez_9.trans (by decide)
  refine va_sld hx hb hX hbl hbA hS (pk_in 5 7 (by decide) (by decide) (by decide)) dL_law_214 ?_
  refine lv_topi (fun z_10 ez_10 => ?_)
  replace ez_10 : z_10 = xs 5 := ez_10
  subst z_10
  have hPc := hP.sub (ws' := [(xx, .inr (10, [.ref rr, .ref ta, .ref tb, .ref pa, .ref pb, .ref cn, .ref ci, .int 0, .ref cp, .ref ct, .ref hs, .ref rd, .ref wy, .ref ea, .ref eb])), (rr, .inr (4, [.ref rr_tape, .int 0, .int 0, .int (-1), .ref tk, .null, .int 0, .int 0])), (rr_tape, .inl (k_rr_tape, 700, .inl (fun _ => 0)))]) [0, 1, 2] rfl
  have hDc := hD.sub (ws' := [(xx, .inr (10, [.ref rr, .ref ta, .ref tb, .ref pa, .ref pb, .ref cn, .ref ci, .int 0, .ref cp, .ref ct, .ref hs, .ref rd, .ref wy, .ref ea, .ref eb])), (rr, .inr (4, [.ref rr_tape, .int 0, .int 0, .int (-1), .ref tk, .null, .int 0, .int 0])), (rr_tape, .inl (k_rr_tape, 700, .inl (fun _ => 0)))]) [0, 1, 2] (by decide) rfl
  have hKc := hK.sub (tys' := [(k_rr_tape, .byte)]) [0] rfl
  have hFc := va_free (wc := [(xx, .inr (10, [.ref rr, .ref ta, .ref tb, .ref pa, .ref pb, .ref cn, .ref ci, .int 0, .ref cp, .ref ct, .ref hs, .ref rd, .ref wy, .ref ea, .ref eb])), (rr, .inr (4, [.ref rr_tape, .int 0, .int 0, .int (-1), .ref tk, .null, .int 0, .int 0])), (rr_tape, .inl (k_rr_tape, 700, .inl (fun _ => 0)))]) hD hS hA [0, 1, 2] rfl
  refine va_calli (va_runV (As := [.int (xs 1), .int (xs 2), .int (xs 3), .int (xs 4), .int (xs 5)]) (rest := []) ⟨hx, hb, hml, hown, hT⟩ (c_X10_feed l dC dI H.size xx (xs 1) (xs 2) (xs 3) (xs 4) (xs 5) rr ta tb pa pb cn ci (0 : Int32) cp ct hs rd wy ea eb rr_tape (0 : Int32) ((-1) : Int32) tk (0 : Int32) (0 : Int32) k_rr_tape (fun _ => 0) ) (cwV 5 hT (gwV mw_3_59 mw_3_60 mw_3_61 mw_1_1 mw_3_62) rfl rfl rfl (by decide +kernel) ⟨Nat.le_of_ble_eq_true rfl, Nat.le_of_ble_eq_true rfl⟩) ⟨fun a U g mk q => by obtain ⟨q0, q1, qP, qK, qD⟩ := q; exact ⟨q0, q1, qP, va_K.moved (u := U) (U := U.calling g mk a) (Vm.Alike.refl U.vm) qK, qD⟩, va_recv hK hP (ci := 10) (q0 := 0) rfl rfl, fun U hU hW => ⟨rfl, by rw [hU], by rw [hU]; exact hPc, va_K.moved hW.alike hKc, hDc.weaken (fun _ _ _ _ => trivial)⟩⟩ rfl rfl hl.1 rfl (lv_room (Nat.le_of_ble_eq_true rfl)) dL_law_215 ⟨Nat.le_of_ble_eq_true rfl, Nat.le_of_ble_eq_true rfl⟩) hS (fun q _ h => hFc q h) hFc (fun r_12 u t H1 locs ht hvm hw hB hz1 hk1 hS => ?_)
  obtain ⟨x_13, hP1, hD1⟩ := hB
  rw [ht] at hP1
  obtain ⟨hP, hD⟩ := va_join (wr := [(mm, .inr (11, [.int 0, .ref mm_tape, .int 0, .ref mm_number, .ref mm_clockName, .ref mm_clockOff, .ref mm_clockGain, .ref mm_clockRough, .ref mm_personName, .ref mm_personOff, .ref mm_personGain, .ref mm_personRough, .ref mm_custom, .ref mm_customA, .ref mm_customB, .ref mm_ruleFrom, .ref mm_ruleTo, .ref mm_roundOf, .ref mm_roundAt, .ref mm_roundHour, .ref mm_gunAt, .ref mm_gunHour, .ref mm_knotSort, .ref mm_knotValue, .int 0, .int 0, .int 0, .int 0, .int 0, .int 0, .int 0, .int 0, .int 0, .int (-1), .int 0, .int 0, .int 0, .int 0, .int 0, .int 0, .int 0, .int 0, .int 0, .int 0, .int 0, .int 0, .ref mm_start, .ref mm_off, .ref mm_last, .ref mm_passed, .ref mm_kept, .ref mm_keptMany, .int 0, .int 0, .ref mm_history, .ref mm_names, .ref mm_worked, .int 0, .int 0, .int (-1), .ref mm_readThing, .ref mm_readHour, .ref mm_readLow, .ref mm_readHigh, .int 0, .int 0, .int 0, .ref mm_imageOff, .ref mm_imageLast, .ref mm_imagePassed, .ref mm_imageKept, .ref mm_imageMany, .ref mm_imageHistory])), (mm_tape, .inl (k_mm_tape, 700, .inl (fun _ => 0)))]) (w1 := [(xx, .inr (10, [.ref rr, .ref ta, .ref tb, .ref pa, .ref pb, .ref cn, .ref ci, .int 0, .ref cp, .ref ct, .ref hs, .ref rd, .ref wy, .ref ea, .ref eb])), (rr, .inr (4, [.ref rr_tape, .int 20, .int 0, .int (-1), .ref tk, .null, .int 0, .int 0])), (rr_tape, .inl (k_rr_tape, 700, .inl x_13))]) hP hD [0, 1, 2] [3, 4] rfl rfl (by decide) (by decide) hk1 hFc hP1 hD1
  generalize H1 = H at hP hS ⊢
  have hP : va_P (dC, dI) vwCl [(mm, .inr (11, [.int 0, .ref mm_tape, .int 0, .ref mm_number, .ref mm_clockName, .ref mm_clockOff, .ref mm_clockGain, .ref mm_clockRough, .ref mm_personName, .ref mm_personOff, .ref mm_personGain, .ref mm_personRough, .ref mm_custom, .ref mm_customA, .ref mm_customB, .ref mm_ruleFrom, .ref mm_ruleTo, .ref mm_roundOf, .ref mm_roundAt, .ref mm_roundHour, .ref mm_gunAt, .ref mm_gunHour, .ref mm_knotSort, .ref mm_knotValue, .int 0, .int 0, .int 0, .int 0, .int 0, .int 0, .int 0, .int 0, .int 0, .int (-1), .int 0, .int 0, .int 0, .int 0, .int 0, .int 0, .int 0, .int 0, .int 0, .int 0, .int 0, .int 0, .ref mm_start, .ref mm_off, .ref mm_last, .ref mm_passed, .ref mm_kept, .ref mm_keptMany, .int 0, .int 0, .ref mm_history, .ref mm_names, .ref mm_worked, .int 0, .int 0, .int (-1), .ref mm_readThing, .ref mm_readHour, .ref mm_readLow, .ref mm_readHigh, .int 0, .int 0, .int 0, .ref mm_imageOff, .ref mm_imageLast, .ref mm_imagePassed, .ref mm_imageKept, .ref mm_imageMany, .ref mm_imageHistory])), (mm_tape, .inl (k_mm_tape, 700, .inl (fun _ => 0))), (xx, .inr (10, [.ref rr, .ref ta, .ref tb, .ref pa, .ref pb, .ref cn, .ref ci, .int 0, .ref cp, .ref ct, .ref hs, .ref rd, .ref wy, .ref ea, .ref eb])), (rr, .inr (4, [.ref rr_tape, .int 20, .int 0, .int (-1), .ref tk, .null, .int 0, .int 0])), (rr_tape, .inl (k_rr_tape, 700, .inl x_13))] H := hP
  have hD : va_D A [(mm, .inr (11, [.int 0, .ref mm_tape, .int 0, .ref mm_number, .ref mm_clockName, .ref mm_clockOff, .ref mm_clockGain, .ref mm_clockRough, .ref mm_personName, .ref mm_personOff, .ref mm_personGain, .ref mm_personRough, .ref mm_custom, .ref mm_customA, .ref mm_customB, .ref mm_ruleFrom, .ref mm_ruleTo, .ref mm_roundOf, .ref mm_roundAt, .ref mm_roundHour, .ref mm_gunAt, .ref mm_gunHour, .ref mm_knotSort, .ref mm_knotValue, .int 0, .int 0, .int 0, .int 0, .int 0, .int 0, .int 0, .int 0, .int 0, .int (-1), .int 0, .int 0, .int 0, .int 0, .int 0, .int 0, .int 0, .int 0, .int 0, .int 0, .int 0, .int 0, .ref mm_start, .ref mm_off, .ref mm_last, .ref mm_passed, .ref mm_kept, .ref mm_keptMany, .int 0, .int 0, .ref mm_history, .ref mm_names, .ref mm_worked, .int 0, .int 0, .int (-1), .ref mm_readThing, .ref mm_readHour, .ref mm_readLow, .ref mm_readHigh, .int 0, .int 0, .int 0, .ref mm_imageOff, .ref mm_imageLast, .ref mm_imagePassed, .ref mm_imageKept, .ref mm_imageMany, .ref mm_imageHistory])), (mm_tape, .inl (k_mm_tape, 700, .inl (fun _ => 0))), (xx, .inr (10, [.ref rr, .ref ta, .ref tb, .ref pa, .ref pb, .ref cn, .ref ci, .int 0, .ref cp, .ref ct, .ref hs, .ref rd, .ref wy, .ref ea, .ref eb])), (rr, .inr (4, [.ref rr_tape, .int 20, .int 0, .int (-1), .ref tk, .null, .int 0, .int 0])), (rr_tape, .inl (k_rr_tape, 700, .inl x_13))] := hD
  clear hPc hDc hKc hFc hP1 hD1 hk1 hz1 ht hvm
  have hw : r_12 = 20 := hw
  subst r_12
  refine lv_aload_n hx hb dL_law_218 rfl (lv_at hl 2 rfl) ?_
  refine lv_aload_n hx hb dL_law_219 rfl (lv_at hl 4 rfl) ?_
  refine lv_iload hx hb dL_law_220 (lv_at hl 0 rfl) ?_
  refine lv_iconst (v := 1) hx hb dL_law_222 (by decide) ?_
  refine lv_iadd hx hb dL_law_223 ?_
  refine lv_topi (fun z_14 ez_14 => ?_)
  obtain rfl : z_14 = 1 := ez_14.trans (by decide)
  refine va_sld hx hb hX hbl hbA hS (pk_in 1 7 (by decide) (by decide) (by decide)) dL_law_224 ?_
  refine lv_topi (fun z_15 ez_15 => ?_)
  replace ez_15 : z_15 = xs 1 := ez_15
  subst z_15
  refine lv_aload_n hx hb dL_law_225 rfl (lv_at hl 4 rfl) ?_
  refine lv_iload hx hb dL_law_226 (lv_at hl 0 rfl) ?_
  refine lv_iconst (v := 2) hx hb dL_law_228 (by decide) ?_
  refine lv_iadd hx hb dL_law_229 ?_
  refine lv_topi (fun z_16 ez_16 => ?_)
  obtain rfl : z_16 = 2 := ez_16.trans (by decide)
  refine va_sld hx hb hX hbl hbA hS (pk_in 2 7 (by decide) (by decide) (by decide)) dL_law_230 ?_
  refine lv_topi (fun z_17 ez_17 => ?_)
  replace ez_17 : z_17 = xs 2 := ez_17
  subst z_17
  refine lv_aload_n hx hb dL_law_231 rfl (lv_at hl 4 rfl) ?_
  refine lv_iload hx hb dL_law_232 (lv_at hl 0 rfl) ?_
  refine lv_iconst (v := 3) hx hb dL_law_234 (by decide) ?_
  refine lv_iadd hx hb dL_law_235 ?_
  refine lv_topi (fun z_18 ez_18 => ?_)
  obtain rfl : z_18 = 3 := ez_18.trans (by decide)
  refine va_sld hx hb hX hbl hbA hS (pk_in 3 7 (by decide) (by decide) (by decide)) dL_law_236 ?_
  refine lv_topi (fun z_19 ez_19 => ?_)
  replace ez_19 : z_19 = xs 3 := ez_19
  subst z_19
  refine lv_aload_n hx hb dL_law_237 rfl (lv_at hl 4 rfl) ?_
  refine lv_iload hx hb dL_law_238 (lv_at hl 0 rfl) ?_
  refine lv_iconst (v := 4) hx hb dL_law_240 (by decide) ?_
  refine lv_iadd hx hb dL_law_241 ?_
  refine lv_topi (fun z_20 ez_20 => ?_)
  obtain rfl : z_20 = 4 := ez_20.trans (by decide)
  refine va_sld hx hb hX hbl hbA hS (pk_in 4 7 (by decide) (by decide) (by decide)) dL_law_242 ?_
  refine lv_topi (fun z_21 ez_21 => ?_)
  replace ez_21 : z_21 = xs 4 := ez_21
  subst z_21
  refine lv_aload_n hx hb dL_law_243 rfl (lv_at hl 4 rfl) ?_
  refine lv_iload hx hb dL_law_244 (lv_at hl 0 rfl) ?_
  refine lv_iconst (v := 5) hx hb dL_law_246 (by decide) ?_
  refine lv_iadd hx hb dL_law_247 ?_
  refine lv_topi (fun z_22 ez_22 => ?_)
  obtain rfl : z_22 = 5 := ez_22.trans (by decide)
  refine va_sld hx hb hX hbl hbA hS (pk_in 5 7 (by decide) (by decide) (by decide)) dL_law_248 ?_
  refine lv_topi (fun z_23 ez_23 => ?_)
  replace ez_23 : z_23 = xs 5 := ez_23
  subst z_23
  have hPc := hP.sub (ws' := [(mm, .inr (11, [.int 0, .ref mm_tape, .int 0, .ref mm_number, .ref mm_clockName, .ref mm_clockOff, .ref mm_clockGain, .ref mm_clockRough, .ref mm_personName, .ref mm_personOff, .ref mm_personGain, .ref mm_personRough, .ref mm_custom, .ref mm_customA, .ref mm_customB, .ref mm_ruleFrom, .ref mm_ruleTo, .ref mm_roundOf, .ref mm_roundAt, .ref mm_roundHour, .ref mm_gunAt, .ref mm_gunHour, .ref mm_knotSort, .ref mm_knotValue, .int 0, .int 0, .int 0, .int 0, .int 0, .int 0, .int 0, .int 0, .int 0, .int (-1), .int 0, .int 0, .int 0, .int 0, .int 0, .int 0, .int 0, .int 0, .int 0, .int 0, .int 0, .int 0, .ref mm_start, .ref mm_off, .ref mm_last, .ref mm_passed, .ref mm_kept, .ref mm_keptMany, .int 0, .int 0, .ref mm_history, .ref mm_names, .ref mm_worked, .int 0, .int 0, .int (-1), .ref mm_readThing, .ref mm_readHour, .ref mm_readLow, .ref mm_readHigh, .int 0, .int 0, .int 0, .ref mm_imageOff, .ref mm_imageLast, .ref mm_imagePassed, .ref mm_imageKept, .ref mm_imageMany, .ref mm_imageHistory])), (mm_tape, .inl (k_mm_tape, 700, .inl (fun _ => 0)))]) [0, 1] rfl
  have hDc := hD.sub (ws' := [(mm, .inr (11, [.int 0, .ref mm_tape, .int 0, .ref mm_number, .ref mm_clockName, .ref mm_clockOff, .ref mm_clockGain, .ref mm_clockRough, .ref mm_personName, .ref mm_personOff, .ref mm_personGain, .ref mm_personRough, .ref mm_custom, .ref mm_customA, .ref mm_customB, .ref mm_ruleFrom, .ref mm_ruleTo, .ref mm_roundOf, .ref mm_roundAt, .ref mm_roundHour, .ref mm_gunAt, .ref mm_gunHour, .ref mm_knotSort, .ref mm_knotValue, .int 0, .int 0, .int 0, .int 0, .int 0, .int 0, .int 0, .int 0, .int 0, .int (-1), .int 0, .int 0, .int 0, .int 0, .int 0, .int 0, .int 0, .int 0, .int 0, .int 0, .int 0, .int 0, .ref mm_start, .ref mm_off, .ref mm_last, .ref mm_passed, .ref mm_kept, .ref mm_keptMany, .int 0, .int 0, .ref mm_history, .ref mm_names, .ref mm_worked, .int 0, .int 0, .int (-1), .ref mm_readThing, .ref mm_readHour, .ref mm_readLow, .ref mm_readHigh, .int 0, .int 0, .int 0, .ref mm_imageOff, .ref mm_imageLast, .ref mm_imagePassed, .ref mm_imageKept, .ref mm_imageMany, .ref mm_imageHistory])), (mm_tape, .inl (k_mm_tape, 700, .inl (fun _ => 0)))]) [0, 1] (by decide) rfl
  have hKc := hK.sub (tys' := [(k_mm_tape, .int)]) [1] rfl
  have hFc := va_free (wc := [(mm, .inr (11, [.int 0, .ref mm_tape, .int 0, .ref mm_number, .ref mm_clockName, .ref mm_clockOff, .ref mm_clockGain, .ref mm_clockRough, .ref mm_personName, .ref mm_personOff, .ref mm_personGain, .ref mm_personRough, .ref mm_custom, .ref mm_customA, .ref mm_customB, .ref mm_ruleFrom, .ref mm_ruleTo, .ref mm_roundOf, .ref mm_roundAt, .ref mm_roundHour, .ref mm_gunAt, .ref mm_gunHour, .ref mm_knotSort, .ref mm_knotValue, .int 0, .int 0, .int 0, .int 0, .int 0, .int 0, .int 0, .int 0, .int 0, .int (-1), .int 0, .int 0, .int 0, .int 0, .int 0, .int 0, .int 0, .int 0, .int 0, .int 0, .int 0, .int 0, .ref mm_start, .ref mm_off, .ref mm_last, .ref mm_passed, .ref mm_kept, .ref mm_keptMany, .int 0, .int 0, .ref mm_history, .ref mm_names, .ref mm_worked, .int 0, .int 0, .int (-1), .ref mm_readThing, .ref mm_readHour, .ref mm_readLow, .ref mm_readHigh, .int 0, .int 0, .int 0, .ref mm_imageOff, .ref mm_imageLast, .ref mm_imagePassed, .ref mm_imageKept, .ref mm_imageMany, .ref mm_imageHistory])), (mm_tape, .inl (k_mm_tape, 700, .inl (fun _ => 0)))]) hD hS hA [0, 1] rfl
  refine va_calli (va_runV (As := [.int (xs 1), .int (xs 2), .int (xs 3), .int (xs 4), .int (xs 5)]) (rest := [.int 20]) ⟨hx, hb, hml, hown, hT⟩ (c_X11_feed l dC dI H.size mm (xs 1) (xs 2) (xs 3) (xs 4) (xs 5) (0 : Int32) mm_tape mm_number mm_clockName mm_clockOff mm_clockGain mm_clockRough mm_personName mm_personOff mm_personGain mm_personRough mm_custom mm_customA mm_customB mm_ruleFrom mm_ruleTo mm_roundOf mm_roundAt mm_roundHour mm_gunAt mm_gunHour mm_knotSort mm_knotValue (0 : Int32) (0 : Int32) (0 : Int32) (0 : Int32) (0 : Int32) (0 : Int32) (0 : Int32) (0 : Int32) (0 : Int32) ((-1) : Int32) (0 : Int32) (0 : Int32) (0 : Int32) (0 : Int32) (0 : Int32) (0 : Int32) (0 : Int32) (0 : Int32) (0 : Int32) (0 : Int32) (0 : Int32) (0 : Int32) mm_start mm_off mm_last mm_passed mm_kept mm_keptMany (0 : Int32) (0 : Int32) mm_history mm_names mm_worked (0 : Int32) (0 : Int32) ((-1) : Int32) mm_readThing mm_readHour mm_readLow mm_readHigh (0 : Int32) (0 : Int32) (0 : Int32) mm_imageOff mm_imageLast mm_imagePassed mm_imageKept mm_imageMany mm_imageHistory k_mm_tape (fun _ => 0) ) (cwV 5 hT (gwV mw_7_1 mw_7_2 mw_7_3 mw_1_16 mw_7_4) rfl rfl rfl (by decide +kernel) ⟨Nat.le_of_ble_eq_true rfl, Nat.le_of_ble_eq_true rfl⟩) ⟨fun a U g mk q => by obtain ⟨q0, q1, qP, qK, qD⟩ := q; exact ⟨q0, q1, qP, va_K.moved (u := U) (U := U.calling g mk a) (Vm.Alike.refl U.vm) qK, qD⟩, va_recv hK hP (ci := 11) (q0 := 0) rfl rfl, fun U hU hW => ⟨rfl, by rw [hU], by rw [hU]; exact hPc, va_K.moved hW.alike hKc, hDc.weaken (fun _ _ _ _ => trivial)⟩⟩ rfl rfl hl.1 rfl (lv_room (Nat.le_of_ble_eq_true rfl)) dL_law_249 ⟨Nat.le_of_ble_eq_true rfl, Nat.le_of_ble_eq_true rfl⟩) hS (fun q _ h => hFc q h) hFc (fun r_25 u t H1 locs ht hvm hw hB hz1 hk1 hS => ?_)
  obtain ⟨hP1, hD1⟩ := hB
  rw [ht] at hP1
  obtain ⟨hP, hD⟩ := va_join (wr := [(xx, .inr (10, [.ref rr, .ref ta, .ref tb, .ref pa, .ref pb, .ref cn, .ref ci, .int 0, .ref cp, .ref ct, .ref hs, .ref rd, .ref wy, .ref ea, .ref eb])), (rr, .inr (4, [.ref rr_tape, .int 20, .int 0, .int (-1), .ref tk, .null, .int 0, .int 0])), (rr_tape, .inl (k_rr_tape, 700, .inl x_13))]) (w1 := []) hP hD [0, 1] [2, 3, 4] rfl rfl (by decide) (by decide) hk1 hFc hP1 hD1
  generalize H1 = H at hP hS ⊢
  have hP : va_P (dC, dI) vwCl [(xx, .inr (10, [.ref rr, .ref ta, .ref tb, .ref pa, .ref pb, .ref cn, .ref ci, .int 0, .ref cp, .ref ct, .ref hs, .ref rd, .ref wy, .ref ea, .ref eb])), (rr, .inr (4, [.ref rr_tape, .int 20, .int 0, .int (-1), .ref tk, .null, .int 0, .int 0])), (rr_tape, .inl (k_rr_tape, 700, .inl x_13))] H := hP
  have hD : va_D A [(xx, .inr (10, [.ref rr, .ref ta, .ref tb, .ref pa, .ref pb, .ref cn, .ref ci, .int 0, .ref cp, .ref ct, .ref hs, .ref rd, .ref wy, .ref ea, .ref eb])), (rr, .inr (4, [.ref rr_tape, .int 20, .int 0, .int (-1), .ref tk, .null, .int 0, .int 0])), (rr_tape, .inl (k_rr_tape, 700, .inl x_13))] := hD
  clear hPc hDc hKc hFc hP1 hD1 hk1 hz1 ht hvm
  have hw : r_25 = 20 := hw
  subst r_25
  refine lv_icmp_eq (tgt := 1482) hx hb dL_law_252 (by decide) (fun c_26 => ?_) (fun c_26 => absurd c_26 (by decide))
  refine lv_iinc (v := 7) (lv' := [(4, .int 7), (3, .ref oo), (2, .ref mm), (1, .ref xx), (0, .ref b)]) hx hb dL_law_1482 hl (k := 0) rfl (by decide) (by decide) rfl (fun ls hl => ?_)
  refine lv_goto (tgt := 23) hx hb dL_law_1485 (by decide) ?_
  refine lv_iload hx hb dL_law_23 (lv_at hl 0 rfl) ?_
  refine lv_aload_n hx hb dL_law_25 rfl (lv_at hl 4 rfl) ?_
  refine va_slen hx hb hX hbl hbA hS dL_law_26 ?_
  refine lv_topi (fun z_27 ez_27 => ?_)
  obtain rfl : z_27 = 7 := ez_27.trans (by decide)
  refine lv_bipush (v := 7) hx hb dL_law_27 (by decide) ?_
  refine lv_isub hx hb dL_law_29 ?_
  refine lv_topi (fun z_28 ez_28 => ?_)
  obtain rfl : z_28 = 0 := ez_28.trans (by decide)
  refine lv_icmp_gt (tgt := 1488) hx hb dL_law_30 (by decide) (fun c_29 => ?_) (fun c_29 => absurd c_29 (by decide))
  refine lv_iconst (v := 1) hx hb dL_law_1488 (by decide) ?_
  refine va_forget (fun q hq => hAo _ (hS.2.2 q hq)) ?_
  refine W.widen (k := 600002) (n := 7302232) (Nat.le_of_ble_eq_true rfl) (Nat.le_of_ble_eq_true rfl) ?_
  exact lw_ret hx hb hr hlocks dL_law_1489
set_option maxHeartbeats 4000000 in
set_option maxRecDepth 100000 in
theorem law_op_1 {p : Program} {l : Launch} {e : Env} {s : State} {m : MethodId} {below : List Frame} {meth : Method} {c : Code} {dC : Nat → ClassId} {dI : Nat → Nat → Nat} {b : Nat} {xs : Nat → Int32} {A : Nat → Prop} (C0 : lw_At p s m meth c b 7 xs) (hA : ∀ q, s.heap.size ≤ q → A q) (hbA : ¬ A b) (hAo : ∀ q, A q → s.heap.size ≤ q) {xx : Nat} {rr : Nat} {ta : Nat} {tb : Nat} {pa : Nat} {pb : Nat} {cn : Nat} {ci : Nat} {cp : Nat} {ct : Nat} {hs : Nat} {rd : Nat} {wy : Nat} {ea : Nat} {eb : Nat} {rr_tape : Nat} {tk : Nat} {tk_kind : Nat} {tk_place : Nat} {tk_worth : Nat} {tk_language : Nat} {k_tk_kind : ClassId} {k_tk_place : ClassId} {k_tk_worth : ClassId} {tb_name : Nat} {tb_first : Nat} {tb_gain : Nat} {tb_rough : Nat} {tb_custom : Nat} {tb_part : Nat} {tb_whole : Nat} {tb_roundPerson : Nat} {tb_roundClock : Nat} {tb_roundHour : Nat} {tb_gunClock : Nat} {tb_gunHour : Nat} {tbu : Nat} {k_tb_first : ClassId} {k_tb_gain : ClassId} {k_tb_rough : ClassId} {k_tb_custom : ClassId} {k_tb_part : ClassId} {k_tb_whole : ClassId} {tbu_kind : Nat} {tbu_number : Nat} {tbu_from : Nat} {tbu_until : Nat} {tbu_names : Nat} {tbu_stack : Nat} {k_tbu_from : ClassId} {k_tbu_until : ClassId} {pa_first : Nat} {pa_gain : Nat} {pa_custom : Nat} {pa_ruled : Nat} {pa_deedHour : Nat} {pa_deedPerson : Nat} {pa_deedClock : Nat} {k_pa_first : ClassId} {k_pa_gain : ClassId} {k_pa_custom : ClassId} {k_pa_ruled : ClassId} {cn_last : Nat} {cn_passed : Nat} {cn_keptCount : Nat} {cn_off : Nat} {cn_since : Nat} {cn_kept : Nat} {cn_sorted : Nat} {k_cn_off : ClassId} {k_cn_since : ClassId} {k_cn_last : ClassId} {k_cn_passed : ClassId} {k_cn_keptCount : ClassId} {rd_slot : Nat} {rd_hour : Nat} {rd_low : Nat} {rd_high : Nat} {rd_byHour : Nat} {wy_seconds : Nat} {ea_least : Nat} {ea_leastAt : Nat} {ea_most : Nat} {ea_mostAt : Nat} {eb_least : Nat} {eb_leastAt : Nat} {eb_most : Nat} {eb_mostAt : Nat} {mm : Nat} {mm_tape : Nat} {mm_number : Nat} {mm_clockName : Nat} {mm_clockOff : Nat} {mm_clockGain : Nat} {mm_clockRough : Nat} {mm_personName : Nat} {mm_personOff : Nat} {mm_personGain : Nat} {mm_personRough : Nat} {mm_custom : Nat} {mm_customA : Nat} {mm_customB : Nat} {mm_ruleFrom : Nat} {mm_ruleTo : Nat} {mm_roundOf : Nat} {mm_roundAt : Nat} {mm_roundHour : Nat} {mm_gunAt : Nat} {mm_gunHour : Nat} {mm_knotSort : Nat} {mm_knotValue : Nat} {mm_start : Nat} {mm_off : Nat} {mm_last : Nat} {mm_passed : Nat} {mm_kept : Nat} {mm_keptMany : Nat} {mm_history : Nat} {mm_names : Nat} {mm_worked : Nat} {mm_readThing : Nat} {mm_readHour : Nat} {mm_readLow : Nat} {mm_readHigh : Nat} {mm_imageOff : Nat} {mm_imageLast : Nat} {mm_imagePassed : Nat} {mm_imageKept : Nat} {mm_imageMany : Nat} {mm_imageHistory : Nat} {k_mm_number : ClassId} {k_mm_clockName : ClassId} {k_mm_clockOff : ClassId} {k_mm_clockGain : ClassId} {k_mm_clockRough : ClassId} {k_mm_personName : ClassId} {k_mm_personOff : ClassId} {k_mm_personGain : ClassId} {k_mm_personRough : ClassId} {k_mm_custom : ClassId} {k_mm_customA : ClassId} {k_mm_customB : ClassId} {k_mm_ruleFrom : ClassId} {k_mm_ruleTo : ClassId} {k_mm_roundOf : ClassId} {k_mm_roundAt : ClassId} {k_mm_roundHour : ClassId} {k_mm_gunAt : ClassId} {k_mm_gunHour : ClassId} {k_mm_knotSort : ClassId} {k_mm_knotValue : ClassId} {k_mm_off : ClassId} {k_mm_last : ClassId} {k_mm_passed : ClassId} {k_mm_keptMany : ClassId} {oo : Nat} {H : Heap} {locs : List Loc} {ls : Array Slot} (hK : va_K (dC, dI) vwCl [(k_tk_kind, .int), (k_tk_place, .int), (k_tk_worth, .int), (k_tb_first, .int), (k_tb_gain, .int), (k_tb_rough, .int), (k_tb_custom, .int), (k_tb_part, .int), (k_tb_whole, .int), (k_tbu_from, .int), (k_tbu_until, .int), (k_pa_first, .int), (k_pa_gain, .int), (k_pa_custom, .int), (k_pa_ruled, .boolean), (k_cn_off, .int), (k_cn_since, .int), (k_cn_last, .int), (k_cn_passed, .int), (k_cn_keptCount, .int), (k_mm_number, .int), (k_mm_clockName, .int), (k_mm_clockOff, .int), (k_mm_clockGain, .int), (k_mm_clockRough, .int), (k_mm_personName, .int), (k_mm_personOff, .int), (k_mm_personGain, .int), (k_mm_personRough, .int), (k_mm_custom, .int), (k_mm_customA, .int), (k_mm_customB, .int), (k_mm_ruleFrom, .int), (k_mm_ruleTo, .int), (k_mm_roundOf, .int), (k_mm_roundAt, .int), (k_mm_roundHour, .int), (k_mm_gunAt, .int), (k_mm_gunHour, .int), (k_mm_knotSort, .int), (k_mm_knotValue, .int), (k_mm_off, .int), (k_mm_last, .int), (k_mm_passed, .int), (k_mm_keptMany, .int)] s) (hP : va_P (dC, dI) vwCl [(xx, .inr (10, [.ref rr, .ref ta, .ref tb, .ref pa, .ref pb, .ref cn, .ref ci, .int 0, .ref cp, .ref ct, .ref hs, .ref rd, .ref wy, .ref ea, .ref eb])), (rr, .inr (4, [.ref rr_tape, .int 0, .int 0, .int (-1), .ref tk, .null, .int 0, .int 0])), (tk, .inr (7, [.int 0, .ref tk_kind, .ref tk_place, .ref tk_worth, .ref tk_language])), (tk_kind, .inl (k_tk_kind, 701, .inl (fun _ => 0))), (tk_place, .inl (k_tk_place, 701, .inl (fun _ => 0))), (tk_worth, .inl (k_tk_worth, 701, .inl (fun _ => 0))), (tb, .inr (8, [.int 0, .int 0, .int 0, .int 0, .int 0, .ref tb_name, .ref tb_first, .ref tb_gain, .ref tb_rough, .ref tb_custom, .ref tb_part, .ref tb_whole, .ref tb_roundPerson, .ref tb_roundClock, .ref tb_roundHour, .ref tb_gunClock, .ref tb_gunHour, .ref tbu])), (tb_first, .inl (k_tb_first, 10, .inl (fun _ => 0))), (tb_gain, .inl (k_tb_gain, 10, .inl (fun _ => 0))), (tb_rough, .inl (k_tb_rough, 10, .inl (fun _ => 0))), (tb_custom, .inl (k_tb_custom, 5, .inl (fun _ => 0))), (tb_part, .inl (k_tb_part, 5, .inl (fun _ => 0))), (tb_whole, .inl (k_tb_whole, 5, .inl (fun _ => 0))), (tbu, .inr (6, [.int 0, .ref tbu_kind, .ref tbu_number, .ref tbu_from, .ref tbu_until, .ref tbu_names, .ref tbu_stack])), (tbu_from, .inl (k_tbu_from, 5, .inl (fun _ => 0))), (tbu_until, .inl (k_tbu_until, 5, .inl (fun _ => 0))), (pa, .inr (3, [.ref ta, .ref pa_first, .ref pa_gain, .ref pa_custom, .ref pa_ruled, .int 0, .ref pa_deedHour, .ref pa_deedPerson, .ref pa_deedClock])), (pa_first, .inl (k_pa_first, 10, .inl (fun _ => 0))), (pa_gain, .inl (k_pa_gain, 10, .inl (fun _ => 0))), (pa_custom, .inl (k_pa_custom, 5, .inl (fun _ => 0))), (pa_ruled, .inl (k_pa_ruled, 5, .inl (fun _ => 0))), (cn, .inr (0, [.ref pa, .int 0, .int 0, .ref cn_last, .ref cn_passed, .ref cn_keptCount, .int 0, .int 0, .int 0, .int 0, .ref cn_off, .ref cn_since, .ref cn_kept, .ref cn_sorted])), (cn_off, .inl (k_cn_off, 10, .inl (fun _ => 0))), (cn_since, .inl (k_cn_since, 10, .inl (fun _ => 0))), (cn_last, .inl (k_cn_last, 5, .inl (fun _ => 0))), (cn_passed, .inl (k_cn_passed, 5, .inl (fun _ => 0))), (cn_keptCount, .inl (k_cn_keptCount, 5, .inl (fun _ => 0))), (rd, .inr (5, [.int 0, .int (-1), .ref rd_slot, .ref rd_hour, .ref rd_low, .ref rd_high, .ref rd_byHour])), (wy, .inr (9, [.int (-1), .int 0, .ref wy_seconds])), (ea, .inr (1, [.ref ea_least, .ref ea_leastAt, .ref ea_most, .ref ea_mostAt, .int (-1), .int (-1), .int (-1)])), (eb, .inr (1, [.ref eb_least, .ref eb_leastAt, .ref eb_most, .ref eb_mostAt, .int (-1), .int (-1), .int (-1)])), (mm, .inr (11, [.int 0, .ref mm_tape, .int 0, .ref mm_number, .ref mm_clockName, .ref mm_clockOff, .ref mm_clockGain, .ref mm_clockRough, .ref mm_personName, .ref mm_personOff, .ref mm_personGain, .ref mm_personRough, .ref mm_custom, .ref mm_customA, .ref mm_customB, .ref mm_ruleFrom, .ref mm_ruleTo, .ref mm_roundOf, .ref mm_roundAt, .ref mm_roundHour, .ref mm_gunAt, .ref mm_gunHour, .ref mm_knotSort, .ref mm_knotValue, .int 0, .int 0, .int 0, .int 0, .int 0, .int 0, .int 0, .int 0, .int 0, .int (-1), .int 0, .int 0, .int 0, .int 0, .int 0, .int 0, .int 0, .int 0, .int 0, .int 0, .int 0, .int 0, .ref mm_start, .ref mm_off, .ref mm_last, .ref mm_passed, .ref mm_kept, .ref mm_keptMany, .int 0, .int 0, .ref mm_history, .ref mm_names, .ref mm_worked, .int 0, .int 0, .int (-1), .ref mm_readThing, .ref mm_readHour, .ref mm_readLow, .ref mm_readHigh, .int 0, .int 0, .int 0, .ref mm_imageOff, .ref mm_imageLast, .ref mm_imagePassed, .ref mm_imageKept, .ref mm_imageMany, .ref mm_imageHistory])), (mm_number, .inl (k_mm_number, 10, .inl (fun _ => 0))), (mm_clockName, .inl (k_mm_clockName, 10, .inl (fun _ => 0))), (mm_clockOff, .inl (k_mm_clockOff, 10, .inl (fun _ => 0))), (mm_clockGain, .inl (k_mm_clockGain, 10, .inl (fun _ => 0))), (mm_clockRough, .inl (k_mm_clockRough, 10, .inl (fun _ => 0))), (mm_personName, .inl (k_mm_personName, 10, .inl (fun _ => 0))), (mm_personOff, .inl (k_mm_personOff, 10, .inl (fun _ => 0))), (mm_personGain, .inl (k_mm_personGain, 10, .inl (fun _ => 0))), (mm_personRough, .inl (k_mm_personRough, 10, .inl (fun _ => 0))), (mm_custom, .inl (k_mm_custom, 10, .inl (fun _ => 0))), (mm_customA, .inl (k_mm_customA, 10, .inl (fun _ => 0))), (mm_customB, .inl (k_mm_customB, 10, .inl (fun _ => 0))), (mm_ruleFrom, .inl (k_mm_ruleFrom, 10, .inl (fun _ => 0))), (mm_ruleTo, .inl (k_mm_ruleTo, 10, .inl (fun _ => 0))), (mm_roundOf, .inl (k_mm_roundOf, 24, .inl (fun _ => 0))), (mm_roundAt, .inl (k_mm_roundAt, 24, .inl (fun _ => 0))), (mm_roundHour, .inl (k_mm_roundHour, 24, .inl (fun _ => 0))), (mm_gunAt, .inl (k_mm_gunAt, 6, .inl (fun _ => 0))), (mm_gunHour, .inl (k_mm_gunHour, 6, .inl (fun _ => 0))), (mm_knotSort, .inl (k_mm_knotSort, 128, .inl (fun _ => 0))), (mm_knotValue, .inl (k_mm_knotValue, 128, .inl (fun _ => 0))), (mm_off, .inl (k_mm_off, 20, .inl (fun _ => 0))), (mm_last, .inl (k_mm_last, 10, .inl (fun _ => 0))), (mm_passed, .inl (k_mm_passed, 10, .inl (fun _ => 0))), (mm_keptMany, .inl (k_mm_keptMany, 10, .inl (fun _ => 0)))] H) (hD : va_D A [(xx, .inr (10, [.ref rr, .ref ta, .ref tb, .ref pa, .ref pb, .ref cn, .ref ci, .int 0, .ref cp, .ref ct, .ref hs, .ref rd, .ref wy, .ref ea, .ref eb])), (rr, .inr (4, [.ref rr_tape, .int 0, .int 0, .int (-1), .ref tk, .null, .int 0, .int 0])), (tk, .inr (7, [.int 0, .ref tk_kind, .ref tk_place, .ref tk_worth, .ref tk_language])), (tk_kind, .inl (k_tk_kind, 701, .inl (fun _ => 0))), (tk_place, .inl (k_tk_place, 701, .inl (fun _ => 0))), (tk_worth, .inl (k_tk_worth, 701, .inl (fun _ => 0))), (tb, .inr (8, [.int 0, .int 0, .int 0, .int 0, .int 0, .ref tb_name, .ref tb_first, .ref tb_gain, .ref tb_rough, .ref tb_custom, .ref tb_part, .ref tb_whole, .ref tb_roundPerson, .ref tb_roundClock, .ref tb_roundHour, .ref tb_gunClock, .ref tb_gunHour, .ref tbu])), (tb_first, .inl (k_tb_first, 10, .inl (fun _ => 0))), (tb_gain, .inl (k_tb_gain, 10, .inl (fun _ => 0))), (tb_rough, .inl (k_tb_rough, 10, .inl (fun _ => 0))), (tb_custom, .inl (k_tb_custom, 5, .inl (fun _ => 0))), (tb_part, .inl (k_tb_part, 5, .inl (fun _ => 0))), (tb_whole, .inl (k_tb_whole, 5, .inl (fun _ => 0))), (tbu, .inr (6, [.int 0, .ref tbu_kind, .ref tbu_number, .ref tbu_from, .ref tbu_until, .ref tbu_names, .ref tbu_stack])), (tbu_from, .inl (k_tbu_from, 5, .inl (fun _ => 0))), (tbu_until, .inl (k_tbu_until, 5, .inl (fun _ => 0))), (pa, .inr (3, [.ref ta, .ref pa_first, .ref pa_gain, .ref pa_custom, .ref pa_ruled, .int 0, .ref pa_deedHour, .ref pa_deedPerson, .ref pa_deedClock])), (pa_first, .inl (k_pa_first, 10, .inl (fun _ => 0))), (pa_gain, .inl (k_pa_gain, 10, .inl (fun _ => 0))), (pa_custom, .inl (k_pa_custom, 5, .inl (fun _ => 0))), (pa_ruled, .inl (k_pa_ruled, 5, .inl (fun _ => 0))), (cn, .inr (0, [.ref pa, .int 0, .int 0, .ref cn_last, .ref cn_passed, .ref cn_keptCount, .int 0, .int 0, .int 0, .int 0, .ref cn_off, .ref cn_since, .ref cn_kept, .ref cn_sorted])), (cn_off, .inl (k_cn_off, 10, .inl (fun _ => 0))), (cn_since, .inl (k_cn_since, 10, .inl (fun _ => 0))), (cn_last, .inl (k_cn_last, 5, .inl (fun _ => 0))), (cn_passed, .inl (k_cn_passed, 5, .inl (fun _ => 0))), (cn_keptCount, .inl (k_cn_keptCount, 5, .inl (fun _ => 0))), (rd, .inr (5, [.int 0, .int (-1), .ref rd_slot, .ref rd_hour, .ref rd_low, .ref rd_high, .ref rd_byHour])), (wy, .inr (9, [.int (-1), .int 0, .ref wy_seconds])), (ea, .inr (1, [.ref ea_least, .ref ea_leastAt, .ref ea_most, .ref ea_mostAt, .int (-1), .int (-1), .int (-1)])), (eb, .inr (1, [.ref eb_least, .ref eb_leastAt, .ref eb_most, .ref eb_mostAt, .int (-1), .int (-1), .int (-1)])), (mm, .inr (11, [.int 0, .ref mm_tape, .int 0, .ref mm_number, .ref mm_clockName, .ref mm_clockOff, .ref mm_clockGain, .ref mm_clockRough, .ref mm_personName, .ref mm_personOff, .ref mm_personGain, .ref mm_personRough, .ref mm_custom, .ref mm_customA, .ref mm_customB, .ref mm_ruleFrom, .ref mm_ruleTo, .ref mm_roundOf, .ref mm_roundAt, .ref mm_roundHour, .ref mm_gunAt, .ref mm_gunHour, .ref mm_knotSort, .ref mm_knotValue, .int 0, .int 0, .int 0, .int 0, .int 0, .int 0, .int 0, .int 0, .int 0, .int (-1), .int 0, .int 0, .int 0, .int 0, .int 0, .int 0, .int 0, .int 0, .int 0, .int 0, .int 0, .int 0, .ref mm_start, .ref mm_off, .ref mm_last, .ref mm_passed, .ref mm_kept, .ref mm_keptMany, .int 0, .int 0, .ref mm_history, .ref mm_names, .ref mm_worked, .int 0, .int 0, .int (-1), .ref mm_readThing, .ref mm_readHour, .ref mm_readLow, .ref mm_readHigh, .int 0, .int 0, .int 0, .ref mm_imageOff, .ref mm_imageLast, .ref mm_imagePassed, .ref mm_imageKept, .ref mm_imageMany, .ref mm_imageHistory])), (mm_number, .inl (k_mm_number, 10, .inl (fun _ => 0))), (mm_clockName, .inl (k_mm_clockName, 10, .inl (fun _ => 0))), (mm_clockOff, .inl (k_mm_clockOff, 10, .inl (fun _ => 0))), (mm_clockGain, .inl (k_mm_clockGain, 10, .inl (fun _ => 0))), (mm_clockRough, .inl (k_mm_clockRough, 10, .inl (fun _ => 0))), (mm_personName, .inl (k_mm_personName, 10, .inl (fun _ => 0))), (mm_personOff, .inl (k_mm_personOff, 10, .inl (fun _ => 0))), (mm_personGain, .inl (k_mm_personGain, 10, .inl (fun _ => 0))), (mm_personRough, .inl (k_mm_personRough, 10, .inl (fun _ => 0))), (mm_custom, .inl (k_mm_custom, 10, .inl (fun _ => 0))), (mm_customA, .inl (k_mm_customA, 10, .inl (fun _ => 0))), (mm_customB, .inl (k_mm_customB, 10, .inl (fun _ => 0))), (mm_ruleFrom, .inl (k_mm_ruleFrom, 10, .inl (fun _ => 0))), (mm_ruleTo, .inl (k_mm_ruleTo, 10, .inl (fun _ => 0))), (mm_roundOf, .inl (k_mm_roundOf, 24, .inl (fun _ => 0))), (mm_roundAt, .inl (k_mm_roundAt, 24, .inl (fun _ => 0))), (mm_roundHour, .inl (k_mm_roundHour, 24, .inl (fun _ => 0))), (mm_gunAt, .inl (k_mm_gunAt, 6, .inl (fun _ => 0))), (mm_gunHour, .inl (k_mm_gunHour, 6, .inl (fun _ => 0))), (mm_knotSort, .inl (k_mm_knotSort, 128, .inl (fun _ => 0))), (mm_knotValue, .inl (k_mm_knotValue, 128, .inl (fun _ => 0))), (mm_off, .inl (k_mm_off, 20, .inl (fun _ => 0))), (mm_last, .inl (k_mm_last, 10, .inl (fun _ => 0))), (mm_passed, .inl (k_mm_passed, 10, .inl (fun _ => 0))), (mm_keptMany, .inl (k_mm_keptMany, 10, .inl (fun _ => 0)))]) (hS : va_S A s.heap H locs) (hl : lv_has ls 7 [(4, .int 0), (3, .ref oo), (2, .ref mm), (1, .ref xx), (0, .ref b)]) : W p l e room_1 s m #[Value.ref b] below meth c H locs 160 67979 (lw_Z below #[Value.ref b] s) (F0 m 257 ls []) := by
  obtain ⟨hx, hb, hr, hml, hown, hts, hX, hbl, hlocks, hgv⟩ := C0
  have hT : ∀ w ∈ pw_T, w.before #[Value.ref b] s = true := fun w h => hts w (List.mem_filter.mp h).1
  have hown : s.vm.findClass RL = some m.cls := hown
  refine lv_aload_n hx hb dL_law_257 rfl (lv_at hl 3 rfl) ?_
  refine lv_aload_n hx hb dL_law_258 rfl (lv_at hl 4 rfl) ?_
  refine lv_iload hx hb dL_law_259 (lv_at hl 0 rfl) ?_
  refine lv_iconst (v := 1) hx hb dL_law_261 (by decide) ?_
  refine lv_iadd hx hb dL_law_262 ?_
  refine lv_topi (fun z_1 ez_1 => ?_)
  obtain rfl : z_1 = 1 := ez_1.trans (by decide)
  refine va_sld hx hb hX hbl hbA hS (pk_in 1 7 (by decide) (by decide) (by decide)) dL_law_263 ?_
  refine lv_topi (fun z_2 ez_2 => ?_)
  replace ez_2 : z_2 = xs 1 := ez_2
  subst z_2
  have hPc := hP.sub (ws' := [(xx, .inr (10, [.ref rr, .ref ta, .ref tb, .ref pa, .ref pb, .ref cn, .ref ci, .int 0, .ref cp, .ref ct, .ref hs, .ref rd, .ref wy, .ref ea, .ref eb])), (rr, .inr (4, [.ref rr_tape, .int 0, .int 0, .int (-1), .ref tk, .null, .int 0, .int 0])), (tk, .inr (7, [.int 0, .ref tk_kind, .ref tk_place, .ref tk_worth, .ref tk_language])), (tk_kind, .inl (k_tk_kind, 701, .inl (fun _ => 0))), (tk_place, .inl (k_tk_place, 701, .inl (fun _ => 0))), (tk_worth, .inl (k_tk_worth, 701, .inl (fun _ => 0))), (tb, .inr (8, [.int 0, .int 0, .int 0, .int 0, .int 0, .ref tb_name, .ref tb_first, .ref tb_gain, .ref tb_rough, .ref tb_custom, .ref tb_part, .ref tb_whole, .ref tb_roundPerson, .ref tb_roundClock, .ref tb_roundHour, .ref tb_gunClock, .ref tb_gunHour, .ref tbu])), (tb_first, .inl (k_tb_first, 10, .inl (fun _ => 0))), (tb_gain, .inl (k_tb_gain, 10, .inl (fun _ => 0))), (tb_rough, .inl (k_tb_rough, 10, .inl (fun _ => 0))), (tb_custom, .inl (k_tb_custom, 5, .inl (fun _ => 0))), (tb_part, .inl (k_tb_part, 5, .inl (fun _ => 0))), (tb_whole, .inl (k_tb_whole, 5, .inl (fun _ => 0))), (tbu, .inr (6, [.int 0, .ref tbu_kind, .ref tbu_number, .ref tbu_from, .ref tbu_until, .ref tbu_names, .ref tbu_stack])), (tbu_from, .inl (k_tbu_from, 5, .inl (fun _ => 0))), (tbu_until, .inl (k_tbu_until, 5, .inl (fun _ => 0))), (pa, .inr (3, [.ref ta, .ref pa_first, .ref pa_gain, .ref pa_custom, .ref pa_ruled, .int 0, .ref pa_deedHour, .ref pa_deedPerson, .ref pa_deedClock])), (pa_first, .inl (k_pa_first, 10, .inl (fun _ => 0))), (pa_gain, .inl (k_pa_gain, 10, .inl (fun _ => 0))), (pa_custom, .inl (k_pa_custom, 5, .inl (fun _ => 0))), (pa_ruled, .inl (k_pa_ruled, 5, .inl (fun _ => 0))), (cn, .inr (0, [.ref pa, .int 0, .int 0, .ref cn_last, .ref cn_passed, .ref cn_keptCount, .int 0, .int 0, .int 0, .int 0, .ref cn_off, .ref cn_since, .ref cn_kept, .ref cn_sorted])), (cn_off, .inl (k_cn_off, 10, .inl (fun _ => 0))), (cn_since, .inl (k_cn_since, 10, .inl (fun _ => 0))), (cn_last, .inl (k_cn_last, 5, .inl (fun _ => 0))), (cn_passed, .inl (k_cn_passed, 5, .inl (fun _ => 0))), (cn_keptCount, .inl (k_cn_keptCount, 5, .inl (fun _ => 0))), (rd, .inr (5, [.int 0, .int (-1), .ref rd_slot, .ref rd_hour, .ref rd_low, .ref rd_high, .ref rd_byHour])), (wy, .inr (9, [.int (-1), .int 0, .ref wy_seconds])), (ea, .inr (1, [.ref ea_least, .ref ea_leastAt, .ref ea_most, .ref ea_mostAt, .int (-1), .int (-1), .int (-1)])), (eb, .inr (1, [.ref eb_least, .ref eb_leastAt, .ref eb_most, .ref eb_mostAt, .int (-1), .int (-1), .int (-1)]))]) [0, 1, 2, 3, 4, 5, 6, 7, 8, 9, 10, 11, 12, 13, 14, 15, 16, 17, 18, 19, 20, 21, 22, 23, 24, 25, 26, 27, 28, 29, 30] rfl
  have hDc := hD.sub (ws' := [(xx, .inr (10, [.ref rr, .ref ta, .ref tb, .ref pa, .ref pb, .ref cn, .ref ci, .int 0, .ref cp, .ref ct, .ref hs, .ref rd, .ref wy, .ref ea, .ref eb])), (rr, .inr (4, [.ref rr_tape, .int 0, .int 0, .int (-1), .ref tk, .null, .int 0, .int 0])), (tk, .inr (7, [.int 0, .ref tk_kind, .ref tk_place, .ref tk_worth, .ref tk_language])), (tk_kind, .inl (k_tk_kind, 701, .inl (fun _ => 0))), (tk_place, .inl (k_tk_place, 701, .inl (fun _ => 0))), (tk_worth, .inl (k_tk_worth, 701, .inl (fun _ => 0))), (tb, .inr (8, [.int 0, .int 0, .int 0, .int 0, .int 0, .ref tb_name, .ref tb_first, .ref tb_gain, .ref tb_rough, .ref tb_custom, .ref tb_part, .ref tb_whole, .ref tb_roundPerson, .ref tb_roundClock, .ref tb_roundHour, .ref tb_gunClock, .ref tb_gunHour, .ref tbu])), (tb_first, .inl (k_tb_first, 10, .inl (fun _ => 0))), (tb_gain, .inl (k_tb_gain, 10, .inl (fun _ => 0))), (tb_rough, .inl (k_tb_rough, 10, .inl (fun _ => 0))), (tb_custom, .inl (k_tb_custom, 5, .inl (fun _ => 0))), (tb_part, .inl (k_tb_part, 5, .inl (fun _ => 0))), (tb_whole, .inl (k_tb_whole, 5, .inl (fun _ => 0))), (tbu, .inr (6, [.int 0, .ref tbu_kind, .ref tbu_number, .ref tbu_from, .ref tbu_until, .ref tbu_names, .ref tbu_stack])), (tbu_from, .inl (k_tbu_from, 5, .inl (fun _ => 0))), (tbu_until, .inl (k_tbu_until, 5, .inl (fun _ => 0))), (pa, .inr (3, [.ref ta, .ref pa_first, .ref pa_gain, .ref pa_custom, .ref pa_ruled, .int 0, .ref pa_deedHour, .ref pa_deedPerson, .ref pa_deedClock])), (pa_first, .inl (k_pa_first, 10, .inl (fun _ => 0))), (pa_gain, .inl (k_pa_gain, 10, .inl (fun _ => 0))), (pa_custom, .inl (k_pa_custom, 5, .inl (fun _ => 0))), (pa_ruled, .inl (k_pa_ruled, 5, .inl (fun _ => 0))), (cn, .inr (0, [.ref pa, .int 0, .int 0, .ref cn_last, .ref cn_passed, .ref cn_keptCount, .int 0, .int 0, .int 0, .int 0, .ref cn_off, .ref cn_since, .ref cn_kept, .ref cn_sorted])), (cn_off, .inl (k_cn_off, 10, .inl (fun _ => 0))), (cn_since, .inl (k_cn_since, 10, .inl (fun _ => 0))), (cn_last, .inl (k_cn_last, 5, .inl (fun _ => 0))), (cn_passed, .inl (k_cn_passed, 5, .inl (fun _ => 0))), (cn_keptCount, .inl (k_cn_keptCount, 5, .inl (fun _ => 0))), (rd, .inr (5, [.int 0, .int (-1), .ref rd_slot, .ref rd_hour, .ref rd_low, .ref rd_high, .ref rd_byHour])), (wy, .inr (9, [.int (-1), .int 0, .ref wy_seconds])), (ea, .inr (1, [.ref ea_least, .ref ea_leastAt, .ref ea_most, .ref ea_mostAt, .int (-1), .int (-1), .int (-1)])), (eb, .inr (1, [.ref eb_least, .ref eb_leastAt, .ref eb_most, .ref eb_mostAt, .int (-1), .int (-1), .int (-1)]))]) [0, 1, 2, 3, 4, 5, 6, 7, 8, 9, 10, 11, 12, 13, 14, 15, 16, 17, 18, 19, 20, 21, 22, 23, 24, 25, 26, 27, 28, 29, 30] (by decide) rfl
  have hKc := hK.sub (tys' := [(k_tk_kind, .int), (k_tk_place, .int), (k_tk_worth, .int), (k_tb_first, .int), (k_tb_gain, .int), (k_tb_rough, .int), (k_tb_custom, .int), (k_tb_part, .int), (k_tb_whole, .int), (k_tbu_from, .int), (k_tbu_until, .int), (k_pa_first, .int), (k_pa_gain, .int), (k_pa_custom, .int), (k_pa_ruled, .boolean), (k_cn_off, .int), (k_cn_since, .int), (k_cn_last, .int), (k_cn_passed, .int), (k_cn_keptCount, .int)]) [0, 1, 2, 3, 4, 5, 6, 7, 8, 9, 10, 11, 12, 13, 14, 15, 16, 17, 18, 19] rfl
  have hFc := va_free (wc := [(xx, .inr (10, [.ref rr, .ref ta, .ref tb, .ref pa, .ref pb, .ref cn, .ref ci, .int 0, .ref cp, .ref ct, .ref hs, .ref rd, .ref wy, .ref ea, .ref eb])), (rr, .inr (4, [.ref rr_tape, .int 0, .int 0, .int (-1), .ref tk, .null, .int 0, .int 0])), (tk, .inr (7, [.int 0, .ref tk_kind, .ref tk_place, .ref tk_worth, .ref tk_language])), (tk_kind, .inl (k_tk_kind, 701, .inl (fun _ => 0))), (tk_place, .inl (k_tk_place, 701, .inl (fun _ => 0))), (tk_worth, .inl (k_tk_worth, 701, .inl (fun _ => 0))), (tb, .inr (8, [.int 0, .int 0, .int 0, .int 0, .int 0, .ref tb_name, .ref tb_first, .ref tb_gain, .ref tb_rough, .ref tb_custom, .ref tb_part, .ref tb_whole, .ref tb_roundPerson, .ref tb_roundClock, .ref tb_roundHour, .ref tb_gunClock, .ref tb_gunHour, .ref tbu])), (tb_first, .inl (k_tb_first, 10, .inl (fun _ => 0))), (tb_gain, .inl (k_tb_gain, 10, .inl (fun _ => 0))), (tb_rough, .inl (k_tb_rough, 10, .inl (fun _ => 0))), (tb_custom, .inl (k_tb_custom, 5, .inl (fun _ => 0))), (tb_part, .inl (k_tb_part, 5, .inl (fun _ => 0))), (tb_whole, .inl (k_tb_whole, 5, .inl (fun _ => 0))), (tbu, .inr (6, [.int 0, .ref tbu_kind, .ref tbu_number, .ref tbu_from, .ref tbu_until, .ref tbu_names, .ref tbu_stack])), (tbu_from, .inl (k_tbu_from, 5, .inl (fun _ => 0))), (tbu_until, .inl (k_tbu_until, 5, .inl (fun _ => 0))), (pa, .inr (3, [.ref ta, .ref pa_first, .ref pa_gain, .ref pa_custom, .ref pa_ruled, .int 0, .ref pa_deedHour, .ref pa_deedPerson, .ref pa_deedClock])), (pa_first, .inl (k_pa_first, 10, .inl (fun _ => 0))), (pa_gain, .inl (k_pa_gain, 10, .inl (fun _ => 0))), (pa_custom, .inl (k_pa_custom, 5, .inl (fun _ => 0))), (pa_ruled, .inl (k_pa_ruled, 5, .inl (fun _ => 0))), (cn, .inr (0, [.ref pa, .int 0, .int 0, .ref cn_last, .ref cn_passed, .ref cn_keptCount, .int 0, .int 0, .int 0, .int 0, .ref cn_off, .ref cn_since, .ref cn_kept, .ref cn_sorted])), (cn_off, .inl (k_cn_off, 10, .inl (fun _ => 0))), (cn_since, .inl (k_cn_since, 10, .inl (fun _ => 0))), (cn_last, .inl (k_cn_last, 5, .inl (fun _ => 0))), (cn_passed, .inl (k_cn_passed, 5, .inl (fun _ => 0))), (cn_keptCount, .inl (k_cn_keptCount, 5, .inl (fun _ => 0))), (rd, .inr (5, [.int 0, .int (-1), .ref rd_slot, .ref rd_hour, .ref rd_low, .ref rd_high, .ref rd_byHour])), (wy, .inr (9, [.int (-1), .int 0, .ref wy_seconds])), (ea, .inr (1, [.ref ea_least, .ref ea_leastAt, .ref ea_most, .ref ea_mostAt, .int (-1), .int (-1), .int (-1)])), (eb, .inr (1, [.ref eb_least, .ref eb_leastAt, .ref eb_most, .ref eb_mostAt, .int (-1), .int (-1), .int (-1)]))]) hD hS hA [0, 1, 2, 3, 4, 5, 6, 7, 8, 9, 10, 11, 12, 13, 14, 15, 16, 17, 18, 19, 20, 21, 22, 23, 24, 25, 26, 27, 28, 29, 30] rfl
  have := (by decide : (0 : Int32).toInt = 0)
  have := (by decide : (0 : Int32).toInt = 0)
  have := (by decide : ((-1) : Int32).toInt = -1)
  have := (by decide : (0 : Int32).toInt = 0)
  have := (by decide : (0 : Int32).toInt = 0)
  have := (by decide : (0 : Int32).toInt = 0)
  have := (by decide : (0 : Int32).toInt = 0)
  have := (by decide : (0 : Int32).toInt = 0)
  have := (by decide : (0 : Int32).toInt = 0)
  have := (by decide : (0 : Int32).toInt = 0)
  have := (by decide : (0 : Int32).toInt = 0)
  have := (by decide : (0 : Int32).toInt = 0)
  have := (by decide : (0 : Int32).toInt = 0)
  have := (by decide : (0 : Int32).toInt = 0)
  have := (by decide : (0 : Int32).toInt = 0)
  have := (by decide : (0 : Int32).toInt = 0)
  have := (by decide : (0 : Int32).toInt = 0)
  have := (by decide : (0 : Int32).toInt = 0)
  have := (by decide : (0 : Int32).toInt = 0)
  have := (by decide : (0 : Int32).toInt = 0)
  have := (by decide : ((-1) : Int32).toInt = -1)
  have := (by decide : ((-1) : Int32).toInt = -1)
  have := (by decide : (0 : Int32).toInt = 0)
  have := (by decide : ((-1) : Int32).toInt = -1)
  have := (by decide : ((-1) : Int32).toInt = -1)
  have := (by decide : ((-1) : Int32).toInt = -1)
  have := (by decide : ((-1) : Int32).toInt = -1)
  have := (by decide : ((-1) : Int32).toInt = -1)
  have := (by decide : ((-1) : Int32).toInt = -1)
  refine va_calli (va_runV (As := [.int (xs 1)]) (rest := []) ⟨hx, hb, hml, hown, hT⟩ (c_X10_text l dC dI H.size xx (xs 1) rr ta tb pa pb cn ci (0 : Int32) cp ct hs rd wy ea eb rr_tape (0 : Int32) ((-1) : Int32) tk (0 : Int32) (0 : Int32) (0 : Int32) tk_kind tk_place tk_worth tk_language k_tk_kind (fun _ => 0) k_tk_place (fun _ => 0) k_tk_worth (fun _ => 0) (0 : Int32) (0 : Int32) (0 : Int32) (0 : Int32) (0 : Int32) tb_name tb_first tb_gain tb_rough tb_custom tb_part tb_whole tb_roundPerson tb_roundClock tb_roundHour tb_gunClock tb_gunHour tbu k_tb_first (fun _ => 0) k_tb_gain (fun _ => 0) k_tb_rough (fun _ => 0) k_tb_custom (fun _ => 0) k_tb_part (fun _ => 0) k_tb_whole (fun _ => 0) (0 : Int32) tbu_kind tbu_number tbu_from tbu_until tbu_names tbu_stack k_tbu_from (fun _ => 0) k_tbu_until (fun _ => 0) ta pa_first pa_gain pa_custom pa_ruled (0 : Int32) pa_deedHour pa_deedPerson pa_deedClock k_pa_first (fun _ => 0) k_pa_gain (fun _ => 0) k_pa_custom (fun _ => 0) k_pa_ruled (fun _ => 0) pa (0 : Int32) (0 : Int32) cn_last cn_passed cn_keptCount (0 : Int32) (0 : Int32) (0 : Int32) (0 : Int32) cn_off cn_since cn_kept cn_sorted k_cn_off (fun _ => 0) k_cn_since (fun _ => 0) k_cn_last (fun _ => 0) k_cn_passed (fun _ => 0) k_cn_keptCount (fun _ => 0) (0 : Int32) ((-1) : Int32) rd_slot rd_hour rd_low rd_high rd_byHour ((-1) : Int32) (0 : Int32) wy_seconds ea_least ea_leastAt ea_most ea_mostAt ((-1) : Int32) ((-1) : Int32) ((-1) : Int32) eb_least eb_leastAt eb_most eb_mostAt ((-1) : Int32) ((-1) : Int32) ((-1) : Int32) (fun _ => rfl)) (cwV 1 hT (gwV mw_3_67 mw_3_68 mw_3_69 mw_1_1 mw_3_70) rfl rfl rfl (by decide +kernel) ⟨Nat.le_of_ble_eq_true rfl, Nat.le_of_ble_eq_true rfl⟩) ⟨fun a U g mk q => by obtain ⟨q0, q1, qP, qK, qD⟩ := q; exact ⟨q0, q1, qP, va_K.moved (u := U) (U := U.calling g mk a) (Vm.Alike.refl U.vm) qK, qD⟩, va_recv hK hP (ci := 10) (q0 := 0) rfl rfl, fun U hU hW => ⟨rfl, by rw [hU], by rw [hU]; exact hPc, va_K.moved hW.alike hKc, hDc.weaken (fun _ _ _ _ => trivial)⟩⟩ rfl rfl hl.1 rfl (lv_room (Nat.le_of_ble_eq_true rfl)) dL_law_264 ⟨Nat.le_of_ble_eq_true rfl, Nat.le_of_ble_eq_true rfl⟩) hS (fun q _ h => hFc q h) hFc (fun r_4 u t H1 locs ht hvm hw hB hz1 hk1 hS => ?_)
  obtain ⟨hP1, hD1⟩ := hB
  rw [ht] at hP1
  obtain ⟨hP, hD⟩ := va_join (wr := [(mm, .inr (11, [.int 0, .ref mm_tape, .int 0, .ref mm_number, .ref mm_clockName, .ref mm_clockOff, .ref mm_clockGain, .ref mm_clockRough, .ref mm_personName, .ref mm_personOff, .ref mm_personGain, .ref mm_personRough, .ref mm_custom, .ref mm_customA, .ref mm_customB, .ref mm_ruleFrom, .ref mm_ruleTo, .ref mm_roundOf, .ref mm_roundAt, .ref mm_roundHour, .ref mm_gunAt, .ref mm_gunHour, .ref mm_knotSort, .ref mm_knotValue, .int 0, .int 0, .int 0, .int 0, .int 0, .int 0, .int 0, .int 0, .int 0, .int (-1), .int 0, .int 0, .int 0, .int 0, .int 0, .int 0, .int 0, .int 0, .int 0, .int 0, .int 0, .int 0, .ref mm_start, .ref mm_off, .ref mm_last, .ref mm_passed, .ref mm_kept, .ref mm_keptMany, .int 0, .int 0, .ref mm_history, .ref mm_names, .ref mm_worked, .int 0, .int 0, .int (-1), .ref mm_readThing, .ref mm_readHour, .ref mm_readLow, .ref mm_readHigh, .int 0, .int 0, .int 0, .ref mm_imageOff, .ref mm_imageLast, .ref mm_imagePassed, .ref mm_imageKept, .ref mm_imageMany, .ref mm_imageHistory])), (mm_number, .inl (k_mm_number, 10, .inl (fun _ => 0))), (mm_clockName, .inl (k_mm_clockName, 10, .inl (fun _ => 0))), (mm_clockOff, .inl (k_mm_clockOff, 10, .inl (fun _ => 0))), (mm_clockGain, .inl (k_mm_clockGain, 10, .inl (fun _ => 0))), (mm_clockRough, .inl (k_mm_clockRough, 10, .inl (fun _ => 0))), (mm_personName, .inl (k_mm_personName, 10, .inl (fun _ => 0))), (mm_personOff, .inl (k_mm_personOff, 10, .inl (fun _ => 0))), (mm_personGain, .inl (k_mm_personGain, 10, .inl (fun _ => 0))), (mm_personRough, .inl (k_mm_personRough, 10, .inl (fun _ => 0))), (mm_custom, .inl (k_mm_custom, 10, .inl (fun _ => 0))), (mm_customA, .inl (k_mm_customA, 10, .inl (fun _ => 0))), (mm_customB, .inl (k_mm_customB, 10, .inl (fun _ => 0))), (mm_ruleFrom, .inl (k_mm_ruleFrom, 10, .inl (fun _ => 0))), (mm_ruleTo, .inl (k_mm_ruleTo, 10, .inl (fun _ => 0))), (mm_roundOf, .inl (k_mm_roundOf, 24, .inl (fun _ => 0))), (mm_roundAt, .inl (k_mm_roundAt, 24, .inl (fun _ => 0))), (mm_roundHour, .inl (k_mm_roundHour, 24, .inl (fun _ => 0))), (mm_gunAt, .inl (k_mm_gunAt, 6, .inl (fun _ => 0))), (mm_gunHour, .inl (k_mm_gunHour, 6, .inl (fun _ => 0))), (mm_knotSort, .inl (k_mm_knotSort, 128, .inl (fun _ => 0))), (mm_knotValue, .inl (k_mm_knotValue, 128, .inl (fun _ => 0))), (mm_off, .inl (k_mm_off, 20, .inl (fun _ => 0))), (mm_last, .inl (k_mm_last, 10, .inl (fun _ => 0))), (mm_passed, .inl (k_mm_passed, 10, .inl (fun _ => 0))), (mm_keptMany, .inl (k_mm_keptMany, 10, .inl (fun _ => 0)))]) (w1 := []) hP hD [0, 1, 2, 3, 4, 5, 6, 7, 8, 9, 10, 11, 12, 13, 14, 15, 16, 17, 18, 19, 20, 21, 22, 23, 24, 25, 26, 27, 28, 29, 30] [31, 32, 33, 34, 35, 36, 37, 38, 39, 40, 41, 42, 43, 44, 45, 46, 47, 48, 49, 50, 51, 52, 53, 54, 55, 56] rfl rfl (by decide) (by decide) hk1 hFc hP1 hD1
  generalize H1 = H at hP hS ⊢
  have hP : va_P (dC, dI) vwCl [(mm, .inr (11, [.int 0, .ref mm_tape, .int 0, .ref mm_number, .ref mm_clockName, .ref mm_clockOff, .ref mm_clockGain, .ref mm_clockRough, .ref mm_personName, .ref mm_personOff, .ref mm_personGain, .ref mm_personRough, .ref mm_custom, .ref mm_customA, .ref mm_customB, .ref mm_ruleFrom, .ref mm_ruleTo, .ref mm_roundOf, .ref mm_roundAt, .ref mm_roundHour, .ref mm_gunAt, .ref mm_gunHour, .ref mm_knotSort, .ref mm_knotValue, .int 0, .int 0, .int 0, .int 0, .int 0, .int 0, .int 0, .int 0, .int 0, .int (-1), .int 0, .int 0, .int 0, .int 0, .int 0, .int 0, .int 0, .int 0, .int 0, .int 0, .int 0, .int 0, .ref mm_start, .ref mm_off, .ref mm_last, .ref mm_passed, .ref mm_kept, .ref mm_keptMany, .int 0, .int 0, .ref mm_history, .ref mm_names, .ref mm_worked, .int 0, .int 0, .int (-1), .ref mm_readThing, .ref mm_readHour, .ref mm_readLow, .ref mm_readHigh, .int 0, .int 0, .int 0, .ref mm_imageOff, .ref mm_imageLast, .ref mm_imagePassed, .ref mm_imageKept, .ref mm_imageMany, .ref mm_imageHistory])), (mm_number, .inl (k_mm_number, 10, .inl (fun _ => 0))), (mm_clockName, .inl (k_mm_clockName, 10, .inl (fun _ => 0))), (mm_clockOff, .inl (k_mm_clockOff, 10, .inl (fun _ => 0))), (mm_clockGain, .inl (k_mm_clockGain, 10, .inl (fun _ => 0))), (mm_clockRough, .inl (k_mm_clockRough, 10, .inl (fun _ => 0))), (mm_personName, .inl (k_mm_personName, 10, .inl (fun _ => 0))), (mm_personOff, .inl (k_mm_personOff, 10, .inl (fun _ => 0))), (mm_personGain, .inl (k_mm_personGain, 10, .inl (fun _ => 0))), (mm_personRough, .inl (k_mm_personRough, 10, .inl (fun _ => 0))), (mm_custom, .inl (k_mm_custom, 10, .inl (fun _ => 0))), (mm_customA, .inl (k_mm_customA, 10, .inl (fun _ => 0))), (mm_customB, .inl (k_mm_customB, 10, .inl (fun _ => 0))), (mm_ruleFrom, .inl (k_mm_ruleFrom, 10, .inl (fun _ => 0))), (mm_ruleTo, .inl (k_mm_ruleTo, 10, .inl (fun _ => 0))), (mm_roundOf, .inl (k_mm_roundOf, 24, .inl (fun _ => 0))), (mm_roundAt, .inl (k_mm_roundAt, 24, .inl (fun _ => 0))), (mm_roundHour, .inl (k_mm_roundHour, 24, .inl (fun _ => 0))), (mm_gunAt, .inl (k_mm_gunAt, 6, .inl (fun _ => 0))), (mm_gunHour, .inl (k_mm_gunHour, 6, .inl (fun _ => 0))), (mm_knotSort, .inl (k_mm_knotSort, 128, .inl (fun _ => 0))), (mm_knotValue, .inl (k_mm_knotValue, 128, .inl (fun _ => 0))), (mm_off, .inl (k_mm_off, 20, .inl (fun _ => 0))), (mm_last, .inl (k_mm_last, 10, .inl (fun _ => 0))), (mm_passed, .inl (k_mm_passed, 10, .inl (fun _ => 0))), (mm_keptMany, .inl (k_mm_keptMany, 10, .inl (fun _ => 0)))] H := hP
  have hD : va_D A [(mm, .inr (11, [.int 0, .ref mm_tape, .int 0, .ref mm_number, .ref mm_clockName, .ref mm_clockOff, .ref mm_clockGain, .ref mm_clockRough, .ref mm_personName, .ref mm_personOff, .ref mm_personGain, .ref mm_personRough, .ref mm_custom, .ref mm_customA, .ref mm_customB, .ref mm_ruleFrom, .ref mm_ruleTo, .ref mm_roundOf, .ref mm_roundAt, .ref mm_roundHour, .ref mm_gunAt, .ref mm_gunHour, .ref mm_knotSort, .ref mm_knotValue, .int 0, .int 0, .int 0, .int 0, .int 0, .int 0, .int 0, .int 0, .int 0, .int (-1), .int 0, .int 0, .int 0, .int 0, .int 0, .int 0, .int 0, .int 0, .int 0, .int 0, .int 0, .int 0, .ref mm_start, .ref mm_off, .ref mm_last, .ref mm_passed, .ref mm_kept, .ref mm_keptMany, .int 0, .int 0, .ref mm_history, .ref mm_names, .ref mm_worked, .int 0, .int 0, .int (-1), .ref mm_readThing, .ref mm_readHour, .ref mm_readLow, .ref mm_readHigh, .int 0, .int 0, .int 0, .ref mm_imageOff, .ref mm_imageLast, .ref mm_imagePassed, .ref mm_imageKept, .ref mm_imageMany, .ref mm_imageHistory])), (mm_number, .inl (k_mm_number, 10, .inl (fun _ => 0))), (mm_clockName, .inl (k_mm_clockName, 10, .inl (fun _ => 0))), (mm_clockOff, .inl (k_mm_clockOff, 10, .inl (fun _ => 0))), (mm_clockGain, .inl (k_mm_clockGain, 10, .inl (fun _ => 0))), (mm_clockRough, .inl (k_mm_clockRough, 10, .inl (fun _ => 0))), (mm_personName, .inl (k_mm_personName, 10, .inl (fun _ => 0))), (mm_personOff, .inl (k_mm_personOff, 10, .inl (fun _ => 0))), (mm_personGain, .inl (k_mm_personGain, 10, .inl (fun _ => 0))), (mm_personRough, .inl (k_mm_personRough, 10, .inl (fun _ => 0))), (mm_custom, .inl (k_mm_custom, 10, .inl (fun _ => 0))), (mm_customA, .inl (k_mm_customA, 10, .inl (fun _ => 0))), (mm_customB, .inl (k_mm_customB, 10, .inl (fun _ => 0))), (mm_ruleFrom, .inl (k_mm_ruleFrom, 10, .inl (fun _ => 0))), (mm_ruleTo, .inl (k_mm_ruleTo, 10, .inl (fun _ => 0))), (mm_roundOf, .inl (k_mm_roundOf, 24, .inl (fun _ => 0))), (mm_roundAt, .inl (k_mm_roundAt, 24, .inl (fun _ => 0))), (mm_roundHour, .inl (k_mm_roundHour, 24, .inl (fun _ => 0))), (mm_gunAt, .inl (k_mm_gunAt, 6, .inl (fun _ => 0))), (mm_gunHour, .inl (k_mm_gunHour, 6, .inl (fun _ => 0))), (mm_knotSort, .inl (k_mm_knotSort, 128, .inl (fun _ => 0))), (mm_knotValue, .inl (k_mm_knotValue, 128, .inl (fun _ => 0))), (mm_off, .inl (k_mm_off, 20, .inl (fun _ => 0))), (mm_last, .inl (k_mm_last, 10, .inl (fun _ => 0))), (mm_passed, .inl (k_mm_passed, 10, .inl (fun _ => 0))), (mm_keptMany, .inl (k_mm_keptMany, 10, .inl (fun _ => 0)))] := hD
  clear hPc hDc hKc hFc hP1 hD1 hk1 hz1 ht hvm
  have hw : (r_4 = 0 ∧ (xs 1).toInt = 0) ∨ (r_4 = -2 ∧ (xs 1).toInt ≠ 0) := hw
  rcases hw with ⟨hrr_4, hfr_4⟩ | ⟨hrr_4, hfr_4⟩
  · subst r_4
    refine lv_aload_n hx hb dL_law_267 rfl (lv_at hl 2 rfl) ?_
    refine lv_aload_n hx hb dL_law_268 rfl (lv_at hl 4 rfl) ?_
    refine lv_iload hx hb dL_law_269 (lv_at hl 0 rfl) ?_
    refine lv_iconst (v := 1) hx hb dL_law_271 (by decide) ?_
    refine lv_iadd hx hb dL_law_272 ?_
    refine lv_topi (fun z_5 ez_5 => ?_)
    obtain rfl : z_5 = 1 := ez_5.trans (by decide)
    refine va_sld hx hb hX hbl hbA hS (pk_in 1 7 (by decide) (by decide) (by decide)) dL_law_273 ?_
    refine lv_topi (fun z_6 ez_6 => ?_)
    replace ez_6 : z_6 = xs 1 := ez_6
    subst z_6
    have hPc := hP.sub (ws' := [(mm, .inr (11, [.int 0, .ref mm_tape, .int 0, .ref mm_number, .ref mm_clockName, .ref mm_clockOff, .ref mm_clockGain, .ref mm_clockRough, .ref mm_personName, .ref mm_personOff, .ref mm_personGain, .ref mm_personRough, .ref mm_custom, .ref mm_customA, .ref mm_customB, .ref mm_ruleFrom, .ref mm_ruleTo, .ref mm_roundOf, .ref mm_roundAt, .ref mm_roundHour, .ref mm_gunAt, .ref mm_gunHour, .ref mm_knotSort, .ref mm_knotValue, .int 0, .int 0, .int 0, .int 0, .int 0, .int 0, .int 0, .int 0, .int 0, .int (-1), .int 0, .int 0, .int 0, .int 0, .int 0, .int 0, .int 0, .int 0, .int 0, .int 0, .int 0, .int 0, .ref mm_start, .ref mm_off, .ref mm_last, .ref mm_passed, .ref mm_kept, .ref mm_keptMany, .int 0, .int 0, .ref mm_history, .ref mm_names, .ref mm_worked, .int 0, .int 0, .int (-1), .ref mm_readThing, .ref mm_readHour, .ref mm_readLow, .ref mm_readHigh, .int 0, .int 0, .int 0, .ref mm_imageOff, .ref mm_imageLast, .ref mm_imagePassed, .ref mm_imageKept, .ref mm_imageMany, .ref mm_imageHistory])), (mm_number, .inl (k_mm_number, 10, .inl (fun _ => 0))), (mm_clockName, .inl (k_mm_clockName, 10, .inl (fun _ => 0))), (mm_clockOff, .inl (k_mm_clockOff, 10, .inl (fun _ => 0))), (mm_clockGain, .inl (k_mm_clockGain, 10, .inl (fun _ => 0))), (mm_clockRough, .inl (k_mm_clockRough, 10, .inl (fun _ => 0))), (mm_personName, .inl (k_mm_personName, 10, .inl (fun _ => 0))), (mm_personOff, .inl (k_mm_personOff, 10, .inl (fun _ => 0))), (mm_personGain, .inl (k_mm_personGain, 10, .inl (fun _ => 0))), (mm_personRough, .inl (k_mm_personRough, 10, .inl (fun _ => 0))), (mm_custom, .inl (k_mm_custom, 10, .inl (fun _ => 0))), (mm_customA, .inl (k_mm_customA, 10, .inl (fun _ => 0))), (mm_customB, .inl (k_mm_customB, 10, .inl (fun _ => 0))), (mm_ruleFrom, .inl (k_mm_ruleFrom, 10, .inl (fun _ => 0))), (mm_ruleTo, .inl (k_mm_ruleTo, 10, .inl (fun _ => 0))), (mm_roundOf, .inl (k_mm_roundOf, 24, .inl (fun _ => 0))), (mm_roundAt, .inl (k_mm_roundAt, 24, .inl (fun _ => 0))), (mm_roundHour, .inl (k_mm_roundHour, 24, .inl (fun _ => 0))), (mm_gunAt, .inl (k_mm_gunAt, 6, .inl (fun _ => 0))), (mm_gunHour, .inl (k_mm_gunHour, 6, .inl (fun _ => 0))), (mm_knotSort, .inl (k_mm_knotSort, 128, .inl (fun _ => 0))), (mm_knotValue, .inl (k_mm_knotValue, 128, .inl (fun _ => 0))), (mm_off, .inl (k_mm_off, 20, .inl (fun _ => 0))), (mm_last, .inl (k_mm_last, 10, .inl (fun _ => 0))), (mm_passed, .inl (k_mm_passed, 10, .inl (fun _ => 0))), (mm_keptMany, .inl (k_mm_keptMany, 10, .inl (fun _ => 0)))]) [0, 1, 2, 3, 4, 5, 6, 7, 8, 9, 10, 11, 12, 13, 14, 15, 16, 17, 18, 19, 20, 21, 22, 23, 24, 25] rfl
    have hDc := hD.sub (ws' := [(mm, .inr (11, [.int 0, .ref mm_tape, .int 0, .ref mm_number, .ref mm_clockName, .ref mm_clockOff, .ref mm_clockGain, .ref mm_clockRough, .ref mm_personName, .ref mm_personOff, .ref mm_personGain, .ref mm_personRough, .ref mm_custom, .ref mm_customA, .ref mm_customB, .ref mm_ruleFrom, .ref mm_ruleTo, .ref mm_roundOf, .ref mm_roundAt, .ref mm_roundHour, .ref mm_gunAt, .ref mm_gunHour, .ref mm_knotSort, .ref mm_knotValue, .int 0, .int 0, .int 0, .int 0, .int 0, .int 0, .int 0, .int 0, .int 0, .int (-1), .int 0, .int 0, .int 0, .int 0, .int 0, .int 0, .int 0, .int 0, .int 0, .int 0, .int 0, .int 0, .ref mm_start, .ref mm_off, .ref mm_last, .ref mm_passed, .ref mm_kept, .ref mm_keptMany, .int 0, .int 0, .ref mm_history, .ref mm_names, .ref mm_worked, .int 0, .int 0, .int (-1), .ref mm_readThing, .ref mm_readHour, .ref mm_readLow, .ref mm_readHigh, .int 0, .int 0, .int 0, .ref mm_imageOff, .ref mm_imageLast, .ref mm_imagePassed, .ref mm_imageKept, .ref mm_imageMany, .ref mm_imageHistory])), (mm_number, .inl (k_mm_number, 10, .inl (fun _ => 0))), (mm_clockName, .inl (k_mm_clockName, 10, .inl (fun _ => 0))), (mm_clockOff, .inl (k_mm_clockOff, 10, .inl (fun _ => 0))), (mm_clockGain, .inl (k_mm_clockGain, 10, .inl (fun _ => 0))), (mm_clockRough, .inl (k_mm_clockRough, 10, .inl (fun _ => 0))), (mm_personName, .inl (k_mm_personName, 10, .inl (fun _ => 0))), (mm_personOff, .inl (k_mm_personOff, 10, .inl (fun _ => 0))), (mm_personGain, .inl (k_mm_personGain, 10, .inl (fun _ => 0))), (mm_personRough, .inl (k_mm_personRough, 10, .inl (fun _ => 0))), (mm_custom, .inl (k_mm_custom, 10, .inl (fun _ => 0))), (mm_customA, .inl (k_mm_customA, 10, .inl (fun _ => 0))), (mm_customB, .inl (k_mm_customB, 10, .inl (fun _ => 0))), (mm_ruleFrom, .inl (k_mm_ruleFrom, 10, .inl (fun _ => 0))), (mm_ruleTo, .inl (k_mm_ruleTo, 10, .inl (fun _ => 0))), (mm_roundOf, .inl (k_mm_roundOf, 24, .inl (fun _ => 0))), (mm_roundAt, .inl (k_mm_roundAt, 24, .inl (fun _ => 0))), (mm_roundHour, .inl (k_mm_roundHour, 24, .inl (fun _ => 0))), (mm_gunAt, .inl (k_mm_gunAt, 6, .inl (fun _ => 0))), (mm_gunHour, .inl (k_mm_gunHour, 6, .inl (fun _ => 0))), (mm_knotSort, .inl (k_mm_knotSort, 128, .inl (fun _ => 0))), (mm_knotValue, .inl (k_mm_knotValue, 128, .inl (fun _ => 0))), (mm_off, .inl (k_mm_off, 20, .inl (fun _ => 0))), (mm_last, .inl (k_mm_last, 10, .inl (fun _ => 0))), (mm_passed, .inl (k_mm_passed, 10, .inl (fun _ => 0))), (mm_keptMany, .inl (k_mm_keptMany, 10, .inl (fun _ => 0)))]) [0, 1, 2, 3, 4, 5, 6, 7, 8, 9, 10, 11, 12, 13, 14, 15, 16, 17, 18, 19, 20, 21, 22, 23, 24, 25] (by decide) rfl
    have hKc := hK.sub (tys' := [(k_mm_number, .int), (k_mm_clockName, .int), (k_mm_clockOff, .int), (k_mm_clockGain, .int), (k_mm_clockRough, .int), (k_mm_personName, .int), (k_mm_personOff, .int), (k_mm_personGain, .int), (k_mm_personRough, .int), (k_mm_custom, .int), (k_mm_customA, .int), (k_mm_customB, .int), (k_mm_ruleFrom, .int), (k_mm_ruleTo, .int), (k_mm_roundOf, .int), (k_mm_roundAt, .int), (k_mm_roundHour, .int), (k_mm_gunAt, .int), (k_mm_gunHour, .int), (k_mm_knotSort, .int), (k_mm_knotValue, .int), (k_mm_off, .int), (k_mm_last, .int), (k_mm_passed, .int), (k_mm_keptMany, .int)]) [20, 21, 22, 23, 24, 25, 26, 27, 28, 29, 30, 31, 32, 33, 34, 35, 36, 37, 38, 39, 40, 41, 42, 43, 44] rfl
    have hFc := va_free (wc := [(mm, .inr (11, [.int 0, .ref mm_tape, .int 0, .ref mm_number, .ref mm_clockName, .ref mm_clockOff, .ref mm_clockGain, .ref mm_clockRough, .ref mm_personName, .ref mm_personOff, .ref mm_personGain, .ref mm_personRough, .ref mm_custom, .ref mm_customA, .ref mm_customB, .ref mm_ruleFrom, .ref mm_ruleTo, .ref mm_roundOf, .ref mm_roundAt, .ref mm_roundHour, .ref mm_gunAt, .ref mm_gunHour, .ref mm_knotSort, .ref mm_knotValue, .int 0, .int 0, .int 0, .int 0, .int 0, .int 0, .int 0, .int 0, .int 0, .int (-1), .int 0, .int 0, .int 0, .int 0, .int 0, .int 0, .int 0, .int 0, .int 0, .int 0, .int 0, .int 0, .ref mm_start, .ref mm_off, .ref mm_last, .ref mm_passed, .ref mm_kept, .ref mm_keptMany, .int 0, .int 0, .ref mm_history, .ref mm_names, .ref mm_worked, .int 0, .int 0, .int (-1), .ref mm_readThing, .ref mm_readHour, .ref mm_readLow, .ref mm_readHigh, .int 0, .int 0, .int 0, .ref mm_imageOff, .ref mm_imageLast, .ref mm_imagePassed, .ref mm_imageKept, .ref mm_imageMany, .ref mm_imageHistory])), (mm_number, .inl (k_mm_number, 10, .inl (fun _ => 0))), (mm_clockName, .inl (k_mm_clockName, 10, .inl (fun _ => 0))), (mm_clockOff, .inl (k_mm_clockOff, 10, .inl (fun _ => 0))), (mm_clockGain, .inl (k_mm_clockGain, 10, .inl (fun _ => 0))), (mm_clockRough, .inl (k_mm_clockRough, 10, .inl (fun _ => 0))), (mm_personName, .inl (k_mm_personName, 10, .inl (fun _ => 0))), (mm_personOff, .inl (k_mm_personOff, 10, .inl (fun _ => 0))), (mm_personGain, .inl (k_mm_personGain, 10, .inl (fun _ => 0))), (mm_personRough, .inl (k_mm_personRough, 10, .inl (fun _ => 0))), (mm_custom, .inl (k_mm_custom, 10, .inl (fun _ => 0))), (mm_customA, .inl (k_mm_customA, 10, .inl (fun _ => 0))), (mm_customB, .inl (k_mm_customB, 10, .inl (fun _ => 0))), (mm_ruleFrom, .inl (k_mm_ruleFrom, 10, .inl (fun _ => 0))), (mm_ruleTo, .inl (k_mm_ruleTo, 10, .inl (fun _ => 0))), (mm_roundOf, .inl (k_mm_roundOf, 24, .inl (fun _ => 0))), (mm_roundAt, .inl (k_mm_roundAt, 24, .inl (fun _ => 0))), (mm_roundHour, .inl (k_mm_roundHour, 24, .inl (fun _ => 0))), (mm_gunAt, .inl (k_mm_gunAt, 6, .inl (fun _ => 0))), (mm_gunHour, .inl (k_mm_gunHour, 6, .inl (fun _ => 0))), (mm_knotSort, .inl (k_mm_knotSort, 128, .inl (fun _ => 0))), (mm_knotValue, .inl (k_mm_knotValue, 128, .inl (fun _ => 0))), (mm_off, .inl (k_mm_off, 20, .inl (fun _ => 0))), (mm_last, .inl (k_mm_last, 10, .inl (fun _ => 0))), (mm_passed, .inl (k_mm_passed, 10, .inl (fun _ => 0))), (mm_keptMany, .inl (k_mm_keptMany, 10, .inl (fun _ => 0)))]) hD hS hA [0, 1, 2, 3, 4, 5, 6, 7, 8, 9, 10, 11, 12, 13, 14, 15, 16, 17, 18, 19, 20, 21, 22, 23, 24, 25] rfl
    have := (by decide : (0 : Int32).toInt = 0)
    have := (by decide : (0 : Int32).toInt = 0)
    have := (by decide : (0 : Int32).toInt = 0)
    have := (by decide : (0 : Int32).toInt = 0)
    have := (by decide : (0 : Int32).toInt = 0)
    have := (by decide : (0 : Int32).toInt = 0)
    have := (by decide : (0 : Int32).toInt = 0)
    have := (by decide : (0 : Int32).toInt = 0)
    have := (by decide : (0 : Int32).toInt = 0)
    have := (by decide : (0 : Int32).toInt = 0)
    have := (by decide : ((-1) : Int32).toInt = -1)
    have := (by decide : (0 : Int32).toInt = 0)
    have := (by decide : (0 : Int32).toInt = 0)
    have := (by decide : (0 : Int32).toInt = 0)
    have := (by decide : (0 : Int32).toInt = 0)
    have := (by decide : (0 : Int32).toInt = 0)
    have := (by decide : (0 : Int32).toInt = 0)
    have := (by decide : (0 : Int32).toInt = 0)
    have := (by decide : (0 : Int32).toInt = 0)
    have := (by decide : (0 : Int32).toInt = 0)
    have := (by decide : (0 : Int32).toInt = 0)
    have := (by decide : (0 : Int32).toInt = 0)
    have := (by decide : (0 : Int32).toInt = 0)
    have := (by decide : (0 : Int32).toInt = 0)
    have := (by decide : (0 : Int32).toInt = 0)
    have := (by decide : (0 : Int32).toInt = 0)
    have := (by decide : (0 : Int32).toInt = 0)
    have := (by decide : ((-1) : Int32).toInt = -1)
    have := (by decide : (0 : Int32).toInt = 0)
    have := (by decide : (0 : Int32).toInt = 0)
    have := (by decide : (0 : Int32).toInt = 0)
    refine va_calli (va_runV (As := [.int (xs 1)]) (rest := [.int 0]) ⟨hx, hb, hml, hown, hT⟩ (c_X11_text l dC dI H.size mm (xs 1) (0 : Int32) mm_tape mm_number mm_clockName mm_clockOff mm_clockGain mm_clockRough mm_personName mm_personOff mm_personGain mm_personRough mm_custom mm_customA mm_customB mm_ruleFrom mm_ruleTo mm_roundOf mm_roundAt mm_roundHour mm_gunAt mm_gunHour mm_knotSort mm_knotValue (0 : Int32) (0 : Int32) (0 : Int32) (0 : Int32) (0 : Int32) (0 : Int32) (0 : Int32) (0 : Int32) (0 : Int32) ((-1) : Int32) (0 : Int32) (0 : Int32) (0 : Int32) (0 : Int32) (0 : Int32) (0 : Int32) (0 : Int32) (0 : Int32) (0 : Int32) (0 : Int32) (0 : Int32) (0 : Int32) mm_start mm_off mm_last mm_passed mm_kept mm_keptMany (0 : Int32) (0 : Int32) mm_history mm_names mm_worked (0 : Int32) (0 : Int32) ((-1) : Int32) mm_readThing mm_readHour mm_readLow mm_readHigh (0 : Int32) (0 : Int32) (0 : Int32) mm_imageOff mm_imageLast mm_imagePassed mm_imageKept mm_imageMany mm_imageHistory k_mm_number (fun _ => 0) k_mm_clockName (fun _ => 0) k_mm_clockOff (fun _ => 0) k_mm_clockGain (fun _ => 0) k_mm_clockRough (fun _ => 0) k_mm_personName (fun _ => 0) k_mm_personOff (fun _ => 0) k_mm_personGain (fun _ => 0) k_mm_personRough (fun _ => 0) k_mm_custom (fun _ => 0) k_mm_customA (fun _ => 0) k_mm_customB (fun _ => 0) k_mm_ruleFrom (fun _ => 0) k_mm_ruleTo (fun _ => 0) k_mm_roundOf (fun _ => 0) k_mm_roundAt (fun _ => 0) k_mm_roundHour (fun _ => 0) k_mm_gunAt (fun _ => 0) k_mm_gunHour (fun _ => 0) k_mm_knotSort (fun _ => 0) k_mm_knotValue (fun _ => 0) k_mm_off (fun _ => 0) k_mm_last (fun _ => 0) k_mm_passed (fun _ => 0) k_mm_keptMany (fun _ => 0) (fun _ => rfl) (fun _ => rfl) (fun _ => rfl) (fun _ => rfl) (fun _ => rfl) (fun _ => rfl) (fun _ => rfl) (fun _ => rfl) (fun _ => rfl) (fun _ => rfl) (fun _ => rfl) (fun _ => rfl) (fun _ => rfl) (fun _ => rfl) (fun _ => rfl) (fun _ => rfl) (fun _ => rfl) (fun _ => rfl) (fun _ => rfl) (fun _ => rfl) (fun _ => rfl)) (cwV 1 hT (gwV mw_7_5 mw_7_6 mw_7_7 mw_1_16 mw_7_8) rfl rfl rfl (by decide +kernel) ⟨Nat.le_of_ble_eq_true rfl, Nat.le_of_ble_eq_true rfl⟩) ⟨fun a U g mk q => by obtain ⟨q0, q1, qP, qK, qD⟩ := q; exact ⟨q0, q1, qP, va_K.moved (u := U) (U := U.calling g mk a) (Vm.Alike.refl U.vm) qK, qD⟩, va_recv hK hP (ci := 11) (q0 := 0) rfl rfl, fun U hU hW => ⟨rfl, by rw [hU], by rw [hU]; exact hPc, va_K.moved hW.alike hKc, hDc.weaken (fun _ _ _ _ => trivial)⟩⟩ rfl rfl hl.1 rfl (lv_room (Nat.le_of_ble_eq_true rfl)) dL_law_274 ⟨Nat.le_of_ble_eq_true rfl, Nat.le_of_ble_eq_true rfl⟩) hS (fun q _ h => hFc q h) hFc (fun r_8 u t H1 locs ht hvm hw hB hz1 hk1 hS => ?_)
    obtain ⟨hP1, hD1⟩ := hB
    rw [ht] at hP1
    obtain ⟨hP, hD⟩ := va_join (wr := []) (w1 := []) hP hD [0, 1, 2, 3, 4, 5, 6, 7, 8, 9, 10, 11, 12, 13, 14, 15, 16, 17, 18, 19, 20, 21, 22, 23, 24, 25] [] rfl rfl (by decide) (by decide) hk1 hFc hP1 hD1
    generalize H1 = H at hP hS ⊢
    have hP : va_P (dC, dI) vwCl [] H := hP
    have hD : va_D A [] := hD
    clear hPc hDc hKc hFc hP1 hD1 hk1 hz1 ht hvm
    have hw : (r_8 = 0 ∧ (xs 1).toInt = 0) ∨ (r_8 = -2 ∧ (xs 1).toInt ≠ 0) := hw
    rcases hw with ⟨hrr_8, hfr_8⟩ | ⟨hrr_8, hfr_8⟩
    · subst r_8
      refine lv_icmp_eq (tgt := 1482) hx hb dL_law_277 (by decide) (fun c_9 => ?_) (fun c_9 => absurd c_9 (by decide))
      refine lv_iinc (v := 7) (lv' := [(4, .int 7), (3, .ref oo), (2, .ref mm), (1, .ref xx), (0, .ref b)]) hx hb dL_law_1482 hl (k := 0) rfl (by decide) (by decide) rfl (fun ls hl => ?_)
      refine lv_goto (tgt := 23) hx hb dL_law_1485 (by decide) ?_
      refine lv_iload hx hb dL_law_23 (lv_at hl 0 rfl) ?_
      refine lv_aload_n hx hb dL_law_25 rfl (lv_at hl 4 rfl) ?_
      refine va_slen hx hb hX hbl hbA hS dL_law_26 ?_
      refine lv_topi (fun z_10 ez_10 => ?_)
      obtain rfl : z_10 = 7 := ez_10.trans (by decide)
      refine lv_bipush (v := 7) hx hb dL_law_27 (by decide) ?_
      refine lv_isub hx hb dL_law_29 ?_
      refine lv_topi (fun z_11 ez_11 => ?_)
      obtain rfl : z_11 = 0 := ez_11.trans (by decide)
      refine lv_icmp_gt (tgt := 1488) hx hb dL_law_30 (by decide) (fun c_12 => ?_) (fun c_12 => absurd c_12 (by decide))
      refine lv_iconst (v := 1) hx hb dL_law_1488 (by decide) ?_
      refine va_forget (fun q hq => hAo _ (hS.2.2 q hq)) ?_
      refine W.widen (k := 600002) (n := 7302232) (Nat.le_of_ble_eq_true rfl) (Nat.le_of_ble_eq_true rfl) ?_
      exact lw_ret hx hb hr hlocks dL_law_1489
    · subst r_8
      exact False.elim (by omega)
  · subst r_4
    refine lv_aload_n hx hb dL_law_267 rfl (lv_at hl 2 rfl) ?_
    refine lv_aload_n hx hb dL_law_268 rfl (lv_at hl 4 rfl) ?_
    refine lv_iload hx hb dL_law_269 (lv_at hl 0 rfl) ?_
    refine lv_iconst (v := 1) hx hb dL_law_271 (by decide) ?_
    refine lv_iadd hx hb dL_law_272 ?_
    refine lv_topi (fun z_13 ez_13 => ?_)
    obtain rfl : z_13 = 1 := ez_13.trans (by decide)
    refine va_sld hx hb hX hbl hbA hS (pk_in 1 7 (by decide) (by decide) (by decide)) dL_law_273 ?_
    refine lv_topi (fun z_14 ez_14 => ?_)
    replace ez_14 : z_14 = xs 1 := ez_14
    subst z_14
    have hPc := hP.sub (ws' := [(mm, .inr (11, [.int 0, .ref mm_tape, .int 0, .ref mm_number, .ref mm_clockName, .ref mm_clockOff, .ref mm_clockGain, .ref mm_clockRough, .ref mm_personName, .ref mm_personOff, .ref mm_personGain, .ref mm_personRough, .ref mm_custom, .ref mm_customA, .ref mm_customB, .ref mm_ruleFrom, .ref mm_ruleTo, .ref mm_roundOf, .ref mm_roundAt, .ref mm_roundHour, .ref mm_gunAt, .ref mm_gunHour, .ref mm_knotSort, .ref mm_knotValue, .int 0, .int 0, .int 0, .int 0, .int 0, .int 0, .int 0, .int 0, .int 0, .int (-1), .int 0, .int 0, .int 0, .int 0, .int 0, .int 0, .int 0, .int 0, .int 0, .int 0, .int 0, .int 0, .ref mm_start, .ref mm_off, .ref mm_last, .ref mm_passed, .ref mm_kept, .ref mm_keptMany, .int 0, .int 0, .ref mm_history, .ref mm_names, .ref mm_worked, .int 0, .int 0, .int (-1), .ref mm_readThing, .ref mm_readHour, .ref mm_readLow, .ref mm_readHigh, .int 0, .int 0, .int 0, .ref mm_imageOff, .ref mm_imageLast, .ref mm_imagePassed, .ref mm_imageKept, .ref mm_imageMany, .ref mm_imageHistory])), (mm_number, .inl (k_mm_number, 10, .inl (fun _ => 0))), (mm_clockName, .inl (k_mm_clockName, 10, .inl (fun _ => 0))), (mm_clockOff, .inl (k_mm_clockOff, 10, .inl (fun _ => 0))), (mm_clockGain, .inl (k_mm_clockGain, 10, .inl (fun _ => 0))), (mm_clockRough, .inl (k_mm_clockRough, 10, .inl (fun _ => 0))), (mm_personName, .inl (k_mm_personName, 10, .inl (fun _ => 0))), (mm_personOff, .inl (k_mm_personOff, 10, .inl (fun _ => 0))), (mm_personGain, .inl (k_mm_personGain, 10, .inl (fun _ => 0))), (mm_personRough, .inl (k_mm_personRough, 10, .inl (fun _ => 0))), (mm_custom, .inl (k_mm_custom, 10, .inl (fun _ => 0))), (mm_customA, .inl (k_mm_customA, 10, .inl (fun _ => 0))), (mm_customB, .inl (k_mm_customB, 10, .inl (fun _ => 0))), (mm_ruleFrom, .inl (k_mm_ruleFrom, 10, .inl (fun _ => 0))), (mm_ruleTo, .inl (k_mm_ruleTo, 10, .inl (fun _ => 0))), (mm_roundOf, .inl (k_mm_roundOf, 24, .inl (fun _ => 0))), (mm_roundAt, .inl (k_mm_roundAt, 24, .inl (fun _ => 0))), (mm_roundHour, .inl (k_mm_roundHour, 24, .inl (fun _ => 0))), (mm_gunAt, .inl (k_mm_gunAt, 6, .inl (fun _ => 0))), (mm_gunHour, .inl (k_mm_gunHour, 6, .inl (fun _ => 0))), (mm_knotSort, .inl (k_mm_knotSort, 128, .inl (fun _ => 0))), (mm_knotValue, .inl (k_mm_knotValue, 128, .inl (fun _ => 0))), (mm_off, .inl (k_mm_off, 20, .inl (fun _ => 0))), (mm_last, .inl (k_mm_last, 10, .inl (fun _ => 0))), (mm_passed, .inl (k_mm_passed, 10, .inl (fun _ => 0))), (mm_keptMany, .inl (k_mm_keptMany, 10, .inl (fun _ => 0)))]) [0, 1, 2, 3, 4, 5, 6, 7, 8, 9, 10, 11, 12, 13, 14, 15, 16, 17, 18, 19, 20, 21, 22, 23, 24, 25] rfl
    have hDc := hD.sub (ws' := [(mm, .inr (11, [.int 0, .ref mm_tape, .int 0, .ref mm_number, .ref mm_clockName, .ref mm_clockOff, .ref mm_clockGain, .ref mm_clockRough, .ref mm_personName, .ref mm_personOff, .ref mm_personGain, .ref mm_personRough, .ref mm_custom, .ref mm_customA, .ref mm_customB, .ref mm_ruleFrom, .ref mm_ruleTo, .ref mm_roundOf, .ref mm_roundAt, .ref mm_roundHour, .ref mm_gunAt, .ref mm_gunHour, .ref mm_knotSort, .ref mm_knotValue, .int 0, .int 0, .int 0, .int 0, .int 0, .int 0, .int 0, .int 0, .int 0, .int (-1), .int 0, .int 0, .int 0, .int 0, .int 0, .int 0, .int 0, .int 0, .int 0, .int 0, .int 0, .int 0, .ref mm_start, .ref mm_off, .ref mm_last, .ref mm_passed, .ref mm_kept, .ref mm_keptMany, .int 0, .int 0, .ref mm_history, .ref mm_names, .ref mm_worked, .int 0, .int 0, .int (-1), .ref mm_readThing, .ref mm_readHour, .ref mm_readLow, .ref mm_readHigh, .int 0, .int 0, .int 0, .ref mm_imageOff, .ref mm_imageLast, .ref mm_imagePassed, .ref mm_imageKept, .ref mm_imageMany, .ref mm_imageHistory])), (mm_number, .inl (k_mm_number, 10, .inl (fun _ => 0))), (mm_clockName, .inl (k_mm_clockName, 10, .inl (fun _ => 0))), (mm_clockOff, .inl (k_mm_clockOff, 10, .inl (fun _ => 0))), (mm_clockGain, .inl (k_mm_clockGain, 10, .inl (fun _ => 0))), (mm_clockRough, .inl (k_mm_clockRough, 10, .inl (fun _ => 0))), (mm_personName, .inl (k_mm_personName, 10, .inl (fun _ => 0))), (mm_personOff, .inl (k_mm_personOff, 10, .inl (fun _ => 0))), (mm_personGain, .inl (k_mm_personGain, 10, .inl (fun _ => 0))), (mm_personRough, .inl (k_mm_personRough, 10, .inl (fun _ => 0))), (mm_custom, .inl (k_mm_custom, 10, .inl (fun _ => 0))), (mm_customA, .inl (k_mm_customA, 10, .inl (fun _ => 0))), (mm_customB, .inl (k_mm_customB, 10, .inl (fun _ => 0))), (mm_ruleFrom, .inl (k_mm_ruleFrom, 10, .inl (fun _ => 0))), (mm_ruleTo, .inl (k_mm_ruleTo, 10, .inl (fun _ => 0))), (mm_roundOf, .inl (k_mm_roundOf, 24, .inl (fun _ => 0))), (mm_roundAt, .inl (k_mm_roundAt, 24, .inl (fun _ => 0))), (mm_roundHour, .inl (k_mm_roundHour, 24, .inl (fun _ => 0))), (mm_gunAt, .inl (k_mm_gunAt, 6, .inl (fun _ => 0))), (mm_gunHour, .inl (k_mm_gunHour, 6, .inl (fun _ => 0))), (mm_knotSort, .inl (k_mm_knotSort, 128, .inl (fun _ => 0))), (mm_knotValue, .inl (k_mm_knotValue, 128, .inl (fun _ => 0))), (mm_off, .inl (k_mm_off, 20, .inl (fun _ => 0))), (mm_last, .inl (k_mm_last, 10, .inl (fun _ => 0))), (mm_passed, .inl (k_mm_passed, 10, .inl (fun _ => 0))), (mm_keptMany, .inl (k_mm_keptMany, 10, .inl (fun _ => 0)))]) [0, 1, 2, 3, 4, 5, 6, 7, 8, 9, 10, 11, 12, 13, 14, 15, 16, 17, 18, 19, 20, 21, 22, 23, 24, 25] (by decide) rfl
    have hKc := hK.sub (tys' := [(k_mm_number, .int), (k_mm_clockName, .int), (k_mm_clockOff, .int), (k_mm_clockGain, .int), (k_mm_clockRough, .int), (k_mm_personName, .int), (k_mm_personOff, .int), (k_mm_personGain, .int), (k_mm_personRough, .int), (k_mm_custom, .int), (k_mm_customA, .int), (k_mm_customB, .int), (k_mm_ruleFrom, .int), (k_mm_ruleTo, .int), (k_mm_roundOf, .int), (k_mm_roundAt, .int), (k_mm_roundHour, .int), (k_mm_gunAt, .int), (k_mm_gunHour, .int), (k_mm_knotSort, .int), (k_mm_knotValue, .int), (k_mm_off, .int), (k_mm_last, .int), (k_mm_passed, .int), (k_mm_keptMany, .int)]) [20, 21, 22, 23, 24, 25, 26, 27, 28, 29, 30, 31, 32, 33, 34, 35, 36, 37, 38, 39, 40, 41, 42, 43, 44] rfl
    have hFc := va_free (wc := [(mm, .inr (11, [.int 0, .ref mm_tape, .int 0, .ref mm_number, .ref mm_clockName, .ref mm_clockOff, .ref mm_clockGain, .ref mm_clockRough, .ref mm_personName, .ref mm_personOff, .ref mm_personGain, .ref mm_personRough, .ref mm_custom, .ref mm_customA, .ref mm_customB, .ref mm_ruleFrom, .ref mm_ruleTo, .ref mm_roundOf, .ref mm_roundAt, .ref mm_roundHour, .ref mm_gunAt, .ref mm_gunHour, .ref mm_knotSort, .ref mm_knotValue, .int 0, .int 0, .int 0, .int 0, .int 0, .int 0, .int 0, .int 0, .int 0, .int (-1), .int 0, .int 0, .int 0, .int 0, .int 0, .int 0, .int 0, .int 0, .int 0, .int 0, .int 0, .int 0, .ref mm_start, .ref mm_off, .ref mm_last, .ref mm_passed, .ref mm_kept, .ref mm_keptMany, .int 0, .int 0, .ref mm_history, .ref mm_names, .ref mm_worked, .int 0, .int 0, .int (-1), .ref mm_readThing, .ref mm_readHour, .ref mm_readLow, .ref mm_readHigh, .int 0, .int 0, .int 0, .ref mm_imageOff, .ref mm_imageLast, .ref mm_imagePassed, .ref mm_imageKept, .ref mm_imageMany, .ref mm_imageHistory])), (mm_number, .inl (k_mm_number, 10, .inl (fun _ => 0))), (mm_clockName, .inl (k_mm_clockName, 10, .inl (fun _ => 0))), (mm_clockOff, .inl (k_mm_clockOff, 10, .inl (fun _ => 0))), (mm_clockGain, .inl (k_mm_clockGain, 10, .inl (fun _ => 0))), (mm_clockRough, .inl (k_mm_clockRough, 10, .inl (fun _ => 0))), (mm_personName, .inl (k_mm_personName, 10, .inl (fun _ => 0))), (mm_personOff, .inl (k_mm_personOff, 10, .inl (fun _ => 0))), (mm_personGain, .inl (k_mm_personGain, 10, .inl (fun _ => 0))), (mm_personRough, .inl (k_mm_personRough, 10, .inl (fun _ => 0))), (mm_custom, .inl (k_mm_custom, 10, .inl (fun _ => 0))), (mm_customA, .inl (k_mm_customA, 10, .inl (fun _ => 0))), (mm_customB, .inl (k_mm_customB, 10, .inl (fun _ => 0))), (mm_ruleFrom, .inl (k_mm_ruleFrom, 10, .inl (fun _ => 0))), (mm_ruleTo, .inl (k_mm_ruleTo, 10, .inl (fun _ => 0))), (mm_roundOf, .inl (k_mm_roundOf, 24, .inl (fun _ => 0))), (mm_roundAt, .inl (k_mm_roundAt, 24, .inl (fun _ => 0))), (mm_roundHour, .inl (k_mm_roundHour, 24, .inl (fun _ => 0))), (mm_gunAt, .inl (k_mm_gunAt, 6, .inl (fun _ => 0))), (mm_gunHour, .inl (k_mm_gunHour, 6, .inl (fun _ => 0))), (mm_knotSort, .inl (k_mm_knotSort, 128, .inl (fun _ => 0))), (mm_knotValue, .inl (k_mm_knotValue, 128, .inl (fun _ => 0))), (mm_off, .inl (k_mm_off, 20, .inl (fun _ => 0))), (mm_last, .inl (k_mm_last, 10, .inl (fun _ => 0))), (mm_passed, .inl (k_mm_passed, 10, .inl (fun _ => 0))), (mm_keptMany, .inl (k_mm_keptMany, 10, .inl (fun _ => 0)))]) hD hS hA [0, 1, 2, 3, 4, 5, 6, 7, 8, 9, 10, 11, 12, 13, 14, 15, 16, 17, 18, 19, 20, 21, 22, 23, 24, 25] rfl
    have := (by decide : (0 : Int32).toInt = 0)
    have := (by decide : (0 : Int32).toInt = 0)
    have := (by decide : (0 : Int32).toInt = 0)
    have := (by decide : (0 : Int32).toInt = 0)
    have := (by decide : (0 : Int32).toInt = 0)
    have := (by decide : (0 : Int32).toInt = 0)
    have := (by decide : (0 : Int32).toInt = 0)
    have := (by decide : (0 : Int32).toInt = 0)
    have := (by decide : (0 : Int32).toInt = 0)
    have := (by decide : (0 : Int32).toInt = 0)
    have := (by decide : ((-1) : Int32).toInt = -1)
    have := (by decide : (0 : Int32).toInt = 0)
    have := (by decide : (0 : Int32).toInt = 0)
    have := (by decide : (0 : Int32).toInt = 0)
    have := (by decide : (0 : Int32).toInt = 0)
    have := (by decide : (0 : Int32).toInt = 0)
    have := (by decide : (0 : Int32).toInt = 0)
    have := (by decide : (0 : Int32).toInt = 0)
    have := (by decide : (0 : Int32).toInt = 0)
    have := (by decide : (0 : Int32).toInt = 0)
    have := (by decide : (0 : Int32).toInt = 0)
    have := (by decide : (0 : Int32).toInt = 0)
    have := (by decide : (0 : Int32).toInt = 0)
    have := (by decide : (0 : Int32).toInt = 0)
    have := (by decide : (0 : Int32).toInt = 0)
    have := (by decide : (0 : Int32).toInt = 0)
    have := (by decide : (0 : Int32).toInt = 0)
    have := (by decide : ((-1) : Int32).toInt = -1)
    have := (by decide : (0 : Int32).toInt = 0)
    have := (by decide : (0 : Int32).toInt = 0)
    have := (by decide : (0 : Int32).toInt = 0)
    refine va_calli (va_runV (As := [.int (xs 1)]) (rest := [.int (-2)]) ⟨hx, hb, hml, hown, hT⟩ (c_X11_text l dC dI H.size mm (xs 1) (0 : Int32) mm_tape mm_number mm_clockName mm_clockOff mm_clockGain mm_clockRough mm_personName mm_personOff mm_personGain mm_personRough mm_custom mm_customA mm_customB mm_ruleFrom mm_ruleTo mm_roundOf mm_roundAt mm_roundHour mm_gunAt mm_gunHour mm_knotSort mm_knotValue (0 : Int32) (0 : Int32) (0 : Int32) (0 : Int32) (0 : Int32) (0 : Int32) (0 : Int32) (0 : Int32) (0 : Int32) ((-1) : Int32) (0 : Int32) (0 : Int32) (0 : Int32) (0 : Int32) (0 : Int32) (0 : Int32) (0 : Int32) (0 : Int32) (0 : Int32) (0 : Int32) (0 : Int32) (0 : Int32) mm_start mm_off mm_last mm_passed mm_kept mm_keptMany (0 : Int32) (0 : Int32) mm_history mm_names mm_worked (0 : Int32) (0 : Int32) ((-1) : Int32) mm_readThing mm_readHour mm_readLow mm_readHigh (0 : Int32) (0 : Int32) (0 : Int32) mm_imageOff mm_imageLast mm_imagePassed mm_imageKept mm_imageMany mm_imageHistory k_mm_number (fun _ => 0) k_mm_clockName (fun _ => 0) k_mm_clockOff (fun _ => 0) k_mm_clockGain (fun _ => 0) k_mm_clockRough (fun _ => 0) k_mm_personName (fun _ => 0) k_mm_personOff (fun _ => 0) k_mm_personGain (fun _ => 0) k_mm_personRough (fun _ => 0) k_mm_custom (fun _ => 0) k_mm_customA (fun _ => 0) k_mm_customB (fun _ => 0) k_mm_ruleFrom (fun _ => 0) k_mm_ruleTo (fun _ => 0) k_mm_roundOf (fun _ => 0) k_mm_roundAt (fun _ => 0) k_mm_roundHour (fun _ => 0) k_mm_gunAt (fun _ => 0) k_mm_gunHour (fun _ => 0) k_mm_knotSort (fun _ => 0) k_mm_knotValue (fun _ => 0) k_mm_off (fun _ => 0) k_mm_last (fun _ => 0) k_mm_passed (fun _ => 0) k_mm_keptMany (fun _ => 0) (fun _ => rfl) (fun _ => rfl) (fun _ => rfl) (fun _ => rfl) (fun _ => rfl) (fun _ => rfl) (fun _ => rfl) (fun _ => rfl) (fun _ => rfl) (fun _ => rfl) (fun _ => rfl) (fun _ => rfl) (fun _ => rfl) (fun _ => rfl) (fun _ => rfl) (fun _ => rfl) (fun _ => rfl) (fun _ => rfl) (fun _ => rfl) (fun _ => rfl) (fun _ => rfl)) (cwV 1 hT (gwV mw_7_5 mw_7_6 mw_7_7 mw_1_16 mw_7_8) rfl rfl rfl (by decide +kernel) ⟨Nat.le_of_ble_eq_true rfl, Nat.le_of_ble_eq_true rfl⟩) ⟨fun a U g mk q => by obtain ⟨q0, q1, qP, qK, qD⟩ := q; exact ⟨q0, q1, qP, va_K.moved (u := U) (U := U.calling g mk a) (Vm.Alike.refl U.vm) qK, qD⟩, va_recv hK hP (ci := 11) (q0 := 0) rfl rfl, fun U hU hW => ⟨rfl, by rw [hU], by rw [hU]; exact hPc, va_K.moved hW.alike hKc, hDc.weaken (fun _ _ _ _ => trivial)⟩⟩ rfl rfl hl.1 rfl (lv_room (Nat.le_of_ble_eq_true rfl)) dL_law_274 ⟨Nat.le_of_ble_eq_true rfl, Nat.le_of_ble_eq_true rfl⟩) hS (fun q _ h => hFc q h) hFc (fun r_16 u t H1 locs ht hvm hw hB hz1 hk1 hS => ?_)
    obtain ⟨hP1, hD1⟩ := hB
    rw [ht] at hP1
    obtain ⟨hP, hD⟩ := va_join (wr := []) (w1 := []) hP hD [0, 1, 2, 3, 4, 5, 6, 7, 8, 9, 10, 11, 12, 13, 14, 15, 16, 17, 18, 19, 20, 21, 22, 23, 24, 25] [] rfl rfl (by decide) (by decide) hk1 hFc hP1 hD1
    generalize H1 = H at hP hS ⊢
    have hP : va_P (dC, dI) vwCl [] H := hP
    have hD : va_D A [] := hD
    clear hPc hDc hKc hFc hP1 hD1 hk1 hz1 ht hvm
    have hw : (r_16 = 0 ∧ (xs 1).toInt = 0) ∨ (r_16 = -2 ∧ (xs 1).toInt ≠ 0) := hw
    rcases hw with ⟨hrr_16, hfr_16⟩ | ⟨hrr_16, hfr_16⟩
    · subst r_16
      exact False.elim (by omega)
    · subst r_16
      refine lv_icmp_eq (tgt := 1482) hx hb dL_law_277 (by decide) (fun c_17 => ?_) (fun c_17 => absurd c_17 (by decide))
      refine lv_iinc (v := 7) (lv' := [(4, .int 7), (3, .ref oo), (2, .ref mm), (1, .ref xx), (0, .ref b)]) hx hb dL_law_1482 hl (k := 0) rfl (by decide) (by decide) rfl (fun ls hl => ?_)
      refine lv_goto (tgt := 23) hx hb dL_law_1485 (by decide) ?_
      refine lv_iload hx hb dL_law_23 (lv_at hl 0 rfl) ?_
      refine lv_aload_n hx hb dL_law_25 rfl (lv_at hl 4 rfl) ?_
      refine va_slen hx hb hX hbl hbA hS dL_law_26 ?_
      refine lv_topi (fun z_18 ez_18 => ?_)
      obtain rfl : z_18 = 7 := ez_18.trans (by decide)
      refine lv_bipush (v := 7) hx hb dL_law_27 (by decide) ?_
      refine lv_isub hx hb dL_law_29 ?_
      refine lv_topi (fun z_19 ez_19 => ?_)
      obtain rfl : z_19 = 0 := ez_19.trans (by decide)
      refine lv_icmp_gt (tgt := 1488) hx hb dL_law_30 (by decide) (fun c_20 => ?_) (fun c_20 => absurd c_20 (by decide))
      refine lv_iconst (v := 1) hx hb dL_law_1488 (by decide) ?_
      refine va_forget (fun q hq => hAo _ (hS.2.2 q hq)) ?_
      refine W.widen (k := 600002) (n := 7302232) (Nat.le_of_ble_eq_true rfl) (Nat.le_of_ble_eq_true rfl) ?_
      exact lw_ret hx hb hr hlocks dL_law_1489
set_option maxHeartbeats 4000000 in
set_option maxRecDepth 100000 in
theorem law_op_2 {p : Program} {l : Launch} {e : Env} {s : State} {m : MethodId} {below : List Frame} {meth : Method} {c : Code} {dC : Nat → ClassId} {dI : Nat → Nat → Nat} {b : Nat} {xs : Nat → Int32} {A : Nat → Prop} (C0 : lw_At p s m meth c b 7 xs) (hA : ∀ q, s.heap.size ≤ q → A q) (hbA : ¬ A b) (hAo : ∀ q, A q → s.heap.size ≤ q) {xx : Nat} {rr : Nat} {ta : Nat} {tb : Nat} {pa : Nat} {pb : Nat} {cn : Nat} {ci : Nat} {cp : Nat} {ct : Nat} {hs : Nat} {rd : Nat} {wy : Nat} {ea : Nat} {eb : Nat} {rr_tape : Nat} {tk : Nat} {mm : Nat} {mm_tape : Nat} {mm_number : Nat} {mm_clockName : Nat} {mm_clockOff : Nat} {mm_clockGain : Nat} {mm_clockRough : Nat} {mm_personName : Nat} {mm_personOff : Nat} {mm_personGain : Nat} {mm_personRough : Nat} {mm_custom : Nat} {mm_customA : Nat} {mm_customB : Nat} {mm_ruleFrom : Nat} {mm_ruleTo : Nat} {mm_roundOf : Nat} {mm_roundAt : Nat} {mm_roundHour : Nat} {mm_gunAt : Nat} {mm_gunHour : Nat} {mm_knotSort : Nat} {mm_knotValue : Nat} {mm_start : Nat} {mm_off : Nat} {mm_last : Nat} {mm_passed : Nat} {mm_kept : Nat} {mm_keptMany : Nat} {mm_history : Nat} {mm_names : Nat} {mm_worked : Nat} {mm_readThing : Nat} {mm_readHour : Nat} {mm_readLow : Nat} {mm_readHigh : Nat} {mm_imageOff : Nat} {mm_imageLast : Nat} {mm_imagePassed : Nat} {mm_imageKept : Nat} {mm_imageMany : Nat} {mm_imageHistory : Nat} {oo : Nat} {H : Heap} {locs : List Loc} {ls : Array Slot} (hK : va_K (dC, dI) vwCl [] s) (hP : va_P (dC, dI) vwCl [(xx, .inr (10, [.ref rr, .ref ta, .ref tb, .ref pa, .ref pb, .ref cn, .ref ci, .int 0, .ref cp, .ref ct, .ref hs, .ref rd, .ref wy, .ref ea, .ref eb])), (rr, .inr (4, [.ref rr_tape, .int 0, .int 0, .int (-1), .ref tk, .null, .int 0, .int 0])), (mm, .inr (11, [.int 0, .ref mm_tape, .int 0, .ref mm_number, .ref mm_clockName, .ref mm_clockOff, .ref mm_clockGain, .ref mm_clockRough, .ref mm_personName, .ref mm_personOff, .ref mm_personGain, .ref mm_personRough, .ref mm_custom, .ref mm_customA, .ref mm_customB, .ref mm_ruleFrom, .ref mm_ruleTo, .ref mm_roundOf, .ref mm_roundAt, .ref mm_roundHour, .ref mm_gunAt, .ref mm_gunHour, .ref mm_knotSort, .ref mm_knotValue, .int 0, .int 0, .int 0, .int 0, .int 0, .int 0, .int 0, .int 0, .int 0, .int (-1), .int 0, .int 0, .int 0, .int 0, .int 0, .int 0, .int 0, .int 0, .int 0, .int 0, .int 0, .int 0, .ref mm_start, .ref mm_off, .ref mm_last, .ref mm_passed, .ref mm_kept, .ref mm_keptMany, .int 0, .int 0, .ref mm_history, .ref mm_names, .ref mm_worked, .int 0, .int 0, .int (-1), .ref mm_readThing, .ref mm_readHour, .ref mm_readLow, .ref mm_readHigh, .int 0, .int 0, .int 0, .ref mm_imageOff, .ref mm_imageLast, .ref mm_imagePassed, .ref mm_imageKept, .ref mm_imageMany, .ref mm_imageHistory]))] H) (hD : va_D A [(xx, .inr (10, [.ref rr, .ref ta, .ref tb, .ref pa, .ref pb, .ref cn, .ref ci, .int 0, .ref cp, .ref ct, .ref hs, .ref rd, .ref wy, .ref ea, .ref eb])), (rr, .inr (4, [.ref rr_tape, .int 0, .int 0, .int (-1), .ref tk, .null, .int 0, .int 0])), (mm, .inr (11, [.int 0, .ref mm_tape, .int 0, .ref mm_number, .ref mm_clockName, .ref mm_clockOff, .ref mm_clockGain, .ref mm_clockRough, .ref mm_personName, .ref mm_personOff, .ref mm_personGain, .ref mm_personRough, .ref mm_custom, .ref mm_customA, .ref mm_customB, .ref mm_ruleFrom, .ref mm_ruleTo, .ref mm_roundOf, .ref mm_roundAt, .ref mm_roundHour, .ref mm_gunAt, .ref mm_gunHour, .ref mm_knotSort, .ref mm_knotValue, .int 0, .int 0, .int 0, .int 0, .int 0, .int 0, .int 0, .int 0, .int 0, .int (-1), .int 0, .int 0, .int 0, .int 0, .int 0, .int 0, .int 0, .int 0, .int 0, .int 0, .int 0, .int 0, .ref mm_start, .ref mm_off, .ref mm_last, .ref mm_passed, .ref mm_kept, .ref mm_keptMany, .int 0, .int 0, .ref mm_history, .ref mm_names, .ref mm_worked, .int 0, .int 0, .int (-1), .ref mm_readThing, .ref mm_readHour, .ref mm_readLow, .ref mm_readHigh, .int 0, .int 0, .int 0, .ref mm_imageOff, .ref mm_imageLast, .ref mm_imagePassed, .ref mm_imageKept, .ref mm_imageMany, .ref mm_imageHistory]))]) (hS : va_S A s.heap H locs) (hl : lv_has ls 7 [(4, .int 0), (3, .ref oo), (2, .ref mm), (1, .ref xx), (0, .ref b)]) : W p l e room_1 s m #[Value.ref b] below meth c H locs 160 67979 (lw_Z below #[Value.ref b] s) (F0 m 282 ls []) := by
  obtain ⟨hx, hb, hr, hml, hown, hts, hX, hbl, hlocks, hgv⟩ := C0
  have hT : ∀ w ∈ pw_T, w.before #[Value.ref b] s = true := fun w h => hts w (List.mem_filter.mp h).1
  have hown : s.vm.findClass RL = some m.cls := hown
  refine lv_aload_n hx hb dL_law_282 rfl (lv_at hl 3 rfl) ?_
  refine lv_aload_n hx hb dL_law_283 rfl (lv_at hl 4 rfl) ?_
  refine lv_iload hx hb dL_law_284 (lv_at hl 0 rfl) ?_
  refine lv_iconst (v := 1) hx hb dL_law_286 (by decide) ?_
  refine lv_iadd hx hb dL_law_287 ?_
  refine lv_topi (fun z_1 ez_1 => ?_)
  obtain rfl : z_1 = 1 := ez_1.trans (by decide)
  refine va_sld hx hb hX hbl hbA hS (pk_in 1 7 (by decide) (by decide) (by decide)) dL_law_288 ?_
  refine lv_topi (fun z_2 ez_2 => ?_)
  replace ez_2 : z_2 = xs 1 := ez_2
  subst z_2
  have hPc := hP.sub (ws' := [(xx, .inr (10, [.ref rr, .ref ta, .ref tb, .ref pa, .ref pb, .ref cn, .ref ci, .int 0, .ref cp, .ref ct, .ref hs, .ref rd, .ref wy, .ref ea, .ref eb])), (rr, .inr (4, [.ref rr_tape, .int 0, .int 0, .int (-1), .ref tk, .null, .int 0, .int 0]))]) [0, 1] rfl
  have hDc := hD.sub (ws' := [(xx, .inr (10, [.ref rr, .ref ta, .ref tb, .ref pa, .ref pb, .ref cn, .ref ci, .int 0, .ref cp, .ref ct, .ref hs, .ref rd, .ref wy, .ref ea, .ref eb])), (rr, .inr (4, [.ref rr_tape, .int 0, .int 0, .int (-1), .ref tk, .null, .int 0, .int 0]))]) [0, 1] (by decide) rfl
  have hKc := hK.sub (tys' := []) [] rfl
  have hFc := va_free (wc := [(xx, .inr (10, [.ref rr, .ref ta, .ref tb, .ref pa, .ref pb, .ref cn, .ref ci, .int 0, .ref cp, .ref ct, .ref hs, .ref rd, .ref wy, .ref ea, .ref eb])), (rr, .inr (4, [.ref rr_tape, .int 0, .int 0, .int (-1), .ref tk, .null, .int 0, .int 0]))]) hD hS hA [0, 1] rfl
  have := (by decide : (0 : Int32).toInt = 0)
  have := (by decide : (0 : Int32).toInt = 0)
  have := (by decide : (0 : Int32).toInt = 0)
  have := (by decide : (0 : Int32).toInt = 0)
  refine va_calli (va_runV (As := [.int (xs 1)]) (rest := []) ⟨hx, hb, hml, hown, hT⟩ (c_X10_fault l dC dI H.size xx (xs 1) rr ta tb pa pb cn ci (0 : Int32) cp ct hs rd wy ea eb rr_tape (0 : Int32) tk (0 : Int32) (0 : Int32) ) (cwV 1 hT (gwV mw_4_27 mw_4_28 mw_4_29 mw_1_1 mw_4_30) rfl rfl rfl (by decide +kernel) ⟨Nat.le_of_ble_eq_true rfl, Nat.le_of_ble_eq_true rfl⟩) ⟨fun a U g mk q => by obtain ⟨q0, q1, qP, qK, qD⟩ := q; exact ⟨q0, q1, qP, va_K.moved (u := U) (U := U.calling g mk a) (Vm.Alike.refl U.vm) qK, qD⟩, va_recv hK hP (ci := 10) (q0 := 0) rfl rfl, fun U hU hW => ⟨rfl, by rw [hU], by rw [hU]; exact hPc, va_K.moved hW.alike hKc, hDc.weaken (fun _ _ _ _ => trivial)⟩⟩ rfl rfl hl.1 rfl (lv_room (Nat.le_of_ble_eq_true rfl)) dL_law_289 ⟨Nat.le_of_ble_eq_true rfl, Nat.le_of_ble_eq_true rfl⟩) hS (fun q _ h => hFc q h) hFc (fun r_4 u t H1 locs ht hvm hw hB hz1 hk1 hS => ?_)
  obtain ⟨hP1, hD1⟩ := hB
  rw [ht] at hP1
  obtain ⟨hP, hD⟩ := va_join (wr := [(mm, .inr (11, [.int 0, .ref mm_tape, .int 0, .ref mm_number, .ref mm_clockName, .ref mm_clockOff, .ref mm_clockGain, .ref mm_clockRough, .ref mm_personName, .ref mm_personOff, .ref mm_personGain, .ref mm_personRough, .ref mm_custom, .ref mm_customA, .ref mm_customB, .ref mm_ruleFrom, .ref mm_ruleTo, .ref mm_roundOf, .ref mm_roundAt, .ref mm_roundHour, .ref mm_gunAt, .ref mm_gunHour, .ref mm_knotSort, .ref mm_knotValue, .int 0, .int 0, .int 0, .int 0, .int 0, .int 0, .int 0, .int 0, .int 0, .int (-1), .int 0, .int 0, .int 0, .int 0, .int 0, .int 0, .int 0, .int 0, .int 0, .int 0, .int 0, .int 0, .ref mm_start, .ref mm_off, .ref mm_last, .ref mm_passed, .ref mm_kept, .ref mm_keptMany, .int 0, .int 0, .ref mm_history, .ref mm_names, .ref mm_worked, .int 0, .int 0, .int (-1), .ref mm_readThing, .ref mm_readHour, .ref mm_readLow, .ref mm_readHigh, .int 0, .int 0, .int 0, .ref mm_imageOff, .ref mm_imageLast, .ref mm_imagePassed, .ref mm_imageKept, .ref mm_imageMany, .ref mm_imageHistory]))]) (w1 := [(xx, .inr (10, [.ref rr, .ref ta, .ref tb, .ref pa, .ref pb, .ref cn, .ref ci, .int 0, .ref cp, .ref ct, .ref hs, .ref rd, .ref wy, .ref ea, .ref eb])), (rr, .inr (4, [.ref rr_tape, .int 0, .int 0, .int (-1), .ref tk, .null, .int 0, .int 0]))]) hP hD [0, 1] [2] rfl rfl (by decide) (by decide) hk1 hFc hP1 hD1
  generalize H1 = H at hP hS ⊢
  have hP : va_P (dC, dI) vwCl [(mm, .inr (11, [.int 0, .ref mm_tape, .int 0, .ref mm_number, .ref mm_clockName, .ref mm_clockOff, .ref mm_clockGain, .ref mm_clockRough, .ref mm_personName, .ref mm_personOff, .ref mm_personGain, .ref mm_personRough, .ref mm_custom, .ref mm_customA, .ref mm_customB, .ref mm_ruleFrom, .ref mm_ruleTo, .ref mm_roundOf, .ref mm_roundAt, .ref mm_roundHour, .ref mm_gunAt, .ref mm_gunHour, .ref mm_knotSort, .ref mm_knotValue, .int 0, .int 0, .int 0, .int 0, .int 0, .int 0, .int 0, .int 0, .int 0, .int (-1), .int 0, .int 0, .int 0, .int 0, .int 0, .int 0, .int 0, .int 0, .int 0, .int 0, .int 0, .int 0, .ref mm_start, .ref mm_off, .ref mm_last, .ref mm_passed, .ref mm_kept, .ref mm_keptMany, .int 0, .int 0, .ref mm_history, .ref mm_names, .ref mm_worked, .int 0, .int 0, .int (-1), .ref mm_readThing, .ref mm_readHour, .ref mm_readLow, .ref mm_readHigh, .int 0, .int 0, .int 0, .ref mm_imageOff, .ref mm_imageLast, .ref mm_imagePassed, .ref mm_imageKept, .ref mm_imageMany, .ref mm_imageHistory])), (xx, .inr (10, [.ref rr, .ref ta, .ref tb, .ref pa, .ref pb, .ref cn, .ref ci, .int 0, .ref cp, .ref ct, .ref hs, .ref rd, .ref wy, .ref ea, .ref eb])), (rr, .inr (4, [.ref rr_tape, .int 0, .int 0, .int (-1), .ref tk, .null, .int 0, .int 0]))] H := hP
  have hD : va_D A [(mm, .inr (11, [.int 0, .ref mm_tape, .int 0, .ref mm_number, .ref mm_clockName, .ref mm_clockOff, .ref mm_clockGain, .ref mm_clockRough, .ref mm_personName, .ref mm_personOff, .ref mm_personGain, .ref mm_personRough, .ref mm_custom, .ref mm_customA, .ref mm_customB, .ref mm_ruleFrom, .ref mm_ruleTo, .ref mm_roundOf, .ref mm_roundAt, .ref mm_roundHour, .ref mm_gunAt, .ref mm_gunHour, .ref mm_knotSort, .ref mm_knotValue, .int 0, .int 0, .int 0, .int 0, .int 0, .int 0, .int 0, .int 0, .int 0, .int (-1), .int 0, .int 0, .int 0, .int 0, .int 0, .int 0, .int 0, .int 0, .int 0, .int 0, .int 0, .int 0, .ref mm_start, .ref mm_off, .ref mm_last, .ref mm_passed, .ref mm_kept, .ref mm_keptMany, .int 0, .int 0, .ref mm_history, .ref mm_names, .ref mm_worked, .int 0, .int 0, .int (-1), .ref mm_readThing, .ref mm_readHour, .ref mm_readLow, .ref mm_readHigh, .int 0, .int 0, .int 0, .ref mm_imageOff, .ref mm_imageLast, .ref mm_imagePassed, .ref mm_imageKept, .ref mm_imageMany, .ref mm_imageHistory])), (xx, .inr (10, [.ref rr, .ref ta, .ref tb, .ref pa, .ref pb, .ref cn, .ref ci, .int 0, .ref cp, .ref ct, .ref hs, .ref rd, .ref wy, .ref ea, .ref eb])), (rr, .inr (4, [.ref rr_tape, .int 0, .int 0, .int (-1), .ref tk, .null, .int 0, .int 0]))] := hD
  clear hPc hDc hKc hFc hP1 hD1 hk1 hz1 ht hvm
  have hw : (r_4 = 0 ∧ (xs 1).toInt = 0) ∨ (r_4 = -1 ∧ (xs 1).toInt ≠ 0) := hw
  rcases hw with ⟨hrr_4, hfr_4⟩ | ⟨hrr_4, hfr_4⟩
  · subst r_4
    refine lv_aload_n hx hb dL_law_292 rfl (lv_at hl 2 rfl) ?_
    refine lv_aload_n hx hb dL_law_293 rfl (lv_at hl 4 rfl) ?_
    refine lv_iload hx hb dL_law_294 (lv_at hl 0 rfl) ?_
    refine lv_iconst (v := 1) hx hb dL_law_296 (by decide) ?_
    refine lv_iadd hx hb dL_law_297 ?_
    refine lv_topi (fun z_5 ez_5 => ?_)
    obtain rfl : z_5 = 1 := ez_5.trans (by decide)
    refine va_sld hx hb hX hbl hbA hS (pk_in 1 7 (by decide) (by decide) (by decide)) dL_law_298 ?_
    refine lv_topi (fun z_6 ez_6 => ?_)
    replace ez_6 : z_6 = xs 1 := ez_6
    subst z_6
    have hPc := hP.sub (ws' := [(mm, .inr (11, [.int 0, .ref mm_tape, .int 0, .ref mm_number, .ref mm_clockName, .ref mm_clockOff, .ref mm_clockGain, .ref mm_clockRough, .ref mm_personName, .ref mm_personOff, .ref mm_personGain, .ref mm_personRough, .ref mm_custom, .ref mm_customA, .ref mm_customB, .ref mm_ruleFrom, .ref mm_ruleTo, .ref mm_roundOf, .ref mm_roundAt, .ref mm_roundHour, .ref mm_gunAt, .ref mm_gunHour, .ref mm_knotSort, .ref mm_knotValue, .int 0, .int 0, .int 0, .int 0, .int 0, .int 0, .int 0, .int 0, .int 0, .int (-1), .int 0, .int 0, .int 0, .int 0, .int 0, .int 0, .int 0, .int 0, .int 0, .int 0, .int 0, .int 0, .ref mm_start, .ref mm_off, .ref mm_last, .ref mm_passed, .ref mm_kept, .ref mm_keptMany, .int 0, .int 0, .ref mm_history, .ref mm_names, .ref mm_worked, .int 0, .int 0, .int (-1), .ref mm_readThing, .ref mm_readHour, .ref mm_readLow, .ref mm_readHigh, .int 0, .int 0, .int 0, .ref mm_imageOff, .ref mm_imageLast, .ref mm_imagePassed, .ref mm_imageKept, .ref mm_imageMany, .ref mm_imageHistory]))]) [0] rfl
    have hDc := hD.sub (ws' := [(mm, .inr (11, [.int 0, .ref mm_tape, .int 0, .ref mm_number, .ref mm_clockName, .ref mm_clockOff, .ref mm_clockGain, .ref mm_clockRough, .ref mm_personName, .ref mm_personOff, .ref mm_personGain, .ref mm_personRough, .ref mm_custom, .ref mm_customA, .ref mm_customB, .ref mm_ruleFrom, .ref mm_ruleTo, .ref mm_roundOf, .ref mm_roundAt, .ref mm_roundHour, .ref mm_gunAt, .ref mm_gunHour, .ref mm_knotSort, .ref mm_knotValue, .int 0, .int 0, .int 0, .int 0, .int 0, .int 0, .int 0, .int 0, .int 0, .int (-1), .int 0, .int 0, .int 0, .int 0, .int 0, .int 0, .int 0, .int 0, .int 0, .int 0, .int 0, .int 0, .ref mm_start, .ref mm_off, .ref mm_last, .ref mm_passed, .ref mm_kept, .ref mm_keptMany, .int 0, .int 0, .ref mm_history, .ref mm_names, .ref mm_worked, .int 0, .int 0, .int (-1), .ref mm_readThing, .ref mm_readHour, .ref mm_readLow, .ref mm_readHigh, .int 0, .int 0, .int 0, .ref mm_imageOff, .ref mm_imageLast, .ref mm_imagePassed, .ref mm_imageKept, .ref mm_imageMany, .ref mm_imageHistory]))]) [0] (by decide) rfl
    have hKc := hK.sub (tys' := []) [] rfl
    have hFc := va_free (wc := [(mm, .inr (11, [.int 0, .ref mm_tape, .int 0, .ref mm_number, .ref mm_clockName, .ref mm_clockOff, .ref mm_clockGain, .ref mm_clockRough, .ref mm_personName, .ref mm_personOff, .ref mm_personGain, .ref mm_personRough, .ref mm_custom, .ref mm_customA, .ref mm_customB, .ref mm_ruleFrom, .ref mm_ruleTo, .ref mm_roundOf, .ref mm_roundAt, .ref mm_roundHour, .ref mm_gunAt, .ref mm_gunHour, .ref mm_knotSort, .ref mm_knotValue, .int 0, .int 0, .int 0, .int 0, .int 0, .int 0, .int 0, .int 0, .int 0, .int (-1), .int 0, .int 0, .int 0, .int 0, .int 0, .int 0, .int 0, .int 0, .int 0, .int 0, .int 0, .int 0, .ref mm_start, .ref mm_off, .ref mm_last, .ref mm_passed, .ref mm_kept, .ref mm_keptMany, .int 0, .int 0, .ref mm_history, .ref mm_names, .ref mm_worked, .int 0, .int 0, .int (-1), .ref mm_readThing, .ref mm_readHour, .ref mm_readLow, .ref mm_readHigh, .int 0, .int 0, .int 0, .ref mm_imageOff, .ref mm_imageLast, .ref mm_imagePassed, .ref mm_imageKept, .ref mm_imageMany, .ref mm_imageHistory]))]) hD hS hA [0] rfl
    have := (by decide : (0 : Int32).toInt = 0)
    have := (by decide : (0 : Int32).toInt = 0)
    have := (by decide : (0 : Int32).toInt = 0)
    have := (by decide : (0 : Int32).toInt = 0)
    have := (by decide : (0 : Int32).toInt = 0)
    have := (by decide : (0 : Int32).toInt = 0)
    have := (by decide : (0 : Int32).toInt = 0)
    have := (by decide : (0 : Int32).toInt = 0)
    have := (by decide : (0 : Int32).toInt = 0)
    have := (by decide : (0 : Int32).toInt = 0)
    have := (by decide : (0 : Int32).toInt = 0)
    have := (by decide : (0 : Int32).toInt = 0)
    have := (by decide : (0 : Int32).toInt = 0)
    have := (by decide : (0 : Int32).toInt = 0)
    have := (by decide : (0 : Int32).toInt = 0)
    have := (by decide : (0 : Int32).toInt = 0)
    have := (by decide : (0 : Int32).toInt = 0)
    have := (by decide : (0 : Int32).toInt = 0)
    have := (by decide : (0 : Int32).toInt = 0)
    have := (by decide : (0 : Int32).toInt = 0)
    have := (by decide : (0 : Int32).toInt = 0)
    have := (by decide : (0 : Int32).toInt = 0)
    have := (by decide : (0 : Int32).toInt = 0)
    have := (by decide : (0 : Int32).toInt = 0)
    have := (by decide : (0 : Int32).toInt = 0)
    have := (by decide : (0 : Int32).toInt = 0)
    have := (by decide : ((-1) : Int32).toInt = -1)
    have := (by decide : (0 : Int32).toInt = 0)
    have := (by decide : (0 : Int32).toInt = 0)
    have := (by decide : (0 : Int32).toInt = 0)
    refine va_calli (va_runV (As := [.int (xs 1)]) (rest := [.int 0]) ⟨hx, hb, hml, hown, hT⟩ (c_X11_fault l dC dI H.size mm (xs 1) (0 : Int32) mm_tape (0 : Int32) mm_number mm_clockName mm_clockOff mm_clockGain mm_clockRough mm_personName mm_personOff mm_personGain mm_personRough mm_custom mm_customA mm_customB mm_ruleFrom mm_ruleTo mm_roundOf mm_roundAt mm_roundHour mm_gunAt mm_gunHour mm_knotSort mm_knotValue (0 : Int32) (0 : Int32) (0 : Int32) (0 : Int32) (0 : Int32) (0 : Int32) (0 : Int32) (0 : Int32) (0 : Int32) (0 : Int32) (0 : Int32) (0 : Int32) (0 : Int32) (0 : Int32) (0 : Int32) (0 : Int32) (0 : Int32) (0 : Int32) (0 : Int32) (0 : Int32) mm_start mm_off mm_last mm_passed mm_kept mm_keptMany (0 : Int32) (0 : Int32) mm_history mm_names mm_worked (0 : Int32) (0 : Int32) ((-1) : Int32) mm_readThing mm_readHour mm_readLow mm_readHigh (0 : Int32) (0 : Int32) (0 : Int32) mm_imageOff mm_imageLast mm_imagePassed mm_imageKept mm_imageMany mm_imageHistory ) (cwV 1 hT (gwV mw_7_150 mw_7_151 mw_7_152 mw_1_16 mw_7_153) rfl rfl rfl (by decide +kernel) ⟨Nat.le_of_ble_eq_true rfl, Nat.le_of_ble_eq_true rfl⟩) ⟨fun a U g mk q => by obtain ⟨q0, q1, qP, qK, qD⟩ := q; exact ⟨q0, q1, qP, va_K.moved (u := U) (U := U.calling g mk a) (Vm.Alike.refl U.vm) qK, qD⟩, va_recv hK hP (ci := 11) (q0 := 0) rfl rfl, fun U hU hW => ⟨rfl, by rw [hU], by rw [hU]; exact hPc, va_K.moved hW.alike hKc, hDc.weaken (fun _ _ _ _ => trivial)⟩⟩ rfl rfl hl.1 rfl (lv_room (Nat.le_of_ble_eq_true rfl)) dL_law_299 ⟨Nat.le_of_ble_eq_true rfl, Nat.le_of_ble_eq_true rfl⟩) hS (fun q _ h => hFc q h) hFc (fun r_8 u t H1 locs ht hvm hw hB hz1 hk1 hS => ?_)
    obtain ⟨hP1, hD1⟩ := hB
    rw [ht] at hP1
    obtain ⟨hP, hD⟩ := va_join (wr := [(xx, .inr (10, [.ref rr, .ref ta, .ref tb, .ref pa, .ref pb, .ref cn, .ref ci, .int 0, .ref cp, .ref ct, .ref hs, .ref rd, .ref wy, .ref ea, .ref eb])), (rr, .inr (4, [.ref rr_tape, .int 0, .int 0, .int (-1), .ref tk, .null, .int 0, .int 0]))]) (w1 := []) hP hD [0] [1, 2] rfl rfl (by decide) (by decide) hk1 hFc hP1 hD1
    generalize H1 = H at hP hS ⊢
    have hP : va_P (dC, dI) vwCl [(xx, .inr (10, [.ref rr, .ref ta, .ref tb, .ref pa, .ref pb, .ref cn, .ref ci, .int 0, .ref cp, .ref ct, .ref hs, .ref rd, .ref wy, .ref ea, .ref eb])), (rr, .inr (4, [.ref rr_tape, .int 0, .int 0, .int (-1), .ref tk, .null, .int 0, .int 0]))] H := hP
    have hD : va_D A [(xx, .inr (10, [.ref rr, .ref ta, .ref tb, .ref pa, .ref pb, .ref cn, .ref ci, .int 0, .ref cp, .ref ct, .ref hs, .ref rd, .ref wy, .ref ea, .ref eb])), (rr, .inr (4, [.ref rr_tape, .int 0, .int 0, .int (-1), .ref tk, .null, .int 0, .int 0]))] := hD
    clear hPc hDc hKc hFc hP1 hD1 hk1 hz1 ht hvm
    have hw : (r_8 = 0 ∧ (xs 1).toInt = 0) ∨ (r_8 = -1 ∧ (xs 1).toInt ≠ 0) := hw
    rcases hw with ⟨hrr_8, hfr_8⟩ | ⟨hrr_8, hfr_8⟩
    · subst r_8
      refine lv_icmp_eq (tgt := 1482) hx hb dL_law_302 (by decide) (fun c_9 => ?_) (fun c_9 => absurd c_9 (by decide))
      refine lv_iinc (v := 7) (lv' := [(4, .int 7), (3, .ref oo), (2, .ref mm), (1, .ref xx), (0, .ref b)]) hx hb dL_law_1482 hl (k := 0) rfl (by decide) (by decide) rfl (fun ls hl => ?_)
      refine lv_goto (tgt := 23) hx hb dL_law_1485 (by decide) ?_
      refine lv_iload hx hb dL_law_23 (lv_at hl 0 rfl) ?_
      refine lv_aload_n hx hb dL_law_25 rfl (lv_at hl 4 rfl) ?_
      refine va_slen hx hb hX hbl hbA hS dL_law_26 ?_
      refine lv_topi (fun z_10 ez_10 => ?_)
      obtain rfl : z_10 = 7 := ez_10.trans (by decide)
      refine lv_bipush (v := 7) hx hb dL_law_27 (by decide) ?_
      refine lv_isub hx hb dL_law_29 ?_
      refine lv_topi (fun z_11 ez_11 => ?_)
      obtain rfl : z_11 = 0 := ez_11.trans (by decide)
      refine lv_icmp_gt (tgt := 1488) hx hb dL_law_30 (by decide) (fun c_12 => ?_) (fun c_12 => absurd c_12 (by decide))
      refine lv_iconst (v := 1) hx hb dL_law_1488 (by decide) ?_
      refine va_forget (fun q hq => hAo _ (hS.2.2 q hq)) ?_
      refine W.widen (k := 600002) (n := 7302232) (Nat.le_of_ble_eq_true rfl) (Nat.le_of_ble_eq_true rfl) ?_
      exact lw_ret hx hb hr hlocks dL_law_1489
    · subst r_8
      exact False.elim (by omega)
  · subst r_4
    refine lv_aload_n hx hb dL_law_292 rfl (lv_at hl 2 rfl) ?_
    refine lv_aload_n hx hb dL_law_293 rfl (lv_at hl 4 rfl) ?_
    refine lv_iload hx hb dL_law_294 (lv_at hl 0 rfl) ?_
    refine lv_iconst (v := 1) hx hb dL_law_296 (by decide) ?_
    refine lv_iadd hx hb dL_law_297 ?_
    refine lv_topi (fun z_13 ez_13 => ?_)
    obtain rfl : z_13 = 1 := ez_13.trans (by decide)
    refine va_sld hx hb hX hbl hbA hS (pk_in 1 7 (by decide) (by decide) (by decide)) dL_law_298 ?_
    refine lv_topi (fun z_14 ez_14 => ?_)
    replace ez_14 : z_14 = xs 1 := ez_14
    subst z_14
    have hPc := hP.sub (ws' := [(mm, .inr (11, [.int 0, .ref mm_tape, .int 0, .ref mm_number, .ref mm_clockName, .ref mm_clockOff, .ref mm_clockGain, .ref mm_clockRough, .ref mm_personName, .ref mm_personOff, .ref mm_personGain, .ref mm_personRough, .ref mm_custom, .ref mm_customA, .ref mm_customB, .ref mm_ruleFrom, .ref mm_ruleTo, .ref mm_roundOf, .ref mm_roundAt, .ref mm_roundHour, .ref mm_gunAt, .ref mm_gunHour, .ref mm_knotSort, .ref mm_knotValue, .int 0, .int 0, .int 0, .int 0, .int 0, .int 0, .int 0, .int 0, .int 0, .int (-1), .int 0, .int 0, .int 0, .int 0, .int 0, .int 0, .int 0, .int 0, .int 0, .int 0, .int 0, .int 0, .ref mm_start, .ref mm_off, .ref mm_last, .ref mm_passed, .ref mm_kept, .ref mm_keptMany, .int 0, .int 0, .ref mm_history, .ref mm_names, .ref mm_worked, .int 0, .int 0, .int (-1), .ref mm_readThing, .ref mm_readHour, .ref mm_readLow, .ref mm_readHigh, .int 0, .int 0, .int 0, .ref mm_imageOff, .ref mm_imageLast, .ref mm_imagePassed, .ref mm_imageKept, .ref mm_imageMany, .ref mm_imageHistory]))]) [0] rfl
    have hDc := hD.sub (ws' := [(mm, .inr (11, [.int 0, .ref mm_tape, .int 0, .ref mm_number, .ref mm_clockName, .ref mm_clockOff, .ref mm_clockGain, .ref mm_clockRough, .ref mm_personName, .ref mm_personOff, .ref mm_personGain, .ref mm_personRough, .ref mm_custom, .ref mm_customA, .ref mm_customB, .ref mm_ruleFrom, .ref mm_ruleTo, .ref mm_roundOf, .ref mm_roundAt, .ref mm_roundHour, .ref mm_gunAt, .ref mm_gunHour, .ref mm_knotSort, .ref mm_knotValue, .int 0, .int 0, .int 0, .int 0, .int 0, .int 0, .int 0, .int 0, .int 0, .int (-1), .int 0, .int 0, .int 0, .int 0, .int 0, .int 0, .int 0, .int 0, .int 0, .int 0, .int 0, .int 0, .ref mm_start, .ref mm_off, .ref mm_last, .ref mm_passed, .ref mm_kept, .ref mm_keptMany, .int 0, .int 0, .ref mm_history, .ref mm_names, .ref mm_worked, .int 0, .int 0, .int (-1), .ref mm_readThing, .ref mm_readHour, .ref mm_readLow, .ref mm_readHigh, .int 0, .int 0, .int 0, .ref mm_imageOff, .ref mm_imageLast, .ref mm_imagePassed, .ref mm_imageKept, .ref mm_imageMany, .ref mm_imageHistory]))]) [0] (by decide) rfl
    have hKc := hK.sub (tys' := []) [] rfl
    have hFc := va_free (wc := [(mm, .inr (11, [.int 0, .ref mm_tape, .int 0, .ref mm_number, .ref mm_clockName, .ref mm_clockOff, .ref mm_clockGain, .ref mm_clockRough, .ref mm_personName, .ref mm_personOff, .ref mm_personGain, .ref mm_personRough, .ref mm_custom, .ref mm_customA, .ref mm_customB, .ref mm_ruleFrom, .ref mm_ruleTo, .ref mm_roundOf, .ref mm_roundAt, .ref mm_roundHour, .ref mm_gunAt, .ref mm_gunHour, .ref mm_knotSort, .ref mm_knotValue, .int 0, .int 0, .int 0, .int 0, .int 0, .int 0, .int 0, .int 0, .int 0, .int (-1), .int 0, .int 0, .int 0, .int 0, .int 0, .int 0, .int 0, .int 0, .int 0, .int 0, .int 0, .int 0, .ref mm_start, .ref mm_off, .ref mm_last, .ref mm_passed, .ref mm_kept, .ref mm_keptMany, .int 0, .int 0, .ref mm_history, .ref mm_names, .ref mm_worked, .int 0, .int 0, .int (-1), .ref mm_readThing, .ref mm_readHour, .ref mm_readLow, .ref mm_readHigh, .int 0, .int 0, .int 0, .ref mm_imageOff, .ref mm_imageLast, .ref mm_imagePassed, .ref mm_imageKept, .ref mm_imageMany, .ref mm_imageHistory]))]) hD hS hA [0] rfl
    have := (by decide : (0 : Int32).toInt = 0)
    have := (by decide : (0 : Int32).toInt = 0)
    have := (by decide : (0 : Int32).toInt = 0)
    have := (by decide : (0 : Int32).toInt = 0)
    have := (by decide : (0 : Int32).toInt = 0)
    have := (by decide : (0 : Int32).toInt = 0)
    have := (by decide : (0 : Int32).toInt = 0)
    have := (by decide : (0 : Int32).toInt = 0)
    have := (by decide : (0 : Int32).toInt = 0)
    have := (by decide : (0 : Int32).toInt = 0)
    have := (by decide : (0 : Int32).toInt = 0)
    have := (by decide : (0 : Int32).toInt = 0)
    have := (by decide : (0 : Int32).toInt = 0)
    have := (by decide : (0 : Int32).toInt = 0)
    have := (by decide : (0 : Int32).toInt = 0)
    have := (by decide : (0 : Int32).toInt = 0)
    have := (by decide : (0 : Int32).toInt = 0)
    have := (by decide : (0 : Int32).toInt = 0)
    have := (by decide : (0 : Int32).toInt = 0)
    have := (by decide : (0 : Int32).toInt = 0)
    have := (by decide : (0 : Int32).toInt = 0)
    have := (by decide : (0 : Int32).toInt = 0)
    have := (by decide : (0 : Int32).toInt = 0)
    have := (by decide : (0 : Int32).toInt = 0)
    have := (by decide : (0 : Int32).toInt = 0)
    have := (by decide : (0 : Int32).toInt = 0)
    have := (by decide : ((-1) : Int32).toInt = -1)
    have := (by decide : (0 : Int32).toInt = 0)
    have := (by decide : (0 : Int32).toInt = 0)
    have := (by decide : (0 : Int32).toInt = 0)
    refine va_calli (va_runV (As := [.int (xs 1)]) (rest := [.int (-1)]) ⟨hx, hb, hml, hown, hT⟩ (c_X11_fault l dC dI H.size mm (xs 1) (0 : Int32) mm_tape (0 : Int32) mm_number mm_clockName mm_clockOff mm_clockGain mm_clockRough mm_personName mm_personOff mm_personGain mm_personRough mm_custom mm_customA mm_customB mm_ruleFrom mm_ruleTo mm_roundOf mm_roundAt mm_roundHour mm_gunAt mm_gunHour mm_knotSort mm_knotValue (0 : Int32) (0 : Int32) (0 : Int32) (0 : Int32) (0 : Int32) (0 : Int32) (0 : Int32) (0 : Int32) (0 : Int32) (0 : Int32) (0 : Int32) (0 : Int32) (0 : Int32) (0 : Int32) (0 : Int32) (0 : Int32) (0 : Int32) (0 : Int32) (0 : Int32) (0 : Int32) mm_start mm_off mm_last mm_passed mm_kept mm_keptMany (0 : Int32) (0 : Int32) mm_history mm_names mm_worked (0 : Int32) (0 : Int32) ((-1) : Int32) mm_readThing mm_readHour mm_readLow mm_readHigh (0 : Int32) (0 : Int32) (0 : Int32) mm_imageOff mm_imageLast mm_imagePassed mm_imageKept mm_imageMany mm_imageHistory ) (cwV 1 hT (gwV mw_7_150 mw_7_151 mw_7_152 mw_1_16 mw_7_153) rfl rfl rfl (by decide +kernel) ⟨Nat.le_of_ble_eq_true rfl, Nat.le_of_ble_eq_true rfl⟩) ⟨fun a U g mk q => by obtain ⟨q0, q1, qP, qK, qD⟩ := q; exact ⟨q0, q1, qP, va_K.moved (u := U) (U := U.calling g mk a) (Vm.Alike.refl U.vm) qK, qD⟩, va_recv hK hP (ci := 11) (q0 := 0) rfl rfl, fun U hU hW => ⟨rfl, by rw [hU], by rw [hU]; exact hPc, va_K.moved hW.alike hKc, hDc.weaken (fun _ _ _ _ => trivial)⟩⟩ rfl rfl hl.1 rfl (lv_room (Nat.le_of_ble_eq_true rfl)) dL_law_299 ⟨Nat.le_of_ble_eq_true rfl, Nat.le_of_ble_eq_true rfl⟩) hS (fun q _ h => hFc q h) hFc (fun r_16 u t H1 locs ht hvm hw hB hz1 hk1 hS => ?_)
    obtain ⟨hP1, hD1⟩ := hB
    rw [ht] at hP1
    obtain ⟨hP, hD⟩ := va_join (wr := [(xx, .inr (10, [.ref rr, .ref ta, .ref tb, .ref pa, .ref pb, .ref cn, .ref ci, .int 0, .ref cp, .ref ct, .ref hs, .ref rd, .ref wy, .ref ea, .ref eb])), (rr, .inr (4, [.ref rr_tape, .int 0, .int 0, .int (-1), .ref tk, .null, .int 0, .int 0]))]) (w1 := []) hP hD [0] [1, 2] rfl rfl (by decide) (by decide) hk1 hFc hP1 hD1
    generalize H1 = H at hP hS ⊢
    have hP : va_P (dC, dI) vwCl [(xx, .inr (10, [.ref rr, .ref ta, .ref tb, .ref pa, .ref pb, .ref cn, .ref ci, .int 0, .ref cp, .ref ct, .ref hs, .ref rd, .ref wy, .ref ea, .ref eb])), (rr, .inr (4, [.ref rr_tape, .int 0, .int 0, .int (-1), .ref tk, .null, .int 0, .int 0]))] H := hP
    have hD : va_D A [(xx, .inr (10, [.ref rr, .ref ta, .ref tb, .ref pa, .ref pb, .ref cn, .ref ci, .int 0, .ref cp, .ref ct, .ref hs, .ref rd, .ref wy, .ref ea, .ref eb])), (rr, .inr (4, [.ref rr_tape, .int 0, .int 0, .int (-1), .ref tk, .null, .int 0, .int 0]))] := hD
    clear hPc hDc hKc hFc hP1 hD1 hk1 hz1 ht hvm
    have hw : (r_16 = 0 ∧ (xs 1).toInt = 0) ∨ (r_16 = -1 ∧ (xs 1).toInt ≠ 0) := hw
    rcases hw with ⟨hrr_16, hfr_16⟩ | ⟨hrr_16, hfr_16⟩
    · subst r_16
      exact False.elim (by omega)
    · subst r_16
      refine lv_icmp_eq (tgt := 1482) hx hb dL_law_302 (by decide) (fun c_17 => ?_) (fun c_17 => absurd c_17 (by decide))
      refine lv_iinc (v := 7) (lv' := [(4, .int 7), (3, .ref oo), (2, .ref mm), (1, .ref xx), (0, .ref b)]) hx hb dL_law_1482 hl (k := 0) rfl (by decide) (by decide) rfl (fun ls hl => ?_)
      refine lv_goto (tgt := 23) hx hb dL_law_1485 (by decide) ?_
      refine lv_iload hx hb dL_law_23 (lv_at hl 0 rfl) ?_
      refine lv_aload_n hx hb dL_law_25 rfl (lv_at hl 4 rfl) ?_
      refine va_slen hx hb hX hbl hbA hS dL_law_26 ?_
      refine lv_topi (fun z_18 ez_18 => ?_)
      obtain rfl : z_18 = 7 := ez_18.trans (by decide)
      refine lv_bipush (v := 7) hx hb dL_law_27 (by decide) ?_
      refine lv_isub hx hb dL_law_29 ?_
      refine lv_topi (fun z_19 ez_19 => ?_)
      obtain rfl : z_19 = 0 := ez_19.trans (by decide)
      refine lv_icmp_gt (tgt := 1488) hx hb dL_law_30 (by decide) (fun c_20 => ?_) (fun c_20 => absurd c_20 (by decide))
      refine lv_iconst (v := 1) hx hb dL_law_1488 (by decide) ?_
      refine va_forget (fun q hq => hAo _ (hS.2.2 q hq)) ?_
      refine W.widen (k := 600002) (n := 7302232) (Nat.le_of_ble_eq_true rfl) (Nat.le_of_ble_eq_true rfl) ?_
      exact lw_ret hx hb hr hlocks dL_law_1489
set_option maxHeartbeats 4000000 in
set_option maxRecDepth 100000 in
theorem law_op_3 {p : Program} {l : Launch} {e : Env} {s : State} {m : MethodId} {below : List Frame} {meth : Method} {c : Code} {dC : Nat → ClassId} {dI : Nat → Nat → Nat} {b : Nat} {xs : Nat → Int32} {A : Nat → Prop} (C0 : lw_At p s m meth c b 7 xs) (hA : ∀ q, s.heap.size ≤ q → A q) (hbA : ¬ A b) (hAo : ∀ q, A q → s.heap.size ≤ q) {xx : Nat} {rr : Nat} {ta : Nat} {tb : Nat} {pa : Nat} {pb : Nat} {cn : Nat} {ci : Nat} {cp : Nat} {ct : Nat} {hs : Nat} {rd : Nat} {wy : Nat} {ea : Nat} {eb : Nat} {ta_name : Nat} {ta_first : Nat} {ta_gain : Nat} {ta_rough : Nat} {ta_custom : Nat} {ta_part : Nat} {ta_whole : Nat} {ta_roundPerson : Nat} {ta_roundClock : Nat} {ta_roundHour : Nat} {ta_gunClock : Nat} {ta_gunHour : Nat} {tau : Nat} {mm : Nat} {mm_tape : Nat} {mm_number : Nat} {mm_clockName : Nat} {mm_clockOff : Nat} {mm_clockGain : Nat} {mm_clockRough : Nat} {mm_personName : Nat} {mm_personOff : Nat} {mm_personGain : Nat} {mm_personRough : Nat} {mm_custom : Nat} {mm_customA : Nat} {mm_customB : Nat} {mm_ruleFrom : Nat} {mm_ruleTo : Nat} {mm_roundOf : Nat} {mm_roundAt : Nat} {mm_roundHour : Nat} {mm_gunAt : Nat} {mm_gunHour : Nat} {mm_knotSort : Nat} {mm_knotValue : Nat} {mm_start : Nat} {mm_off : Nat} {mm_last : Nat} {mm_passed : Nat} {mm_kept : Nat} {mm_keptMany : Nat} {mm_history : Nat} {mm_names : Nat} {mm_worked : Nat} {mm_readThing : Nat} {mm_readHour : Nat} {mm_readLow : Nat} {mm_readHigh : Nat} {mm_imageOff : Nat} {mm_imageLast : Nat} {mm_imagePassed : Nat} {mm_imageKept : Nat} {mm_imageMany : Nat} {mm_imageHistory : Nat} {k_mm_number : ClassId} {oo : Nat} {H : Heap} {locs : List Loc} {ls : Array Slot} (hK : va_K (dC, dI) vwCl [(k_mm_number, .int)] s) (hP : va_P (dC, dI) vwCl [(xx, .inr (10, [.ref rr, .ref ta, .ref tb, .ref pa, .ref pb, .ref cn, .ref ci, .int 0, .ref cp, .ref ct, .ref hs, .ref rd, .ref wy, .ref ea, .ref eb])), (ta, .inr (8, [.int 0, .int 0, .int 0, .int 0, .int 0, .ref ta_name, .ref ta_first, .ref ta_gain, .ref ta_rough, .ref ta_custom, .ref ta_part, .ref ta_whole, .ref ta_roundPerson, .ref ta_roundClock, .ref ta_roundHour, .ref ta_gunClock, .ref ta_gunHour, .ref tau])), (mm, .inr (11, [.int 0, .ref mm_tape, .int 0, .ref mm_number, .ref mm_clockName, .ref mm_clockOff, .ref mm_clockGain, .ref mm_clockRough, .ref mm_personName, .ref mm_personOff, .ref mm_personGain, .ref mm_personRough, .ref mm_custom, .ref mm_customA, .ref mm_customB, .ref mm_ruleFrom, .ref mm_ruleTo, .ref mm_roundOf, .ref mm_roundAt, .ref mm_roundHour, .ref mm_gunAt, .ref mm_gunHour, .ref mm_knotSort, .ref mm_knotValue, .int 0, .int 0, .int 0, .int 0, .int 0, .int 0, .int 0, .int 0, .int 0, .int (-1), .int 0, .int 0, .int 0, .int 0, .int 0, .int 0, .int 0, .int 0, .int 0, .int 0, .int 0, .int 0, .ref mm_start, .ref mm_off, .ref mm_last, .ref mm_passed, .ref mm_kept, .ref mm_keptMany, .int 0, .int 0, .ref mm_history, .ref mm_names, .ref mm_worked, .int 0, .int 0, .int (-1), .ref mm_readThing, .ref mm_readHour, .ref mm_readLow, .ref mm_readHigh, .int 0, .int 0, .int 0, .ref mm_imageOff, .ref mm_imageLast, .ref mm_imagePassed, .ref mm_imageKept, .ref mm_imageMany, .ref mm_imageHistory])), (mm_number, .inl (k_mm_number, 10, .inl (fun _ => 0)))] H) (hD : va_D A [(xx, .inr (10, [.ref rr, .ref ta, .ref tb, .ref pa, .ref pb, .ref cn, .ref ci, .int 0, .ref cp, .ref ct, .ref hs, .ref rd, .ref wy, .ref ea, .ref eb])), (ta, .inr (8, [.int 0, .int 0, .int 0, .int 0, .int 0, .ref ta_name, .ref ta_first, .ref ta_gain, .ref ta_rough, .ref ta_custom, .ref ta_part, .ref ta_whole, .ref ta_roundPerson, .ref ta_roundClock, .ref ta_roundHour, .ref ta_gunClock, .ref ta_gunHour, .ref tau])), (mm, .inr (11, [.int 0, .ref mm_tape, .int 0, .ref mm_number, .ref mm_clockName, .ref mm_clockOff, .ref mm_clockGain, .ref mm_clockRough, .ref mm_personName, .ref mm_personOff, .ref mm_personGain, .ref mm_personRough, .ref mm_custom, .ref mm_customA, .ref mm_customB, .ref mm_ruleFrom, .ref mm_ruleTo, .ref mm_roundOf, .ref mm_roundAt, .ref mm_roundHour, .ref mm_gunAt, .ref mm_gunHour, .ref mm_knotSort, .ref mm_knotValue, .int 0, .int 0, .int 0, .int 0, .int 0, .int 0, .int 0, .int 0, .int 0, .int (-1), .int 0, .int 0, .int 0, .int 0, .int 0, .int 0, .int 0, .int 0, .int 0, .int 0, .int 0, .int 0, .ref mm_start, .ref mm_off, .ref mm_last, .ref mm_passed, .ref mm_kept, .ref mm_keptMany, .int 0, .int 0, .ref mm_history, .ref mm_names, .ref mm_worked, .int 0, .int 0, .int (-1), .ref mm_readThing, .ref mm_readHour, .ref mm_readLow, .ref mm_readHigh, .int 0, .int 0, .int 0, .ref mm_imageOff, .ref mm_imageLast, .ref mm_imagePassed, .ref mm_imageKept, .ref mm_imageMany, .ref mm_imageHistory])), (mm_number, .inl (k_mm_number, 10, .inl (fun _ => 0)))]) (hS : va_S A s.heap H locs) (hl : lv_has ls 7 [(4, .int 0), (3, .ref oo), (2, .ref mm), (1, .ref xx), (0, .ref b)]) : W p l e room_1 s m #[Value.ref b] below meth c H locs 160 67979 (lw_Z below #[Value.ref b] s) (F0 m 307 ls []) := by
  obtain ⟨hx, hb, hr, hml, hown, hts, hX, hbl, hlocks, hgv⟩ := C0
  have hT : ∀ w ∈ pw_T, w.before #[Value.ref b] s = true := fun w h => hts w (List.mem_filter.mp h).1
  have hown : s.vm.findClass RL = some m.cls := hown
  refine lv_aload_n hx hb dL_law_307 rfl (lv_at hl 3 rfl) ?_
  refine lv_aload_n hx hb dL_law_308 rfl (lv_at hl 4 rfl) ?_
  refine lv_iload hx hb dL_law_309 (lv_at hl 0 rfl) ?_
  refine lv_iconst (v := 1) hx hb dL_law_311 (by decide) ?_
  refine lv_iadd hx hb dL_law_312 ?_
  refine lv_topi (fun z_1 ez_1 => ?_)
  obtain rfl : z_1 = 1 := ez_1.trans (by decide)
  refine va_sld hx hb hX hbl hbA hS (pk_in 1 7 (by decide) (by decide) (by decide)) dL_law_313 ?_
  refine lv_topi (fun z_2 ez_2 => ?_)
  replace ez_2 : z_2 = xs 1 := ez_2
  subst z_2
  refine lv_aload_n hx hb dL_law_314 rfl (lv_at hl 4 rfl) ?_
  refine lv_iload hx hb dL_law_315 (lv_at hl 0 rfl) ?_
  refine lv_iconst (v := 2) hx hb dL_law_317 (by decide) ?_
  refine lv_iadd hx hb dL_law_318 ?_
  refine lv_topi (fun z_3 ez_3 => ?_)
  obtain rfl : z_3 = 2 := ez_3.trans (by decide)
  refine va_sld hx hb hX hbl hbA hS (pk_in 2 7 (by decide) (by decide) (by decide)) dL_law_319 ?_
  refine lv_topi (fun z_4 ez_4 => ?_)
  replace ez_4 : z_4 = xs 2 := ez_4
  subst z_4
  have hPc := hP.sub (ws' := [(xx, .inr (10, [.ref rr, .ref ta, .ref tb, .ref pa, .ref pb, .ref cn, .ref ci, .int 0, .ref cp, .ref ct, .ref hs, .ref rd, .ref wy, .ref ea, .ref eb])), (ta, .inr (8, [.int 0, .int 0, .int 0, .int 0, .int 0, .ref ta_name, .ref ta_first, .ref ta_gain, .ref ta_rough, .ref ta_custom, .ref ta_part, .ref ta_whole, .ref ta_roundPerson, .ref ta_roundClock, .ref ta_roundHour, .ref ta_gunClock, .ref ta_gunHour, .ref tau]))]) [0, 1] rfl
  have hDc := hD.sub (ws' := [(xx, .inr (10, [.ref rr, .ref ta, .ref tb, .ref pa, .ref pb, .ref cn, .ref ci, .int 0, .ref cp, .ref ct, .ref hs, .ref rd, .ref wy, .ref ea, .ref eb])), (ta, .inr (8, [.int 0, .int 0, .int 0, .int 0, .int 0, .ref ta_name, .ref ta_first, .ref ta_gain, .ref ta_rough, .ref ta_custom, .ref ta_part, .ref ta_whole, .ref ta_roundPerson, .ref ta_roundClock, .ref ta_roundHour, .ref ta_gunClock, .ref ta_gunHour, .ref tau]))]) [0, 1] (by decide) rfl
  have hKc := hK.sub (tys' := []) [] rfl
  have hFc := va_free (wc := [(xx, .inr (10, [.ref rr, .ref ta, .ref tb, .ref pa, .ref pb, .ref cn, .ref ci, .int 0, .ref cp, .ref ct, .ref hs, .ref rd, .ref wy, .ref ea, .ref eb])), (ta, .inr (8, [.int 0, .int 0, .int 0, .int 0, .int 0, .ref ta_name, .ref ta_first, .ref ta_gain, .ref ta_rough, .ref ta_custom, .ref ta_part, .ref ta_whole, .ref ta_roundPerson, .ref ta_roundClock, .ref ta_roundHour, .ref ta_gunClock, .ref ta_gunHour, .ref tau]))]) hD hS hA [0, 1] rfl
  refine va_calli (va_runV (As := [.int (xs 1), .int (xs 2)]) (rest := []) ⟨hx, hb, hml, hown, hT⟩ (c_X10_named l dC dI H.size xx (xs 1) (xs 2) rr ta tb pa pb cn ci (0 : Int32) cp ct hs rd wy ea eb (0 : Int32) (0 : Int32) (0 : Int32) ta_name ta_first ta_gain ta_rough ta_custom ta_part ta_whole ta_roundPerson ta_roundClock ta_roundHour ta_gunClock ta_gunHour tau ) (cwV 2 hT (gwV mw_4_31 mw_4_32 mw_4_33 mw_1_1 mw_4_34) rfl rfl rfl (by decide +kernel) ⟨Nat.le_of_ble_eq_true rfl, Nat.le_of_ble_eq_true rfl⟩) ⟨fun a U g mk q => by obtain ⟨q0, q1, qP, qK, qD⟩ := q; exact ⟨q0, q1, qP, va_K.moved (u := U) (U := U.calling g mk a) (Vm.Alike.refl U.vm) qK, qD⟩, va_recv hK hP (ci := 10) (q0 := 0) rfl rfl, fun U hU hW => ⟨rfl, by rw [hU], by rw [hU]; exact hPc, va_K.moved hW.alike hKc, hDc.weaken (fun _ _ _ _ => trivial)⟩⟩ rfl rfl hl.1 rfl (lv_room (Nat.le_of_ble_eq_true rfl)) dL_law_320 ⟨Nat.le_of_ble_eq_true rfl, Nat.le_of_ble_eq_true rfl⟩) hS (fun q _ h => hFc q h) hFc (fun r_6 u t H1 locs ht hvm hw hB hz1 hk1 hS => ?_)
  obtain ⟨hP1, hD1⟩ := hB
  rw [ht] at hP1
  obtain ⟨hP, hD⟩ := va_join (wr := [(mm, .inr (11, [.int 0, .ref mm_tape, .int 0, .ref mm_number, .ref mm_clockName, .ref mm_clockOff, .ref mm_clockGain, .ref mm_clockRough, .ref mm_personName, .ref mm_personOff, .ref mm_personGain, .ref mm_personRough, .ref mm_custom, .ref mm_customA, .ref mm_customB, .ref mm_ruleFrom, .ref mm_ruleTo, .ref mm_roundOf, .ref mm_roundAt, .ref mm_roundHour, .ref mm_gunAt, .ref mm_gunHour, .ref mm_knotSort, .ref mm_knotValue, .int 0, .int 0, .int 0, .int 0, .int 0, .int 0, .int 0, .int 0, .int 0, .int (-1), .int 0, .int 0, .int 0, .int 0, .int 0, .int 0, .int 0, .int 0, .int 0, .int 0, .int 0, .int 0, .ref mm_start, .ref mm_off, .ref mm_last, .ref mm_passed, .ref mm_kept, .ref mm_keptMany, .int 0, .int 0, .ref mm_history, .ref mm_names, .ref mm_worked, .int 0, .int 0, .int (-1), .ref mm_readThing, .ref mm_readHour, .ref mm_readLow, .ref mm_readHigh, .int 0, .int 0, .int 0, .ref mm_imageOff, .ref mm_imageLast, .ref mm_imagePassed, .ref mm_imageKept, .ref mm_imageMany, .ref mm_imageHistory])), (mm_number, .inl (k_mm_number, 10, .inl (fun _ => 0)))]) (w1 := [(xx, .inr (10, [.ref rr, .ref ta, .ref tb, .ref pa, .ref pb, .ref cn, .ref ci, .int 0, .ref cp, .ref ct, .ref hs, .ref rd, .ref wy, .ref ea, .ref eb])), (ta, .inr (8, [.int 0, .int 0, .int 0, .int 0, .int 0, .ref ta_name, .ref ta_first, .ref ta_gain, .ref ta_rough, .ref ta_custom, .ref ta_part, .ref ta_whole, .ref ta_roundPerson, .ref ta_roundClock, .ref ta_roundHour, .ref ta_gunClock, .ref ta_gunHour, .ref tau]))]) hP hD [0, 1] [2, 3] rfl rfl (by decide) (by decide) hk1 hFc hP1 hD1
  generalize H1 = H at hP hS ⊢
  have hP : va_P (dC, dI) vwCl [(mm, .inr (11, [.int 0, .ref mm_tape, .int 0, .ref mm_number, .ref mm_clockName, .ref mm_clockOff, .ref mm_clockGain, .ref mm_clockRough, .ref mm_personName, .ref mm_personOff, .ref mm_personGain, .ref mm_personRough, .ref mm_custom, .ref mm_customA, .ref mm_customB, .ref mm_ruleFrom, .ref mm_ruleTo, .ref mm_roundOf, .ref mm_roundAt, .ref mm_roundHour, .ref mm_gunAt, .ref mm_gunHour, .ref mm_knotSort, .ref mm_knotValue, .int 0, .int 0, .int 0, .int 0, .int 0, .int 0, .int 0, .int 0, .int 0, .int (-1), .int 0, .int 0, .int 0, .int 0, .int 0, .int 0, .int 0, .int 0, .int 0, .int 0, .int 0, .int 0, .ref mm_start, .ref mm_off, .ref mm_last, .ref mm_passed, .ref mm_kept, .ref mm_keptMany, .int 0, .int 0, .ref mm_history, .ref mm_names, .ref mm_worked, .int 0, .int 0, .int (-1), .ref mm_readThing, .ref mm_readHour, .ref mm_readLow, .ref mm_readHigh, .int 0, .int 0, .int 0, .ref mm_imageOff, .ref mm_imageLast, .ref mm_imagePassed, .ref mm_imageKept, .ref mm_imageMany, .ref mm_imageHistory])), (mm_number, .inl (k_mm_number, 10, .inl (fun _ => 0))), (xx, .inr (10, [.ref rr, .ref ta, .ref tb, .ref pa, .ref pb, .ref cn, .ref ci, .int 0, .ref cp, .ref ct, .ref hs, .ref rd, .ref wy, .ref ea, .ref eb])), (ta, .inr (8, [.int 0, .int 0, .int 0, .int 0, .int 0, .ref ta_name, .ref ta_first, .ref ta_gain, .ref ta_rough, .ref ta_custom, .ref ta_part, .ref ta_whole, .ref ta_roundPerson, .ref ta_roundClock, .ref ta_roundHour, .ref ta_gunClock, .ref ta_gunHour, .ref tau]))] H := hP
  have hD : va_D A [(mm, .inr (11, [.int 0, .ref mm_tape, .int 0, .ref mm_number, .ref mm_clockName, .ref mm_clockOff, .ref mm_clockGain, .ref mm_clockRough, .ref mm_personName, .ref mm_personOff, .ref mm_personGain, .ref mm_personRough, .ref mm_custom, .ref mm_customA, .ref mm_customB, .ref mm_ruleFrom, .ref mm_ruleTo, .ref mm_roundOf, .ref mm_roundAt, .ref mm_roundHour, .ref mm_gunAt, .ref mm_gunHour, .ref mm_knotSort, .ref mm_knotValue, .int 0, .int 0, .int 0, .int 0, .int 0, .int 0, .int 0, .int 0, .int 0, .int (-1), .int 0, .int 0, .int 0, .int 0, .int 0, .int 0, .int 0, .int 0, .int 0, .int 0, .int 0, .int 0, .ref mm_start, .ref mm_off, .ref mm_last, .ref mm_passed, .ref mm_kept, .ref mm_keptMany, .int 0, .int 0, .ref mm_history, .ref mm_names, .ref mm_worked, .int 0, .int 0, .int (-1), .ref mm_readThing, .ref mm_readHour, .ref mm_readLow, .ref mm_readHigh, .int 0, .int 0, .int 0, .ref mm_imageOff, .ref mm_imageLast, .ref mm_imagePassed, .ref mm_imageKept, .ref mm_imageMany, .ref mm_imageHistory])), (mm_number, .inl (k_mm_number, 10, .inl (fun _ => 0))), (xx, .inr (10, [.ref rr, .ref ta, .ref tb, .ref pa, .ref pb, .ref cn, .ref ci, .int 0, .ref cp, .ref ct, .ref hs, .ref rd, .ref wy, .ref ea, .ref eb])), (ta, .inr (8, [.int 0, .int 0, .int 0, .int 0, .int 0, .ref ta_name, .ref ta_first, .ref ta_gain, .ref ta_rough, .ref ta_custom, .ref ta_part, .ref ta_whole, .ref ta_roundPerson, .ref ta_roundClock, .ref ta_roundHour, .ref ta_gunClock, .ref ta_gunHour, .ref tau]))] := hD
  clear hPc hDc hKc hFc hP1 hD1 hk1 hz1 ht hvm
  have hw : r_6 = -1 := hw
  subst r_6
  refine lv_aload_n hx hb dL_law_323 rfl (lv_at hl 2 rfl) ?_
  refine lv_aload_n hx hb dL_law_324 rfl (lv_at hl 4 rfl) ?_
  refine lv_iload hx hb dL_law_325 (lv_at hl 0 rfl) ?_
  refine lv_iconst (v := 1) hx hb dL_law_327 (by decide) ?_
  refine lv_iadd hx hb dL_law_328 ?_
  refine lv_topi (fun z_7 ez_7 => ?_)
  obtain rfl : z_7 = 1 := ez_7.trans (by decide)
  refine va_sld hx hb hX hbl hbA hS (pk_in 1 7 (by decide) (by decide) (by decide)) dL_law_329 ?_
  refine lv_topi (fun z_8 ez_8 => ?_)
  replace ez_8 : z_8 = xs 1 := ez_8
  subst z_8
  refine lv_aload_n hx hb dL_law_330 rfl (lv_at hl 4 rfl) ?_
  refine lv_iload hx hb dL_law_331 (lv_at hl 0 rfl) ?_
  refine lv_iconst (v := 2) hx hb dL_law_333 (by decide) ?_
  refine lv_iadd hx hb dL_law_334 ?_
  refine lv_topi (fun z_9 ez_9 => ?_)
  obtain rfl : z_9 = 2 := ez_9.trans (by decide)
  refine va_sld hx hb hX hbl hbA hS (pk_in 2 7 (by decide) (by decide) (by decide)) dL_law_335 ?_
  refine lv_topi (fun z_10 ez_10 => ?_)
  replace ez_10 : z_10 = xs 2 := ez_10
  subst z_10
  have hPc := hP.sub (ws' := [(mm, .inr (11, [.int 0, .ref mm_tape, .int 0, .ref mm_number, .ref mm_clockName, .ref mm_clockOff, .ref mm_clockGain, .ref mm_clockRough, .ref mm_personName, .ref mm_personOff, .ref mm_personGain, .ref mm_personRough, .ref mm_custom, .ref mm_customA, .ref mm_customB, .ref mm_ruleFrom, .ref mm_ruleTo, .ref mm_roundOf, .ref mm_roundAt, .ref mm_roundHour, .ref mm_gunAt, .ref mm_gunHour, .ref mm_knotSort, .ref mm_knotValue, .int 0, .int 0, .int 0, .int 0, .int 0, .int 0, .int 0, .int 0, .int 0, .int (-1), .int 0, .int 0, .int 0, .int 0, .int 0, .int 0, .int 0, .int 0, .int 0, .int 0, .int 0, .int 0, .ref mm_start, .ref mm_off, .ref mm_last, .ref mm_passed, .ref mm_kept, .ref mm_keptMany, .int 0, .int 0, .ref mm_history, .ref mm_names, .ref mm_worked, .int 0, .int 0, .int (-1), .ref mm_readThing, .ref mm_readHour, .ref mm_readLow, .ref mm_readHigh, .int 0, .int 0, .int 0, .ref mm_imageOff, .ref mm_imageLast, .ref mm_imagePassed, .ref mm_imageKept, .ref mm_imageMany, .ref mm_imageHistory])), (mm_number, .inl (k_mm_number, 10, .inl (fun _ => 0)))]) [0, 1] rfl
  have hDc := hD.sub (ws' := [(mm, .inr (11, [.int 0, .ref mm_tape, .int 0, .ref mm_number, .ref mm_clockName, .ref mm_clockOff, .ref mm_clockGain, .ref mm_clockRough, .ref mm_personName, .ref mm_personOff, .ref mm_personGain, .ref mm_personRough, .ref mm_custom, .ref mm_customA, .ref mm_customB, .ref mm_ruleFrom, .ref mm_ruleTo, .ref mm_roundOf, .ref mm_roundAt, .ref mm_roundHour, .ref mm_gunAt, .ref mm_gunHour, .ref mm_knotSort, .ref mm_knotValue, .int 0, .int 0, .int 0, .int 0, .int 0, .int 0, .int 0, .int 0, .int 0, .int (-1), .int 0, .int 0, .int 0, .int 0, .int 0, .int 0, .int 0, .int 0, .int 0, .int 0, .int 0, .int 0, .ref mm_start, .ref mm_off, .ref mm_last, .ref mm_passed, .ref mm_kept, .ref mm_keptMany, .int 0, .int 0, .ref mm_history, .ref mm_names, .ref mm_worked, .int 0, .int 0, .int (-1), .ref mm_readThing, .ref mm_readHour, .ref mm_readLow, .ref mm_readHigh, .int 0, .int 0, .int 0, .ref mm_imageOff, .ref mm_imageLast, .ref mm_imagePassed, .ref mm_imageKept, .ref mm_imageMany, .ref mm_imageHistory])), (mm_number, .inl (k_mm_number, 10, .inl (fun _ => 0)))]) [0, 1] (by decide) rfl
  have hKc := hK.sub (tys' := [(k_mm_number, .int)]) [0] rfl
  have hFc := va_free (wc := [(mm, .inr (11, [.int 0, .ref mm_tape, .int 0, .ref mm_number, .ref mm_clockName, .ref mm_clockOff, .ref mm_clockGain, .ref mm_clockRough, .ref mm_personName, .ref mm_personOff, .ref mm_personGain, .ref mm_personRough, .ref mm_custom, .ref mm_customA, .ref mm_customB, .ref mm_ruleFrom, .ref mm_ruleTo, .ref mm_roundOf, .ref mm_roundAt, .ref mm_roundHour, .ref mm_gunAt, .ref mm_gunHour, .ref mm_knotSort, .ref mm_knotValue, .int 0, .int 0, .int 0, .int 0, .int 0, .int 0, .int 0, .int 0, .int 0, .int (-1), .int 0, .int 0, .int 0, .int 0, .int 0, .int 0, .int 0, .int 0, .int 0, .int 0, .int 0, .int 0, .ref mm_start, .ref mm_off, .ref mm_last, .ref mm_passed, .ref mm_kept, .ref mm_keptMany, .int 0, .int 0, .ref mm_history, .ref mm_names, .ref mm_worked, .int 0, .int 0, .int (-1), .ref mm_readThing, .ref mm_readHour, .ref mm_readLow, .ref mm_readHigh, .int 0, .int 0, .int 0, .ref mm_imageOff, .ref mm_imageLast, .ref mm_imagePassed, .ref mm_imageKept, .ref mm_imageMany, .ref mm_imageHistory])), (mm_number, .inl (k_mm_number, 10, .inl (fun _ => 0)))]) hD hS hA [0, 1] rfl
  have := (by decide : (0 : Int32).toInt = 0)
  have := (by decide : (0 : Int32).toInt = 0)
  have := (by decide : (0 : Int32).toInt = 0)
  have := (by decide : (0 : Int32).toInt = 0)
  have := (by decide : (0 : Int32).toInt = 0)
  have := (by decide : (0 : Int32).toInt = 0)
  have := (by decide : (0 : Int32).toInt = 0)
  have := (by decide : (0 : Int32).toInt = 0)
  have := (by decide : (0 : Int32).toInt = 0)
  have := (by decide : (0 : Int32).toInt = 0)
  have := (by decide : (0 : Int32).toInt = 0)
  have := (by decide : ((-1) : Int32).toInt = -1)
  have := (by decide : (0 : Int32).toInt = 0)
  have := (by decide : (0 : Int32).toInt = 0)
  have := (by decide : (0 : Int32).toInt = 0)
  have := (by decide : (0 : Int32).toInt = 0)
  have := (by decide : (0 : Int32).toInt = 0)
  have := (by decide : (0 : Int32).toInt = 0)
  have := (by decide : (0 : Int32).toInt = 0)
  have := (by decide : (0 : Int32).toInt = 0)
  have := (by decide : (0 : Int32).toInt = 0)
  have := (by decide : (0 : Int32).toInt = 0)
  have := (by decide : (0 : Int32).toInt = 0)
  have := (by decide : (0 : Int32).toInt = 0)
  have := (by decide : (0 : Int32).toInt = 0)
  have := (by decide : (0 : Int32).toInt = 0)
  have := (by decide : (0 : Int32).toInt = 0)
  have := (by decide : (0 : Int32).toInt = 0)
  have := (by decide : ((-1) : Int32).toInt = -1)
  have := (by decide : (0 : Int32).toInt = 0)
  have := (by decide : (0 : Int32).toInt = 0)
  have := (by decide : (0 : Int32).toInt = 0)
  refine va_calli (va_runV (As := [.int (xs 1), .int (xs 2)]) (rest := [.int (-1)]) ⟨hx, hb, hml, hown, hT⟩ (c_X11_named l dC dI H.size mm (xs 1) (xs 2) (0 : Int32) mm_tape (0 : Int32) mm_number mm_clockName mm_clockOff mm_clockGain mm_clockRough mm_personName mm_personOff mm_personGain mm_personRough mm_custom mm_customA mm_customB mm_ruleFrom mm_ruleTo mm_roundOf mm_roundAt mm_roundHour mm_gunAt mm_gunHour mm_knotSort mm_knotValue (0 : Int32) (0 : Int32) (0 : Int32) (0 : Int32) (0 : Int32) (0 : Int32) (0 : Int32) (0 : Int32) (0 : Int32) ((-1) : Int32) (0 : Int32) (0 : Int32) (0 : Int32) (0 : Int32) (0 : Int32) (0 : Int32) (0 : Int32) (0 : Int32) (0 : Int32) (0 : Int32) (0 : Int32) (0 : Int32) mm_start mm_off mm_last mm_passed mm_kept mm_keptMany (0 : Int32) (0 : Int32) mm_history mm_names mm_worked (0 : Int32) (0 : Int32) ((-1) : Int32) mm_readThing mm_readHour mm_readLow mm_readHigh (0 : Int32) (0 : Int32) (0 : Int32) mm_imageOff mm_imageLast mm_imagePassed mm_imageKept mm_imageMany mm_imageHistory k_mm_number (fun _ => 0) (fun _ => rfl)) (cwV 2 hT (gwV mw_7_154 mw_7_155 mw_7_156 mw_1_16 mw_7_157) rfl rfl rfl (by decide +kernel) ⟨Nat.le_of_ble_eq_true rfl, Nat.le_of_ble_eq_true rfl⟩) ⟨fun a U g mk q => by obtain ⟨q0, q1, qP, qK, qD⟩ := q; exact ⟨q0, q1, qP, va_K.moved (u := U) (U := U.calling g mk a) (Vm.Alike.refl U.vm) qK, qD⟩, va_recv hK hP (ci := 11) (q0 := 0) rfl rfl, fun U hU hW => ⟨rfl, by rw [hU], by rw [hU]; exact hPc, va_K.moved hW.alike hKc, hDc.weaken (fun _ _ _ _ => trivial)⟩⟩ rfl rfl hl.1 rfl (lv_room (Nat.le_of_ble_eq_true rfl)) dL_law_336 ⟨Nat.le_of_ble_eq_true rfl, Nat.le_of_ble_eq_true rfl⟩) hS (fun q _ h => hFc q h) hFc (fun r_12 u t H1 locs ht hvm hw hB hz1 hk1 hS => ?_)
  obtain ⟨hP1, hD1⟩ := hB
  rw [ht] at hP1
  obtain ⟨hP, hD⟩ := va_join (wr := [(xx, .inr (10, [.ref rr, .ref ta, .ref tb, .ref pa, .ref pb, .ref cn, .ref ci, .int 0, .ref cp, .ref ct, .ref hs, .ref rd, .ref wy, .ref ea, .ref eb])), (ta, .inr (8, [.int 0, .int 0, .int 0, .int 0, .int 0, .ref ta_name, .ref ta_first, .ref ta_gain, .ref ta_rough, .ref ta_custom, .ref ta_part, .ref ta_whole, .ref ta_roundPerson, .ref ta_roundClock, .ref ta_roundHour, .ref ta_gunClock, .ref ta_gunHour, .ref tau]))]) (w1 := [(mm, .inr (11, [.int 0, .ref mm_tape, .int 0, .ref mm_number, .ref mm_clockName, .ref mm_clockOff, .ref mm_clockGain, .ref mm_clockRough, .ref mm_personName, .ref mm_personOff, .ref mm_personGain, .ref mm_personRough, .ref mm_custom, .ref mm_customA, .ref mm_customB, .ref mm_ruleFrom, .ref mm_ruleTo, .ref mm_roundOf, .ref mm_roundAt, .ref mm_roundHour, .ref mm_gunAt, .ref mm_gunHour, .ref mm_knotSort, .ref mm_knotValue, .int 0, .int 0, .int 0, .int 0, .int 0, .int 0, .int 0, .int 0, .int 0, .int (-1), .int 0, .int 0, .int 0, .int 0, .int 0, .int 0, .int 0, .int 0, .int 0, .int 0, .int 0, .int 0, .ref mm_start, .ref mm_off, .ref mm_last, .ref mm_passed, .ref mm_kept, .ref mm_keptMany, .int 0, .int 0, .ref mm_history, .ref mm_names, .ref mm_worked, .int 0, .int 0, .int (-1), .ref mm_readThing, .ref mm_readHour, .ref mm_readLow, .ref mm_readHigh, .int 0, .int 0, .int 0, .ref mm_imageOff, .ref mm_imageLast, .ref mm_imagePassed, .ref mm_imageKept, .ref mm_imageMany, .ref mm_imageHistory])), (mm_number, .inl (k_mm_number, 10, .inl (fun _ => 0)))]) hP hD [0, 1] [2, 3] rfl rfl (by decide) (by decide) hk1 hFc hP1 hD1
  generalize H1 = H at hP hS ⊢
  have hP : va_P (dC, dI) vwCl [(xx, .inr (10, [.ref rr, .ref ta, .ref tb, .ref pa, .ref pb, .ref cn, .ref ci, .int 0, .ref cp, .ref ct, .ref hs, .ref rd, .ref wy, .ref ea, .ref eb])), (ta, .inr (8, [.int 0, .int 0, .int 0, .int 0, .int 0, .ref ta_name, .ref ta_first, .ref ta_gain, .ref ta_rough, .ref ta_custom, .ref ta_part, .ref ta_whole, .ref ta_roundPerson, .ref ta_roundClock, .ref ta_roundHour, .ref ta_gunClock, .ref ta_gunHour, .ref tau])), (mm, .inr (11, [.int 0, .ref mm_tape, .int 0, .ref mm_number, .ref mm_clockName, .ref mm_clockOff, .ref mm_clockGain, .ref mm_clockRough, .ref mm_personName, .ref mm_personOff, .ref mm_personGain, .ref mm_personRough, .ref mm_custom, .ref mm_customA, .ref mm_customB, .ref mm_ruleFrom, .ref mm_ruleTo, .ref mm_roundOf, .ref mm_roundAt, .ref mm_roundHour, .ref mm_gunAt, .ref mm_gunHour, .ref mm_knotSort, .ref mm_knotValue, .int 0, .int 0, .int 0, .int 0, .int 0, .int 0, .int 0, .int 0, .int 0, .int (-1), .int 0, .int 0, .int 0, .int 0, .int 0, .int 0, .int 0, .int 0, .int 0, .int 0, .int 0, .int 0, .ref mm_start, .ref mm_off, .ref mm_last, .ref mm_passed, .ref mm_kept, .ref mm_keptMany, .int 0, .int 0, .ref mm_history, .ref mm_names, .ref mm_worked, .int 0, .int 0, .int (-1), .ref mm_readThing, .ref mm_readHour, .ref mm_readLow, .ref mm_readHigh, .int 0, .int 0, .int 0, .ref mm_imageOff, .ref mm_imageLast, .ref mm_imagePassed, .ref mm_imageKept, .ref mm_imageMany, .ref mm_imageHistory])), (mm_number, .inl (k_mm_number, 10, .inl (fun _ => 0)))] H := hP
  have hD : va_D A [(xx, .inr (10, [.ref rr, .ref ta, .ref tb, .ref pa, .ref pb, .ref cn, .ref ci, .int 0, .ref cp, .ref ct, .ref hs, .ref rd, .ref wy, .ref ea, .ref eb])), (ta, .inr (8, [.int 0, .int 0, .int 0, .int 0, .int 0, .ref ta_name, .ref ta_first, .ref ta_gain, .ref ta_rough, .ref ta_custom, .ref ta_part, .ref ta_whole, .ref ta_roundPerson, .ref ta_roundClock, .ref ta_roundHour, .ref ta_gunClock, .ref ta_gunHour, .ref tau])), (mm, .inr (11, [.int 0, .ref mm_tape, .int 0, .ref mm_number, .ref mm_clockName, .ref mm_clockOff, .ref mm_clockGain, .ref mm_clockRough, .ref mm_personName, .ref mm_personOff, .ref mm_personGain, .ref mm_personRough, .ref mm_custom, .ref mm_customA, .ref mm_customB, .ref mm_ruleFrom, .ref mm_ruleTo, .ref mm_roundOf, .ref mm_roundAt, .ref mm_roundHour, .ref mm_gunAt, .ref mm_gunHour, .ref mm_knotSort, .ref mm_knotValue, .int 0, .int 0, .int 0, .int 0, .int 0, .int 0, .int 0, .int 0, .int 0, .int (-1), .int 0, .int 0, .int 0, .int 0, .int 0, .int 0, .int 0, .int 0, .int 0, .int 0, .int 0, .int 0, .ref mm_start, .ref mm_off, .ref mm_last, .ref mm_passed, .ref mm_kept, .ref mm_keptMany, .int 0, .int 0, .ref mm_history, .ref mm_names, .ref mm_worked, .int 0, .int 0, .int (-1), .ref mm_readThing, .ref mm_readHour, .ref mm_readLow, .ref mm_readHigh, .int 0, .int 0, .int 0, .ref mm_imageOff, .ref mm_imageLast, .ref mm_imagePassed, .ref mm_imageKept, .ref mm_imageMany, .ref mm_imageHistory])), (mm_number, .inl (k_mm_number, 10, .inl (fun _ => 0)))] := hD
  clear hPc hDc hKc hFc hP1 hD1 hk1 hz1 ht hvm
  have hw : r_12 = -1 := hw
  subst r_12
  refine lv_icmp_eq (tgt := 1482) hx hb dL_law_339 (by decide) (fun c_13 => ?_) (fun c_13 => absurd c_13 (by decide))
  refine lv_iinc (v := 7) (lv' := [(4, .int 7), (3, .ref oo), (2, .ref mm), (1, .ref xx), (0, .ref b)]) hx hb dL_law_1482 hl (k := 0) rfl (by decide) (by decide) rfl (fun ls hl => ?_)
  refine lv_goto (tgt := 23) hx hb dL_law_1485 (by decide) ?_
  refine lv_iload hx hb dL_law_23 (lv_at hl 0 rfl) ?_
  refine lv_aload_n hx hb dL_law_25 rfl (lv_at hl 4 rfl) ?_
  refine va_slen hx hb hX hbl hbA hS dL_law_26 ?_
  refine lv_topi (fun z_14 ez_14 => ?_)
  obtain rfl : z_14 = 7 := ez_14.trans (by decide)
  refine lv_bipush (v := 7) hx hb dL_law_27 (by decide) ?_
  refine lv_isub hx hb dL_law_29 ?_
  refine lv_topi (fun z_15 ez_15 => ?_)
  obtain rfl : z_15 = 0 := ez_15.trans (by decide)
  refine lv_icmp_gt (tgt := 1488) hx hb dL_law_30 (by decide) (fun c_16 => ?_) (fun c_16 => absurd c_16 (by decide))
  refine lv_iconst (v := 1) hx hb dL_law_1488 (by decide) ?_
  refine va_forget (fun q hq => hAo _ (hS.2.2 q hq)) ?_
  refine W.widen (k := 600002) (n := 7302232) (Nat.le_of_ble_eq_true rfl) (Nat.le_of_ble_eq_true rfl) ?_
  exact lw_ret hx hb hr hlocks dL_law_1489
