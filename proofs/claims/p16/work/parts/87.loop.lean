theorem dL_law_23 : decode cL_law 23 = .ok (.iload 4, 2) := by decide +kernel
theorem dL_law_25 : decode cL_law 25 = .ok (.aload_n 0, 1) := by decide +kernel
theorem dL_law_26 : decode cL_law 26 = .ok (.arraylength, 1) := by decide +kernel
theorem dL_law_27 : decode cL_law 27 = .ok (.bipush 7, 2) := by decide +kernel
theorem dL_law_29 : decode cL_law 29 = .ok (.isub, 1) := by decide +kernel
theorem dL_law_30 : decode cL_law 30 = .ok (.if_icmp .gt 1430, 3) := by decide +kernel
theorem dL_law_1460 : decode cL_law 1460 = .ok (.iconst 1, 1) := by decide +kernel
theorem dL_law_1461 : decode cL_law 1461 = .ok (.ireturn, 1) := by decide +kernel
theorem dL_law_1454 : decode cL_law 1454 = .ok (.iinc 4 7, 3) := by decide +kernel
theorem dL_law_1457 : decode cL_law 1457 = .ok (.goto (-1434), 3) := by decide +kernel
theorem dL_law_33 : decode cL_law 33 = .ok (.aload_n 0, 1) := by decide +kernel
theorem dL_law_34 : decode cL_law 34 = .ok (.iload 4, 2) := by decide +kernel
theorem dL_law_36 : decode cL_law 36 = .ok (.iaload, 1) := by decide +kernel
theorem dL_law_37 : decode cL_law 37 = .ok (.bipush 31, 2) := by decide +kernel
theorem dL_law_39 : decode cL_law 39 = .ok (.iand, 1) := by decide +kernel
theorem dL_law_40 : decode cL_law 40 = .ok (.tableswitch 1414 0 31 #[144, 217, 242, 267, 304, 344, 381, 418, 443, 468, 505, 542, 567, 604, 731, 805, 854, 891, 952, 977, 990, 1015, 1052, 1089, 1138, 1163, 1200, 1237, 1326, 1363, 1376, 1389], 144) := by decide +kernel
/-! THE CLAIM OUT OF ONE WALK OF THE LAW'S BODY. Your part is whole_start (and what it stands on); all else here is the same for every law, but numbers. -/
def R_law : String := "PassedClocksLaw"
def lw_P (b : Addr) (xs : List Int32) (args : Array Value) (s : State) : Prop := args = #[.ref b] ∧ s.IntsAt b xs ∧ xs.length ≤ 3584 ∧ (Jvm.Cond.and given_1 narrow_1).before args s = true
def lw_Q (_ : Array Value) (s : State) (o : Outcome) (t : State) : Prop := o = .returned (some (.int 1)) ∧ Framed s o t [] 601024 7293034
def lw_Z (below : List Frame) (a : Array Value) (s : State) : State → Prop := fun t => ∃ o, t.status = .running ∧ Ended t below o ∧ lw_Q a s o t
/-- the law's own end, with 1 on the stack, nothing written that was there before, its room as the claim has it -/
theorem lw_ret {p : Program} {l : Launch} {e : Env} {s : State} {m : MethodId} {below : List Frame} {meth : Method} {c : Code} {b : Nat} (hx : p.tables.exec = Jvm.exec) (hb : c.code = code) (hr : meth.sig.returnType = ret) (hlocks : meth.locks = false) {pc : Nat} {H : Heap} {ls : Array Slot} (hdg : decode code pc = .ok (.ireturn, 1)) : W p l e room_1 s m #[Value.ref b] below meth c H [] 601024 7293034 (lw_Z below #[Value.ref b] s) (F0 m pc ls [.int 1]) := by
  intro T hT X
  obtain ⟨fs, hret, hrun, hended, hW, hframe⟩ := X.leave (v := some (.int 1)) (hlocks := hlocks) (fun h => by rw [hr] at h; cases h)
  have hmeth' : T.vm.method? m = some meth := X.method'
  refine ⟨T.setFrames fs, ?_, .returned (some (.int 1)), hrun, hended, rfl, ⟨_, rfl⟩, hW, hframe⟩
  jvm_step X.here [X.here.top, hx, hb, hdg, hmeth', hr, ret, narrow_b1]
  (try refine ⟨rfl, ?_⟩); (try refine ⟨rfl, ?_⟩)
  first | (intro acts; rw [hret _ acts rfl rfl rfl]) | rw [hret _ _ rfl rfl rfl]
  exact Steps.refl _
/-- what holds at the law's entry: the machine, the code, the tables' words (any of lw_tbl by 'hts w (by decide +kernel)'), the script of L ints xs at the cell b, what the Statement gives of the start (any of its parts by flat_of_before) -/
def lw_At (p : Program) (s : State) (m : MethodId) (meth : Method) (c : Code) (b L : Nat) (xs : Nat → Int32) : Prop :=
  p.tables.exec = Jvm.exec ∧ c.code = code ∧ meth.sig.returnType = ret ∧ c.maxLocals = 7 ∧ s.vm.findClass R_law = some m.cls ∧ (∀ w ∈ lw_tbl, w.before #[Value.ref b] s = true) ∧ va_X b L xs s s.heap ∧ b < s.heap.size ∧ meth.locks = false ∧ (Jvm.Cond.and given_1 narrow_1).before #[Value.ref b] s = true

set_option maxRecDepth 20000 in
theorem j32 : ∀ j, j < 32 → (j = 0 ∨ j = 1 ∨ j = 2 ∨ j = 3 ∨ j = 4 ∨ j = 5 ∨ j = 6 ∨ j = 7 ∨ j = 8 ∨ j = 9 ∨ j = 10 ∨ j = 11 ∨ j = 12 ∨ j = 13 ∨ j = 14 ∨ j = 15 ∨ j = 16 ∨ j = 17 ∨ j = 18 ∨ j = 19 ∨ j = 20 ∨ j = 21 ∨ j = 22 ∨ j = 23 ∨ j = 24 ∨ j = 25 ∨ j = 26 ∨ j = 27 ∨ j = 28 ∨ j = 29 ∨ j = 30 ∨ j = 31) := by decide
set_option maxHeartbeats 4000000 in
set_option maxRecDepth 100000 in
theorem law_loop {p : Program} {l : Launch} {e : Env} {s : State} {m : MethodId} {below : List Frame} {meth : Method} {c : Code} {dC : Nat → ClassId} {dI : Nat → Nat → Nat} {b : Nat} {L : Nat} {xs : Nat → Int32} {A AX AM AO : Nat → Prop}  (hx : p.tables.exec = Jvm.exec) (hb : c.code = cL_law) (hml : c.maxLocals = 7) (hown : s.vm.findClass RL = some m.cls) (hT : ∀ w ∈ pw_T, w.before #[Value.ref b] s = true) (hA : ∀ q, s.heap.size ≤ q → A q) (hAX : ∀ q, AX q → A q) (hAM : ∀ q, AM q → A q) (hAO : ∀ q, AO q → A q) (hd1 : ∀ q, AX q → ¬ AM q) (hd2 : ∀ q, AX q → ¬ AO q) (hd3 : ∀ q, AM q → ¬ AO q) (hXs : va_X b L xs s s.heap) (hbl : b < s.heap.size) (hbA : ¬ A b) (hL : L ≤ 3584)  (hr : meth.sig.returnType = ret) (hlocks : meth.locks = false) (hAo : ∀ q, A q → s.heap.size ≤ q) (hst : l.stackTraces = false) {ns nw : Nat} (hR2 : vk_R RX10 148 "no such person" ns s) (hR3 : vk_R RX10 183 "no such what" nw s) (hZU : vx_Zq Bundle.tN "UNASSIGNED_STACK" Bundle.steD A s s.heap) (hZN : vx_Zq Bundle.tN "SUPPRESSED_SENTINEL" Bundle.listD A s s.heap) (hcast : va_Nw (.castable "java/lang/IndexOutOfBoundsException" "java/lang/IndexOutOfBoundsException") s) (hcas2 : va_Nw (.castable "java/util/NoSuchElementException" "java/util/NoSuchElementException") s) (hnc : va_Nc "java/util/NoSuchElementException" "java/lang/IndexOutOfBoundsException" s) (hd_0 : va_Nw (.declares ⟨"java/lang/RuntimeException", "<init>", "(Ljava/lang/String;)V"⟩) s) (hd_1 : va_Nw (.declares ⟨"java/lang/Exception", "<init>", "(Ljava/lang/String;)V"⟩) s) (hd_2 : va_Nw (.declares ⟨"java/lang/Throwable", "<init>", "(Ljava/lang/String;)V"⟩) s) {sK sV : Nat} (hE : st_S sK sV A s s.heap) (hR : vk_R RX11 186 "clock person round gun gains rough if sets takes half part middle or and not ahead last passed hour day " sK s) {xx mm oo : Nat} : ∀ (fu kc ks : Nat) (vi : Int32) (rr_bytes : Int32) (rr_fault : Int32) (rr_place : Int32) (f_rr_tape : Nat → Int32) (zX : ZZ) (cn_hour : Int32) (ci_hour : Int32) (xx_imageKept : Int32) (rd_count : Int32) (rd_knownFirst : Int32) (cn_passings : Int32) (ci_passings : Int32) (mm_taped : Int32) (mm_lastFault : Int32) (mm_lastPlace : Int32) (f_mm_tape : Nat → Int32) (zM : ZZ) (mm_next : Int32) (mm_imageNext : Int32) (mm_hasImage : Int32) (mm_readings : Int32) (mm_knownBy : Int32) (mm_passings : Int32) (mm_imagePassings : Int32) (H : Heap) (locs : List Loc) (ls : Array Slot), kc + fu + 4 ≤ 601024 → ks + 6 * fu + 24 ≤ 7293034 → 0 ≤ vi.toInt → vi.toInt ≤ 3591 → (L : Int) - vi.toInt < 7 * (fu : Int) → rr_bytes.toInt = mm_taped.toInt → BTt f_rr_tape f_mm_tape rr_bytes.toInt → rr_fault = mm_lastFault → rr_place = mm_lastPlace → zX = zM → cn_hour.toInt = mm_next.toInt → ci_hour.toInt = mm_imageNext.toInt → xx_imageKept.toInt = mm_hasImage.toInt → rd_count.toInt = mm_readings.toInt → rd_knownFirst.toInt = mm_knownBy.toInt → cn_passings = mm_passings → ci_passings = mm_imagePassings → XW dC dI AX s H xx rr_bytes rr_fault rr_place f_rr_tape zX cn_hour ci_hour xx_imageKept rd_count rd_knownFirst cn_passings ci_passings → MW dC dI AM s H mm mm_taped mm_lastFault mm_lastPlace f_mm_tape zM mm_next mm_imageNext mm_hasImage mm_readings mm_knownBy mm_passings mm_imagePassings → OW dC dI AO s H oo → va_S A s.heap H locs → lv_has ls 7 [(4, .int vi), (3, .ref oo), (2, .ref mm), (1, .ref xx), (0, .ref b)] → W p l e room_1 s m #[Value.ref b] below meth c H locs kc ks (lw_Z below #[Value.ref b] s) (F0 m 23 ls []) := by
  intro fu
  induction fu with
  | zero =>
    intro kc ks vi rr_bytes rr_fault rr_place f_rr_tape zX cn_hour ci_hour xx_imageKept rd_count rd_knownFirst cn_passings ci_passings mm_taped mm_lastFault mm_lastPlace f_mm_tape zM mm_next mm_imageNext mm_hasImage mm_readings mm_knownBy mm_passings mm_imagePassings H locs ls hkc hks hv0 hv9 hfu hbt hta hfa hpl hdd hho hih him hrc hrk hps hip hX hM hO hS hl
    have hLt : (Int32.ofNat L).toInt = (L : Int) := nI_toInt (n := L) (by omega)
    have h7 := (by decide : (7 : Int32).toInt = 7)
    refine lv_iload hx hb dL_law_23 (lv_at hl 0 rfl) ?_
    refine lv_aload_n hx hb dL_law_25 rfl (lv_at hl 4 rfl) ?_
    refine va_slen hx hb hXs hbl hbA hS dL_law_26 ?_
    refine lv_bipush (v := 7) hx hb dL_law_27 (by decide) ?_
    refine lv_isub hx hb dL_law_29 ?_
    refine lv_topi (fun z ez => ?_)
    have kz : z.toInt = (L : Int) - 7 := ti_sub ez hLt h7 (by omega) (by omega)
    refine lv_icmp_gt (tgt := 1460) hx hb dL_law_30 (by decide) (fun _ => ?_) (fun cc => False.elim (by have := il_nlt cc; omega))
    refine lv_iconst (v := 1) hx hb dL_law_1460 (by decide) ?_
    refine va_forget (fun q hq => hAo _ (hS.2.2 q hq)) ?_
    refine W.widen (k := 601024) (n := 7293034) (by omega) (by omega) ?_
    exact lw_ret hx hb hr hlocks dL_law_1461
  | succ fu ih =>
    intro kc ks vi rr_bytes rr_fault rr_place f_rr_tape zX cn_hour ci_hour xx_imageKept rd_count rd_knownFirst cn_passings ci_passings mm_taped mm_lastFault mm_lastPlace f_mm_tape zM mm_next mm_imageNext mm_hasImage mm_readings mm_knownBy mm_passings mm_imagePassings H locs ls hkc hks hv0 hv9 hfu hbt hta hfa hpl hdd hho hih him hrc hrk hps hip hX hM hO hS hl
    have hLt : (Int32.ofNat L).toInt = (L : Int) := nI_toInt (n := L) (by omega)
    have h7 := (by decide : (7 : Int32).toInt = 7)
    refine lv_iload hx hb dL_law_23 (lv_at hl 0 rfl) ?_
    refine lv_aload_n hx hb dL_law_25 rfl (lv_at hl 4 rfl) ?_
    refine va_slen hx hb hXs hbl hbA hS dL_law_26 ?_
    refine lv_bipush (v := 7) hx hb dL_law_27 (by decide) ?_
    refine lv_isub hx hb dL_law_29 ?_
    refine lv_topi (fun z ez => ?_)
    have kz : z.toInt = (L : Int) - 7 := ti_sub ez hLt h7 (by omega) (by omega)
    refine lv_icmp_gt (tgt := 1460) hx hb dL_law_30 (by decide) (fun _ => ?_) (fun cc => ?_)
    · skip
      refine lv_iconst (v := 1) hx hb dL_law_1460 (by decide) ?_
      refine va_forget (fun q hq => hAo _ (hS.2.2 q hq)) ?_
      refine W.widen (k := 601024) (n := 7293034) (by omega) (by omega) ?_
      exact lw_ret hx hb hr hlocks dL_law_1461
    · have kcc := il_nlt cc
      have nxt : ∀ (H1 : Heap) (locs1 : List Loc) (ls1 : Array Slot) (n_rr_bytes : Int32) (n_rr_fault : Int32) (n_rr_place : Int32) (n_f_rr_tape : Nat → Int32) (n_zX : ZZ) (n_cn_hour : Int32) (n_ci_hour : Int32) (n_xx_imageKept : Int32) (n_rd_count : Int32) (n_rd_knownFirst : Int32) (n_cn_passings : Int32) (n_ci_passings : Int32) (n_mm_taped : Int32) (n_mm_lastFault : Int32) (n_mm_lastPlace : Int32) (n_f_mm_tape : Nat → Int32) (n_zM : ZZ) (n_mm_next : Int32) (n_mm_imageNext : Int32) (n_mm_hasImage : Int32) (n_mm_readings : Int32) (n_mm_knownBy : Int32) (n_mm_passings : Int32) (n_mm_imagePassings : Int32), n_rr_bytes.toInt = n_mm_taped.toInt → BTt n_f_rr_tape n_f_mm_tape n_rr_bytes.toInt → n_rr_fault = n_mm_lastFault → n_rr_place = n_mm_lastPlace → n_zX = n_zM → n_cn_hour.toInt = n_mm_next.toInt → n_ci_hour.toInt = n_mm_imageNext.toInt → n_xx_imageKept.toInt = n_mm_hasImage.toInt → n_rd_count.toInt = n_mm_readings.toInt → n_rd_knownFirst.toInt = n_mm_knownBy.toInt → n_cn_passings = n_mm_passings → n_ci_passings = n_mm_imagePassings → XW dC dI AX s H1 xx n_rr_bytes n_rr_fault n_rr_place n_f_rr_tape n_zX n_cn_hour n_ci_hour n_xx_imageKept n_rd_count n_rd_knownFirst n_cn_passings n_ci_passings → MW dC dI AM s H1 mm n_mm_taped n_mm_lastFault n_mm_lastPlace n_f_mm_tape n_zM n_mm_next n_mm_imageNext n_mm_hasImage n_mm_readings n_mm_knownBy n_mm_passings n_mm_imagePassings → OW dC dI AO s H1 oo → va_S A s.heap H1 locs1 → lv_has ls1 7 [(4, .int vi), (3, .ref oo), (2, .ref mm), (1, .ref xx), (0, .ref b)] → W p l e room_1 s m #[Value.ref b] below meth c H1 locs1 (kc + 1) (ks + 6) (lw_Z below #[Value.ref b] s) (F0 m 1454 ls1 []) := by
        intro H1 locs1 ls1 n_rr_bytes n_rr_fault n_rr_place n_f_rr_tape n_zX n_cn_hour n_ci_hour n_xx_imageKept n_rd_count n_rd_knownFirst n_cn_passings n_ci_passings n_mm_taped n_mm_lastFault n_mm_lastPlace n_f_mm_tape n_zM n_mm_next n_mm_imageNext n_mm_hasImage n_mm_readings n_mm_knownBy n_mm_passings n_mm_imagePassings hbt hta hfa hpl hdd hho hih him hrc hrk hps hip hX hM hO hS hl
        obtain ⟨y, ey⟩ : ∃ y : Int32, y = vi + Int32.ofInt (7) := ⟨_, rfl⟩
        have ky : y.toInt = vi.toInt + (7) := ti_add ey rfl (by decide) (by omega) (by omega)
        refine lv_iinc (v := y) (lv' := [(4, .int y), (3, .ref oo), (2, .ref mm), (1, .ref xx), (0, .ref b)]) hx hb dL_law_1454 hl (k := 0) rfl (ey.symm) (by decide) rfl (fun ls hl => ?_)
        refine lv_goto (tgt := 23) hx hb dL_law_1457 (by decide) ?_
        exact ih (kc + 1) (ks + 6) y n_rr_bytes n_rr_fault n_rr_place n_f_rr_tape n_zX n_cn_hour n_ci_hour n_xx_imageKept n_rd_count n_rd_knownFirst n_cn_passings n_ci_passings n_mm_taped n_mm_lastFault n_mm_lastPlace n_f_mm_tape n_zM n_mm_next n_mm_imageNext n_mm_hasImage n_mm_readings n_mm_knownBy n_mm_passings n_mm_imagePassings H1 locs1 ls (by omega) (by omega) (by omega) (by omega) (by omega) hbt hta hfa hpl hdd hho hih him hrc hrk hps hip hX hM hO hS hl
      refine lv_aload_n hx hb dL_law_33 rfl (lv_at hl 4 rfl) ?_
      refine lv_iload hx hb dL_law_34 (lv_at hl 0 rfl) ?_
      refine va_sld hx hb hXs hbl hbA hS (vp_in_iff.mpr (by omega)) dL_law_36 ?_
      refine lv_bipush (v := 31) hx hb dL_law_37 (by decide) ?_
      refine lv_iand hx hb dL_law_39 ?_
      obtain ⟨j, hj, ej⟩ := pk_andE (xs vi.toNatClampNeg) (m := 31) 5 (by decide)
      refine lv_topi (fun z2 ez2 => ?_)
      obtain rfl : z2 = nI j := ez2.trans ej
      clear ez2 ej
      have hj : j < 32 := hj
      rcases j32 j hj with rfl | rfl | rfl | rfl | rfl | rfl | rfl | rfl | rfl | rfl | rfl | rfl | rfl | rfl | rfl | rfl | rfl | rfl | rfl | rfl | rfl | rfl | rfl | rfl | rfl | rfl | rfl | rfl | rfl | rfl | rfl | rfl
      · refine lv_tableIn (off := 144) (tgt := 184) hx hb dL_law_40 (by decide) (by decide) (by decide) (by decide) ?_
        exact law_op_0 hx hb hml hown hT hA hAX hAM hAO hd1 hd2 hd3 hXs hbl hbA hL (by omega) (by omega) hv0 (by omega) hbt hta hfa hpl hdd hho hih him hrc hrk hps hip hX hM hO hS hl nxt
      · refine lv_tableIn (off := 217) (tgt := 257) hx hb dL_law_40 (by decide) (by decide) (by decide) (by decide) ?_
        exact law_op_1 hx hb hml hown hT hA hAX hAM hAO hd1 hd2 hd3 hXs hbl hbA hL (by omega) (by omega) hE hR hv0 (by omega) hbt hta hfa hpl hdd hho hih him hrc hrk hps hip hX hM hO hS hl nxt
      · refine lv_tableIn (off := 242) (tgt := 282) hx hb dL_law_40 (by decide) (by decide) (by decide) (by decide) ?_
        exact law_op_2 hx hb hml hown hT hA hAX hAM hAO hd1 hd2 hd3 hXs hbl hbA hL (by omega) (by omega) hv0 (by omega) hbt hta hfa hpl hdd hho hih him hrc hrk hps hip hX hM hO hS hl nxt
      · refine lv_tableIn (off := 267) (tgt := 307) hx hb dL_law_40 (by decide) (by decide) (by decide) (by decide) ?_
        exact law_op_3 hx hb hml hown hT hA hAX hAM hAO hd1 hd2 hd3 hXs hbl hbA hL (by omega) (by omega) hv0 (by omega) hbt hta hfa hpl hdd hho hih him hrc hrk hps hip hX hM hO hS hl nxt
      · refine lv_tableIn (off := 304) (tgt := 344) hx hb dL_law_40 (by decide) (by decide) (by decide) (by decide) ?_
        exact law_op_4 hx hb hml hown hT hA hAX hAM hAO hd1 hd2 hd3 hXs hbl hbA hL (by omega) (by omega) hst hR2 hR3 hZU hZN hcast hcas2 hnc hd_0 hd_1 hd_2 hv0 (by omega) hbt hta hfa hpl hdd hho hih him hrc hrk hps hip hX hM hO hS hl nxt
      · refine lv_tableIn (off := 344) (tgt := 384) hx hb dL_law_40 (by decide) (by decide) (by decide) (by decide) ?_
        exact law_op_5 hx hb hml hown hT hA hAX hAM hAO hd1 hd2 hd3 hXs hbl hbA hL (by omega) (by omega) hv0 (by omega) hbt hta hfa hpl hdd hho hih him hrc hrk hps hip hX hM hO hS hl nxt
      · refine lv_tableIn (off := 381) (tgt := 421) hx hb dL_law_40 (by decide) (by decide) (by decide) (by decide) ?_
        exact law_op_6 hx hb hml hown hT hA hAX hAM hAO hd1 hd2 hd3 hXs hbl hbA hL (by omega) (by omega) hv0 (by omega) hbt hta hfa hpl hdd hho hih him hrc hrk hps hip hX hM hO hS hl nxt
      · refine lv_tableIn (off := 418) (tgt := 458) hx hb dL_law_40 (by decide) (by decide) (by decide) (by decide) ?_
        exact law_op_7 hx hb hml hown hT hA hAX hAM hAO hd1 hd2 hd3 hXs hbl hbA hL (by omega) (by omega) hv0 (by omega) hbt hta hfa hpl hdd hho hih him hrc hrk hps hip hX hM hO hS hl nxt
      · refine lv_tableIn (off := 443) (tgt := 483) hx hb dL_law_40 (by decide) (by decide) (by decide) (by decide) ?_
        exact law_op_8 hx hb hml hown hT hA hAX hAM hAO hd1 hd2 hd3 hXs hbl hbA hL (by omega) (by omega) hv0 (by omega) hbt hta hfa hpl hdd hho hih him hrc hrk hps hip hX hM hO hS hl nxt
      · refine lv_tableIn (off := 468) (tgt := 508) hx hb dL_law_40 (by decide) (by decide) (by decide) (by decide) ?_
        exact law_op_9 hx hb hml hown hT hA hAX hAM hAO hd1 hd2 hd3 hXs hbl hbA hL (by omega) (by omega) hv0 (by omega) hbt hta hfa hpl hdd hho hih him hrc hrk hps hip hX hM hO hS hl nxt
      · refine lv_tableIn (off := 505) (tgt := 545) hx hb dL_law_40 (by decide) (by decide) (by decide) (by decide) ?_
        exact law_op_10 hx hb hml hown hT hA hAX hAM hAO hd1 hd2 hd3 hXs hbl hbA hL (by omega) (by omega) hv0 (by omega) hbt hta hfa hpl hdd hho hih him hrc hrk hps hip hX hM hO hS hl nxt
      · refine lv_tableIn (off := 542) (tgt := 582) hx hb dL_law_40 (by decide) (by decide) (by decide) (by decide) ?_
        exact law_op_11 hx hb hml hown hT hA hAX hAM hAO hd1 hd2 hd3 hXs hbl hbA hL (by omega) (by omega) hv0 (by omega) hbt hta hfa hpl hdd hho hih him hrc hrk hps hip hX hM hO hS hl nxt
      · refine lv_tableIn (off := 567) (tgt := 607) hx hb dL_law_40 (by decide) (by decide) (by decide) (by decide) ?_
        exact law_op_12 hx hb hml hown hT hA hAX hAM hAO hd1 hd2 hd3 hXs hbl hbA hL (by omega) (by omega) hv0 (by omega) hbt hta hfa hpl hdd hho hih him hrc hrk hps hip hX hM hO hS hl nxt
      · refine lv_tableIn (off := 604) (tgt := 644) hx hb dL_law_40 (by decide) (by decide) (by decide) (by decide) ?_
        exact law_op_13 hx hb hml hown hT hA hAX hAM hAO hd1 hd2 hd3 hXs hbl hbA hL (by omega) (by omega) hv0 (by omega) hbt hta hfa hpl hdd hho hih him hrc hrk hps hip hX hM hO hS hl nxt
      · refine lv_tableIn (off := 731) (tgt := 771) hx hb dL_law_40 (by decide) (by decide) (by decide) (by decide) ?_
        exact law_op_14 hx hb hml hown hT hA hAX hAM hAO hd1 hd2 hd3 hXs hbl hbA hL (by omega) (by omega) hv0 (by omega) hbt hta hfa hpl hdd hho hih him hrc hrk hps hip hX hM hO hS hl nxt
      · refine lv_tableIn (off := 805) (tgt := 845) hx hb dL_law_40 (by decide) (by decide) (by decide) (by decide) ?_
        exact law_op_15 hx hb hml hown hT hA hAX hAM hAO hd1 hd2 hd3 hXs hbl hbA hL (by omega) (by omega) hv0 (by omega) hbt hta hfa hpl hdd hho hih him hrc hrk hps hip hX hM hO hS hl nxt
      · refine lv_tableIn (off := 854) (tgt := 894) hx hb dL_law_40 (by decide) (by decide) (by decide) (by decide) ?_
        exact law_op_16 hx hb hml hown hT hA hAX hAM hAO hd1 hd2 hd3 hXs hbl hbA hL (by omega) (by omega) hv0 (by omega) hbt hta hfa hpl hdd hho hih him hrc hrk hps hip hX hM hO hS hl nxt
      · refine lv_tableIn (off := 891) (tgt := 931) hx hb dL_law_40 (by decide) (by decide) (by decide) (by decide) ?_
        exact law_op_17 hx hb hml hown hT hA hAX hAM hAO hd1 hd2 hd3 hXs hbl hbA hL (by omega) (by omega) hv0 (by omega) hbt hta hfa hpl hdd hho hih him hrc hrk hps hip hX hM hO hS hl nxt
      · refine lv_tableIn (off := 952) (tgt := 992) hx hb dL_law_40 (by decide) (by decide) (by decide) (by decide) ?_
        exact law_op_18 hx hb hml hown hT hA hAX hAM hAO hd1 hd2 hd3 hXs hbl hbA hL (by omega) (by omega) hv0 (by omega) hbt hta hfa hpl hdd hho hih him hrc hrk hps hip hX hM hO hS hl nxt
      · refine lv_tableIn (off := 977) (tgt := 1017) hx hb dL_law_40 (by decide) (by decide) (by decide) (by decide) ?_
        exact law_op_19 hx hb hml hown hT hA hAX hAM hAO hd1 hd2 hd3 hXs hbl hbA hL (by omega) (by omega) hv0 (by omega) hbt hta hfa hpl hdd hho hih him hrc hrk hps hip hX hM hO hS hl nxt
      · refine lv_tableIn (off := 990) (tgt := 1030) hx hb dL_law_40 (by decide) (by decide) (by decide) (by decide) ?_
        exact law_op_20 hx hb hml hown hT hA hAX hAM hAO hd1 hd2 hd3 hXs hbl hbA hL (by omega) (by omega) hv0 (by omega) hbt hta hfa hpl hdd hho hih him hrc hrk hps hip hX hM hO hS hl nxt
      · refine lv_tableIn (off := 1015) (tgt := 1055) hx hb dL_law_40 (by decide) (by decide) (by decide) (by decide) ?_
        exact law_op_21 hx hb hml hown hT hA hAX hAM hAO hd1 hd2 hd3 hXs hbl hbA hL (by omega) (by omega) hv0 (by omega) hbt hta hfa hpl hdd hho hih him hrc hrk hps hip hX hM hO hS hl nxt
      · refine lv_tableIn (off := 1052) (tgt := 1092) hx hb dL_law_40 (by decide) (by decide) (by decide) (by decide) ?_
        exact law_op_22 hx hb hml hown hT hA hAX hAM hAO hd1 hd2 hd3 hXs hbl hbA hL (by omega) (by omega) hv0 (by omega) hbt hta hfa hpl hdd hho hih him hrc hrk hps hip hX hM hO hS hl nxt
      · refine lv_tableIn (off := 1089) (tgt := 1129) hx hb dL_law_40 (by decide) (by decide) (by decide) (by decide) ?_
        exact law_op_23 hx hb hml hown hT hA hAX hAM hAO hd1 hd2 hd3 hXs hbl hbA hL (by omega) (by omega) hv0 (by omega) hbt hta hfa hpl hdd hho hih him hrc hrk hps hip hX hM hO hS hl nxt
      · refine lv_tableIn (off := 1138) (tgt := 1178) hx hb dL_law_40 (by decide) (by decide) (by decide) (by decide) ?_
        exact law_op_24 hx hb hml hown hT hA hAX hAM hAO hd1 hd2 hd3 hXs hbl hbA hL (by omega) (by omega) hv0 (by omega) hbt hta hfa hpl hdd hho hih him hrc hrk hps hip hX hM hO hS hl nxt
      · refine lv_tableIn (off := 1163) (tgt := 1203) hx hb dL_law_40 (by decide) (by decide) (by decide) (by decide) ?_
        exact law_op_25 hx hb hml hown hT hA hAX hAM hAO hd1 hd2 hd3 hXs hbl hbA hL (by omega) (by omega) hv0 (by omega) hbt hta hfa hpl hdd hho hih him hrc hrk hps hip hX hM hO hS hl nxt
      · refine lv_tableIn (off := 1200) (tgt := 1240) hx hb dL_law_40 (by decide) (by decide) (by decide) (by decide) ?_
        exact law_op_26 hx hb hml hown hT hA hAX hAM hAO hd1 hd2 hd3 hXs hbl hbA hL (by omega) (by omega) hv0 (by omega) hbt hta hfa hpl hdd hho hih him hrc hrk hps hip hX hM hO hS hl nxt
      · refine lv_tableIn (off := 1237) (tgt := 1277) hx hb dL_law_40 (by decide) (by decide) (by decide) (by decide) ?_
        exact law_op_27 hx hb hml hown hT hA hAX hAM hAO hd1 hd2 hd3 hXs hbl hbA hL (by omega) (by omega) hv0 (by omega) hbt hta hfa hpl hdd hho hih him hrc hrk hps hip hX hM hO hS hl nxt
      · refine lv_tableIn (off := 1326) (tgt := 1366) hx hb dL_law_40 (by decide) (by decide) (by decide) (by decide) ?_
        exact law_op_28 hx hb hml hown hT hA hAX hAM hAO hd1 hd2 hd3 hXs hbl hbA hL (by omega) (by omega) hv0 (by omega) hbt hta hfa hpl hdd hho hih him hrc hrk hps hip hX hM hO hS hl nxt
      · refine lv_tableIn (off := 1363) (tgt := 1403) hx hb dL_law_40 (by decide) (by decide) (by decide) (by decide) ?_
        exact law_op_29 hx hb hml hown hT hA hAX hAM hAO hd1 hd2 hd3 hXs hbl hbA hL (by omega) (by omega) hv0 (by omega) hbt hta hfa hpl hdd hho hih him hrc hrk hps hip hX hM hO hS hl nxt
      · refine lv_tableIn (off := 1376) (tgt := 1416) hx hb dL_law_40 (by decide) (by decide) (by decide) (by decide) ?_
        exact law_op_30 hx hb hml hown hT hA hAX hAM hAO hd1 hd2 hd3 hXs hbl hbA hL (by omega) (by omega) hv0 (by omega) hbt hta hfa hpl hdd hho hih him hrc hrk hps hip hX hM hO hS hl nxt
      · refine lv_tableIn (off := 1389) (tgt := 1429) hx hb dL_law_40 (by decide) (by decide) (by decide) (by decide) ?_
        exact law_op_31 hx hb hml hown hT hA hAX hAM hAO hd1 hd2 hd3 hXs hbl hbA hL (by omega) (by omega) hv0 (by omega) hbt hta hfa hpl hdd hho hih him hrc hrk hps hip hX hM hO hS hl nxt
