theorem dL_law_33 : decode cL_law 33 = .ok (.aload_n 0, 1) := by decide +kernel
theorem dL_law_34 : decode cL_law 34 = .ok (.iload 4, 2) := by decide +kernel
theorem dL_law_36 : decode cL_law 36 = .ok (.iaload, 1) := by decide +kernel
theorem dL_law_37 : decode cL_law 37 = .ok (.bipush 31, 2) := by decide +kernel
theorem dL_law_39 : decode cL_law 39 = .ok (.iand, 1) := by decide +kernel
theorem dL_law_40 : decode cL_law 40 = .ok (.tableswitch 1442 0 31 #[144, 217, 242, 267, 304, 372, 409, 446, 471, 496, 533, 570, 595, 632, 759, 833, 882, 919, 980, 1005, 1018, 1043, 1080, 1117, 1166, 1191, 1228, 1265, 1354, 1391, 1404, 1417], 144) := by decide +kernel
set_option maxHeartbeats 4000000 in
set_option maxRecDepth 100000 in
theorem law_head {p : Program} {l : Launch} {e : Env} {s : State} {m : MethodId} {below : List Frame} {meth : Method} {c : Code} {dC : Nat → ClassId} {dI : Nat → Nat → Nat} {b L : Nat} {xs : Nat → Int32} {A : Nat → Prop} (C0 : lw_At p s m meth c b L xs) (hA : ∀ q, s.heap.size ≤ q → A q) (hbA : ¬ A b) (hAo : ∀ q, A q → s.heap.size ≤ q) (hst : l.stackTraces = false) {ns : Nat} (hR2 : vk_R RX10 148 "no such person" ns s) (hZU : vx_Zq Bundle.tN "UNASSIGNED_STACK" Bundle.steD A s s.heap) (hZN : vx_Zq Bundle.tN "SUPPRESSED_SENTINEL" Bundle.listD A s s.heap) (hcast : va_Nw (.castable "java/lang/IndexOutOfBoundsException" "java/lang/IndexOutOfBoundsException") s) (hd_0 : va_Nw (.declares ⟨"java/lang/RuntimeException", "<init>", "(Ljava/lang/String;)V"⟩) s) (hd_1 : va_Nw (.declares ⟨"java/lang/Exception", "<init>", "(Ljava/lang/String;)V"⟩) s) (hd_2 : va_Nw (.declares ⟨"java/lang/Throwable", "<init>", "(Ljava/lang/String;)V"⟩) s) (hL : L ≤ 7) {xx mm oo n1 : Nat} {H : Heap} {locs : List Loc} {ls : Array Slot} (hn1 : s.heap.size ≤ n1) (hX : XW dC dI (fun q : Nat => s.heap.size ≤ q ∧ q < n1) s H xx) (hM : MW dC dI (fun q : Nat => n1 ≤ q) s H mm) (hS : va_S A s.heap H locs) (hl : lv_has ls 7 [(4, .int 0), (3, .ref oo), (2, .ref mm), (1, .ref xx), (0, .ref b)]) : W p l e room_1 s m #[Value.ref b] below meth c H locs 160 67979 (lw_Z below #[Value.ref b] s) (F0 m 23 ls []) := by
  obtain ⟨hx, hb, hr, hml, hown, hts, hXs, hbl, hlocks, hgv⟩ := id C0
  refine lv_iload hx hb dL_law_23 (lv_at hl 0 rfl) ?_
  refine lv_aload_n hx hb dL_law_25 rfl (lv_at hl 4 rfl) ?_
  refine va_slen hx hb hXs hbl hbA hS dL_law_26 ?_
  refine lv_bipush (v := 7) hx hb dL_law_27 (by decide) ?_
  refine lv_isub hx hb dL_law_29 ?_
  rcases Nat.lt_or_ge L 7 with h7 | h7
  · refine lv_icmp_gt (tgt := 1488) hx hb dL_law_30 (by decide) (fun _ => ?_) (fun c => absurd (pk_sneg (a := L) (b := 7) (by decide) h7) c)
    refine lv_iconst (v := 1) hx hb dL_law_1488 (by decide) ?_
    refine va_forget (fun q hq => hAo _ (hS.2.2 q hq)) ?_
    refine W.widen (k := 600002) (n := 7302232) (Nat.le_of_ble_eq_true rfl) (Nat.le_of_ble_eq_true rfl) ?_
    exact lw_ret hx hb hr hlocks dL_law_1489
  · obtain rfl : L = 7 := by omega
    refine lv_icmp_gt (tgt := 1488) hx hb dL_law_30 (by decide) (fun c => absurd c (by decide)) (fun _ => ?_)
    refine lv_aload_n hx hb dL_law_33 rfl (lv_at hl 4 rfl) ?_
    refine lv_iload hx hb dL_law_34 (lv_at hl 0 rfl) ?_
    refine va_sld hx hb hXs hbl hbA hS (pk_in 0 7 (by decide) (by decide) (by decide)) dL_law_36 ?_
    refine lv_bipush (v := 31) hx hb dL_law_37 (by decide) ?_
    refine lv_iand hx hb dL_law_39 ?_
    obtain ⟨j, hj, ej⟩ := pk_andE (xs (0 : Int32).toNatClampNeg) (m := 31) 5 (by decide)
    refine lv_topi (fun z ez => ?_)
    obtain rfl : z = nI j := ez.trans ej
    clear ez ej
    have hj : j < 32 := hj
    rcases j32 j hj with rfl | rfl | rfl | rfl | rfl | rfl | rfl | rfl | rfl | rfl | rfl | rfl | rfl | rfl | rfl | rfl | rfl | rfl | rfl | rfl | rfl | rfl | rfl | rfl | rfl | rfl | rfl | rfl | rfl | rfl | rfl | rfl
    · refine lv_tableIn (off := 144) (tgt := 184) hx hb dL_law_40 (by decide) (by decide) (by decide) (by decide) ?_
      exact law_case_0 C0 hA hbA hAo hn1 hX hM hS hl
    · refine lv_tableIn (off := 217) (tgt := 257) hx hb dL_law_40 (by decide) (by decide) (by decide) (by decide) ?_
      exact law_case_1 C0 hA hbA hAo hn1 hX hM hS hl
    · refine lv_tableIn (off := 242) (tgt := 282) hx hb dL_law_40 (by decide) (by decide) (by decide) (by decide) ?_
      exact law_case_2 C0 hA hbA hAo hn1 hX hM hS hl
    · refine lv_tableIn (off := 267) (tgt := 307) hx hb dL_law_40 (by decide) (by decide) (by decide) (by decide) ?_
      exact law_case_3 C0 hA hbA hAo hn1 hX hM hS hl
    · refine lv_tableIn (off := 304) (tgt := 344) hx hb dL_law_40 (by decide) (by decide) (by decide) (by decide) ?_
      exact law_case_4 C0 hA hbA hAo hst hR2 hZU hZN hcast hd_0 hd_1 hd_2 hn1 hX hM hS hl
    · refine lv_tableIn (off := 372) (tgt := 412) hx hb dL_law_40 (by decide) (by decide) (by decide) (by decide) ?_
      exact law_case_5 C0 hA hbA hAo hn1 hX hM hS hl
    · refine lv_tableIn (off := 409) (tgt := 449) hx hb dL_law_40 (by decide) (by decide) (by decide) (by decide) ?_
      exact law_case_6 C0 hA hbA hAo hn1 hX hM hS hl
    · refine lv_tableIn (off := 446) (tgt := 486) hx hb dL_law_40 (by decide) (by decide) (by decide) (by decide) ?_
      exact law_case_7 C0 hA hbA hAo hn1 hX hM hS hl
    · refine lv_tableIn (off := 471) (tgt := 511) hx hb dL_law_40 (by decide) (by decide) (by decide) (by decide) ?_
      exact law_case_8 C0 hA hbA hAo hn1 hX hM hS hl
    · refine lv_tableIn (off := 496) (tgt := 536) hx hb dL_law_40 (by decide) (by decide) (by decide) (by decide) ?_
      exact law_case_9 C0 hA hbA hAo hn1 hX hM hS hl
    · refine lv_tableIn (off := 533) (tgt := 573) hx hb dL_law_40 (by decide) (by decide) (by decide) (by decide) ?_
      exact law_case_10 C0 hA hbA hAo hn1 hX hM hS hl
    · refine lv_tableIn (off := 570) (tgt := 610) hx hb dL_law_40 (by decide) (by decide) (by decide) (by decide) ?_
      exact law_case_11 C0 hA hbA hAo hn1 hX hM hS hl
    · refine lv_tableIn (off := 595) (tgt := 635) hx hb dL_law_40 (by decide) (by decide) (by decide) (by decide) ?_
      exact law_case_12 C0 hA hbA hAo hn1 hX hM hS hl
    · refine lv_tableIn (off := 632) (tgt := 672) hx hb dL_law_40 (by decide) (by decide) (by decide) (by decide) ?_
      exact law_case_13 C0 hA hbA hAo hn1 hX hM hS hl
    · refine lv_tableIn (off := 759) (tgt := 799) hx hb dL_law_40 (by decide) (by decide) (by decide) (by decide) ?_
      exact law_case_14 C0 hA hbA hAo hn1 hX hM hS hl
    · refine lv_tableIn (off := 833) (tgt := 873) hx hb dL_law_40 (by decide) (by decide) (by decide) (by decide) ?_
      exact law_case_15 C0 hA hbA hAo hn1 hX hM hS hl
    · refine lv_tableIn (off := 882) (tgt := 922) hx hb dL_law_40 (by decide) (by decide) (by decide) (by decide) ?_
      exact law_case_16 C0 hA hbA hAo hn1 hX hM hS hl
    · refine lv_tableIn (off := 919) (tgt := 959) hx hb dL_law_40 (by decide) (by decide) (by decide) (by decide) ?_
      exact law_case_17 C0 hA hbA hAo hn1 hX hM hS hl
    · refine lv_tableIn (off := 980) (tgt := 1020) hx hb dL_law_40 (by decide) (by decide) (by decide) (by decide) ?_
      exact law_case_18 C0 hA hbA hAo hn1 hX hM hS hl
    · refine lv_tableIn (off := 1005) (tgt := 1045) hx hb dL_law_40 (by decide) (by decide) (by decide) (by decide) ?_
      exact law_case_19 C0 hA hbA hAo hn1 hX hM hS hl
    · refine lv_tableIn (off := 1018) (tgt := 1058) hx hb dL_law_40 (by decide) (by decide) (by decide) (by decide) ?_
      exact law_case_20 C0 hA hbA hAo hn1 hX hM hS hl
    · refine lv_tableIn (off := 1043) (tgt := 1083) hx hb dL_law_40 (by decide) (by decide) (by decide) (by decide) ?_
      exact law_case_21 C0 hA hbA hAo hn1 hX hM hS hl
    · refine lv_tableIn (off := 1080) (tgt := 1120) hx hb dL_law_40 (by decide) (by decide) (by decide) (by decide) ?_
      exact law_case_22 C0 hA hbA hAo hn1 hX hM hS hl
    · refine lv_tableIn (off := 1117) (tgt := 1157) hx hb dL_law_40 (by decide) (by decide) (by decide) (by decide) ?_
      exact law_case_23 C0 hA hbA hAo hn1 hX hM hS hl
    · refine lv_tableIn (off := 1166) (tgt := 1206) hx hb dL_law_40 (by decide) (by decide) (by decide) (by decide) ?_
      exact law_case_24 C0 hA hbA hAo hn1 hX hM hS hl
    · refine lv_tableIn (off := 1191) (tgt := 1231) hx hb dL_law_40 (by decide) (by decide) (by decide) (by decide) ?_
      exact law_case_25 C0 hA hbA hAo hn1 hX hM hS hl
    · refine lv_tableIn (off := 1228) (tgt := 1268) hx hb dL_law_40 (by decide) (by decide) (by decide) (by decide) ?_
      exact law_case_26 C0 hA hbA hAo hn1 hX hM hS hl
    · refine lv_tableIn (off := 1265) (tgt := 1305) hx hb dL_law_40 (by decide) (by decide) (by decide) (by decide) ?_
      exact law_case_27 C0 hA hbA hAo hn1 hX hM hS hl
    · refine lv_tableIn (off := 1354) (tgt := 1394) hx hb dL_law_40 (by decide) (by decide) (by decide) (by decide) ?_
      exact law_case_28 C0 hA hbA hAo hn1 hX hM hS hl
    · refine lv_tableIn (off := 1391) (tgt := 1431) hx hb dL_law_40 (by decide) (by decide) (by decide) (by decide) ?_
      exact law_case_29 C0 hA hbA hAo hn1 hX hM hS hl
    · refine lv_tableIn (off := 1404) (tgt := 1444) hx hb dL_law_40 (by decide) (by decide) (by decide) (by decide) ?_
      exact law_case_30 C0 hA hbA hAo hn1 hX hM hS hl
    · refine lv_tableIn (off := 1417) (tgt := 1457) hx hb dL_law_40 (by decide) (by decide) (by decide) (by decide) ?_
      exact law_case_31 C0 hA hbA hAo hn1 hX hM hS hl
