theorem dL_law_922 : decode cL_law 922 = .ok (.aload_n 1, 1) := by decide +kernel
theorem dL_law_923 : decode cL_law 923 = .ok (.aload_n 0, 1) := by decide +kernel
theorem dL_law_924 : decode cL_law 924 = .ok (.iload 4, 2) := by decide +kernel
theorem dL_law_926 : decode cL_law 926 = .ok (.iconst 1, 1) := by decide +kernel
theorem dL_law_927 : decode cL_law 927 = .ok (.iadd, 1) := by decide +kernel
theorem dL_law_928 : decode cL_law 928 = .ok (.iaload, 1) := by decide +kernel
theorem dL_law_929 : decode cL_law 929 = .ok (.aload_n 0, 1) := by decide +kernel
theorem dL_law_930 : decode cL_law 930 = .ok (.iload 4, 2) := by decide +kernel
theorem dL_law_932 : decode cL_law 932 = .ok (.iconst 2, 1) := by decide +kernel
theorem dL_law_933 : decode cL_law 933 = .ok (.iadd, 1) := by decide +kernel
theorem dL_law_934 : decode cL_law 934 = .ok (.iaload, 1) := by decide +kernel
theorem dL_law_935 : decode cL_law 935 = .ok (.invokevirtual 98, 3) := by decide +kernel
theorem dL_law_938 : decode cL_law 938 = .ok (.aload_n 2, 1) := by decide +kernel
theorem dL_law_939 : decode cL_law 939 = .ok (.aload_n 0, 1) := by decide +kernel
theorem dL_law_940 : decode cL_law 940 = .ok (.iload 4, 2) := by decide +kernel
theorem dL_law_942 : decode cL_law 942 = .ok (.iconst 1, 1) := by decide +kernel
theorem dL_law_943 : decode cL_law 943 = .ok (.iadd, 1) := by decide +kernel
theorem dL_law_944 : decode cL_law 944 = .ok (.iaload, 1) := by decide +kernel
theorem dL_law_945 : decode cL_law 945 = .ok (.aload_n 0, 1) := by decide +kernel
theorem dL_law_946 : decode cL_law 946 = .ok (.iload 4, 2) := by decide +kernel
theorem dL_law_948 : decode cL_law 948 = .ok (.iconst 2, 1) := by decide +kernel
theorem dL_law_949 : decode cL_law 949 = .ok (.iadd, 1) := by decide +kernel
theorem dL_law_950 : decode cL_law 950 = .ok (.iaload, 1) := by decide +kernel
theorem dL_law_951 : decode cL_law 951 = .ok (.invokevirtual 101, 3) := by decide +kernel
theorem dL_law_954 : decode cL_law 954 = .ok (.if_icmp .eq 528, 3) := by decide +kernel
theorem dL_law_959 : decode cL_law 959 = .ok (.aload_n 1, 1) := by decide +kernel
theorem dL_law_960 : decode cL_law 960 = .ok (.aload_n 0, 1) := by decide +kernel
theorem dL_law_961 : decode cL_law 961 = .ok (.iload 4, 2) := by decide +kernel
theorem dL_law_963 : decode cL_law 963 = .ok (.iconst 1, 1) := by decide +kernel
theorem dL_law_964 : decode cL_law 964 = .ok (.iadd, 1) := by decide +kernel
theorem dL_law_965 : decode cL_law 965 = .ok (.iaload, 1) := by decide +kernel
theorem dL_law_966 : decode cL_law 966 = .ok (.aload_n 0, 1) := by decide +kernel
theorem dL_law_967 : decode cL_law 967 = .ok (.iload 4, 2) := by decide +kernel
theorem dL_law_969 : decode cL_law 969 = .ok (.iconst 2, 1) := by decide +kernel
theorem dL_law_970 : decode cL_law 970 = .ok (.iadd, 1) := by decide +kernel
theorem dL_law_971 : decode cL_law 971 = .ok (.iaload, 1) := by decide +kernel
theorem dL_law_972 : decode cL_law 972 = .ok (.aload_n 0, 1) := by decide +kernel
theorem dL_law_973 : decode cL_law 973 = .ok (.iload 4, 2) := by decide +kernel
theorem dL_law_975 : decode cL_law 975 = .ok (.iconst 3, 1) := by decide +kernel
theorem dL_law_976 : decode cL_law 976 = .ok (.iadd, 1) := by decide +kernel
theorem dL_law_977 : decode cL_law 977 = .ok (.iaload, 1) := by decide +kernel
theorem dL_law_978 : decode cL_law 978 = .ok (.aload_n 0, 1) := by decide +kernel
theorem dL_law_979 : decode cL_law 979 = .ok (.iload 4, 2) := by decide +kernel
theorem dL_law_981 : decode cL_law 981 = .ok (.iconst 4, 1) := by decide +kernel
theorem dL_law_982 : decode cL_law 982 = .ok (.iadd, 1) := by decide +kernel
theorem dL_law_983 : decode cL_law 983 = .ok (.iaload, 1) := by decide +kernel
theorem dL_law_984 : decode cL_law 984 = .ok (.invokevirtual 102, 3) := by decide +kernel
theorem dL_law_987 : decode cL_law 987 = .ok (.aload_n 2, 1) := by decide +kernel
theorem dL_law_988 : decode cL_law 988 = .ok (.aload_n 0, 1) := by decide +kernel
theorem dL_law_989 : decode cL_law 989 = .ok (.iload 4, 2) := by decide +kernel
theorem dL_law_991 : decode cL_law 991 = .ok (.iconst 1, 1) := by decide +kernel
theorem dL_law_992 : decode cL_law 992 = .ok (.iadd, 1) := by decide +kernel
theorem dL_law_993 : decode cL_law 993 = .ok (.iaload, 1) := by decide +kernel
theorem dL_law_994 : decode cL_law 994 = .ok (.aload_n 0, 1) := by decide +kernel
theorem dL_law_995 : decode cL_law 995 = .ok (.iload 4, 2) := by decide +kernel
theorem dL_law_997 : decode cL_law 997 = .ok (.iconst 2, 1) := by decide +kernel
theorem dL_law_998 : decode cL_law 998 = .ok (.iadd, 1) := by decide +kernel
theorem dL_law_999 : decode cL_law 999 = .ok (.iaload, 1) := by decide +kernel
theorem dL_law_1000 : decode cL_law 1000 = .ok (.aload_n 0, 1) := by decide +kernel
theorem dL_law_1001 : decode cL_law 1001 = .ok (.iload 4, 2) := by decide +kernel
theorem dL_law_1003 : decode cL_law 1003 = .ok (.iconst 3, 1) := by decide +kernel
theorem dL_law_1004 : decode cL_law 1004 = .ok (.iadd, 1) := by decide +kernel
theorem dL_law_1005 : decode cL_law 1005 = .ok (.iaload, 1) := by decide +kernel
theorem dL_law_1006 : decode cL_law 1006 = .ok (.aload_n 0, 1) := by decide +kernel
theorem dL_law_1007 : decode cL_law 1007 = .ok (.iload 4, 2) := by decide +kernel
theorem dL_law_1009 : decode cL_law 1009 = .ok (.iconst 4, 1) := by decide +kernel
theorem dL_law_1010 : decode cL_law 1010 = .ok (.iadd, 1) := by decide +kernel
theorem dL_law_1011 : decode cL_law 1011 = .ok (.iaload, 1) := by decide +kernel
theorem dL_law_1012 : decode cL_law 1012 = .ok (.invokevirtual 106, 3) := by decide +kernel
theorem dL_law_1015 : decode cL_law 1015 = .ok (.if_icmp .eq 467, 3) := by decide +kernel
theorem dL_law_1020 : decode cL_law 1020 = .ok (.aload_n 1, 1) := by decide +kernel
theorem dL_law_1021 : decode cL_law 1021 = .ok (.aload_n 0, 1) := by decide +kernel
theorem dL_law_1022 : decode cL_law 1022 = .ok (.iload 4, 2) := by decide +kernel
theorem dL_law_1024 : decode cL_law 1024 = .ok (.iconst 1, 1) := by decide +kernel
theorem dL_law_1025 : decode cL_law 1025 = .ok (.iadd, 1) := by decide +kernel
theorem dL_law_1026 : decode cL_law 1026 = .ok (.iaload, 1) := by decide +kernel
theorem dL_law_1027 : decode cL_law 1027 = .ok (.invokevirtual 107, 3) := by decide +kernel
theorem dL_law_1030 : decode cL_law 1030 = .ok (.aload_n 2, 1) := by decide +kernel
theorem dL_law_1031 : decode cL_law 1031 = .ok (.aload_n 0, 1) := by decide +kernel
theorem dL_law_1032 : decode cL_law 1032 = .ok (.iload 4, 2) := by decide +kernel
theorem dL_law_1034 : decode cL_law 1034 = .ok (.iconst 1, 1) := by decide +kernel
theorem dL_law_1035 : decode cL_law 1035 = .ok (.iadd, 1) := by decide +kernel
theorem dL_law_1036 : decode cL_law 1036 = .ok (.iaload, 1) := by decide +kernel
theorem dL_law_1037 : decode cL_law 1037 = .ok (.invokevirtual 111, 3) := by decide +kernel
theorem dL_law_1040 : decode cL_law 1040 = .ok (.if_icmp .eq 442, 3) := by decide +kernel
theorem dL_law_1045 : decode cL_law 1045 = .ok (.aload_n 1, 1) := by decide +kernel
theorem dL_law_1046 : decode cL_law 1046 = .ok (.invokevirtual 112, 3) := by decide +kernel
theorem dL_law_1049 : decode cL_law 1049 = .ok (.aload_n 2, 1) := by decide +kernel
theorem dL_law_1050 : decode cL_law 1050 = .ok (.invokevirtual 115, 3) := by decide +kernel
theorem dL_law_1053 : decode cL_law 1053 = .ok (.if_icmp .eq 429, 3) := by decide +kernel
set_option maxHeartbeats 4000000 in
set_option maxRecDepth 100000 in
theorem law_op_16 {p : Program} {l : Launch} {e : Env} {s : State} {m : MethodId} {below : List Frame} {meth : Method} {c : Code} {dC : Nat → ClassId} {dI : Nat → Nat → Nat} {b : Nat} {xs : Nat → Int32} {A : Nat → Prop} (C0 : lw_At p s m meth c b 7 xs) (hA : ∀ q, s.heap.size ≤ q → A q) (hbA : ¬ A b) (hAo : ∀ q, A q → s.heap.size ≤ q) {xx : Nat} {rr : Nat} {ta : Nat} {tb : Nat} {pa : Nat} {pb : Nat} {cn : Nat} {ci : Nat} {cp : Nat} {ct : Nat} {hs : Nat} {rd : Nat} {wy : Nat} {ea : Nat} {eb : Nat} {ta_name : Nat} {ta_first : Nat} {ta_gain : Nat} {ta_rough : Nat} {ta_custom : Nat} {ta_part : Nat} {ta_whole : Nat} {ta_roundPerson : Nat} {ta_roundClock : Nat} {ta_roundHour : Nat} {ta_gunClock : Nat} {ta_gunHour : Nat} {tau : Nat} {mm : Nat} {mm_tape : Nat} {mm_number : Nat} {mm_clockName : Nat} {mm_clockOff : Nat} {mm_clockGain : Nat} {mm_clockRough : Nat} {mm_personName : Nat} {mm_personOff : Nat} {mm_personGain : Nat} {mm_personRough : Nat} {mm_custom : Nat} {mm_customA : Nat} {mm_customB : Nat} {mm_ruleFrom : Nat} {mm_ruleTo : Nat} {mm_roundOf : Nat} {mm_roundAt : Nat} {mm_roundHour : Nat} {mm_gunAt : Nat} {mm_gunHour : Nat} {mm_knotSort : Nat} {mm_knotValue : Nat} {mm_start : Nat} {mm_off : Nat} {mm_last : Nat} {mm_passed : Nat} {mm_kept : Nat} {mm_keptMany : Nat} {mm_history : Nat} {mm_names : Nat} {mm_worked : Nat} {mm_readThing : Nat} {mm_readHour : Nat} {mm_readLow : Nat} {mm_readHigh : Nat} {mm_imageOff : Nat} {mm_imageLast : Nat} {mm_imagePassed : Nat} {mm_imageKept : Nat} {mm_imageMany : Nat} {mm_imageHistory : Nat} {k_mm_number : ClassId} {oo : Nat} {H : Heap} {locs : List Loc} {ls : Array Slot} (hK : va_K (dC, dI) vwCl [(k_mm_number, .int)] s) (hP : va_P (dC, dI) vwCl [(xx, .inr (10, [.ref rr, .ref ta, .ref tb, .ref pa, .ref pb, .ref cn, .ref ci, .int 0, .ref cp, .ref ct, .ref hs, .ref rd, .ref wy, .ref ea, .ref eb])), (ta, .inr (8, [.int 0, .int 0, .int 0, .int 0, .int 0, .ref ta_name, .ref ta_first, .ref ta_gain, .ref ta_rough, .ref ta_custom, .ref ta_part, .ref ta_whole, .ref ta_roundPerson, .ref ta_roundClock, .ref ta_roundHour, .ref ta_gunClock, .ref ta_gunHour, .ref tau])), (mm, .inr (11, [.int 0, .ref mm_tape, .int 0, .ref mm_number, .ref mm_clockName, .ref mm_clockOff, .ref mm_clockGain, .ref mm_clockRough, .ref mm_personName, .ref mm_personOff, .ref mm_personGain, .ref mm_personRough, .ref mm_custom, .ref mm_customA, .ref mm_customB, .ref mm_ruleFrom, .ref mm_ruleTo, .ref mm_roundOf, .ref mm_roundAt, .ref mm_roundHour, .ref mm_gunAt, .ref mm_gunHour, .ref mm_knotSort, .ref mm_knotValue, .int 0, .int 0, .int 0, .int 0, .int 0, .int 0, .int 0, .int 0, .int 0, .int (-1), .int 0, .int 0, .int 0, .int 0, .int 0, .int 0, .int 0, .int 0, .int 0, .int 0, .int 0, .int 0, .ref mm_start, .ref mm_off, .ref mm_last, .ref mm_passed, .ref mm_kept, .ref mm_keptMany, .int 0, .int 0, .ref mm_history, .ref mm_names, .ref mm_worked, .int 0, .int 0, .int (-1), .ref mm_readThing, .ref mm_readHour, .ref mm_readLow, .ref mm_readHigh, .int 0, .int 0, .int 0, .ref mm_imageOff, .ref mm_imageLast, .ref mm_imagePassed, .ref mm_imageKept, .ref mm_imageMany, .ref mm_imageHistory])), (mm_number, .inl (k_mm_number, 10, .inl (fun _ => 0)))] H) (hD : va_D A [(xx, .inr (10, [.ref rr, .ref ta, .ref tb, .ref pa, .ref pb, .ref cn, .ref ci, .int 0, .ref cp, .ref ct, .ref hs, .ref rd, .ref wy, .ref ea, .ref eb])), (ta, .inr (8, [.int 0, .int 0, .int 0, .int 0, .int 0, .ref ta_name, .ref ta_first, .ref ta_gain, .ref ta_rough, .ref ta_custom, .ref ta_part, .ref ta_whole, .ref ta_roundPerson, .ref ta_roundClock, .ref ta_roundHour, .ref ta_gunClock, .ref ta_gunHour, .ref tau])), (mm, .inr (11, [.int 0, .ref mm_tape, .int 0, .ref mm_number, .ref mm_clockName, .ref mm_clockOff, .ref mm_clockGain, .ref mm_clockRough, .ref mm_personName, .ref mm_personOff, .ref mm_personGain, .ref mm_personRough, .ref mm_custom, .ref mm_customA, .ref mm_customB, .ref mm_ruleFrom, .ref mm_ruleTo, .ref mm_roundOf, .ref mm_roundAt, .ref mm_roundHour, .ref mm_gunAt, .ref mm_gunHour, .ref mm_knotSort, .ref mm_knotValue, .int 0, .int 0, .int 0, .int 0, .int 0, .int 0, .int 0, .int 0, .int 0, .int (-1), .int 0, .int 0, .int 0, .int 0, .int 0, .int 0, .int 0, .int 0, .int 0, .int 0, .int 0, .int 0, .ref mm_start, .ref mm_off, .ref mm_last, .ref mm_passed, .ref mm_kept, .ref mm_keptMany, .int 0, .int 0, .ref mm_history, .ref mm_names, .ref mm_worked, .int 0, .int 0, .int (-1), .ref mm_readThing, .ref mm_readHour, .ref mm_readLow, .ref mm_readHigh, .int 0, .int 0, .int 0, .ref mm_imageOff, .ref mm_imageLast, .ref mm_imagePassed, .ref mm_imageKept, .ref mm_imageMany, .ref mm_imageHistory])), (mm_number, .inl (k_mm_number, 10, .inl (fun _ => 0)))]) (hS : va_S A s.heap H locs) (hl : lv_has ls 7 [(4, .int 0), (3, .ref oo), (2, .ref mm), (1, .ref xx), (0, .ref b)]) : W p l e room_1 s m #[Value.ref b] below meth c H locs 160 67979 (lw_Z below #[Value.ref b] s) (F0 m 922 ls []) := by
  obtain ⟨hx, hb, hr, hml, hown, hts, hX, hbl, hlocks, hgv⟩ := C0
  have hT : ∀ w ∈ pw_T, w.before #[Value.ref b] s = true := fun w h => hts w (List.mem_filter.mp h).1
  have hown : s.vm.findClass RL = some m.cls := hown
  refine lv_aload_n hx hb dL_law_922 rfl (lv_at hl 3 rfl) ?_
  refine lv_aload_n hx hb dL_law_923 rfl (lv_at hl 4 rfl) ?_
  refine lv_iload hx hb dL_law_924 (lv_at hl 0 rfl) ?_
  refine lv_iconst (v := 1) hx hb dL_law_926 (by decide) ?_
  refine lv_iadd hx hb dL_law_927 ?_
  refine lv_topi (fun z_1 ez_1 => ?_)
  obtain rfl : z_1 = 1 := ez_1.trans (by decide)
  refine va_sld hx hb hX hbl hbA hS (pk_in 1 7 (by decide) (by decide) (by decide)) dL_law_928 ?_
  refine lv_topi (fun z_2 ez_2 => ?_)
  replace ez_2 : z_2 = xs 1 := ez_2
  subst z_2
  refine lv_aload_n hx hb dL_law_929 rfl (lv_at hl 4 rfl) ?_
  refine lv_iload hx hb dL_law_930 (lv_at hl 0 rfl) ?_
  refine lv_iconst (v := 2) hx hb dL_law_932 (by decide) ?_
  refine lv_iadd hx hb dL_law_933 ?_
  refine lv_topi (fun z_3 ez_3 => ?_)
  obtain rfl : z_3 = 2 := ez_3.trans (by decide)
  refine va_sld hx hb hX hbl hbA hS (pk_in 2 7 (by decide) (by decide) (by decide)) dL_law_934 ?_
  refine lv_topi (fun z_4 ez_4 => ?_)
  replace ez_4 : z_4 = xs 2 := ez_4
  subst z_4
  have hPc := hP.sub (ws' := [(xx, .inr (10, [.ref rr, .ref ta, .ref tb, .ref pa, .ref pb, .ref cn, .ref ci, .int 0, .ref cp, .ref ct, .ref hs, .ref rd, .ref wy, .ref ea, .ref eb])), (ta, .inr (8, [.int 0, .int 0, .int 0, .int 0, .int 0, .ref ta_name, .ref ta_first, .ref ta_gain, .ref ta_rough, .ref ta_custom, .ref ta_part, .ref ta_whole, .ref ta_roundPerson, .ref ta_roundClock, .ref ta_roundHour, .ref ta_gunClock, .ref ta_gunHour, .ref tau]))]) [0, 1] rfl
  have hDc := hD.sub (ws' := [(xx, .inr (10, [.ref rr, .ref ta, .ref tb, .ref pa, .ref pb, .ref cn, .ref ci, .int 0, .ref cp, .ref ct, .ref hs, .ref rd, .ref wy, .ref ea, .ref eb])), (ta, .inr (8, [.int 0, .int 0, .int 0, .int 0, .int 0, .ref ta_name, .ref ta_first, .ref ta_gain, .ref ta_rough, .ref ta_custom, .ref ta_part, .ref ta_whole, .ref ta_roundPerson, .ref ta_roundClock, .ref ta_roundHour, .ref ta_gunClock, .ref ta_gunHour, .ref tau]))]) [0, 1] (by decide) rfl
  have hKc := hK.sub (tys' := []) [] rfl
  have hFc := va_free (wc := [(xx, .inr (10, [.ref rr, .ref ta, .ref tb, .ref pa, .ref pb, .ref cn, .ref ci, .int 0, .ref cp, .ref ct, .ref hs, .ref rd, .ref wy, .ref ea, .ref eb])), (ta, .inr (8, [.int 0, .int 0, .int 0, .int 0, .int 0, .ref ta_name, .ref ta_first, .ref ta_gain, .ref ta_rough, .ref ta_custom, .ref ta_part, .ref ta_whole, .ref ta_roundPerson, .ref ta_roundClock, .ref ta_roundHour, .ref ta_gunClock, .ref ta_gunHour, .ref tau]))]) hD hS hA [0, 1] rfl
  refine va_calli (va_runV (As := [.int (xs 1), .int (xs 2)]) (rest := []) ⟨hx, hb, hml, hown, hT⟩ (c_X10_ends l dC dI H.size xx (xs 1) (xs 2) rr ta tb pa pb cn ci (0 : Int32) cp ct hs rd wy ea eb (0 : Int32) (0 : Int32) (0 : Int32) ta_name ta_first ta_gain ta_rough ta_custom ta_part ta_whole ta_roundPerson ta_roundClock ta_roundHour ta_gunClock ta_gunHour tau ) (cwV 2 hT (gwV mw_4_212 mw_4_213 mw_4_214 mw_1_1 mw_4_215) rfl rfl rfl (by decide +kernel) ⟨Nat.le_of_ble_eq_true rfl, Nat.le_of_ble_eq_true rfl⟩) ⟨fun a U g mk q => by obtain ⟨q0, q1, qP, qK, qD⟩ := q; exact ⟨q0, q1, qP, va_K.moved (u := U) (U := U.calling g mk a) (Vm.Alike.refl U.vm) qK, qD⟩, va_recv hK hP (ci := 10) (q0 := 0) rfl rfl, fun U hU hW => ⟨rfl, by rw [hU], by rw [hU]; exact hPc, va_K.moved hW.alike hKc, hDc.weaken (fun _ _ _ _ => trivial)⟩⟩ rfl rfl hl.1 rfl (lv_room (Nat.le_of_ble_eq_true rfl)) dL_law_935 ⟨Nat.le_of_ble_eq_true rfl, Nat.le_of_ble_eq_true rfl⟩) hS (fun q _ h => hFc q h) hFc (fun r_6 u t H1 locs ht hvm hw hB hz1 hk1 hS => ?_)
  obtain ⟨hP1, hD1⟩ := hB
  rw [ht] at hP1
  obtain ⟨hP, hD⟩ := va_join (wr := [(mm, .inr (11, [.int 0, .ref mm_tape, .int 0, .ref mm_number, .ref mm_clockName, .ref mm_clockOff, .ref mm_clockGain, .ref mm_clockRough, .ref mm_personName, .ref mm_personOff, .ref mm_personGain, .ref mm_personRough, .ref mm_custom, .ref mm_customA, .ref mm_customB, .ref mm_ruleFrom, .ref mm_ruleTo, .ref mm_roundOf, .ref mm_roundAt, .ref mm_roundHour, .ref mm_gunAt, .ref mm_gunHour, .ref mm_knotSort, .ref mm_knotValue, .int 0, .int 0, .int 0, .int 0, .int 0, .int 0, .int 0, .int 0, .int 0, .int (-1), .int 0, .int 0, .int 0, .int 0, .int 0, .int 0, .int 0, .int 0, .int 0, .int 0, .int 0, .int 0, .ref mm_start, .ref mm_off, .ref mm_last, .ref mm_passed, .ref mm_kept, .ref mm_keptMany, .int 0, .int 0, .ref mm_history, .ref mm_names, .ref mm_worked, .int 0, .int 0, .int (-1), .ref mm_readThing, .ref mm_readHour, .ref mm_readLow, .ref mm_readHigh, .int 0, .int 0, .int 0, .ref mm_imageOff, .ref mm_imageLast, .ref mm_imagePassed, .ref mm_imageKept, .ref mm_imageMany, .ref mm_imageHistory])), (mm_number, .inl (k_mm_number, 10, .inl (fun _ => 0)))]) (w1 := [(xx, .inr (10, [.ref rr, .ref ta, .ref tb, .ref pa, .ref pb, .ref cn, .ref ci, .int 0, .ref cp, .ref ct, .ref hs, .ref rd, .ref wy, .ref ea, .ref eb])), (ta, .inr (8, [.int 0, .int 0, .int 0, .int 0, .int 0, .ref ta_name, .ref ta_first, .ref ta_gain, .ref ta_rough, .ref ta_custom, .ref ta_part, .ref ta_whole, .ref ta_roundPerson, .ref ta_roundClock, .ref ta_roundHour, .ref ta_gunClock, .ref ta_gunHour, .ref tau]))]) hP hD [0, 1] [2, 3] rfl rfl (by decide) (by decide) hk1 hFc hP1 hD1
  generalize H1 = H at hP hS ⊢
  have hP : va_P (dC, dI) vwCl [(mm, .inr (11, [.int 0, .ref mm_tape, .int 0, .ref mm_number, .ref mm_clockName, .ref mm_clockOff, .ref mm_clockGain, .ref mm_clockRough, .ref mm_personName, .ref mm_personOff, .ref mm_personGain, .ref mm_personRough, .ref mm_custom, .ref mm_customA, .ref mm_customB, .ref mm_ruleFrom, .ref mm_ruleTo, .ref mm_roundOf, .ref mm_roundAt, .ref mm_roundHour, .ref mm_gunAt, .ref mm_gunHour, .ref mm_knotSort, .ref mm_knotValue, .int 0, .int 0, .int 0, .int 0, .int 0, .int 0, .int 0, .int 0, .int 0, .int (-1), .int 0, .int 0, .int 0, .int 0, .int 0, .int 0, .int 0, .int 0, .int 0, .int 0, .int 0, .int 0, .ref mm_start, .ref mm_off, .ref mm_last, .ref mm_passed, .ref mm_kept, .ref mm_keptMany, .int 0, .int 0, .ref mm_history, .ref mm_names, .ref mm_worked, .int 0, .int 0, .int (-1), .ref mm_readThing, .ref mm_readHour, .ref mm_readLow, .ref mm_readHigh, .int 0, .int 0, .int 0, .ref mm_imageOff, .ref mm_imageLast, .ref mm_imagePassed, .ref mm_imageKept, .ref mm_imageMany, .ref mm_imageHistory])), (mm_number, .inl (k_mm_number, 10, .inl (fun _ => 0))), (xx, .inr (10, [.ref rr, .ref ta, .ref tb, .ref pa, .ref pb, .ref cn, .ref ci, .int 0, .ref cp, .ref ct, .ref hs, .ref rd, .ref wy, .ref ea, .ref eb])), (ta, .inr (8, [.int 0, .int 0, .int 0, .int 0, .int 0, .ref ta_name, .ref ta_first, .ref ta_gain, .ref ta_rough, .ref ta_custom, .ref ta_part, .ref ta_whole, .ref ta_roundPerson, .ref ta_roundClock, .ref ta_roundHour, .ref ta_gunClock, .ref ta_gunHour, .ref tau]))] H := hP
  have hD : va_D A [(mm, .inr (11, [.int 0, .ref mm_tape, .int 0, .ref mm_number, .ref mm_clockName, .ref mm_clockOff, .ref mm_clockGain, .ref mm_clockRough, .ref mm_personName, .ref mm_personOff, .ref mm_personGain, .ref mm_personRough, .ref mm_custom, .ref mm_customA, .ref mm_customB, .ref mm_ruleFrom, .ref mm_ruleTo, .ref mm_roundOf, .ref mm_roundAt, .ref mm_roundHour, .ref mm_gunAt, .ref mm_gunHour, .ref mm_knotSort, .ref mm_knotValue, .int 0, .int 0, .int 0, .int 0, .int 0, .int 0, .int 0, .int 0, .int 0, .int (-1), .int 0, .int 0, .int 0, .int 0, .int 0, .int 0, .int 0, .int 0, .int 0, .int 0, .int 0, .int 0, .ref mm_start, .ref mm_off, .ref mm_last, .ref mm_passed, .ref mm_kept, .ref mm_keptMany, .int 0, .int 0, .ref mm_history, .ref mm_names, .ref mm_worked, .int 0, .int 0, .int (-1), .ref mm_readThing, .ref mm_readHour, .ref mm_readLow, .ref mm_readHigh, .int 0, .int 0, .int 0, .ref mm_imageOff, .ref mm_imageLast, .ref mm_imagePassed, .ref mm_imageKept, .ref mm_imageMany, .ref mm_imageHistory])), (mm_number, .inl (k_mm_number, 10, .inl (fun _ => 0))), (xx, .inr (10, [.ref rr, .ref ta, .ref tb, .ref pa, .ref pb, .ref cn, .ref ci, .int 0, .ref cp, .ref ct, .ref hs, .ref rd, .ref wy, .ref ea, .ref eb])), (ta, .inr (8, [.int 0, .int 0, .int 0, .int 0, .int 0, .ref ta_name, .ref ta_first, .ref ta_gain, .ref ta_rough, .ref ta_custom, .ref ta_part, .ref ta_whole, .ref ta_roundPerson, .ref ta_roundClock, .ref ta_roundHour, .ref ta_gunClock, .ref ta_gunHour, .ref tau]))] := hD
  clear hPc hDc hKc hFc hP1 hD1 hk1 hz1 ht hvm
  have hw : r_6 = -2147483648 := hw
  subst r_6
  refine lv_aload_n hx hb dL_law_938 rfl (lv_at hl 2 rfl) ?_
  refine lv_aload_n hx hb dL_law_939 rfl (lv_at hl 4 rfl) ?_
  refine lv_iload hx hb dL_law_940 (lv_at hl 0 rfl) ?_
  refine lv_iconst (v := 1) hx hb dL_law_942 (by decide) ?_
  refine lv_iadd hx hb dL_law_943 ?_
  refine lv_topi (fun z_7 ez_7 => ?_)
  obtain rfl : z_7 = 1 := ez_7.trans (by decide)
  refine va_sld hx hb hX hbl hbA hS (pk_in 1 7 (by decide) (by decide) (by decide)) dL_law_944 ?_
  refine lv_topi (fun z_8 ez_8 => ?_)
  replace ez_8 : z_8 = xs 1 := ez_8
  subst z_8
  refine lv_aload_n hx hb dL_law_945 rfl (lv_at hl 4 rfl) ?_
  refine lv_iload hx hb dL_law_946 (lv_at hl 0 rfl) ?_
  refine lv_iconst (v := 2) hx hb dL_law_948 (by decide) ?_
  refine lv_iadd hx hb dL_law_949 ?_
  refine lv_topi (fun z_9 ez_9 => ?_)
  obtain rfl : z_9 = 2 := ez_9.trans (by decide)
  refine va_sld hx hb hX hbl hbA hS (pk_in 2 7 (by decide) (by decide) (by decide)) dL_law_950 ?_
  refine lv_topi (fun z_10 ez_10 => ?_)
  replace ez_10 : z_10 = xs 2 := ez_10
  subst z_10
  have hPc := hP.sub (ws' := [(mm, .inr (11, [.int 0, .ref mm_tape, .int 0, .ref mm_number, .ref mm_clockName, .ref mm_clockOff, .ref mm_clockGain, .ref mm_clockRough, .ref mm_personName, .ref mm_personOff, .ref mm_personGain, .ref mm_personRough, .ref mm_custom, .ref mm_customA, .ref mm_customB, .ref mm_ruleFrom, .ref mm_ruleTo, .ref mm_roundOf, .ref mm_roundAt, .ref mm_roundHour, .ref mm_gunAt, .ref mm_gunHour, .ref mm_knotSort, .ref mm_knotValue, .int 0, .int 0, .int 0, .int 0, .int 0, .int 0, .int 0, .int 0, .int 0, .int (-1), .int 0, .int 0, .int 0, .int 0, .int 0, .int 0, .int 0, .int 0, .int 0, .int 0, .int 0, .int 0, .ref mm_start, .ref mm_off, .ref mm_last, .ref mm_passed, .ref mm_kept, .ref mm_keptMany, .int 0, .int 0, .ref mm_history, .ref mm_names, .ref mm_worked, .int 0, .int 0, .int (-1), .ref mm_readThing, .ref mm_readHour, .ref mm_readLow, .ref mm_readHigh, .int 0, .int 0, .int 0, .ref mm_imageOff, .ref mm_imageLast, .ref mm_imagePassed, .ref mm_imageKept, .ref mm_imageMany, .ref mm_imageHistory])), (mm_number, .inl (k_mm_number, 10, .inl (fun _ => 0)))]) [0, 1] rfl
  have hDc := hD.sub (ws' := [(mm, .inr (11, [.int 0, .ref mm_tape, .int 0, .ref mm_number, .ref mm_clockName, .ref mm_clockOff, .ref mm_clockGain, .ref mm_clockRough, .ref mm_personName, .ref mm_personOff, .ref mm_personGain, .ref mm_personRough, .ref mm_custom, .ref mm_customA, .ref mm_customB, .ref mm_ruleFrom, .ref mm_ruleTo, .ref mm_roundOf, .ref mm_roundAt, .ref mm_roundHour, .ref mm_gunAt, .ref mm_gunHour, .ref mm_knotSort, .ref mm_knotValue, .int 0, .int 0, .int 0, .int 0, .int 0, .int 0, .int 0, .int 0, .int 0, .int (-1), .int 0, .int 0, .int 0, .int 0, .int 0, .int 0, .int 0, .int 0, .int 0, .int 0, .int 0, .int 0, .ref mm_start, .ref mm_off, .ref mm_last, .ref mm_passed, .ref mm_kept, .ref mm_keptMany, .int 0, .int 0, .ref mm_history, .ref mm_names, .ref mm_worked, .int 0, .int 0, .int (-1), .ref mm_readThing, .ref mm_readHour, .ref mm_readLow, .ref mm_readHigh, .int 0, .int 0, .int 0, .ref mm_imageOff, .ref mm_imageLast, .ref mm_imagePassed, .ref mm_imageKept, .ref mm_imageMany, .ref mm_imageHistory])), (mm_number, .inl (k_mm_number, 10, .inl (fun _ => 0)))]) [0, 1] (by decide) rfl
  have hKc := hK.sub (tys' := [(k_mm_number, .int)]) [0] rfl
  have hFc := va_free (wc := [(mm, .inr (11, [.int 0, .ref mm_tape, .int 0, .ref mm_number, .ref mm_clockName, .ref mm_clockOff, .ref mm_clockGain, .ref mm_clockRough, .ref mm_personName, .ref mm_personOff, .ref mm_personGain, .ref mm_personRough, .ref mm_custom, .ref mm_customA, .ref mm_customB, .ref mm_ruleFrom, .ref mm_ruleTo, .ref mm_roundOf, .ref mm_roundAt, .ref mm_roundHour, .ref mm_gunAt, .ref mm_gunHour, .ref mm_knotSort, .ref mm_knotValue, .int 0, .int 0, .int 0, .int 0, .int 0, .int 0, .int 0, .int 0, .int 0, .int (-1), .int 0, .int 0, .int 0, .int 0, .int 0, .int 0, .int 0, .int 0, .int 0, .int 0, .int 0, .int 0, .ref mm_start, .ref mm_off, .ref mm_last, .ref mm_passed, .ref mm_kept, .ref mm_keptMany, .int 0, .int 0, .ref mm_history, .ref mm_names, .ref mm_worked, .int 0, .int 0, .int (-1), .ref mm_readThing, .ref mm_readHour, .ref mm_readLow, .ref mm_readHigh, .int 0, .int 0, .int 0, .ref mm_imageOff, .ref mm_imageLast, .ref mm_imagePassed, .ref mm_imageKept, .ref mm_imageMany, .ref mm_imageHistory])), (mm_number, .inl (k_mm_number, 10, .inl (fun _ => 0)))]) hD hS hA [0, 1] rfl
  have := (by decide : (0 : Int32).toInt = 0)
  have := (by decide : (0 : Int32).toInt = 0)
  have := (by decide : (0 : Int32).toInt = 0)
  have := (by decide : (0 : Int32).toInt = 0)
  have := (by decide : (0 : Int32).toInt = 0)
  have := (by decide : (0 : Int32).toInt = 0)
  have := (by decide : (0 : Int32).toInt = 0)
  have := (by decide : (0 : Int32).toInt = 0)
  have := (by decide : (0 : Int32).toInt = 0)
  have := (by decide : (0 : Int32).toInt = 0)
  have := (by decide : (0 : Int32).toInt = 0)
  have := (by decide : ((-1) : Int32).toInt = -1)
  have := (by decide : (0 : Int32).toInt = 0)
  have := (by decide : (0 : Int32).toInt = 0)
  have := (by decide : (0 : Int32).toInt = 0)
  have := (by decide : (0 : Int32).toInt = 0)
  have := (by decide : (0 : Int32).toInt = 0)
  have := (by decide : (0 : Int32).toInt = 0)
  have := (by decide : (0 : Int32).toInt = 0)
  have := (by decide : (0 : Int32).toInt = 0)
  have := (by decide : (0 : Int32).toInt = 0)
  have := (by decide : (0 : Int32).toInt = 0)
  have := (by decide : (0 : Int32).toInt = 0)
  have := (by decide : (0 : Int32).toInt = 0)
  have := (by decide : (0 : Int32).toInt = 0)
  have := (by decide : (0 : Int32).toInt = 0)
  have := (by decide : (0 : Int32).toInt = 0)
  have := (by decide : (0 : Int32).toInt = 0)
  have := (by decide : ((-1) : Int32).toInt = -1)
  have := (by decide : (0 : Int32).toInt = 0)
  have := (by decide : (0 : Int32).toInt = 0)
  have := (by decide : (0 : Int32).toInt = 0)
  refine va_calli (va_runV (As := [.int (xs 1), .int (xs 2)]) (rest := [.int (-2147483648)]) ⟨hx, hb, hml, hown, hT⟩ (c_X11_ends l dC dI H.size mm (xs 1) (xs 2) (0 : Int32) mm_tape (0 : Int32) mm_number mm_clockName mm_clockOff mm_clockGain mm_clockRough mm_personName mm_personOff mm_personGain mm_personRough mm_custom mm_customA mm_customB mm_ruleFrom mm_ruleTo mm_roundOf mm_roundAt mm_roundHour mm_gunAt mm_gunHour mm_knotSort mm_knotValue (0 : Int32) (0 : Int32) (0 : Int32) (0 : Int32) (0 : Int32) (0 : Int32) (0 : Int32) (0 : Int32) (0 : Int32) ((-1) : Int32) (0 : Int32) (0 : Int32) (0 : Int32) (0 : Int32) (0 : Int32) (0 : Int32) (0 : Int32) (0 : Int32) (0 : Int32) (0 : Int32) (0 : Int32) (0 : Int32) mm_start mm_off mm_last mm_passed mm_kept mm_keptMany (0 : Int32) (0 : Int32) mm_history mm_names mm_worked (0 : Int32) (0 : Int32) ((-1) : Int32) mm_readThing mm_readHour mm_readLow mm_readHigh (0 : Int32) (0 : Int32) (0 : Int32) mm_imageOff mm_imageLast mm_imagePassed mm_imageKept mm_imageMany mm_imageHistory k_mm_number (fun _ => 0) (fun _ => rfl)) (cwV 2 hT (gwV mw_8_88 mw_8_89 mw_8_90 mw_1_16 mw_8_91) rfl rfl rfl (by decide +kernel) ⟨Nat.le_of_ble_eq_true rfl, Nat.le_of_ble_eq_true rfl⟩) ⟨fun a U g mk q => by obtain ⟨q0, q1, qP, qK, qD⟩ := q; exact ⟨q0, q1, qP, va_K.moved (u := U) (U := U.calling g mk a) (Vm.Alike.refl U.vm) qK, qD⟩, va_recv hK hP (ci := 11) (q0 := 0) rfl rfl, fun U hU hW => ⟨rfl, by rw [hU], by rw [hU]; exact hPc, va_K.moved hW.alike hKc, hDc.weaken (fun _ _ _ _ => trivial)⟩⟩ rfl rfl hl.1 rfl (lv_room (Nat.le_of_ble_eq_true rfl)) dL_law_951 ⟨Nat.le_of_ble_eq_true rfl, Nat.le_of_ble_eq_true rfl⟩) hS (fun q _ h => hFc q h) hFc (fun r_12 u t H1 locs ht hvm hw hB hz1 hk1 hS => ?_)
  obtain ⟨hP1, hD1⟩ := hB
  rw [ht] at hP1
  obtain ⟨hP, hD⟩ := va_join (wr := [(xx, .inr (10, [.ref rr, .ref ta, .ref tb, .ref pa, .ref pb, .ref cn, .ref ci, .int 0, .ref cp, .ref ct, .ref hs, .ref rd, .ref wy, .ref ea, .ref eb])), (ta, .inr (8, [.int 0, .int 0, .int 0, .int 0, .int 0, .ref ta_name, .ref ta_first, .ref ta_gain, .ref ta_rough, .ref ta_custom, .ref ta_part, .ref ta_whole, .ref ta_roundPerson, .ref ta_roundClock, .ref ta_roundHour, .ref ta_gunClock, .ref ta_gunHour, .ref tau]))]) (w1 := [(mm, .inr (11, [.int 0, .ref mm_tape, .int 0, .ref mm_number, .ref mm_clockName, .ref mm_clockOff, .ref mm_clockGain, .ref mm_clockRough, .ref mm_personName, .ref mm_personOff, .ref mm_personGain, .ref mm_personRough, .ref mm_custom, .ref mm_customA, .ref mm_customB, .ref mm_ruleFrom, .ref mm_ruleTo, .ref mm_roundOf, .ref mm_roundAt, .ref mm_roundHour, .ref mm_gunAt, .ref mm_gunHour, .ref mm_knotSort, .ref mm_knotValue, .int 0, .int 0, .int 0, .int 0, .int 0, .int 0, .int 0, .int 0, .int 0, .int (-1), .int 0, .int 0, .int 0, .int 0, .int 0, .int 0, .int 0, .int 0, .int 0, .int 0, .int 0, .int 0, .ref mm_start, .ref mm_off, .ref mm_last, .ref mm_passed, .ref mm_kept, .ref mm_keptMany, .int 0, .int 0, .ref mm_history, .ref mm_names, .ref mm_worked, .int 0, .int 0, .int (-1), .ref mm_readThing, .ref mm_readHour, .ref mm_readLow, .ref mm_readHigh, .int 0, .int 0, .int 0, .ref mm_imageOff, .ref mm_imageLast, .ref mm_imagePassed, .ref mm_imageKept, .ref mm_imageMany, .ref mm_imageHistory])), (mm_number, .inl (k_mm_number, 10, .inl (fun _ => 0)))]) hP hD [0, 1] [2, 3] rfl rfl (by decide) (by decide) hk1 hFc hP1 hD1
  generalize H1 = H at hP hS ⊢
  have hP : va_P (dC, dI) vwCl [(xx, .inr (10, [.ref rr, .ref ta, .ref tb, .ref pa, .ref pb, .ref cn, .ref ci, .int 0, .ref cp, .ref ct, .ref hs, .ref rd, .ref wy, .ref ea, .ref eb])), (ta, .inr (8, [.int 0, .int 0, .int 0, .int 0, .int 0, .ref ta_name, .ref ta_first, .ref ta_gain, .ref ta_rough, .ref ta_custom, .ref ta_part, .ref ta_whole, .ref ta_roundPerson, .ref ta_roundClock, .ref ta_roundHour, .ref ta_gunClock, .ref ta_gunHour, .ref tau])), (mm, .inr (11, [.int 0, .ref mm_tape, .int 0, .ref mm_number, .ref mm_clockName, .ref mm_clockOff, .ref mm_clockGain, .ref mm_clockRough, .ref mm_personName, .ref mm_personOff, .ref mm_personGain, .ref mm_personRough, .ref mm_custom, .ref mm_customA, .ref mm_customB, .ref mm_ruleFrom, .ref mm_ruleTo, .ref mm_roundOf, .ref mm_roundAt, .ref mm_roundHour, .ref mm_gunAt, .ref mm_gunHour, .ref mm_knotSort, .ref mm_knotValue, .int 0, .int 0, .int 0, .int 0, .int 0, .int 0, .int 0, .int 0, .int 0, .int (-1), .int 0, .int 0, .int 0, .int 0, .int 0, .int 0, .int 0, .int 0, .int 0, .int 0, .int 0, .int 0, .ref mm_start, .ref mm_off, .ref mm_last, .ref mm_passed, .ref mm_kept, .ref mm_keptMany, .int 0, .int 0, .ref mm_history, .ref mm_names, .ref mm_worked, .int 0, .int 0, .int (-1), .ref mm_readThing, .ref mm_readHour, .ref mm_readLow, .ref mm_readHigh, .int 0, .int 0, .int 0, .ref mm_imageOff, .ref mm_imageLast, .ref mm_imagePassed, .ref mm_imageKept, .ref mm_imageMany, .ref mm_imageHistory])), (mm_number, .inl (k_mm_number, 10, .inl (fun _ => 0)))] H := hP
  have hD : va_D A [(xx, .inr (10, [.ref rr, .ref ta, .ref tb, .ref pa, .ref pb, .ref cn, .ref ci, .int 0, .ref cp, .ref ct, .ref hs, .ref rd, .ref wy, .ref ea, .ref eb])), (ta, .inr (8, [.int 0, .int 0, .int 0, .int 0, .int 0, .ref ta_name, .ref ta_first, .ref ta_gain, .ref ta_rough, .ref ta_custom, .ref ta_part, .ref ta_whole, .ref ta_roundPerson, .ref ta_roundClock, .ref ta_roundHour, .ref ta_gunClock, .ref ta_gunHour, .ref tau])), (mm, .inr (11, [.int 0, .ref mm_tape, .int 0, .ref mm_number, .ref mm_clockName, .ref mm_clockOff, .ref mm_clockGain, .ref mm_clockRough, .ref mm_personName, .ref mm_personOff, .ref mm_personGain, .ref mm_personRough, .ref mm_custom, .ref mm_customA, .ref mm_customB, .ref mm_ruleFrom, .ref mm_ruleTo, .ref mm_roundOf, .ref mm_roundAt, .ref mm_roundHour, .ref mm_gunAt, .ref mm_gunHour, .ref mm_knotSort, .ref mm_knotValue, .int 0, .int 0, .int 0, .int 0, .int 0, .int 0, .int 0, .int 0, .int 0, .int (-1), .int 0, .int 0, .int 0, .int 0, .int 0, .int 0, .int 0, .int 0, .int 0, .int 0, .int 0, .int 0, .ref mm_start, .ref mm_off, .ref mm_last, .ref mm_passed, .ref mm_kept, .ref mm_keptMany, .int 0, .int 0, .ref mm_history, .ref mm_names, .ref mm_worked, .int 0, .int 0, .int (-1), .ref mm_readThing, .ref mm_readHour, .ref mm_readLow, .ref mm_readHigh, .int 0, .int 0, .int 0, .ref mm_imageOff, .ref mm_imageLast, .ref mm_imagePassed, .ref mm_imageKept, .ref mm_imageMany, .ref mm_imageHistory])), (mm_number, .inl (k_mm_number, 10, .inl (fun _ => 0)))] := hD
  clear hPc hDc hKc hFc hP1 hD1 hk1 hz1 ht hvm
  have hw : r_12 = -2147483648 := hw
  subst r_12
  refine lv_icmp_eq (tgt := 1482) hx hb dL_law_954 (by decide) (fun c_13 => ?_) (fun c_13 => absurd c_13 (by decide))
  refine lv_iinc (v := 7) (lv' := [(4, .int 7), (3, .ref oo), (2, .ref mm), (1, .ref xx), (0, .ref b)]) hx hb dL_law_1482 hl (k := 0) rfl (by decide) (by decide) rfl (fun ls hl => ?_)
  refine lv_goto (tgt := 23) hx hb dL_law_1485 (by decide) ?_
  refine lv_iload hx hb dL_law_23 (lv_at hl 0 rfl) ?_
  refine lv_aload_n hx hb dL_law_25 rfl (lv_at hl 4 rfl) ?_
  refine va_slen hx hb hX hbl hbA hS dL_law_26 ?_
  refine lv_topi (fun z_14 ez_14 => ?_)
  obtain rfl : z_14 = 7 := ez_14.trans (by decide)
  refine lv_bipush (v := 7) hx hb dL_law_27 (by decide) ?_
  refine lv_isub hx hb dL_law_29 ?_
  refine lv_topi (fun z_15 ez_15 => ?_)
  obtain rfl : z_15 = 0 := ez_15.trans (by decide)
  refine lv_icmp_gt (tgt := 1488) hx hb dL_law_30 (by decide) (fun c_16 => ?_) (fun c_16 => absurd c_16 (by decide))
  refine lv_iconst (v := 1) hx hb dL_law_1488 (by decide) ?_
  refine va_forget (fun q hq => hAo _ (hS.2.2 q hq)) ?_
  refine W.widen (k := 600002) (n := 7302232) (Nat.le_of_ble_eq_true rfl) (Nat.le_of_ble_eq_true rfl) ?_
  exact lw_ret hx hb hr hlocks dL_law_1489
set_option maxHeartbeats 4000000 in
set_option maxRecDepth 100000 in
theorem law_op_17 {p : Program} {l : Launch} {e : Env} {s : State} {m : MethodId} {below : List Frame} {meth : Method} {c : Code} {dC : Nat → ClassId} {dI : Nat → Nat → Nat} {b : Nat} {xs : Nat → Int32} {A : Nat → Prop} (C0 : lw_At p s m meth c b 7 xs) (hA : ∀ q, s.heap.size ≤ q → A q) (hbA : ¬ A b) (hAo : ∀ q, A q → s.heap.size ≤ q) {xx : Nat} {rr : Nat} {ta : Nat} {tb : Nat} {pa : Nat} {pb : Nat} {cn : Nat} {ci : Nat} {cp : Nat} {ct : Nat} {hs : Nat} {rd : Nat} {wy : Nat} {ea : Nat} {eb : Nat} {ta_name : Nat} {ta_first : Nat} {ta_gain : Nat} {ta_rough : Nat} {ta_custom : Nat} {ta_part : Nat} {ta_whole : Nat} {ta_roundPerson : Nat} {ta_roundClock : Nat} {ta_roundHour : Nat} {ta_gunClock : Nat} {ta_gunHour : Nat} {tau : Nat} {mm : Nat} {mm_tape : Nat} {mm_number : Nat} {mm_clockName : Nat} {mm_clockOff : Nat} {mm_clockGain : Nat} {mm_clockRough : Nat} {mm_personName : Nat} {mm_personOff : Nat} {mm_personGain : Nat} {mm_personRough : Nat} {mm_custom : Nat} {mm_customA : Nat} {mm_customB : Nat} {mm_ruleFrom : Nat} {mm_ruleTo : Nat} {mm_roundOf : Nat} {mm_roundAt : Nat} {mm_roundHour : Nat} {mm_gunAt : Nat} {mm_gunHour : Nat} {mm_knotSort : Nat} {mm_knotValue : Nat} {mm_start : Nat} {mm_off : Nat} {mm_last : Nat} {mm_passed : Nat} {mm_kept : Nat} {mm_keptMany : Nat} {mm_history : Nat} {mm_names : Nat} {mm_worked : Nat} {mm_readThing : Nat} {mm_readHour : Nat} {mm_readLow : Nat} {mm_readHigh : Nat} {mm_imageOff : Nat} {mm_imageLast : Nat} {mm_imagePassed : Nat} {mm_imageKept : Nat} {mm_imageMany : Nat} {mm_imageHistory : Nat} {k_mm_number : ClassId} {oo : Nat} {H : Heap} {locs : List Loc} {ls : Array Slot} (hK : va_K (dC, dI) vwCl [(k_mm_number, .int)] s) (hP : va_P (dC, dI) vwCl [(xx, .inr (10, [.ref rr, .ref ta, .ref tb, .ref pa, .ref pb, .ref cn, .ref ci, .int 0, .ref cp, .ref ct, .ref hs, .ref rd, .ref wy, .ref ea, .ref eb])), (ta, .inr (8, [.int 0, .int 0, .int 0, .int 0, .int 0, .ref ta_name, .ref ta_first, .ref ta_gain, .ref ta_rough, .ref ta_custom, .ref ta_part, .ref ta_whole, .ref ta_roundPerson, .ref ta_roundClock, .ref ta_roundHour, .ref ta_gunClock, .ref ta_gunHour, .ref tau])), (mm, .inr (11, [.int 0, .ref mm_tape, .int 0, .ref mm_number, .ref mm_clockName, .ref mm_clockOff, .ref mm_clockGain, .ref mm_clockRough, .ref mm_personName, .ref mm_personOff, .ref mm_personGain, .ref mm_personRough, .ref mm_custom, .ref mm_customA, .ref mm_customB, .ref mm_ruleFrom, .ref mm_ruleTo, .ref mm_roundOf, .ref mm_roundAt, .ref mm_roundHour, .ref mm_gunAt, .ref mm_gunHour, .ref mm_knotSort, .ref mm_knotValue, .int 0, .int 0, .int 0, .int 0, .int 0, .int 0, .int 0, .int 0, .int 0, .int (-1), .int 0, .int 0, .int 0, .int 0, .int 0, .int 0, .int 0, .int 0, .int 0, .int 0, .int 0, .int 0, .ref mm_start, .ref mm_off, .ref mm_last, .ref mm_passed, .ref mm_kept, .ref mm_keptMany, .int 0, .int 0, .ref mm_history, .ref mm_names, .ref mm_worked, .int 0, .int 0, .int (-1), .ref mm_readThing, .ref mm_readHour, .ref mm_readLow, .ref mm_readHigh, .int 0, .int 0, .int 0, .ref mm_imageOff, .ref mm_imageLast, .ref mm_imagePassed, .ref mm_imageKept, .ref mm_imageMany, .ref mm_imageHistory])), (mm_number, .inl (k_mm_number, 10, .inl (fun _ => 0)))] H) (hD : va_D A [(xx, .inr (10, [.ref rr, .ref ta, .ref tb, .ref pa, .ref pb, .ref cn, .ref ci, .int 0, .ref cp, .ref ct, .ref hs, .ref rd, .ref wy, .ref ea, .ref eb])), (ta, .inr (8, [.int 0, .int 0, .int 0, .int 0, .int 0, .ref ta_name, .ref ta_first, .ref ta_gain, .ref ta_rough, .ref ta_custom, .ref ta_part, .ref ta_whole, .ref ta_roundPerson, .ref ta_roundClock, .ref ta_roundHour, .ref ta_gunClock, .ref ta_gunHour, .ref tau])), (mm, .inr (11, [.int 0, .ref mm_tape, .int 0, .ref mm_number, .ref mm_clockName, .ref mm_clockOff, .ref mm_clockGain, .ref mm_clockRough, .ref mm_personName, .ref mm_personOff, .ref mm_personGain, .ref mm_personRough, .ref mm_custom, .ref mm_customA, .ref mm_customB, .ref mm_ruleFrom, .ref mm_ruleTo, .ref mm_roundOf, .ref mm_roundAt, .ref mm_roundHour, .ref mm_gunAt, .ref mm_gunHour, .ref mm_knotSort, .ref mm_knotValue, .int 0, .int 0, .int 0, .int 0, .int 0, .int 0, .int 0, .int 0, .int 0, .int (-1), .int 0, .int 0, .int 0, .int 0, .int 0, .int 0, .int 0, .int 0, .int 0, .int 0, .int 0, .int 0, .ref mm_start, .ref mm_off, .ref mm_last, .ref mm_passed, .ref mm_kept, .ref mm_keptMany, .int 0, .int 0, .ref mm_history, .ref mm_names, .ref mm_worked, .int 0, .int 0, .int (-1), .ref mm_readThing, .ref mm_readHour, .ref mm_readLow, .ref mm_readHigh, .int 0, .int 0, .int 0, .ref mm_imageOff, .ref mm_imageLast, .ref mm_imagePassed, .ref mm_imageKept, .ref mm_imageMany, .ref mm_imageHistory])), (mm_number, .inl (k_mm_number, 10, .inl (fun _ => 0)))]) (hS : va_S A s.heap H locs) (hl : lv_has ls 7 [(4, .int 0), (3, .ref oo), (2, .ref mm), (1, .ref xx), (0, .ref b)]) : W p l e room_1 s m #[Value.ref b] below meth c H locs 160 67979 (lw_Z below #[Value.ref b] s) (F0 m 959 ls []) := by
  obtain ⟨hx, hb, hr, hml, hown, hts, hX, hbl, hlocks, hgv⟩ := C0
  have hT : ∀ w ∈ pw_T, w.before #[Value.ref b] s = true := fun w h => hts w (List.mem_filter.mp h).1
  have hown : s.vm.findClass RL = some m.cls := hown
  refine lv_aload_n hx hb dL_law_959 rfl (lv_at hl 3 rfl) ?_
  refine lv_aload_n hx hb dL_law_960 rfl (lv_at hl 4 rfl) ?_
  refine lv_iload hx hb dL_law_961 (lv_at hl 0 rfl) ?_
  refine lv_iconst (v := 1) hx hb dL_law_963 (by decide) ?_
  refine lv_iadd hx hb dL_law_964 ?_
  refine lv_topi (fun z_1 ez_1 => ?_)
  obtain rfl : z_1 = 1 := ez_1.trans (by decide)
  refine va_sld hx hb hX hbl hbA hS (pk_in 1 7 (by decide) (by decide) (by decide)) dL_law_965 ?_
  refine lv_topi (fun z_2 ez_2 => ?_)
  replace ez_2 : z_2 = xs 1 := ez_2
  subst z_2
  refine lv_aload_n hx hb dL_law_966 rfl (lv_at hl 4 rfl) ?_
  refine lv_iload hx hb dL_law_967 (lv_at hl 0 rfl) ?_
  refine lv_iconst (v := 2) hx hb dL_law_969 (by decide) ?_
  refine lv_iadd hx hb dL_law_970 ?_
  refine lv_topi (fun z_3 ez_3 => ?_)
  obtain rfl : z_3 = 2 := ez_3.trans (by decide)
  refine va_sld hx hb hX hbl hbA hS (pk_in 2 7 (by decide) (by decide) (by decide)) dL_law_971 ?_
  refine lv_topi (fun z_4 ez_4 => ?_)
  replace ez_4 : z_4 = xs 2 := ez_4
  subst z_4
  refine lv_aload_n hx hb dL_law_972 rfl (lv_at hl 4 rfl) ?_
  refine lv_iload hx hb dL_law_973 (lv_at hl 0 rfl) ?_
  refine lv_iconst (v := 3) hx hb dL_law_975 (by decide) ?_
  refine lv_iadd hx hb dL_law_976 ?_
  refine lv_topi (fun z_5 ez_5 => ?_)
  obtain rfl : z_5 = 3 := ez_5.trans (by decide)
  refine va_sld hx hb hX hbl hbA hS (pk_in 3 7 (by decide) (by decide) (by decide)) dL_law_977 ?_
  refine lv_topi (fun z_6 ez_6 => ?_)
  replace ez_6 : z_6 = xs 3 := ez_6
  subst z_6
  refine lv_aload_n hx hb dL_law_978 rfl (lv_at hl 4 rfl) ?_
  refine lv_iload hx hb dL_law_979 (lv_at hl 0 rfl) ?_
  refine lv_iconst (v := 4) hx hb dL_law_981 (by decide) ?_
  refine lv_iadd hx hb dL_law_982 ?_
  refine lv_topi (fun z_7 ez_7 => ?_)
  obtain rfl : z_7 = 4 := ez_7.trans (by decide)
  refine va_sld hx hb hX hbl hbA hS (pk_in 4 7 (by decide) (by decide) (by decide)) dL_law_983 ?_
  refine lv_topi (fun z_8 ez_8 => ?_)
  replace ez_8 : z_8 = xs 4 := ez_8
  subst z_8
  have hPc := hP.sub (ws' := [(xx, .inr (10, [.ref rr, .ref ta, .ref tb, .ref pa, .ref pb, .ref cn, .ref ci, .int 0, .ref cp, .ref ct, .ref hs, .ref rd, .ref wy, .ref ea, .ref eb])), (ta, .inr (8, [.int 0, .int 0, .int 0, .int 0, .int 0, .ref ta_name, .ref ta_first, .ref ta_gain, .ref ta_rough, .ref ta_custom, .ref ta_part, .ref ta_whole, .ref ta_roundPerson, .ref ta_roundClock, .ref ta_roundHour, .ref ta_gunClock, .ref ta_gunHour, .ref tau]))]) [0, 1] rfl
  have hDc := hD.sub (ws' := [(xx, .inr (10, [.ref rr, .ref ta, .ref tb, .ref pa, .ref pb, .ref cn, .ref ci, .int 0, .ref cp, .ref ct, .ref hs, .ref rd, .ref wy, .ref ea, .ref eb])), (ta, .inr (8, [.int 0, .int 0, .int 0, .int 0, .int 0, .ref ta_name, .ref ta_first, .ref ta_gain, .ref ta_rough, .ref ta_custom, .ref ta_part, .ref ta_whole, .ref ta_roundPerson, .ref ta_roundClock, .ref ta_roundHour, .ref ta_gunClock, .ref ta_gunHour, .ref tau]))]) [0, 1] (by decide) rfl
  have hKc := hK.sub (tys' := []) [] rfl
  have hFc := va_free (wc := [(xx, .inr (10, [.ref rr, .ref ta, .ref tb, .ref pa, .ref pb, .ref cn, .ref ci, .int 0, .ref cp, .ref ct, .ref hs, .ref rd, .ref wy, .ref ea, .ref eb])), (ta, .inr (8, [.int 0, .int 0, .int 0, .int 0, .int 0, .ref ta_name, .ref ta_first, .ref ta_gain, .ref ta_rough, .ref ta_custom, .ref ta_part, .ref ta_whole, .ref ta_roundPerson, .ref ta_roundClock, .ref ta_roundHour, .ref ta_gunClock, .ref ta_gunHour, .ref tau]))]) hD hS hA [0, 1] rfl
  refine va_calli (va_runV (As := [.int (xs 1), .int (xs 2), .int (xs 3), .int (xs 4)]) (rest := []) ⟨hx, hb, hml, hown, hT⟩ (c_X10_reading l dC dI H.size xx (xs 1) (xs 2) (xs 3) (xs 4) rr ta tb pa pb cn ci (0 : Int32) cp ct hs rd wy ea eb (0 : Int32) (0 : Int32) (0 : Int32) ta_name ta_first ta_gain ta_rough ta_custom ta_part ta_whole ta_roundPerson ta_roundClock ta_roundHour ta_gunClock ta_gunHour tau ) (cwV 4 hT (gwV mw_5_4 mw_5_5 mw_5_6 mw_1_1 mw_5_7) rfl rfl rfl (by decide +kernel) ⟨Nat.le_of_ble_eq_true rfl, Nat.le_of_ble_eq_true rfl⟩) ⟨fun a U g mk q => by obtain ⟨q0, q1, qP, qK, qD⟩ := q; exact ⟨q0, q1, qP, va_K.moved (u := U) (U := U.calling g mk a) (Vm.Alike.refl U.vm) qK, qD⟩, va_recv hK hP (ci := 10) (q0 := 0) rfl rfl, fun U hU hW => ⟨rfl, by rw [hU], by rw [hU]; exact hPc, va_K.moved hW.alike hKc, hDc.weaken (fun _ _ _ _ => trivial)⟩⟩ rfl rfl hl.1 rfl (lv_room (Nat.le_of_ble_eq_true rfl)) dL_law_984 ⟨Nat.le_of_ble_eq_true rfl, Nat.le_of_ble_eq_true rfl⟩) hS (fun q _ h => hFc q h) hFc (fun r_10 u t H1 locs ht hvm hw hB hz1 hk1 hS => ?_)
  obtain ⟨hP1, hD1⟩ := hB
  rw [ht] at hP1
  obtain ⟨hP, hD⟩ := va_join (wr := [(mm, .inr (11, [.int 0, .ref mm_tape, .int 0, .ref mm_number, .ref mm_clockName, .ref mm_clockOff, .ref mm_clockGain, .ref mm_clockRough, .ref mm_personName, .ref mm_personOff, .ref mm_personGain, .ref mm_personRough, .ref mm_custom, .ref mm_customA, .ref mm_customB, .ref mm_ruleFrom, .ref mm_ruleTo, .ref mm_roundOf, .ref mm_roundAt, .ref mm_roundHour, .ref mm_gunAt, .ref mm_gunHour, .ref mm_knotSort, .ref mm_knotValue, .int 0, .int 0, .int 0, .int 0, .int 0, .int 0, .int 0, .int 0, .int 0, .int (-1), .int 0, .int 0, .int 0, .int 0, .int 0, .int 0, .int 0, .int 0, .int 0, .int 0, .int 0, .int 0, .ref mm_start, .ref mm_off, .ref mm_last, .ref mm_passed, .ref mm_kept, .ref mm_keptMany, .int 0, .int 0, .ref mm_history, .ref mm_names, .ref mm_worked, .int 0, .int 0, .int (-1), .ref mm_readThing, .ref mm_readHour, .ref mm_readLow, .ref mm_readHigh, .int 0, .int 0, .int 0, .ref mm_imageOff, .ref mm_imageLast, .ref mm_imagePassed, .ref mm_imageKept, .ref mm_imageMany, .ref mm_imageHistory])), (mm_number, .inl (k_mm_number, 10, .inl (fun _ => 0)))]) (w1 := [(xx, .inr (10, [.ref rr, .ref ta, .ref tb, .ref pa, .ref pb, .ref cn, .ref ci, .int 0, .ref cp, .ref ct, .ref hs, .ref rd, .ref wy, .ref ea, .ref eb])), (ta, .inr (8, [.int 0, .int 0, .int 0, .int 0, .int 0, .ref ta_name, .ref ta_first, .ref ta_gain, .ref ta_rough, .ref ta_custom, .ref ta_part, .ref ta_whole, .ref ta_roundPerson, .ref ta_roundClock, .ref ta_roundHour, .ref ta_gunClock, .ref ta_gunHour, .ref tau]))]) hP hD [0, 1] [2, 3] rfl rfl (by decide) (by decide) hk1 hFc hP1 hD1
  generalize H1 = H at hP hS ⊢
  have hP : va_P (dC, dI) vwCl [(mm, .inr (11, [.int 0, .ref mm_tape, .int 0, .ref mm_number, .ref mm_clockName, .ref mm_clockOff, .ref mm_clockGain, .ref mm_clockRough, .ref mm_personName, .ref mm_personOff, .ref mm_personGain, .ref mm_personRough, .ref mm_custom, .ref mm_customA, .ref mm_customB, .ref mm_ruleFrom, .ref mm_ruleTo, .ref mm_roundOf, .ref mm_roundAt, .ref mm_roundHour, .ref mm_gunAt, .ref mm_gunHour, .ref mm_knotSort, .ref mm_knotValue, .int 0, .int 0, .int 0, .int 0, .int 0, .int 0, .int 0, .int 0, .int 0, .int (-1), .int 0, .int 0, .int 0, .int 0, .int 0, .int 0, .int 0, .int 0, .int 0, .int 0, .int 0, .int 0, .ref mm_start, .ref mm_off, .ref mm_last, .ref mm_passed, .ref mm_kept, .ref mm_keptMany, .int 0, .int 0, .ref mm_history, .ref mm_names, .ref mm_worked, .int 0, .int 0, .int (-1), .ref mm_readThing, .ref mm_readHour, .ref mm_readLow, .ref mm_readHigh, .int 0, .int 0, .int 0, .ref mm_imageOff, .ref mm_imageLast, .ref mm_imagePassed, .ref mm_imageKept, .ref mm_imageMany, .ref mm_imageHistory])), (mm_number, .inl (k_mm_number, 10, .inl (fun _ => 0))), (xx, .inr (10, [.ref rr, .ref ta, .ref tb, .ref pa, .ref pb, .ref cn, .ref ci, .int 0, .ref cp, .ref ct, .ref hs, .ref rd, .ref wy, .ref ea, .ref eb])), (ta, .inr (8, [.int 0, .int 0, .int 0, .int 0, .int 0, .ref ta_name, .ref ta_first, .ref ta_gain, .ref ta_rough, .ref ta_custom, .ref ta_part, .ref ta_whole, .ref ta_roundPerson, .ref ta_roundClock, .ref ta_roundHour, .ref ta_gunClock, .ref ta_gunHour, .ref tau]))] H := hP
  have hD : va_D A [(mm, .inr (11, [.int 0, .ref mm_tape, .int 0, .ref mm_number, .ref mm_clockName, .ref mm_clockOff, .ref mm_clockGain, .ref mm_clockRough, .ref mm_personName, .ref mm_personOff, .ref mm_personGain, .ref mm_personRough, .ref mm_custom, .ref mm_customA, .ref mm_customB, .ref mm_ruleFrom, .ref mm_ruleTo, .ref mm_roundOf, .ref mm_roundAt, .ref mm_roundHour, .ref mm_gunAt, .ref mm_gunHour, .ref mm_knotSort, .ref mm_knotValue, .int 0, .int 0, .int 0, .int 0, .int 0, .int 0, .int 0, .int 0, .int 0, .int (-1), .int 0, .int 0, .int 0, .int 0, .int 0, .int 0, .int 0, .int 0, .int 0, .int 0, .int 0, .int 0, .ref mm_start, .ref mm_off, .ref mm_last, .ref mm_passed, .ref mm_kept, .ref mm_keptMany, .int 0, .int 0, .ref mm_history, .ref mm_names, .ref mm_worked, .int 0, .int 0, .int (-1), .ref mm_readThing, .ref mm_readHour, .ref mm_readLow, .ref mm_readHigh, .int 0, .int 0, .int 0, .ref mm_imageOff, .ref mm_imageLast, .ref mm_imagePassed, .ref mm_imageKept, .ref mm_imageMany, .ref mm_imageHistory])), (mm_number, .inl (k_mm_number, 10, .inl (fun _ => 0))), (xx, .inr (10, [.ref rr, .ref ta, .ref tb, .ref pa, .ref pb, .ref cn, .ref ci, .int 0, .ref cp, .ref ct, .ref hs, .ref rd, .ref wy, .ref ea, .ref eb])), (ta, .inr (8, [.int 0, .int 0, .int 0, .int 0, .int 0, .ref ta_name, .ref ta_first, .ref ta_gain, .ref ta_rough, .ref ta_custom, .ref ta_part, .ref ta_whole, .ref ta_roundPerson, .ref ta_roundClock, .ref ta_roundHour, .ref ta_gunClock, .ref ta_gunHour, .ref tau]))] := hD
  clear hPc hDc hKc hFc hP1 hD1 hk1 hz1 ht hvm
  have hw : r_10 = -1 := hw
  subst r_10
  refine lv_aload_n hx hb dL_law_987 rfl (lv_at hl 2 rfl) ?_
  refine lv_aload_n hx hb dL_law_988 rfl (lv_at hl 4 rfl) ?_
  refine lv_iload hx hb dL_law_989 (lv_at hl 0 rfl) ?_
  refine lv_iconst (v := 1) hx hb dL_law_991 (by decide) ?_
  refine lv_iadd hx hb dL_law_992 ?_
  refine lv_topi (fun z_11 ez_11 => ?_)
  obtain rfl : z_11 = 1 := ez_11.trans (by decide)
  refine va_sld hx hb hX hbl hbA hS (pk_in 1 7 (by decide) (by decide) (by decide)) dL_law_993 ?_
  refine lv_topi (fun z_12 ez_12 => ?_)
  replace ez_12 : z_12 = xs 1 := ez_12
  subst z_12
  refine lv_aload_n hx hb dL_law_994 rfl (lv_at hl 4 rfl) ?_
  refine lv_iload hx hb dL_law_995 (lv_at hl 0 rfl) ?_
  refine lv_iconst (v := 2) hx hb dL_law_997 (by decide) ?_
  refine lv_iadd hx hb dL_law_998 ?_
  refine lv_topi (fun z_13 ez_13 => ?_)
  obtain rfl : z_13 = 2 := ez_13.trans (by decide)
  refine va_sld hx hb hX hbl hbA hS (pk_in 2 7 (by decide) (by decide) (by decide)) dL_law_999 ?_
  refine lv_topi (fun z_14 ez_14 => ?_)
  replace ez_14 : z_14 = xs 2 := ez_14
  subst z_14
  refine lv_aload_n hx hb dL_law_1000 rfl (lv_at hl 4 rfl) ?_
  refine lv_iload hx hb dL_law_1001 (lv_at hl 0 rfl) ?_
  refine lv_iconst (v := 3) hx hb dL_law_1003 (by decide) ?_
  refine lv_iadd hx hb dL_law_1004 ?_
  refine lv_topi (fun z_15 ez_15 => ?_)
  obtain rfl : z_15 = 3 := ez_15.trans (by decide)
  refine va_sld hx hb hX hbl hbA hS (pk_in 3 7 (by decide) (by decide) (by decide)) dL_law_1005 ?_
  refine lv_topi (fun z_16 ez_16 => ?_)
  replace ez_16 : z_16 = xs 3 := ez_16
  subst z_16
  refine lv_aload_n hx hb dL_law_1006 rfl (lv_at hl 4 rfl) ?_
  refine lv_iload hx hb dL_law_1007 (lv_at hl 0 rfl) ?_
  refine lv_iconst (v := 4) hx hb dL_law_1009 (by decide) ?_
  refine lv_iadd hx hb dL_law_1010 ?_
  refine lv_topi (fun z_17 ez_17 => ?_)
  obtain rfl : z_17 = 4 := ez_17.trans (by decide)
  refine va_sld hx hb hX hbl hbA hS (pk_in 4 7 (by decide) (by decide) (by decide)) dL_law_1011 ?_
  refine lv_topi (fun z_18 ez_18 => ?_)
  replace ez_18 : z_18 = xs 4 := ez_18
  subst z_18
  have hPc := hP.sub (ws' := [(mm, .inr (11, [.int 0, .ref mm_tape, .int 0, .ref mm_number, .ref mm_clockName, .ref mm_clockOff, .ref mm_clockGain, .ref mm_clockRough, .ref mm_personName, .ref mm_personOff, .ref mm_personGain, .ref mm_personRough, .ref mm_custom, .ref mm_customA, .ref mm_customB, .ref mm_ruleFrom, .ref mm_ruleTo, .ref mm_roundOf, .ref mm_roundAt, .ref mm_roundHour, .ref mm_gunAt, .ref mm_gunHour, .ref mm_knotSort, .ref mm_knotValue, .int 0, .int 0, .int 0, .int 0, .int 0, .int 0, .int 0, .int 0, .int 0, .int (-1), .int 0, .int 0, .int 0, .int 0, .int 0, .int 0, .int 0, .int 0, .int 0, .int 0, .int 0, .int 0, .ref mm_start, .ref mm_off, .ref mm_last, .ref mm_passed, .ref mm_kept, .ref mm_keptMany, .int 0, .int 0, .ref mm_history, .ref mm_names, .ref mm_worked, .int 0, .int 0, .int (-1), .ref mm_readThing, .ref mm_readHour, .ref mm_readLow, .ref mm_readHigh, .int 0, .int 0, .int 0, .ref mm_imageOff, .ref mm_imageLast, .ref mm_imagePassed, .ref mm_imageKept, .ref mm_imageMany, .ref mm_imageHistory])), (mm_number, .inl (k_mm_number, 10, .inl (fun _ => 0)))]) [0, 1] rfl
  have hDc := hD.sub (ws' := [(mm, .inr (11, [.int 0, .ref mm_tape, .int 0, .ref mm_number, .ref mm_clockName, .ref mm_clockOff, .ref mm_clockGain, .ref mm_clockRough, .ref mm_personName, .ref mm_personOff, .ref mm_personGain, .ref mm_personRough, .ref mm_custom, .ref mm_customA, .ref mm_customB, .ref mm_ruleFrom, .ref mm_ruleTo, .ref mm_roundOf, .ref mm_roundAt, .ref mm_roundHour, .ref mm_gunAt, .ref mm_gunHour, .ref mm_knotSort, .ref mm_knotValue, .int 0, .int 0, .int 0, .int 0, .int 0, .int 0, .int 0, .int 0, .int 0, .int (-1), .int 0, .int 0, .int 0, .int 0, .int 0, .int 0, .int 0, .int 0, .int 0, .int 0, .int 0, .int 0, .ref mm_start, .ref mm_off, .ref mm_last, .ref mm_passed, .ref mm_kept, .ref mm_keptMany, .int 0, .int 0, .ref mm_history, .ref mm_names, .ref mm_worked, .int 0, .int 0, .int (-1), .ref mm_readThing, .ref mm_readHour, .ref mm_readLow, .ref mm_readHigh, .int 0, .int 0, .int 0, .ref mm_imageOff, .ref mm_imageLast, .ref mm_imagePassed, .ref mm_imageKept, .ref mm_imageMany, .ref mm_imageHistory])), (mm_number, .inl (k_mm_number, 10, .inl (fun _ => 0)))]) [0, 1] (by decide) rfl
  have hKc := hK.sub (tys' := [(k_mm_number, .int)]) [0] rfl
  have hFc := va_free (wc := [(mm, .inr (11, [.int 0, .ref mm_tape, .int 0, .ref mm_number, .ref mm_clockName, .ref mm_clockOff, .ref mm_clockGain, .ref mm_clockRough, .ref mm_personName, .ref mm_personOff, .ref mm_personGain, .ref mm_personRough, .ref mm_custom, .ref mm_customA, .ref mm_customB, .ref mm_ruleFrom, .ref mm_ruleTo, .ref mm_roundOf, .ref mm_roundAt, .ref mm_roundHour, .ref mm_gunAt, .ref mm_gunHour, .ref mm_knotSort, .ref mm_knotValue, .int 0, .int 0, .int 0, .int 0, .int 0, .int 0, .int 0, .int 0, .int 0, .int (-1), .int 0, .int 0, .int 0, .int 0, .int 0, .int 0, .int 0, .int 0, .int 0, .int 0, .int 0, .int 0, .ref mm_start, .ref mm_off, .ref mm_last, .ref mm_passed, .ref mm_kept, .ref mm_keptMany, .int 0, .int 0, .ref mm_history, .ref mm_names, .ref mm_worked, .int 0, .int 0, .int (-1), .ref mm_readThing, .ref mm_readHour, .ref mm_readLow, .ref mm_readHigh, .int 0, .int 0, .int 0, .ref mm_imageOff, .ref mm_imageLast, .ref mm_imagePassed, .ref mm_imageKept, .ref mm_imageMany, .ref mm_imageHistory])), (mm_number, .inl (k_mm_number, 10, .inl (fun _ => 0)))]) hD hS hA [0, 1] rfl
  have := (by decide : (0 : Int32).toInt = 0)
  have := (by decide : (0 : Int32).toInt = 0)
  have := (by decide : (0 : Int32).toInt = 0)
  have := (by decide : (0 : Int32).toInt = 0)
  have := (by decide : (0 : Int32).toInt = 0)
  have := (by decide : (0 : Int32).toInt = 0)
  have := (by decide : (0 : Int32).toInt = 0)
  have := (by decide : (0 : Int32).toInt = 0)
  have := (by decide : (0 : Int32).toInt = 0)
  have := (by decide : (0 : Int32).toInt = 0)
  have := (by decide : (0 : Int32).toInt = 0)
  have := (by decide : ((-1) : Int32).toInt = -1)
  have := (by decide : (0 : Int32).toInt = 0)
  have := (by decide : (0 : Int32).toInt = 0)
  have := (by decide : (0 : Int32).toInt = 0)
  have := (by decide : (0 : Int32).toInt = 0)
  have := (by decide : (0 : Int32).toInt = 0)
  have := (by decide : (0 : Int32).toInt = 0)
  have := (by decide : (0 : Int32).toInt = 0)
  have := (by decide : (0 : Int32).toInt = 0)
  have := (by decide : (0 : Int32).toInt = 0)
  have := (by decide : (0 : Int32).toInt = 0)
  have := (by decide : (0 : Int32).toInt = 0)
  have := (by decide : (0 : Int32).toInt = 0)
  have := (by decide : (0 : Int32).toInt = 0)
  have := (by decide : (0 : Int32).toInt = 0)
  have := (by decide : (0 : Int32).toInt = 0)
  have := (by decide : (0 : Int32).toInt = 0)
  have := (by decide : ((-1) : Int32).toInt = -1)
  have := (by decide : (0 : Int32).toInt = 0)
  have := (by decide : (0 : Int32).toInt = 0)
  have := (by decide : (0 : Int32).toInt = 0)
  refine va_calli (va_runV (As := [.int (xs 1), .int (xs 2), .int (xs 3), .int (xs 4)]) (rest := [.int (-1)]) ⟨hx, hb, hml, hown, hT⟩ (c_X11_reading l dC dI H.size mm (xs 1) (xs 2) (xs 3) (xs 4) (0 : Int32) mm_tape (0 : Int32) mm_number mm_clockName mm_clockOff mm_clockGain mm_clockRough mm_personName mm_personOff mm_personGain mm_personRough mm_custom mm_customA mm_customB mm_ruleFrom mm_ruleTo mm_roundOf mm_roundAt mm_roundHour mm_gunAt mm_gunHour mm_knotSort mm_knotValue (0 : Int32) (0 : Int32) (0 : Int32) (0 : Int32) (0 : Int32) (0 : Int32) (0 : Int32) (0 : Int32) (0 : Int32) ((-1) : Int32) (0 : Int32) (0 : Int32) (0 : Int32) (0 : Int32) (0 : Int32) (0 : Int32) (0 : Int32) (0 : Int32) (0 : Int32) (0 : Int32) (0 : Int32) (0 : Int32) mm_start mm_off mm_last mm_passed mm_kept mm_keptMany (0 : Int32) (0 : Int32) mm_history mm_names mm_worked (0 : Int32) (0 : Int32) ((-1) : Int32) mm_readThing mm_readHour mm_readLow mm_readHigh (0 : Int32) (0 : Int32) (0 : Int32) mm_imageOff mm_imageLast mm_imagePassed mm_imageKept mm_imageMany mm_imageHistory k_mm_number (fun _ => 0) (fun _ => rfl)) (cwV 4 hT (gwV mw_8_96 mw_8_97 mw_8_98 mw_1_16 mw_8_99) rfl rfl rfl (by decide +kernel) ⟨Nat.le_of_ble_eq_true rfl, Nat.le_of_ble_eq_true rfl⟩) ⟨fun a U g mk q => by obtain ⟨q0, q1, qP, qK, qD⟩ := q; exact ⟨q0, q1, qP, va_K.moved (u := U) (U := U.calling g mk a) (Vm.Alike.refl U.vm) qK, qD⟩, va_recv hK hP (ci := 11) (q0 := 0) rfl rfl, fun U hU hW => ⟨rfl, by rw [hU], by rw [hU]; exact hPc, va_K.moved hW.alike hKc, hDc.weaken (fun _ _ _ _ => trivial)⟩⟩ rfl rfl hl.1 rfl (lv_room (Nat.le_of_ble_eq_true rfl)) dL_law_1012 ⟨Nat.le_of_ble_eq_true rfl, Nat.le_of_ble_eq_true rfl⟩) hS (fun q _ h => hFc q h) hFc (fun r_20 u t H1 locs ht hvm hw hB hz1 hk1 hS => ?_)
  obtain ⟨hP1, hD1⟩ := hB
  rw [ht] at hP1
  obtain ⟨hP, hD⟩ := va_join (wr := [(xx, .inr (10, [.ref rr, .ref ta, .ref tb, .ref pa, .ref pb, .ref cn, .ref ci, .int 0, .ref cp, .ref ct, .ref hs, .ref rd, .ref wy, .ref ea, .ref eb])), (ta, .inr (8, [.int 0, .int 0, .int 0, .int 0, .int 0, .ref ta_name, .ref ta_first, .ref ta_gain, .ref ta_rough, .ref ta_custom, .ref ta_part, .ref ta_whole, .ref ta_roundPerson, .ref ta_roundClock, .ref ta_roundHour, .ref ta_gunClock, .ref ta_gunHour, .ref tau]))]) (w1 := [(mm, .inr (11, [.int 0, .ref mm_tape, .int 0, .ref mm_number, .ref mm_clockName, .ref mm_clockOff, .ref mm_clockGain, .ref mm_clockRough, .ref mm_personName, .ref mm_personOff, .ref mm_personGain, .ref mm_personRough, .ref mm_custom, .ref mm_customA, .ref mm_customB, .ref mm_ruleFrom, .ref mm_ruleTo, .ref mm_roundOf, .ref mm_roundAt, .ref mm_roundHour, .ref mm_gunAt, .ref mm_gunHour, .ref mm_knotSort, .ref mm_knotValue, .int 0, .int 0, .int 0, .int 0, .int 0, .int 0, .int 0, .int 0, .int 0, .int (-1), .int 0, .int 0, .int 0, .int 0, .int 0, .int 0, .int 0, .int 0, .int 0, .int 0, .int 0, .int 0, .ref mm_start, .ref mm_off, .ref mm_last, .ref mm_passed, .ref mm_kept, .ref mm_keptMany, .int 0, .int 0, .ref mm_history, .ref mm_names, .ref mm_worked, .int 0, .int 0, .int (-1), .ref mm_readThing, .ref mm_readHour, .ref mm_readLow, .ref mm_readHigh, .int 0, .int 0, .int 0, .ref mm_imageOff, .ref mm_imageLast, .ref mm_imagePassed, .ref mm_imageKept, .ref mm_imageMany, .ref mm_imageHistory])), (mm_number, .inl (k_mm_number, 10, .inl (fun _ => 0)))]) hP hD [0, 1] [2, 3] rfl rfl (by decide) (by decide) hk1 hFc hP1 hD1
  generalize H1 = H at hP hS ⊢
  have hP : va_P (dC, dI) vwCl [(xx, .inr (10, [.ref rr, .ref ta, .ref tb, .ref pa, .ref pb, .ref cn, .ref ci, .int 0, .ref cp, .ref ct, .ref hs, .ref rd, .ref wy, .ref ea, .ref eb])), (ta, .inr (8, [.int 0, .int 0, .int 0, .int 0, .int 0, .ref ta_name, .ref ta_first, .ref ta_gain, .ref ta_rough, .ref ta_custom, .ref ta_part, .ref ta_whole, .ref ta_roundPerson, .ref ta_roundClock, .ref ta_roundHour, .ref ta_gunClock, .ref ta_gunHour, .ref tau])), (mm, .inr (11, [.int 0, .ref mm_tape, .int 0, .ref mm_number, .ref mm_clockName, .ref mm_clockOff, .ref mm_clockGain, .ref mm_clockRough, .ref mm_personName, .ref mm_personOff, .ref mm_personGain, .ref mm_personRough, .ref mm_custom, .ref mm_customA, .ref mm_customB, .ref mm_ruleFrom, .ref mm_ruleTo, .ref mm_roundOf, .ref mm_roundAt, .ref mm_roundHour, .ref mm_gunAt, .ref mm_gunHour, .ref mm_knotSort, .ref mm_knotValue, .int 0, .int 0, .int 0, .int 0, .int 0, .int 0, .int 0, .int 0, .int 0, .int (-1), .int 0, .int 0, .int 0, .int 0, .int 0, .int 0, .int 0, .int 0, .int 0, .int 0, .int 0, .int 0, .ref mm_start, .ref mm_off, .ref mm_last, .ref mm_passed, .ref mm_kept, .ref mm_keptMany, .int 0, .int 0, .ref mm_history, .ref mm_names, .ref mm_worked, .int 0, .int 0, .int (-1), .ref mm_readThing, .ref mm_readHour, .ref mm_readLow, .ref mm_readHigh, .int 0, .int 0, .int 0, .ref mm_imageOff, .ref mm_imageLast, .ref mm_imagePassed, .ref mm_imageKept, .ref mm_imageMany, .ref mm_imageHistory])), (mm_number, .inl (k_mm_number, 10, .inl (fun _ => 0)))] H := hP
  have hD : va_D A [(xx, .inr (10, [.ref rr, .ref ta, .ref tb, .ref pa, .ref pb, .ref cn, .ref ci, .int 0, .ref cp, .ref ct, .ref hs, .ref rd, .ref wy, .ref ea, .ref eb])), (ta, .inr (8, [.int 0, .int 0, .int 0, .int 0, .int 0, .ref ta_name, .ref ta_first, .ref ta_gain, .ref ta_rough, .ref ta_custom, .ref ta_part, .ref ta_whole, .ref ta_roundPerson, .ref ta_roundClock, .ref ta_roundHour, .ref ta_gunClock, .ref ta_gunHour, .ref tau])), (mm, .inr (11, [.int 0, .ref mm_tape, .int 0, .ref mm_number, .ref mm_clockName, .ref mm_clockOff, .ref mm_clockGain, .ref mm_clockRough, .ref mm_personName, .ref mm_personOff, .ref mm_personGain, .ref mm_personRough, .ref mm_custom, .ref mm_customA, .ref mm_customB, .ref mm_ruleFrom, .ref mm_ruleTo, .ref mm_roundOf, .ref mm_roundAt, .ref mm_roundHour, .ref mm_gunAt, .ref mm_gunHour, .ref mm_knotSort, .ref mm_knotValue, .int 0, .int 0, .int 0, .int 0, .int 0, .int 0, .int 0, .int 0, .int 0, .int (-1), .int 0, .int 0, .int 0, .int 0, .int 0, .int 0, .int 0, .int 0, .int 0, .int 0, .int 0, .int 0, .ref mm_start, .ref mm_off, .ref mm_last, .ref mm_passed, .ref mm_kept, .ref mm_keptMany, .int 0, .int 0, .ref mm_history, .ref mm_names, .ref mm_worked, .int 0, .int 0, .int (-1), .ref mm_readThing, .ref mm_readHour, .ref mm_readLow, .ref mm_readHigh, .int 0, .int 0, .int 0, .ref mm_imageOff, .ref mm_imageLast, .ref mm_imagePassed, .ref mm_imageKept, .ref mm_imageMany, .ref mm_imageHistory])), (mm_number, .inl (k_mm_number, 10, .inl (fun _ => 0)))] := hD
  clear hPc hDc hKc hFc hP1 hD1 hk1 hz1 ht hvm
  have hw : r_20 = -1 := hw
  subst r_20
  refine lv_icmp_eq (tgt := 1482) hx hb dL_law_1015 (by decide) (fun c_21 => ?_) (fun c_21 => absurd c_21 (by decide))
  refine lv_iinc (v := 7) (lv' := [(4, .int 7), (3, .ref oo), (2, .ref mm), (1, .ref xx), (0, .ref b)]) hx hb dL_law_1482 hl (k := 0) rfl (by decide) (by decide) rfl (fun ls hl => ?_)
  refine lv_goto (tgt := 23) hx hb dL_law_1485 (by decide) ?_
  refine lv_iload hx hb dL_law_23 (lv_at hl 0 rfl) ?_
  refine lv_aload_n hx hb dL_law_25 rfl (lv_at hl 4 rfl) ?_
  refine va_slen hx hb hX hbl hbA hS dL_law_26 ?_
  refine lv_topi (fun z_22 ez_22 => ?_)
  obtain rfl : z_22 = 7 := ez_22.trans (by decide)
  refine lv_bipush (v := 7) hx hb dL_law_27 (by decide) ?_
  refine lv_isub hx hb dL_law_29 ?_
  refine lv_topi (fun z_23 ez_23 => ?_)
  obtain rfl : z_23 = 0 := ez_23.trans (by decide)
  refine lv_icmp_gt (tgt := 1488) hx hb dL_law_30 (by decide) (fun c_24 => ?_) (fun c_24 => absurd c_24 (by decide))
  refine lv_iconst (v := 1) hx hb dL_law_1488 (by decide) ?_
  refine va_forget (fun q hq => hAo _ (hS.2.2 q hq)) ?_
  refine W.widen (k := 600002) (n := 7302232) (Nat.le_of_ble_eq_true rfl) (Nat.le_of_ble_eq_true rfl) ?_
  exact lw_ret hx hb hr hlocks dL_law_1489
set_option maxHeartbeats 4000000 in
set_option maxRecDepth 100000 in
theorem law_op_18 {p : Program} {l : Launch} {e : Env} {s : State} {m : MethodId} {below : List Frame} {meth : Method} {c : Code} {dC : Nat → ClassId} {dI : Nat → Nat → Nat} {b : Nat} {xs : Nat → Int32} {A : Nat → Prop} (C0 : lw_At p s m meth c b 7 xs) (hA : ∀ q, s.heap.size ≤ q → A q) (hbA : ¬ A b) (hAo : ∀ q, A q → s.heap.size ≤ q) {xx : Nat} {rr : Nat} {ta : Nat} {tb : Nat} {pa : Nat} {pb : Nat} {cn : Nat} {ci : Nat} {cp : Nat} {ct : Nat} {hs : Nat} {rd : Nat} {wy : Nat} {ea : Nat} {eb : Nat} {rd_slot : Nat} {rd_hour : Nat} {rd_low : Nat} {rd_high : Nat} {rd_byHour : Nat} {wy_seconds : Nat} {mm : Nat} {mm_tape : Nat} {mm_number : Nat} {mm_clockName : Nat} {mm_clockOff : Nat} {mm_clockGain : Nat} {mm_clockRough : Nat} {mm_personName : Nat} {mm_personOff : Nat} {mm_personGain : Nat} {mm_personRough : Nat} {mm_custom : Nat} {mm_customA : Nat} {mm_customB : Nat} {mm_ruleFrom : Nat} {mm_ruleTo : Nat} {mm_roundOf : Nat} {mm_roundAt : Nat} {mm_roundHour : Nat} {mm_gunAt : Nat} {mm_gunHour : Nat} {mm_knotSort : Nat} {mm_knotValue : Nat} {mm_start : Nat} {mm_off : Nat} {mm_last : Nat} {mm_passed : Nat} {mm_kept : Nat} {mm_keptMany : Nat} {mm_history : Nat} {mm_names : Nat} {mm_worked : Nat} {mm_readThing : Nat} {mm_readHour : Nat} {mm_readLow : Nat} {mm_readHigh : Nat} {mm_imageOff : Nat} {mm_imageLast : Nat} {mm_imagePassed : Nat} {mm_imageKept : Nat} {mm_imageMany : Nat} {mm_imageHistory : Nat} {oo : Nat} {H : Heap} {locs : List Loc} {ls : Array Slot} (hK : va_K (dC, dI) vwCl [] s) (hP : va_P (dC, dI) vwCl [(xx, .inr (10, [.ref rr, .ref ta, .ref tb, .ref pa, .ref pb, .ref cn, .ref ci, .int 0, .ref cp, .ref ct, .ref hs, .ref rd, .ref wy, .ref ea, .ref eb])), (rd, .inr (5, [.int 0, .int (-1), .ref rd_slot, .ref rd_hour, .ref rd_low, .ref rd_high, .ref rd_byHour])), (wy, .inr (9, [.int (-1), .int 0, .ref wy_seconds])), (mm, .inr (11, [.int 0, .ref mm_tape, .int 0, .ref mm_number, .ref mm_clockName, .ref mm_clockOff, .ref mm_clockGain, .ref mm_clockRough, .ref mm_personName, .ref mm_personOff, .ref mm_personGain, .ref mm_personRough, .ref mm_custom, .ref mm_customA, .ref mm_customB, .ref mm_ruleFrom, .ref mm_ruleTo, .ref mm_roundOf, .ref mm_roundAt, .ref mm_roundHour, .ref mm_gunAt, .ref mm_gunHour, .ref mm_knotSort, .ref mm_knotValue, .int 0, .int 0, .int 0, .int 0, .int 0, .int 0, .int 0, .int 0, .int 0, .int (-1), .int 0, .int 0, .int 0, .int 0, .int 0, .int 0, .int 0, .int 0, .int 0, .int 0, .int 0, .int 0, .ref mm_start, .ref mm_off, .ref mm_last, .ref mm_passed, .ref mm_kept, .ref mm_keptMany, .int 0, .int 0, .ref mm_history, .ref mm_names, .ref mm_worked, .int 0, .int 0, .int (-1), .ref mm_readThing, .ref mm_readHour, .ref mm_readLow, .ref mm_readHigh, .int 0, .int 0, .int 0, .ref mm_imageOff, .ref mm_imageLast, .ref mm_imagePassed, .ref mm_imageKept, .ref mm_imageMany, .ref mm_imageHistory]))] H) (hD : va_D A [(xx, .inr (10, [.ref rr, .ref ta, .ref tb, .ref pa, .ref pb, .ref cn, .ref ci, .int 0, .ref cp, .ref ct, .ref hs, .ref rd, .ref wy, .ref ea, .ref eb])), (rd, .inr (5, [.int 0, .int (-1), .ref rd_slot, .ref rd_hour, .ref rd_low, .ref rd_high, .ref rd_byHour])), (wy, .inr (9, [.int (-1), .int 0, .ref wy_seconds])), (mm, .inr (11, [.int 0, .ref mm_tape, .int 0, .ref mm_number, .ref mm_clockName, .ref mm_clockOff, .ref mm_clockGain, .ref mm_clockRough, .ref mm_personName, .ref mm_personOff, .ref mm_personGain, .ref mm_personRough, .ref mm_custom, .ref mm_customA, .ref mm_customB, .ref mm_ruleFrom, .ref mm_ruleTo, .ref mm_roundOf, .ref mm_roundAt, .ref mm_roundHour, .ref mm_gunAt, .ref mm_gunHour, .ref mm_knotSort, .ref mm_knotValue, .int 0, .int 0, .int 0, .int 0, .int 0, .int 0, .int 0, .int 0, .int 0, .int (-1), .int 0, .int 0, .int 0, .int 0, .int 0, .int 0, .int 0, .int 0, .int 0, .int 0, .int 0, .int 0, .ref mm_start, .ref mm_off, .ref mm_last, .ref mm_passed, .ref mm_kept, .ref mm_keptMany, .int 0, .int 0, .ref mm_history, .ref mm_names, .ref mm_worked, .int 0, .int 0, .int (-1), .ref mm_readThing, .ref mm_readHour, .ref mm_readLow, .ref mm_readHigh, .int 0, .int 0, .int 0, .ref mm_imageOff, .ref mm_imageLast, .ref mm_imagePassed, .ref mm_imageKept, .ref mm_imageMany, .ref mm_imageHistory]))]) (hS : va_S A s.heap H locs) (hl : lv_has ls 7 [(4, .int 0), (3, .ref oo), (2, .ref mm), (1, .ref xx), (0, .ref b)]) : W p l e room_1 s m #[Value.ref b] below meth c H locs 160 67979 (lw_Z below #[Value.ref b] s) (F0 m 1020 ls []) := by
  obtain ⟨hx, hb, hr, hml, hown, hts, hX, hbl, hlocks, hgv⟩ := C0
  have hT : ∀ w ∈ pw_T, w.before #[Value.ref b] s = true := fun w h => hts w (List.mem_filter.mp h).1
  have hown : s.vm.findClass RL = some m.cls := hown
  refine lv_aload_n hx hb dL_law_1020 rfl (lv_at hl 3 rfl) ?_
  refine lv_aload_n hx hb dL_law_1021 rfl (lv_at hl 4 rfl) ?_
  refine lv_iload hx hb dL_law_1022 (lv_at hl 0 rfl) ?_
  refine lv_iconst (v := 1) hx hb dL_law_1024 (by decide) ?_
  refine lv_iadd hx hb dL_law_1025 ?_
  refine lv_topi (fun z_1 ez_1 => ?_)
  obtain rfl : z_1 = 1 := ez_1.trans (by decide)
  refine va_sld hx hb hX hbl hbA hS (pk_in 1 7 (by decide) (by decide) (by decide)) dL_law_1026 ?_
  refine lv_topi (fun z_2 ez_2 => ?_)
  replace ez_2 : z_2 = xs 1 := ez_2
  subst z_2
  have hPc := hP.sub (ws' := [(xx, .inr (10, [.ref rr, .ref ta, .ref tb, .ref pa, .ref pb, .ref cn, .ref ci, .int 0, .ref cp, .ref ct, .ref hs, .ref rd, .ref wy, .ref ea, .ref eb])), (rd, .inr (5, [.int 0, .int (-1), .ref rd_slot, .ref rd_hour, .ref rd_low, .ref rd_high, .ref rd_byHour])), (wy, .inr (9, [.int (-1), .int 0, .ref wy_seconds]))]) [0, 1, 2] rfl
  have hDc := hD.sub (ws' := [(xx, .inr (10, [.ref rr, .ref ta, .ref tb, .ref pa, .ref pb, .ref cn, .ref ci, .int 0, .ref cp, .ref ct, .ref hs, .ref rd, .ref wy, .ref ea, .ref eb])), (rd, .inr (5, [.int 0, .int (-1), .ref rd_slot, .ref rd_hour, .ref rd_low, .ref rd_high, .ref rd_byHour])), (wy, .inr (9, [.int (-1), .int 0, .ref wy_seconds]))]) [0, 1, 2] (by decide) rfl
  have hKc := hK.sub (tys' := []) [] rfl
  have hFc := va_free (wc := [(xx, .inr (10, [.ref rr, .ref ta, .ref tb, .ref pa, .ref pb, .ref cn, .ref ci, .int 0, .ref cp, .ref ct, .ref hs, .ref rd, .ref wy, .ref ea, .ref eb])), (rd, .inr (5, [.int 0, .int (-1), .ref rd_slot, .ref rd_hour, .ref rd_low, .ref rd_high, .ref rd_byHour])), (wy, .inr (9, [.int (-1), .int 0, .ref wy_seconds]))]) hD hS hA [0, 1, 2] rfl
  have := (by decide : (0 : Int32).toInt = 0)
  have := (by decide : ((-1) : Int32).toInt = -1)
  have := (by decide : ((-1) : Int32).toInt = -1)
  have := (by decide : (0 : Int32).toInt = 0)
  refine va_calli (va_runV (As := [.int (xs 1)]) (rest := []) ⟨hx, hb, hml, hown, hT⟩ (c_X10_known l dC dI H.size xx (xs 1) rr ta tb pa pb cn ci (0 : Int32) cp ct hs rd wy ea eb ((-1) : Int32) rd_slot rd_hour rd_low rd_high rd_byHour ((-1) : Int32) (0 : Int32) wy_seconds ) (cwV 1 hT (gwV mw_5_14 mw_5_15 mw_5_16 mw_1_1 mw_5_17) rfl rfl rfl (by decide +kernel) ⟨Nat.le_of_ble_eq_true rfl, Nat.le_of_ble_eq_true rfl⟩) ⟨fun a U g mk q => by obtain ⟨q0, q1, qP, qK, qD⟩ := q; exact ⟨q0, q1, qP, va_K.moved (u := U) (U := U.calling g mk a) (Vm.Alike.refl U.vm) qK, qD⟩, va_recv hK hP (ci := 10) (q0 := 0) rfl rfl, fun U hU hW => ⟨rfl, by rw [hU], by rw [hU]; exact hPc, va_K.moved hW.alike hKc, hDc.weaken (fun _ _ _ _ => trivial)⟩⟩ rfl rfl hl.1 rfl (lv_room (Nat.le_of_ble_eq_true rfl)) dL_law_1027 ⟨Nat.le_of_ble_eq_true rfl, Nat.le_of_ble_eq_true rfl⟩) hS (fun q _ h => hFc q h) hFc (fun r_4 u t H1 locs ht hvm hw hB hz1 hk1 hS => ?_)
  obtain ⟨hP1, hD1⟩ := hB
  rw [ht] at hP1
  obtain ⟨hP, hD⟩ := va_join (wr := [(mm, .inr (11, [.int 0, .ref mm_tape, .int 0, .ref mm_number, .ref mm_clockName, .ref mm_clockOff, .ref mm_clockGain, .ref mm_clockRough, .ref mm_personName, .ref mm_personOff, .ref mm_personGain, .ref mm_personRough, .ref mm_custom, .ref mm_customA, .ref mm_customB, .ref mm_ruleFrom, .ref mm_ruleTo, .ref mm_roundOf, .ref mm_roundAt, .ref mm_roundHour, .ref mm_gunAt, .ref mm_gunHour, .ref mm_knotSort, .ref mm_knotValue, .int 0, .int 0, .int 0, .int 0, .int 0, .int 0, .int 0, .int 0, .int 0, .int (-1), .int 0, .int 0, .int 0, .int 0, .int 0, .int 0, .int 0, .int 0, .int 0, .int 0, .int 0, .int 0, .ref mm_start, .ref mm_off, .ref mm_last, .ref mm_passed, .ref mm_kept, .ref mm_keptMany, .int 0, .int 0, .ref mm_history, .ref mm_names, .ref mm_worked, .int 0, .int 0, .int (-1), .ref mm_readThing, .ref mm_readHour, .ref mm_readLow, .ref mm_readHigh, .int 0, .int 0, .int 0, .ref mm_imageOff, .ref mm_imageLast, .ref mm_imagePassed, .ref mm_imageKept, .ref mm_imageMany, .ref mm_imageHistory]))]) (w1 := [(xx, .inr (10, [.ref rr, .ref ta, .ref tb, .ref pa, .ref pb, .ref cn, .ref ci, .int 0, .ref cp, .ref ct, .ref hs, .ref rd, .ref wy, .ref ea, .ref eb]))]) hP hD [0, 1, 2] [3] rfl rfl (by decide) (by decide) hk1 hFc hP1 hD1
  generalize H1 = H at hP hS ⊢
  have hP : va_P (dC, dI) vwCl [(mm, .inr (11, [.int 0, .ref mm_tape, .int 0, .ref mm_number, .ref mm_clockName, .ref mm_clockOff, .ref mm_clockGain, .ref mm_clockRough, .ref mm_personName, .ref mm_personOff, .ref mm_personGain, .ref mm_personRough, .ref mm_custom, .ref mm_customA, .ref mm_customB, .ref mm_ruleFrom, .ref mm_ruleTo, .ref mm_roundOf, .ref mm_roundAt, .ref mm_roundHour, .ref mm_gunAt, .ref mm_gunHour, .ref mm_knotSort, .ref mm_knotValue, .int 0, .int 0, .int 0, .int 0, .int 0, .int 0, .int 0, .int 0, .int 0, .int (-1), .int 0, .int 0, .int 0, .int 0, .int 0, .int 0, .int 0, .int 0, .int 0, .int 0, .int 0, .int 0, .ref mm_start, .ref mm_off, .ref mm_last, .ref mm_passed, .ref mm_kept, .ref mm_keptMany, .int 0, .int 0, .ref mm_history, .ref mm_names, .ref mm_worked, .int 0, .int 0, .int (-1), .ref mm_readThing, .ref mm_readHour, .ref mm_readLow, .ref mm_readHigh, .int 0, .int 0, .int 0, .ref mm_imageOff, .ref mm_imageLast, .ref mm_imagePassed, .ref mm_imageKept, .ref mm_imageMany, .ref mm_imageHistory])), (xx, .inr (10, [.ref rr, .ref ta, .ref tb, .ref pa, .ref pb, .ref cn, .ref ci, .int 0, .ref cp, .ref ct, .ref hs, .ref rd, .ref wy, .ref ea, .ref eb]))] H := hP
  have hD : va_D A [(mm, .inr (11, [.int 0, .ref mm_tape, .int 0, .ref mm_number, .ref mm_clockName, .ref mm_clockOff, .ref mm_clockGain, .ref mm_clockRough, .ref mm_personName, .ref mm_personOff, .ref mm_personGain, .ref mm_personRough, .ref mm_custom, .ref mm_customA, .ref mm_customB, .ref mm_ruleFrom, .ref mm_ruleTo, .ref mm_roundOf, .ref mm_roundAt, .ref mm_roundHour, .ref mm_gunAt, .ref mm_gunHour, .ref mm_knotSort, .ref mm_knotValue, .int 0, .int 0, .int 0, .int 0, .int 0, .int 0, .int 0, .int 0, .int 0, .int (-1), .int 0, .int 0, .int 0, .int 0, .int 0, .int 0, .int 0, .int 0, .int 0, .int 0, .int 0, .int 0, .ref mm_start, .ref mm_off, .ref mm_last, .ref mm_passed, .ref mm_kept, .ref mm_keptMany, .int 0, .int 0, .ref mm_history, .ref mm_names, .ref mm_worked, .int 0, .int 0, .int (-1), .ref mm_readThing, .ref mm_readHour, .ref mm_readLow, .ref mm_readHigh, .int 0, .int 0, .int 0, .ref mm_imageOff, .ref mm_imageLast, .ref mm_imagePassed, .ref mm_imageKept, .ref mm_imageMany, .ref mm_imageHistory])), (xx, .inr (10, [.ref rr, .ref ta, .ref tb, .ref pa, .ref pb, .ref cn, .ref ci, .int 0, .ref cp, .ref ct, .ref hs, .ref rd, .ref wy, .ref ea, .ref eb]))] := hD
  clear hPc hDc hKc hFc hP1 hD1 hk1 hz1 ht hvm
  have hw : (r_4 = 1 ∧ (-1 ≤ (xs 1).toInt ∧ (xs 1).toInt ≤ 0)) ∨ (r_4 = 0 ∧ ((xs 1).toInt < -1 ∨ 0 < (xs 1).toInt)) := hw
  rcases hw with ⟨hrr_4, hfr_4⟩ | ⟨hrr_4, hfr_4⟩
  · subst r_4
    refine lv_aload_n hx hb dL_law_1030 rfl (lv_at hl 2 rfl) ?_
    refine lv_aload_n hx hb dL_law_1031 rfl (lv_at hl 4 rfl) ?_
    refine lv_iload hx hb dL_law_1032 (lv_at hl 0 rfl) ?_
    refine lv_iconst (v := 1) hx hb dL_law_1034 (by decide) ?_
    refine lv_iadd hx hb dL_law_1035 ?_
    refine lv_topi (fun z_5 ez_5 => ?_)
    obtain rfl : z_5 = 1 := ez_5.trans (by decide)
    refine va_sld hx hb hX hbl hbA hS (pk_in 1 7 (by decide) (by decide) (by decide)) dL_law_1036 ?_
    refine lv_topi (fun z_6 ez_6 => ?_)
    replace ez_6 : z_6 = xs 1 := ez_6
    subst z_6
    have hPc := hP.sub (ws' := [(mm, .inr (11, [.int 0, .ref mm_tape, .int 0, .ref mm_number, .ref mm_clockName, .ref mm_clockOff, .ref mm_clockGain, .ref mm_clockRough, .ref mm_personName, .ref mm_personOff, .ref mm_personGain, .ref mm_personRough, .ref mm_custom, .ref mm_customA, .ref mm_customB, .ref mm_ruleFrom, .ref mm_ruleTo, .ref mm_roundOf, .ref mm_roundAt, .ref mm_roundHour, .ref mm_gunAt, .ref mm_gunHour, .ref mm_knotSort, .ref mm_knotValue, .int 0, .int 0, .int 0, .int 0, .int 0, .int 0, .int 0, .int 0, .int 0, .int (-1), .int 0, .int 0, .int 0, .int 0, .int 0, .int 0, .int 0, .int 0, .int 0, .int 0, .int 0, .int 0, .ref mm_start, .ref mm_off, .ref mm_last, .ref mm_passed, .ref mm_kept, .ref mm_keptMany, .int 0, .int 0, .ref mm_history, .ref mm_names, .ref mm_worked, .int 0, .int 0, .int (-1), .ref mm_readThing, .ref mm_readHour, .ref mm_readLow, .ref mm_readHigh, .int 0, .int 0, .int 0, .ref mm_imageOff, .ref mm_imageLast, .ref mm_imagePassed, .ref mm_imageKept, .ref mm_imageMany, .ref mm_imageHistory]))]) [0] rfl
    have hDc := hD.sub (ws' := [(mm, .inr (11, [.int 0, .ref mm_tape, .int 0, .ref mm_number, .ref mm_clockName, .ref mm_clockOff, .ref mm_clockGain, .ref mm_clockRough, .ref mm_personName, .ref mm_personOff, .ref mm_personGain, .ref mm_personRough, .ref mm_custom, .ref mm_customA, .ref mm_customB, .ref mm_ruleFrom, .ref mm_ruleTo, .ref mm_roundOf, .ref mm_roundAt, .ref mm_roundHour, .ref mm_gunAt, .ref mm_gunHour, .ref mm_knotSort, .ref mm_knotValue, .int 0, .int 0, .int 0, .int 0, .int 0, .int 0, .int 0, .int 0, .int 0, .int (-1), .int 0, .int 0, .int 0, .int 0, .int 0, .int 0, .int 0, .int 0, .int 0, .int 0, .int 0, .int 0, .ref mm_start, .ref mm_off, .ref mm_last, .ref mm_passed, .ref mm_kept, .ref mm_keptMany, .int 0, .int 0, .ref mm_history, .ref mm_names, .ref mm_worked, .int 0, .int 0, .int (-1), .ref mm_readThing, .ref mm_readHour, .ref mm_readLow, .ref mm_readHigh, .int 0, .int 0, .int 0, .ref mm_imageOff, .ref mm_imageLast, .ref mm_imagePassed, .ref mm_imageKept, .ref mm_imageMany, .ref mm_imageHistory]))]) [0] (by decide) rfl
    have hKc := hK.sub (tys' := []) [] rfl
    have hFc := va_free (wc := [(mm, .inr (11, [.int 0, .ref mm_tape, .int 0, .ref mm_number, .ref mm_clockName, .ref mm_clockOff, .ref mm_clockGain, .ref mm_clockRough, .ref mm_personName, .ref mm_personOff, .ref mm_personGain, .ref mm_personRough, .ref mm_custom, .ref mm_customA, .ref mm_customB, .ref mm_ruleFrom, .ref mm_ruleTo, .ref mm_roundOf, .ref mm_roundAt, .ref mm_roundHour, .ref mm_gunAt, .ref mm_gunHour, .ref mm_knotSort, .ref mm_knotValue, .int 0, .int 0, .int 0, .int 0, .int 0, .int 0, .int 0, .int 0, .int 0, .int (-1), .int 0, .int 0, .int 0, .int 0, .int 0, .int 0, .int 0, .int 0, .int 0, .int 0, .int 0, .int 0, .ref mm_start, .ref mm_off, .ref mm_last, .ref mm_passed, .ref mm_kept, .ref mm_keptMany, .int 0, .int 0, .ref mm_history, .ref mm_names, .ref mm_worked, .int 0, .int 0, .int (-1), .ref mm_readThing, .ref mm_readHour, .ref mm_readLow, .ref mm_readHigh, .int 0, .int 0, .int 0, .ref mm_imageOff, .ref mm_imageLast, .ref mm_imagePassed, .ref mm_imageKept, .ref mm_imageMany, .ref mm_imageHistory]))]) hD hS hA [0] rfl
    have := (by decide : (0 : Int32).toInt = 0)
    have := (by decide : (0 : Int32).toInt = 0)
    have := (by decide : (0 : Int32).toInt = 0)
    have := (by decide : (0 : Int32).toInt = 0)
    have := (by decide : (0 : Int32).toInt = 0)
    have := (by decide : (0 : Int32).toInt = 0)
    have := (by decide : (0 : Int32).toInt = 0)
    have := (by decide : (0 : Int32).toInt = 0)
    have := (by decide : (0 : Int32).toInt = 0)
    have := (by decide : (0 : Int32).toInt = 0)
    have := (by decide : (0 : Int32).toInt = 0)
    have := (by decide : ((-1) : Int32).toInt = -1)
    have := (by decide : (0 : Int32).toInt = 0)
    have := (by decide : (0 : Int32).toInt = 0)
    have := (by decide : (0 : Int32).toInt = 0)
    have := (by decide : (0 : Int32).toInt = 0)
    have := (by decide : (0 : Int32).toInt = 0)
    have := (by decide : (0 : Int32).toInt = 0)
    have := (by decide : (0 : Int32).toInt = 0)
    have := (by decide : (0 : Int32).toInt = 0)
    have := (by decide : (0 : Int32).toInt = 0)
    have := (by decide : (0 : Int32).toInt = 0)
    have := (by decide : (0 : Int32).toInt = 0)
    have := (by decide : (0 : Int32).toInt = 0)
    have := (by decide : (0 : Int32).toInt = 0)
    have := (by decide : (0 : Int32).toInt = 0)
    have := (by decide : (0 : Int32).toInt = 0)
    have := (by decide : ((-1) : Int32).toInt = -1)
    have := (by decide : (0 : Int32).toInt = 0)
    have := (by decide : (0 : Int32).toInt = 0)
    have := (by decide : (0 : Int32).toInt = 0)
    refine va_calli (va_runV (As := [.int (xs 1)]) (rest := [.int 1]) ⟨hx, hb, hml, hown, hT⟩ (c_X11_known l dC dI H.size mm (xs 1) (0 : Int32) mm_tape (0 : Int32) mm_number mm_clockName mm_clockOff mm_clockGain mm_clockRough mm_personName mm_personOff mm_personGain mm_personRough mm_custom mm_customA mm_customB mm_ruleFrom mm_ruleTo mm_roundOf mm_roundAt mm_roundHour mm_gunAt mm_gunHour mm_knotSort mm_knotValue (0 : Int32) (0 : Int32) (0 : Int32) (0 : Int32) (0 : Int32) (0 : Int32) (0 : Int32) (0 : Int32) (0 : Int32) ((-1) : Int32) (0 : Int32) (0 : Int32) (0 : Int32) (0 : Int32) (0 : Int32) (0 : Int32) (0 : Int32) (0 : Int32) (0 : Int32) (0 : Int32) (0 : Int32) (0 : Int32) mm_start mm_off mm_last mm_passed mm_kept mm_keptMany (0 : Int32) (0 : Int32) mm_history mm_names mm_worked (0 : Int32) ((-1) : Int32) mm_readThing mm_readHour mm_readLow mm_readHigh (0 : Int32) (0 : Int32) (0 : Int32) mm_imageOff mm_imageLast mm_imagePassed mm_imageKept mm_imageMany mm_imageHistory ) (cwV 1 hT (gwV mw_8_102 mw_8_103 mw_8_104 mw_1_16 mw_8_105) rfl rfl rfl (by decide +kernel) ⟨Nat.le_of_ble_eq_true rfl, Nat.le_of_ble_eq_true rfl⟩) ⟨fun a U g mk q => by obtain ⟨q0, q1, qP, qK, qD⟩ := q; exact ⟨q0, q1, qP, va_K.moved (u := U) (U := U.calling g mk a) (Vm.Alike.refl U.vm) qK, qD⟩, va_recv hK hP (ci := 11) (q0 := 0) rfl rfl, fun U hU hW => ⟨rfl, by rw [hU], by rw [hU]; exact hPc, va_K.moved hW.alike hKc, hDc.weaken (fun _ _ _ _ => trivial)⟩⟩ rfl rfl hl.1 rfl (lv_room (Nat.le_of_ble_eq_true rfl)) dL_law_1037 ⟨Nat.le_of_ble_eq_true rfl, Nat.le_of_ble_eq_true rfl⟩) hS (fun q _ h => hFc q h) hFc (fun r_8 u t H1 locs ht hvm hw hB hz1 hk1 hS => ?_)
    obtain ⟨hP1, hD1⟩ := hB
    rw [ht] at hP1
    obtain ⟨hP, hD⟩ := va_join (wr := [(xx, .inr (10, [.ref rr, .ref ta, .ref tb, .ref pa, .ref pb, .ref cn, .ref ci, .int 0, .ref cp, .ref ct, .ref hs, .ref rd, .ref wy, .ref ea, .ref eb]))]) (w1 := []) hP hD [0] [1] rfl rfl (by decide) (by decide) hk1 hFc hP1 hD1
    generalize H1 = H at hP hS ⊢
    have hP : va_P (dC, dI) vwCl [(xx, .inr (10, [.ref rr, .ref ta, .ref tb, .ref pa, .ref pb, .ref cn, .ref ci, .int 0, .ref cp, .ref ct, .ref hs, .ref rd, .ref wy, .ref ea, .ref eb]))] H := hP
    have hD : va_D A [(xx, .inr (10, [.ref rr, .ref ta, .ref tb, .ref pa, .ref pb, .ref cn, .ref ci, .int 0, .ref cp, .ref ct, .ref hs, .ref rd, .ref wy, .ref ea, .ref eb]))] := hD
    clear hPc hDc hKc hFc hP1 hD1 hk1 hz1 ht hvm
    have hw : (r_8 = 1 ∧ (-1 ≤ (xs 1).toInt ∧ (xs 1).toInt ≤ 0)) ∨ (r_8 = 0 ∧ ((xs 1).toInt < -1 ∨ 0 < (xs 1).toInt)) := hw
    rcases hw with ⟨hrr_8, hfr_8⟩ | ⟨hrr_8, hfr_8⟩
    · subst r_8
      refine lv_icmp_eq (tgt := 1482) hx hb dL_law_1040 (by decide) (fun c_9 => ?_) (fun c_9 => absurd c_9 (by decide))
      refine lv_iinc (v := 7) (lv' := [(4, .int 7), (3, .ref oo), (2, .ref mm), (1, .ref xx), (0, .ref b)]) hx hb dL_law_1482 hl (k := 0) rfl (by decide) (by decide) rfl (fun ls hl => ?_)
      refine lv_goto (tgt := 23) hx hb dL_law_1485 (by decide) ?_
      refine lv_iload hx hb dL_law_23 (lv_at hl 0 rfl) ?_
      refine lv_aload_n hx hb dL_law_25 rfl (lv_at hl 4 rfl) ?_
      refine va_slen hx hb hX hbl hbA hS dL_law_26 ?_
      refine lv_topi (fun z_10 ez_10 => ?_)
      obtain rfl : z_10 = 7 := ez_10.trans (by decide)
      refine lv_bipush (v := 7) hx hb dL_law_27 (by decide) ?_
      refine lv_isub hx hb dL_law_29 ?_
      refine lv_topi (fun z_11 ez_11 => ?_)
      obtain rfl : z_11 = 0 := ez_11.trans (by decide)
      refine lv_icmp_gt (tgt := 1488) hx hb dL_law_30 (by decide) (fun c_12 => ?_) (fun c_12 => absurd c_12 (by decide))
      refine lv_iconst (v := 1) hx hb dL_law_1488 (by decide) ?_
      refine va_forget (fun q hq => hAo _ (hS.2.2 q hq)) ?_
      refine W.widen (k := 600002) (n := 7302232) (Nat.le_of_ble_eq_true rfl) (Nat.le_of_ble_eq_true rfl) ?_
      exact lw_ret hx hb hr hlocks dL_law_1489
    · subst r_8
      exact False.elim (by omega)
  · subst r_4
    refine lv_aload_n hx hb dL_law_1030 rfl (lv_at hl 2 rfl) ?_
    refine lv_aload_n hx hb dL_law_1031 rfl (lv_at hl 4 rfl) ?_
    refine lv_iload hx hb dL_law_1032 (lv_at hl 0 rfl) ?_
    refine lv_iconst (v := 1) hx hb dL_law_1034 (by decide) ?_
    refine lv_iadd hx hb dL_law_1035 ?_
    refine lv_topi (fun z_13 ez_13 => ?_)
    obtain rfl : z_13 = 1 := ez_13.trans (by decide)
    refine va_sld hx hb hX hbl hbA hS (pk_in 1 7 (by decide) (by decide) (by decide)) dL_law_1036 ?_
    refine lv_topi (fun z_14 ez_14 => ?_)
    replace ez_14 : z_14 = xs 1 := ez_14
    subst z_14
    have hPc := hP.sub (ws' := [(mm, .inr (11, [.int 0, .ref mm_tape, .int 0, .ref mm_number, .ref mm_clockName, .ref mm_clockOff, .ref mm_clockGain, .ref mm_clockRough, .ref mm_personName, .ref mm_personOff, .ref mm_personGain, .ref mm_personRough, .ref mm_custom, .ref mm_customA, .ref mm_customB, .ref mm_ruleFrom, .ref mm_ruleTo, .ref mm_roundOf, .ref mm_roundAt, .ref mm_roundHour, .ref mm_gunAt, .ref mm_gunHour, .ref mm_knotSort, .ref mm_knotValue, .int 0, .int 0, .int 0, .int 0, .int 0, .int 0, .int 0, .int 0, .int 0, .int (-1), .int 0, .int 0, .int 0, .int 0, .int 0, .int 0, .int 0, .int 0, .int 0, .int 0, .int 0, .int 0, .ref mm_start, .ref mm_off, .ref mm_last, .ref mm_passed, .ref mm_kept, .ref mm_keptMany, .int 0, .int 0, .ref mm_history, .ref mm_names, .ref mm_worked, .int 0, .int 0, .int (-1), .ref mm_readThing, .ref mm_readHour, .ref mm_readLow, .ref mm_readHigh, .int 0, .int 0, .int 0, .ref mm_imageOff, .ref mm_imageLast, .ref mm_imagePassed, .ref mm_imageKept, .ref mm_imageMany, .ref mm_imageHistory]))]) [0] rfl
    have hDc := hD.sub (ws' := [(mm, .inr (11, [.int 0, .ref mm_tape, .int 0, .ref mm_number, .ref mm_clockName, .ref mm_clockOff, .ref mm_clockGain, .ref mm_clockRough, .ref mm_personName, .ref mm_personOff, .ref mm_personGain, .ref mm_personRough, .ref mm_custom, .ref mm_customA, .ref mm_customB, .ref mm_ruleFrom, .ref mm_ruleTo, .ref mm_roundOf, .ref mm_roundAt, .ref mm_roundHour, .ref mm_gunAt, .ref mm_gunHour, .ref mm_knotSort, .ref mm_knotValue, .int 0, .int 0, .int 0, .int 0, .int 0, .int 0, .int 0, .int 0, .int 0, .int (-1), .int 0, .int 0, .int 0, .int 0, .int 0, .int 0, .int 0, .int 0, .int 0, .int 0, .int 0, .int 0, .ref mm_start, .ref mm_off, .ref mm_last, .ref mm_passed, .ref mm_kept, .ref mm_keptMany, .int 0, .int 0, .ref mm_history, .ref mm_names, .ref mm_worked, .int 0, .int 0, .int (-1), .ref mm_readThing, .ref mm_readHour, .ref mm_readLow, .ref mm_readHigh, .int 0, .int 0, .int 0, .ref mm_imageOff, .ref mm_imageLast, .ref mm_imagePassed, .ref mm_imageKept, .ref mm_imageMany, .ref mm_imageHistory]))]) [0] (by decide) rfl
    have hKc := hK.sub (tys' := []) [] rfl
    have hFc := va_free (wc := [(mm, .inr (11, [.int 0, .ref mm_tape, .int 0, .ref mm_number, .ref mm_clockName, .ref mm_clockOff, .ref mm_clockGain, .ref mm_clockRough, .ref mm_personName, .ref mm_personOff, .ref mm_personGain, .ref mm_personRough, .ref mm_custom, .ref mm_customA, .ref mm_customB, .ref mm_ruleFrom, .ref mm_ruleTo, .ref mm_roundOf, .ref mm_roundAt, .ref mm_roundHour, .ref mm_gunAt, .ref mm_gunHour, .ref mm_knotSort, .ref mm_knotValue, .int 0, .int 0, .int 0, .int 0, .int 0, .int 0, .int 0, .int 0, .int 0, .int (-1), .int 0, .int 0, .int 0, .int 0, .int 0, .int 0, .int 0, .int 0, .int 0, .int 0, .int 0, .int 0, .ref mm_start, .ref mm_off, .ref mm_last, .ref mm_passed, .ref mm_kept, .ref mm_keptMany, .int 0, .int 0, .ref mm_history, .ref mm_names, .ref mm_worked, .int 0, .int 0, .int (-1), .ref mm_readThing, .ref mm_readHour, .ref mm_readLow, .ref mm_readHigh, .int 0, .int 0, .int 0, .ref mm_imageOff, .ref mm_imageLast, .ref mm_imagePassed, .ref mm_imageKept, .ref mm_imageMany, .ref mm_imageHistory]))]) hD hS hA [0] rfl
    have := (by decide : (0 : Int32).toInt = 0)
    have := (by decide : (0 : Int32).toInt = 0)
    have := (by decide : (0 : Int32).toInt = 0)
    have := (by decide : (0 : Int32).toInt = 0)
    have := (by decide : (0 : Int32).toInt = 0)
    have := (by decide : (0 : Int32).toInt = 0)
    have := (by decide : (0 : Int32).toInt = 0)
    have := (by decide : (0 : Int32).toInt = 0)
    have := (by decide : (0 : Int32).toInt = 0)
    have := (by decide : (0 : Int32).toInt = 0)
    have := (by decide : (0 : Int32).toInt = 0)
    have := (by decide : ((-1) : Int32).toInt = -1)
    have := (by decide : (0 : Int32).toInt = 0)
    have := (by decide : (0 : Int32).toInt = 0)
    have := (by decide : (0 : Int32).toInt = 0)
    have := (by decide : (0 : Int32).toInt = 0)
    have := (by decide : (0 : Int32).toInt = 0)
    have := (by decide : (0 : Int32).toInt = 0)
    have := (by decide : (0 : Int32).toInt = 0)
    have := (by decide : (0 : Int32).toInt = 0)
    have := (by decide : (0 : Int32).toInt = 0)
    have := (by decide : (0 : Int32).toInt = 0)
    have := (by decide : (0 : Int32).toInt = 0)
    have := (by decide : (0 : Int32).toInt = 0)
    have := (by decide : (0 : Int32).toInt = 0)
    have := (by decide : (0 : Int32).toInt = 0)
    have := (by decide : (0 : Int32).toInt = 0)
    have := (by decide : ((-1) : Int32).toInt = -1)
    have := (by decide : (0 : Int32).toInt = 0)
    have := (by decide : (0 : Int32).toInt = 0)
    have := (by decide : (0 : Int32).toInt = 0)
    refine va_calli (va_runV (As := [.int (xs 1)]) (rest := [.int 0]) ⟨hx, hb, hml, hown, hT⟩ (c_X11_known l dC dI H.size mm (xs 1) (0 : Int32) mm_tape (0 : Int32) mm_number mm_clockName mm_clockOff mm_clockGain mm_clockRough mm_personName mm_personOff mm_personGain mm_personRough mm_custom mm_customA mm_customB mm_ruleFrom mm_ruleTo mm_roundOf mm_roundAt mm_roundHour mm_gunAt mm_gunHour mm_knotSort mm_knotValue (0 : Int32) (0 : Int32) (0 : Int32) (0 : Int32) (0 : Int32) (0 : Int32) (0 : Int32) (0 : Int32) (0 : Int32) ((-1) : Int32) (0 : Int32) (0 : Int32) (0 : Int32) (0 : Int32) (0 : Int32) (0 : Int32) (0 : Int32) (0 : Int32) (0 : Int32) (0 : Int32) (0 : Int32) (0 : Int32) mm_start mm_off mm_last mm_passed mm_kept mm_keptMany (0 : Int32) (0 : Int32) mm_history mm_names mm_worked (0 : Int32) ((-1) : Int32) mm_readThing mm_readHour mm_readLow mm_readHigh (0 : Int32) (0 : Int32) (0 : Int32) mm_imageOff mm_imageLast mm_imagePassed mm_imageKept mm_imageMany mm_imageHistory ) (cwV 1 hT (gwV mw_8_102 mw_8_103 mw_8_104 mw_1_16 mw_8_105) rfl rfl rfl (by decide +kernel) ⟨Nat.le_of_ble_eq_true rfl, Nat.le_of_ble_eq_true rfl⟩) ⟨fun a U g mk q => by obtain ⟨q0, q1, qP, qK, qD⟩ := q; exact ⟨q0, q1, qP, va_K.moved (u := U) (U := U.calling g mk a) (Vm.Alike.refl U.vm) qK, qD⟩, va_recv hK hP (ci := 11) (q0 := 0) rfl rfl, fun U hU hW => ⟨rfl, by rw [hU], by rw [hU]; exact hPc, va_K.moved hW.alike hKc, hDc.weaken (fun _ _ _ _ => trivial)⟩⟩ rfl rfl hl.1 rfl (lv_room (Nat.le_of_ble_eq_true rfl)) dL_law_1037 ⟨Nat.le_of_ble_eq_true rfl, Nat.le_of_ble_eq_true rfl⟩) hS (fun q _ h => hFc q h) hFc (fun r_16 u t H1 locs ht hvm hw hB hz1 hk1 hS => ?_)
    obtain ⟨hP1, hD1⟩ := hB
    rw [ht] at hP1
    obtain ⟨hP, hD⟩ := va_join (wr := [(xx, .inr (10, [.ref rr, .ref ta, .ref tb, .ref pa, .ref pb, .ref cn, .ref ci, .int 0, .ref cp, .ref ct, .ref hs, .ref rd, .ref wy, .ref ea, .ref eb]))]) (w1 := []) hP hD [0] [1] rfl rfl (by decide) (by decide) hk1 hFc hP1 hD1
    generalize H1 = H at hP hS ⊢
    have hP : va_P (dC, dI) vwCl [(xx, .inr (10, [.ref rr, .ref ta, .ref tb, .ref pa, .ref pb, .ref cn, .ref ci, .int 0, .ref cp, .ref ct, .ref hs, .ref rd, .ref wy, .ref ea, .ref eb]))] H := hP
    have hD : va_D A [(xx, .inr (10, [.ref rr, .ref ta, .ref tb, .ref pa, .ref pb, .ref cn, .ref ci, .int 0, .ref cp, .ref ct, .ref hs, .ref rd, .ref wy, .ref ea, .ref eb]))] := hD
    clear hPc hDc hKc hFc hP1 hD1 hk1 hz1 ht hvm
    have hw : (r_16 = 1 ∧ (-1 ≤ (xs 1).toInt ∧ (xs 1).toInt ≤ 0)) ∨ (r_16 = 0 ∧ ((xs 1).toInt < -1 ∨ 0 < (xs 1).toInt)) := hw
    rcases hw with ⟨hrr_16, hfr_16⟩ | ⟨hrr_16, hfr_16⟩
    · subst r_16
      exact False.elim (by omega)
    · subst r_16
      refine lv_icmp_eq (tgt := 1482) hx hb dL_law_1040 (by decide) (fun c_17 => ?_) (fun c_17 => absurd c_17 (by decide))
      refine lv_iinc (v := 7) (lv' := [(4, .int 7), (3, .ref oo), (2, .ref mm), (1, .ref xx), (0, .ref b)]) hx hb dL_law_1482 hl (k := 0) rfl (by decide) (by decide) rfl (fun ls hl => ?_)
      refine lv_goto (tgt := 23) hx hb dL_law_1485 (by decide) ?_
      refine lv_iload hx hb dL_law_23 (lv_at hl 0 rfl) ?_
      refine lv_aload_n hx hb dL_law_25 rfl (lv_at hl 4 rfl) ?_
      refine va_slen hx hb hX hbl hbA hS dL_law_26 ?_
      refine lv_topi (fun z_18 ez_18 => ?_)
      obtain rfl : z_18 = 7 := ez_18.trans (by decide)
      refine lv_bipush (v := 7) hx hb dL_law_27 (by decide) ?_
      refine lv_isub hx hb dL_law_29 ?_
      refine lv_topi (fun z_19 ez_19 => ?_)
      obtain rfl : z_19 = 0 := ez_19.trans (by decide)
      refine lv_icmp_gt (tgt := 1488) hx hb dL_law_30 (by decide) (fun c_20 => ?_) (fun c_20 => absurd c_20 (by decide))
      refine lv_iconst (v := 1) hx hb dL_law_1488 (by decide) ?_
      refine va_forget (fun q hq => hAo _ (hS.2.2 q hq)) ?_
      refine W.widen (k := 600002) (n := 7302232) (Nat.le_of_ble_eq_true rfl) (Nat.le_of_ble_eq_true rfl) ?_
      exact lw_ret hx hb hr hlocks dL_law_1489
set_option maxHeartbeats 4000000 in
set_option maxRecDepth 100000 in
theorem law_op_19 {p : Program} {l : Launch} {e : Env} {s : State} {m : MethodId} {below : List Frame} {meth : Method} {c : Code} {dC : Nat → ClassId} {dI : Nat → Nat → Nat} {b : Nat} {xs : Nat → Int32} {A : Nat → Prop} (C0 : lw_At p s m meth c b 7 xs) (hA : ∀ q, s.heap.size ≤ q → A q) (hbA : ¬ A b) (hAo : ∀ q, A q → s.heap.size ≤ q) {xx : Nat} {rr : Nat} {ta : Nat} {tb : Nat} {pa : Nat} {pb : Nat} {cn : Nat} {ci : Nat} {cp : Nat} {ct : Nat} {hs : Nat} {rd : Nat} {wy : Nat} {ea : Nat} {eb : Nat} {pa_first : Nat} {pa_gain : Nat} {pa_custom : Nat} {pa_ruled : Nat} {pa_deedHour : Nat} {pa_deedPerson : Nat} {pa_deedClock : Nat} {k_pa_first : ClassId} {cp_last : Nat} {cp_passed : Nat} {cp_keptCount : Nat} {cp_off : Nat} {cp_since : Nat} {cp_kept : Nat} {cp_sorted : Nat} {k_cp_off : ClassId} {k_cp_since : ClassId} {k_cp_last : ClassId} {k_cp_passed : ClassId} {k_cp_keptCount : ClassId} {rd_slot : Nat} {rd_hour : Nat} {rd_low : Nat} {rd_high : Nat} {rd_byHour : Nat} {mm : Nat} {mm_tape : Nat} {mm_number : Nat} {mm_clockName : Nat} {mm_clockOff : Nat} {mm_clockGain : Nat} {mm_clockRough : Nat} {mm_personName : Nat} {mm_personOff : Nat} {mm_personGain : Nat} {mm_personRough : Nat} {mm_custom : Nat} {mm_customA : Nat} {mm_customB : Nat} {mm_ruleFrom : Nat} {mm_ruleTo : Nat} {mm_roundOf : Nat} {mm_roundAt : Nat} {mm_roundHour : Nat} {mm_gunAt : Nat} {mm_gunHour : Nat} {mm_knotSort : Nat} {mm_knotValue : Nat} {mm_start : Nat} {mm_off : Nat} {mm_last : Nat} {mm_passed : Nat} {mm_kept : Nat} {mm_keptMany : Nat} {mm_history : Nat} {mm_names : Nat} {mm_worked : Nat} {mm_readThing : Nat} {mm_readHour : Nat} {mm_readLow : Nat} {mm_readHigh : Nat} {mm_imageOff : Nat} {mm_imageLast : Nat} {mm_imagePassed : Nat} {mm_imageKept : Nat} {mm_imageMany : Nat} {mm_imageHistory : Nat} {k_mm_number : ClassId} {k_mm_off : ClassId} {k_mm_last : ClassId} {k_mm_passed : ClassId} {k_mm_keptMany : ClassId} {oo : Nat} {H : Heap} {locs : List Loc} {ls : Array Slot} (hK : va_K (dC, dI) vwCl [(k_pa_first, .int), (k_cp_off, .int), (k_cp_since, .int), (k_cp_last, .int), (k_cp_passed, .int), (k_cp_keptCount, .int), (k_mm_number, .int), (k_mm_off, .int), (k_mm_last, .int), (k_mm_passed, .int), (k_mm_keptMany, .int)] s) (hP : va_P (dC, dI) vwCl [(xx, .inr (10, [.ref rr, .ref ta, .ref tb, .ref pa, .ref pb, .ref cn, .ref ci, .int 0, .ref cp, .ref ct, .ref hs, .ref rd, .ref wy, .ref ea, .ref eb])), (pa, .inr (3, [.ref ta, .ref pa_first, .ref pa_gain, .ref pa_custom, .ref pa_ruled, .int 0, .ref pa_deedHour, .ref pa_deedPerson, .ref pa_deedClock])), (pa_first, .inl (k_pa_first, 10, .inl (fun _ => 0))), (cp, .inr (0, [.ref pa, .int 0, .int 0, .ref cp_last, .ref cp_passed, .ref cp_keptCount, .int 0, .int 0, .int 0, .int 0, .ref cp_off, .ref cp_since, .ref cp_kept, .ref cp_sorted])), (cp_off, .inl (k_cp_off, 10, .inl (fun _ => 0))), (cp_since, .inl (k_cp_since, 10, .inl (fun _ => 0))), (cp_last, .inl (k_cp_last, 5, .inl (fun _ => 0))), (cp_passed, .inl (k_cp_passed, 5, .inl (fun _ => 0))), (cp_keptCount, .inl (k_cp_keptCount, 5, .inl (fun _ => 0))), (rd, .inr (5, [.int 0, .int (-1), .ref rd_slot, .ref rd_hour, .ref rd_low, .ref rd_high, .ref rd_byHour])), (mm, .inr (11, [.int 0, .ref mm_tape, .int 0, .ref mm_number, .ref mm_clockName, .ref mm_clockOff, .ref mm_clockGain, .ref mm_clockRough, .ref mm_personName, .ref mm_personOff, .ref mm_personGain, .ref mm_personRough, .ref mm_custom, .ref mm_customA, .ref mm_customB, .ref mm_ruleFrom, .ref mm_ruleTo, .ref mm_roundOf, .ref mm_roundAt, .ref mm_roundHour, .ref mm_gunAt, .ref mm_gunHour, .ref mm_knotSort, .ref mm_knotValue, .int 0, .int 0, .int 0, .int 0, .int 0, .int 0, .int 0, .int 0, .int 0, .int (-1), .int 0, .int 0, .int 0, .int 0, .int 0, .int 0, .int 0, .int 0, .int 0, .int 0, .int 0, .int 0, .ref mm_start, .ref mm_off, .ref mm_last, .ref mm_passed, .ref mm_kept, .ref mm_keptMany, .int 0, .int 0, .ref mm_history, .ref mm_names, .ref mm_worked, .int 0, .int 0, .int (-1), .ref mm_readThing, .ref mm_readHour, .ref mm_readLow, .ref mm_readHigh, .int 0, .int 0, .int 0, .ref mm_imageOff, .ref mm_imageLast, .ref mm_imagePassed, .ref mm_imageKept, .ref mm_imageMany, .ref mm_imageHistory])), (mm_number, .inl (k_mm_number, 10, .inl (fun _ => 0))), (mm_off, .inl (k_mm_off, 20, .inl (fun _ => 0))), (mm_last, .inl (k_mm_last, 10, .inl (fun _ => 0))), (mm_passed, .inl (k_mm_passed, 10, .inl (fun _ => 0))), (mm_keptMany, .inl (k_mm_keptMany, 10, .inl (fun _ => 0)))] H) (hD : va_D A [(xx, .inr (10, [.ref rr, .ref ta, .ref tb, .ref pa, .ref pb, .ref cn, .ref ci, .int 0, .ref cp, .ref ct, .ref hs, .ref rd, .ref wy, .ref ea, .ref eb])), (pa, .inr (3, [.ref ta, .ref pa_first, .ref pa_gain, .ref pa_custom, .ref pa_ruled, .int 0, .ref pa_deedHour, .ref pa_deedPerson, .ref pa_deedClock])), (pa_first, .inl (k_pa_first, 10, .inl (fun _ => 0))), (cp, .inr (0, [.ref pa, .int 0, .int 0, .ref cp_last, .ref cp_passed, .ref cp_keptCount, .int 0, .int 0, .int 0, .int 0, .ref cp_off, .ref cp_since, .ref cp_kept, .ref cp_sorted])), (cp_off, .inl (k_cp_off, 10, .inl (fun _ => 0))), (cp_since, .inl (k_cp_since, 10, .inl (fun _ => 0))), (cp_last, .inl (k_cp_last, 5, .inl (fun _ => 0))), (cp_passed, .inl (k_cp_passed, 5, .inl (fun _ => 0))), (cp_keptCount, .inl (k_cp_keptCount, 5, .inl (fun _ => 0))), (rd, .inr (5, [.int 0, .int (-1), .ref rd_slot, .ref rd_hour, .ref rd_low, .ref rd_high, .ref rd_byHour])), (mm, .inr (11, [.int 0, .ref mm_tape, .int 0, .ref mm_number, .ref mm_clockName, .ref mm_clockOff, .ref mm_clockGain, .ref mm_clockRough, .ref mm_personName, .ref mm_personOff, .ref mm_personGain, .ref mm_personRough, .ref mm_custom, .ref mm_customA, .ref mm_customB, .ref mm_ruleFrom, .ref mm_ruleTo, .ref mm_roundOf, .ref mm_roundAt, .ref mm_roundHour, .ref mm_gunAt, .ref mm_gunHour, .ref mm_knotSort, .ref mm_knotValue, .int 0, .int 0, .int 0, .int 0, .int 0, .int 0, .int 0, .int 0, .int 0, .int (-1), .int 0, .int 0, .int 0, .int 0, .int 0, .int 0, .int 0, .int 0, .int 0, .int 0, .int 0, .int 0, .ref mm_start, .ref mm_off, .ref mm_last, .ref mm_passed, .ref mm_kept, .ref mm_keptMany, .int 0, .int 0, .ref mm_history, .ref mm_names, .ref mm_worked, .int 0, .int 0, .int (-1), .ref mm_readThing, .ref mm_readHour, .ref mm_readLow, .ref mm_readHigh, .int 0, .int 0, .int 0, .ref mm_imageOff, .ref mm_imageLast, .ref mm_imagePassed, .ref mm_imageKept, .ref mm_imageMany, .ref mm_imageHistory])), (mm_number, .inl (k_mm_number, 10, .inl (fun _ => 0))), (mm_off, .inl (k_mm_off, 20, .inl (fun _ => 0))), (mm_last, .inl (k_mm_last, 10, .inl (fun _ => 0))), (mm_passed, .inl (k_mm_passed, 10, .inl (fun _ => 0))), (mm_keptMany, .inl (k_mm_keptMany, 10, .inl (fun _ => 0)))]) (hS : va_S A s.heap H locs) (hl : lv_has ls 7 [(4, .int 0), (3, .ref oo), (2, .ref mm), (1, .ref xx), (0, .ref b)]) : W p l e room_1 s m #[Value.ref b] below meth c H locs 160 67979 (lw_Z below #[Value.ref b] s) (F0 m 1045 ls []) := by
  obtain ⟨hx, hb, hr, hml, hown, hts, hX, hbl, hlocks, hgv⟩ := C0
  have hT : ∀ w ∈ pw_T, w.before #[Value.ref b] s = true := fun w h => hts w (List.mem_filter.mp h).1
  have hown : s.vm.findClass RL = some m.cls := hown
  refine lv_aload_n hx hb dL_law_1045 rfl (lv_at hl 3 rfl) ?_
  have hPc := hP.sub (ws' := [(xx, .inr (10, [.ref rr, .ref ta, .ref tb, .ref pa, .ref pb, .ref cn, .ref ci, .int 0, .ref cp, .ref ct, .ref hs, .ref rd, .ref wy, .ref ea, .ref eb])), (cp, .inr (0, [.ref pa, .int 0, .int 0, .ref cp_last, .ref cp_passed, .ref cp_keptCount, .int 0, .int 0, .int 0, .int 0, .ref cp_off, .ref cp_since, .ref cp_kept, .ref cp_sorted])), (cp_off, .inl (k_cp_off, 10, .inl (fun _ => 0))), (cp_since, .inl (k_cp_since, 10, .inl (fun _ => 0))), (cp_last, .inl (k_cp_last, 5, .inl (fun _ => 0))), (cp_passed, .inl (k_cp_passed, 5, .inl (fun _ => 0))), (cp_keptCount, .inl (k_cp_keptCount, 5, .inl (fun _ => 0))), (pa, .inr (3, [.ref ta, .ref pa_first, .ref pa_gain, .ref pa_custom, .ref pa_ruled, .int 0, .ref pa_deedHour, .ref pa_deedPerson, .ref pa_deedClock])), (pa_first, .inl (k_pa_first, 10, .inl (fun _ => 0))), (rd, .inr (5, [.int 0, .int (-1), .ref rd_slot, .ref rd_hour, .ref rd_low, .ref rd_high, .ref rd_byHour]))]) [0, 3, 4, 5, 6, 7, 8, 1, 2, 9] rfl
  have hDc := hD.sub (ws' := [(xx, .inr (10, [.ref rr, .ref ta, .ref tb, .ref pa, .ref pb, .ref cn, .ref ci, .int 0, .ref cp, .ref ct, .ref hs, .ref rd, .ref wy, .ref ea, .ref eb])), (cp, .inr (0, [.ref pa, .int 0, .int 0, .ref cp_last, .ref cp_passed, .ref cp_keptCount, .int 0, .int 0, .int 0, .int 0, .ref cp_off, .ref cp_since, .ref cp_kept, .ref cp_sorted])), (cp_off, .inl (k_cp_off, 10, .inl (fun _ => 0))), (cp_since, .inl (k_cp_since, 10, .inl (fun _ => 0))), (cp_last, .inl (k_cp_last, 5, .inl (fun _ => 0))), (cp_passed, .inl (k_cp_passed, 5, .inl (fun _ => 0))), (cp_keptCount, .inl (k_cp_keptCount, 5, .inl (fun _ => 0))), (pa, .inr (3, [.ref ta, .ref pa_first, .ref pa_gain, .ref pa_custom, .ref pa_ruled, .int 0, .ref pa_deedHour, .ref pa_deedPerson, .ref pa_deedClock])), (pa_first, .inl (k_pa_first, 10, .inl (fun _ => 0))), (rd, .inr (5, [.int 0, .int (-1), .ref rd_slot, .ref rd_hour, .ref rd_low, .ref rd_high, .ref rd_byHour]))]) [0, 3, 4, 5, 6, 7, 8, 1, 2, 9] (by decide) rfl
  have hKc := hK.sub (tys' := [(k_cp_off, .int), (k_cp_since, .int), (k_cp_last, .int), (k_cp_passed, .int), (k_cp_keptCount, .int), (k_pa_first, .int)]) [1, 2, 3, 4, 5, 0] rfl
  have hFc := va_free (wc := [(xx, .inr (10, [.ref rr, .ref ta, .ref tb, .ref pa, .ref pb, .ref cn, .ref ci, .int 0, .ref cp, .ref ct, .ref hs, .ref rd, .ref wy, .ref ea, .ref eb])), (cp, .inr (0, [.ref pa, .int 0, .int 0, .ref cp_last, .ref cp_passed, .ref cp_keptCount, .int 0, .int 0, .int 0, .int 0, .ref cp_off, .ref cp_since, .ref cp_kept, .ref cp_sorted])), (cp_off, .inl (k_cp_off, 10, .inl (fun _ => 0))), (cp_since, .inl (k_cp_since, 10, .inl (fun _ => 0))), (cp_last, .inl (k_cp_last, 5, .inl (fun _ => 0))), (cp_passed, .inl (k_cp_passed, 5, .inl (fun _ => 0))), (cp_keptCount, .inl (k_cp_keptCount, 5, .inl (fun _ => 0))), (pa, .inr (3, [.ref ta, .ref pa_first, .ref pa_gain, .ref pa_custom, .ref pa_ruled, .int 0, .ref pa_deedHour, .ref pa_deedPerson, .ref pa_deedClock])), (pa_first, .inl (k_pa_first, 10, .inl (fun _ => 0))), (rd, .inr (5, [.int 0, .int (-1), .ref rd_slot, .ref rd_hour, .ref rd_low, .ref rd_high, .ref rd_byHour]))]) hD hS hA [0, 3, 4, 5, 6, 7, 8, 1, 2, 9] rfl
  refine va_calli (va_runV (As := []) (rest := []) ⟨hx, hb, hml, hown, hT⟩ (c_X10_judged l dC dI H.size xx rr ta tb pa pb cn ci (0 : Int32) cp ct hs rd wy ea eb pa (0 : Int32) (0 : Int32) cp_last cp_passed cp_keptCount (0 : Int32) (0 : Int32) (0 : Int32) (0 : Int32) cp_off cp_since cp_kept cp_sorted k_cp_off (fun _ => 0) k_cp_since (fun _ => 0) k_cp_last (fun _ => 0) k_cp_passed (fun _ => 0) k_cp_keptCount (fun _ => 0) ta pa_first pa_gain pa_custom pa_ruled (0 : Int32) pa_deedHour pa_deedPerson pa_deedClock k_pa_first (fun _ => 0) rd_slot rd_hour rd_low rd_high rd_byHour ) (cwV 0 hT (gwV mw_5_18 mw_5_19 mw_5_20 mw_1_1 mw_5_21) rfl rfl rfl (by decide +kernel) ⟨Nat.le_of_ble_eq_true rfl, Nat.le_of_ble_eq_true rfl⟩) ⟨fun a U g mk q => by obtain ⟨q0, q1, qP, qK, qD⟩ := q; exact ⟨q0, q1, qP, va_K.moved (u := U) (U := U.calling g mk a) (Vm.Alike.refl U.vm) qK, qD⟩, va_recv hK hP (ci := 10) (q0 := 0) rfl rfl, fun U hU hW => ⟨rfl, by rw [hU], by rw [hU]; exact hPc, va_K.moved hW.alike hKc, hDc.weaken (fun _ _ _ _ => trivial)⟩⟩ rfl rfl hl.1 rfl (lv_room (Nat.le_of_ble_eq_true rfl)) dL_law_1046 ⟨Nat.le_of_ble_eq_true rfl, Nat.le_of_ble_eq_true rfl⟩) hS (fun q _ h => hFc q h) hFc (fun r_2 u t H1 locs ht hvm hw hB hz1 hk1 hS => ?_)
  obtain ⟨x_3, x_4, x_5, x_6, x_7, hP1, hD1⟩ := hB
  rw [ht] at hP1
  obtain ⟨hP, hD⟩ := va_join (wr := [(mm, .inr (11, [.int 0, .ref mm_tape, .int 0, .ref mm_number, .ref mm_clockName, .ref mm_clockOff, .ref mm_clockGain, .ref mm_clockRough, .ref mm_personName, .ref mm_personOff, .ref mm_personGain, .ref mm_personRough, .ref mm_custom, .ref mm_customA, .ref mm_customB, .ref mm_ruleFrom, .ref mm_ruleTo, .ref mm_roundOf, .ref mm_roundAt, .ref mm_roundHour, .ref mm_gunAt, .ref mm_gunHour, .ref mm_knotSort, .ref mm_knotValue, .int 0, .int 0, .int 0, .int 0, .int 0, .int 0, .int 0, .int 0, .int 0, .int (-1), .int 0, .int 0, .int 0, .int 0, .int 0, .int 0, .int 0, .int 0, .int 0, .int 0, .int 0, .int 0, .ref mm_start, .ref mm_off, .ref mm_last, .ref mm_passed, .ref mm_kept, .ref mm_keptMany, .int 0, .int 0, .ref mm_history, .ref mm_names, .ref mm_worked, .int 0, .int 0, .int (-1), .ref mm_readThing, .ref mm_readHour, .ref mm_readLow, .ref mm_readHigh, .int 0, .int 0, .int 0, .ref mm_imageOff, .ref mm_imageLast, .ref mm_imagePassed, .ref mm_imageKept, .ref mm_imageMany, .ref mm_imageHistory])), (mm_number, .inl (k_mm_number, 10, .inl (fun _ => 0))), (mm_off, .inl (k_mm_off, 20, .inl (fun _ => 0))), (mm_last, .inl (k_mm_last, 10, .inl (fun _ => 0))), (mm_passed, .inl (k_mm_passed, 10, .inl (fun _ => 0))), (mm_keptMany, .inl (k_mm_keptMany, 10, .inl (fun _ => 0)))]) (w1 := [(xx, .inr (10, [.ref rr, .ref ta, .ref tb, .ref pa, .ref pb, .ref cn, .ref ci, .int 0, .ref cp, .ref ct, .ref hs, .ref rd, .ref wy, .ref ea, .ref eb])), (cp, .inr (0, [.ref pa, .int 0, .int 0, .ref cp_last, .ref cp_passed, .ref cp_keptCount, .int 0, .int 0, .int 0, .int 0, .ref cp_off, .ref cp_since, .ref cp_kept, .ref cp_sorted])), (cp_off, .inl (k_cp_off, 10, .inl x_3)), (cp_since, .inl (k_cp_since, 10, .inl x_4)), (cp_last, .inl (k_cp_last, 5, .inl x_5)), (cp_passed, .inl (k_cp_passed, 5, .inl x_6)), (cp_keptCount, .inl (k_cp_keptCount, 5, .inl x_7)), (pa, .inr (3, [.ref ta, .ref pa_first, .ref pa_gain, .ref pa_custom, .ref pa_ruled, .int 0, .ref pa_deedHour, .ref pa_deedPerson, .ref pa_deedClock])), (pa_first, .inl (k_pa_first, 10, .inl (fun _ => 0))), (rd, .inr (5, [.int 0, .int (-1), .ref rd_slot, .ref rd_hour, .ref rd_low, .ref rd_high, .ref rd_byHour]))]) hP hD [0, 3, 4, 5, 6, 7, 8, 1, 2, 9] [10, 11, 12, 13, 14, 15] rfl rfl (by decide) (by decide) hk1 hFc hP1 hD1
  generalize H1 = H at hP hS ⊢
  have hP : va_P (dC, dI) vwCl [(mm, .inr (11, [.int 0, .ref mm_tape, .int 0, .ref mm_number, .ref mm_clockName, .ref mm_clockOff, .ref mm_clockGain, .ref mm_clockRough, .ref mm_personName, .ref mm_personOff, .ref mm_personGain, .ref mm_personRough, .ref mm_custom, .ref mm_customA, .ref mm_customB, .ref mm_ruleFrom, .ref mm_ruleTo, .ref mm_roundOf, .ref mm_roundAt, .ref mm_roundHour, .ref mm_gunAt, .ref mm_gunHour, .ref mm_knotSort, .ref mm_knotValue, .int 0, .int 0, .int 0, .int 0, .int 0, .int 0, .int 0, .int 0, .int 0, .int (-1), .int 0, .int 0, .int 0, .int 0, .int 0, .int 0, .int 0, .int 0, .int 0, .int 0, .int 0, .int 0, .ref mm_start, .ref mm_off, .ref mm_last, .ref mm_passed, .ref mm_kept, .ref mm_keptMany, .int 0, .int 0, .ref mm_history, .ref mm_names, .ref mm_worked, .int 0, .int 0, .int (-1), .ref mm_readThing, .ref mm_readHour, .ref mm_readLow, .ref mm_readHigh, .int 0, .int 0, .int 0, .ref mm_imageOff, .ref mm_imageLast, .ref mm_imagePassed, .ref mm_imageKept, .ref mm_imageMany, .ref mm_imageHistory])), (mm_number, .inl (k_mm_number, 10, .inl (fun _ => 0))), (mm_off, .inl (k_mm_off, 20, .inl (fun _ => 0))), (mm_last, .inl (k_mm_last, 10, .inl (fun _ => 0))), (mm_passed, .inl (k_mm_passed, 10, .inl (fun _ => 0))), (mm_keptMany, .inl (k_mm_keptMany, 10, .inl (fun _ => 0))), (xx, .inr (10, [.ref rr, .ref ta, .ref tb, .ref pa, .ref pb, .ref cn, .ref ci, .int 0, .ref cp, .ref ct, .ref hs, .ref rd, .ref wy, .ref ea, .ref eb])), (cp, .inr (0, [.ref pa, .int 0, .int 0, .ref cp_last, .ref cp_passed, .ref cp_keptCount, .int 0, .int 0, .int 0, .int 0, .ref cp_off, .ref cp_since, .ref cp_kept, .ref cp_sorted])), (cp_off, .inl (k_cp_off, 10, .inl x_3)), (cp_since, .inl (k_cp_since, 10, .inl x_4)), (cp_last, .inl (k_cp_last, 5, .inl x_5)), (cp_passed, .inl (k_cp_passed, 5, .inl x_6)), (cp_keptCount, .inl (k_cp_keptCount, 5, .inl x_7)), (pa, .inr (3, [.ref ta, .ref pa_first, .ref pa_gain, .ref pa_custom, .ref pa_ruled, .int 0, .ref pa_deedHour, .ref pa_deedPerson, .ref pa_deedClock])), (pa_first, .inl (k_pa_first, 10, .inl (fun _ => 0))), (rd, .inr (5, [.int 0, .int (-1), .ref rd_slot, .ref rd_hour, .ref rd_low, .ref rd_high, .ref rd_byHour]))] H := hP
  have hD : va_D A [(mm, .inr (11, [.int 0, .ref mm_tape, .int 0, .ref mm_number, .ref mm_clockName, .ref mm_clockOff, .ref mm_clockGain, .ref mm_clockRough, .ref mm_personName, .ref mm_personOff, .ref mm_personGain, .ref mm_personRough, .ref mm_custom, .ref mm_customA, .ref mm_customB, .ref mm_ruleFrom, .ref mm_ruleTo, .ref mm_roundOf, .ref mm_roundAt, .ref mm_roundHour, .ref mm_gunAt, .ref mm_gunHour, .ref mm_knotSort, .ref mm_knotValue, .int 0, .int 0, .int 0, .int 0, .int 0, .int 0, .int 0, .int 0, .int 0, .int (-1), .int 0, .int 0, .int 0, .int 0, .int 0, .int 0, .int 0, .int 0, .int 0, .int 0, .int 0, .int 0, .ref mm_start, .ref mm_off, .ref mm_last, .ref mm_passed, .ref mm_kept, .ref mm_keptMany, .int 0, .int 0, .ref mm_history, .ref mm_names, .ref mm_worked, .int 0, .int 0, .int (-1), .ref mm_readThing, .ref mm_readHour, .ref mm_readLow, .ref mm_readHigh, .int 0, .int 0, .int 0, .ref mm_imageOff, .ref mm_imageLast, .ref mm_imagePassed, .ref mm_imageKept, .ref mm_imageMany, .ref mm_imageHistory])), (mm_number, .inl (k_mm_number, 10, .inl (fun _ => 0))), (mm_off, .inl (k_mm_off, 20, .inl (fun _ => 0))), (mm_last, .inl (k_mm_last, 10, .inl (fun _ => 0))), (mm_passed, .inl (k_mm_passed, 10, .inl (fun _ => 0))), (mm_keptMany, .inl (k_mm_keptMany, 10, .inl (fun _ => 0))), (xx, .inr (10, [.ref rr, .ref ta, .ref tb, .ref pa, .ref pb, .ref cn, .ref ci, .int 0, .ref cp, .ref ct, .ref hs, .ref rd, .ref wy, .ref ea, .ref eb])), (cp, .inr (0, [.ref pa, .int 0, .int 0, .ref cp_last, .ref cp_passed, .ref cp_keptCount, .int 0, .int 0, .int 0, .int 0, .ref cp_off, .ref cp_since, .ref cp_kept, .ref cp_sorted])), (cp_off, .inl (k_cp_off, 10, .inl x_3)), (cp_since, .inl (k_cp_since, 10, .inl x_4)), (cp_last, .inl (k_cp_last, 5, .inl x_5)), (cp_passed, .inl (k_cp_passed, 5, .inl x_6)), (cp_keptCount, .inl (k_cp_keptCount, 5, .inl x_7)), (pa, .inr (3, [.ref ta, .ref pa_first, .ref pa_gain, .ref pa_custom, .ref pa_ruled, .int 0, .ref pa_deedHour, .ref pa_deedPerson, .ref pa_deedClock])), (pa_first, .inl (k_pa_first, 10, .inl (fun _ => 0))), (rd, .inr (5, [.int 0, .int (-1), .ref rd_slot, .ref rd_hour, .ref rd_low, .ref rd_high, .ref rd_byHour]))] := hD
  clear hPc hDc hKc hFc hP1 hD1 hk1 hz1 ht hvm
  have hw : r_2 = -1 := hw
  subst r_2
  refine lv_aload_n hx hb dL_law_1049 rfl (lv_at hl 2 rfl) ?_
  have hPc := hP.sub (ws' := [(mm, .inr (11, [.int 0, .ref mm_tape, .int 0, .ref mm_number, .ref mm_clockName, .ref mm_clockOff, .ref mm_clockGain, .ref mm_clockRough, .ref mm_personName, .ref mm_personOff, .ref mm_personGain, .ref mm_personRough, .ref mm_custom, .ref mm_customA, .ref mm_customB, .ref mm_ruleFrom, .ref mm_ruleTo, .ref mm_roundOf, .ref mm_roundAt, .ref mm_roundHour, .ref mm_gunAt, .ref mm_gunHour, .ref mm_knotSort, .ref mm_knotValue, .int 0, .int 0, .int 0, .int 0, .int 0, .int 0, .int 0, .int 0, .int 0, .int (-1), .int 0, .int 0, .int 0, .int 0, .int 0, .int 0, .int 0, .int 0, .int 0, .int 0, .int 0, .int 0, .ref mm_start, .ref mm_off, .ref mm_last, .ref mm_passed, .ref mm_kept, .ref mm_keptMany, .int 0, .int 0, .ref mm_history, .ref mm_names, .ref mm_worked, .int 0, .int 0, .int (-1), .ref mm_readThing, .ref mm_readHour, .ref mm_readLow, .ref mm_readHigh, .int 0, .int 0, .int 0, .ref mm_imageOff, .ref mm_imageLast, .ref mm_imagePassed, .ref mm_imageKept, .ref mm_imageMany, .ref mm_imageHistory])), (mm_number, .inl (k_mm_number, 10, .inl (fun _ => 0))), (mm_off, .inl (k_mm_off, 20, .inl (fun _ => 0))), (mm_last, .inl (k_mm_last, 10, .inl (fun _ => 0))), (mm_passed, .inl (k_mm_passed, 10, .inl (fun _ => 0))), (mm_keptMany, .inl (k_mm_keptMany, 10, .inl (fun _ => 0)))]) [0, 1, 2, 3, 4, 5] rfl
  have hDc := hD.sub (ws' := [(mm, .inr (11, [.int 0, .ref mm_tape, .int 0, .ref mm_number, .ref mm_clockName, .ref mm_clockOff, .ref mm_clockGain, .ref mm_clockRough, .ref mm_personName, .ref mm_personOff, .ref mm_personGain, .ref mm_personRough, .ref mm_custom, .ref mm_customA, .ref mm_customB, .ref mm_ruleFrom, .ref mm_ruleTo, .ref mm_roundOf, .ref mm_roundAt, .ref mm_roundHour, .ref mm_gunAt, .ref mm_gunHour, .ref mm_knotSort, .ref mm_knotValue, .int 0, .int 0, .int 0, .int 0, .int 0, .int 0, .int 0, .int 0, .int 0, .int (-1), .int 0, .int 0, .int 0, .int 0, .int 0, .int 0, .int 0, .int 0, .int 0, .int 0, .int 0, .int 0, .ref mm_start, .ref mm_off, .ref mm_last, .ref mm_passed, .ref mm_kept, .ref mm_keptMany, .int 0, .int 0, .ref mm_history, .ref mm_names, .ref mm_worked, .int 0, .int 0, .int (-1), .ref mm_readThing, .ref mm_readHour, .ref mm_readLow, .ref mm_readHigh, .int 0, .int 0, .int 0, .ref mm_imageOff, .ref mm_imageLast, .ref mm_imagePassed, .ref mm_imageKept, .ref mm_imageMany, .ref mm_imageHistory])), (mm_number, .inl (k_mm_number, 10, .inl (fun _ => 0))), (mm_off, .inl (k_mm_off, 20, .inl (fun _ => 0))), (mm_last, .inl (k_mm_last, 10, .inl (fun _ => 0))), (mm_passed, .inl (k_mm_passed, 10, .inl (fun _ => 0))), (mm_keptMany, .inl (k_mm_keptMany, 10, .inl (fun _ => 0)))]) [0, 1, 2, 3, 4, 5] (by decide) rfl
  have hKc := hK.sub (tys' := [(k_mm_number, .int), (k_mm_off, .int), (k_mm_last, .int), (k_mm_passed, .int), (k_mm_keptMany, .int)]) [6, 7, 8, 9, 10] rfl
  have hFc := va_free (wc := [(mm, .inr (11, [.int 0, .ref mm_tape, .int 0, .ref mm_number, .ref mm_clockName, .ref mm_clockOff, .ref mm_clockGain, .ref mm_clockRough, .ref mm_personName, .ref mm_personOff, .ref mm_personGain, .ref mm_personRough, .ref mm_custom, .ref mm_customA, .ref mm_customB, .ref mm_ruleFrom, .ref mm_ruleTo, .ref mm_roundOf, .ref mm_roundAt, .ref mm_roundHour, .ref mm_gunAt, .ref mm_gunHour, .ref mm_knotSort, .ref mm_knotValue, .int 0, .int 0, .int 0, .int 0, .int 0, .int 0, .int 0, .int 0, .int 0, .int (-1), .int 0, .int 0, .int 0, .int 0, .int 0, .int 0, .int 0, .int 0, .int 0, .int 0, .int 0, .int 0, .ref mm_start, .ref mm_off, .ref mm_last, .ref mm_passed, .ref mm_kept, .ref mm_keptMany, .int 0, .int 0, .ref mm_history, .ref mm_names, .ref mm_worked, .int 0, .int 0, .int (-1), .ref mm_readThing, .ref mm_readHour, .ref mm_readLow, .ref mm_readHigh, .int 0, .int 0, .int 0, .ref mm_imageOff, .ref mm_imageLast, .ref mm_imagePassed, .ref mm_imageKept, .ref mm_imageMany, .ref mm_imageHistory])), (mm_number, .inl (k_mm_number, 10, .inl (fun _ => 0))), (mm_off, .inl (k_mm_off, 20, .inl (fun _ => 0))), (mm_last, .inl (k_mm_last, 10, .inl (fun _ => 0))), (mm_passed, .inl (k_mm_passed, 10, .inl (fun _ => 0))), (mm_keptMany, .inl (k_mm_keptMany, 10, .inl (fun _ => 0)))]) hD hS hA [0, 1, 2, 3, 4, 5] rfl
  have := (by decide : (0 : Int32).toInt = 0)
  have := (by decide : (0 : Int32).toInt = 0)
  have := (by decide : (0 : Int32).toInt = 0)
  have := (by decide : (0 : Int32).toInt = 0)
  have := (by decide : (0 : Int32).toInt = 0)
  have := (by decide : (0 : Int32).toInt = 0)
  have := (by decide : (0 : Int32).toInt = 0)
  have := (by decide : (0 : Int32).toInt = 0)
  have := (by decide : (0 : Int32).toInt = 0)
  have := (by decide : (0 : Int32).toInt = 0)
  have := (by decide : (0 : Int32).toInt = 0)
  have := (by decide : ((-1) : Int32).toInt = -1)
  have := (by decide : (0 : Int32).toInt = 0)
  have := (by decide : (0 : Int32).toInt = 0)
  have := (by decide : (0 : Int32).toInt = 0)
  have := (by decide : (0 : Int32).toInt = 0)
  have := (by decide : (0 : Int32).toInt = 0)
  have := (by decide : (0 : Int32).toInt = 0)
  have := (by decide : (0 : Int32).toInt = 0)
  have := (by decide : (0 : Int32).toInt = 0)
  have := (by decide : (0 : Int32).toInt = 0)
  have := (by decide : (0 : Int32).toInt = 0)
  have := (by decide : (0 : Int32).toInt = 0)
  have := (by decide : (0 : Int32).toInt = 0)
  have := (by decide : (0 : Int32).toInt = 0)
  have := (by decide : (0 : Int32).toInt = 0)
  have := (by decide : (0 : Int32).toInt = 0)
  have := (by decide : (0 : Int32).toInt = 0)
  have := (by decide : (0 : Int32).toInt = 0)
  have := (by decide : (0 : Int32).toInt = 0)
  refine va_calli (va_runV (As := []) (rest := [.int (-1)]) ⟨hx, hb, hml, hown, hT⟩ (c_X11_judged l dC dI H.size mm (0 : Int32) mm_tape (0 : Int32) mm_number mm_clockName mm_clockOff mm_clockGain mm_clockRough mm_personName mm_personOff mm_personGain mm_personRough mm_custom mm_customA mm_customB mm_ruleFrom mm_ruleTo mm_roundOf mm_roundAt mm_roundHour mm_gunAt mm_gunHour mm_knotSort mm_knotValue (0 : Int32) (0 : Int32) (0 : Int32) (0 : Int32) (0 : Int32) (0 : Int32) (0 : Int32) (0 : Int32) (0 : Int32) ((-1) : Int32) (0 : Int32) (0 : Int32) (0 : Int32) (0 : Int32) (0 : Int32) (0 : Int32) (0 : Int32) (0 : Int32) (0 : Int32) (0 : Int32) (0 : Int32) (0 : Int32) mm_start mm_off mm_last mm_passed mm_kept mm_keptMany (0 : Int32) (0 : Int32) mm_history mm_names mm_worked (0 : Int32) mm_readThing mm_readHour mm_readLow mm_readHigh (0 : Int32) (0 : Int32) (0 : Int32) mm_imageOff mm_imageLast mm_imagePassed mm_imageKept mm_imageMany mm_imageHistory k_mm_number (fun _ => 0) k_mm_off (fun _ => 0) k_mm_last (fun _ => 0) k_mm_passed (fun _ => 0) k_mm_keptMany (fun _ => 0) (fun _ => rfl)) (cwV 0 hT (gwV mw_8_106 mw_8_107 mw_8_108 mw_1_16 mw_8_109) rfl rfl rfl (by decide +kernel) ⟨Nat.le_of_ble_eq_true rfl, Nat.le_of_ble_eq_true rfl⟩) ⟨fun a U g mk q => by obtain ⟨q0, q1, qP, qK, qD⟩ := q; exact ⟨q0, q1, qP, va_K.moved (u := U) (U := U.calling g mk a) (Vm.Alike.refl U.vm) qK, qD⟩, va_recv hK hP (ci := 11) (q0 := 0) rfl rfl, fun U hU hW => ⟨rfl, by rw [hU], by rw [hU]; exact hPc, va_K.moved hW.alike hKc, hDc.weaken (fun _ _ _ _ => trivial)⟩⟩ rfl rfl hl.1 rfl (lv_room (Nat.le_of_ble_eq_true rfl)) dL_law_1050 ⟨Nat.le_of_ble_eq_true rfl, Nat.le_of_ble_eq_true rfl⟩) hS (fun q _ h => hFc q h) hFc (fun r_9 u t H1 locs ht hvm hw hB hz1 hk1 hS => ?_)
  obtain ⟨hP1, hD1⟩ := hB
  rw [ht] at hP1
  obtain ⟨hP, hD⟩ := va_join (wr := [(xx, .inr (10, [.ref rr, .ref ta, .ref tb, .ref pa, .ref pb, .ref cn, .ref ci, .int 0, .ref cp, .ref ct, .ref hs, .ref rd, .ref wy, .ref ea, .ref eb])), (cp, .inr (0, [.ref pa, .int 0, .int 0, .ref cp_last, .ref cp_passed, .ref cp_keptCount, .int 0, .int 0, .int 0, .int 0, .ref cp_off, .ref cp_since, .ref cp_kept, .ref cp_sorted])), (cp_off, .inl (k_cp_off, 10, .inl x_3)), (cp_since, .inl (k_cp_since, 10, .inl x_4)), (cp_last, .inl (k_cp_last, 5, .inl x_5)), (cp_passed, .inl (k_cp_passed, 5, .inl x_6)), (cp_keptCount, .inl (k_cp_keptCount, 5, .inl x_7)), (pa, .inr (3, [.ref ta, .ref pa_first, .ref pa_gain, .ref pa_custom, .ref pa_ruled, .int 0, .ref pa_deedHour, .ref pa_deedPerson, .ref pa_deedClock])), (pa_first, .inl (k_pa_first, 10, .inl (fun _ => 0))), (rd, .inr (5, [.int 0, .int (-1), .ref rd_slot, .ref rd_hour, .ref rd_low, .ref rd_high, .ref rd_byHour]))]) (w1 := []) hP hD [0, 1, 2, 3, 4, 5] [6, 7, 8, 9, 10, 11, 12, 13, 14, 15] rfl rfl (by decide) (by decide) hk1 hFc hP1 hD1
  generalize H1 = H at hP hS ⊢
  have hP : va_P (dC, dI) vwCl [(xx, .inr (10, [.ref rr, .ref ta, .ref tb, .ref pa, .ref pb, .ref cn, .ref ci, .int 0, .ref cp, .ref ct, .ref hs, .ref rd, .ref wy, .ref ea, .ref eb])), (cp, .inr (0, [.ref pa, .int 0, .int 0, .ref cp_last, .ref cp_passed, .ref cp_keptCount, .int 0, .int 0, .int 0, .int 0, .ref cp_off, .ref cp_since, .ref cp_kept, .ref cp_sorted])), (cp_off, .inl (k_cp_off, 10, .inl x_3)), (cp_since, .inl (k_cp_since, 10, .inl x_4)), (cp_last, .inl (k_cp_last, 5, .inl x_5)), (cp_passed, .inl (k_cp_passed, 5, .inl x_6)), (cp_keptCount, .inl (k_cp_keptCount, 5, .inl x_7)), (pa, .inr (3, [.ref ta, .ref pa_first, .ref pa_gain, .ref pa_custom, .ref pa_ruled, .int 0, .ref pa_deedHour, .ref pa_deedPerson, .ref pa_deedClock])), (pa_first, .inl (k_pa_first, 10, .inl (fun _ => 0))), (rd, .inr (5, [.int 0, .int (-1), .ref rd_slot, .ref rd_hour, .ref rd_low, .ref rd_high, .ref rd_byHour]))] H := hP
  have hD : va_D A [(xx, .inr (10, [.ref rr, .ref ta, .ref tb, .ref pa, .ref pb, .ref cn, .ref ci, .int 0, .ref cp, .ref ct, .ref hs, .ref rd, .ref wy, .ref ea, .ref eb])), (cp, .inr (0, [.ref pa, .int 0, .int 0, .ref cp_last, .ref cp_passed, .ref cp_keptCount, .int 0, .int 0, .int 0, .int 0, .ref cp_off, .ref cp_since, .ref cp_kept, .ref cp_sorted])), (cp_off, .inl (k_cp_off, 10, .inl x_3)), (cp_since, .inl (k_cp_since, 10, .inl x_4)), (cp_last, .inl (k_cp_last, 5, .inl x_5)), (cp_passed, .inl (k_cp_passed, 5, .inl x_6)), (cp_keptCount, .inl (k_cp_keptCount, 5, .inl x_7)), (pa, .inr (3, [.ref ta, .ref pa_first, .ref pa_gain, .ref pa_custom, .ref pa_ruled, .int 0, .ref pa_deedHour, .ref pa_deedPerson, .ref pa_deedClock])), (pa_first, .inl (k_pa_first, 10, .inl (fun _ => 0))), (rd, .inr (5, [.int 0, .int (-1), .ref rd_slot, .ref rd_hour, .ref rd_low, .ref rd_high, .ref rd_byHour]))] := hD
  clear hPc hDc hKc hFc hP1 hD1 hk1 hz1 ht hvm
  have hw : r_9 = -1 := hw
  subst r_9
  refine lv_icmp_eq (tgt := 1482) hx hb dL_law_1053 (by decide) (fun c_10 => ?_) (fun c_10 => absurd c_10 (by decide))
  refine lv_iinc (v := 7) (lv' := [(4, .int 7), (3, .ref oo), (2, .ref mm), (1, .ref xx), (0, .ref b)]) hx hb dL_law_1482 hl (k := 0) rfl (by decide) (by decide) rfl (fun ls hl => ?_)
  refine lv_goto (tgt := 23) hx hb dL_law_1485 (by decide) ?_
  refine lv_iload hx hb dL_law_23 (lv_at hl 0 rfl) ?_
  refine lv_aload_n hx hb dL_law_25 rfl (lv_at hl 4 rfl) ?_
  refine va_slen hx hb hX hbl hbA hS dL_law_26 ?_
  refine lv_topi (fun z_11 ez_11 => ?_)
  obtain rfl : z_11 = 7 := ez_11.trans (by decide)
  refine lv_bipush (v := 7) hx hb dL_law_27 (by decide) ?_
  refine lv_isub hx hb dL_law_29 ?_
  refine lv_topi (fun z_12 ez_12 => ?_)
  obtain rfl : z_12 = 0 := ez_12.trans (by decide)
  refine lv_icmp_gt (tgt := 1488) hx hb dL_law_30 (by decide) (fun c_13 => ?_) (fun c_13 => absurd c_13 (by decide))
  refine lv_iconst (v := 1) hx hb dL_law_1488 (by decide) ?_
  refine va_forget (fun q hq => hAo _ (hS.2.2 q hq)) ?_
  refine W.widen (k := 600002) (n := 7302232) (Nat.le_of_ble_eq_true rfl) (Nat.le_of_ble_eq_true rfl) ?_
  exact lw_ret hx hb hr hlocks dL_law_1489
