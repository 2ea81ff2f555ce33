theorem dL_law_412 : decode cL_law 412 = .ok (.aload_n 1, 1) := by decide +kernel
theorem dL_law_413 : decode cL_law 413 = .ok (.aload_n 0, 1) := by decide +kernel
theorem dL_law_414 : decode cL_law 414 = .ok (.iload 4, 2) := by decide +kernel
theorem dL_law_416 : decode cL_law 416 = .ok (.iconst 1, 1) := by decide +kernel
theorem dL_law_417 : decode cL_law 417 = .ok (.iadd, 1) := by decide +kernel
theorem dL_law_418 : decode cL_law 418 = .ok (.iaload, 1) := by decide +kernel
theorem dL_law_419 : decode cL_law 419 = .ok (.aload_n 0, 1) := by decide +kernel
theorem dL_law_420 : decode cL_law 420 = .ok (.iload 4, 2) := by decide +kernel
theorem dL_law_422 : decode cL_law 422 = .ok (.iconst 2, 1) := by decide +kernel
theorem dL_law_423 : decode cL_law 423 = .ok (.iadd, 1) := by decide +kernel
theorem dL_law_424 : decode cL_law 424 = .ok (.iaload, 1) := by decide +kernel
theorem dL_law_425 : decode cL_law 425 = .ok (.invokevirtual 49, 3) := by decide +kernel
theorem dL_law_428 : decode cL_law 428 = .ok (.aload_n 2, 1) := by decide +kernel
theorem dL_law_429 : decode cL_law 429 = .ok (.aload_n 0, 1) := by decide +kernel
theorem dL_law_430 : decode cL_law 430 = .ok (.iload 4, 2) := by decide +kernel
theorem dL_law_432 : decode cL_law 432 = .ok (.iconst 1, 1) := by decide +kernel
theorem dL_law_433 : decode cL_law 433 = .ok (.iadd, 1) := by decide +kernel
theorem dL_law_434 : decode cL_law 434 = .ok (.iaload, 1) := by decide +kernel
theorem dL_law_435 : decode cL_law 435 = .ok (.aload_n 0, 1) := by decide +kernel
theorem dL_law_436 : decode cL_law 436 = .ok (.iload 4, 2) := by decide +kernel
theorem dL_law_438 : decode cL_law 438 = .ok (.iconst 2, 1) := by decide +kernel
theorem dL_law_439 : decode cL_law 439 = .ok (.iadd, 1) := by decide +kernel
theorem dL_law_440 : decode cL_law 440 = .ok (.iaload, 1) := by decide +kernel
theorem dL_law_441 : decode cL_law 441 = .ok (.invokevirtual 52, 3) := by decide +kernel
theorem dL_law_444 : decode cL_law 444 = .ok (.if_icmp .eq 1038, 3) := by decide +kernel
theorem dL_law_449 : decode cL_law 449 = .ok (.aload_n 1, 1) := by decide +kernel
theorem dL_law_450 : decode cL_law 450 = .ok (.aload_n 0, 1) := by decide +kernel
theorem dL_law_451 : decode cL_law 451 = .ok (.iload 4, 2) := by decide +kernel
theorem dL_law_453 : decode cL_law 453 = .ok (.iconst 1, 1) := by decide +kernel
theorem dL_law_454 : decode cL_law 454 = .ok (.iadd, 1) := by decide +kernel
theorem dL_law_455 : decode cL_law 455 = .ok (.iaload, 1) := by decide +kernel
theorem dL_law_456 : decode cL_law 456 = .ok (.aload_n 0, 1) := by decide +kernel
theorem dL_law_457 : decode cL_law 457 = .ok (.iload 4, 2) := by decide +kernel
theorem dL_law_459 : decode cL_law 459 = .ok (.iconst 2, 1) := by decide +kernel
theorem dL_law_460 : decode cL_law 460 = .ok (.iadd, 1) := by decide +kernel
theorem dL_law_461 : decode cL_law 461 = .ok (.iaload, 1) := by decide +kernel
theorem dL_law_462 : decode cL_law 462 = .ok (.invokevirtual 53, 3) := by decide +kernel
theorem dL_law_465 : decode cL_law 465 = .ok (.aload_n 2, 1) := by decide +kernel
theorem dL_law_466 : decode cL_law 466 = .ok (.aload_n 0, 1) := by decide +kernel
theorem dL_law_467 : decode cL_law 467 = .ok (.iload 4, 2) := by decide +kernel
theorem dL_law_469 : decode cL_law 469 = .ok (.iconst 1, 1) := by decide +kernel
theorem dL_law_470 : decode cL_law 470 = .ok (.iadd, 1) := by decide +kernel
theorem dL_law_471 : decode cL_law 471 = .ok (.iaload, 1) := by decide +kernel
theorem dL_law_472 : decode cL_law 472 = .ok (.aload_n 0, 1) := by decide +kernel
theorem dL_law_473 : decode cL_law 473 = .ok (.iload 4, 2) := by decide +kernel
theorem dL_law_475 : decode cL_law 475 = .ok (.iconst 2, 1) := by decide +kernel
theorem dL_law_476 : decode cL_law 476 = .ok (.iadd, 1) := by decide +kernel
theorem dL_law_477 : decode cL_law 477 = .ok (.iaload, 1) := by decide +kernel
theorem dL_law_478 : decode cL_law 478 = .ok (.invokevirtual 56, 3) := by decide +kernel
theorem dL_law_481 : decode cL_law 481 = .ok (.if_icmp .eq 1001, 3) := by decide +kernel
theorem dL_law_486 : decode cL_law 486 = .ok (.aload_n 1, 1) := by decide +kernel
theorem dL_law_487 : decode cL_law 487 = .ok (.aload_n 0, 1) := by decide +kernel
theorem dL_law_488 : decode cL_law 488 = .ok (.iload 4, 2) := by decide +kernel
theorem dL_law_490 : decode cL_law 490 = .ok (.iconst 1, 1) := by decide +kernel
theorem dL_law_491 : decode cL_law 491 = .ok (.iadd, 1) := by decide +kernel
theorem dL_law_492 : decode cL_law 492 = .ok (.iaload, 1) := by decide +kernel
theorem dL_law_493 : decode cL_law 493 = .ok (.invokevirtual 57, 3) := by decide +kernel
theorem dL_law_496 : decode cL_law 496 = .ok (.aload_n 2, 1) := by decide +kernel
theorem dL_law_497 : decode cL_law 497 = .ok (.aload_n 0, 1) := by decide +kernel
theorem dL_law_498 : decode cL_law 498 = .ok (.iload 4, 2) := by decide +kernel
theorem dL_law_500 : decode cL_law 500 = .ok (.iconst 1, 1) := by decide +kernel
theorem dL_law_501 : decode cL_law 501 = .ok (.iadd, 1) := by decide +kernel
theorem dL_law_502 : decode cL_law 502 = .ok (.iaload, 1) := by decide +kernel
theorem dL_law_503 : decode cL_law 503 = .ok (.invokevirtual 60, 3) := by decide +kernel
theorem dL_law_506 : decode cL_law 506 = .ok (.if_icmp .eq 976, 3) := by decide +kernel
set_option maxHeartbeats 4000000 in
set_option maxRecDepth 100000 in
theorem law_op_5 {p : Program} {l : Launch} {e : Env} {s : State} {m : MethodId} {below : List Frame} {meth : Method} {c : Code} {dC : Nat → ClassId} {dI : Nat → Nat → Nat} {b : Nat} {xs : Nat → Int32} {A : Nat → Prop} (C0 : lw_At p s m meth c b 7 xs) (hA : ∀ q, s.heap.size ≤ q → A q) (hbA : ¬ A b) (hAo : ∀ q, A q → s.heap.size ≤ q) {xx : Nat} {rr : Nat} {ta : Nat} {tb : Nat} {pa : Nat} {pb : Nat} {cn : Nat} {ci : Nat} {cp : Nat} {ct : Nat} {hs : Nat} {rd : Nat} {wy : Nat} {ea : Nat} {eb : Nat} {ta_name : Nat} {ta_first : Nat} {ta_gain : Nat} {ta_rough : Nat} {ta_custom : Nat} {ta_part : Nat} {ta_whole : Nat} {ta_roundPerson : Nat} {ta_roundClock : Nat} {ta_roundHour : Nat} {ta_gunClock : Nat} {ta_gunHour : Nat} {tau : Nat} {mm : Nat} {mm_tape : Nat} {mm_number : Nat} {mm_clockName : Nat} {mm_clockOff : Nat} {mm_clockGain : Nat} {mm_clockRough : Nat} {mm_personName : Nat} {mm_personOff : Nat} {mm_personGain : Nat} {mm_personRough : Nat} {mm_custom : Nat} {mm_customA : Nat} {mm_customB : Nat} {mm_ruleFrom : Nat} {mm_ruleTo : Nat} {mm_roundOf : Nat} {mm_roundAt : Nat} {mm_roundHour : Nat} {mm_gunAt : Nat} {mm_gunHour : Nat} {mm_knotSort : Nat} {mm_knotValue : Nat} {mm_start : Nat} {mm_off : Nat} {mm_last : Nat} {mm_passed : Nat} {mm_kept : Nat} {mm_keptMany : Nat} {mm_history : Nat} {mm_names : Nat} {mm_worked : Nat} {mm_readThing : Nat} {mm_readHour : Nat} {mm_readLow : Nat} {mm_readHigh : Nat} {mm_imageOff : Nat} {mm_imageLast : Nat} {mm_imagePassed : Nat} {mm_imageKept : Nat} {mm_imageMany : Nat} {mm_imageHistory : Nat} {k_mm_number : ClassId} {oo : Nat} {H : Heap} {locs : List Loc} {ls : Array Slot} (hK : va_K (dC, dI) vwCl [(k_mm_number, .int)] s) (hP : va_P (dC, dI) vwCl [(xx, .inr (10, [.ref rr, .ref ta, .ref tb, .ref pa, .ref pb, .ref cn, .ref ci, .int 0, .ref cp, .ref ct, .ref hs, .ref rd, .ref wy, .ref ea, .ref eb])), (ta, .inr (8, [.int 0, .int 0, .int 0, .int 0, .int 0, .ref ta_name, .ref ta_first, .ref ta_gain, .ref ta_rough, .ref ta_custom, .ref ta_part, .ref ta_whole, .ref ta_roundPerson, .ref ta_roundClock, .ref ta_roundHour, .ref ta_gunClock, .ref ta_gunHour, .ref tau])), (mm, .inr (11, [.int 0, .ref mm_tape, .int 0, .ref mm_number, .ref mm_clockName, .ref mm_clockOff, .ref mm_clockGain, .ref mm_clockRough, .ref mm_personName, .ref mm_personOff, .ref mm_personGain, .ref mm_personRough, .ref mm_custom, .ref mm_customA, .ref mm_customB, .ref mm_ruleFrom, .ref mm_ruleTo, .ref mm_roundOf, .ref mm_roundAt, .ref mm_roundHour, .ref mm_gunAt, .ref mm_gunHour, .ref mm_knotSort, .ref mm_knotValue, .int 0, .int 0, .int 0, .int 0, .int 0, .int 0, .int 0, .int 0, .int 0, .int (-1), .int 0, .int 0, .int 0, .int 0, .int 0, .int 0, .int 0, .int 0, .int 0, .int 0, .int 0, .int 0, .ref mm_start, .ref mm_off, .ref mm_last, .ref mm_passed, .ref mm_kept, .ref mm_keptMany, .int 0, .int 0, .ref mm_history, .ref mm_names, .ref mm_worked, .int 0, .int 0, .int (-1), .ref mm_readThing, .ref mm_readHour, .ref mm_readLow, .ref mm_readHigh, .int 0, .int 0, .int 0, .ref mm_imageOff, .ref mm_imageLast, .ref mm_imagePassed, .ref mm_imageKept, .ref mm_imageMany, .ref mm_imageHistory])), (mm_number, .inl (k_mm_number, 10, .inl (fun _ => 0)))] H) (hD : va_D A [(xx, .inr (10, [.ref rr, .ref ta, .ref tb, .ref pa, .ref pb, .ref cn, .ref ci, .int 0, .ref cp, .ref ct, .ref hs, .ref rd, .ref wy, .ref ea, .ref eb])), (ta, .inr (8, [.int 0, .int 0, .int 0, .int 0, .int 0, .ref ta_name, .ref ta_first, .ref ta_gain, .ref ta_rough, .ref ta_custom, .ref ta_part, .ref ta_whole, .ref ta_roundPerson, .ref ta_roundClock, .ref ta_roundHour, .ref ta_gunClock, .ref ta_gunHour, .ref tau])), (mm, .inr (11, [.int 0, .ref mm_tape, .int 0, .ref mm_number, .ref mm_clockName, .ref mm_clockOff, .ref mm_clockGain, .ref mm_clockRough, .ref mm_personName, .ref mm_personOff, .ref mm_personGain, .ref mm_personRough, .ref mm_custom, .ref mm_customA, .ref mm_customB, .ref mm_ruleFrom, .ref mm_ruleTo, .ref mm_roundOf, .ref mm_roundAt, .ref mm_roundHour, .ref mm_gunAt, .ref mm_gunHour, .ref mm_knotSort, .ref mm_knotValue, .int 0, .int 0, .int 0, .int 0, .int 0, .int 0, .int 0, .int 0, .int 0, .int (-1), .int 0, .int 0, .int 0, .int 0, .int 0, .int 0, .int 0, .int 0, .int 0, .int 0, .int 0, .int 0, .ref mm_start, .ref mm_off, .ref mm_last, .ref mm_passed, .ref mm_kept, .ref mm_keptMany, .int 0, .int 0, .ref mm_history, .ref mm_names, .ref mm_worked, .int 0, .int 0, .int (-1), .ref mm_readThing, .ref mm_readHour, .ref mm_readLow, .ref mm_readHigh, .int 0, .int 0, .int 0, .ref mm_imageOff, .ref mm_imageLast, .ref mm_imagePassed, .ref mm_imageKept, .ref mm_imageMany, .ref mm_imageHistory])), (mm_number, .inl (k_mm_number, 10, .inl (fun _ => 0)))]) (hS : va_S A s.heap H locs) (hl : lv_has ls 7 [(4, .int 0), (3, .ref oo), (2, .ref mm), (1, .ref xx), (0, .ref b)]) : W p l e room_1 s m #[Value.ref b] below meth c H locs 160 67979 (lw_Z below #[Value.ref b] s) (F0 m 412 ls []) := by
  obtain ⟨hx, hb, hr, hml, hown, hts, hX, hbl, hlocks, hgv⟩ := C0
  have hT : ∀ w ∈ pw_T, w.before #[Value.ref b] s = true := fun w h => hts w (List.mem_filter.mp h).1
  have hown : s.vm.findClass RL = some m.cls := hown
  refine lv_aload_n hx hb dL_law_412 rfl (lv_at hl 3 rfl) ?_
  refine lv_aload_n hx hb dL_law_413 rfl (lv_at hl 4 rfl) ?_
  refine lv_iload hx hb dL_law_414 (lv_at hl 0 rfl) ?_
  refine lv_iconst (v := 1) hx hb dL_law_416 (by decide) ?_
  refine lv_iadd hx hb dL_law_417 ?_
  refine lv_topi (fun z_1 ez_1 => ?_)
  obtain rfl : z_1 = 1 := ez_1.trans (by decide)
  refine va_sld hx hb hX hbl hbA hS (pk_in 1 7 (by decide) (by decide) (by decide)) dL_law_418 ?_
  refine lv_topi (fun z_2 ez_2 => ?_)
  replace ez_2 : z_2 = xs 1 := ez_2
  subst z_2
  refine lv_aload_n hx hb dL_law_419 rfl (lv_at hl 4 rfl) ?_
  refine lv_iload hx hb dL_law_420 (lv_at hl 0 rfl) ?_
  refine lv_iconst (v := 2) hx hb dL_law_422 (by decide) ?_
  refine lv_iadd hx hb dL_law_423 ?_
  refine lv_topi (fun z_3 ez_3 => ?_)
  obtain rfl : z_3 = 2 := ez_3.trans (by decide)
  refine va_sld hx hb hX hbl hbA hS (pk_in 2 7 (by decide) (by decide) (by decide)) dL_law_424 ?_
  refine lv_topi (fun z_4 ez_4 => ?_)
  replace ez_4 : z_4 = xs 2 := ez_4
  subst z_4
  have hPc := hP.sub (ws' := [(xx, .inr (10, [.ref rr, .ref ta, .ref tb, .ref pa, .ref pb, .ref cn, .ref ci, .int 0, .ref cp, .ref ct, .ref hs, .ref rd, .ref wy, .ref ea, .ref eb])), (ta, .inr (8, [.int 0, .int 0, .int 0, .int 0, .int 0, .ref ta_name, .ref ta_first, .ref ta_gain, .ref ta_rough, .ref ta_custom, .ref ta_part, .ref ta_whole, .ref ta_roundPerson, .ref ta_roundClock, .ref ta_roundHour, .ref ta_gunClock, .ref ta_gunHour, .ref tau]))]) [0, 1] rfl
  have hDc := hD.sub (ws' := [(xx, .inr (10, [.ref rr, .ref ta, .ref tb, .ref pa, .ref pb, .ref cn, .ref ci, .int 0, .ref cp, .ref ct, .ref hs, .ref rd, .ref wy, .ref ea, .ref eb])), (ta, .inr (8, [.int 0, .int 0, .int 0, .int 0, .int 0, .ref ta_name, .ref ta_first, .ref ta_gain, .ref ta_rough, .ref ta_custom, .ref ta_part, .ref ta_whole, .ref ta_roundPerson, .ref ta_roundClock, .ref ta_roundHour, .ref ta_gunClock, .ref ta_gunHour, .ref tau]))]) [0, 1] (by decide) rfl
  have hKc := hK.sub (tys' := []) [] rfl
  have hFc := va_free (wc := [(xx, .inr (10, [.ref rr, .ref ta, .ref tb, .ref pa, .ref pb, .ref cn, .ref ci, .int 0, .ref cp, .ref ct, .ref hs, .ref rd, .ref wy, .ref ea, .ref eb])), (ta, .inr (8, [.int 0, .int 0, .int 0, .int 0, .int 0, .ref ta_name, .ref ta_first, .ref ta_gain, .ref ta_rough, .ref ta_custom, .ref ta_part, .ref ta_whole, .ref ta_roundPerson, .ref ta_roundClock, .ref ta_roundHour, .ref ta_gunClock, .ref ta_gunHour, .ref tau]))]) hD hS hA [0, 1] rfl
  refine va_calli (va_runV (As := [.int (xs 1), .int (xs 2)]) (rest := []) ⟨hx, hb, hml, hown, hT⟩ (c_X10_clock l dC dI H.size xx (xs 1) (xs 2) rr ta tb pa pb cn ci (0 : Int32) cp ct hs rd wy ea eb (0 : Int32) (0 : Int32) (0 : Int32) ta_name ta_first ta_gain ta_rough ta_custom ta_part ta_whole ta_roundPerson ta_roundClock ta_roundHour ta_gunClock ta_gunHour tau ) (cwV 2 hT (gwV mw_4_36 mw_4_37 mw_4_38 mw_1_1 mw_4_39) rfl rfl rfl (by decide +kernel) ⟨Nat.le_of_ble_eq_true rfl, Nat.le_of_ble_eq_true rfl⟩) ⟨fun a U g mk q => by obtain ⟨q0, q1, qP, qK, qD⟩ := q; exact ⟨q0, q1, qP, va_K.moved (u := U) (U := U.calling g mk a) (Vm.Alike.refl U.vm) qK, qD⟩, va_recv hK hP (ci := 10) (q0 := 0) rfl rfl, fun U hU hW => ⟨rfl, by rw [hU], by rw [hU]; exact hPc, va_K.moved hW.alike hKc, hDc.weaken (fun _ _ _ _ => trivial)⟩⟩ rfl rfl hl.1 rfl (lv_room (Nat.le_of_ble_eq_true rfl)) dL_law_425 ⟨Nat.le_of_ble_eq_true rfl, Nat.le_of_ble_eq_true rfl⟩) hS (fun q _ h => hFc q h) hFc (fun r_6 u t H1 locs ht hvm hw hB hz1 hk1 hS => ?_)
  obtain ⟨hP1, hD1⟩ := hB
  rw [ht] at hP1
  obtain ⟨hP, hD⟩ := va_join (wr := [(mm, .inr (11, [.int 0, .ref mm_tape, .int 0, .ref mm_number, .ref mm_clockName, .ref mm_clockOff, .ref mm_clockGain, .ref mm_clockRough, .ref mm_personName, .ref mm_personOff, .ref mm_personGain, .ref mm_personRough, .ref mm_custom, .ref mm_customA, .ref mm_customB, .ref mm_ruleFrom, .ref mm_ruleTo, .ref mm_roundOf, .ref mm_roundAt, .ref mm_roundHour, .ref mm_gunAt, .ref mm_gunHour, .ref mm_knotSort, .ref mm_knotValue, .int 0, .int 0, .int 0, .int 0, .int 0, .int 0, .int 0, .int 0, .int 0, .int (-1), .int 0, .int 0, .int 0, .int 0, .int 0, .int 0, .int 0, .int 0, .int 0, .int 0, .int 0, .int 0, .ref mm_start, .ref mm_off, .ref mm_last, .ref mm_passed, .ref mm_kept, .ref mm_keptMany, .int 0, .int 0, .ref mm_history, .ref mm_names, .ref mm_worked, .int 0, .int 0, .int (-1), .ref mm_readThing, .ref mm_readHour, .ref mm_readLow, .ref mm_readHigh, .int 0, .int 0, .int 0, .ref mm_imageOff, .ref mm_imageLast, .ref mm_imagePassed, .ref mm_imageKept, .ref mm_imageMany, .ref mm_imageHistory])), (mm_number, .inl (k_mm_number, 10, .inl (fun _ => 0)))]) (w1 := [(xx, .inr (10, [.ref rr, .ref ta, .ref tb, .ref pa, .ref pb, .ref cn, .ref ci, .int 0, .ref cp, .ref ct, .ref hs, .ref rd, .ref wy, .ref ea, .ref eb])), (ta, .inr (8, [.int 0, .int 0, .int 0, .int 0, .int 0, .ref ta_name, .ref ta_first, .ref ta_gain, .ref ta_rough, .ref ta_custom, .ref ta_part, .ref ta_whole, .ref ta_roundPerson, .ref ta_roundClock, .ref ta_roundHour, .ref ta_gunClock, .ref ta_gunHour, .ref tau]))]) hP hD [0, 1] [2, 3] rfl rfl (by decide) (by decide) hk1 hFc hP1 hD1
  generalize H1 = H at hP hS ⊢
  have hP : va_P (dC, dI) vwCl [(mm, .inr (11, [.int 0, .ref mm_tape, .int 0, .ref mm_number, .ref mm_clockName, .ref mm_clockOff, .ref mm_clockGain, .ref mm_clockRough, .ref mm_personName, .ref mm_personOff, .ref mm_personGain, .ref mm_personRough, .ref mm_custom, .ref mm_customA, .ref mm_customB, .ref mm_ruleFrom, .ref mm_ruleTo, .ref mm_roundOf, .ref mm_roundAt, .ref mm_roundHour, .ref mm_gunAt, .ref mm_gunHour, .ref mm_knotSort, .ref mm_knotValue, .int 0, .int 0, .int 0, .int 0, .int 0, .int 0, .int 0, .int 0, .int 0, .int (-1), .int 0, .int 0, .int 0, .int 0, .int 0, .int 0, .int 0, .int 0, .int 0, .int 0, .int 0, .int 0, .ref mm_start, .ref mm_off, .ref mm_last, .ref mm_passed, .ref mm_kept, .ref mm_keptMany, .int 0, .int 0, .ref mm_history, .ref mm_names, .ref mm_worked, .int 0, .int 0, .int (-1), .ref mm_readThing, .ref mm_readHour, .ref mm_readLow, .ref mm_readHigh, .int 0, .int 0, .int 0, .ref mm_imageOff, .ref mm_imageLast, .ref mm_imagePassed, .ref mm_imageKept, .ref mm_imageMany, .ref mm_imageHistory])), (mm_number, .inl (k_mm_number, 10, .inl (fun _ => 0))), (xx, .inr (10, [.ref rr, .ref ta, .ref tb, .ref pa, .ref pb, .ref cn, .ref ci, .int 0, .ref cp, .ref ct, .ref hs, .ref rd, .ref wy, .ref ea, .ref eb])), (ta, .inr (8, [.int 0, .int 0, .int 0, .int 0, .int 0, .ref ta_name, .ref ta_first, .ref ta_gain, .ref ta_rough, .ref ta_custom, .ref ta_part, .ref ta_whole, .ref ta_roundPerson, .ref ta_roundClock, .ref ta_roundHour, .ref ta_gunClock, .ref ta_gunHour, .ref tau]))] H := hP
  have hD : va_D A [(mm, .inr (11, [.int 0, .ref mm_tape, .int 0, .ref mm_number, .ref mm_clockName, .ref mm_clockOff, .ref mm_clockGain, .ref mm_clockRough, .ref mm_personName, .ref mm_personOff, .ref mm_personGain, .ref mm_personRough, .ref mm_custom, .ref mm_customA, .ref mm_customB, .ref mm_ruleFrom, .ref mm_ruleTo, .ref mm_roundOf, .ref mm_roundAt, .ref mm_roundHour, .ref mm_gunAt, .ref mm_gunHour, .ref mm_knotSort, .ref mm_knotValue, .int 0, .int 0, .int 0, .int 0, .int 0, .int 0, .int 0, .int 0, .int 0, .int (-1), .int 0, .int 0, .int 0, .int 0, .int 0, .int 0, .int 0, .int 0, .int 0, .int 0, .int 0, .int 0, .ref mm_start, .ref mm_off, .ref mm_last, .ref mm_passed, .ref mm_kept, .ref mm_keptMany, .int 0, .int 0, .ref mm_history, .ref mm_names, .ref mm_worked, .int 0, .int 0, .int (-1), .ref mm_readThing, .ref mm_readHour, .ref mm_readLow, .ref mm_readHigh, .int 0, .int 0, .int 0, .ref mm_imageOff, .ref mm_imageLast, .ref mm_imagePassed, .ref mm_imageKept, .ref mm_imageMany, .ref mm_imageHistory])), (mm_number, .inl (k_mm_number, 10, .inl (fun _ => 0))), (xx, .inr (10, [.ref rr, .ref ta, .ref tb, .ref pa, .ref pb, .ref cn, .ref ci, .int 0, .ref cp, .ref ct, .ref hs, .ref rd, .ref wy, .ref ea, .ref eb])), (ta, .inr (8, [.int 0, .int 0, .int 0, .int 0, .int 0, .ref ta_name, .ref ta_first, .ref ta_gain, .ref ta_rough, .ref ta_custom, .ref ta_part, .ref ta_whole, .ref ta_roundPerson, .ref ta_roundClock, .ref ta_roundHour, .ref ta_gunClock, .ref ta_gunHour, .ref tau]))] := hD
  clear hPc hDc hKc hFc hP1 hD1 hk1 hz1 ht hvm
  have hw : r_6 = -2147483648 := hw
  subst r_6
  refine lv_aload_n hx hb dL_law_428 rfl (lv_at hl 2 rfl) ?_
  refine lv_aload_n hx hb dL_law_429 rfl (lv_at hl 4 rfl) ?_
  refine lv_iload hx hb dL_law_430 (lv_at hl 0 rfl) ?_
  refine lv_iconst (v := 1) hx hb dL_law_432 (by decide) ?_
  refine lv_iadd hx hb dL_law_433 ?_
  refine lv_topi (fun z_7 ez_7 => ?_)
  obtain rfl : z_7 = 1 := ez_7.trans (by decide)
  refine va_sld hx hb hX hbl hbA hS (pk_in 1 7 (by decide) (by decide) (by decide)) dL_law_434 ?_
  refine lv_topi (fun z_8 ez_8 => ?_)
  replace ez_8 : z_8 = xs 1 := ez_8
  subst z_8
  refine lv_aload_n hx hb dL_law_435 rfl (lv_at hl 4 rfl) ?_
  refine lv_iload hx hb dL_law_436 (lv_at hl 0 rfl) ?_
  refine lv_iconst (v := 2) hx hb dL_law_438 (by decide) ?_
  refine lv_iadd hx hb dL_law_439 ?_
  refine lv_topi (fun z_9 ez_9 => ?_)
  obtain rfl : z_9 = 2 := ez_9.trans (by decide)
  refine va_sld hx hb hX hbl hbA hS (pk_in 2 7 (by decide) (by decide) (by decide)) dL_law_440 ?_
  refine lv_topi (fun z_10 ez_10 => ?_)
  replace ez_10 : z_10 = xs 2 := ez_10
  subst z_10
  have hPc := hP.sub (ws' := [(mm, .inr (11, [.int 0, .ref mm_tape, .int 0, .ref mm_number, .ref mm_clockName, .ref mm_clockOff, .ref mm_clockGain, .ref mm_clockRough, .ref mm_personName, .ref mm_personOff, .ref mm_personGain, .ref mm_personRough, .ref mm_custom, .ref mm_customA, .ref mm_customB, .ref mm_ruleFrom, .ref mm_ruleTo, .ref mm_roundOf, .ref mm_roundAt, .ref mm_roundHour, .ref mm_gunAt, .ref mm_gunHour, .ref mm_knotSort, .ref mm_knotValue, .int 0, .int 0, .int 0, .int 0, .int 0, .int 0, .int 0, .int 0, .int 0, .int (-1), .int 0, .int 0, .int 0, .int 0, .int 0, .int 0, .int 0, .int 0, .int 0, .int 0, .int 0, .int 0, .ref mm_start, .ref mm_off, .ref mm_last, .ref mm_passed, .ref mm_kept, .ref mm_keptMany, .int 0, .int 0, .ref mm_history, .ref mm_names, .ref mm_worked, .int 0, .int 0, .int (-1), .ref mm_readThing, .ref mm_readHour, .ref mm_readLow, .ref mm_readHigh, .int 0, .int 0, .int 0, .ref mm_imageOff, .ref mm_imageLast, .ref mm_imagePassed, .ref mm_imageKept, .ref mm_imageMany, .ref mm_imageHistory])), (mm_number, .inl (k_mm_number, 10, .inl (fun _ => 0)))]) [0, 1] rfl
  have hDc := hD.sub (ws' := [(mm, .inr (11, [.int 0, .ref mm_tape, .int 0, .ref mm_number, .ref mm_clockName, .ref mm_clockOff, .ref mm_clockGain, .ref mm_clockRough, .ref mm_personName, .ref mm_personOff, .ref mm_personGain, .ref mm_personRough, .ref mm_custom, .ref mm_customA, .ref mm_customB, .ref mm_ruleFrom, .ref mm_ruleTo, .ref mm_roundOf, .ref mm_roundAt, .ref mm_roundHour, .ref mm_gunAt, .ref mm_gunHour, .ref mm_knotSort, .ref mm_knotValue, .int 0, .int 0, .int 0, .int 0, .int 0, .int 0, .int 0, .int 0, .int 0, .int (-1), .int 0, .int 0, .int 0, .int 0, .int 0, .int 0, .int 0, .int 0, .int 0, .int 0, .int 0, .int 0, .ref mm_start, .ref mm_off, .ref mm_last, .ref mm_passed, .ref mm_kept, .ref mm_keptMany, .int 0, .int 0, .ref mm_history, .ref mm_names, .ref mm_worked, .int 0, .int 0, .int (-1), .ref mm_readThing, .ref mm_readHour, .ref mm_readLow, .ref mm_readHigh, .int 0, .int 0, .int 0, .ref mm_imageOff, .ref mm_imageLast, .ref mm_imagePassed, .ref mm_imageKept, .ref mm_imageMany, .ref mm_imageHistory])), (mm_number, .inl (k_mm_number, 10, .inl (fun _ => 0)))]) [0, 1] (by decide) rfl
  have hKc := hK.sub (tys' := [(k_mm_number, .int)]) [0] rfl
  have hFc := va_free (wc := [(mm, .inr (11, [.int 0, .ref mm_tape, .int 0, .ref mm_number, .ref mm_clockName, .ref mm_clockOff, .ref mm_clockGain, .ref mm_clockRough, .ref mm_personName, .ref mm_personOff, .ref mm_personGain, .ref mm_personRough, .ref mm_custom, .ref mm_customA, .ref mm_customB, .ref mm_ruleFrom, .ref mm_ruleTo, .ref mm_roundOf, .ref mm_roundAt, .ref mm_roundHour, .ref mm_gunAt, .ref mm_gunHour, .ref mm_knotSort, .ref mm_knotValue, .int 0, .int 0, .int 0, .int 0, .int 0, .int 0, .int 0, .int 0, .int 0, .int (-1), .int 0, .int 0, .int 0, .int 0, .int 0, .int 0, .int 0, .int 0, .int 0, .int 0, .int 0, .int 0, .ref mm_start, .ref mm_off, .ref mm_last, .ref mm_passed, .ref mm_kept, .ref mm_keptMany, .int 0, .int 0, .ref mm_history, .ref mm_names, .ref mm_worked, .int 0, .int 0, .int (-1), .ref mm_readThing, .ref mm_readHour, .ref mm_readLow, .ref mm_readHigh, .int 0, .int 0, .int 0, .ref mm_imageOff, .ref mm_imageLast, .ref mm_imagePassed, .ref mm_imageKept, .ref mm_imageMany, .ref mm_imageHistory])), (mm_number, .inl (k_mm_number, 10, .inl (fun _ => 0)))]) hD hS hA [0, 1] rfl
  have := (by decide : (0 : Int32).toInt = 0)
  have := (by decide : (0 : Int32).toInt = 0)
  have := (by decide : (0 : Int32).toInt = 0)
  have := (by decide : (0 : Int32).toInt = 0)
  have := (by decide : (0 : Int32).toInt = 0)
  have := (by decide : (0 : Int32).toInt = 0)
  have := (by decide : (0 : Int32).toInt = 0)
  have := (by decide : (0 : Int32).toInt = 0)
  have := (by decide : (0 : Int32).toInt = 0)
  have := (by decide : (0 : Int32).toInt = 0)
  have := (by decide : (0 : Int32).toInt = 0)
  have := (by decide : ((-1) : Int32).toInt = -1)
  have := (by decide : (0 : Int32).toInt = 0)
  have := (by decide : (0 : Int32).toInt = 0)
  have := (by decide : (0 : Int32).toInt = 0)
  have := (by decide : (0 : Int32).toInt = 0)
  have := (by decide : (0 : Int32).toInt = 0)
  have := (by decide : (0 : Int32).toInt = 0)
  have := (by decide : (0 : Int32).toInt = 0)
  have := (by decide : (0 : Int32).toInt = 0)
  have := (by decide : (0 : Int32).toInt = 0)
  have := (by decide : (0 : Int32).toInt = 0)
  have := (by decide : (0 : Int32).toInt = 0)
  have := (by decide : (0 : Int32).toInt = 0)
  have := (by decide : (0 : Int32).toInt = 0)
  have := (by decide : (0 : Int32).toInt = 0)
  have := (by decide : (0 : Int32).toInt = 0)
  have := (by decide : (0 : Int32).toInt = 0)
  have := (by decide : ((-1) : Int32).toInt = -1)
  have := (by decide : (0 : Int32).toInt = 0)
  have := (by decide : (0 : Int32).toInt = 0)
  have := (by decide : (0 : Int32).toInt = 0)
  refine va_calli (va_runV (As := [.int (xs 1), .int (xs 2)]) (rest := [.int (-2147483648)]) ⟨hx, hb, hml, hown, hT⟩ (c_X11_clock l dC dI H.size mm (xs 1) (xs 2) (0 : Int32) mm_tape (0 : Int32) mm_number mm_clockName mm_clockOff mm_clockGain mm_clockRough mm_personName mm_personOff mm_personGain mm_personRough mm_custom mm_customA mm_customB mm_ruleFrom mm_ruleTo mm_roundOf mm_roundAt mm_roundHour mm_gunAt mm_gunHour mm_knotSort mm_knotValue (0 : Int32) (0 : Int32) (0 : Int32) (0 : Int32) (0 : Int32) (0 : Int32) (0 : Int32) (0 : Int32) (0 : Int32) ((-1) : Int32) (0 : Int32) (0 : Int32) (0 : Int32) (0 : Int32) (0 : Int32) (0 : Int32) (0 : Int32) (0 : Int32) (0 : Int32) (0 : Int32) (0 : Int32) (0 : Int32) mm_start mm_off mm_last mm_passed mm_kept mm_keptMany (0 : Int32) (0 : Int32) mm_history mm_names mm_worked (0 : Int32) (0 : Int32) ((-1) : Int32) mm_readThing mm_readHour mm_readLow mm_readHigh (0 : Int32) (0 : Int32) (0 : Int32) mm_imageOff mm_imageLast mm_imagePassed mm_imageKept mm_imageMany mm_imageHistory k_mm_number (fun _ => 0) (fun _ => rfl)) (cwV 2 hT (gwV mw_7_166 mw_7_167 mw_7_168 mw_1_16 mw_7_169) rfl rfl rfl (by decide +kernel) ⟨Nat.le_of_ble_eq_true rfl, Nat.le_of_ble_eq_true rfl⟩) ⟨fun a U g mk q => by obtain ⟨q0, q1, qP, qK, qD⟩ := q; exact ⟨q0, q1, qP, va_K.moved (u := U) (U := U.calling g mk a) (Vm.Alike.refl U.vm) qK, qD⟩, va_recv hK hP (ci := 11) (q0 := 0) rfl rfl, fun U hU hW => ⟨rfl, by rw [hU], by rw [hU]; exact hPc, va_K.moved hW.alike hKc, hDc.weaken (fun _ _ _ _ => trivial)⟩⟩ rfl rfl hl.1 rfl (lv_room (Nat.le_of_ble_eq_true rfl)) dL_law_441 ⟨Nat.le_of_ble_eq_true rfl, Nat.le_of_ble_eq_true rfl⟩) hS (fun q _ h => hFc q h) hFc (fun r_12 u t H1 locs ht hvm hw hB hz1 hk1 hS => ?_)
  obtain ⟨hP1, hD1⟩ := hB
  rw [ht] at hP1
  obtain ⟨hP, hD⟩ := va_join (wr := [(xx, .inr (10, [.ref rr, .ref ta, .ref tb, .ref pa, .ref pb, .ref cn, .ref ci, .int 0, .ref cp, .ref ct, .ref hs, .ref rd, .ref wy, .ref ea, .ref eb])), (ta, .inr (8, [.int 0, .int 0, .int 0, .int 0, .int 0, .ref ta_name, .ref ta_first, .ref ta_gain, .ref ta_rough, .ref ta_custom, .ref ta_part, .ref ta_whole, .ref ta_roundPerson, .ref ta_roundClock, .ref ta_roundHour, .ref ta_gunClock, .ref ta_gunHour, .ref tau]))]) (w1 := [(mm, .inr (11, [.int 0, .ref mm_tape, .int 0, .ref mm_number, .ref mm_clockName, .ref mm_clockOff, .ref mm_clockGain, .ref mm_clockRough, .ref mm_personName, .ref mm_personOff, .ref mm_personGain, .ref mm_personRough, .ref mm_custom, .ref mm_customA, .ref mm_customB, .ref mm_ruleFrom, .ref mm_ruleTo, .ref mm_roundOf, .ref mm_roundAt, .ref mm_roundHour, .ref mm_gunAt, .ref mm_gunHour, .ref mm_knotSort, .ref mm_knotValue, .int 0, .int 0, .int 0, .int 0, .int 0, .int 0, .int 0, .int 0, .int 0, .int (-1), .int 0, .int 0, .int 0, .int 0, .int 0, .int 0, .int 0, .int 0, .int 0, .int 0, .int 0, .int 0, .ref mm_start, .ref mm_off, .ref mm_last, .ref mm_passed, .ref mm_kept, .ref mm_keptMany, .int 0, .int 0, .ref mm_history, .ref mm_names, .ref mm_worked, .int 0, .int 0, .int (-1), .ref mm_readThing, .ref mm_readHour, .ref mm_readLow, .ref mm_readHigh, .int 0, .int 0, .int 0, .ref mm_imageOff, .ref mm_imageLast, .ref mm_imagePassed, .ref mm_imageKept, .ref mm_imageMany, .ref mm_imageHistory])), (mm_number, .inl (k_mm_number, 10, .inl (fun _ => 0)))]) hP hD [0, 1] [2, 3] rfl rfl (by decide) (by decide) hk1 hFc hP1 hD1
  generalize H1 = H at hP hS ⊢
  have hP : va_P (dC, dI) vwCl [(xx, .inr (10, [.ref rr, .ref ta, .ref tb, .ref pa, .ref pb, .ref cn, .ref ci, .int 0, .ref cp, .ref ct, .ref hs, .ref rd, .ref wy, .ref ea, .ref eb])), (ta, .inr (8, [.int 0, .int 0, .int 0, .int 0, .int 0, .ref ta_name, .ref ta_first, .ref ta_gain, .ref ta_rough, .ref ta_custom, .ref ta_part, .ref ta_whole, .ref ta_roundPerson, .ref ta_roundClock, .ref ta_roundHour, .ref ta_gunClock, .ref ta_gunHour, .ref tau])), (mm, .inr (11, [.int 0, .ref mm_tape, .int 0, .ref mm_number, .ref mm_clockName, .ref mm_clockOff, .ref mm_clockGain, .ref mm_clockRough, .ref mm_personName, .ref mm_personOff, .ref mm_personGain, .ref mm_personRough, .ref mm_custom, .ref mm_customA, .ref mm_customB, .ref mm_ruleFrom, .ref mm_ruleTo, .ref mm_roundOf, .ref mm_roundAt, .ref mm_roundHour, .ref mm_gunAt, .ref mm_gunHour, .ref mm_knotSort, .ref mm_knotValue, .int 0, .int 0, .int 0, .int 0, .int 0, .int 0, .int 0, .int 0, .int 0, .int (-1), .int 0, .int 0, .int 0, .int 0, .int 0, .int 0, .int 0, .int 0, .int 0, .int 0, .int 0, .int 0, .ref mm_start, .ref mm_off, .ref mm_last, .ref mm_passed, .ref mm_kept, .ref mm_keptMany, .int 0, .int 0, .ref mm_history, .ref mm_names, .ref mm_worked, .int 0, .int 0, .int (-1), .ref mm_readThing, .ref mm_readHour, .ref mm_readLow, .ref mm_readHigh, .int 0, .int 0, .int 0, .ref mm_imageOff, .ref mm_imageLast, .ref mm_imagePassed, .ref mm_imageKept, .ref mm_imageMany, .ref mm_imageHistory])), (mm_number, .inl (k_mm_number, 10, .inl (fun _ => 0)))] H := hP
  have hD : va_D A [(xx, .inr (10, [.ref rr, .ref ta, .ref tb, .ref pa, .ref pb, .ref cn, .ref ci, .int 0, .ref cp, .ref ct, .ref hs, .ref rd, .ref wy, .ref ea, .ref eb])), (ta, .inr (8, [.int 0, .int 0, .int 0, .int 0, .int 0, .ref ta_name, .ref ta_first, .ref ta_gain, .ref ta_rough, .ref ta_custom, .ref ta_part, .ref ta_whole, .ref ta_roundPerson, .ref ta_roundClock, .ref ta_roundHour, .ref ta_gunClock, .ref ta_gunHour, .ref tau])), (mm, .inr (11, [.int 0, .ref mm_tape, .int 0, .ref mm_number, .ref mm_clockName, .ref mm_clockOff, .ref mm_clockGain, .ref mm_clockRough, .ref mm_personName, .ref mm_personOff, .ref mm_personGain, .ref mm_personRough, .ref mm_custom, .ref mm_customA, .ref mm_customB, .ref mm_ruleFrom, .ref mm_ruleTo, .ref mm_roundOf, .ref mm_roundAt, .ref mm_roundHour, .ref mm_gunAt, .ref mm_gunHour, .ref mm_knotSort, .ref mm_knotValue, .int 0, .int 0, .int 0, .int 0, .int 0, .int 0, .int 0, .int 0, .int 0, .int (-1), .int 0, .int 0, .int 0, .int 0, .int 0, .int 0, .int 0, .int 0, .int 0, .int 0, .int 0, .int 0, .ref mm_start, .ref mm_off, .ref mm_last, .ref mm_passed, .ref mm_kept, .ref mm_keptMany, .int 0, .int 0, .ref mm_history, .ref mm_names, .ref mm_worked, .int 0, .int 0, .int (-1), .ref mm_readThing, .ref mm_readHour, .ref mm_readLow, .ref mm_readHigh, .int 0, .int 0, .int 0, .ref mm_imageOff, .ref mm_imageLast, .ref mm_imagePassed, .ref mm_imageKept, .ref mm_imageMany, .ref mm_imageHistory])), (mm_number, .inl (k_mm_number, 10, .inl (fun _ => 0)))] := hD
  clear hPc hDc hKc hFc hP1 hD1 hk1 hz1 ht hvm
  have hw : r_12 = -2147483648 := hw
  subst r_12
  refine lv_icmp_eq (tgt := 1482) hx hb dL_law_444 (by decide) (fun c_13 => ?_) (fun c_13 => absurd c_13 (by decide))
  refine lv_iinc (v := 7) (lv' := [(4, .int 7), (3, .ref oo), (2, .ref mm), (1, .ref xx), (0, .ref b)]) hx hb dL_law_1482 hl (k := 0) rfl (by decide) (by decide) rfl (fun ls hl => ?_)
  refine lv_goto (tgt := 23) hx hb dL_law_1485 (by decide) ?_
  refine lv_iload hx hb dL_law_23 (lv_at hl 0 rfl) ?_
  refine lv_aload_n hx hb dL_law_25 rfl (lv_at hl 4 rfl) ?_
  refine va_slen hx hb hX hbl hbA hS dL_law_26 ?_
  refine lv_topi (fun z_14 ez_14 => ?_)
  obtain rfl : z_14 = 7 := ez_14.trans (by decide)
  refine lv_bipush (v := 7) hx hb dL_law_27 (by decide) ?_
  refine lv_isub hx hb dL_law_29 ?_
  refine lv_topi (fun z_15 ez_15 => ?_)
  obtain rfl : z_15 = 0 := ez_15.trans (by decide)
  refine lv_icmp_gt (tgt := 1488) hx hb dL_law_30 (by decide) (fun c_16 => ?_) (fun c_16 => absurd c_16 (by decide))
  refine lv_iconst (v := 1) hx hb dL_law_1488 (by decide) ?_
  refine va_forget (fun q hq => hAo _ (hS.2.2 q hq)) ?_
  refine W.widen (k := 600002) (n := 7302232) (Nat.le_of_ble_eq_true rfl) (Nat.le_of_ble_eq_true rfl) ?_
  exact lw_ret hx hb hr hlocks dL_law_1489
set_option maxHeartbeats 4000000 in
set_option maxRecDepth 100000 in
theorem law_op_6 {p : Program} {l : Launch} {e : Env} {s : State} {m : MethodId} {below : List Frame} {meth : Method} {c : Code} {dC : Nat → ClassId} {dI : Nat → Nat → Nat} {b : Nat} {xs : Nat → Int32} {A : Nat → Prop} (C0 : lw_At p s m meth c b 7 xs) (hA : ∀ q, s.heap.size ≤ q → A q) (hbA : ¬ A b) (hAo : ∀ q, A q → s.heap.size ≤ q) {xx : Nat} {rr : Nat} {ta : Nat} {tb : Nat} {pa : Nat} {pb : Nat} {cn : Nat} {ci : Nat} {cp : Nat} {ct : Nat} {hs : Nat} {rd : Nat} {wy : Nat} {ea : Nat} {eb : Nat} {ta_name : Nat} {ta_first : Nat} {ta_gain : Nat} {ta_rough : Nat} {ta_custom : Nat} {ta_part : Nat} {ta_whole : Nat} {ta_roundPerson : Nat} {ta_roundClock : Nat} {ta_roundHour : Nat} {ta_gunClock : Nat} {ta_gunHour : Nat} {tau : Nat} {mm : Nat} {mm_tape : Nat} {mm_number : Nat} {mm_clockName : Nat} {mm_clockOff : Nat} {mm_clockGain : Nat} {mm_clockRough : Nat} {mm_personName : Nat} {mm_personOff : Nat} {mm_personGain : Nat} {mm_personRough : Nat} {mm_custom : Nat} {mm_customA : Nat} {mm_customB : Nat} {mm_ruleFrom : Nat} {mm_ruleTo : Nat} {mm_roundOf : Nat} {mm_roundAt : Nat} {mm_roundHour : Nat} {mm_gunAt : Nat} {mm_gunHour : Nat} {mm_knotSort : Nat} {mm_knotValue : Nat} {mm_start : Nat} {mm_off : Nat} {mm_last : Nat} {mm_passed : Nat} {mm_kept : Nat} {mm_keptMany : Nat} {mm_history : Nat} {mm_names : Nat} {mm_worked : Nat} {mm_readThing : Nat} {mm_readHour : Nat} {mm_readLow : Nat} {mm_readHigh : Nat} {mm_imageOff : Nat} {mm_imageLast : Nat} {mm_imagePassed : Nat} {mm_imageKept : Nat} {mm_imageMany : Nat} {mm_imageHistory : Nat} {k_mm_number : ClassId} {oo : Nat} {H : Heap} {locs : List Loc} {ls : Array Slot} (hK : va_K (dC, dI) vwCl [(k_mm_number, .int)] s) (hP : va_P (dC, dI) vwCl [(xx, .inr (10, [.ref rr, .ref ta, .ref tb, .ref pa, .ref pb, .ref cn, .ref ci, .int 0, .ref cp, .ref ct, .ref hs, .ref rd, .ref wy, .ref ea, .ref eb])), (ta, .inr (8, [.int 0, .int 0, .int 0, .int 0, .int 0, .ref ta_name, .ref ta_first, .ref ta_gain, .ref ta_rough, .ref ta_custom, .ref ta_part, .ref ta_whole, .ref ta_roundPerson, .ref ta_roundClock, .ref ta_roundHour, .ref ta_gunClock, .ref ta_gunHour, .ref tau])), (mm, .inr (11, [.int 0, .ref mm_tape, .int 0, .ref mm_number, .ref mm_clockName, .ref mm_clockOff, .ref mm_clockGain, .ref mm_clockRough, .ref mm_personName, .ref mm_personOff, .ref mm_personGain, .ref mm_personRough, .ref mm_custom, .ref mm_customA, .ref mm_customB, .ref mm_ruleFrom, .ref mm_ruleTo, .ref mm_roundOf, .ref mm_roundAt, .ref mm_roundHour, .ref mm_gunAt, .ref mm_gunHour, .ref mm_knotSort, .ref mm_knotValue, .int 0, .int 0, .int 0, .int 0, .int 0, .int 0, .int 0, .int 0, .int 0, .int (-1), .int 0, .int 0, .int 0, .int 0, .int 0, .int 0, .int 0, .int 0, .int 0, .int 0, .int 0, .int 0, .ref mm_start, .ref mm_off, .ref mm_last, .ref mm_passed, .ref mm_kept, .ref mm_keptMany, .int 0, .int 0, .ref mm_history, .ref mm_names, .ref mm_worked, .int 0, .int 0, .int (-1), .ref mm_readThing, .ref mm_readHour, .ref mm_readLow, .ref mm_readHigh, .int 0, .int 0, .int 0, .ref mm_imageOff, .ref mm_imageLast, .ref mm_imagePassed, .ref mm_imageKept, .ref mm_imageMany, .ref mm_imageHistory])), (mm_number, .inl (k_mm_number, 10, .inl (fun _ => 0)))] H) (hD : va_D A [(xx, .inr (10, [.ref rr, .ref ta, .ref tb, .ref pa, .ref pb, .ref cn, .ref ci, .int 0, .ref cp, .ref ct, .ref hs, .ref rd, .ref wy, .ref ea, .ref eb])), (ta, .inr (8, [.int 0, .int 0, .int 0, .int 0, .int 0, .ref ta_name, .ref ta_first, .ref ta_gain, .ref ta_rough, .ref ta_custom, .ref ta_part, .ref ta_whole, .ref ta_roundPerson, .ref ta_roundClock, .ref ta_roundHour, .ref ta_gunClock, .ref ta_gunHour, .ref tau])), (mm, .inr (11, [.int 0, .ref mm_tape, .int 0, .ref mm_number, .ref mm_clockName, .ref mm_clockOff, .ref mm_clockGain, .ref mm_clockRough, .ref mm_personName, .ref mm_personOff, .ref mm_personGain, .ref mm_personRough, .ref mm_custom, .ref mm_customA, .ref mm_customB, .ref mm_ruleFrom, .ref mm_ruleTo, .ref mm_roundOf, .ref mm_roundAt, .ref mm_roundHour, .ref mm_gunAt, .ref mm_gunHour, .ref mm_knotSort, .ref mm_knotValue, .int 0, .int 0, .int 0, .int 0, .int 0, .int 0, .int 0, .int 0, .int 0, .int (-1), .int 0, .int 0, .int 0, .int 0, .int 0, .int 0, .int 0, .int 0, .int 0, .int 0, .int 0, .int 0, .ref mm_start, .ref mm_off, .ref mm_last, .ref mm_passed, .ref mm_kept, .ref mm_keptMany, .int 0, .int 0, .ref mm_history, .ref mm_names, .ref mm_worked, .int 0, .int 0, .int (-1), .ref mm_readThing, .ref mm_readHour, .ref mm_readLow, .ref mm_readHigh, .int 0, .int 0, .int 0, .ref mm_imageOff, .ref mm_imageLast, .ref mm_imagePassed, .ref mm_imageKept, .ref mm_imageMany, .ref mm_imageHistory])), (mm_number, .inl (k_mm_number, 10, .inl (fun _ => 0)))]) (hS : va_S A s.heap H locs) (hl : lv_has ls 7 [(4, .int 0), (3, .ref oo), (2, .ref mm), (1, .ref xx), (0, .ref b)]) : W p l e room_1 s m #[Value.ref b] below meth c H locs 160 67979 (lw_Z below #[Value.ref b] s) (F0 m 449 ls []) := by
  obtain ⟨hx, hb, hr, hml, hown, hts, hX, hbl, hlocks, hgv⟩ := C0
  have hT : ∀ w ∈ pw_T, w.before #[Value.ref b] s = true := fun w h => hts w (List.mem_filter.mp h).1
  have hown : s.vm.findClass RL = some m.cls := hown
  refine lv_aload_n hx hb dL_law_449 rfl (lv_at hl 3 rfl) ?_
  refine lv_aload_n hx hb dL_law_450 rfl (lv_at hl 4 rfl) ?_
  refine lv_iload hx hb dL_law_451 (lv_at hl 0 rfl) ?_
  refine lv_iconst (v := 1) hx hb dL_law_453 (by decide) ?_
  refine lv_iadd hx hb dL_law_454 ?_
  refine lv_topi (fun z_1 ez_1 => ?_)
  obtain rfl : z_1 = 1 := ez_1.trans (by decide)
  refine va_sld hx hb hX hbl hbA hS (pk_in 1 7 (by decide) (by decide) (by decide)) dL_law_455 ?_
  refine lv_topi (fun z_2 ez_2 => ?_)
  replace ez_2 : z_2 = xs 1 := ez_2
  subst z_2
  refine lv_aload_n hx hb dL_law_456 rfl (lv_at hl 4 rfl) ?_
  refine lv_iload hx hb dL_law_457 (lv_at hl 0 rfl) ?_
  refine lv_iconst (v := 2) hx hb dL_law_459 (by decide) ?_
  refine lv_iadd hx hb dL_law_460 ?_
  refine lv_topi (fun z_3 ez_3 => ?_)
  obtain rfl : z_3 = 2 := ez_3.trans (by decide)
  refine va_sld hx hb hX hbl hbA hS (pk_in 2 7 (by decide) (by decide) (by decide)) dL_law_461 ?_
  refine lv_topi (fun z_4 ez_4 => ?_)
  replace ez_4 : z_4 = xs 2 := ez_4
  subst z_4
  have hPc := hP.sub (ws' := [(xx, .inr (10, [.ref rr, .ref ta, .ref tb, .ref pa, .ref pb, .ref cn, .ref ci, .int 0, .ref cp, .ref ct, .ref hs, .ref rd, .ref wy, .ref ea, .ref eb])), (ta, .inr (8, [.int 0, .int 0, .int 0, .int 0, .int 0, .ref ta_name, .ref ta_first, .ref ta_gain, .ref ta_rough, .ref ta_custom, .ref ta_part, .ref ta_whole, .ref ta_roundPerson, .ref ta_roundClock, .ref ta_roundHour, .ref ta_gunClock, .ref ta_gunHour, .ref tau]))]) [0, 1] rfl
  have hDc := hD.sub (ws' := [(xx, .inr (10, [.ref rr, .ref ta, .ref tb, .ref pa, .ref pb, .ref cn, .ref ci, .int 0, .ref cp, .ref ct, .ref hs, .ref rd, .ref wy, .ref ea, .ref eb])), (ta, .inr (8, [.int 0, .int 0, .int 0, .int 0, .int 0, .ref ta_name, .ref ta_first, .ref ta_gain, .ref ta_rough, .ref ta_custom, .ref ta_part, .ref ta_whole, .ref ta_roundPerson, .ref ta_roundClock, .ref ta_roundHour, .ref ta_gunClock, .ref ta_gunHour, .ref tau]))]) [0, 1] (by decide) rfl
  have hKc := hK.sub (tys' := []) [] rfl
  have hFc := va_free (wc := [(xx, .inr (10, [.ref rr, .ref ta, .ref tb, .ref pa, .ref pb, .ref cn, .ref ci, .int 0, .ref cp, .ref ct, .ref hs, .ref rd, .ref wy, .ref ea, .ref eb])), (ta, .inr (8, [.int 0, .int 0, .int 0, .int 0, .int 0, .ref ta_name, .ref ta_first, .ref ta_gain, .ref ta_rough, .ref ta_custom, .ref ta_part, .ref ta_whole, .ref ta_roundPerson, .ref ta_roundClock, .ref ta_roundHour, .ref ta_gunClock, .ref ta_gunHour, .ref tau]))]) hD hS hA [0, 1] rfl
  refine va_calli (va_runV (As := [.int (xs 1), .int (xs 2)]) (rest := []) ⟨hx, hb, hml, hown, hT⟩ (c_X10_round l dC dI H.size xx (xs 1) (xs 2) rr ta tb pa pb cn ci (0 : Int32) cp ct hs rd wy ea eb (0 : Int32) (0 : Int32) ta_name ta_first ta_gain ta_rough ta_custom ta_part ta_whole ta_roundPerson ta_roundClock ta_roundHour ta_gunClock ta_gunHour tau ) (cwV 2 hT (gwV mw_4_45 mw_4_46 mw_4_47 mw_1_1 mw_4_48) rfl rfl rfl (by decide +kernel) ⟨Nat.le_of_ble_eq_true rfl, Nat.le_of_ble_eq_true rfl⟩) ⟨fun a U g mk q => by obtain ⟨q0, q1, qP, qK, qD⟩ := q; exact ⟨q0, q1, qP, va_K.moved (u := U) (U := U.calling g mk a) (Vm.Alike.refl U.vm) qK, qD⟩, va_recv hK hP (ci := 10) (q0 := 0) rfl rfl, fun U hU hW => ⟨rfl, by rw [hU], by rw [hU]; exact hPc, va_K.moved hW.alike hKc, hDc.weaken (fun _ _ _ _ => trivial)⟩⟩ rfl rfl hl.1 rfl (lv_room (Nat.le_of_ble_eq_true rfl)) dL_law_462 ⟨Nat.le_of_ble_eq_true rfl, Nat.le_of_ble_eq_true rfl⟩) hS (fun q _ h => hFc q h) hFc (fun r_6 u t H1 locs ht hvm hw hB hz1 hk1 hS => ?_)
  obtain ⟨hP1, hD1⟩ := hB
  rw [ht] at hP1
  obtain ⟨hP, hD⟩ := va_join (wr := [(mm, .inr (11, [.int 0, .ref mm_tape, .int 0, .ref mm_number, .ref mm_clockName, .ref mm_clockOff, .ref mm_clockGain, .ref mm_clockRough, .ref mm_personName, .ref mm_personOff, .ref mm_personGain, .ref mm_personRough, .ref mm_custom, .ref mm_customA, .ref mm_customB, .ref mm_ruleFrom, .ref mm_ruleTo, .ref mm_roundOf, .ref mm_roundAt, .ref mm_roundHour, .ref mm_gunAt, .ref mm_gunHour, .ref mm_knotSort, .ref mm_knotValue, .int 0, .int 0, .int 0, .int 0, .int 0, .int 0, .int 0, .int 0, .int 0, .int (-1), .int 0, .int 0, .int 0, .int 0, .int 0, .int 0, .int 0, .int 0, .int 0, .int 0, .int 0, .int 0, .ref mm_start, .ref mm_off, .ref mm_last, .ref mm_passed, .ref mm_kept, .ref mm_keptMany, .int 0, .int 0, .ref mm_history, .ref mm_names, .ref mm_worked, .int 0, .int 0, .int (-1), .ref mm_readThing, .ref mm_readHour, .ref mm_readLow, .ref mm_readHigh, .int 0, .int 0, .int 0, .ref mm_imageOff, .ref mm_imageLast, .ref mm_imagePassed, .ref mm_imageKept, .ref mm_imageMany, .ref mm_imageHistory])), (mm_number, .inl (k_mm_number, 10, .inl (fun _ => 0)))]) (w1 := [(xx, .inr (10, [.ref rr, .ref ta, .ref tb, .ref pa, .ref pb, .ref cn, .ref ci, .int 0, .ref cp, .ref ct, .ref hs, .ref rd, .ref wy, .ref ea, .ref eb])), (ta, .inr (8, [.int 0, .int 0, .int 0, .int 0, .int 0, .ref ta_name, .ref ta_first, .ref ta_gain, .ref ta_rough, .ref ta_custom, .ref ta_part, .ref ta_whole, .ref ta_roundPerson, .ref ta_roundClock, .ref ta_roundHour, .ref ta_gunClock, .ref ta_gunHour, .ref tau]))]) hP hD [0, 1] [2, 3] rfl rfl (by decide) (by decide) hk1 hFc hP1 hD1
  generalize H1 = H at hP hS ⊢
  have hP : va_P (dC, dI) vwCl [(mm, .inr (11, [.int 0, .ref mm_tape, .int 0, .ref mm_number, .ref mm_clockName, .ref mm_clockOff, .ref mm_clockGain, .ref mm_clockRough, .ref mm_personName, .ref mm_personOff, .ref mm_personGain, .ref mm_personRough, .ref mm_custom, .ref mm_customA, .ref mm_customB, .ref mm_ruleFrom, .ref mm_ruleTo, .ref mm_roundOf, .ref mm_roundAt, .ref mm_roundHour, .ref mm_gunAt, .ref mm_gunHour, .ref mm_knotSort, .ref mm_knotValue, .int 0, .int 0, .int 0, .int 0, .int 0, .int 0, .int 0, .int 0, .int 0, .int (-1), .int 0, .int 0, .int 0, .int 0, .int 0, .int 0, .int 0, .int 0, .int 0, .int 0, .int 0, .int 0, .ref mm_start, .ref mm_off, .ref mm_last, .ref mm_passed, .ref mm_kept, .ref mm_keptMany, .int 0, .int 0, .ref mm_history, .ref mm_names, .ref mm_worked, .int 0, .int 0, .int (-1), .ref mm_readThing, .ref mm_readHour, .ref mm_readLow, .ref mm_readHigh, .int 0, .int 0, .int 0, .ref mm_imageOff, .ref mm_imageLast, .ref mm_imagePassed, .ref mm_imageKept, .ref mm_imageMany, .ref mm_imageHistory])), (mm_number, .inl (k_mm_number, 10, .inl (fun _ => 0))), (xx, .inr (10, [.ref rr, .ref ta, .ref tb, .ref pa, .ref pb, .ref cn, .ref ci, .int 0, .ref cp, .ref ct, .ref hs, .ref rd, .ref wy, .ref ea, .ref eb])), (ta, .inr (8, [.int 0, .int 0, .int 0, .int 0, .int 0, .ref ta_name, .ref ta_first, .ref ta_gain, .ref ta_rough, .ref ta_custom, .ref ta_part, .ref ta_whole, .ref ta_roundPerson, .ref ta_roundClock, .ref ta_roundHour, .ref ta_gunClock, .ref ta_gunHour, .ref tau]))] H := hP
  have hD : va_D A [(mm, .inr (11, [.int 0, .ref mm_tape, .int 0, .ref mm_number, .ref mm_clockName, .ref mm_clockOff, .ref mm_clockGain, .ref mm_clockRough, .ref mm_personName, .ref mm_personOff, .ref mm_personGain, .ref mm_personRough, .ref mm_custom, .ref mm_customA, .ref mm_customB, .ref mm_ruleFrom, .ref mm_ruleTo, .ref mm_roundOf, .ref mm_roundAt, .ref mm_roundHour, .ref mm_gunAt, .ref mm_gunHour, .ref mm_knotSort, .ref mm_knotValue, .int 0, .int 0, .int 0, .int 0, .int 0, .int 0, .int 0, .int 0, .int 0, .int (-1), .int 0, .int 0, .int 0, .int 0, .int 0, .int 0, .int 0, .int 0, .int 0, .int 0, .int 0, .int 0, .ref mm_start, .ref mm_off, .ref mm_last, .ref mm_passed, .ref mm_kept, .ref mm_keptMany, .int 0, .int 0, .ref mm_history, .ref mm_names, .ref mm_worked, .int 0, .int 0, .int (-1), .ref mm_readThing, .ref mm_readHour, .ref mm_readLow, .ref mm_readHigh, .int 0, .int 0, .int 0, .ref mm_imageOff, .ref mm_imageLast, .ref mm_imagePassed, .ref mm_imageKept, .ref mm_imageMany, .ref mm_imageHistory])), (mm_number, .inl (k_mm_number, 10, .inl (fun _ => 0))), (xx, .inr (10, [.ref rr, .ref ta, .ref tb, .ref pa, .ref pb, .ref cn, .ref ci, .int 0, .ref cp, .ref ct, .ref hs, .ref rd, .ref wy, .ref ea, .ref eb])), (ta, .inr (8, [.int 0, .int 0, .int 0, .int 0, .int 0, .ref ta_name, .ref ta_first, .ref ta_gain, .ref ta_rough, .ref ta_custom, .ref ta_part, .ref ta_whole, .ref ta_roundPerson, .ref ta_roundClock, .ref ta_roundHour, .ref ta_gunClock, .ref ta_gunHour, .ref tau]))] := hD
  clear hPc hDc hKc hFc hP1 hD1 hk1 hz1 ht hvm
  have hw : r_6 = -1 := hw
  subst r_6
  refine lv_aload_n hx hb dL_law_465 rfl (lv_at hl 2 rfl) ?_
  refine lv_aload_n hx hb dL_law_466 rfl (lv_at hl 4 rfl) ?_
  refine lv_iload hx hb dL_law_467 (lv_at hl 0 rfl) ?_
  refine lv_iconst (v := 1) hx hb dL_law_469 (by decide) ?_
  refine lv_iadd hx hb dL_law_470 ?_
  refine lv_topi (fun z_7 ez_7 => ?_)
  obtain rfl : z_7 = 1 := ez_7.trans (by decide)
  refine va_sld hx hb hX hbl hbA hS (pk_in 1 7 (by decide) (by decide) (by decide)) dL_law_471 ?_
  refine lv_topi (fun z_8 ez_8 => ?_)
  replace ez_8 : z_8 = xs 1 := ez_8
  subst z_8
  refine lv_aload_n hx hb dL_law_472 rfl (lv_at hl 4 rfl) ?_
  refine lv_iload hx hb dL_law_473 (lv_at hl 0 rfl) ?_
  refine lv_iconst (v := 2) hx hb dL_law_475 (by decide) ?_
  refine lv_iadd hx hb dL_law_476 ?_
  refine lv_topi (fun z_9 ez_9 => ?_)
  obtain rfl : z_9 = 2 := ez_9.trans (by decide)
  refine va_sld hx hb hX hbl hbA hS (pk_in 2 7 (by decide) (by decide) (by decide)) dL_law_477 ?_
  refine lv_topi (fun z_10 ez_10 => ?_)
  replace ez_10 : z_10 = xs 2 := ez_10
  subst z_10
  have hPc := hP.sub (ws' := [(mm, .inr (11, [.int 0, .ref mm_tape, .int 0, .ref mm_number, .ref mm_clockName, .ref mm_clockOff, .ref mm_clockGain, .ref mm_clockRough, .ref mm_personName, .ref mm_personOff, .ref mm_personGain, .ref mm_personRough, .ref mm_custom, .ref mm_customA, .ref mm_customB, .ref mm_ruleFrom, .ref mm_ruleTo, .ref mm_roundOf, .ref mm_roundAt, .ref mm_roundHour, .ref mm_gunAt, .ref mm_gunHour, .ref mm_knotSort, .ref mm_knotValue, .int 0, .int 0, .int 0, .int 0, .int 0, .int 0, .int 0, .int 0, .int 0, .int (-1), .int 0, .int 0, .int 0, .int 0, .int 0, .int 0, .int 0, .int 0, .int 0, .int 0, .int 0, .int 0, .ref mm_start, .ref mm_off, .ref mm_last, .ref mm_passed, .ref mm_kept, .ref mm_keptMany, .int 0, .int 0, .ref mm_history, .ref mm_names, .ref mm_worked, .int 0, .int 0, .int (-1), .ref mm_readThing, .ref mm_readHour, .ref mm_readLow, .ref mm_readHigh, .int 0, .int 0, .int 0, .ref mm_imageOff, .ref mm_imageLast, .ref mm_imagePassed, .ref mm_imageKept, .ref mm_imageMany, .ref mm_imageHistory])), (mm_number, .inl (k_mm_number, 10, .inl (fun _ => 0)))]) [0, 1] rfl
  have hDc := hD.sub (ws' := [(mm, .inr (11, [.int 0, .ref mm_tape, .int 0, .ref mm_number, .ref mm_clockName, .ref mm_clockOff, .ref mm_clockGain, .ref mm_clockRough, .ref mm_personName, .ref mm_personOff, .ref mm_personGain, .ref mm_personRough, .ref mm_custom, .ref mm_customA, .ref mm_customB, .ref mm_ruleFrom, .ref mm_ruleTo, .ref mm_roundOf, .ref mm_roundAt, .ref mm_roundHour, .ref mm_gunAt, .ref mm_gunHour, .ref mm_knotSort, .ref mm_knotValue, .int 0, .int 0, .int 0, .int 0, .int 0, .int 0, .int 0, .int 0, .int 0, .int (-1), .int 0, .int 0, .int 0, .int 0, .int 0, .int 0, .int 0, .int 0, .int 0, .int 0, .int 0, .int 0, .ref mm_start, .ref mm_off, .ref mm_last, .ref mm_passed, .ref mm_kept, .ref mm_keptMany, .int 0, .int 0, .ref mm_history, .ref mm_names, .ref mm_worked, .int 0, .int 0, .int (-1), .ref mm_readThing, .ref mm_readHour, .ref mm_readLow, .ref mm_readHigh, .int 0, .int 0, .int 0, .ref mm_imageOff, .ref mm_imageLast, .ref mm_imagePassed, .ref mm_imageKept, .ref mm_imageMany, .ref mm_imageHistory])), (mm_number, .inl (k_mm_number, 10, .inl (fun _ => 0)))]) [0, 1] (by decide) rfl
  have hKc := hK.sub (tys' := [(k_mm_number, .int)]) [0] rfl
  have hFc := va_free (wc := [(mm, .inr (11, [.int 0, .ref mm_tape, .int 0, .ref mm_number, .ref mm_clockName, .ref mm_clockOff, .ref mm_clockGain, .ref mm_clockRough, .ref mm_personName, .ref mm_personOff, .ref mm_personGain, .ref mm_personRough, .ref mm_custom, .ref mm_customA, .ref mm_customB, .ref mm_ruleFrom, .ref mm_ruleTo, .ref mm_roundOf, .ref mm_roundAt, .ref mm_roundHour, .ref mm_gunAt, .ref mm_gunHour, .ref mm_knotSort, .ref mm_knotValue, .int 0, .int 0, .int 0, .int 0, .int 0, .int 0, .int 0, .int 0, .int 0, .int (-1), .int 0, .int 0, .int 0, .int 0, .int 0, .int 0, .int 0, .int 0, .int 0, .int 0, .int 0, .int 0, .ref mm_start, .ref mm_off, .ref mm_last, .ref mm_passed, .ref mm_kept, .ref mm_keptMany, .int 0, .int 0, .ref mm_history, .ref mm_names, .ref mm_worked, .int 0, .int 0, .int (-1), .ref mm_readThing, .ref mm_readHour, .ref mm_readLow, .ref mm_readHigh, .int 0, .int 0, .int 0, .ref mm_imageOff, .ref mm_imageLast, .ref mm_imagePassed, .ref mm_imageKept, .ref mm_imageMany, .ref mm_imageHistory])), (mm_number, .inl (k_mm_number, 10, .inl (fun _ => 0)))]) hD hS hA [0, 1] rfl
  have := (by decide : (0 : Int32).toInt = 0)
  have := (by decide : (0 : Int32).toInt = 0)
  have := (by decide : (0 : Int32).toInt = 0)
  have := (by decide : (0 : Int32).toInt = 0)
  have := (by decide : (0 : Int32).toInt = 0)
  have := (by decide : (0 : Int32).toInt = 0)
  have := (by decide : (0 : Int32).toInt = 0)
  have := (by decide : (0 : Int32).toInt = 0)
  have := (by decide : (0 : Int32).toInt = 0)
  have := (by decide : (0 : Int32).toInt = 0)
  have := (by decide : (0 : Int32).toInt = 0)
  have := (by decide : ((-1) : Int32).toInt = -1)
  have := (by decide : (0 : Int32).toInt = 0)
  have := (by decide : (0 : Int32).toInt = 0)
  have := (by decide : (0 : Int32).toInt = 0)
  have := (by decide : (0 : Int32).toInt = 0)
  have := (by decide : (0 : Int32).toInt = 0)
  have := (by decide : (0 : Int32).toInt = 0)
  have := (by decide : (0 : Int32).toInt = 0)
  have := (by decide : (0 : Int32).toInt = 0)
  have := (by decide : (0 : Int32).toInt = 0)
  have := (by decide : (0 : Int32).toInt = 0)
  have := (by decide : (0 : Int32).toInt = 0)
  have := (by decide : (0 : Int32).toInt = 0)
  have := (by decide : (0 : Int32).toInt = 0)
  have := (by decide : (0 : Int32).toInt = 0)
  have := (by decide : (0 : Int32).toInt = 0)
  have := (by decide : (0 : Int32).toInt = 0)
  have := (by decide : ((-1) : Int32).toInt = -1)
  have := (by decide : (0 : Int32).toInt = 0)
  have := (by decide : (0 : Int32).toInt = 0)
  have := (by decide : (0 : Int32).toInt = 0)
  refine va_calli (va_runV (As := [.int (xs 1), .int (xs 2)]) (rest := [.int (-1)]) ⟨hx, hb, hml, hown, hT⟩ (c_X11_round l dC dI H.size mm (xs 1) (xs 2) (0 : Int32) mm_tape (0 : Int32) mm_number mm_clockName mm_clockOff mm_clockGain mm_clockRough mm_personName mm_personOff mm_personGain mm_personRough mm_custom mm_customA mm_customB mm_ruleFrom mm_ruleTo mm_roundOf mm_roundAt mm_roundHour mm_gunAt mm_gunHour mm_knotSort mm_knotValue (0 : Int32) (0 : Int32) (0 : Int32) (0 : Int32) (0 : Int32) (0 : Int32) (0 : Int32) (0 : Int32) (0 : Int32) ((-1) : Int32) (0 : Int32) (0 : Int32) (0 : Int32) (0 : Int32) (0 : Int32) (0 : Int32) (0 : Int32) (0 : Int32) (0 : Int32) (0 : Int32) (0 : Int32) (0 : Int32) mm_start mm_off mm_last mm_passed mm_kept mm_keptMany (0 : Int32) (0 : Int32) mm_history mm_names mm_worked (0 : Int32) (0 : Int32) ((-1) : Int32) mm_readThing mm_readHour mm_readLow mm_readHigh (0 : Int32) (0 : Int32) (0 : Int32) mm_imageOff mm_imageLast mm_imagePassed mm_imageKept mm_imageMany mm_imageHistory k_mm_number (fun _ => 0) (fun _ => rfl)) (cwV 2 hT (gwV mw_7_175 mw_7_176 mw_7_177 mw_1_16 mw_7_178) rfl rfl rfl (by decide +kernel) ⟨Nat.le_of_ble_eq_true rfl, Nat.le_of_ble_eq_true rfl⟩) ⟨fun a U g mk q => by obtain ⟨q0, q1, qP, qK, qD⟩ := q; exact ⟨q0, q1, qP, va_K.moved (u := U) (U := U.calling g mk a) (Vm.Alike.refl U.vm) qK, qD⟩, va_recv hK hP (ci := 11) (q0 := 0) rfl rfl, fun U hU hW => ⟨rfl, by rw [hU], by rw [hU]; exact hPc, va_K.moved hW.alike hKc, hDc.weaken (fun _ _ _ _ => trivial)⟩⟩ rfl rfl hl.1 rfl (lv_room (Nat.le_of_ble_eq_true rfl)) dL_law_478 ⟨Nat.le_of_ble_eq_true rfl, Nat.le_of_ble_eq_true rfl⟩) hS (fun q _ h => hFc q h) hFc (fun r_12 u t H1 locs ht hvm hw hB hz1 hk1 hS => ?_)
  obtain ⟨hP1, hD1⟩ := hB
  rw [ht] at hP1
  obtain ⟨hP, hD⟩ := va_join (wr := [(xx, .inr (10, [.ref rr, .ref ta, .ref tb, .ref pa, .ref pb, .ref cn, .ref ci, .int 0, .ref cp, .ref ct, .ref hs, .ref rd, .ref wy, .ref ea, .ref eb])), (ta, .inr (8, [.int 0, .int 0, .int 0, .int 0, .int 0, .ref ta_name, .ref ta_first, .ref ta_gain, .ref ta_rough, .ref ta_custom, .ref ta_part, .ref ta_whole, .ref ta_roundPerson, .ref ta_roundClock, .ref ta_roundHour, .ref ta_gunClock, .ref ta_gunHour, .ref tau]))]) (w1 := [(mm, .inr (11, [.int 0, .ref mm_tape, .int 0, .ref mm_number, .ref mm_clockName, .ref mm_clockOff, .ref mm_clockGain, .ref mm_clockRough, .ref mm_personName, .ref mm_personOff, .ref mm_personGain, .ref mm_personRough, .ref mm_custom, .ref mm_customA, .ref mm_customB, .ref mm_ruleFrom, .ref mm_ruleTo, .ref mm_roundOf, .ref mm_roundAt, .ref mm_roundHour, .ref mm_gunAt, .ref mm_gunHour, .ref mm_knotSort, .ref mm_knotValue, .int 0, .int 0, .int 0, .int 0, .int 0, .int 0, .int 0, .int 0, .int 0, .int (-1), .int 0, .int 0, .int 0, .int 0, .int 0, .int 0, .int 0, .int 0, .int 0, .int 0, .int 0, .int 0, .ref mm_start, .ref mm_off, .ref mm_last, .ref mm_passed, .ref mm_kept, .ref mm_keptMany, .int 0, .int 0, .ref mm_history, .ref mm_names, .ref mm_worked, .int 0, .int 0, .int (-1), .ref mm_readThing, .ref mm_readHour, .ref mm_readLow, .ref mm_readHigh, .int 0, .int 0, .int 0, .ref mm_imageOff, .ref mm_imageLast, .ref mm_imagePassed, .ref mm_imageKept, .ref mm_imageMany, .ref mm_imageHistory])), (mm_number, .inl (k_mm_number, 10, .inl (fun _ => 0)))]) hP hD [0, 1] [2, 3] rfl rfl (by decide) (by decide) hk1 hFc hP1 hD1
  generalize H1 = H at hP hS ⊢
  have hP : va_P (dC, dI) vwCl [(xx, .inr (10, [.ref rr, .ref ta, .ref tb, .ref pa, .ref pb, .ref cn, .ref ci, .int 0, .ref cp, .ref ct, .ref hs, .ref rd, .ref wy, .ref ea, .ref eb])), (ta, .inr (8, [.int 0, .int 0, .int 0, .int 0, .int 0, .ref ta_name, .ref ta_first, .ref ta_gain, .ref ta_rough, .ref ta_custom, .ref ta_part, .ref ta_whole, .ref ta_roundPerson, .ref ta_roundClock, .ref ta_roundHour, .ref ta_gunClock, .ref ta_gunHour, .ref tau])), (mm, .inr (11, [.int 0, .ref mm_tape, .int 0, .ref mm_number, .ref mm_clockName, .ref mm_clockOff, .ref mm_clockGain, .ref mm_clockRough, .ref mm_personName, .ref mm_personOff, .ref mm_personGain, .ref mm_personRough, .ref mm_custom, .ref mm_customA, .ref mm_customB, .ref mm_ruleFrom, .ref mm_ruleTo, .ref mm_roundOf, .ref mm_roundAt, .ref mm_roundHour, .ref mm_gunAt, .ref mm_gunHour, .ref mm_knotSort, .ref mm_knotValue, .int 0, .int 0, .int 0, .int 0, .int 0, .int 0, .int 0, .int 0, .int 0, .int (-1), .int 0, .int 0, .int 0, .int 0, .int 0, .int 0, .int 0, .int 0, .int 0, .int 0, .int 0, .int 0, .ref mm_start, .ref mm_off, .ref mm_last, .ref mm_passed, .ref mm_kept, .ref mm_keptMany, .int 0, .int 0, .ref mm_history, .ref mm_names, .ref mm_worked, .int 0, .int 0, .int (-1), .ref mm_readThing, .ref mm_readHour, .ref mm_readLow, .ref mm_readHigh, .int 0, .int 0, .int 0, .ref mm_imageOff, .ref mm_imageLast, .ref mm_imagePassed, .ref mm_imageKept, .ref mm_imageMany, .ref mm_imageHistory])), (mm_number, .inl (k_mm_number, 10, .inl (fun _ => 0)))] H := hP
  have hD : va_D A [(xx, .inr (10, [.ref rr, .ref ta, .ref tb, .ref pa, .ref pb, .ref cn, .ref ci, .int 0, .ref cp, .ref ct, .ref hs, .ref rd, .ref wy, .ref ea, .ref eb])), (ta, .inr (8, [.int 0, .int 0, .int 0, .int 0, .int 0, .ref ta_name, .ref ta_first, .ref ta_gain, .ref ta_rough, .ref ta_custom, .ref ta_part, .ref ta_whole, .ref ta_roundPerson, .ref ta_roundClock, .ref ta_roundHour, .ref ta_gunClock, .ref ta_gunHour, .ref tau])), (mm, .inr (11, [.int 0, .ref mm_tape, .int 0, .ref mm_number, .ref mm_clockName, .ref mm_clockOff, .ref mm_clockGain, .ref mm_clockRough, .ref mm_personName, .ref mm_personOff, .ref mm_personGain, .ref mm_personRough, .ref mm_custom, .ref mm_customA, .ref mm_customB, .ref mm_ruleFrom, .ref mm_ruleTo, .ref mm_roundOf, .ref mm_roundAt, .ref mm_roundHour, .ref mm_gunAt, .ref mm_gunHour, .ref mm_knotSort, .ref mm_knotValue, .int 0, .int 0, .int 0, .int 0, .int 0, .int 0, .int 0, .int 0, .int 0, .int (-1), .int 0, .int 0, .int 0, .int 0, .int 0, .int 0, .int 0, .int 0, .int 0, .int 0, .int 0, .int 0, .ref mm_start, .ref mm_off, .ref mm_last, .ref mm_passed, .ref mm_kept, .ref mm_keptMany, .int 0, .int 0, .ref mm_history, .ref mm_names, .ref mm_worked, .int 0, .int 0, .int (-1), .ref mm_readThing, .ref mm_readHour, .ref mm_readLow, .ref mm_readHigh, .int 0, .int 0, .int 0, .ref mm_imageOff, .ref mm_imageLast, .ref mm_imagePassed, .ref mm_imageKept, .ref mm_imageMany, .ref mm_imageHistory])), (mm_number, .inl (k_mm_number, 10, .inl (fun _ => 0)))] := hD
  clear hPc hDc hKc hFc hP1 hD1 hk1 hz1 ht hvm
  have hw : r_12 = -1 := hw
  subst r_12
  refine lv_icmp_eq (tgt := 1482) hx hb dL_law_481 (by decide) (fun c_13 => ?_) (fun c_13 => absurd c_13 (by decide))
  refine lv_iinc (v := 7) (lv' := [(4, .int 7), (3, .ref oo), (2, .ref mm), (1, .ref xx), (0, .ref b)]) hx hb dL_law_1482 hl (k := 0) rfl (by decide) (by decide) rfl (fun ls hl => ?_)
  refine lv_goto (tgt := 23) hx hb dL_law_1485 (by decide) ?_
  refine lv_iload hx hb dL_law_23 (lv_at hl 0 rfl) ?_
  refine lv_aload_n hx hb dL_law_25 rfl (lv_at hl 4 rfl) ?_
  refine va_slen hx hb hX hbl hbA hS dL_law_26 ?_
  refine lv_topi (fun z_14 ez_14 => ?_)
  obtain rfl : z_14 = 7 := ez_14.trans (by decide)
  refine lv_bipush (v := 7) hx hb dL_law_27 (by decide) ?_
  refine lv_isub hx hb dL_law_29 ?_
  refine lv_topi (fun z_15 ez_15 => ?_)
  obtain rfl : z_15 = 0 := ez_15.trans (by decide)
  refine lv_icmp_gt (tgt := 1488) hx hb dL_law_30 (by decide) (fun c_16 => ?_) (fun c_16 => absurd c_16 (by decide))
  refine lv_iconst (v := 1) hx hb dL_law_1488 (by decide) ?_
  refine va_forget (fun q hq => hAo _ (hS.2.2 q hq)) ?_
  refine W.widen (k := 600002) (n := 7302232) (Nat.le_of_ble_eq_true rfl) (Nat.le_of_ble_eq_true rfl) ?_
  exact lw_ret hx hb hr hlocks dL_law_1489
set_option maxHeartbeats 4000000 in
set_option maxRecDepth 100000 in
theorem law_op_7 {p : Program} {l : Launch} {e : Env} {s : State} {m : MethodId} {below : List Frame} {meth : Method} {c : Code} {dC : Nat → ClassId} {dI : Nat → Nat → Nat} {b : Nat} {xs : Nat → Int32} {A : Nat → Prop} (C0 : lw_At p s m meth c b 7 xs) (hA : ∀ q, s.heap.size ≤ q → A q) (hbA : ¬ A b) (hAo : ∀ q, A q → s.heap.size ≤ q) {xx : Nat} {rr : Nat} {ta : Nat} {tb : Nat} {pa : Nat} {pb : Nat} {cn : Nat} {ci : Nat} {cp : Nat} {ct : Nat} {hs : Nat} {rd : Nat} {wy : Nat} {ea : Nat} {eb : Nat} {ta_name : Nat} {ta_first : Nat} {ta_gain : Nat} {ta_rough : Nat} {ta_custom : Nat} {ta_part : Nat} {ta_whole : Nat} {ta_roundPerson : Nat} {ta_roundClock : Nat} {ta_roundHour : Nat} {ta_gunClock : Nat} {ta_gunHour : Nat} {tau : Nat} {pa_first : Nat} {pa_gain : Nat} {pa_custom : Nat} {pa_ruled : Nat} {pa_deedHour : Nat} {pa_deedPerson : Nat} {pa_deedClock : Nat} {cn_last : Nat} {cn_passed : Nat} {cn_keptCount : Nat} {cn_off : Nat} {cn_since : Nat} {cn_kept : Nat} {cn_sorted : Nat} {hs_off : Nat} {hs_apart : Nat} {k_hs_apart : ClassId} {mm : Nat} {mm_tape : Nat} {mm_number : Nat} {mm_clockName : Nat} {mm_clockOff : Nat} {mm_clockGain : Nat} {mm_clockRough : Nat} {mm_personName : Nat} {mm_personOff : Nat} {mm_personGain : Nat} {mm_personRough : Nat} {mm_custom : Nat} {mm_customA : Nat} {mm_customB : Nat} {mm_ruleFrom : Nat} {mm_ruleTo : Nat} {mm_roundOf : Nat} {mm_roundAt : Nat} {mm_roundHour : Nat} {mm_gunAt : Nat} {mm_gunHour : Nat} {mm_knotSort : Nat} {mm_knotValue : Nat} {mm_start : Nat} {mm_off : Nat} {mm_last : Nat} {mm_passed : Nat} {mm_kept : Nat} {mm_keptMany : Nat} {mm_history : Nat} {mm_names : Nat} {mm_worked : Nat} {mm_readThing : Nat} {mm_readHour : Nat} {mm_readLow : Nat} {mm_readHigh : Nat} {mm_imageOff : Nat} {mm_imageLast : Nat} {mm_imagePassed : Nat} {mm_imageKept : Nat} {mm_imageMany : Nat} {mm_imageHistory : Nat} {k_mm_number : ClassId} {oo : Nat} {H : Heap} {locs : List Loc} {ls : Array Slot} (hK : va_K (dC, dI) vwCl [(k_hs_apart, .int), (k_mm_number, .int)] s) (hP : va_P (dC, dI) vwCl [(xx, .inr (10, [.ref rr, .ref ta, .ref tb, .ref pa, .ref pb, .ref cn, .ref ci, .int 0, .ref cp, .ref ct, .ref hs, .ref rd, .ref wy, .ref ea, .ref eb])), (ta, .inr (8, [.int 0, .int 0, .int 0, .int 0, .int 0, .ref ta_name, .ref ta_first, .ref ta_gain, .ref ta_rough, .ref ta_custom, .ref ta_part, .ref ta_whole, .ref ta_roundPerson, .ref ta_roundClock, .ref ta_roundHour, .ref ta_gunClock, .ref ta_gunHour, .ref tau])), (pa, .inr (3, [.ref ta, .ref pa_first, .ref pa_gain, .ref pa_custom, .ref pa_ruled, .int 0, .ref pa_deedHour, .ref pa_deedPerson, .ref pa_deedClock])), (cn, .inr (0, [.ref pa, .int 0, .int 0, .ref cn_last, .ref cn_passed, .ref cn_keptCount, .int 0, .int 0, .int 0, .int 0, .ref cn_off, .ref cn_since, .ref cn_kept, .ref cn_sorted])), (hs, .inr (2, [.ref hs_off, .ref hs_apart])), (hs_apart, .inl (k_hs_apart, 2000, .inl (fun _ => 0))), (mm, .inr (11, [.int 0, .ref mm_tape, .int 0, .ref mm_number, .ref mm_clockName, .ref mm_clockOff, .ref mm_clockGain, .ref mm_clockRough, .ref mm_personName, .ref mm_personOff, .ref mm_personGain, .ref mm_personRough, .ref mm_custom, .ref mm_customA, .ref mm_customB, .ref mm_ruleFrom, .ref mm_ruleTo, .ref mm_roundOf, .ref mm_roundAt, .ref mm_roundHour, .ref mm_gunAt, .ref mm_gunHour, .ref mm_knotSort, .ref mm_knotValue, .int 0, .int 0, .int 0, .int 0, .int 0, .int 0, .int 0, .int 0, .int 0, .int (-1), .int 0, .int 0, .int 0, .int 0, .int 0, .int 0, .int 0, .int 0, .int 0, .int 0, .int 0, .int 0, .ref mm_start, .ref mm_off, .ref mm_last, .ref mm_passed, .ref mm_kept, .ref mm_keptMany, .int 0, .int 0, .ref mm_history, .ref mm_names, .ref mm_worked, .int 0, .int 0, .int (-1), .ref mm_readThing, .ref mm_readHour, .ref mm_readLow, .ref mm_readHigh, .int 0, .int 0, .int 0, .ref mm_imageOff, .ref mm_imageLast, .ref mm_imagePassed, .ref mm_imageKept, .ref mm_imageMany, .ref mm_imageHistory])), (mm_number, .inl (k_mm_number, 10, .inl (fun _ => 0)))] H) (hD : va_D A [(xx, .inr (10, [.ref rr, .ref ta, .ref tb, .ref pa, .ref pb, .ref cn, .ref ci, .int 0, .ref cp, .ref ct, .ref hs, .ref rd, .ref wy, .ref ea, .ref eb])), (ta, .inr (8, [.int 0, .int 0, .int 0, .int 0, .int 0, .ref ta_name, .ref ta_first, .ref ta_gain, .ref ta_rough, .ref ta_custom, .ref ta_part, .ref ta_whole, .ref ta_roundPerson, .ref ta_roundClock, .ref ta_roundHour, .ref ta_gunClock, .ref ta_gunHour, .ref tau])), (pa, .inr (3, [.ref ta, .ref pa_first, .ref pa_gain, .ref pa_custom, .ref pa_ruled, .int 0, .ref pa_deedHour, .ref pa_deedPerson, .ref pa_deedClock])), (cn, .inr (0, [.ref pa, .int 0, .int 0, .ref cn_last, .ref cn_passed, .ref cn_keptCount, .int 0, .int 0, .int 0, .int 0, .ref cn_off, .ref cn_since, .ref cn_kept, .ref cn_sorted])), (hs, .inr (2, [.ref hs_off, .ref hs_apart])), (hs_apart, .inl (k_hs_apart, 2000, .inl (fun _ => 0))), (mm, .inr (11, [.int 0, .ref mm_tape, .int 0, .ref mm_number, .ref mm_clockName, .ref mm_clockOff, .ref mm_clockGain, .ref mm_clockRough, .ref mm_personName, .ref mm_personOff, .ref mm_personGain, .ref mm_personRough, .ref mm_custom, .ref mm_customA, .ref mm_customB, .ref mm_ruleFrom, .ref mm_ruleTo, .ref mm_roundOf, .ref mm_roundAt, .ref mm_roundHour, .ref mm_gunAt, .ref mm_gunHour, .ref mm_knotSort, .ref mm_knotValue, .int 0, .int 0, .int 0, .int 0, .int 0, .int 0, .int 0, .int 0, .int 0, .int (-1), .int 0, .int 0, .int 0, .int 0, .int 0, .int 0, .int 0, .int 0, .int 0, .int 0, .int 0, .int 0, .ref mm_start, .ref mm_off, .ref mm_last, .ref mm_passed, .ref mm_kept, .ref mm_keptMany, .int 0, .int 0, .ref mm_history, .ref mm_names, .ref mm_worked, .int 0, .int 0, .int (-1), .ref mm_readThing, .ref mm_readHour, .ref mm_readLow, .ref mm_readHigh, .int 0, .int 0, .int 0, .ref mm_imageOff, .ref mm_imageLast, .ref mm_imagePassed, .ref mm_imageKept, .ref mm_imageMany, .ref mm_imageHistory])), (mm_number, .inl (k_mm_number, 10, .inl (fun _ => 0)))]) (hS : va_S A s.heap H locs) (hl : lv_has ls 7 [(4, .int 0), (3, .ref oo), (2, .ref mm), (1, .ref xx), (0, .ref b)]) : W p l e room_1 s m #[Value.ref b] below meth c H locs 160 67979 (lw_Z below #[Value.ref b] s) (F0 m 486 ls []) := by
  obtain ⟨hx, hb, hr, hml, hown, hts, hX, hbl, hlocks, hgv⟩ := C0
  have hT : ∀ w ∈ pw_T, w.before #[Value.ref b] s = true := fun w h => hts w (List.mem_filter.mp h).1
  have hown : s.vm.findClass RL = some m.cls := hown
  refine lv_aload_n hx hb dL_law_486 rfl (lv_at hl 3 rfl) ?_
  refine lv_aload_n hx hb dL_law_487 rfl (lv_at hl 4 rfl) ?_
  refine lv_iload hx hb dL_law_488 (lv_at hl 0 rfl) ?_
  refine lv_iconst (v := 1) hx hb dL_law_490 (by decide) ?_
  refine lv_iadd hx hb dL_law_491 ?_
  refine lv_topi (fun z_1 ez_1 => ?_)
  obtain rfl : z_1 = 1 := ez_1.trans (by decide)
  refine va_sld hx hb hX hbl hbA hS (pk_in 1 7 (by decide) (by decide) (by decide)) dL_law_492 ?_
  refine lv_topi (fun z_2 ez_2 => ?_)
  replace ez_2 : z_2 = xs 1 := ez_2
  subst z_2
  have hPc := hP.sub (ws' := [(xx, .inr (10, [.ref rr, .ref ta, .ref tb, .ref pa, .ref pb, .ref cn, .ref ci, .int 0, .ref cp, .ref ct, .ref hs, .ref rd, .ref wy, .ref ea, .ref eb])), (cn, .inr (0, [.ref pa, .int 0, .int 0, .ref cn_last, .ref cn_passed, .ref cn_keptCount, .int 0, .int 0, .int 0, .int 0, .ref cn_off, .ref cn_since, .ref cn_kept, .ref cn_sorted])), (pa, .inr (3, [.ref ta, .ref pa_first, .ref pa_gain, .ref pa_custom, .ref pa_ruled, .int 0, .ref pa_deedHour, .ref pa_deedPerson, .ref pa_deedClock])), (ta, .inr (8, [.int 0, .int 0, .int 0, .int 0, .int 0, .ref ta_name, .ref ta_first, .ref ta_gain, .ref ta_rough, .ref ta_custom, .ref ta_part, .ref ta_whole, .ref ta_roundPerson, .ref ta_roundClock, .ref ta_roundHour, .ref ta_gunClock, .ref ta_gunHour, .ref tau])), (hs, .inr (2, [.ref hs_off, .ref hs_apart])), (hs_apart, .inl (k_hs_apart, 2000, .inl (fun _ => 0)))]) [0, 3, 2, 1, 4, 5] rfl
  have hDc := hD.sub (ws' := [(xx, .inr (10, [.ref rr, .ref ta, .ref tb, .ref pa, .ref pb, .ref cn, .ref ci, .int 0, .ref cp, .ref ct, .ref hs, .ref rd, .ref wy, .ref ea, .ref eb])), (cn, .inr (0, [.ref pa, .int 0, .int 0, .ref cn_last, .ref cn_passed, .ref cn_keptCount, .int 0, .int 0, .int 0, .int 0, .ref cn_off, .ref cn_since, .ref cn_kept, .ref cn_sorted])), (pa, .inr (3, [.ref ta, .ref pa_first, .ref pa_gain, .ref pa_custom, .ref pa_ruled, .int 0, .ref pa_deedHour, .ref pa_deedPerson, .ref pa_deedClock])), (ta, .inr (8, [.int 0, .int 0, .int 0, .int 0, .int 0, .ref ta_name, .ref ta_first, .ref ta_gain, .ref ta_rough, .ref ta_custom, .ref ta_part, .ref ta_whole, .ref ta_roundPerson, .ref ta_roundClock, .ref ta_roundHour, .ref ta_gunClock, .ref ta_gunHour, .ref tau])), (hs, .inr (2, [.ref hs_off, .ref hs_apart])), (hs_apart, .inl (k_hs_apart, 2000, .inl (fun _ => 0)))]) [0, 3, 2, 1, 4, 5] (by decide) rfl
  have hKc := hK.sub (tys' := [(k_hs_apart, .int)]) [0] rfl
  have hFc := va_free (wc := [(xx, .inr (10, [.ref rr, .ref ta, .ref tb, .ref pa, .ref pb, .ref cn, .ref ci, .int 0, .ref cp, .ref ct, .ref hs, .ref rd, .ref wy, .ref ea, .ref eb])), (cn, .inr (0, [.ref pa, .int 0, .int 0, .ref cn_last, .ref cn_passed, .ref cn_keptCount, .int 0, .int 0, .int 0, .int 0, .ref cn_off, .ref cn_since, .ref cn_kept, .ref cn_sorted])), (pa, .inr (3, [.ref ta, .ref pa_first, .ref pa_gain, .ref pa_custom, .ref pa_ruled, .int 0, .ref pa_deedHour, .ref pa_deedPerson, .ref pa_deedClock])), (ta, .inr (8, [.int 0, .int 0, .int 0, .int 0, .int 0, .ref ta_name, .ref ta_first, .ref ta_gain, .ref ta_rough, .ref ta_custom, .ref ta_part, .ref ta_whole, .ref ta_roundPerson, .ref ta_roundClock, .ref ta_roundHour, .ref ta_gunClock, .ref ta_gunHour, .ref tau])), (hs, .inr (2, [.ref hs_off, .ref hs_apart])), (hs_apart, .inl (k_hs_apart, 2000, .inl (fun _ => 0)))]) hD hS hA [0, 3, 2, 1, 4, 5] rfl
  have := (by decide : (0 : Int32).toInt = 0)
  have := (by decide : (0 : Int32).toInt = 0)
  have := (by decide : (0 : Int32).toInt = 0)
  have := (by decide : (0 : Int32).toInt = 0)
  have := (by decide : (0 : Int32).toInt = 0)
  have := (by decide : (0 : Int32).toInt = 0)
  have := (by decide : (0 : Int32).toInt = 0)
  have := (by decide : (0 : Int32).toInt = 0)
  refine va_calli (va_runV (As := [.int (xs 1)]) (rest := []) ⟨hx, hb, hml, hown, hT⟩ (c_X10_hours l dC dI H.size xx (xs 1) rr ta tb pa pb cn ci (0 : Int32) cp ct hs rd wy ea eb pa (0 : Int32) cn_last cn_passed cn_keptCount (0 : Int32) (0 : Int32) (0 : Int32) cn_off cn_since cn_kept cn_sorted ta pa_first pa_gain pa_custom pa_ruled pa_deedHour pa_deedPerson pa_deedClock (0 : Int32) (0 : Int32) (0 : Int32) ta_name ta_first ta_gain ta_rough ta_custom ta_part ta_whole ta_roundPerson ta_roundClock ta_roundHour ta_gunClock ta_gunHour tau hs_off hs_apart k_hs_apart (fun _ => 0) ) (cwV 1 hT (gwV mw_4_49 mw_4_50 mw_4_51 mw_1_1 mw_4_52) rfl rfl rfl (by decide +kernel) ⟨Nat.le_of_ble_eq_true rfl, Nat.le_of_ble_eq_true rfl⟩) ⟨fun a U g mk q => by obtain ⟨q0, q1, qP, qK, qD⟩ := q; exact ⟨q0, q1, qP, va_K.moved (u := U) (U := U.calling g mk a) (Vm.Alike.refl U.vm) qK, qD⟩, va_recv hK hP (ci := 10) (q0 := 0) rfl rfl, fun U hU hW => ⟨rfl, by rw [hU], by rw [hU]; exact hPc, va_K.moved hW.alike hKc, hDc.weaken (fun _ _ _ _ => trivial)⟩⟩ rfl rfl hl.1 rfl (lv_room (Nat.le_of_ble_eq_true rfl)) dL_law_493 ⟨Nat.le_of_ble_eq_true rfl, Nat.le_of_ble_eq_true rfl⟩) hS (fun q _ h => hFc q h) hFc (fun r_4 u t H1 locs ht hvm hw hB hz1 hk1 hS => ?_)
  obtain ⟨hP1, hD1⟩ := hB
  rw [ht] at hP1
  obtain ⟨hP, hD⟩ := va_join (wr := [(mm, .inr (11, [.int 0, .ref mm_tape, .int 0, .ref mm_number, .ref mm_clockName, .ref mm_clockOff, .ref mm_clockGain, .ref mm_clockRough, .ref mm_personName, .ref mm_personOff, .ref mm_personGain, .ref mm_personRough, .ref mm_custom, .ref mm_customA, .ref mm_customB, .ref mm_ruleFrom, .ref mm_ruleTo, .ref mm_roundOf, .ref mm_roundAt, .ref mm_roundHour, .ref mm_gunAt, .ref mm_gunHour, .ref mm_knotSort, .ref mm_knotValue, .int 0, .int 0, .int 0, .int 0, .int 0, .int 0, .int 0, .int 0, .int 0, .int (-1), .int 0, .int 0, .int 0, .int 0, .int 0, .int 0, .int 0, .int 0, .int 0, .int 0, .int 0, .int 0, .ref mm_start, .ref mm_off, .ref mm_last, .ref mm_passed, .ref mm_kept, .ref mm_keptMany, .int 0, .int 0, .ref mm_history, .ref mm_names, .ref mm_worked, .int 0, .int 0, .int (-1), .ref mm_readThing, .ref mm_readHour, .ref mm_readLow, .ref mm_readHigh, .int 0, .int 0, .int 0, .ref mm_imageOff, .ref mm_imageLast, .ref mm_imagePassed, .ref mm_imageKept, .ref mm_imageMany, .ref mm_imageHistory])), (mm_number, .inl (k_mm_number, 10, .inl (fun _ => 0)))]) (w1 := [(xx, .inr (10, [.ref rr, .ref ta, .ref tb, .ref pa, .ref pb, .ref cn, .ref ci, .int 0, .ref cp, .ref ct, .ref hs, .ref rd, .ref wy, .ref ea, .ref eb]))]) hP hD [0, 3, 2, 1, 4, 5] [6, 7] rfl rfl (by decide) (by decide) hk1 hFc hP1 hD1
  generalize H1 = H at hP hS ⊢
  have hP : va_P (dC, dI) vwCl [(mm, .inr (11, [.int 0, .ref mm_tape, .int 0, .ref mm_number, .ref mm_clockName, .ref mm_clockOff, .ref mm_clockGain, .ref mm_clockRough, .ref mm_personName, .ref mm_personOff, .ref mm_personGain, .ref mm_personRough, .ref mm_custom, .ref mm_customA, .ref mm_customB, .ref mm_ruleFrom, .ref mm_ruleTo, .ref mm_roundOf, .ref mm_roundAt, .ref mm_roundHour, .ref mm_gunAt, .ref mm_gunHour, .ref mm_knotSort, .ref mm_knotValue, .int 0, .int 0, .int 0, .int 0, .int 0, .int 0, .int 0, .int 0, .int 0, .int (-1), .int 0, .int 0, .int 0, .int 0, .int 0, .int 0, .int 0, .int 0, .int 0, .int 0, .int 0, .int 0, .ref mm_start, .ref mm_off, .ref mm_last, .ref mm_passed, .ref mm_kept, .ref mm_keptMany, .int 0, .int 0, .ref mm_history, .ref mm_names, .ref mm_worked, .int 0, .int 0, .int (-1), .ref mm_readThing, .ref mm_readHour, .ref mm_readLow, .ref mm_readHigh, .int 0, .int 0, .int 0, .ref mm_imageOff, .ref mm_imageLast, .ref mm_imagePassed, .ref mm_imageKept, .ref mm_imageMany, .ref mm_imageHistory])), (mm_number, .inl (k_mm_number, 10, .inl (fun _ => 0))), (xx, .inr (10, [.ref rr, .ref ta, .ref tb, .ref pa, .ref pb, .ref cn, .ref ci, .int 0, .ref cp, .ref ct, .ref hs, .ref rd, .ref wy, .ref ea, .ref eb]))] H := hP
  have hD : va_D A [(mm, .inr (11, [.int 0, .ref mm_tape, .int 0, .ref mm_number, .ref mm_clockName, .ref mm_clockOff, .ref mm_clockGain, .ref mm_clockRough, .ref mm_personName, .ref mm_personOff, .ref mm_personGain, .ref mm_personRough, .ref mm_custom, .ref mm_customA, .ref mm_customB, .ref mm_ruleFrom, .ref mm_ruleTo, .ref mm_roundOf, .ref mm_roundAt, .ref mm_roundHour, .ref mm_gunAt, .ref mm_gunHour, .ref mm_knotSort, .ref mm_knotValue, .int 0, .int 0, .int 0, .int 0, .int 0, .int 0, .int 0, .int 0, .int 0, .int (-1), .int 0, .int 0, .int 0, .int 0, .int 0, .int 0, .int 0, .int 0, .int 0, .int 0, .int 0, .int 0, .ref mm_start, .ref mm_off, .ref mm_last, .ref mm_passed, .ref mm_kept, .ref mm_keptMany, .int 0, .int 0, .ref mm_history, .ref mm_names, .ref mm_worked, .int 0, .int 0, .int (-1), .ref mm_readThing, .ref mm_readHour, .ref mm_readLow, .ref mm_readHigh, .int 0, .int 0, .int 0, .ref mm_imageOff, .ref mm_imageLast, .ref mm_imagePassed, .ref mm_imageKept, .ref mm_imageMany, .ref mm_imageHistory])), (mm_number, .inl (k_mm_number, 10, .inl (fun _ => 0))), (xx, .inr (10, [.ref rr, .ref ta, .ref tb, .ref pa, .ref pb, .ref cn, .ref ci, .int 0, .ref cp, .ref ct, .ref hs, .ref rd, .ref wy, .ref ea, .ref eb]))] := hD
  clear hPc hDc hKc hFc hP1 hD1 hk1 hz1 ht hvm
  have hw : (r_4 = (xs 1) ∧ (0 ≤ (xs 1).toInt ∧ (xs 1).toInt ≤ 500)) ∨ (r_4 = -1 ∧ ((xs 1).toInt < 0 ∨ 500 < (xs 1).toInt)) := hw
  rcases hw with ⟨hrr_4, hfr_4⟩ | ⟨hrr_4, hfr_4⟩
  · subst r_4
    refine lv_aload_n hx hb dL_law_496 rfl (lv_at hl 2 rfl) ?_
    refine lv_aload_n hx hb dL_law_497 rfl (lv_at hl 4 rfl) ?_
    refine lv_iload hx hb dL_law_498 (lv_at hl 0 rfl) ?_
    refine lv_iconst (v := 1) hx hb dL_law_500 (by decide) ?_
    refine lv_iadd hx hb dL_law_501 ?_
    refine lv_topi (fun z_5 ez_5 => ?_)
    obtain rfl : z_5 = 1 := ez_5.trans (by decide)
    refine va_sld hx hb hX hbl hbA hS (pk_in 1 7 (by decide) (by decide) (by decide)) dL_law_502 ?_
    refine lv_topi (fun z_6 ez_6 => ?_)
    replace ez_6 : z_6 = xs 1 := ez_6
    subst z_6
    have hPc := hP.sub (ws' := [(mm, .inr (11, [.int 0, .ref mm_tape, .int 0, .ref mm_number, .ref mm_clockName, .ref mm_clockOff, .ref mm_clockGain, .ref mm_clockRough, .ref mm_personName, .ref mm_personOff, .ref mm_personGain, .ref mm_personRough, .ref mm_custom, .ref mm_customA, .ref mm_customB, .ref mm_ruleFrom, .ref mm_ruleTo, .ref mm_roundOf, .ref mm_roundAt, .ref mm_roundHour, .ref mm_gunAt, .ref mm_gunHour, .ref mm_knotSort, .ref mm_knotValue, .int 0, .int 0, .int 0, .int 0, .int 0, .int 0, .int 0, .int 0, .int 0, .int (-1), .int 0, .int 0, .int 0, .int 0, .int 0, .int 0, .int 0, .int 0, .int 0, .int 0, .int 0, .int 0, .ref mm_start, .ref mm_off, .ref mm_last, .ref mm_passed, .ref mm_kept, .ref mm_keptMany, .int 0, .int 0, .ref mm_history, .ref mm_names, .ref mm_worked, .int 0, .int 0, .int (-1), .ref mm_readThing, .ref mm_readHour, .ref mm_readLow, .ref mm_readHigh, .int 0, .int 0, .int 0, .ref mm_imageOff, .ref mm_imageLast, .ref mm_imagePassed, .ref mm_imageKept, .ref mm_imageMany, .ref mm_imageHistory])), (mm_number, .inl (k_mm_number, 10, .inl (fun _ => 0)))]) [0, 1] rfl
    have hDc := hD.sub (ws' := [(mm, .inr (11, [.int 0, .ref mm_tape, .int 0, .ref mm_number, .ref mm_clockName, .ref mm_clockOff, .ref mm_clockGain, .ref mm_clockRough, .ref mm_personName, .ref mm_personOff, .ref mm_personGain, .ref mm_personRough, .ref mm_custom, .ref mm_customA, .ref mm_customB, .ref mm_ruleFrom, .ref mm_ruleTo, .ref mm_roundOf, .ref mm_roundAt, .ref mm_roundHour, .ref mm_gunAt, .ref mm_gunHour, .ref mm_knotSort, .ref mm_knotValue, .int 0, .int 0, .int 0, .int 0, .int 0, .int 0, .int 0, .int 0, .int 0, .int (-1), .int 0, .int 0, .int 0, .int 0, .int 0, .int 0, .int 0, .int 0, .int 0, .int 0, .int 0, .int 0, .ref mm_start, .ref mm_off, .ref mm_last, .ref mm_passed, .ref mm_kept, .ref mm_keptMany, .int 0, .int 0, .ref mm_history, .ref mm_names, .ref mm_worked, .int 0, .int 0, .int (-1), .ref mm_readThing, .ref mm_readHour, .ref mm_readLow, .ref mm_readHigh, .int 0, .int 0, .int 0, .ref mm_imageOff, .ref mm_imageLast, .ref mm_imagePassed, .ref mm_imageKept, .ref mm_imageMany, .ref mm_imageHistory])), (mm_number, .inl (k_mm_number, 10, .inl (fun _ => 0)))]) [0, 1] (by decide) rfl
    have hKc := hK.sub (tys' := [(k_mm_number, .int)]) [1] rfl
    have hFc := va_free (wc := [(mm, .inr (11, [.int 0, .ref mm_tape, .int 0, .ref mm_number, .ref mm_clockName, .ref mm_clockOff, .ref mm_clockGain, .ref mm_clockRough, .ref mm_personName, .ref mm_personOff, .ref mm_personGain, .ref mm_personRough, .ref mm_custom, .ref mm_customA, .ref mm_customB, .ref mm_ruleFrom, .ref mm_ruleTo, .ref mm_roundOf, .ref mm_roundAt, .ref mm_roundHour, .ref mm_gunAt, .ref mm_gunHour, .ref mm_knotSort, .ref mm_knotValue, .int 0, .int 0, .int 0, .int 0, .int 0, .int 0, .int 0, .int 0, .int 0, .int (-1), .int 0, .int 0, .int 0, .int 0, .int 0, .int 0, .int 0, .int 0, .int 0, .int 0, .int 0, .int 0, .ref mm_start, .ref mm_off, .ref mm_last, .ref mm_passed, .ref mm_kept, .ref mm_keptMany, .int 0, .int 0, .ref mm_history, .ref mm_names, .ref mm_worked, .int 0, .int 0, .int (-1), .ref mm_readThing, .ref mm_readHour, .ref mm_readLow, .ref mm_readHigh, .int 0, .int 0, .int 0, .ref mm_imageOff, .ref mm_imageLast, .ref mm_imagePassed, .ref mm_imageKept, .ref mm_imageMany, .ref mm_imageHistory])), (mm_number, .inl (k_mm_number, 10, .inl (fun _ => 0)))]) hD hS hA [0, 1] rfl
    have := (by decide : (0 : Int32).toInt = 0)
    have := (by decide : (0 : Int32).toInt = 0)
    have := (by decide : (0 : Int32).toInt = 0)
    have := (by decide : (0 : Int32).toInt = 0)
    have := (by decide : (0 : Int32).toInt = 0)
    have := (by decide : (0 : Int32).toInt = 0)
    have := (by decide : (0 : Int32).toInt = 0)
    have := (by decide : (0 : Int32).toInt = 0)
    have := (by decide : (0 : Int32).toInt = 0)
    have := (by decide : (0 : Int32).toInt = 0)
    have := (by decide : (0 : Int32).toInt = 0)
    have := (by decide : ((-1) : Int32).toInt = -1)
    have := (by decide : (0 : Int32).toInt = 0)
    have := (by decide : (0 : Int32).toInt = 0)
    have := (by decide : (0 : Int32).toInt = 0)
    have := (by decide : (0 : Int32).toInt = 0)
    have := (by decide : (0 : Int32).toInt = 0)
    have := (by decide : (0 : Int32).toInt = 0)
    have := (by decide : (0 : Int32).toInt = 0)
    have := (by decide : (0 : Int32).toInt = 0)
    have := (by decide : (0 : Int32).toInt = 0)
    have := (by decide : (0 : Int32).toInt = 0)
    have := (by decide : (0 : Int32).toInt = 0)
    have := (by decide : (0 : Int32).toInt = 0)
    have := (by decide : (0 : Int32).toInt = 0)
    have := (by decide : (0 : Int32).toInt = 0)
    have := (by decide : (0 : Int32).toInt = 0)
    have := (by decide : ((-1) : Int32).toInt = -1)
    have := (by decide : (0 : Int32).toInt = 0)
    have := (by decide : (0 : Int32).toInt = 0)
    have := (by decide : (0 : Int32).toInt = 0)
    refine va_calli (va_runV (As := [.int (xs 1)]) (rest := [.int (xs 1)]) ⟨hx, hb, hml, hown, hT⟩ (c_X11_hours l dC dI H.size mm (xs 1) (0 : Int32) mm_tape (0 : Int32) mm_number mm_clockName mm_clockOff mm_clockGain mm_clockRough mm_personName mm_personOff mm_personGain mm_personRough mm_custom mm_customA mm_customB mm_ruleFrom mm_ruleTo mm_roundOf mm_roundAt mm_roundHour mm_gunAt mm_gunHour mm_knotSort mm_knotValue (0 : Int32) (0 : Int32) (0 : Int32) (0 : Int32) (0 : Int32) (0 : Int32) (0 : Int32) (0 : Int32) (0 : Int32) ((-1) : Int32) (0 : Int32) (0 : Int32) (0 : Int32) (0 : Int32) (0 : Int32) (0 : Int32) (0 : Int32) (0 : Int32) (0 : Int32) (0 : Int32) (0 : Int32) (0 : Int32) mm_start mm_off mm_last mm_passed mm_kept mm_keptMany (0 : Int32) mm_history mm_names mm_worked (0 : Int32) (0 : Int32) ((-1) : Int32) mm_readThing mm_readHour mm_readLow mm_readHigh (0 : Int32) (0 : Int32) (0 : Int32) mm_imageOff mm_imageLast mm_imagePassed mm_imageKept mm_imageMany mm_imageHistory k_mm_number (fun _ => 0) (fun _ => rfl)) (cwV 1 hT (gwV mw_7_199 mw_7_200 mw_7_201 mw_1_16 mw_7_202) rfl rfl rfl (by decide +kernel) ⟨Nat.le_of_ble_eq_true rfl, Nat.le_of_ble_eq_true rfl⟩) ⟨fun a U g mk q => by obtain ⟨q0, q1, qP, qK, qD⟩ := q; exact ⟨q0, q1, qP, va_K.moved (u := U) (U := U.calling g mk a) (Vm.Alike.refl U.vm) qK, qD⟩, va_recv hK hP (ci := 11) (q0 := 0) rfl rfl, fun U hU hW => ⟨rfl, by rw [hU], by rw [hU]; exact hPc, va_K.moved hW.alike hKc, hDc.weaken (fun _ _ _ _ => trivial)⟩⟩ rfl rfl hl.1 rfl (lv_room (Nat.le_of_ble_eq_true rfl)) dL_law_503 ⟨Nat.le_of_ble_eq_true rfl, Nat.le_of_ble_eq_true rfl⟩) hS (fun q _ h => hFc q h) hFc (fun r_8 u t H1 locs ht hvm hw hB hz1 hk1 hS => ?_)
    obtain ⟨hP1, hD1⟩ := hB
    rw [ht] at hP1
    obtain ⟨hP, hD⟩ := va_join (wr := [(xx, .inr (10, [.ref rr, .ref ta, .ref tb, .ref pa, .ref pb, .ref cn, .ref ci, .int 0, .ref cp, .ref ct, .ref hs, .ref rd, .ref wy, .ref ea, .ref eb]))]) (w1 := []) hP hD [0, 1] [2] rfl rfl (by decide) (by decide) hk1 hFc hP1 hD1
    generalize H1 = H at hP hS ⊢
    have hP : va_P (dC, dI) vwCl [(xx, .inr (10, [.ref rr, .ref ta, .ref tb, .ref pa, .ref pb, .ref cn, .ref ci, .int 0, .ref cp, .ref ct, .ref hs, .ref rd, .ref wy, .ref ea, .ref eb]))] H := hP
    have hD : va_D A [(xx, .inr (10, [.ref rr, .ref ta, .ref tb, .ref pa, .ref pb, .ref cn, .ref ci, .int 0, .ref cp, .ref ct, .ref hs, .ref rd, .ref wy, .ref ea, .ref eb]))] := hD
    clear hPc hDc hKc hFc hP1 hD1 hk1 hz1 ht hvm
    have hw : (r_8 = (xs 1) ∧ (0 ≤ (xs 1).toInt ∧ (xs 1).toInt ≤ 500)) ∨ (r_8 = -1 ∧ ((xs 1).toInt < 0 ∨ 500 < (xs 1).toInt)) := hw
    rcases hw with ⟨hrr_8, hfr_8⟩ | ⟨hrr_8, hfr_8⟩
    · subst r_8
      refine lv_icmp_eq (tgt := 1482) hx hb dL_law_506 (by decide) (fun c_9 => ?_) (fun c_9 => absurd c_9 (by simp))
      refine lv_iinc (v := 7) (lv' := [(4, .int 7), (3, .ref oo), (2, .ref mm), (1, .ref xx), (0, .ref b)]) hx hb dL_law_1482 hl (k := 0) rfl (by decide) (by decide) rfl (fun ls hl => ?_)
      refine lv_goto (tgt := 23) hx hb dL_law_1485 (by decide) ?_
      refine lv_iload hx hb dL_law_23 (lv_at hl 0 rfl) ?_
      refine lv_aload_n hx hb dL_law_25 rfl (lv_at hl 4 rfl) ?_
      refine va_slen hx hb hX hbl hbA hS dL_law_26 ?_
      refine lv_topi (fun z_10 ez_10 => ?_)
      obtain rfl : z_10 = 7 := ez_10.trans (by decide)
      refine lv_bipush (v := 7) hx hb dL_law_27 (by decide) ?_
      refine lv_isub hx hb dL_law_29 ?_
      refine lv_topi (fun z_11 ez_11 => ?_)
      obtain rfl : z_11 = 0 := ez_11.trans (by decide)
      refine lv_icmp_gt (tgt := 1488) hx hb dL_law_30 (by decide) (fun c_12 => ?_) (fun c_12 => absurd c_12 (by decide))
      refine lv_iconst (v := 1) hx hb dL_law_1488 (by decide) ?_
      refine va_forget (fun q hq => hAo _ (hS.2.2 q hq)) ?_
      refine W.widen (k := 600002) (n := 7302232) (Nat.le_of_ble_eq_true rfl) (Nat.le_of_ble_eq_true rfl) ?_
      exact lw_ret hx hb hr hlocks dL_law_1489
    · subst r_8
      exact False.elim (by omega)
  · subst r_4
    refine lv_aload_n hx hb dL_law_496 rfl (lv_at hl 2 rfl) ?_
    refine lv_aload_n hx hb dL_law_497 rfl (lv_at hl 4 rfl) ?_
    refine lv_iload hx hb dL_law_498 (lv_at hl 0 rfl) ?_
    refine lv_iconst (v := 1) hx hb dL_law_500 (by decide) ?_
    refine lv_iadd hx hb dL_law_501 ?_
    refine lv_topi (fun z_13 ez_13 => ?_)
    obtain rfl : z_13 = 1 := ez_13.trans (by decide)
    refine va_sld hx hb hX hbl hbA hS (pk_in 1 7 (by decide) (by decide) (by decide)) dL_law_502 ?_
    refine lv_topi (fun z_14 ez_14 => ?_)
    replace ez_14 : z_14 = xs 1 := ez_14
    subst z_14
    have hPc := hP.sub (ws' := [(mm, .inr (11, [.int 0, .ref mm_tape, .int 0, .ref mm_number, .ref mm_clockName, .ref mm_clockOff, .ref mm_clockGain, .ref mm_clockRough, .ref mm_personName, .ref mm_personOff, .ref mm_personGain, .ref mm_personRough, .ref mm_custom, .ref mm_customA, .ref mm_customB, .ref mm_ruleFrom, .ref mm_ruleTo, .ref mm_roundOf, .ref mm_roundAt, .ref mm_roundHour, .ref mm_gunAt, .ref mm_gunHour, .ref mm_knotSort, .ref mm_knotValue, .int 0, .int 0, .int 0, .int 0, .int 0, .int 0, .int 0, .int 0, .int 0, .int (-1), .int 0, .int 0, .int 0, .int 0, .int 0, .int 0, .int 0, .int 0, .int 0, .int 0, .int 0, .int 0, .ref mm_start, .ref mm_off, .ref mm_last, .ref mm_passed, .ref mm_kept, .ref mm_keptMany, .int 0, .int 0, .ref mm_history, .ref mm_names, .ref mm_worked, .int 0, .int 0, .int (-1), .ref mm_readThing, .ref mm_readHour, .ref mm_readLow, .ref mm_readHigh, .int 0, .int 0, .int 0, .ref mm_imageOff, .ref mm_imageLast, .ref mm_imagePassed, .ref mm_imageKept, .ref mm_imageMany, .ref mm_imageHistory])), (mm_number, .inl (k_mm_number, 10, .inl (fun _ => 0)))]) [0, 1] rfl
    have hDc := hD.sub (ws' := [(mm, .inr (11, [.int 0, .ref mm_tape, .int 0, .ref mm_number, .ref mm_clockName, .ref mm_clockOff, .ref mm_clockGain, .ref mm_clockRough, .ref mm_personName, .ref mm_personOff, .ref mm_personGain, .ref mm_personRough, .ref mm_custom, .ref mm_customA, .ref mm_customB, .ref mm_ruleFrom, .ref mm_ruleTo, .ref mm_roundOf, .ref mm_roundAt, .ref mm_roundHour, .ref mm_gunAt, .ref mm_gunHour, .ref mm_knotSort, .ref mm_knotValue, .int 0, .int 0, .int 0, .int 0, .int 0, .int 0, .int 0, .int 0, .int 0, .int (-1), .int 0, .int 0, .int 0, .int 0, .int 0, .int 0, .int 0, .int 0, .int 0, .int 0, .int 0, .int 0, .ref mm_start, .ref mm_off, .ref mm_last, .ref mm_passed, .ref mm_kept, .ref mm_keptMany, .int 0, .int 0, .ref mm_history, .ref mm_names, .ref mm_worked, .int 0, .int 0, .int (-1), .ref mm_readThing, .ref mm_readHour, .ref mm_readLow, .ref mm_readHigh, .int 0, .int 0, .int 0, .ref mm_imageOff, .ref mm_imageLast, .ref mm_imagePassed, .ref mm_imageKept, .ref mm_imageMany, .ref mm_imageHistory])), (mm_number, .inl (k_mm_number, 10, .inl (fun _ => 0)))]) [0, 1] (by decide) rfl
    have hKc := hK.sub (tys' := [(k_mm_number, .int)]) [1] rfl
    have hFc := va_free (wc := [(mm, .inr (11, [.int 0, .ref mm_tape, .int 0, .ref mm_number, .ref mm_clockName, .ref mm_clockOff, .ref mm_clockGain, .ref mm_clockRough, .ref mm_personName, .ref mm_personOff, .ref mm_personGain, .ref mm_personRough, .ref mm_custom, .ref mm_customA, .ref mm_customB, .ref mm_ruleFrom, .ref mm_ruleTo, .ref mm_roundOf, .ref mm_roundAt, .ref mm_roundHour, .ref mm_gunAt, .ref mm_gunHour, .ref mm_knotSort, .ref mm_knotValue, .int 0, .int 0, .int 0, .int 0, .int 0, .int 0, .int 0, .int 0, .int 0, .int (-1), .int 0, .int 0, .int 0, .int 0, .int 0, .int 0, .int 0, .int 0, .int 0, .int 0, .int 0, .int 0, .ref mm_start, .ref mm_off, .ref mm_last, .ref mm_passed, .ref mm_kept, .ref mm_keptMany, .int 0, .int 0, .ref mm_history, .ref mm_names, .ref mm_worked, .int 0, .int 0, .int (-1), .ref mm_readThing, .ref mm_readHour, .ref mm_readLow, .ref mm_readHigh, .int 0, .int 0, .int 0, .ref mm_imageOff, .ref mm_imageLast, .ref mm_imagePassed, .ref mm_imageKept, .ref mm_imageMany, .ref mm_imageHistory])), (mm_number, .inl (k_mm_number, 10, .inl (fun _ => 0)))]) hD hS hA [0, 1] rfl
    have := (by decide : (0 : Int32).toInt = 0)
    have := (by decide : (0 : Int32).toInt = 0)
    have := (by decide : (0 : Int32).toInt = 0)
    have := (by decide : (0 : Int32).toInt = 0)
    have := (by decide : (0 : Int32).toInt = 0)
    have := (by decide : (0 : Int32).toInt = 0)
    have := (by decide : (0 : Int32).toInt = 0)
    have := (by decide : (0 : Int32).toInt = 0)
    have := (by decide : (0 : Int32).toInt = 0)
    have := (by decide : (0 : Int32).toInt = 0)
    have := (by decide : (0 : Int32).toInt = 0)
    have := (by decide : ((-1) : Int32).toInt = -1)
    have := (by decide : (0 : Int32).toInt = 0)
    have := (by decide : (0 : Int32).toInt = 0)
    have := (by decide : (0 : Int32).toInt = 0)
    have := (by decide : (0 : Int32).toInt = 0)
    have := (by decide : (0 : Int32).toInt = 0)
    have := (by decide : (0 : Int32).toInt = 0)
    have := (by decide : (0 : Int32).toInt = 0)
    have := (by decide : (0 : Int32).toInt = 0)
    have := (by decide : (0 : Int32).toInt = 0)
    have := (by decide : (0 : Int32).toInt = 0)
    have := (by decide : (0 : Int32).toInt = 0)
    have := (by decide : (0 : Int32).toInt = 0)
    have := (by decide : (0 : Int32).toInt = 0)
    have := (by decide : (0 : Int32).toInt = 0)
    have := (by decide : (0 : Int32).toInt = 0)
    have := (by decide : ((-1) : Int32).toInt = -1)
    have := (by decide : (0 : Int32).toInt = 0)
    have := (by decide : (0 : Int32).toInt = 0)
    have := (by decide : (0 : Int32).toInt = 0)
    refine va_calli (va_runV (As := [.int (xs 1)]) (rest := [.int (-1)]) ⟨hx, hb, hml, hown, hT⟩ (c_X11_hours l dC dI H.size mm (xs 1) (0 : Int32) mm_tape (0 : Int32) mm_number mm_clockName mm_clockOff mm_clockGain mm_clockRough mm_personName mm_personOff mm_personGain mm_personRough mm_custom mm_customA mm_customB mm_ruleFrom mm_ruleTo mm_roundOf mm_roundAt mm_roundHour mm_gunAt mm_gunHour mm_knotSort mm_knotValue (0 : Int32) (0 : Int32) (0 : Int32) (0 : Int32) (0 : Int32) (0 : Int32) (0 : Int32) (0 : Int32) (0 : Int32) ((-1) : Int32) (0 : Int32) (0 : Int32) (0 : Int32) (0 : Int32) (0 : Int32) (0 : Int32) (0 : Int32) (0 : Int32) (0 : Int32) (0 : Int32) (0 : Int32) (0 : Int32) mm_start mm_off mm_last mm_passed mm_kept mm_keptMany (0 : Int32) mm_history mm_names mm_worked (0 : Int32) (0 : Int32) ((-1) : Int32) mm_readThing mm_readHour mm_readLow mm_readHigh (0 : Int32) (0 : Int32) (0 : Int32) mm_imageOff mm_imageLast mm_imagePassed mm_imageKept mm_imageMany mm_imageHistory k_mm_number (fun _ => 0) (fun _ => rfl)) (cwV 1 hT (gwV mw_7_199 mw_7_200 mw_7_201 mw_1_16 mw_7_202) rfl rfl rfl (by decide +kernel) ⟨Nat.le_of_ble_eq_true rfl, Nat.le_of_ble_eq_true rfl⟩) ⟨fun a U g mk q => by obtain ⟨q0, q1, qP, qK, qD⟩ := q; exact ⟨q0, q1, qP, va_K.moved (u := U) (U := U.calling g mk a) (Vm.Alike.refl U.vm) qK, qD⟩, va_recv hK hP (ci := 11) (q0 := 0) rfl rfl, fun U hU hW => ⟨rfl, by rw [hU], by rw [hU]; exact hPc, va_K.moved hW.alike hKc, hDc.weaken (fun _ _ _ _ => trivial)⟩⟩ rfl rfl hl.1 rfl (lv_room (Nat.le_of_ble_eq_true rfl)) dL_law_503 ⟨Nat.le_of_ble_eq_true rfl, Nat.le_of_ble_eq_true rfl⟩) hS (fun q _ h => hFc q h) hFc (fun r_16 u t H1 locs ht hvm hw hB hz1 hk1 hS => ?_)
    obtain ⟨hP1, hD1⟩ := hB
    rw [ht] at hP1
    obtain ⟨hP, hD⟩ := va_join (wr := [(xx, .inr (10, [.ref rr, .ref ta, .ref tb, .ref pa, .ref pb, .ref cn, .ref ci, .int 0, .ref cp, .ref ct, .ref hs, .ref rd, .ref wy, .ref ea, .ref eb]))]) (w1 := []) hP hD [0, 1] [2] rfl rfl (by decide) (by decide) hk1 hFc hP1 hD1
    generalize H1 = H at hP hS ⊢
    have hP : va_P (dC, dI) vwCl [(xx, .inr (10, [.ref rr, .ref ta, .ref tb, .ref pa, .ref pb, .ref cn, .ref ci, .int 0, .ref cp, .ref ct, .ref hs, .ref rd, .ref wy, .ref ea, .ref eb]))] H := hP
    have hD : va_D A [(xx, .inr (10, [.ref rr, .ref ta, .ref tb, .ref pa, .ref pb, .ref cn, .ref ci, .int 0, .ref cp, .ref ct, .ref hs, .ref rd, .ref wy, .ref ea, .ref eb]))] := hD
    clear hPc hDc hKc hFc hP1 hD1 hk1 hz1 ht hvm
    have hw : (r_16 = (xs 1) ∧ (0 ≤ (xs 1).toInt ∧ (xs 1).toInt ≤ 500)) ∨ (r_16 = -1 ∧ ((xs 1).toInt < 0 ∨ 500 < (xs 1).toInt)) := hw
    rcases hw with ⟨hrr_16, hfr_16⟩ | ⟨hrr_16, hfr_16⟩
    · subst r_16
      exact False.elim (by omega)
    · subst r_16
      refine lv_icmp_eq (tgt := 1482) hx hb dL_law_506 (by decide) (fun c_17 => ?_) (fun c_17 => absurd c_17 (by decide))
      refine lv_iinc (v := 7) (lv' := [(4, .int 7), (3, .ref oo), (2, .ref mm), (1, .ref xx), (0, .ref b)]) hx hb dL_law_1482 hl (k := 0) rfl (by decide) (by decide) rfl (fun ls hl => ?_)
      refine lv_goto (tgt := 23) hx hb dL_law_1485 (by decide) ?_
      refine lv_iload hx hb dL_law_23 (lv_at hl 0 rfl) ?_
      refine lv_aload_n hx hb dL_law_25 rfl (lv_at hl 4 rfl) ?_
      refine va_slen hx hb hX hbl hbA hS dL_law_26 ?_
      refine lv_topi (fun z_18 ez_18 => ?_)
      obtain rfl : z_18 = 7 := ez_18.trans (by decide)
      refine lv_bipush (v := 7) hx hb dL_law_27 (by decide) ?_
      refine lv_isub hx hb dL_law_29 ?_
      refine lv_topi (fun z_19 ez_19 => ?_)
      obtain rfl : z_19 = 0 := ez_19.trans (by decide)
      refine lv_icmp_gt (tgt := 1488) hx hb dL_law_30 (by decide) (fun c_20 => ?_) (fun c_20 => absurd c_20 (by decide))
      refine lv_iconst (v := 1) hx hb dL_law_1488 (by decide) ?_
      refine va_forget (fun q hq => hAo _ (hS.2.2 q hq)) ?_
      refine W.widen (k := 600002) (n := 7302232) (Nat.le_of_ble_eq_true rfl) (Nat.le_of_ble_eq_true rfl) ?_
      exact lw_ret hx hb hr hlocks dL_law_1489
