theorem dX8_things_0 : decode cX8_things 0 = .ok (.aload_n 0, 1) := by decide +kernel
theorem dX8_things_1 : decode cX8_things 1 = .ok (.getfield 55, 3) := by decide +kernel
theorem dX8_things_4 : decode cX8_things 4 = .ok (.aload_n 0, 1) := by decide +kernel
theorem dX8_things_5 : decode cX8_things 5 = .ok (.getfield 59, 3) := by decide +kernel
theorem dX8_things_9 : decode cX8_things 9 = .ok (.ireturn, 1) := by decide +kernel
theorem dX8_things_8 : decode cX8_things 8 = .ok (.iadd, 1) := by decide +kernel
theorem dX8_hasClock_0 : decode cX8_hasClock 0 = .ok (.iload_n 1, 1) := by decide +kernel
theorem dX8_hasClock_16 : decode cX8_hasClock 16 = .ok (.iconst 0, 1) := by decide +kernel
theorem dX8_hasClock_17 : decode cX8_hasClock 17 = .ok (.ireturn, 1) := by decide +kernel
theorem dX8_hasClock_4 : decode cX8_hasClock 4 = .ok (.iload_n 1, 1) := by decide +kernel
theorem dX8_hasClock_5 : decode cX8_hasClock 5 = .ok (.aload_n 0, 1) := by decide +kernel
theorem dX8_hasClock_6 : decode cX8_hasClock 6 = .ok (.getfield 55, 3) := by decide +kernel
theorem dX8_hasClock_12 : decode cX8_hasClock 12 = .ok (.iconst 1, 1) := by decide +kernel
theorem dX8_hasClock_13 : decode cX8_hasClock 13 = .ok (.goto 4, 3) := by decide +kernel
theorem dX8_hasClock_1 : decode cX8_hasClock 1 = .ok (.ifCond .lt 15, 3) := by decide +kernel
theorem dX8_hasClock_9 : decode cX8_hasClock 9 = .ok (.if_icmp .ge 7, 3) := by decide +kernel
theorem dX8_hasPerson_0 : decode cX8_hasPerson 0 = .ok (.iload_n 1, 1) := by decide +kernel
theorem dX8_hasPerson_16 : decode cX8_hasPerson 16 = .ok (.iconst 0, 1) := by decide +kernel
theorem dX8_hasPerson_17 : decode cX8_hasPerson 17 = .ok (.ireturn, 1) := by decide +kernel
theorem dX8_hasPerson_4 : decode cX8_hasPerson 4 = .ok (.iload_n 1, 1) := by decide +kernel
theorem dX8_hasPerson_5 : decode cX8_hasPerson 5 = .ok (.aload_n 0, 1) := by decide +kernel
theorem dX8_hasPerson_6 : decode cX8_hasPerson 6 = .ok (.getfield 59, 3) := by decide +kernel
theorem dX8_hasPerson_12 : decode cX8_hasPerson 12 = .ok (.iconst 1, 1) := by decide +kernel
theorem dX8_hasPerson_13 : decode cX8_hasPerson 13 = .ok (.goto 4, 3) := by decide +kernel
theorem dX8_hasPerson_1 : decode cX8_hasPerson 1 = .ok (.ifCond .lt 15, 3) := by decide +kernel
theorem dX8_hasPerson_9 : decode cX8_hasPerson 9 = .ok (.if_icmp .ge 7, 3) := by decide +kernel
theorem dX8_slotOf_0 : decode cX8_slotOf 0 = .ok (.iload_n 1, 1) := by decide +kernel
theorem dX8_slotOf_12 : decode cX8_slotOf 12 = .ok (.iconst (-1), 1) := by decide +kernel
theorem dX8_slotOf_13 : decode cX8_slotOf 13 = .ok (.ireturn, 1) := by decide +kernel
theorem dX8_slotOf_4 : decode cX8_slotOf 4 = .ok (.iload_n 1, 1) := by decide +kernel
theorem dX8_slotOf_5 : decode cX8_slotOf 5 = .ok (.aload_n 0, 1) := by decide +kernel
theorem dX8_slotOf_6 : decode cX8_slotOf 6 = .ok (.invokevirtual 80, 3) := by decide +kernel
theorem dX8_slotOf_14 : decode cX8_slotOf 14 = .ok (.iload_n 1, 1) := by decide +kernel
theorem dX8_slotOf_15 : decode cX8_slotOf 15 = .ok (.aload_n 0, 1) := by decide +kernel
theorem dX8_slotOf_16 : decode cX8_slotOf 16 = .ok (.getfield 55, 3) := by decide +kernel
theorem dX8_slotOf_26 : decode cX8_slotOf 26 = .ok (.iconst 5, 1) := by decide +kernel
theorem dX8_slotOf_27 : decode cX8_slotOf 27 = .ok (.iload_n 1, 1) := by decide +kernel
theorem dX8_slotOf_29 : decode cX8_slotOf 29 = .ok (.aload_n 0, 1) := by decide +kernel
theorem dX8_slotOf_30 : decode cX8_slotOf 30 = .ok (.getfield 55, 3) := by decide +kernel
theorem dX8_slotOf_34 : decode cX8_slotOf 34 = .ok (.ireturn, 1) := by decide +kernel
theorem dX8_slotOf_22 : decode cX8_slotOf 22 = .ok (.iload_n 1, 1) := by decide +kernel
theorem dX8_slotOf_23 : decode cX8_slotOf 23 = .ok (.goto 11, 3) := by decide +kernel
theorem dX8_slotOf_1 : decode cX8_slotOf 1 = .ok (.ifCond .lt 11, 3) := by decide +kernel
theorem dX8_slotOf_9 : decode cX8_slotOf 9 = .ok (.if_icmp .lt 5, 3) := by decide +kernel
theorem dX8_slotOf_19 : decode cX8_slotOf 19 = .ok (.if_icmp .ge 7, 3) := by decide +kernel
theorem dX8_slotOf_28 : decode cX8_slotOf 28 = .ok (.iadd, 1) := by decide +kernel
theorem dX8_slotOf_33 : decode cX8_slotOf 33 = .ok (.isub, 1) := by decide +kernel
theorem dX8_isRough_0 : decode cX8_isRough 0 = .ok (.iload_n 1, 1) := by decide +kernel
theorem dX8_isRough_1 : decode cX8_isRough 1 = .ok (.iconst 5, 1) := by decide +kernel
theorem dX8_isRough_13 : decode cX8_isRough 13 = .ok (.aload_n 0, 1) := by decide +kernel
theorem dX8_isRough_14 : decode cX8_isRough 14 = .ok (.iload_n 1, 1) := by decide +kernel
theorem dX8_isRough_15 : decode cX8_isRough 15 = .ok (.iconst 5, 1) := by decide +kernel
theorem dX8_isRough_17 : decode cX8_isRough 17 = .ok (.invokevirtual 88, 3) := by decide +kernel
theorem dX8_isRough_20 : decode cX8_isRough 20 = .ok (.istore_n 2, 1) := by decide +kernel
theorem dX8_isRough_21 : decode cX8_isRough 21 = .ok (.iload_n 2, 1) := by decide +kernel
theorem dX8_isRough_25 : decode cX8_isRough 25 = .ok (.aload_n 0, 1) := by decide +kernel
theorem dX8_isRough_26 : decode cX8_isRough 26 = .ok (.getfield 21, 3) := by decide +kernel
theorem dX8_isRough_29 : decode cX8_isRough 29 = .ok (.iload_n 1, 1) := by decide +kernel
theorem dX8_isRough_38 : decode cX8_isRough 38 = .ok (.iconst 0, 1) := by decide +kernel
theorem dX8_isRough_39 : decode cX8_isRough 39 = .ok (.ireturn, 1) := by decide +kernel
theorem dX8_isRough_34 : decode cX8_isRough 34 = .ok (.iconst 1, 1) := by decide +kernel
theorem dX8_isRough_35 : decode cX8_isRough 35 = .ok (.goto 4, 3) := by decide +kernel
theorem dX8_isRough_5 : decode cX8_isRough 5 = .ok (.aload_n 0, 1) := by decide +kernel
theorem dX8_isRough_6 : decode cX8_isRough 6 = .ok (.iload_n 1, 1) := by decide +kernel
theorem dX8_isRough_7 : decode cX8_isRough 7 = .ok (.invokevirtual 84, 3) := by decide +kernel
theorem dX8_isRough_10 : decode cX8_isRough 10 = .ok (.goto 10, 3) := by decide +kernel
theorem dX8_isRough_2 : decode cX8_isRough 2 = .ok (.if_icmp .ge 11, 3) := by decide +kernel
theorem dX8_isRough_16 : decode cX8_isRough 16 = .ok (.isub, 1) := by decide +kernel
theorem dX8_isRough_22 : decode cX8_isRough 22 = .ok (.ifCond .eq 16, 3) := by decide +kernel
theorem dX8_isRough_30 : decode cX8_isRough 30 = .ok (.iaload, 1) := by decide +kernel
theorem dX8_isRough_31 : decode cX8_isRough 31 = .ok (.ifCond .le 7, 3) := by decide +kernel
theorem dX8_find_0 : decode cX8_find 0 = .ok (.iconst 0, 1) := by decide +kernel
theorem dX8_find_1 : decode cX8_find 1 = .ok (.istore 4, 2) := by decide +kernel
theorem dX8_find_3 : decode cX8_find 3 = .ok (.iload 4, 2) := by decide +kernel
theorem dX8_find_5 : decode cX8_find 5 = .ok (.iload_n 2, 1) := by decide +kernel
theorem dX8_find_31 : decode cX8_find 31 = .ok (.iconst (-1), 1) := by decide +kernel
theorem dX8_find_32 : decode cX8_find 32 = .ok (.ireturn, 1) := by decide +kernel
theorem dX8_find_9 : decode cX8_find 9 = .ok (.aload_n 0, 1) := by decide +kernel
theorem dX8_find_10 : decode cX8_find 10 = .ok (.getfield 9, 3) := by decide +kernel
theorem dX8_find_13 : decode cX8_find 13 = .ok (.iload_n 1, 1) := by decide +kernel
theorem dX8_find_14 : decode cX8_find 14 = .ok (.iload 4, 2) := by decide +kernel
theorem dX8_find_18 : decode cX8_find 18 = .ok (.iload_n 3, 1) := by decide +kernel
theorem dX8_find_28 : decode cX8_find 28 = .ok (.goto (-25), 3) := by decide +kernel
theorem dX8_find_22 : decode cX8_find 22 = .ok (.iload 4, 2) := by decide +kernel
theorem dX8_find_24 : decode cX8_find 24 = .ok (.ireturn, 1) := by decide +kernel
theorem dX8_find_6 : decode cX8_find 6 = .ok (.if_icmp .ge 25, 3) := by decide +kernel
theorem dX8_find_16 : decode cX8_find 16 = .ok (.iadd, 1) := by decide +kernel
theorem dX8_find_17 : decode cX8_find 17 = .ok (.iaload, 1) := by decide +kernel
theorem dX8_find_19 : decode cX8_find 19 = .ok (.if_icmp .ne 6, 3) := by decide +kernel
theorem dX8_find_25 : decode cX8_find 25 = .ok (.iinc 4 1, 3) := by decide +kernel
theorem dX10_isWithin_0 : decode cX10_isWithin 0 = .ok (.iload_n 0, 1) := by decide +kernel
theorem dX10_isWithin_1 : decode cX10_isWithin 1 = .ok (.iload_n 1, 1) := by decide +kernel
theorem dX10_isWithin_14 : decode cX10_isWithin 14 = .ok (.iconst 0, 1) := by decide +kernel
theorem dX10_isWithin_15 : decode cX10_isWithin 15 = .ok (.ireturn, 1) := by decide +kernel
theorem dX10_isWithin_5 : decode cX10_isWithin 5 = .ok (.iload_n 0, 1) := by decide +kernel
theorem dX10_isWithin_6 : decode cX10_isWithin 6 = .ok (.iload_n 2, 1) := by decide +kernel
theorem dX10_isWithin_10 : decode cX10_isWithin 10 = .ok (.iconst 1, 1) := by decide +kernel
theorem dX10_isWithin_11 : decode cX10_isWithin 11 = .ok (.goto 4, 3) := by decide +kernel
theorem dX10_isWithin_2 : decode cX10_isWithin 2 = .ok (.if_icmp .lt 12, 3) := by decide +kernel
theorem dX10_isWithin_7 : decode cX10_isWithin 7 = .ok (.if_icmp .gt 7, 3) := by decide +kernel
abbrev q_X8_things (dC : Nat → ClassId) (dI : Nat → Nat → Nat) (A : Nat → Prop) (td : Nat) (td_clocks : Int32) (td_people : Int32) (td_rounds : Int32) (td_guns : Int32) (td_lines : Int32) (td_name : Nat) (td_first : Nat) (td_gain : Nat) (td_rough : Nat) (td_custom : Nat) (td_part : Nat) (td_whole : Nat) (td_roundPerson : Nat) (td_roundClock : Nat) (td_roundHour : Nat) (td_gunClock : Nat) (td_gunHour : Nat) (td_rules : Nat) : Array Value → State → Outcome → State → Prop := va_Qi (fun (r : Int32) (_ : Unit) => (0 ≤ r.toInt ∧ r.toInt ≤ 10) ∧ (r.toInt = td_clocks.toInt + td_people.toInt)) (fun (_ : Unit) (t : State) => va_P (dC, dI) vwCl [(td, .inr (8, [.int td_clocks, .int td_people, .int td_rounds, .int td_guns, .int td_lines, .ref td_name, .ref td_first, .ref td_gain, .ref td_rough, .ref td_custom, .ref td_part, .ref td_whole, .ref td_roundPerson, .ref td_roundClock, .ref td_roundHour, .ref td_gunClock, .ref td_gunHour, .ref td_rules]))] t.heap ∧ va_D A [(td, .inr (8, [.int td_clocks, .int td_people, .int td_rounds, .int td_guns, .int td_lines, .ref td_name, .ref td_first, .ref td_gain, .ref td_rough, .ref td_custom, .ref td_part, .ref td_whole, .ref td_roundPerson, .ref td_roundClock, .ref td_roundHour, .ref td_gunClock, .ref td_gunHour, .ref td_rules]))]) A
set_option maxHeartbeats 4000000 in
set_option maxRecDepth 100000 in
theorem c_X8_things (l : Launch) (dC : Nat → ClassId) (dI : Nat → Nat → Nat) (sz : Nat) (td : Nat) (td_clocks : Int32) (td_people : Int32) (td_rounds : Int32) (td_guns : Int32) (td_lines : Int32) (td_name : Nat) (td_first : Nat) (td_gain : Nat) (td_rough : Nat) (td_custom : Nat) (td_part : Nat) (td_whole : Nat) (td_roundPerson : Nat) (td_roundClock : Nat) (td_roundHour : Nat) (td_gunClock : Nat) (td_gunHour : Nat) (td_rules : Nat) (h_td_clocks : 0 ≤ td_clocks.toInt ∧ td_clocks.toInt ≤ 5) (h_td_people : 0 ≤ td_people.toInt ∧ td_people.toInt ≤ 5) (h_td_rounds : 0 ≤ td_rounds.toInt ∧ td_rounds.toInt ≤ 12) (h_td_guns : 0 ≤ td_guns.toInt ∧ td_guns.toInt ≤ 3) : Met l yX8_things (pw_w yX8_things cX8_things 1 (some .int)) ({ frames := 0, cells := 0, slots := 0, locals := 0 }) (va_Pc [.ref td] (fun U => U.heap.size = sz ∧ va_P (dC, dI) vwCl [(td, .inr (8, [.int td_clocks, .int td_people, .int td_rounds, .int td_guns, .int td_lines, .ref td_name, .ref td_first, .ref td_gain, .ref td_rough, .ref td_custom, .ref td_part, .ref td_whole, .ref td_roundPerson, .ref td_roundClock, .ref td_roundHour, .ref td_gunClock, .ref td_gunHour, .ref td_rules]))] U.heap ∧ va_K (dC, dI) vwCl [] U ∧ va_D (fun _ => True) [(td, .inr (8, [.int td_clocks, .int td_people, .int td_rounds, .int td_guns, .int td_lines, .ref td_name, .ref td_first, .ref td_gain, .ref td_rough, .ref td_custom, .ref td_part, .ref td_whole, .ref td_roundPerson, .ref td_roundClock, .ref td_roundHour, .ref td_gunClock, .ref td_gunHour, .ref td_rules]))])) (q_X8_things dC dI (va_A [(td, .inr (8, [.int td_clocks, .int td_people, .int td_rounds, .int td_guns, .int td_lines, .ref td_name, .ref td_first, .ref td_gain, .ref td_rough, .ref td_custom, .ref td_part, .ref td_whole, .ref td_roundPerson, .ref td_roundClock, .ref td_roundHour, .ref td_gunClock, .ref td_gunHour, .ref td_rules]))] sz) td td_clocks td_people td_rounds td_guns td_lines td_name td_first td_gain td_rough td_custom td_part td_whole td_roundPerson td_roundClock td_roundHour td_gunClock td_gunHour td_rules) 0 0 (va_A [(td, .inr (8, [.int td_clocks, .int td_people, .int td_rounds, .int td_guns, .int td_lines, .ref td_name, .ref td_first, .ref td_gain, .ref td_rough, .ref td_custom, .ref td_part, .ref td_whole, .ref td_roundPerson, .ref td_roundClock, .ref td_roundHour, .ref td_gunClock, .ref td_gunHour, .ref td_rules]))] sz) := by
  refine Met.ofW (cc := cX8_things) (maxL := 1) (ret := (some .int)) (by decide) rfl ?_
  intro p e s m args below meth c s₁ B hml hv
  obtain ⟨rfl, hsz, hP, hK, hD0⟩ := hv
  have hx := B.exec
  have hb := B.bytes
  have hr := B.returns
  have hts := atoms_spec (ws := (pw_w yX8_things cX8_things 1 (some .int))) B.pre
  have hT : ∀ w ∈ pw_T, w.before _ s = true := fun w h => hts w (List.mem_cons_of_mem _ h)
  have hown : s.vm.findClass RX8 = some m.cls := findClass_of_methodNamed B.named
  have hlocks := B.notSynchronized
  subst hsz
  have hD := hD0.self (sz := s.heap.size)
  generalize hAe : va_A [(td, .inr (8, [.int td_clocks, .int td_people, .int td_rounds, .int td_guns, .int td_lines, .ref td_name, .ref td_first, .ref td_gain, .ref td_rough, .ref td_custom, .ref td_part, .ref td_whole, .ref td_roundPerson, .ref td_roundClock, .ref td_roundHour, .ref td_gunClock, .ref td_gunHour, .ref td_rules]))] s.heap.size = A at hD ⊢
  have hA : ∀ q : Nat, s.heap.size ≤ q → A q := fun q h => by rw [← hAe]; exact Or.inr h
  have hS : va_S A s.heap s.heap [] := va_S.rf
  have hP : va_P (dC, dI) vwCl [(td, .inr (8, [.int td_clocks, .int td_people, .int td_rounds, .int td_guns, .int td_lines, .ref td_name, .ref td_first, .ref td_gain, .ref td_rough, .ref td_custom, .ref td_part, .ref td_whole, .ref td_roundPerson, .ref td_roundClock, .ref td_roundHour, .ref td_gunClock, .ref td_gunHour, .ref td_rules]))] s.heap := hP
  have hl := lv_entry ([.ref td]) (n := 1) (Nat.le_of_ble_eq_true rfl)
  rw [lg_entry_eq]
  generalize (lg_sl ([.ref td]) ++ List.replicate (1 - (lg_sl ([.ref td])).length) Slot.unset).toArray = ls at hl ⊢
  have hl : lv_has ls 1 [(0, .ref td)] := hl
  refine lv_aload_n hx hb dX8_things_0 rfl (lv_at hl 0 rfl) ?_
  refine va_get (D := (dC, dI)) (ci := 8) (v := .int td_clocks) (C := RX8) (T := TX8) (N := 18) hx hb hT inX8 hown hK hP 0 rfl rfl 0 (by decide) (hT _ mw_1_190) (fun _ h9 => h9) rfl dX8_things_1 ?_
  refine lv_aload_n hx hb dX8_things_4 rfl (lv_at hl 0 rfl) ?_
  refine va_get (D := (dC, dI)) (ci := 8) (v := .int td_people) (C := RX8) (T := TX8) (N := 18) hx hb hT inX8 hown hK hP 0 rfl rfl 1 (by decide) (hT _ mw_1_193) (fun _ h9 => h9) rfl dX8_things_5 ?_
  refine lv_iadd hx hb dX8_things_8 ?_
  refine lv_topi (fun z_1 ez_1 => ?_)
  have kz_1 : z_1.toInt = td_clocks.toInt + td_people.toInt := ti_add ez_1 rfl rfl (by omega) (by omega)
  clear ez_1
  have hP9 := hP.sub (ws' := [(td, .inr (8, [.int td_clocks, .int td_people, .int td_rounds, .int td_guns, .int td_lines, .ref td_name, .ref td_first, .ref td_gain, .ref td_rough, .ref td_custom, .ref td_part, .ref td_whole, .ref td_roundPerson, .ref td_roundClock, .ref td_roundHour, .ref td_gunClock, .ref td_gunHour, .ref td_rules]))]) [0] rfl
  have hD9 := hD.sub (ws' := [(td, .inr (8, [.int td_clocks, .int td_people, .int td_rounds, .int td_guns, .int td_lines, .ref td_name, .ref td_first, .ref td_gain, .ref td_rough, .ref td_custom, .ref td_part, .ref td_whole, .ref td_roundPerson, .ref td_roundClock, .ref td_roundHour, .ref td_gunClock, .ref td_gunHour, .ref td_rules]))]) [0] (by decide) rfl
  exact W.iret (v := z_1) hx hb hr (fun t ht hW => ⟨⟨z_1, (), rfl, (by first | omega | (refine ⟨?_, ?_⟩ <;> omega) | rfl | (intros; omega)), by rw [ht]; exact hP9, hD9⟩, hS.F ht⟩) hS.2.2 dX8_things_9
abbrev q_X8_hasClock (dC : Nat → ClassId) (dI : Nat → Nat → Nat) (A : Nat → Prop) (td : Nat) (vk : Int32) (td_clocks : Int32) (td_people : Int32) (td_rounds : Int32) (td_guns : Int32) (td_lines : Int32) (td_name : Nat) (td_first : Nat) (td_gain : Nat) (td_rough : Nat) (td_custom : Nat) (td_part : Nat) (td_whole : Nat) (td_roundPerson : Nat) (td_roundClock : Nat) (td_roundHour : Nat) (td_gunClock : Nat) (td_gunHour : Nat) (td_rules : Nat) : Array Value → State → Outcome → State → Prop := va_Qi (fun (r : Int32) (_ : Unit) => (r = 1 ∧ (0 ≤ vk.toInt ∧ vk.toInt < td_clocks.toInt)) ∨ (r = 0 ∧ (vk.toInt < 0 ∨ td_clocks.toInt ≤ vk.toInt))) (fun (_ : Unit) (t : State) => va_P (dC, dI) vwCl [(td, .inr (8, [.int td_clocks, .int td_people, .int td_rounds, .int td_guns, .int td_lines, .ref td_name, .ref td_first, .ref td_gain, .ref td_rough, .ref td_custom, .ref td_part, .ref td_whole, .ref td_roundPerson, .ref td_roundClock, .ref td_roundHour, .ref td_gunClock, .ref td_gunHour, .ref td_rules]))] t.heap ∧ va_D A [(td, .inr (8, [.int td_clocks, .int td_people, .int td_rounds, .int td_guns, .int td_lines, .ref td_name, .ref td_first, .ref td_gain, .ref td_rough, .ref td_custom, .ref td_part, .ref td_whole, .ref td_roundPerson, .ref td_roundClock, .ref td_roundHour, .ref td_gunClock, .ref td_gunHour, .ref td_rules]))]) A
set_option maxHeartbeats 4000000 in
set_option maxRecDepth 100000 in
theorem c_X8_hasClock (l : Launch) (dC : Nat → ClassId) (dI : Nat → Nat → Nat) (sz : Nat) (td : Nat) (vk : Int32) (td_clocks : Int32) (td_people : Int32) (td_rounds : Int32) (td_guns : Int32) (td_lines : Int32) (td_name : Nat) (td_first : Nat) (td_gain : Nat) (td_rough : Nat) (td_custom : Nat) (td_part : Nat) (td_whole : Nat) (td_roundPerson : Nat) (td_roundClock : Nat) (td_roundHour : Nat) (td_gunClock : Nat) (td_gunHour : Nat) (td_rules : Nat) (h_td_clocks : 0 ≤ td_clocks.toInt ∧ td_clocks.toInt ≤ 5) (h_td_people : 0 ≤ td_people.toInt ∧ td_people.toInt ≤ 5) (h_td_rounds : 0 ≤ td_rounds.toInt ∧ td_rounds.toInt ≤ 12) (h_td_guns : 0 ≤ td_guns.toInt ∧ td_guns.toInt ≤ 3) : Met l yX8_hasClock (pw_w yX8_hasClock cX8_hasClock 2 (some .boolean)) ({ frames := 0, cells := 0, slots := 0, locals := 0 }) (va_Pc [.ref td, .int vk] (fun U => U.heap.size = sz ∧ va_P (dC, dI) vwCl [(td, .inr (8, [.int td_clocks, .int td_people, .int td_rounds, .int td_guns, .int td_lines, .ref td_name, .ref td_first, .ref td_gain, .ref td_rough, .ref td_custom, .ref td_part, .ref td_whole, .ref td_roundPerson, .ref td_roundClock, .ref td_roundHour, .ref td_gunClock, .ref td_gunHour, .ref td_rules]))] U.heap ∧ va_K (dC, dI) vwCl [] U ∧ va_D (fun _ => True) [(td, .inr (8, [.int td_clocks, .int td_people, .int td_rounds, .int td_guns, .int td_lines, .ref td_name, .ref td_first, .ref td_gain, .ref td_rough, .ref td_custom, .ref td_part, .ref td_whole, .ref td_roundPerson, .ref td_roundClock, .ref td_roundHour, .ref td_gunClock, .ref td_gunHour, .ref td_rules]))])) (q_X8_hasClock dC dI (va_A [(td, .inr (8, [.int td_clocks, .int td_people, .int td_rounds, .int td_guns, .int td_lines, .ref td_name, .ref td_first, .ref td_gain, .ref td_rough, .ref td_custom, .ref td_part, .ref td_whole, .ref td_roundPerson, .ref td_roundClock, .ref td_roundHour, .ref td_gunClock, .ref td_gunHour, .ref td_rules]))] sz) td vk td_clocks td_people td_rounds td_guns td_lines td_name td_first td_gain td_rough td_custom td_part td_whole td_roundPerson td_roundClock td_roundHour td_gunClock td_gunHour td_rules) 0 0 (va_A [(td, .inr (8, [.int td_clocks, .int td_people, .int td_rounds, .int td_guns, .int td_lines, .ref td_name, .ref td_first, .ref td_gain, .ref td_rough, .ref td_custom, .ref td_part, .ref td_whole, .ref td_roundPerson, .ref td_roundClock, .ref td_roundHour, .ref td_gunClock, .ref td_gunHour, .ref td_rules]))] sz) := by
  refine Met.ofW (cc := cX8_hasClock) (maxL := 2) (ret := (some .boolean)) (by decide) rfl ?_
  intro p e s m args below meth c s₁ B hml hv
  obtain ⟨rfl, hsz, hP, hK, hD0⟩ := hv
  have hx := B.exec
  have hb := B.bytes
  have hr := B.returns
  have hts := atoms_spec (ws := (pw_w yX8_hasClock cX8_hasClock 2 (some .boolean))) B.pre
  have hT : ∀ w ∈ pw_T, w.before _ s = true := fun w h => hts w (List.mem_cons_of_mem _ h)
  have hown : s.vm.findClass RX8 = some m.cls := findClass_of_methodNamed B.named
  have hlocks := B.notSynchronized
  subst hsz
  have hD := hD0.self (sz := s.heap.size)
  generalize hAe : va_A [(td, .inr (8, [.int td_clocks, .int td_people, .int td_rounds, .int td_guns, .int td_lines, .ref td_name, .ref td_first, .ref td_gain, .ref td_rough, .ref td_custom, .ref td_part, .ref td_whole, .ref td_roundPerson, .ref td_roundClock, .ref td_roundHour, .ref td_gunClock, .ref td_gunHour, .ref td_rules]))] s.heap.size = A at hD ⊢
  have hA : ∀ q : Nat, s.heap.size ≤ q → A q := fun q h => by rw [← hAe]; exact Or.inr h
  have hS : va_S A s.heap s.heap [] := va_S.rf
  have hP : va_P (dC, dI) vwCl [(td, .inr (8, [.int td_clocks, .int td_people, .int td_rounds, .int td_guns, .int td_lines, .ref td_name, .ref td_first, .ref td_gain, .ref td_rough, .ref td_custom, .ref td_part, .ref td_whole, .ref td_roundPerson, .ref td_roundClock, .ref td_roundHour, .ref td_gunClock, .ref td_gunHour, .ref td_rules]))] s.heap := hP
  have hl := lv_entry ([.ref td, .int vk]) (n := 2) (Nat.le_of_ble_eq_true rfl)
  rw [lg_entry_eq]
  generalize (lg_sl ([.ref td, .int vk]) ++ List.replicate (2 - (lg_sl ([.ref td, .int vk])).length) Slot.unset).toArray = ls at hl ⊢
  have hl : lv_has ls 2 [(0, .ref td), (1, .int vk)] := hl
  refine lv_iload_n hx hb dX8_hasClock_0 rfl (lv_at hl 1 rfl) ?_
  refine lv_if_lt (tgt := 16) hx hb dX8_hasClock_1 (by decide) (fun c_1 => ?_) (fun c_1 => ?_)
  · have kc_1 := il_lt c_1
    have := (by decide : (0 : Int32).toInt = 0)
    refine lv_iconst (v := 0) hx hb dX8_hasClock_16 (by decide) ?_
    have hP9 := hP.sub (ws' := [(td, .inr (8, [.int td_clocks, .int td_people, .int td_rounds, .int td_guns, .int td_lines, .ref td_name, .ref td_first, .ref td_gain, .ref td_rough, .ref td_custom, .ref td_part, .ref td_whole, .ref td_roundPerson, .ref td_roundClock, .ref td_roundHour, .ref td_gunClock, .ref td_gunHour, .ref td_rules]))]) [0] rfl
    have hD9 := hD.sub (ws' := [(td, .inr (8, [.int td_clocks, .int td_people, .int td_rounds, .int td_guns, .int td_lines, .ref td_name, .ref td_first, .ref td_gain, .ref td_rough, .ref td_custom, .ref td_part, .ref td_whole, .ref td_roundPerson, .ref td_roundClock, .ref td_roundHour, .ref td_gunClock, .ref td_gunHour, .ref td_rules]))]) [0] (by decide) rfl
    have := (by decide : (0 : Int32).toInt = 0)
    exact W.zret (v := 0) hx hb hr (by decide) (fun t ht hW => ⟨⟨0, (), rfl, (by first | exact Or.inl ⟨rfl, by first | omega | trivial⟩ | exact Or.inl ⟨Int32.toInt_inj.mp (by omega), by first | omega | trivial⟩ | exact Or.inr (⟨rfl, by first | omega | trivial⟩) | exact Or.inr (⟨Int32.toInt_inj.mp (by omega), by first | omega | trivial⟩)), by rw [ht]; exact hP9, hD9⟩, hS.F ht⟩) hS.2.2 dX8_hasClock_17
  · have kc_1 := il_nlt c_1
    have := (by decide : (0 : Int32).toInt = 0)
    refine lv_iload_n hx hb dX8_hasClock_4 rfl (lv_at hl 1 rfl) ?_
    refine lv_aload_n hx hb dX8_hasClock_5 rfl (lv_at hl 0 rfl) ?_
    refine va_get (D := (dC, dI)) (ci := 8) (v := .int td_clocks) (C := RX8) (T := TX8) (N := 18) hx hb hT inX8 hown hK hP 0 rfl rfl 0 (by decide) (hT _ mw_1_190) (fun _ h9 => h9) rfl dX8_hasClock_6 ?_
    refine lv_icmp_ge (tgt := 16) hx hb dX8_hasClock_9 (by decide) (fun c_2 => ?_) (fun c_2 => ?_)
    · have kc_2 := il_le c_2
      have := Int32.toInt_lt vk; have := Int32.le_toInt vk
      refine lv_iconst (v := 0) hx hb dX8_hasClock_16 (by decide) ?_
      have hP9 := hP.sub (ws' := [(td, .inr (8, [.int td_clocks, .int td_people, .int td_rounds, .int td_guns, .int td_lines, .ref td_name, .ref td_first, .ref td_gain, .ref td_rough, .ref td_custom, .ref td_part, .ref td_whole, .ref td_roundPerson, .ref td_roundClock, .ref td_roundHour, .ref td_gunClock, .ref td_gunHour, .ref td_rules]))]) [0] rfl
      have hD9 := hD.sub (ws' := [(td, .inr (8, [.int td_clocks, .int td_people, .int td_rounds, .int td_guns, .int td_lines, .ref td_name, .ref td_first, .ref td_gain, .ref td_rough, .ref td_custom, .ref td_part, .ref td_whole, .ref td_roundPerson, .ref td_roundClock, .ref td_roundHour, .ref td_gunClock, .ref td_gunHour, .ref td_rules]))]) [0] (by decide) rfl
      have := (by decide : (0 : Int32).toInt = 0)
      exact W.zret (v := 0) hx hb hr (by decide) (fun t ht hW => ⟨⟨0, (), rfl, (by first | exact Or.inl ⟨rfl, by first | omega | trivial⟩ | exact Or.inl ⟨Int32.toInt_inj.mp (by omega), by first | omega | trivial⟩ | exact Or.inr (⟨rfl, by first | omega | trivial⟩) | exact Or.inr (⟨Int32.toInt_inj.mp (by omega), by first | omega | trivial⟩)), by rw [ht]; exact hP9, hD9⟩, hS.F ht⟩) hS.2.2 dX8_hasClock_17
    · have kc_2 := il_nle c_2
      have := Int32.toInt_lt vk; have := Int32.le_toInt vk
      refine lv_iconst (v := 1) hx hb dX8_hasClock_12 (by decide) ?_
      refine lv_goto (tgt := 17) hx hb dX8_hasClock_13 (by decide) ?_
      have hP9 := hP.sub (ws' := [(td, .inr (8, [.int td_clocks, .int td_people, .int td_rounds, .int td_guns, .int td_lines, .ref td_name, .ref td_first, .ref td_gain, .ref td_rough, .ref td_custom, .ref td_part, .ref td_whole, .ref td_roundPerson, .ref td_roundClock, .ref td_roundHour, .ref td_gunClock, .ref td_gunHour, .ref td_rules]))]) [0] rfl
      have hD9 := hD.sub (ws' := [(td, .inr (8, [.int td_clocks, .int td_people, .int td_rounds, .int td_guns, .int td_lines, .ref td_name, .ref td_first, .ref td_gain, .ref td_rough, .ref td_custom, .ref td_part, .ref td_whole, .ref td_roundPerson, .ref td_roundClock, .ref td_roundHour, .ref td_gunClock, .ref td_gunHour, .ref td_rules]))]) [0] (by decide) rfl
      have := (by decide : (1 : Int32).toInt = 1)
      exact W.zret (v := 1) hx hb hr (by decide) (fun t ht hW => ⟨⟨1, (), rfl, (by first | exact Or.inl ⟨rfl, by first | omega | trivial⟩ | exact Or.inl ⟨Int32.toInt_inj.mp (by omega), by first | omega | trivial⟩ | exact Or.inr (⟨rfl, by first | omega | trivial⟩) | exact Or.inr (⟨Int32.toInt_inj.mp (by omega), by first | omega | trivial⟩)), by rw [ht]; exact hP9, hD9⟩, hS.F ht⟩) hS.2.2 dX8_hasClock_17
abbrev q_X8_hasPerson (dC : Nat → ClassId) (dI : Nat → Nat → Nat) (A : Nat → Prop) (td : Nat) (vk : Int32) (td_clocks : Int32) (td_people : Int32) (td_rounds : Int32) (td_guns : Int32) (td_lines : Int32) (td_name : Nat) (td_first : Nat) (td_gain : Nat) (td_rough : Nat) (td_custom : Nat) (td_part : Nat) (td_whole : Nat) (td_roundPerson : Nat) (td_roundClock : Nat) (td_roundHour : Nat) (td_gunClock : Nat) (td_gunHour : Nat) (td_rules : Nat) : Array Value → State → Outcome → State → Prop := va_Qi (fun (r : Int32) (_ : Unit) => (r = 1 ∧ (0 ≤ vk.toInt ∧ vk.toInt < td_people.toInt)) ∨ (r = 0 ∧ (vk.toInt < 0 ∨ td_people.toInt ≤ vk.toInt))) (fun (_ : Unit) (t : State) => va_P (dC, dI) vwCl [(td, .inr (8, [.int td_clocks, .int td_people, .int td_rounds, .int td_guns, .int td_lines, .ref td_name, .ref td_first, .ref td_gain, .ref td_rough, .ref td_custom, .ref td_part, .ref td_whole, .ref td_roundPerson, .ref td_roundClock, .ref td_roundHour, .ref td_gunClock, .ref td_gunHour, .ref td_rules]))] t.heap ∧ va_D A [(td, .inr (8, [.int td_clocks, .int td_people, .int td_rounds, .int td_guns, .int td_lines, .ref td_name, .ref td_first, .ref td_gain, .ref td_rough, .ref td_custom, .ref td_part, .ref td_whole, .ref td_roundPerson, .ref td_roundClock, .ref td_roundHour, .ref td_gunClock, .ref td_gunHour, .ref td_rules]))]) A
set_option maxHeartbeats 4000000 in
set_option maxRecDepth 100000 in
theorem c_X8_hasPerson (l : Launch) (dC : Nat → ClassId) (dI : Nat → Nat → Nat) (sz : Nat) (td : Nat) (vk : Int32) (td_clocks : Int32) (td_people : Int32) (td_rounds : Int32) (td_guns : Int32) (td_lines : Int32) (td_name : Nat) (td_first : Nat) (td_gain : Nat) (td_rough : Nat) (td_custom : Nat) (td_part : Nat) (td_whole : Nat) (td_roundPerson : Nat) (td_roundClock : Nat) (td_roundHour : Nat) (td_gunClock : Nat) (td_gunHour : Nat) (td_rules : Nat) (h_td_clocks : 0 ≤ td_clocks.toInt ∧ td_clocks.toInt ≤ 5) (h_td_people : 0 ≤ td_people.toInt ∧ td_people.toInt ≤ 5) (h_td_rounds : 0 ≤ td_rounds.toInt ∧ td_rounds.toInt ≤ 12) (h_td_guns : 0 ≤ td_guns.toInt ∧ td_guns.toInt ≤ 3) : Met l yX8_hasPerson (pw_w yX8_hasPerson cX8_hasPerson 2 (some .boolean)) ({ frames := 0, cells := 0, slots := 0, locals := 0 }) (va_Pc [.ref td, .int vk] (fun U => U.heap.size = sz ∧ va_P (dC, dI) vwCl [(td, .inr (8, [.int td_clocks, .int td_people, .int td_rounds, .int td_guns, .int td_lines, .ref td_name, .ref td_first, .ref td_gain, .ref td_rough, .ref td_custom, .ref td_part, .ref td_whole, .ref td_roundPerson, .ref td_roundClock, .ref td_roundHour, .ref td_gunClock, .ref td_gunHour, .ref td_rules]))] U.heap ∧ va_K (dC, dI) vwCl [] U ∧ va_D (fun _ => True) [(td, .inr (8, [.int td_clocks, .int td_people, .int td_rounds, .int td_guns, .int td_lines, .ref td_name, .ref td_first, .ref td_gain, .ref td_rough, .ref td_custom, .ref td_part, .ref td_whole, .ref td_roundPerson, .ref td_roundClock, .ref td_roundHour, .ref td_gunClock, .ref td_gunHour, .ref td_rules]))])) (q_X8_hasPerson dC dI (va_A [(td, .inr (8, [.int td_clocks, .int td_people, .int td_rounds, .int td_guns, .int td_lines, .ref td_name, .ref td_first, .ref td_gain, .ref td_rough, .ref td_custom, .ref td_part, .ref td_whole, .ref td_roundPerson, .ref td_roundClock, .ref td_roundHour, .ref td_gunClock, .ref td_gunHour, .ref td_rules]))] sz) td vk td_clocks td_people td_rounds td_guns td_lines td_name td_first td_gain td_rough td_custom td_part td_whole td_roundPerson td_roundClock td_roundHour td_gunClock td_gunHour td_rules) 0 0 (va_A [(td, .inr (8, [.int td_clocks, .int td_people, .int td_rounds, .int td_guns, .int td_lines, .ref td_name, .ref td_first, .ref td_gain, .ref td_rough, .ref td_custom, .ref td_part, .ref td_whole, .ref td_roundPerson, .ref td_roundClock, .ref td_roundHour, .ref td_gunClock, .ref td_gunHour, .ref td_rules]))] sz) := by
  refine Met.ofW (cc := cX8_hasPerson) (maxL := 2) (ret := (some .boolean)) (by decide) rfl ?_
  intro p e s m args below meth c s₁ B hml hv
  obtain ⟨rfl, hsz, hP, hK, hD0⟩ := hv
  have hx := B.exec
  have hb := B.bytes
  have hr := B.returns
  have hts := atoms_spec (ws := (pw_w yX8_hasPerson cX8_hasPerson 2 (some .boolean))) B.pre
  have hT : ∀ w ∈ pw_T, w.before _ s = true := fun w h => hts w (List.mem_cons_of_mem _ h)
  have hown : s.vm.findClass RX8 = some m.cls := findClass_of_methodNamed B.named
  have hlocks := B.notSynchronized
  subst hsz
  have hD := hD0.self (sz := s.heap.size)
  generalize hAe : va_A [(td, .inr (8, [.int td_clocks, .int td_people, .int td_rounds, .int td_guns, .int td_lines, .ref td_name, .ref td_first, .ref td_gain, .ref td_rough, .ref td_custom, .ref td_part, .ref td_whole, .ref td_roundPerson, .ref td_roundClock, .ref td_roundHour, .ref td_gunClock, .ref td_gunHour, .ref td_rules]))] s.heap.size = A at hD ⊢
  have hA : ∀ q : Nat, s.heap.size ≤ q → A q := fun q h => by rw [← hAe]; exact Or.inr h
  have hS : va_S A s.heap s.heap [] := va_S.rf
  have hP : va_P (dC, dI) vwCl [(td, .inr (8, [.int td_clocks, .int td_people, .int td_rounds, .int td_guns, .int td_lines, .ref td_name, .ref td_first, .ref td_gain, .ref td_rough, .ref td_custom, .ref td_part, .ref td_whole, .ref td_roundPerson, .ref td_roundClock, .ref td_roundHour, .ref td_gunClock, .ref td_gunHour, .ref td_rules]))] s.heap := hP
  have hl := lv_entry ([.ref td, .int vk]) (n := 2) (Nat.le_of_ble_eq_true rfl)
  rw [lg_entry_eq]
  generalize (lg_sl ([.ref td, .int vk]) ++ List.replicate (2 - (lg_sl ([.ref td, .int vk])).length) Slot.unset).toArray = ls at hl ⊢
  have hl : lv_has ls 2 [(0, .ref td), (1, .int vk)] := hl
  refine lv_iload_n hx hb dX8_hasPerson_0 rfl (lv_at hl 1 rfl) ?_
  refine lv_if_lt (tgt := 16) hx hb dX8_hasPerson_1 (by decide) (fun c_1 => ?_) (fun c_1 => ?_)
  · have kc_1 := il_lt c_1
    have := (by decide : (0 : Int32).toInt = 0)
    refine lv_iconst (v := 0) hx hb dX8_hasPerson_16 (by decide) ?_
    have hP9 := hP.sub (ws' := [(td, .inr (8, [.int td_clocks, .int td_people, .int td_rounds, .int td_guns, .int td_lines, .ref td_name, .ref td_first, .ref td_gain, .ref td_rough, .ref td_custom, .ref td_part, .ref td_whole, .ref td_roundPerson, .ref td_roundClock, .ref td_roundHour, .ref td_gunClock, .ref td_gunHour, .ref td_rules]))]) [0] rfl
    have hD9 := hD.sub (ws' := [(td, .inr (8, [.int td_clocks, .int td_people, .int td_rounds, .int td_guns, .int td_lines, .ref td_name, .ref td_first, .ref td_gain, .ref td_rough, .ref td_custom, .ref td_part, .ref td_whole, .ref td_roundPerson, .ref td_roundClock, .ref td_roundHour, .ref td_gunClock, .ref td_gunHour, .ref td_rules]))]) [0] (by decide) rfl
    have := (by decide : (0 : Int32).toInt = 0)
    exact W.zret (v := 0) hx hb hr (by decide) (fun t ht hW => ⟨⟨0, (), rfl, (by first | exact Or.inl ⟨rfl, by first | omega | trivial⟩ | exact Or.inl ⟨Int32.toInt_inj.mp (by omega), by first | omega | trivial⟩ | exact Or.inr (⟨rfl, by first | omega | trivial⟩) | exact Or.inr (⟨Int32.toInt_inj.mp (by omega), by first | omega | trivial⟩)), by rw [ht]; exact hP9, hD9⟩, hS.F ht⟩) hS.2.2 dX8_hasPerson_17
  · have kc_1 := il_nlt c_1
    have := (by decide : (0 : Int32).toInt = 0)
    refine lv_iload_n hx hb dX8_hasPerson_4 rfl (lv_at hl 1 rfl) ?_
    refine lv_aload_n hx hb dX8_hasPerson_5 rfl (lv_at hl 0 rfl) ?_
    refine va_get (D := (dC, dI)) (ci := 8) (v := .int td_people) (C := RX8) (T := TX8) (N := 18) hx hb hT inX8 hown hK hP 0 rfl rfl 1 (by decide) (hT _ mw_1_193) (fun _ h9 => h9) rfl dX8_hasPerson_6 ?_
    refine lv_icmp_ge (tgt := 16) hx hb dX8_hasPerson_9 (by decide) (fun c_2 => ?_) (fun c_2 => ?_)
    · have kc_2 := il_le c_2
      have := Int32.toInt_lt vk; have := Int32.le_toInt vk
      refine lv_iconst (v := 0) hx hb dX8_hasPerson_16 (by decide) ?_
      have hP9 := hP.sub (ws' := [(td, .inr (8, [.int td_clocks, .int td_people, .int td_rounds, .int td_guns, .int td_lines, .ref td_name, .ref td_first, .ref td_gain, .ref td_rough, .ref td_custom, .ref td_part, .ref td_whole, .ref td_roundPerson, .ref td_roundClock, .ref td_roundHour, .ref td_gunClock, .ref td_gunHour, .ref td_rules]))]) [0] rfl
      have hD9 := hD.sub (ws' := [(td, .inr (8, [.int td_clocks, .int td_people, .int td_rounds, .int td_guns, .int td_lines, .ref td_name, .ref td_first, .ref td_gain, .ref td_rough, .ref td_custom, .ref td_part, .ref td_whole, .ref td_roundPerson, .ref td_roundClock, .ref td_roundHour, .ref td_gunClock, .ref td_gunHour, .ref td_rules]))]) [0] (by decide) rfl
      have := (by decide : (0 : Int32).toInt = 0)
      exact W.zret (v := 0) hx hb hr (by decide) (fun t ht hW => ⟨⟨0, (), rfl, (by first | exact Or.inl ⟨rfl, by first | omega | trivial⟩ | exact Or.inl ⟨Int32.toInt_inj.mp (by omega), by first | omega | trivial⟩ | exact Or.inr (⟨rfl, by first | omega | trivial⟩) | exact Or.inr (⟨Int32.toInt_inj.mp (by omega), by first | omega | trivial⟩)), by rw [ht]; exact hP9, hD9⟩, hS.F ht⟩) hS.2.2 dX8_hasPerson_17
    · have kc_2 := il_nle c_2
      have := Int32.toInt_lt vk; have := Int32.le_toInt vk
      refine lv_iconst (v := 1) hx hb dX8_hasPerson_12 (by decide) ?_
      refine lv_goto (tgt := 17) hx hb dX8_hasPerson_13 (by decide) ?_
      have hP9 := hP.sub (ws' := [(td, .inr (8, [.int td_clocks, .int td_people, .int td_rounds, .int td_guns, .int td_lines, .ref td_name, .ref td_first, .ref td_gain, .ref td_rough, .ref td_custom, .ref td_part, .ref td_whole, .ref td_roundPerson, .ref td_roundClock, .ref td_roundHour, .ref td_gunClock, .ref td_gunHour, .ref td_rules]))]) [0] rfl
      have hD9 := hD.sub (ws' := [(td, .inr (8, [.int td_clocks, .int td_people, .int td_rounds, .int td_guns, .int td_lines, .ref td_name, .ref td_first, .ref td_gain, .ref td_rough, .ref td_custom, .ref td_part, .ref td_whole, .ref td_roundPerson, .ref td_roundClock, .ref td_roundHour, .ref td_gunClock, .ref td_gunHour, .ref td_rules]))]) [0] (by decide) rfl
      have := (by decide : (1 : Int32).toInt = 1)
      exact W.zret (v := 1) hx hb hr (by decide) (fun t ht hW => ⟨⟨1, (), rfl, (by first | exact Or.inl ⟨rfl, by first | omega | trivial⟩ | exact Or.inl ⟨Int32.toInt_inj.mp (by omega), by first | omega | trivial⟩ | exact Or.inr (⟨rfl, by first | omega | trivial⟩) | exact Or.inr (⟨Int32.toInt_inj.mp (by omega), by first | omega | trivial⟩)), by rw [ht]; exact hP9, hD9⟩, hS.F ht⟩) hS.2.2 dX8_hasPerson_17
abbrev q_X8_slotOf (dC : Nat → ClassId) (dI : Nat → Nat → Nat) (A : Nat → Prop) (td : Nat) (vk : Int32) (td_clocks : Int32) (td_people : Int32) (td_rounds : Int32) (td_guns : Int32) (td_lines : Int32) (td_name : Nat) (td_first : Nat) (td_gain : Nat) (td_rough : Nat) (td_custom : Nat) (td_part : Nat) (td_whole : Nat) (td_roundPerson : Nat) (td_roundClock : Nat) (td_roundHour : Nat) (td_gunClock : Nat) (td_gunHour : Nat) (td_rules : Nat) : Array Value → State → Outcome → State → Prop := va_Qi (fun (r : Int32) (_ : Unit) => ((-1) ≤ r.toInt ∧ r.toInt ≤ 9) ∧ (vk.toInt < 0 ∨ td_clocks.toInt + td_people.toInt ≤ vk.toInt ∨ 0 ≤ r.toInt)) (fun (_ : Unit) (t : State) => va_P (dC, dI) vwCl [(td, .inr (8, [.int td_clocks, .int td_people, .int td_rounds, .int td_guns, .int td_lines, .ref td_name, .ref td_first, .ref td_gain, .ref td_rough, .ref td_custom, .ref td_part, .ref td_whole, .ref td_roundPerson, .ref td_roundClock, .ref td_roundHour, .ref td_gunClock, .ref td_gunHour, .ref td_rules]))] t.heap ∧ va_D A [(td, .inr (8, [.int td_clocks, .int td_people, .int td_rounds, .int td_guns, .int td_lines, .ref td_name, .ref td_first, .ref td_gain, .ref td_rough, .ref td_custom, .ref td_part, .ref td_whole, .ref td_roundPerson, .ref td_roundClock, .ref td_roundHour, .ref td_gunClock, .ref td_gunHour, .ref td_rules]))]) A
set_option maxHeartbeats 4000000 in
set_option maxRecDepth 100000 in
theorem c_X8_slotOf (l : Launch) (dC : Nat → ClassId) (dI : Nat → Nat → Nat) (sz : Nat) (td : Nat) (vk : Int32) (td_clocks : Int32) (td_people : Int32) (td_rounds : Int32) (td_guns : Int32) (td_lines : Int32) (td_name : Nat) (td_first : Nat) (td_gain : Nat) (td_rough : Nat) (td_custom : Nat) (td_part : Nat) (td_whole : Nat) (td_roundPerson : Nat) (td_roundClock : Nat) (td_roundHour : Nat) (td_gunClock : Nat) (td_gunHour : Nat) (td_rules : Nat) (h_td_clocks : 0 ≤ td_clocks.toInt ∧ td_clocks.toInt ≤ 5) (h_td_people : 0 ≤ td_people.toInt ∧ td_people.toInt ≤ 5) (h_td_rounds : 0 ≤ td_rounds.toInt ∧ td_rounds.toInt ≤ 12) (h_td_guns : 0 ≤ td_guns.toInt ∧ td_guns.toInt ≤ 3) : Met l yX8_slotOf (pw_w yX8_slotOf cX8_slotOf 2 (some .int)) ({ frames := 1, cells := 0, slots := 0, locals := 20 }) (va_Pc [.ref td, .int vk] (fun U => U.heap.size = sz ∧ va_P (dC, dI) vwCl [(td, .inr (8, [.int td_clocks, .int td_people, .int td_rounds, .int td_guns, .int td_lines, .ref td_name, .ref td_first, .ref td_gain, .ref td_rough, .ref td_custom, .ref td_part, .ref td_whole, .ref td_roundPerson, .ref td_roundClock, .ref td_roundHour, .ref td_gunClock, .ref td_gunHour, .ref td_rules]))] U.heap ∧ va_K (dC, dI) vwCl [] U ∧ va_D (fun _ => True) [(td, .inr (8, [.int td_clocks, .int td_people, .int td_rounds, .int td_guns, .int td_lines, .ref td_name, .ref td_first, .ref td_gain, .ref td_rough, .ref td_custom, .ref td_part, .ref td_whole, .ref td_roundPerson, .ref td_roundClock, .ref td_roundHour, .ref td_gunClock, .ref td_gunHour, .ref td_rules]))])) (q_X8_slotOf dC dI (va_A [(td, .inr (8, [.int td_clocks, .int td_people, .int td_rounds, .int td_guns, .int td_lines, .ref td_name, .ref td_first, .ref td_gain, .ref td_rough, .ref td_custom, .ref td_part, .ref td_whole, .ref td_roundPerson, .ref td_roundClock, .ref td_roundHour, .ref td_gunClock, .ref td_gunHour, .ref td_rules]))] sz) td vk td_clocks td_people td_rounds td_guns td_lines td_name td_first td_gain td_rough td_custom td_part td_whole td_roundPerson td_roundClock td_roundHour td_gunClock td_gunHour td_rules) 0 0 (va_A [(td, .inr (8, [.int td_clocks, .int td_people, .int td_rounds, .int td_guns, .int td_lines, .ref td_name, .ref td_first, .ref td_gain, .ref td_rough, .ref td_custom, .ref td_part, .ref td_whole, .ref td_roundPerson, .ref td_roundClock, .ref td_roundHour, .ref td_gunClock, .ref td_gunHour, .ref td_rules]))] sz) := by
  refine Met.ofW (cc := cX8_slotOf) (maxL := 2) (ret := (some .int)) (by decide) rfl ?_
  intro p e s m args below meth c s₁ B hml hv
  obtain ⟨rfl, hsz, hP, hK, hD0⟩ := hv
  have hx := B.exec
  have hb := B.bytes
  have hr := B.returns
  have hts := atoms_spec (ws := (pw_w yX8_slotOf cX8_slotOf 2 (some .int))) B.pre
  have hT : ∀ w ∈ pw_T, w.before _ s = true := fun w h => hts w (List.mem_cons_of_mem _ h)
  have hown : s.vm.findClass RX8 = some m.cls := findClass_of_methodNamed B.named
  have hlocks := B.notSynchronized
  subst hsz
  have hD := hD0.self (sz := s.heap.size)
  generalize hAe : va_A [(td, .inr (8, [.int td_clocks, .int td_people, .int td_rounds, .int td_guns, .int td_lines, .ref td_name, .ref td_first, .ref td_gain, .ref td_rough, .ref td_custom, .ref td_part, .ref td_whole, .ref td_roundPerson, .ref td_roundClock, .ref td_roundHour, .ref td_gunClock, .ref td_gunHour, .ref td_rules]))] s.heap.size = A at hD ⊢
  have hA : ∀ q : Nat, s.heap.size ≤ q → A q := fun q h => by rw [← hAe]; exact Or.inr h
  have hS : va_S A s.heap s.heap [] := va_S.rf
  have hP : va_P (dC, dI) vwCl [(td, .inr (8, [.int td_clocks, .int td_people, .int td_rounds, .int td_guns, .int td_lines, .ref td_name, .ref td_first, .ref td_gain, .ref td_rough, .ref td_custom, .ref td_part, .ref td_whole, .ref td_roundPerson, .ref td_roundClock, .ref td_roundHour, .ref td_gunClock, .ref td_gunHour, .ref td_rules]))] s.heap := hP
  have hl := lv_entry ([.ref td, .int vk]) (n := 2) (Nat.le_of_ble_eq_true rfl)
  rw [lg_entry_eq]
  generalize (lg_sl ([.ref td, .int vk]) ++ List.replicate (2 - (lg_sl ([.ref td, .int vk])).length) Slot.unset).toArray = ls at hl ⊢
  have hl : lv_has ls 2 [(0, .ref td), (1, .int vk)] := hl
  refine lv_iload_n hx hb dX8_slotOf_0 rfl (lv_at hl 1 rfl) ?_
  refine lv_if_lt (tgt := 12) hx hb dX8_slotOf_1 (by decide) (fun c_1 => ?_) (fun c_1 => ?_)
  · have kc_1 := il_lt c_1
    have := (by decide : (0 : Int32).toInt = 0)
    refine lv_iconst (v := (-1)) hx hb dX8_slotOf_12 (by decide) ?_
    have hP9 := hP.sub (ws' := [(td, .inr (8, [.int td_clocks, .int td_people, .int td_rounds, .int td_guns, .int td_lines, .ref td_name, .ref td_first, .ref td_gain, .ref td_rough, .ref td_custom, .ref td_part, .ref td_whole, .ref td_roundPerson, .ref td_roundClock, .ref td_roundHour, .ref td_gunClock, .ref td_gunHour, .ref td_rules]))]) [0] rfl
    have hD9 := hD.sub (ws' := [(td, .inr (8, [.int td_clocks, .int td_people, .int td_rounds, .int td_guns, .int td_lines, .ref td_name, .ref td_first, .ref td_gain, .ref td_rough, .ref td_custom, .ref td_part, .ref td_whole, .ref td_roundPerson, .ref td_roundClock, .ref td_roundHour, .ref td_gunClock, .ref td_gunHour, .ref td_rules]))]) [0] (by decide) rfl
    have := (by decide : ((-1) : Int32).toInt = -1)
    exact W.iret (v := (-1)) hx hb hr (fun t ht hW => ⟨⟨(-1), (), rfl, (by first | omega | (refine ⟨?_, ?_⟩ <;> omega) | rfl | (intros; omega)), by rw [ht]; exact hP9, hD9⟩, hS.F ht⟩) hS.2.2 dX8_slotOf_13
  · have kc_1 := il_nlt c_1
    have := (by decide : (0 : Int32).toInt = 0)
    refine lv_iload_n hx hb dX8_slotOf_4 rfl (lv_at hl 1 rfl) ?_
    refine lv_aload_n hx hb dX8_slotOf_5 rfl (lv_at hl 0 rfl) ?_
    have hPc := hP.sub (ws' := [(td, .inr (8, [.int td_clocks, .int td_people, .int td_rounds, .int td_guns, .int td_lines, .ref td_name, .ref td_first, .ref td_gain, .ref td_rough, .ref td_custom, .ref td_part, .ref td_whole, .ref td_roundPerson, .ref td_roundClock, .ref td_roundHour, .ref td_gunClock, .ref td_gunHour, .ref td_rules]))]) [0] rfl
    have hDc := hD.sub (ws' := [(td, .inr (8, [.int td_clocks, .int td_people, .int td_rounds, .int td_guns, .int td_lines, .ref td_name, .ref td_first, .ref td_gain, .ref td_rough, .ref td_custom, .ref td_part, .ref td_whole, .ref td_roundPerson, .ref td_roundClock, .ref td_roundHour, .ref td_gunClock, .ref td_gunHour, .ref td_rules]))]) [0] (by decide) rfl
    have hKc := hK.sub (tys' := []) [] rfl
    have hFc := va_free (wc := [(td, .inr (8, [.int td_clocks, .int td_people, .int td_rounds, .int td_guns, .int td_lines, .ref td_name, .ref td_first, .ref td_gain, .ref td_rough, .ref td_custom, .ref td_part, .ref td_whole, .ref td_roundPerson, .ref td_roundClock, .ref td_roundHour, .ref td_gunClock, .ref td_gunHour, .ref td_rules]))]) hD hS hA [0] rfl
    refine va_calli (va_runV (As := []) (rest := [.int vk]) ⟨hx, hb, hml, hown, hT⟩ (c_X8_things l dC dI s.heap.size td td_clocks td_people td_rounds td_guns td_lines td_name td_first td_gain td_rough td_custom td_part td_whole td_roundPerson td_roundClock td_roundHour td_gunClock td_gunHour td_rules (by omega) (by omega) (by omega) (by omega)) (cwV 0 hT (gwV mw_4_135 mw_4_126 mw_4_127 mw_1_8 mw_4_128) rfl rfl rfl (by decide +kernel) ⟨Nat.le_of_ble_eq_true rfl, Nat.le_of_ble_eq_true rfl⟩) ⟨fun a U g mk q => by obtain ⟨q0, q1, qP, qK, qD⟩ := q; exact ⟨q0, q1, qP, va_K.moved (u := U) (U := U.calling g mk a) (Vm.Alike.refl U.vm) qK, qD⟩, va_recv hK hP (ci := 8) (q0 := 0) rfl rfl, fun U hU hW => ⟨rfl, by rw [hU], by rw [hU]; exact hPc, va_K.moved hW.alike hKc, hDc.weaken (fun _ _ _ _ => trivial)⟩⟩ rfl rfl hl.1 rfl (lv_room (Nat.le_of_ble_eq_true rfl)) dX8_slotOf_6 ⟨Nat.le_of_ble_eq_true rfl, Nat.le_of_ble_eq_true rfl⟩) hS (fun q _ h => hFc q h) hFc (fun r_2 u t H1 locs ht hvm hw hB hz1 hk1 hS => ?_)
    obtain ⟨hP1, hD1⟩ := hB
    rw [ht] at hP1
    obtain ⟨hP, hD⟩ := va_join (wr := []) (w1 := [(td, .inr (8, [.int td_clocks, .int td_people, .int td_rounds, .int td_guns, .int td_lines, .ref td_name, .ref td_first, .ref td_gain, .ref td_rough, .ref td_custom, .ref td_part, .ref td_whole, .ref td_roundPerson, .ref td_roundClock, .ref td_roundHour, .ref td_gunClock, .ref td_gunHour, .ref td_rules]))]) hP hD [0] [] rfl rfl (by decide) (by decide) hk1 hFc hP1 hD1
    generalize H1 = H at hP hS ⊢
    have hP : va_P (dC, dI) vwCl [(td, .inr (8, [.int td_clocks, .int td_people, .int td_rounds, .int td_guns, .int td_lines, .ref td_name, .ref td_first, .ref td_gain, .ref td_rough, .ref td_custom, .ref td_part, .ref td_whole, .ref td_roundPerson, .ref td_roundClock, .ref td_roundHour, .ref td_gunClock, .ref td_gunHour, .ref td_rules]))] H := hP
    have hD : va_D A [(td, .inr (8, [.int td_clocks, .int td_people, .int td_rounds, .int td_guns, .int td_lines, .ref td_name, .ref td_first, .ref td_gain, .ref td_rough, .ref td_custom, .ref td_part, .ref td_whole, .ref td_roundPerson, .ref td_roundClock, .ref td_roundHour, .ref td_gunClock, .ref td_gunHour, .ref td_rules]))] := hD
    clear hPc hDc hKc hFc hP1 hD1 hk1 hz1 ht hvm
    have hwr_2 : (0 ≤ r_2.toInt ∧ r_2.toInt ≤ 10) ∧ (r_2.toInt = td_clocks.toInt + td_people.toInt) := hw
    clear hw
    refine lv_icmp_lt (tgt := 14) hx hb dX8_slotOf_9 (by decide) (fun c_3 => ?_) (fun c_3 => ?_)
    · have kc_3 := il_lt c_3
      have := Int32.toInt_lt vk; have := Int32.le_toInt vk
      refine lv_iload_n hx hb dX8_slotOf_14 rfl (lv_at hl 1 rfl) ?_
      refine lv_aload_n hx hb dX8_slotOf_15 rfl (lv_at hl 0 rfl) ?_
      refine va_get (D := (dC, dI)) (ci := 8) (v := .int td_clocks) (C := RX8) (T := TX8) (N := 18) hx hb hT inX8 hown hK hP 0 rfl rfl 0 (by decide) (hT _ mw_1_190) (fun _ h9 => h9) rfl dX8_slotOf_16 ?_
      refine lv_icmp_ge (tgt := 26) hx hb dX8_slotOf_19 (by decide) (fun c_4 => ?_) (fun c_4 => ?_)
      · have kc_4 := il_le c_4
        refine lv_iconst (v := 5) hx hb dX8_slotOf_26 (by decide) ?_
        refine lv_iload_n hx hb dX8_slotOf_27 rfl (lv_at hl 1 rfl) ?_
        refine lv_iadd hx hb dX8_slotOf_28 ?_
        refine lv_topi (fun z_5 ez_5 => ?_)
        have kz_5 : z_5.toInt = 5 + vk.toInt := ti_add ez_5 (by decide) rfl (by omega) (by omega)
        clear ez_5
        refine lv_aload_n hx hb dX8_slotOf_29 rfl (lv_at hl 0 rfl) ?_
        refine va_get (D := (dC, dI)) (ci := 8) (v := .int td_clocks) (C := RX8) (T := TX8) (N := 18) hx hb hT inX8 hown hK hP 0 rfl rfl 0 (by decide) (hT _ mw_1_190) (fun _ h9 => h9) rfl dX8_slotOf_30 ?_
        refine lv_isub hx hb dX8_slotOf_33 ?_
        refine lv_topi (fun z_6 ez_6 => ?_)
        have kz_6 : z_6.toInt = z_5.toInt - td_clocks.toInt := ti_sub ez_6 rfl rfl (by omega) (by omega)
        clear ez_6
        have hP9 := hP.sub (ws' := [(td, .inr (8, [.int td_clocks, .int td_people, .int td_rounds, .int td_guns, .int td_lines, .ref td_name, .ref td_first, .ref td_gain, .ref td_rough, .ref td_custom, .ref td_part, .ref td_whole, .ref td_roundPerson, .ref td_roundClock, .ref td_roundHour, .ref td_gunClock, .ref td_gunHour, .ref td_rules]))]) [0] rfl
        have hD9 := hD.sub (ws' := [(td, .inr (8, [.int td_clocks, .int td_people, .int td_rounds, .int td_guns, .int td_lines, .ref td_name, .ref td_first, .ref td_gain, .ref td_rough, .ref td_custom, .ref td_part, .ref td_whole, .ref td_roundPerson, .ref td_roundClock, .ref td_roundHour, .ref td_gunClock, .ref td_gunHour, .ref td_rules]))]) [0] (by decide) rfl
        exact W.iret (v := z_6) hx hb hr (fun t ht hW => ⟨⟨z_6, (), rfl, (by first | omega | (refine ⟨?_, ?_⟩ <;> omega) | rfl | (intros; omega)), by rw [ht]; exact hP9, hD9⟩, hS.F ht⟩) hS.2.2 dX8_slotOf_34
      · have kc_4 := il_nle c_4
        refine lv_iload_n hx hb dX8_slotOf_22 rfl (lv_at hl 1 rfl) ?_
        refine lv_goto (tgt := 34) hx hb dX8_slotOf_23 (by decide) ?_
        have hP9 := hP.sub (ws' := [(td, .inr (8, [.int td_clocks, .int td_people, .int td_rounds, .int td_guns, .int td_lines, .ref td_name, .ref td_first, .ref td_gain, .ref td_rough, .ref td_custom, .ref td_part, .ref td_whole, .ref td_roundPerson, .ref td_roundClock, .ref td_roundHour, .ref td_gunClock, .ref td_gunHour, .ref td_rules]))]) [0] rfl
        have hD9 := hD.sub (ws' := [(td, .inr (8, [.int td_clocks, .int td_people, .int td_rounds, .int td_guns, .int td_lines, .ref td_name, .ref td_first, .ref td_gain, .ref td_rough, .ref td_custom, .ref td_part, .ref td_whole, .ref td_roundPerson, .ref td_roundClock, .ref td_roundHour, .ref td_gunClock, .ref td_gunHour, .ref td_rules]))]) [0] (by decide) rfl
        exact W.iret (v := vk) hx hb hr (fun t ht hW => ⟨⟨vk, (), rfl, (by first | omega | (refine ⟨?_, ?_⟩ <;> omega) | rfl | (intros; omega)), by rw [ht]; exact hP9, hD9⟩, hS.F ht⟩) hS.2.2 dX8_slotOf_34
    · have kc_3 := il_nlt c_3
      have := Int32.toInt_lt vk; have := Int32.le_toInt vk
      refine lv_iconst (v := (-1)) hx hb dX8_slotOf_12 (by decide) ?_
      have hP9 := hP.sub (ws' := [(td, .inr (8, [.int td_clocks, .int td_people, .int td_rounds, .int td_guns, .int td_lines, .ref td_name, .ref td_first, .ref td_gain, .ref td_rough, .ref td_custom, .ref td_part, .ref td_whole, .ref td_roundPerson, .ref td_roundClock, .ref td_roundHour, .ref td_gunClock, .ref td_gunHour, .ref td_rules]))]) [0] rfl
      have hD9 := hD.sub (ws' := [(td, .inr (8, [.int td_clocks, .int td_people, .int td_rounds, .int td_guns, .int td_lines, .ref td_name, .ref td_first, .ref td_gain, .ref td_rough, .ref td_custom, .ref td_part, .ref td_whole, .ref td_roundPerson, .ref td_roundClock, .ref td_roundHour, .ref td_gunClock, .ref td_gunHour, .ref td_rules]))]) [0] (by decide) rfl
      have := (by decide : ((-1) : Int32).toInt = -1)
      exact W.iret (v := (-1)) hx hb hr (fun t ht hW => ⟨⟨(-1), (), rfl, (by first | omega | (refine ⟨?_, ?_⟩ <;> omega) | rfl | (intros; omega)), by rw [ht]; exact hP9, hD9⟩, hS.F ht⟩) hS.2.2 dX8_slotOf_13
abbrev q_X8_isRough (dC : Nat → ClassId) (dI : Nat → Nat → Nat) (A : Nat → Prop) (td : Nat) (vs : Int32) (td_clocks : Int32) (td_people : Int32) (td_rounds : Int32) (td_guns : Int32) (td_lines : Int32) (td_name : Nat) (td_first : Nat) (td_gain : Nat) (td_rough : Nat) (td_custom : Nat) (td_part : Nat) (td_whole : Nat) (td_roundPerson : Nat) (td_roundClock : Nat) (td_roundHour : Nat) (td_gunClock : Nat) (td_gunHour : Nat) (td_rules : Nat) (k_td_rough : ClassId) (f_td_rough : Nat → Int32) : Array Value → State → Outcome → State → Prop := va_Qi (fun (r : Int32) (_ : Unit) => (0 ≤ r.toInt ∧ r.toInt ≤ 1)) (fun (_ : Unit) (t : State) => va_P (dC, dI) vwCl [(td, .inr (8, [.int td_clocks, .int td_people, .int td_rounds, .int td_guns, .int td_lines, .ref td_name, .ref td_first, .ref td_gain, .ref td_rough, .ref td_custom, .ref td_part, .ref td_whole, .ref td_roundPerson, .ref td_roundClock, .ref td_roundHour, .ref td_gunClock, .ref td_gunHour, .ref td_rules])), (td_rough, .inl (k_td_rough, 10, .inl f_td_rough))] t.heap ∧ va_D A [(td, .inr (8, [.int td_clocks, .int td_people, .int td_rounds, .int td_guns, .int td_lines, .ref td_name, .ref td_first, .ref td_gain, .ref td_rough, .ref td_custom, .ref td_part, .ref td_whole, .ref td_roundPerson, .ref td_roundClock, .ref td_roundHour, .ref td_gunClock, .ref td_gunHour, .ref td_rules])), (td_rough, .inl (k_td_rough, 10, .inl f_td_rough))]) A
set_option maxHeartbeats 4000000 in
set_option maxRecDepth 100000 in
theorem c_X8_isRough (l : Launch) (dC : Nat → ClassId) (dI : Nat → Nat → Nat) (sz : Nat) (td : Nat) (vs : Int32) (td_clocks : Int32) (td_people : Int32) (td_rounds : Int32) (td_guns : Int32) (td_lines : Int32) (td_name : Nat) (td_first : Nat) (td_gain : Nat) (td_rough : Nat) (td_custom : Nat) (td_part : Nat) (td_whole : Nat) (td_roundPerson : Nat) (td_roundClock : Nat) (td_roundHour : Nat) (td_gunClock : Nat) (td_gunHour : Nat) (td_rules : Nat) (k_td_rough : ClassId) (f_td_rough : Nat → Int32) (h_td_clocks : 0 ≤ td_clocks.toInt ∧ td_clocks.toInt ≤ 5) (h_td_people : 0 ≤ td_people.toInt ∧ td_people.toInt ≤ 5) (h_td_rounds : 0 ≤ td_rounds.toInt ∧ td_rounds.toInt ≤ 12) (h_td_guns : 0 ≤ td_guns.toInt ∧ td_guns.toInt ≤ 3) (h_vs : 0 ≤ vs.toInt ∧ vs.toInt ≤ 9) : Met l yX8_isRough (pw_w yX8_isRough cX8_isRough 3 (some .boolean)) ({ frames := 1, cells := 0, slots := 0, locals := 21 }) (va_Pc [.ref td, .int vs] (fun U => U.heap.size = sz ∧ va_P (dC, dI) vwCl [(td, .inr (8, [.int td_clocks, .int td_people, .int td_rounds, .int td_guns, .int td_lines, .ref td_name, .ref td_first, .ref td_gain, .ref td_rough, .ref td_custom, .ref td_part, .ref td_whole, .ref td_roundPerson, .ref td_roundClock, .ref td_roundHour, .ref td_gunClock, .ref td_gunHour, .ref td_rules])), (td_rough, .inl (k_td_rough, 10, .inl f_td_rough))] U.heap ∧ va_K (dC, dI) vwCl [(k_td_rough, .int)] U ∧ va_D (fun _ => True) [(td, .inr (8, [.int td_clocks, .int td_people, .int td_rounds, .int td_guns, .int td_lines, .ref td_name, .ref td_first, .ref td_gain, .ref td_rough, .ref td_custom, .ref td_part, .ref td_whole, .ref td_roundPerson, .ref td_roundClock, .ref td_roundHour, .ref td_gunClock, .ref td_gunHour, .ref td_rules])), (td_rough, .inl (k_td_rough, 10, .inl f_td_rough))])) (q_X8_isRough dC dI (va_A [(td, .inr (8, [.int td_clocks, .int td_people, .int td_rounds, .int td_guns, .int td_lines, .ref td_name, .ref td_first, .ref td_gain, .ref td_rough, .ref td_custom, .ref td_part, .ref td_whole, .ref td_roundPerson, .ref td_roundClock, .ref td_roundHour, .ref td_gunClock, .ref td_gunHour, .ref td_rules])), (td_rough, .inl (k_td_rough, 10, .inl f_td_rough))] sz) td vs td_clocks td_people td_rounds td_guns td_lines td_name td_first td_gain td_rough td_custom td_part td_whole td_roundPerson td_roundClock td_roundHour td_gunClock td_gunHour td_rules k_td_rough f_td_rough) 0 0 (va_A [(td, .inr (8, [.int td_clocks, .int td_people, .int td_rounds, .int td_guns, .int td_lines, .ref td_name, .ref td_first, .ref td_gain, .ref td_rough, .ref td_custom, .ref td_part, .ref td_whole, .ref td_roundPerson, .ref td_roundClock, .ref td_roundHour, .ref td_gunClock, .ref td_gunHour, .ref td_rules])), (td_rough, .inl (k_td_rough, 10, .inl f_td_rough))] sz) := by
  refine Met.ofW (cc := cX8_isRough) (maxL := 3) (ret := (some .boolean)) (by decide) rfl ?_
  intro p e s m args below meth c s₁ B hml hv
  obtain ⟨rfl, hsz, hP, hK, hD0⟩ := hv
  have hx := B.exec
  have hb := B.bytes
  have hr := B.returns
  have hts := atoms_spec (ws := (pw_w yX8_isRough cX8_isRough 3 (some .boolean))) B.pre
  have hT : ∀ w ∈ pw_T, w.before _ s = true := fun w h => hts w (List.mem_cons_of_mem _ h)
  have hown : s.vm.findClass RX8 = some m.cls := findClass_of_methodNamed B.named
  have hlocks := B.notSynchronized
  subst hsz
  have hD := hD0.self (sz := s.heap.size)
  generalize hAe : va_A [(td, .inr (8, [.int td_clocks, .int td_people, .int td_rounds, .int td_guns, .int td_lines, .ref td_name, .ref td_first, .ref td_gain, .ref td_rough, .ref td_custom, .ref td_part, .ref td_whole, .ref td_roundPerson, .ref td_roundClock, .ref td_roundHour, .ref td_gunClock, .ref td_gunHour, .ref td_rules])), (td_rough, .inl (k_td_rough, 10, .inl f_td_rough))] s.heap.size = A at hD ⊢
  have hA : ∀ q : Nat, s.heap.size ≤ q → A q := fun q h => by rw [← hAe]; exact Or.inr h
  have hS : va_S A s.heap s.heap [] := va_S.rf
  have hP : va_P (dC, dI) vwCl [(td, .inr (8, [.int td_clocks, .int td_people, .int td_rounds, .int td_guns, .int td_lines, .ref td_name, .ref td_first, .ref td_gain, .ref td_rough, .ref td_custom, .ref td_part, .ref td_whole, .ref td_roundPerson, .ref td_roundClock, .ref td_roundHour, .ref td_gunClock, .ref td_gunHour, .ref td_rules])), (td_rough, .inl (k_td_rough, 10, .inl f_td_rough))] s.heap := hP
  have hl := lv_entry ([.ref td, .int vs]) (n := 3) (Nat.le_of_ble_eq_true rfl)
  rw [lg_entry_eq]
  generalize (lg_sl ([.ref td, .int vs]) ++ List.replicate (3 - (lg_sl ([.ref td, .int vs])).length) Slot.unset).toArray = ls at hl ⊢
  have hl : lv_has ls 3 [(0, .ref td), (1, .int vs)] := hl
  refine lv_iload_n hx hb dX8_isRough_0 rfl (lv_at hl 1 rfl) ?_
  refine lv_iconst (v := 5) hx hb dX8_isRough_1 (by decide) ?_
  refine lv_icmp_ge (tgt := 13) hx hb dX8_isRough_2 (by decide) (fun c_1 => ?_) (fun c_1 => ?_)
  · have kc_1 := il_le c_1
    have := (by decide : (5 : Int32).toInt = 5)
    refine lv_aload_n hx hb dX8_isRough_13 rfl (lv_at hl 0 rfl) ?_
    refine lv_iload_n hx hb dX8_isRough_14 rfl (lv_at hl 1 rfl) ?_
    refine lv_iconst (v := 5) hx hb dX8_isRough_15 (by decide) ?_
    refine lv_isub hx hb dX8_isRough_16 ?_
    refine lv_topi (fun z_2 ez_2 => ?_)
    have kz_2 : z_2.toInt = vs.toInt - 5 := ti_sub ez_2 rfl (by decide) (by omega) (by omega)
    clear ez_2
    have hPc := hP.sub (ws' := [(td, .inr (8, [.int td_clocks, .int td_people, .int td_rounds, .int td_guns, .int td_lines, .ref td_name, .ref td_first, .ref td_gain, .ref td_rough, .ref td_custom, .ref td_part, .ref td_whole, .ref td_roundPerson, .ref td_roundClock, .ref td_roundHour, .ref td_gunClock, .ref td_gunHour, .ref td_rules]))]) [0] rfl
    have hDc := hD.sub (ws' := [(td, .inr (8, [.int td_clocks, .int td_people, .int td_rounds, .int td_guns, .int td_lines, .ref td_name, .ref td_first, .ref td_gain, .ref td_rough, .ref td_custom, .ref td_part, .ref td_whole, .ref td_roundPerson, .ref td_roundClock, .ref td_roundHour, .ref td_gunClock, .ref td_gunHour, .ref td_rules]))]) [0] (by decide) rfl
    have hKc := hK.sub (tys' := []) [] rfl
    have hFc := va_free (wc := [(td, .inr (8, [.int td_clocks, .int td_people, .int td_rounds, .int td_guns, .int td_lines, .ref td_name, .ref td_first, .ref td_gain, .ref td_rough, .ref td_custom, .ref td_part, .ref td_whole, .ref td_roundPerson, .ref td_roundClock, .ref td_roundHour, .ref td_gunClock, .ref td_gunHour, .ref td_rules]))]) hD hS hA [0] rfl
    refine va_calli (va_runV (As := [.int z_2]) (rest := []) ⟨hx, hb, hml, hown, hT⟩ (c_X8_hasPerson l dC dI s.heap.size td z_2 td_clocks td_people td_rounds td_guns td_lines td_name td_first td_gain td_rough td_custom td_part td_whole td_roundPerson td_roundClock td_roundHour td_gunClock td_gunHour td_rules (by omega) (by omega) (by omega) (by omega)) (cwV 1 hT (gwV mw_4_236 mw_4_155 mw_4_156 mw_1_8 mw_4_157) rfl rfl rfl (by decide +kernel) ⟨Nat.le_of_ble_eq_true rfl, Nat.le_of_ble_eq_true rfl⟩) ⟨fun a U g mk q => by obtain ⟨q0, q1, qP, qK, qD⟩ := q; exact ⟨q0, q1, qP, va_K.moved (u := U) (U := U.calling g mk a) (Vm.Alike.refl U.vm) qK, qD⟩, va_recv hK hP (ci := 8) (q0 := 0) rfl rfl, fun U hU hW => ⟨rfl, by rw [hU], by rw [hU]; exact hPc, va_K.moved hW.alike hKc, hDc.weaken (fun _ _ _ _ => trivial)⟩⟩ rfl rfl hl.1 rfl (lv_room (Nat.le_of_ble_eq_true rfl)) dX8_isRough_17 ⟨Nat.le_of_ble_eq_true rfl, Nat.le_of_ble_eq_true rfl⟩) hS (fun q _ h => hFc q h) hFc (fun r_3 u t H1 locs ht hvm hw hB hz1 hk1 hS => ?_)
    obtain ⟨hP1, hD1⟩ := hB
    rw [ht] at hP1
    obtain ⟨hP, hD⟩ := va_join (wr := [(td_rough, .inl (k_td_rough, 10, .inl f_td_rough))]) (w1 := [(td, .inr (8, [.int td_clocks, .int td_people, .int td_rounds, .int td_guns, .int td_lines, .ref td_name, .ref td_first, .ref td_gain, .ref td_rough, .ref td_custom, .ref td_part, .ref td_whole, .ref td_roundPerson, .ref td_roundClock, .ref td_roundHour, .ref td_gunClock, .ref td_gunHour, .ref td_rules]))]) hP hD [0] [1] rfl rfl (by decide) (by decide) hk1 hFc hP1 hD1
    generalize H1 = H at hP hS ⊢
    have hP : va_P (dC, dI) vwCl [(td_rough, .inl (k_td_rough, 10, .inl f_td_rough)), (td, .inr (8, [.int td_clocks, .int td_people, .int td_rounds, .int td_guns, .int td_lines, .ref td_name, .ref td_first, .ref td_gain, .ref td_rough, .ref td_custom, .ref td_part, .ref td_whole, .ref td_roundPerson, .ref td_roundClock, .ref td_roundHour, .ref td_gunClock, .ref td_gunHour, .ref td_rules]))] H := hP
    have hD : va_D A [(td_rough, .inl (k_td_rough, 10, .inl f_td_rough)), (td, .inr (8, [.int td_clocks, .int td_people, .int td_rounds, .int td_guns, .int td_lines, .ref td_name, .ref td_first, .ref td_gain, .ref td_rough, .ref td_custom, .ref td_part, .ref td_whole, .ref td_roundPerson, .ref td_roundClock, .ref td_roundHour, .ref td_gunClock, .ref td_gunHour, .ref td_rules]))] := hD
    clear hPc hDc hKc hFc hP1 hD1 hk1 hz1 ht hvm
    have hwr_3 : (r_3 = 1 ∧ (0 ≤ z_2.toInt ∧ z_2.toInt < td_people.toInt)) ∨ (r_3 = 0 ∧ (z_2.toInt < 0 ∨ td_people.toInt ≤ z_2.toInt)) := hw
    clear hw
    rcases hwr_3 with ⟨hrr_3, hfr_3⟩ | ⟨hrr_3, hfr_3⟩
    · subst r_3
      refine lv_istore_n (lv' := [(2, .int 1), (0, .ref td), (1, .int vs)]) hx hb dX8_isRough_20 rfl hl (by decide) rfl (fun ls hl => ?_)
      refine lv_iload_n hx hb dX8_isRough_21 rfl (lv_at hl 0 rfl) ?_
      refine lv_if_eq (tgt := 38) hx hb dX8_isRough_22 (by decide) (fun c_4 => absurd c_4 (by decide)) (fun c_4 => ?_)
      refine lv_aload_n hx hb dX8_isRough_25 rfl (lv_at hl 1 rfl) ?_
      refine va_get (D := (dC, dI)) (ci := 8) (v := .ref td_rough) (C := RX8) (T := TX8) (N := 18) hx hb hT inX8 hown hK hP 1 rfl rfl 8 (by decide) (hT _ mw_1_217) (fun _ h9 => h9) rfl dX8_isRough_26 ?_
      refine lv_iload_n hx hb dX8_isRough_29 rfl (lv_at hl 2 rfl) ?_
      refine va_iald hx hb hK hP 0 0 rfl rfl (vp_in_iff.mpr (by omega)) dX8_isRough_30 ?_
      refine lv_topi (fun z_5 ez_5 => ?_)
      refine lv_if_le (tgt := 38) hx hb dX8_isRough_31 (by decide) (fun c_6 => ?_) (fun c_6 => ?_)
      · have kc_6 := il_le c_6
        have := (by decide : (0 : Int32).toInt = 0)
        refine lv_iconst (v := 0) hx hb dX8_isRough_38 (by decide) ?_
        have hP9 := hP.sub (ws' := [(td, .inr (8, [.int td_clocks, .int td_people, .int td_rounds, .int td_guns, .int td_lines, .ref td_name, .ref td_first, .ref td_gain, .ref td_rough, .ref td_custom, .ref td_part, .ref td_whole, .ref td_roundPerson, .ref td_roundClock, .ref td_roundHour, .ref td_gunClock, .ref td_gunHour, .ref td_rules])), (td_rough, .inl (k_td_rough, 10, .inl f_td_rough))]) [1, 0] rfl
        have hD9 := hD.sub (ws' := [(td, .inr (8, [.int td_clocks, .int td_people, .int td_rounds, .int td_guns, .int td_lines, .ref td_name, .ref td_first, .ref td_gain, .ref td_rough, .ref td_custom, .ref td_part, .ref td_whole, .ref td_roundPerson, .ref td_roundClock, .ref td_roundHour, .ref td_gunClock, .ref td_gunHour, .ref td_rules])), (td_rough, .inl (k_td_rough, 10, .inl f_td_rough))]) [1, 0] (by decide) rfl
        have := (by decide : (0 : Int32).toInt = 0)
        exact W.zret (v := 0) hx hb hr (by decide) (fun t ht hW => ⟨⟨0, (), rfl, (by first | omega | (refine ⟨?_, ?_⟩ <;> omega) | rfl | (intros; omega)), by rw [ht]; exact hP9, hD9⟩, hS.F ht⟩) hS.2.2 dX8_isRough_39
      · have kc_6 := il_nle c_6
        have := (by decide : (0 : Int32).toInt = 0)
        refine lv_iconst (v := 1) hx hb dX8_isRough_34 (by decide) ?_
        refine lv_goto (tgt := 39) hx hb dX8_isRough_35 (by decide) ?_
        have hP9 := hP.sub (ws' := [(td, .inr (8, [.int td_clocks, .int td_people, .int td_rounds, .int td_guns, .int td_lines, .ref td_name, .ref td_first, .ref td_gain, .ref td_rough, .ref td_custom, .ref td_part, .ref td_whole, .ref td_roundPerson, .ref td_roundClock, .ref td_roundHour, .ref td_gunClock, .ref td_gunHour, .ref td_rules])), (td_rough, .inl (k_td_rough, 10, .inl f_td_rough))]) [1, 0] rfl
        have hD9 := hD.sub (ws' := [(td, .inr (8, [.int td_clocks, .int td_people, .int td_rounds, .int td_guns, .int td_lines, .ref td_name, .ref td_first, .ref td_gain, .ref td_rough, .ref td_custom, .ref td_part, .ref td_whole, .ref td_roundPerson, .ref td_roundClock, .ref td_roundHour, .ref td_gunClock, .ref td_gunHour, .ref td_rules])), (td_rough, .inl (k_td_rough, 10, .inl f_td_rough))]) [1, 0] (by decide) rfl
        have := (by decide : (1 : Int32).toInt = 1)
        exact W.zret (v := 1) hx hb hr (by decide) (fun t ht hW => ⟨⟨1, (), rfl, (by first | omega | (refine ⟨?_, ?_⟩ <;> omega) | rfl | (intros; omega)), by rw [ht]; exact hP9, hD9⟩, hS.F ht⟩) hS.2.2 dX8_isRough_39
    · subst r_3
      refine lv_istore_n (lv' := [(2, .int 0), (0, .ref td), (1, .int vs)]) hx hb dX8_isRough_20 rfl hl (by decide) rfl (fun ls hl => ?_)
      refine lv_iload_n hx hb dX8_isRough_21 rfl (lv_at hl 0 rfl) ?_
      refine lv_if_eq (tgt := 38) hx hb dX8_isRough_22 (by decide) (fun c_7 => ?_) (fun c_7 => absurd c_7 (by decide))
      refine lv_iconst (v := 0) hx hb dX8_isRough_38 (by decide) ?_
      have hP9 := hP.sub (ws' := [(td, .inr (8, [.int td_clocks, .int td_people, .int td_rounds, .int td_guns, .int td_lines, .ref td_name, .ref td_first, .ref td_gain, .ref td_rough, .ref td_custom, .ref td_part, .ref td_whole, .ref td_roundPerson, .ref td_roundClock, .ref td_roundHour, .ref td_gunClock, .ref td_gunHour, .ref td_rules])), (td_rough, .inl (k_td_rough, 10, .inl f_td_rough))]) [1, 0] rfl
      have hD9 := hD.sub (ws' := [(td, .inr (8, [.int td_clocks, .int td_people, .int td_rounds, .int td_guns, .int td_lines, .ref td_name, .ref td_first, .ref td_gain, .ref td_rough, .ref td_custom, .ref td_part, .ref td_whole, .ref td_roundPerson, .ref td_roundClock, .ref td_roundHour, .ref td_gunClock, .ref td_gunHour, .ref td_rules])), (td_rough, .inl (k_td_rough, 10, .inl f_td_rough))]) [1, 0] (by decide) rfl
      have := (by decide : (0 : Int32).toInt = 0)
      exact W.zret (v := 0) hx hb hr (by decide) (fun t ht hW => ⟨⟨0, (), rfl, (by first | omega | (refine ⟨?_, ?_⟩ <;> omega) | rfl | (intros; omega)), by rw [ht]; exact hP9, hD9⟩, hS.F ht⟩) hS.2.2 dX8_isRough_39
  · have kc_1 := il_nle c_1
    have := (by decide : (5 : Int32).toInt = 5)
    refine lv_aload_n hx hb dX8_isRough_5 rfl (lv_at hl 0 rfl) ?_
    refine lv_iload_n hx hb dX8_isRough_6 rfl (lv_at hl 1 rfl) ?_
    have hPc := hP.sub (ws' := [(td, .inr (8, [.int td_clocks, .int td_people, .int td_rounds, .int td_guns, .int td_lines, .ref td_name, .ref td_first, .ref td_gain, .ref td_rough, .ref td_custom, .ref td_part, .ref td_whole, .ref td_roundPerson, .ref td_roundClock, .ref td_roundHour, .ref td_gunClock, .ref td_gunHour, .ref td_rules]))]) [0] rfl
    have hDc := hD.sub (ws' := [(td, .inr (8, [.int td_clocks, .int td_people, .int td_rounds, .int td_guns, .int td_lines, .ref td_name, .ref td_first, .ref td_gain, .ref td_rough, .ref td_custom, .ref td_part, .ref td_whole, .ref td_roundPerson, .ref td_roundClock, .ref td_roundHour, .ref td_gunClock, .ref td_gunHour, .ref td_rules]))]) [0] (by decide) rfl
    have hKc := hK.sub (tys' := []) [] rfl
    have hFc := va_free (wc := [(td, .inr (8, [.int td_clocks, .int td_people, .int td_rounds, .int td_guns, .int td_lines, .ref td_name, .ref td_first, .ref td_gain, .ref td_rough, .ref td_custom, .ref td_part, .ref td_whole, .ref td_roundPerson, .ref td_roundClock, .ref td_roundHour, .ref td_gunClock, .ref td_gunHour, .ref td_rules]))]) hD hS hA [0] rfl
    refine va_calli (va_runV (As := [.int vs]) (rest := []) ⟨hx, hb, hml, hown, hT⟩ (c_X8_hasClock l dC dI s.heap.size td vs td_clocks td_people td_rounds td_guns td_lines td_name td_first td_gain td_rough td_custom td_part td_whole td_roundPerson td_roundClock td_roundHour td_gunClock td_gunHour td_rules (by omega) (by omega) (by omega) (by omega)) (cwV 1 hT (gwV mw_4_235 mw_4_41 mw_4_42 mw_1_8 mw_4_43) rfl rfl rfl (by decide +kernel) ⟨Nat.le_of_ble_eq_true rfl, Nat.le_of_ble_eq_true rfl⟩) ⟨fun a U g mk q => by obtain ⟨q0, q1, qP, qK, qD⟩ := q; exact ⟨q0, q1, qP, va_K.moved (u := U) (U := U.calling g mk a) (Vm.Alike.refl U.vm) qK, qD⟩, va_recv hK hP (ci := 8) (q0 := 0) rfl rfl, fun U hU hW => ⟨rfl, by rw [hU], by rw [hU]; exact hPc, va_K.moved hW.alike hKc, hDc.weaken (fun _ _ _ _ => trivial)⟩⟩ rfl rfl hl.1 rfl (lv_room (Nat.le_of_ble_eq_true rfl)) dX8_isRough_7 ⟨Nat.le_of_ble_eq_true rfl, Nat.le_of_ble_eq_true rfl⟩) hS (fun q _ h => hFc q h) hFc (fun r_8 u t H1 locs ht hvm hw hB hz1 hk1 hS => ?_)
    obtain ⟨hP1, hD1⟩ := hB
    rw [ht] at hP1
    obtain ⟨hP, hD⟩ := va_join (wr := [(td_rough, .inl (k_td_rough, 10, .inl f_td_rough))]) (w1 := [(td, .inr (8, [.int td_clocks, .int td_people, .int td_rounds, .int td_guns, .int td_lines, .ref td_name, .ref td_first, .ref td_gain, .ref td_rough, .ref td_custom, .ref td_part, .ref td_whole, .ref td_roundPerson, .ref td_roundClock, .ref td_roundHour, .ref td_gunClock, .ref td_gunHour, .ref td_rules]))]) hP hD [0] [1] rfl rfl (by decide) (by decide) hk1 hFc hP1 hD1
    generalize H1 = H at hP hS ⊢
    have hP : va_P (dC, dI) vwCl [(td_rough, .inl (k_td_rough, 10, .inl f_td_rough)), (td, .inr (8, [.int td_clocks, .int td_people, .int td_rounds, .int td_guns, .int td_lines, .ref td_name, .ref td_first, .ref td_gain, .ref td_rough, .ref td_custom, .ref td_part, .ref td_whole, .ref td_roundPerson, .ref td_roundClock, .ref td_roundHour, .ref td_gunClock, .ref td_gunHour, .ref td_rules]))] H := hP
    have hD : va_D A [(td_rough, .inl (k_td_rough, 10, .inl f_td_rough)), (td, .inr (8, [.int td_clocks, .int td_people, .int td_rounds, .int td_guns, .int td_lines, .ref td_name, .ref td_first, .ref td_gain, .ref td_rough, .ref td_custom, .ref td_part, .ref td_whole, .ref td_roundPerson, .ref td_roundClock, .ref td_roundHour, .ref td_gunClock, .ref td_gunHour, .ref td_rules]))] := hD
    clear hPc hDc hKc hFc hP1 hD1 hk1 hz1 ht hvm
    have hwr_8 : (r_8 = 1 ∧ (0 ≤ vs.toInt ∧ vs.toInt < td_clocks.toInt)) ∨ (r_8 = 0 ∧ (vs.toInt < 0 ∨ td_clocks.toInt ≤ vs.toInt)) := hw
    clear hw
    rcases hwr_8 with ⟨hrr_8, hfr_8⟩ | ⟨hrr_8, hfr_8⟩
    · subst r_8
      refine lv_goto (tgt := 20) hx hb dX8_isRough_10 (by decide) ?_
      refine lv_istore_n (lv' := [(2, .int 1), (0, .ref td), (1, .int vs)]) hx hb dX8_isRough_20 rfl hl (by decide) rfl (fun ls hl => ?_)
      refine lv_iload_n hx hb dX8_isRough_21 rfl (lv_at hl 0 rfl) ?_
      refine lv_if_eq (tgt := 38) hx hb dX8_isRough_22 (by decide) (fun c_9 => absurd c_9 (by decide)) (fun c_9 => ?_)
      refine lv_aload_n hx hb dX8_isRough_25 rfl (lv_at hl 1 rfl) ?_
      refine va_get (D := (dC, dI)) (ci := 8) (v := .ref td_rough) (C := RX8) (T := TX8) (N := 18) hx hb hT inX8 hown hK hP 1 rfl rfl 8 (by decide) (hT _ mw_1_217) (fun _ h9 => h9) rfl dX8_isRough_26 ?_
      refine lv_iload_n hx hb dX8_isRough_29 rfl (lv_at hl 2 rfl) ?_
      refine va_iald hx hb hK hP 0 0 rfl rfl (vp_in_iff.mpr (by omega)) dX8_isRough_30 ?_
      refine lv_topi (fun z_10 ez_10 => ?_)
      refine lv_if_le (tgt := 38) hx hb dX8_isRough_31 (by decide) (fun c_11 => ?_) (fun c_11 => ?_)
      · have kc_11 := il_le c_11
        have := (by decide : (0 : Int32).toInt = 0)
        refine lv_iconst (v := 0) hx hb dX8_isRough_38 (by decide) ?_
        have hP9 := hP.sub (ws' := [(td, .inr (8, [.int td_clocks, .int td_people, .int td_rounds, .int td_guns, .int td_lines, .ref td_name, .ref td_first, .ref td_gain, .ref td_rough, .ref td_custom, .ref td_part, .ref td_whole, .ref td_roundPerson, .ref td_roundClock, .ref td_roundHour, .ref td_gunClock, .ref td_gunHour, .ref td_rules])), (td_rough, .inl (k_td_rough, 10, .inl f_td_rough))]) [1, 0] rfl
        have hD9 := hD.sub (ws' := [(td, .inr (8, [.int td_clocks, .int td_people, .int td_rounds, .int td_guns, .int td_lines, .ref td_name, .ref td_first, .ref td_gain, .ref td_rough, .ref td_custom, .ref td_part, .ref td_whole, .ref td_roundPerson, .ref td_roundClock, .ref td_roundHour, .ref td_gunClock, .ref td_gunHour, .ref td_rules])), (td_rough, .inl (k_td_rough, 10, .inl f_td_rough))]) [1, 0] (by decide) rfl
        have := (by decide : (0 : Int32).toInt = 0)
        exact W.zret (v := 0) hx hb hr (by decide) (fun t ht hW => ⟨⟨0, (), rfl, (by first | omega | (refine ⟨?_, ?_⟩ <;> omega) | rfl | (intros; omega)), by rw [ht]; exact hP9, hD9⟩, hS.F ht⟩) hS.2.2 dX8_isRough_39
      · have kc_11 := il_nle c_11
        have := (by decide : (0 : Int32).toInt = 0)
        refine lv_iconst (v := 1) hx hb dX8_isRough_34 (by decide) ?_
        refine lv_goto (tgt := 39) hx hb dX8_isRough_35 (by decide) ?_
        have hP9 := hP.sub (ws' := [(td, .inr (8, [.int td_clocks, .int td_people, .int td_rounds, .int td_guns, .int td_lines, .ref td_name, .ref td_first, .ref td_gain, .ref td_rough, .ref td_custom, .ref td_part, .ref td_whole, .ref td_roundPerson, .ref td_roundClock, .ref td_roundHour, .ref td_gunClock, .ref td_gunHour, .ref td_rules])), (td_rough, .inl (k_td_rough, 10, .inl f_td_rough))]) [1, 0] rfl
        have hD9 := hD.sub (ws' := [(td, .inr (8, [.int td_clocks, .int td_people, .int td_rounds, .int td_guns, .int td_lines, .ref td_name, .ref td_first, .ref td_gain, .ref td_rough, .ref td_custom, .ref td_part, .ref td_whole, .ref td_roundPerson, .ref td_roundClock, .ref td_roundHour, .ref td_gunClock, .ref td_gunHour, .ref td_rules])), (td_rough, .inl (k_td_rough, 10, .inl f_td_rough))]) [1, 0] (by decide) rfl
        have := (by decide : (1 : Int32).toInt = 1)
        exact W.zret (v := 1) hx hb hr (by decide) (fun t ht hW => ⟨⟨1, (), rfl, (by first | omega | (refine ⟨?_, ?_⟩ <;> omega) | rfl | (intros; omega)), by rw [ht]; exact hP9, hD9⟩, hS.F ht⟩) hS.2.2 dX8_isRough_39
    · subst r_8
      refine lv_goto (tgt := 20) hx hb dX8_isRough_10 (by decide) ?_
      refine lv_istore_n (lv' := [(2, .int 0), (0, .ref td), (1, .int vs)]) hx hb dX8_isRough_20 rfl hl (by decide) rfl (fun ls hl => ?_)
      refine lv_iload_n hx hb dX8_isRough_21 rfl (lv_at hl 0 rfl) ?_
      refine lv_if_eq (tgt := 38) hx hb dX8_isRough_22 (by decide) (fun c_12 => ?_) (fun c_12 => absurd c_12 (by decide))
      refine lv_iconst (v := 0) hx hb dX8_isRough_38 (by decide) ?_
      have hP9 := hP.sub (ws' := [(td, .inr (8, [.int td_clocks, .int td_people, .int td_rounds, .int td_guns, .int td_lines, .ref td_name, .ref td_first, .ref td_gain, .ref td_rough, .ref td_custom, .ref td_part, .ref td_whole, .ref td_roundPerson, .ref td_roundClock, .ref td_roundHour, .ref td_gunClock, .ref td_gunHour, .ref td_rules])), (td_rough, .inl (k_td_rough, 10, .inl f_td_rough))]) [1, 0] rfl
      have hD9 := hD.sub (ws' := [(td, .inr (8, [.int td_clocks, .int td_people, .int td_rounds, .int td_guns, .int td_lines, .ref td_name, .ref td_first, .ref td_gain, .ref td_rough, .ref td_custom, .ref td_part, .ref td_whole, .ref td_roundPerson, .ref td_roundClock, .ref td_roundHour, .ref td_gunClock, .ref td_gunHour, .ref td_rules])), (td_rough, .inl (k_td_rough, 10, .inl f_td_rough))]) [1, 0] (by decide) rfl
      have := (by decide : (0 : Int32).toInt = 0)
      exact W.zret (v := 0) hx hb hr (by decide) (fun t ht hW => ⟨⟨0, (), rfl, (by first | omega | (refine ⟨?_, ?_⟩ <;> omega) | rfl | (intros; omega)), by rw [ht]; exact hP9, hD9⟩, hS.F ht⟩) hS.2.2 dX8_isRough_39
abbrev q_X8_find (dC : Nat → ClassId) (dI : Nat → Nat → Nat) (A : Nat → Prop) (td : Nat) (vf : Int32) (vn : Int32) (vw : Int32) (td_clocks : Int32) (td_people : Int32) (td_rounds : Int32) (td_guns : Int32) (td_lines : Int32) (td_name : Nat) (td_first : Nat) (td_gain : Nat) (td_rough : Nat) (td_custom : Nat) (td_part : Nat) (td_whole : Nat) (td_roundPerson : Nat) (td_roundClock : Nat) (td_roundHour : Nat) (td_gunClock : Nat) (td_gunHour : Nat) (td_rules : Nat) (k_td_name : ClassId) (f_td_name : Nat → Int32) : Array Value → State → Outcome → State → Prop := va_Qi (fun (r : Int32) (_ : Unit) => (-1 ≤ r.toInt ∧ (r.toInt = -1 ∨ r.toInt < vn.toInt)) ∧ r.toInt = pf_find (nx f_td_name vf) vw.toInt vn.toInt.toNat) (fun (_ : Unit) (t : State) => va_P (dC, dI) vwCl [(td, .inr (8, [.int td_clocks, .int td_people, .int td_rounds, .int td_guns, .int td_lines, .ref td_name, .ref td_first, .ref td_gain, .ref td_rough, .ref td_custom, .ref td_part, .ref td_whole, .ref td_roundPerson, .ref td_roundClock, .ref td_roundHour, .ref td_gunClock, .ref td_gunHour, .ref td_rules])), (td_name, .inl (k_td_name, 10, .inl f_td_name))] t.heap ∧ va_D A [(td, .inr (8, [.int td_clocks, .int td_people, .int td_rounds, .int td_guns, .int td_lines, .ref td_name, .ref td_first, .ref td_gain, .ref td_rough, .ref td_custom, .ref td_part, .ref td_whole, .ref td_roundPerson, .ref td_roundClock, .ref td_roundHour, .ref td_gunClock, .ref td_gunHour, .ref td_rules])), (td_name, .inl (k_td_name, 10, .inl f_td_name))]) A
set_option maxHeartbeats 4000000 in
set_option maxRecDepth 100000 in
theorem c_X8_find (l : Launch) (dC : Nat → ClassId) (dI : Nat → Nat → Nat) (sz : Nat) (td : Nat) (vf : Int32) (vn : Int32) (vw : Int32) (td_clocks : Int32) (td_people : Int32) (td_rounds : Int32) (td_guns : Int32) (td_lines : Int32) (td_name : Nat) (td_first : Nat) (td_gain : Nat) (td_rough : Nat) (td_custom : Nat) (td_part : Nat) (td_whole : Nat) (td_roundPerson : Nat) (td_roundClock : Nat) (td_roundHour : Nat) (td_gunClock : Nat) (td_gunHour : Nat) (td_rules : Nat) (k_td_name : ClassId) (f_td_name : Nat → Int32) (h_td_clocks : 0 ≤ td_clocks.toInt ∧ td_clocks.toInt ≤ 5) (h_td_people : 0 ≤ td_people.toInt ∧ td_people.toInt ≤ 5) (h_td_rounds : 0 ≤ td_rounds.toInt ∧ td_rounds.toInt ≤ 12) (h_td_guns : 0 ≤ td_guns.toInt ∧ td_guns.toInt ≤ 3) (h_vf : 0 ≤ vf.toInt ∧ vf.toInt ≤ 10) (h_vn : 0 ≤ vn.toInt ∧ vn.toInt ≤ 10) (hs : vf.toInt + vn.toInt ≤ 10) : Met l yX8_find (pw_w yX8_find cX8_find 5 (some .int)) ({ frames := 0, cells := 0, slots := 0, locals := 0 }) (va_Pc [.ref td, .int vf, .int vn, .int vw] (fun U => U.heap.size = sz ∧ va_P (dC, dI) vwCl [(td, .inr (8, [.int td_clocks, .int td_people, .int td_rounds, .int td_guns, .int td_lines, .ref td_name, .ref td_first, .ref td_gain, .ref td_rough, .ref td_custom, .ref td_part, .ref td_whole, .ref td_roundPerson, .ref td_roundClock, .ref td_roundHour, .ref td_gunClock, .ref td_gunHour, .ref td_rules])), (td_name, .inl (k_td_name, 10, .inl f_td_name))] U.heap ∧ va_K (dC, dI) vwCl [(k_td_name, .int)] U ∧ va_D (fun _ => True) [(td, .inr (8, [.int td_clocks, .int td_people, .int td_rounds, .int td_guns, .int td_lines, .ref td_name, .ref td_first, .ref td_gain, .ref td_rough, .ref td_custom, .ref td_part, .ref td_whole, .ref td_roundPerson, .ref td_roundClock, .ref td_roundHour, .ref td_gunClock, .ref td_gunHour, .ref td_rules])), (td_name, .inl (k_td_name, 10, .inl f_td_name))])) (q_X8_find dC dI (va_A [(td, .inr (8, [.int td_clocks, .int td_people, .int td_rounds, .int td_guns, .int td_lines, .ref td_name, .ref td_first, .ref td_gain, .ref td_rough, .ref td_custom, .ref td_part, .ref td_whole, .ref td_roundPerson, .ref td_roundClock, .ref td_roundHour, .ref td_gunClock, .ref td_gunHour, .ref td_rules])), (td_name, .inl (k_td_name, 10, .inl f_td_name))] sz) td vf vn vw td_clocks td_people td_rounds td_guns td_lines td_name td_first td_gain td_rough td_custom td_part td_whole td_roundPerson td_roundClock td_roundHour td_gunClock td_gunHour td_rules k_td_name f_td_name) 0 0 (va_A [(td, .inr (8, [.int td_clocks, .int td_people, .int td_rounds, .int td_guns, .int td_lines, .ref td_name, .ref td_first, .ref td_gain, .ref td_rough, .ref td_custom, .ref td_part, .ref td_whole, .ref td_roundPerson, .ref td_roundClock, .ref td_roundHour, .ref td_gunClock, .ref td_gunHour, .ref td_rules])), (td_name, .inl (k_td_name, 10, .inl f_td_name))] sz) := by
  refine Met.ofW (cc := cX8_find) (maxL := 5) (ret := (some .int)) (by decide) rfl ?_
  intro p e s m args below meth c s₁ B hml hv
  obtain ⟨rfl, hsz, hP, hK, hD0⟩ := hv
  have hx := B.exec
  have hb := B.bytes
  have hr := B.returns
  have hts := atoms_spec (ws := (pw_w yX8_find cX8_find 5 (some .int))) B.pre
  have hT : ∀ w ∈ pw_T, w.before _ s = true := fun w h => hts w (List.mem_cons_of_mem _ h)
  have hown : s.vm.findClass RX8 = some m.cls := findClass_of_methodNamed B.named
  have hlocks := B.notSynchronized
  subst hsz
  have hD := hD0.self (sz := s.heap.size)
  generalize hAe : va_A [(td, .inr (8, [.int td_clocks, .int td_people, .int td_rounds, .int td_guns, .int td_lines, .ref td_name, .ref td_first, .ref td_gain, .ref td_rough, .ref td_custom, .ref td_part, .ref td_whole, .ref td_roundPerson, .ref td_roundClock, .ref td_roundHour, .ref td_gunClock, .ref td_gunHour, .ref td_rules])), (td_name, .inl (k_td_name, 10, .inl f_td_name))] s.heap.size = A at hD ⊢
  have hA : ∀ q : Nat, s.heap.size ≤ q → A q := fun q h => by rw [← hAe]; exact Or.inr h
  have hS : va_S A s.heap s.heap [] := va_S.rf
  have hP : va_P (dC, dI) vwCl [(td, .inr (8, [.int td_clocks, .int td_people, .int td_rounds, .int td_guns, .int td_lines, .ref td_name, .ref td_first, .ref td_gain, .ref td_rough, .ref td_custom, .ref td_part, .ref td_whole, .ref td_roundPerson, .ref td_roundClock, .ref td_roundHour, .ref td_gunClock, .ref td_gunHour, .ref td_rules])), (td_name, .inl (k_td_name, 10, .inl f_td_name))] s.heap := hP
  have hl := lv_entry ([.ref td, .int vf, .int vn, .int vw]) (n := 5) (Nat.le_of_ble_eq_true rfl)
  rw [lg_entry_eq]
  generalize (lg_sl ([.ref td, .int vf, .int vn, .int vw]) ++ List.replicate (5 - (lg_sl ([.ref td, .int vf, .int vn, .int vw])).length) Slot.unset).toArray = ls at hl ⊢
  have hl : lv_has ls 5 [(0, .ref td), (1, .int vf), (2, .int vn), (3, .int vw)] := hl
  refine lv_iconst (v := 0) hx hb dX8_find_0 (by decide) ?_
  refine lv_istore (lv' := [(4, .int 0), (0, .ref td), (1, .int vf), (2, .int vn), (3, .int vw)]) hx hb dX8_find_1 hl (by decide) rfl (fun ls hl => ?_)
  have loop_9 : ∀ (fu : Nat), ∀ (g_7_l4 : Int32), (0 ≤ g_7_l4.toInt ∧ g_7_l4.toInt ≤ 10) → (FNx f_td_name vf vw g_7_l4) → (10 - g_7_l4.toInt < (fu : Int)) → ∀ (H : Heap) (locs : List Loc), va_P (dC, dI) vwCl [(td, .inr (8, [.int td_clocks, .int td_people, .int td_rounds, .int td_guns, .int td_lines, .ref td_name, .ref td_first, .ref td_gain, .ref td_rough, .ref td_custom, .ref td_part, .ref td_whole, .ref td_roundPerson, .ref td_roundClock, .ref td_roundHour, .ref td_gunClock, .ref td_gunHour, .ref td_rules])), (td_name, .inl (k_td_name, 10, .inl f_td_name))] H → va_D A [(td, .inr (8, [.int td_clocks, .int td_people, .int td_rounds, .int td_guns, .int td_lines, .ref td_name, .ref td_first, .ref td_gain, .ref td_rough, .ref td_custom, .ref td_part, .ref td_whole, .ref td_roundPerson, .ref td_roundClock, .ref td_roundHour, .ref td_gunClock, .ref td_gunHour, .ref td_rules])), (td_name, .inl (k_td_name, 10, .inl f_td_name))] → va_S A s.heap H locs → ∀ (ls : Array Slot), lv_has ls 5 [(4, .int g_7_l4), (0, .ref td), (1, .int vf), (2, .int vn), (3, .int vw)] → W p l e (headSpec (pw_w yX8_find cX8_find 5 (some .int)) ({ frames := 0, cells := 0, slots := 0, locals := 0 })).room s m ([.ref td, .int vf, .int vn, .int vw] : List Value).toArray below meth c H locs 0 0 (MQ below (q_X8_find dC dI A td vf vn vw td_clocks td_people td_rounds td_guns td_lines td_name td_first td_gain td_rough td_custom td_part td_whole td_roundPerson td_roundClock td_roundHour td_gunClock td_gunHour td_rules k_td_name f_td_name) ([.ref td, .int vf, .int vn, .int vw] : List Value).toArray s 0 0 A) (F0 m 3 ls []) := by
    intro fu
    induction fu with
    | zero => intro g_7_l4 hg_7_l4 hi_fn_q_8 hfu; exact absurd hfu (by omega)
    | succ fu9 ih9 =>
      intro g_7_l4 hg_7_l4 hi_fn_q_8 hfu9 H locs hP hD hS ls hl
      refine lv_iload hx hb dX8_find_3 (lv_at hl 0 rfl) ?_
      refine lv_iload_n hx hb dX8_find_5 rfl (lv_at hl 3 rfl) ?_
      refine lv_icmp_ge (tgt := 31) hx hb dX8_find_6 (by decide) (fun c_10 => ?_) (fun c_10 => ?_)
      · have kc_10 := il_le c_10
        refine lv_iconst (v := (-1)) hx hb dX8_find_31 (by decide) ?_
        have hP9 := hP.sub (ws' := [(td, .inr (8, [.int td_clocks, .int td_people, .int td_rounds, .int td_guns, .int td_lines, .ref td_name, .ref td_first, .ref td_gain, .ref td_rough, .ref td_custom, .ref td_part, .ref td_whole, .ref td_roundPerson, .ref td_roundClock, .ref td_roundHour, .ref td_gunClock, .ref td_gunHour, .ref td_rules])), (td_name, .inl (k_td_name, 10, .inl f_td_name))]) [0, 1] rfl
        have hD9 := hD.sub (ws' := [(td, .inr (8, [.int td_clocks, .int td_people, .int td_rounds, .int td_guns, .int td_lines, .ref td_name, .ref td_first, .ref td_gain, .ref td_rough, .ref td_custom, .ref td_part, .ref td_whole, .ref td_roundPerson, .ref td_roundClock, .ref td_roundHour, .ref td_gunClock, .ref td_gunHour, .ref td_rules])), (td_name, .inl (k_td_name, 10, .inl f_td_name))]) [0, 1] (by decide) rfl
        have := (by decide : ((-1) : Int32).toInt = -1)
        exact W.iret (v := (-1)) hx hb hr (fun t ht hW => ⟨⟨(-1), (), rfl, ⟨(by omega), FNx_n hi_fn_q_8 (by omega)⟩, by rw [ht]; exact hP9, hD9⟩, hS.F ht⟩) hS.2.2 dX8_find_32
      · have kc_10 := il_nle c_10
        refine lv_aload_n hx hb dX8_find_9 rfl (lv_at hl 1 rfl) ?_
        refine va_get (D := (dC, dI)) (ci := 8) (v := .ref td_name) (C := RX8) (T := TX8) (N := 18) hx hb hT inX8 hown hK hP 0 rfl rfl 5 (by decide) (hT _ mw_1_207) (fun _ h9 => h9) rfl dX8_find_10 ?_
        refine lv_iload_n hx hb dX8_find_13 rfl (lv_at hl 2 rfl) ?_
        refine lv_iload hx hb dX8_find_14 (lv_at hl 0 rfl) ?_
        refine lv_iadd hx hb dX8_find_16 ?_
        refine lv_topi (fun z_11 ez_11 => ?_)
        have kz_11 : z_11.toInt = vf.toInt + g_7_l4.toInt := ti_add ez_11 rfl rfl (by omega) (by omega)
        clear ez_11
        refine va_iald hx hb hK hP 1 0 rfl rfl (vp_in_iff.mpr (by omega)) dX8_find_17 ?_
        refine lv_topi (fun z_12 ez_12 => ?_)
        refine lv_iload_n hx hb dX8_find_18 rfl (lv_at hl 4 rfl) ?_
        refine lv_icmp_ne (tgt := 25) hx hb dX8_find_19 (by decide) (fun c_13 => ?_) (fun c_13 => ?_)
        · have kc_13 := il_ne c_13
          have := Int32.toInt_lt z_12; have := Int32.le_toInt z_12
          have := Int32.toInt_lt vw; have := Int32.le_toInt vw
          obtain ⟨z_14, ez_14⟩ : ∃ y : Int32, y = g_7_l4 + Int32.ofInt (1) := ⟨_, rfl⟩
          have kz_14 : z_14.toInt = g_7_l4.toInt + (1) := ti_add ez_14 rfl (by decide) (by omega) (by omega)
          refine lv_iinc (v := z_14) (lv' := [(4, .int z_14), (0, .ref td), (1, .int vf), (2, .int vn), (3, .int vw)]) hx hb dX8_find_25 hl (k := 0) rfl (ez_14.symm) (by decide) rfl (fun ls hl => ?_)
          clear ez_14
          refine lv_goto (tgt := 3) hx hb dX8_find_28 (by decide) ?_
          exact ih9 z_14 (by omega) (FNx_s (y := z_11) hi_fn_q_8 (by omega) (by omega) ez_12 (by omega) (by omega)) (by omega) _ _ (hP.sub [0, 1] rfl) (hD.sub [0, 1] (by decide) rfl) hS _ (lv_sub hl [0, 1, 2, 3, 4] rfl)
        · have kc_13 := il_eq c_13
          have := Int32.toInt_lt z_12; have := Int32.le_toInt z_12
          have := Int32.toInt_lt vw; have := Int32.le_toInt vw
          refine lv_iload hx hb dX8_find_22 (lv_at hl 0 rfl) ?_
          have hP9 := hP.sub (ws' := [(td, .inr (8, [.int td_clocks, .int td_people, .int td_rounds, .int td_guns, .int td_lines, .ref td_name, .ref td_first, .ref td_gain, .ref td_rough, .ref td_custom, .ref td_part, .ref td_whole, .ref td_roundPerson, .ref td_roundClock, .ref td_roundHour, .ref td_gunClock, .ref td_gunHour, .ref td_rules])), (td_name, .inl (k_td_name, 10, .inl f_td_name))]) [0, 1] rfl
          have hD9 := hD.sub (ws' := [(td, .inr (8, [.int td_clocks, .int td_people, .int td_rounds, .int td_guns, .int td_lines, .ref td_name, .ref td_first, .ref td_gain, .ref td_rough, .ref td_custom, .ref td_part, .ref td_whole, .ref td_roundPerson, .ref td_roundClock, .ref td_roundHour, .ref td_gunClock, .ref td_gunHour, .ref td_rules])), (td_name, .inl (k_td_name, 10, .inl f_td_name))]) [0, 1] (by decide) rfl
          exact W.iret (v := g_7_l4) hx hb hr (fun t ht hW => ⟨⟨g_7_l4, (), rfl, ⟨(by omega), FNx_y (y := z_11) hi_fn_q_8 (by omega) (by omega) (by omega) ez_12 (by omega)⟩, by rw [ht]; exact hP9, hD9⟩, hS.F ht⟩) hS.2.2 dX8_find_24
  have := (by decide : (0 : Int32).toInt = 0)
  exact loop_9 4294967296 (0 : Int32) (by decide) FNx_0 (by omega) _ _ (hP.sub [0, 1] rfl) (hD.sub [0, 1] (by decide) rfl) hS _ (lv_sub hl [0, 1, 2, 3, 4] rfl)
abbrev q_X10_isWithin (dC : Nat → ClassId) (dI : Nat → Nat → Nat) (A : Nat → Prop) (vx : Int32) (va : Int32) (vb : Int32) : Array Value → State → Outcome → State → Prop := va_Qi (fun (r : Int32) (_ : Unit) => (r = 1 ∧ (va.toInt ≤ vx.toInt ∧ vx.toInt ≤ vb.toInt)) ∨ (r = 0 ∧ (vx.toInt < va.toInt ∨ vb.toInt < vx.toInt))) (fun (_ : Unit) (t : State) => va_P (dC, dI) vwCl [] t.heap ∧ va_D A []) A
set_option maxHeartbeats 4000000 in
set_option maxRecDepth 100000 in
theorem c_X10_isWithin (l : Launch) (dC : Nat → ClassId) (dI : Nat → Nat → Nat) (sz : Nat) (vx : Int32) (va : Int32) (vb : Int32)  : Met l yX10_isWithin (pw_w yX10_isWithin cX10_isWithin 3 (some .boolean)) ({ frames := 0, cells := 0, slots := 0, locals := 0 }) (va_Pc [.int vx, .int va, .int vb] (fun U => U.heap.size = sz ∧ va_P (dC, dI) vwCl [] U.heap ∧ va_K (dC, dI) vwCl [] U ∧ va_D (fun _ => True) [])) (q_X10_isWithin dC dI (va_A [] sz) vx va vb) 0 0 (va_A [] sz) := by
  refine Met.ofW (cc := cX10_isWithin) (maxL := 3) (ret := (some .boolean)) (by decide) rfl ?_
  intro p e s m args below meth c s₁ B hml hv
  obtain ⟨rfl, hsz, hP, hK, hD0⟩ := hv
  have hx := B.exec
  have hb := B.bytes
  have hr := B.returns
  have hts := atoms_spec (ws := (pw_w yX10_isWithin cX10_isWithin 3 (some .boolean))) B.pre
  have hT : ∀ w ∈ pw_T, w.before _ s = true := fun w h => hts w (List.mem_cons_of_mem _ h)
  have hown : s.vm.findClass RX10 = some m.cls := findClass_of_methodNamed B.named
  have hlocks := B.notSynchronized
  subst hsz
  have hD := hD0.self (sz := s.heap.size)
  generalize hAe : va_A [] s.heap.size = A at hD ⊢
  have hA : ∀ q : Nat, s.heap.size ≤ q → A q := fun q h => by rw [← hAe]; exact Or.inr h
  have hS : va_S A s.heap s.heap [] := va_S.rf
  have hP : va_P (dC, dI) vwCl [] s.heap := hP
  have hl := lv_entry ([.int vx, .int va, .int vb]) (n := 3) (Nat.le_of_ble_eq_true rfl)
  rw [lg_entry_eq]
  generalize (lg_sl ([.int vx, .int va, .int vb]) ++ List.replicate (3 - (lg_sl ([.int vx, .int va, .int vb])).length) Slot.unset).toArray = ls at hl ⊢
  have hl : lv_has ls 3 [(0, .int vx), (1, .int va), (2, .int vb)] := hl
  refine lv_iload_n hx hb dX10_isWithin_0 rfl (lv_at hl 0 rfl) ?_
  refine lv_iload_n hx hb dX10_isWithin_1 rfl (lv_at hl 1 rfl) ?_
  refine lv_icmp_lt (tgt := 14) hx hb dX10_isWithin_2 (by decide) (fun c_1 => ?_) (fun c_1 => ?_)
  · have kc_1 := il_lt c_1
    have := Int32.toInt_lt vx; have := Int32.le_toInt vx
    have := Int32.toInt_lt va; have := Int32.le_toInt va
    refine lv_iconst (v := 0) hx hb dX10_isWithin_14 (by decide) ?_
    have hP9 := hP.sub (ws' := []) [] rfl
    have hD9 := hD.sub (ws' := []) [] (by decide) rfl
    have := (by decide : (0 : Int32).toInt = 0)
    exact W.zret (v := 0) hx hb hr (by decide) (fun t ht hW => ⟨⟨0, (), rfl, (by first | exact Or.inl ⟨rfl, by first | omega | trivial⟩ | exact Or.inl ⟨Int32.toInt_inj.mp (by omega), by first | omega | trivial⟩ | exact Or.inr (⟨rfl, by first | omega | trivial⟩) | exact Or.inr (⟨Int32.toInt_inj.mp (by omega), by first | omega | trivial⟩)), by rw [ht]; exact hP9, hD9⟩, hS.F ht⟩) hS.2.2 dX10_isWithin_15
  · have kc_1 := il_nlt c_1
    have := Int32.toInt_lt vx; have := Int32.le_toInt vx
    have := Int32.toInt_lt va; have := Int32.le_toInt va
    refine lv_iload_n hx hb dX10_isWithin_5 rfl (lv_at hl 0 rfl) ?_
    refine lv_iload_n hx hb dX10_isWithin_6 rfl (lv_at hl 2 rfl) ?_
    refine lv_icmp_gt (tgt := 14) hx hb dX10_isWithin_7 (by decide) (fun c_2 => ?_) (fun c_2 => ?_)
    · have kc_2 := il_lt c_2
      have := Int32.toInt_lt vb; have := Int32.le_toInt vb
      refine lv_iconst (v := 0) hx hb dX10_isWithin_14 (by decide) ?_
      have hP9 := hP.sub (ws' := []) [] rfl
      have hD9 := hD.sub (ws' := []) [] (by decide) rfl
      have := (by decide : (0 : Int32).toInt = 0)
      exact W.zret (v := 0) hx hb hr (by decide) (fun t ht hW => ⟨⟨0, (), rfl, (by first | exact Or.inl ⟨rfl, by first | omega | trivial⟩ | exact Or.inl ⟨Int32.toInt_inj.mp (by omega), by first | omega | trivial⟩ | exact Or.inr (⟨rfl, by first | omega | trivial⟩) | exact Or.inr (⟨Int32.toInt_inj.mp (by omega), by first | omega | trivial⟩)), by rw [ht]; exact hP9, hD9⟩, hS.F ht⟩) hS.2.2 dX10_isWithin_15
    · have kc_2 := il_nlt c_2
      have := Int32.toInt_lt vb; have := Int32.le_toInt vb
      refine lv_iconst (v := 1) hx hb dX10_isWithin_10 (by decide) ?_
      refine lv_goto (tgt := 15) hx hb dX10_isWithin_11 (by decide) ?_
      have hP9 := hP.sub (ws' := []) [] rfl
      have hD9 := hD.sub (ws' := []) [] (by decide) rfl
      have := (by decide : (1 : Int32).toInt = 1)
      exact W.zret (v := 1) hx hb hr (by decide) (fun t ht hW => ⟨⟨1, (), rfl, (by first | exact Or.inl ⟨rfl, by first | omega | trivial⟩ | exact Or.inl ⟨Int32.toInt_inj.mp (by omega), by first | omega | trivial⟩ | exact Or.inr (⟨rfl, by first | omega | trivial⟩) | exact Or.inr (⟨Int32.toInt_inj.mp (by omega), by first | omega | trivial⟩)), by rw [ht]; exact hP9, hD9⟩, hS.F ht⟩) hS.2.2 dX10_isWithin_15
