theorem dX8_things_0 : decode cX8_things 0 = .ok (.aload_n 0, 1) := by decide +kernel
theorem dX8_things_1 : decode cX8_things 1 = .ok (.getfield 55, 3) := by decide +kernel
theorem dX8_things_4 : decode cX8_things 4 = .ok (.aload_n 0, 1) := by decide +kernel
theorem dX8_things_5 : decode cX8_things 5 = .ok (.getfield 59, 3) := by decide +kernel
theorem dX8_things_8 : decode cX8_things 8 = .ok (.iadd, 1) := by decide +kernel
theorem dX8_things_9 : decode cX8_things 9 = .ok (.ireturn, 1) := by decide +kernel
theorem dX8_hasClock_0 : decode cX8_hasClock 0 = .ok (.iload_n 1, 1) := by decide +kernel
theorem dX8_hasClock_1 : decode cX8_hasClock 1 = .ok (.ifCond .lt 15, 3) := by decide +kernel
theorem dX8_hasClock_16 : decode cX8_hasClock 16 = .ok (.iconst 0, 1) := by decide +kernel
theorem dX8_hasClock_17 : decode cX8_hasClock 17 = .ok (.ireturn, 1) := by decide +kernel
theorem dX8_hasClock_4 : decode cX8_hasClock 4 = .ok (.iload_n 1, 1) := by decide +kernel
theorem dX8_hasClock_5 : decode cX8_hasClock 5 = .ok (.aload_n 0, 1) := by decide +kernel
theorem dX8_hasClock_6 : decode cX8_hasClock 6 = .ok (.getfield 55, 3) := by decide +kernel
theorem dX8_hasClock_9 : decode cX8_hasClock 9 = .ok (.if_icmp .ge 7, 3) := by decide +kernel
theorem dX8_hasPerson_0 : decode cX8_hasPerson 0 = .ok (.iload_n 1, 1) := by decide +kernel
theorem dX8_hasPerson_1 : decode cX8_hasPerson 1 = .ok (.ifCond .lt 15, 3) := by decide +kernel
theorem dX8_hasPerson_16 : decode cX8_hasPerson 16 = .ok (.iconst 0, 1) := by decide +kernel
theorem dX8_hasPerson_17 : decode cX8_hasPerson 17 = .ok (.ireturn, 1) := by decide +kernel
theorem dX8_hasPerson_4 : decode cX8_hasPerson 4 = .ok (.iload_n 1, 1) := by decide +kernel
theorem dX8_hasPerson_5 : decode cX8_hasPerson 5 = .ok (.aload_n 0, 1) := by decide +kernel
theorem dX8_hasPerson_6 : decode cX8_hasPerson 6 = .ok (.getfield 59, 3) := by decide +kernel
theorem dX8_hasPerson_9 : decode cX8_hasPerson 9 = .ok (.if_icmp .ge 7, 3) := by decide +kernel
theorem dX8_slotOf_0 : decode cX8_slotOf 0 = .ok (.iload_n 1, 1) := by decide +kernel
theorem dX8_slotOf_1 : decode cX8_slotOf 1 = .ok (.ifCond .lt 11, 3) := by decide +kernel
theorem dX8_slotOf_12 : decode cX8_slotOf 12 = .ok (.iconst (-1), 1) := by decide +kernel
theorem dX8_slotOf_13 : decode cX8_slotOf 13 = .ok (.ireturn, 1) := by decide +kernel
theorem dX8_slotOf_4 : decode cX8_slotOf 4 = .ok (.iload_n 1, 1) := by decide +kernel
theorem dX8_slotOf_5 : decode cX8_slotOf 5 = .ok (.aload_n 0, 1) := by decide +kernel
theorem dX8_slotOf_6 : decode cX8_slotOf 6 = .ok (.invokevirtual 80, 3) := by decide +kernel
theorem dX8_slotOf_9 : decode cX8_slotOf 9 = .ok (.if_icmp .lt 5, 3) := by decide +kernel
theorem dX8_find_0 : decode cX8_find 0 = .ok (.iconst 0, 1) := by decide +kernel
theorem dX8_find_1 : decode cX8_find 1 = .ok (.istore 4, 2) := by decide +kernel
theorem dX8_find_3 : decode cX8_find 3 = .ok (.iload 4, 2) := by decide +kernel
theorem dX8_find_5 : decode cX8_find 5 = .ok (.iload_n 2, 1) := by decide +kernel
theorem dX8_find_6 : decode cX8_find 6 = .ok (.if_icmp .ge 25, 3) := by decide +kernel
theorem dX8_find_31 : decode cX8_find 31 = .ok (.iconst (-1), 1) := by decide +kernel
theorem dX8_find_32 : decode cX8_find 32 = .ok (.ireturn, 1) := by decide +kernel
theorem dX10_isWithin_0 : decode cX10_isWithin 0 = .ok (.iload_n 0, 1) := by decide +kernel
theorem dX10_isWithin_1 : decode cX10_isWithin 1 = .ok (.iload_n 1, 1) := by decide +kernel
theorem dX10_isWithin_2 : decode cX10_isWithin 2 = .ok (.if_icmp .lt 12, 3) := by decide +kernel
theorem dX10_isWithin_14 : decode cX10_isWithin 14 = .ok (.iconst 0, 1) := by decide +kernel
theorem dX10_isWithin_15 : decode cX10_isWithin 15 = .ok (.ireturn, 1) := by decide +kernel
theorem dX10_isWithin_5 : decode cX10_isWithin 5 = .ok (.iload_n 0, 1) := by decide +kernel
theorem dX10_isWithin_6 : decode cX10_isWithin 6 = .ok (.iload_n 2, 1) := by decide +kernel
theorem dX10_isWithin_7 : decode cX10_isWithin 7 = .ok (.if_icmp .gt 7, 3) := by decide +kernel
theorem dX10_isWithin_10 : decode cX10_isWithin 10 = .ok (.iconst 1, 1) := by decide +kernel
theorem dX10_isWithin_11 : decode cX10_isWithin 11 = .ok (.goto 4, 3) := by decide +kernel
abbrev q_X8_things (dC : Nat → ClassId) (dI : Nat → Nat → Nat) (A : Nat → Prop) (td : Nat) (td_rounds : Int32) (td_guns : Int32) (td_lines : Int32) (td_name : Nat) (td_first : Nat) (td_gain : Nat) (td_rough : Nat) (td_custom : Nat) (td_part : Nat) (td_whole : Nat) (td_roundPerson : Nat) (td_roundClock : Nat) (td_roundHour : Nat) (td_gunClock : Nat) (td_gunHour : Nat) (td_rules : Nat) : Array Value → State → Outcome → State → Prop := va_Qi (fun (r : Int32) (_ : Unit) => r = 0) (fun (_ : Unit) (t : State) => va_P (dC, dI) vwCl [(td, .inr (8, [.int 0, .int 0, .int td_rounds, .int td_guns, .int td_lines, .ref td_name, .ref td_first, .ref td_gain, .ref td_rough, .ref td_custom, .ref td_part, .ref td_whole, .ref td_roundPerson, .ref td_roundClock, .ref td_roundHour, .ref td_gunClock, .ref td_gunHour, .ref td_rules]))] t.heap ∧ va_D A [(td, .inr (8, [.int 0, .int 0, .int td_rounds, .int td_guns, .int td_lines, .ref td_name, .ref td_first, .ref td_gain, .ref td_rough, .ref td_custom, .ref td_part, .ref td_whole, .ref td_roundPerson, .ref td_roundClock, .ref td_roundHour, .ref td_gunClock, .ref td_gunHour, .ref td_rules]))]) A
set_option maxHeartbeats 4000000 in
set_option maxRecDepth 100000 in
theorem c_X8_things (l : Launch) (dC : Nat → ClassId) (dI : Nat → Nat → Nat) (sz : Nat) (td : Nat) (td_rounds : Int32) (td_guns : Int32) (td_lines : Int32) (td_name : Nat) (td_first : Nat) (td_gain : Nat) (td_rough : Nat) (td_custom : Nat) (td_part : Nat) (td_whole : Nat) (td_roundPerson : Nat) (td_roundClock : Nat) (td_roundHour : Nat) (td_gunClock : Nat) (td_gunHour : Nat) (td_rules : Nat)  : Met l yX8_things (pw_w yX8_things cX8_things 1 (some .int)) ({ frames := 0, cells := 0, slots := 0, locals := 0 }) (va_Pc [.ref td] (fun U => U.heap.size = sz ∧ va_P (dC, dI) vwCl [(td, .inr (8, [.int 0, .int 0, .int td_rounds, .int td_guns, .int td_lines, .ref td_name, .ref td_first, .ref td_gain, .ref td_rough, .ref td_custom, .ref td_part, .ref td_whole, .ref td_roundPerson, .ref td_roundClock, .ref td_roundHour, .ref td_gunClock, .ref td_gunHour, .ref td_rules]))] U.heap ∧ va_K (dC, dI) vwCl [] U ∧ va_D (fun _ => True) [(td, .inr (8, [.int 0, .int 0, .int td_rounds, .int td_guns, .int td_lines, .ref td_name, .ref td_first, .ref td_gain, .ref td_rough, .ref td_custom, .ref td_part, .ref td_whole, .ref td_roundPerson, .ref td_roundClock, .ref td_roundHour, .ref td_gunClock, .ref td_gunHour, .ref td_rules]))])) (q_X8_things dC dI (va_A [(td, .inr (8, [.int 0, .int 0, .int td_rounds, .int td_guns, .int td_lines, .ref td_name, .ref td_first, .ref td_gain, .ref td_rough, .ref td_custom, .ref td_part, .ref td_whole, .ref td_roundPerson, .ref td_roundClock, .ref td_roundHour, .ref td_gunClock, .ref td_gunHour, .ref td_rules]))] sz) td td_rounds td_guns td_lines td_name td_first td_gain td_rough td_custom td_part td_whole td_roundPerson td_roundClock td_roundHour td_gunClock td_gunHour td_rules) 0 0 (va_A [(td, .inr (8, [.int 0, .int 0, .int td_rounds, .int td_guns, .int td_lines, .ref td_name, .ref td_first, .ref td_gain, .ref td_rough, .ref td_custom, .ref td_part, .ref td_whole, .ref td_roundPerson, .ref td_roundClock, .ref td_roundHour, .ref td_gunClock, .ref td_gunHour, .ref td_rules]))] sz) := by
  refine Met.ofW (cc := cX8_things) (maxL := 1) (ret := (some .int)) (by decide) rfl ?_
  intro p e s m args below meth c s₁ B hml hv
  obtain ⟨rfl, hsz, hP, hK, hD0⟩ := hv
  have hx := B.exec
  have hb := B.bytes
  have hr := B.returns
  have hts := atoms_spec (ws := (pw_w yX8_things cX8_things 1 (some .int))) B.pre
  have hT : ∀ w ∈ pw_T, w.before _ s = true := fun w h => hts w (List.mem_cons_of_mem _ h)
  have hown : s.vm.findClass RX8 = some m.cls := findClass_of_methodNamed B.named
  have hlocks := B.notSynchronized
  subst hsz
  have hD := hD0.self (sz := s.heap.size)
  generalize hAe : va_A [(td, .inr (8, [.int 0, .int 0, .int td_rounds, .int td_guns, .int td_lines, .ref td_name, .ref td_first, .ref td_gain, .ref td_rough, .ref td_custom, .ref td_part, .ref td_whole, .ref td_roundPerson, .ref td_roundClock, .ref td_roundHour, .ref td_gunClock, .ref td_gunHour, .ref td_rules]))] s.heap.size = A at hD ⊢
  have hA : ∀ q : Nat, s.heap.size ≤ q → A q := fun q h => by rw [← hAe]; exact Or.inr h
  have hS : va_S A s.heap s.heap [] := va_S.rf
  have hP : va_P (dC, dI) vwCl [(td, .inr (8, [.int 0, .int 0, .int td_rounds, .int td_guns, .int td_lines, .ref td_name, .ref td_first, .ref td_gain, .ref td_rough, .ref td_custom, .ref td_part, .ref td_whole, .ref td_roundPerson, .ref td_roundClock, .ref td_roundHour, .ref td_gunClock, .ref td_gunHour, .ref td_rules]))] s.heap := hP
  have hl := lv_entry ([.ref td]) (n := 1) (Nat.le_of_ble_eq_true rfl)
  rw [lg_entry_eq]
  generalize (lg_sl ([.ref td]) ++ List.replicate (1 - (lg_sl ([.ref td])).length) Slot.unset).toArray = ls at hl ⊢
  have hl : lv_has ls 1 [(0, .ref td)] := hl
  refine lv_aload_n hx hb dX8_things_0 rfl (lv_at hl 0 rfl) ?_
  refine va_get (D := (dC, dI)) (ci := 8) (v := .int 0) (C := RX8) (T := TX8) (N := 18) hx hb hT inX8 hown hK hP 0 rfl rfl 0 (by decide) (hT _ mw_1_190) (fun _ h9 => h9) rfl dX8_things_1 ?_
  refine lv_aload_n hx hb dX8_things_4 rfl (lv_at hl 0 rfl) ?_
  refine va_get (D := (dC, dI)) (ci := 8) (v := .int 0) (C := RX8) (T := TX8) (N := 18) hx hb hT inX8 hown hK hP 0 rfl rfl 1 (by decide) (hT _ mw_1_193) (fun _ h9 => h9) rfl dX8_things_5 ?_
  refine lv_iadd hx hb dX8_things_8 ?_
  refine lv_topi (fun z_1 ez_1 => ?_)
  obtain rfl : z_1 = 0 := ez_1.trans (by decide)
  have hP9 := hP.sub (ws' := [(td, .inr (8, [.int 0, .int 0, .int td_rounds, .int td_guns, .int td_lines, .ref td_name, .ref td_first, .ref td_gain, .ref td_rough, .ref td_custom, .ref td_part, .ref td_whole, .ref td_roundPerson, .ref td_roundClock, .ref td_roundHour, .ref td_gunClock, .ref td_gunHour, .ref td_rules]))]) [0] rfl
  have hD9 := hD.sub (ws' := [(td, .inr (8, [.int 0, .int 0, .int td_rounds, .int td_guns, .int td_lines, .ref td_name, .ref td_first, .ref td_gain, .ref td_rough, .ref td_custom, .ref td_part, .ref td_whole, .ref td_roundPerson, .ref td_roundClock, .ref td_roundHour, .ref td_gunClock, .ref td_gunHour, .ref td_rules]))]) [0] (by decide) rfl
  refine W.widen (k := 0) (n := 0) (Nat.le_of_ble_eq_true rfl) (Nat.le_of_ble_eq_true rfl) ?_
  exact W.iret (v := 0) hx hb hr (fun t ht hW => ⟨⟨0, (), rfl, (by first | rfl | omega | (simp_all; done) | decide), by rw [ht]; exact hP9, hD9⟩, hS.F ht⟩) hS.2.2 dX8_things_9
abbrev q_X8_hasClock (dC : Nat → ClassId) (dI : Nat → Nat → Nat) (A : Nat → Prop) (td : Nat) (vk : Int32) (td_rounds : Int32) (td_guns : Int32) (td_lines : Int32) (td_name : Nat) (td_first : Nat) (td_gain : Nat) (td_rough : Nat) (td_custom : Nat) (td_part : Nat) (td_whole : Nat) (td_roundPerson : Nat) (td_roundClock : Nat) (td_roundHour : Nat) (td_gunClock : Nat) (td_gunHour : Nat) (td_rules : Nat) : Array Value → State → Outcome → State → Prop := va_Qi (fun (r : Int32) (_ : Unit) => r = 0) (fun (_ : Unit) (t : State) => va_P (dC, dI) vwCl [(td, .inr (8, [.int 0, .int 0, .int td_rounds, .int td_guns, .int td_lines, .ref td_name, .ref td_first, .ref td_gain, .ref td_rough, .ref td_custom, .ref td_part, .ref td_whole, .ref td_roundPerson, .ref td_roundClock, .ref td_roundHour, .ref td_gunClock, .ref td_gunHour, .ref td_rules]))] t.heap ∧ va_D A [(td, .inr (8, [.int 0, .int 0, .int td_rounds, .int td_guns, .int td_lines, .ref td_name, .ref td_first, .ref td_gain, .ref td_rough, .ref td_custom, .ref td_part, .ref td_whole, .ref td_roundPerson, .ref td_roundClock, .ref td_roundHour, .ref td_gunClock, .ref td_gunHour, .ref td_rules]))]) A
set_option maxHeartbeats 4000000 in
set_option maxRecDepth 100000 in
theorem c_X8_hasClock (l : Launch) (dC : Nat → ClassId) (dI : Nat → Nat → Nat) (sz : Nat) (td : Nat) (vk : Int32) (td_rounds : Int32) (td_guns : Int32) (td_lines : Int32) (td_name : Nat) (td_first : Nat) (td_gain : Nat) (td_rough : Nat) (td_custom : Nat) (td_part : Nat) (td_whole : Nat) (td_roundPerson : Nat) (td_roundClock : Nat) (td_roundHour : Nat) (td_gunClock : Nat) (td_gunHour : Nat) (td_rules : Nat)  : Met l yX8_hasClock (pw_w yX8_hasClock cX8_hasClock 2 (some .boolean)) ({ frames := 0, cells := 0, slots := 0, locals := 0 }) (va_Pc [.ref td, .int vk] (fun U => U.heap.size = sz ∧ va_P (dC, dI) vwCl [(td, .inr (8, [.int 0, .int 0, .int td_rounds, .int td_guns, .int td_lines, .ref td_name, .ref td_first, .ref td_gain, .ref td_rough, .ref td_custom, .ref td_part, .ref td_whole, .ref td_roundPerson, .ref td_roundClock, .ref td_roundHour, .ref td_gunClock, .ref td_gunHour, .ref td_rules]))] U.heap ∧ va_K (dC, dI) vwCl [] U ∧ va_D (fun _ => True) [(td, .inr (8, [.int 0, .int 0, .int td_rounds, .int td_guns, .int td_lines, .ref td_name, .ref td_first, .ref td_gain, .ref td_rough, .ref td_custom, .ref td_part, .ref td_whole, .ref td_roundPerson, .ref td_roundClock, .ref td_roundHour, .ref td_gunClock, .ref td_gunHour, .ref td_rules]))])) (q_X8_hasClock dC dI (va_A [(td, .inr (8, [.int 0, .int 0, .int td_rounds, .int td_guns, .int td_lines, .ref td_name, .ref td_first, .ref td_gain, .ref td_rough, .ref td_custom, .ref td_part, .ref td_whole, .ref td_roundPerson, .ref td_roundClock, .ref td_roundHour, .ref td_gunClock, .ref td_gunHour, .ref td_rules]))] sz) td vk td_rounds td_guns td_lines td_name td_first td_gain td_rough td_custom td_part td_whole td_roundPerson td_roundClock td_roundHour td_gunClock td_gunHour td_rules) 0 0 (va_A [(td, .inr (8, [.int 0, .int 0, .int td_rounds, .int td_guns, .int td_lines, .ref td_name, .ref td_first, .ref td_gain, .ref td_rough, .ref td_custom, .ref td_part, .ref td_whole, .ref td_roundPerson, .ref td_roundClock, .ref td_roundHour, .ref td_gunClock, .ref td_gunHour, .ref td_rules]))] sz) := by
  refine Met.ofW (cc := cX8_hasClock) (maxL := 2) (ret := (some .boolean)) (by decide) rfl ?_
  intro p e s m args below meth c s₁ B hml hv
  obtain ⟨rfl, hsz, hP, hK, hD0⟩ := hv
  have hx := B.exec
  have hb := B.bytes
  have hr := B.returns
  have hts := atoms_spec (ws := (pw_w yX8_hasClock cX8_hasClock 2 (some .boolean))) B.pre
  have hT : ∀ w ∈ pw_T, w.before _ s = true := fun w h => hts w (List.mem_cons_of_mem _ h)
  have hown : s.vm.findClass RX8 = some m.cls := findClass_of_methodNamed B.named
  have hlocks := B.notSynchronized
  subst hsz
  have hD := hD0.self (sz := s.heap.size)
  generalize hAe : va_A [(td, .inr (8, [.int 0, .int 0, .int td_rounds, .int td_guns, .int td_lines, .ref td_name, .ref td_first, .ref td_gain, .ref td_rough, .ref td_custom, .ref td_part, .ref td_whole, .ref td_roundPerson, .ref td_roundClock, .ref td_roundHour, .ref td_gunClock, .ref td_gunHour, .ref td_rules]))] s.heap.size = A at hD ⊢
  have hA : ∀ q : Nat, s.heap.size ≤ q → A q := fun q h => by rw [← hAe]; exact Or.inr h
  have hS : va_S A s.heap s.heap [] := va_S.rf
  have hP : va_P (dC, dI) vwCl [(td, .inr (8, [.int 0, .int 0, .int td_rounds, .int td_guns, .int td_lines, .ref td_name, .ref td_first, .ref td_gain, .ref td_rough, .ref td_custom, .ref td_part, .ref td_whole, .ref td_roundPerson, .ref td_roundClock, .ref td_roundHour, .ref td_gunClock, .ref td_gunHour, .ref td_rules]))] s.heap := hP
  have hl := lv_entry ([.ref td, .int vk]) (n := 2) (Nat.le_of_ble_eq_true rfl)
  rw [lg_entry_eq]
  generalize (lg_sl ([.ref td, .int vk]) ++ List.replicate (2 - (lg_sl ([.ref td, .int vk])).length) Slot.unset).toArray = ls at hl ⊢
  have hl : lv_has ls 2 [(0, .ref td), (1, .int vk)] := hl
  refine lv_iload_n hx hb dX8_hasClock_0 rfl (lv_at hl 1 rfl) ?_
  refine lv_if_lt (tgt := 16) hx hb dX8_hasClock_1 (by decide) (fun c_1 => ?_) (fun c_1 => ?_)
  · have kc_1 := il_lt c_1
    have := (by decide : (0 : Int32).toInt = 0)
    refine lv_iconst (v := 0) hx hb dX8_hasClock_16 (by decide) ?_
    have hP9 := hP.sub (ws' := [(td, .inr (8, [.int 0, .int 0, .int td_rounds, .int td_guns, .int td_lines, .ref td_name, .ref td_first, .ref td_gain, .ref td_rough, .ref td_custom, .ref td_part, .ref td_whole, .ref td_roundPerson, .ref td_roundClock, .ref td_roundHour, .ref td_gunClock, .ref td_gunHour, .ref td_rules]))]) [0] rfl
    have hD9 := hD.sub (ws' := [(td, .inr (8, [.int 0, .int 0, .int td_rounds, .int td_guns, .int td_lines, .ref td_name, .ref td_first, .ref td_gain, .ref td_rough, .ref td_custom, .ref td_part, .ref td_whole, .ref td_roundPerson, .ref td_roundClock, .ref td_roundHour, .ref td_gunClock, .ref td_gunHour, .ref td_rules]))]) [0] (by decide) rfl
    refine W.widen (k := 0) (n := 0) (Nat.le_of_ble_eq_true rfl) (Nat.le_of_ble_eq_true rfl) ?_
    exact W.zret (v := 0) hx hb hr (by decide) (fun t ht hW => ⟨⟨0, (), rfl, (by first | rfl | omega | (simp_all; done) | decide), by rw [ht]; exact hP9, hD9⟩, hS.F ht⟩) hS.2.2 dX8_hasClock_17
  · have kc_1 := il_nlt c_1
    have := (by decide : (0 : Int32).toInt = 0)
    refine lv_iload_n hx hb dX8_hasClock_4 rfl (lv_at hl 1 rfl) ?_
    refine lv_aload_n hx hb dX8_hasClock_5 rfl (lv_at hl 0 rfl) ?_
    refine va_get (D := (dC, dI)) (ci := 8) (v := .int 0) (C := RX8) (T := TX8) (N := 18) hx hb hT inX8 hown hK hP 0 rfl rfl 0 (by decide) (hT _ mw_1_190) (fun _ h9 => h9) rfl dX8_hasClock_6 ?_
    refine lv_icmp_ge (tgt := 16) hx hb dX8_hasClock_9 (by decide) (fun c_2 => ?_) (fun c_2 => False.elim (by have := il_nle c_2; have := (by decide : (0 : Int32).toInt = 0); omega))
    have kc_2 := il_le c_2
    have := (by decide : (0 : Int32).toInt = 0)
    refine lv_iconst (v := 0) hx hb dX8_hasClock_16 (by decide) ?_
    have hP9 := hP.sub (ws' := [(td, .inr (8, [.int 0, .int 0, .int td_rounds, .int td_guns, .int td_lines, .ref td_name, .ref td_first, .ref td_gain, .ref td_rough, .ref td_custom, .ref td_part, .ref td_whole, .ref td_roundPerson, .ref td_roundClock, .ref td_roundHour, .ref td_gunClock, .ref td_gunHour, .ref td_rules]))]) [0] rfl
    have hD9 := hD.sub (ws' := [(td, .inr (8, [.int 0, .int 0, .int td_rounds, .int td_guns, .int td_lines, .ref td_name, .ref td_first, .ref td_gain, .ref td_rough, .ref td_custom, .ref td_part, .ref td_whole, .ref td_roundPerson, .ref td_roundClock, .ref td_roundHour, .ref td_gunClock, .ref td_gunHour, .ref td_rules]))]) [0] (by decide) rfl
    refine W.widen (k := 0) (n := 0) (Nat.le_of_ble_eq_true rfl) (Nat.le_of_ble_eq_true rfl) ?_
    exact W.zret (v := 0) hx hb hr (by decide) (fun t ht hW => ⟨⟨0, (), rfl, (by first | rfl | omega | (simp_all; done) | decide), by rw [ht]; exact hP9, hD9⟩, hS.F ht⟩) hS.2.2 dX8_hasClock_17
abbrev q_X8_hasPerson (dC : Nat → ClassId) (dI : Nat → Nat → Nat) (A : Nat → Prop) (td : Nat) (vk : Int32) (td_rounds : Int32) (td_guns : Int32) (td_lines : Int32) (td_name : Nat) (td_first : Nat) (td_gain : Nat) (td_rough : Nat) (td_custom : Nat) (td_part : Nat) (td_whole : Nat) (td_roundPerson : Nat) (td_roundClock : Nat) (td_roundHour : Nat) (td_gunClock : Nat) (td_gunHour : Nat) (td_rules : Nat) : Array Value → State → Outcome → State → Prop := va_Qi (fun (r : Int32) (_ : Unit) => r = 0) (fun (_ : Unit) (t : State) => va_P (dC, dI) vwCl [(td, .inr (8, [.int 0, .int 0, .int td_rounds, .int td_guns, .int td_lines, .ref td_name, .ref td_first, .ref td_gain, .ref td_rough, .ref td_custom, .ref td_part, .ref td_whole, .ref td_roundPerson, .ref td_roundClock, .ref td_roundHour, .ref td_gunClock, .ref td_gunHour, .ref td_rules]))] t.heap ∧ va_D A [(td, .inr (8, [.int 0, .int 0, .int td_rounds, .int td_guns, .int td_lines, .ref td_name, .ref td_first, .ref td_gain, .ref td_rough, .ref td_custom, .ref td_part, .ref td_whole, .ref td_roundPerson, .ref td_roundClock, .ref td_roundHour, .ref td_gunClock, .ref td_gunHour, .ref td_rules]))]) A
set_option maxHeartbeats 4000000 in
set_option maxRecDepth 100000 in
theorem c_X8_hasPerson (l : Launch) (dC : Nat → ClassId) (dI : Nat → Nat → Nat) (sz : Nat) (td : Nat) (vk : Int32) (td_rounds : Int32) (td_guns : Int32) (td_lines : Int32) (td_name : Nat) (td_first : Nat) (td_gain : Nat) (td_rough : Nat) (td_custom : Nat) (td_part : Nat) (td_whole : Nat) (td_roundPerson : Nat) (td_roundClock : Nat) (td_roundHour : Nat) (td_gunClock : Nat) (td_gunHour : Nat) (td_rules : Nat)  : Met l yX8_hasPerson (pw_w yX8_hasPerson cX8_hasPerson 2 (some .boolean)) ({ frames := 0, cells := 0, slots := 0, locals := 0 }) (va_Pc [.ref td, .int vk] (fun U => U.heap.size = sz ∧ va_P (dC, dI) vwCl [(td, .inr (8, [.int 0, .int 0, .int td_rounds, .int td_guns, .int td_lines, .ref td_name, .ref td_first, .ref td_gain, .ref td_rough, .ref td_custom, .ref td_part, .ref td_whole, .ref td_roundPerson, .ref td_roundClock, .ref td_roundHour, .ref td_gunClock, .ref td_gunHour, .ref td_rules]))] U.heap ∧ va_K (dC, dI) vwCl [] U ∧ va_D (fun _ => True) [(td, .inr (8, [.int 0, .int 0, .int td_rounds, .int td_guns, .int td_lines, .ref td_name, .ref td_first, .ref td_gain, .ref td_rough, .ref td_custom, .ref td_part, .ref td_whole, .ref td_roundPerson, .ref td_roundClock, .ref td_roundHour, .ref td_gunClock, .ref td_gunHour, .ref td_rules]))])) (q_X8_hasPerson dC dI (va_A [(td, .inr (8, [.int 0, .int 0, .int td_rounds, .int td_guns, .int td_lines, .ref td_name, .ref td_first, .ref td_gain, .ref td_rough, .ref td_custom, .ref td_part, .ref td_whole, .ref td_roundPerson, .ref td_roundClock, .ref td_roundHour, .ref td_gunClock, .ref td_gunHour, .ref td_rules]))] sz) td vk td_rounds td_guns td_lines td_name td_first td_gain td_rough td_custom td_part td_whole td_roundPerson td_roundClock td_roundHour td_gunClock td_gunHour td_rules) 0 0 (va_A [(td, .inr (8, [.int 0, .int 0, .int td_rounds, .int td_guns, .int td_lines, .ref td_name, .ref td_first, .ref td_gain, .ref td_rough, .ref td_custom, .ref td_part, .ref td_whole, .ref td_roundPerson, .ref td_roundClock, .ref td_roundHour, .ref td_gunClock, .ref td_gunHour, .ref td_rules]))] sz) := by
  refine Met.ofW (cc := cX8_hasPerson) (maxL := 2) (ret := (some .boolean)) (by decide) rfl ?_
  intro p e s m args below meth c s₁ B hml hv
  obtain ⟨rfl, hsz, hP, hK, hD0⟩ := hv
  have hx := B.exec
  have hb := B.bytes
  have hr := B.returns
  have hts := atoms_spec (ws := (pw_w yX8_hasPerson cX8_hasPerson 2 (some .boolean))) B.pre
  have hT : ∀ w ∈ pw_T, w.before _ s = true := fun w h => hts w (List.mem_cons_of_mem _ h)
  have hown : s.vm.findClass RX8 = some m.cls := findClass_of_methodNamed B.named
  have hlocks := B.notSynchronized
  subst hsz
  have hD := hD0.self (sz := s.heap.size)
  generalize hAe : va_A [(td, .inr (8, [.int 0, .int 0, .int td_rounds, .int td_guns, .int td_lines, .ref td_name, .ref td_first, .ref td_gain, .ref td_rough, .ref td_custom, .ref td_part, .ref td_whole, .ref td_roundPerson, .ref td_roundClock, .ref td_roundHour, .ref td_gunClock, .ref td_gunHour, .ref td_rules]))] s.heap.size = A at hD ⊢
  have hA : ∀ q : Nat, s.heap.size ≤ q → A q := fun q h => by rw [← hAe]; exact Or.inr h
  have hS : va_S A s.heap s.heap [] := va_S.rf
  have hP : va_P (dC, dI) vwCl [(td, .inr (8, [.int 0, .int 0, .int td_rounds, .int td_guns, .int td_lines, .ref td_name, .ref td_first, .ref td_gain, .ref td_rough, .ref td_custom, .ref td_part, .ref td_whole, .ref td_roundPerson, .ref td_roundClock, .ref td_roundHour, .ref td_gunClock, .ref td_gunHour, .ref td_rules]))] s.heap := hP
  have hl := lv_entry ([.ref td, .int vk]) (n := 2) (Nat.le_of_ble_eq_true rfl)
  rw [lg_entry_eq]
  generalize (lg_sl ([.ref td, .int vk]) ++ List.replicate (2 - (lg_sl ([.ref td, .int vk])).length) Slot.unset).toArray = ls at hl ⊢
  have hl : lv_has ls 2 [(0, .ref td), (1, .int vk)] := hl
  refine lv_iload_n hx hb dX8_hasPerson_0 rfl (lv_at hl 1 rfl) ?_
  refine lv_if_lt (tgt := 16) hx hb dX8_hasPerson_1 (by decide) (fun c_1 => ?_) (fun c_1 => ?_)
  · have kc_1 := il_lt c_1
    have := (by decide : (0 : Int32).toInt = 0)
    refine lv_iconst (v := 0) hx hb dX8_hasPerson_16 (by decide) ?_
    have hP9 := hP.sub (ws' := [(td, .inr (8, [.int 0, .int 0, .int td_rounds, .int td_guns, .int td_lines, .ref td_name, .ref td_first, .ref td_gain, .ref td_rough, .ref td_custom, .ref td_part, .ref td_whole, .ref td_roundPerson, .ref td_roundClock, .ref td_roundHour, .ref td_gunClock, .ref td_gunHour, .ref td_rules]))]) [0] rfl
    have hD9 := hD.sub (ws' := [(td, .inr (8, [.int 0, .int 0, .int td_rounds, .int td_guns, .int td_lines, .ref td_name, .ref td_first, .ref td_gain, .ref td_rough, .ref td_custom, .ref td_part, .ref td_whole, .ref td_roundPerson, .ref td_roundClock, .ref td_roundHour, .ref td_gunClock, .ref td_gunHour, .ref td_rules]))]) [0] (by decide) rfl
    refine W.widen (k := 0) (n := 0) (Nat.le_of_ble_eq_true rfl) (Nat.le_of_ble_eq_true rfl) ?_
    exact W.zret (v := 0) hx hb hr (by decide) (fun t ht hW => ⟨⟨0, (), rfl, (by first | rfl | omega | (simp_all; done) | decide), by rw [ht]; exact hP9, hD9⟩, hS.F ht⟩) hS.2.2 dX8_hasPerson_17
  · have kc_1 := il_nlt c_1
    have := (by decide : (0 : Int32).toInt = 0)
    refine lv_iload_n hx hb dX8_hasPerson_4 rfl (lv_at hl 1 rfl) ?_
    refine lv_aload_n hx hb dX8_hasPerson_5 rfl (lv_at hl 0 rfl) ?_
    refine va_get (D := (dC, dI)) (ci := 8) (v := .int 0) (C := RX8) (T := TX8) (N := 18) hx hb hT inX8 hown hK hP 0 rfl rfl 1 (by decide) (hT _ mw_1_193) (fun _ h9 => h9) rfl dX8_hasPerson_6 ?_
    refine lv_icmp_ge (tgt := 16) hx hb dX8_hasPerson_9 (by decide) (fun c_2 => ?_) (fun c_2 => False.elim (by have := il_nle c_2; have := (by decide : (0 : Int32).toInt = 0); omega))
    have kc_2 := il_le c_2
    have := (by decide : (0 : Int32).toInt = 0)
    refine lv_iconst (v := 0) hx hb dX8_hasPerson_16 (by decide) ?_
    have hP9 := hP.sub (ws' := [(td, .inr (8, [.int 0, .int 0, .int td_rounds, .int td_guns, .int td_lines, .ref td_name, .ref td_first, .ref td_gain, .ref td_rough, .ref td_custom, .ref td_part, .ref td_whole, .ref td_roundPerson, .ref td_roundClock, .ref td_roundHour, .ref td_gunClock, .ref td_gunHour, .ref td_rules]))]) [0] rfl
    have hD9 := hD.sub (ws' := [(td, .inr (8, [.int 0, .int 0, .int td_rounds, .int td_guns, .int td_lines, .ref td_name, .ref td_first, .ref td_gain, .ref td_rough, .ref td_custom, .ref td_part, .ref td_whole, .ref td_roundPerson, .ref td_roundClock, .ref td_roundHour, .ref td_gunClock, .ref td_gunHour, .ref td_rules]))]) [0] (by decide) rfl
    refine W.widen (k := 0) (n := 0) (Nat.le_of_ble_eq_true rfl) (Nat.le_of_ble_eq_true rfl) ?_
    exact W.zret (v := 0) hx hb hr (by decide) (fun t ht hW => ⟨⟨0, (), rfl, (by first | rfl | omega | (simp_all; done) | decide), by rw [ht]; exact hP9, hD9⟩, hS.F ht⟩) hS.2.2 dX8_hasPerson_17
abbrev q_X8_slotOf (dC : Nat → ClassId) (dI : Nat → Nat → Nat) (A : Nat → Prop) (td : Nat) (vk : Int32) (td_rounds : Int32) (td_guns : Int32) (td_lines : Int32) (td_name : Nat) (td_first : Nat) (td_gain : Nat) (td_rough : Nat) (td_custom : Nat) (td_part : Nat) (td_whole : Nat) (td_roundPerson : Nat) (td_roundClock : Nat) (td_roundHour : Nat) (td_gunClock : Nat) (td_gunHour : Nat) (td_rules : Nat) : Array Value → State → Outcome → State → Prop := va_Qi (fun (r : Int32) (_ : Unit) => r = -1) (fun (_ : Unit) (t : State) => va_P (dC, dI) vwCl [(td, .inr (8, [.int 0, .int 0, .int td_rounds, .int td_guns, .int td_lines, .ref td_name, .ref td_first, .ref td_gain, .ref td_rough, .ref td_custom, .ref td_part, .ref td_whole, .ref td_roundPerson, .ref td_roundClock, .ref td_roundHour, .ref td_gunClock, .ref td_gunHour, .ref td_rules]))] t.heap ∧ va_D A [(td, .inr (8, [.int 0, .int 0, .int td_rounds, .int td_guns, .int td_lines, .ref td_name, .ref td_first, .ref td_gain, .ref td_rough, .ref td_custom, .ref td_part, .ref td_whole, .ref td_roundPerson, .ref td_roundClock, .ref td_roundHour, .ref td_gunClock, .ref td_gunHour, .ref td_rules]))]) A
set_option maxHeartbeats 4000000 in
set_option maxRecDepth 100000 in
theorem c_X8_slotOf (l : Launch) (dC : Nat → ClassId) (dI : Nat → Nat → Nat) (sz : Nat) (td : Nat) (vk : Int32) (td_rounds : Int32) (td_guns : Int32) (td_lines : Int32) (td_name : Nat) (td_first : Nat) (td_gain : Nat) (td_rough : Nat) (td_custom : Nat) (td_part : Nat) (td_whole : Nat) (td_roundPerson : Nat) (td_roundClock : Nat) (td_roundHour : Nat) (td_gunClock : Nat) (td_gunHour : Nat) (td_rules : Nat)  : Met l yX8_slotOf (pw_w yX8_slotOf cX8_slotOf 2 (some .int)) ({ frames := 1, cells := 0, slots := 0, locals := 20 }) (va_Pc [.ref td, .int vk] (fun U => U.heap.size = sz ∧ va_P (dC, dI) vwCl [(td, .inr (8, [.int 0, .int 0, .int td_rounds, .int td_guns, .int td_lines, .ref td_name, .ref td_first, .ref td_gain, .ref td_rough, .ref td_custom, .ref td_part, .ref td_whole, .ref td_roundPerson, .ref td_roundClock, .ref td_roundHour, .ref td_gunClock, .ref td_gunHour, .ref td_rules]))] U.heap ∧ va_K (dC, dI) vwCl [] U ∧ va_D (fun _ => True) [(td, .inr (8, [.int 0, .int 0, .int td_rounds, .int td_guns, .int td_lines, .ref td_name, .ref td_first, .ref td_gain, .ref td_rough, .ref td_custom, .ref td_part, .ref td_whole, .ref td_roundPerson, .ref td_roundClock, .ref td_roundHour, .ref td_gunClock, .ref td_gunHour, .ref td_rules]))])) (q_X8_slotOf dC dI (va_A [(td, .inr (8, [.int 0, .int 0, .int td_rounds, .int td_guns, .int td_lines, .ref td_name, .ref td_first, .ref td_gain, .ref td_rough, .ref td_custom, .ref td_part, .ref td_whole, .ref td_roundPerson, .ref td_roundClock, .ref td_roundHour, .ref td_gunClock, .ref td_gunHour, .ref td_rules]))] sz) td vk td_rounds td_guns td_lines td_name td_first td_gain td_rough td_custom td_part td_whole td_roundPerson td_roundClock td_roundHour td_gunClock td_gunHour td_rules) 0 0 (va_A [(td, .inr (8, [.int 0, .int 0, .int td_rounds, .int td_guns, .int td_lines, .ref td_name, .ref td_first, .ref td_gain, .ref td_rough, .ref td_custom, .ref td_part, .ref td_whole, .ref td_roundPerson, .ref td_roundClock, .ref td_roundHour, .ref td_gunClock, .ref td_gunHour, .ref td_rules]))] sz) := by
  refine Met.ofW (cc := cX8_slotOf) (maxL := 2) (ret := (some .int)) (by decide) rfl ?_
  intro p e s m args below meth c s₁ B hml hv
  obtain ⟨rfl, hsz, hP, hK, hD0⟩ := hv
  have hx := B.exec
  have hb := B.bytes
  have hr := B.returns
  have hts := atoms_spec (ws := (pw_w yX8_slotOf cX8_slotOf 2 (some .int))) B.pre
  have hT : ∀ w ∈ pw_T, w.before _ s = true := fun w h => hts w (List.mem_cons_of_mem _ h)
  have hown : s.vm.findClass RX8 = some m.cls := findClass_of_methodNamed B.named
  have hlocks := B.notSynchronized
  subst hsz
  have hD := hD0.self (sz := s.heap.size)
  generalize hAe : va_A [(td, .inr (8, [.int 0, .int 0, .int td_rounds, .int td_guns, .int td_lines, .ref td_name, .ref td_first, .ref td_gain, .ref td_rough, .ref td_custom, .ref td_part, .ref td_whole, .ref td_roundPerson, .ref td_roundClock, .ref td_roundHour, .ref td_gunClock, .ref td_gunHour, .ref td_rules]))] s.heap.size = A at hD ⊢
  have hA : ∀ q : Nat, s.heap.size ≤ q → A q := fun q h => by rw [← hAe]; exact Or.inr h
  have hS : va_S A s.heap s.heap [] := va_S.rf
  have hP : va_P (dC, dI) vwCl [(td, .inr (8, [.int 0, .int 0, .int td_rounds, .int td_guns, .int td_lines, .ref td_name, .ref td_first, .ref td_gain, .ref td_rough, .ref td_custom, .ref td_part, .ref td_whole, .ref td_roundPerson, .ref td_roundClock, .ref td_roundHour, .ref td_gunClock, .ref td_gunHour, .ref td_rules]))] s.heap := hP
  have hl := lv_entry ([.ref td, .int vk]) (n := 2) (Nat.le_of_ble_eq_true rfl)
  rw [lg_entry_eq]
  generalize (lg_sl ([.ref td, .int vk]) ++ List.replicate (2 - (lg_sl ([.ref td, .int vk])).length) Slot.unset).toArray = ls at hl ⊢
  have hl : lv_has ls 2 [(0, .ref td), (1, .int vk)] := hl
  refine lv_iload_n hx hb dX8_slotOf_0 rfl (lv_at hl 1 rfl) ?_
  refine lv_if_lt (tgt := 12) hx hb dX8_slotOf_1 (by decide) (fun c_1 => ?_) (fun c_1 => ?_)
  · have kc_1 := il_lt c_1
    have := (by decide : (0 : Int32).toInt = 0)
    refine lv_iconst (v := (-1)) hx hb dX8_slotOf_12 (by decide) ?_
    have hP9 := hP.sub (ws' := [(td, .inr (8, [.int 0, .int 0, .int td_rounds, .int td_guns, .int td_lines, .ref td_name, .ref td_first, .ref td_gain, .ref td_rough, .ref td_custom, .ref td_part, .ref td_whole, .ref td_roundPerson, .ref td_roundClock, .ref td_roundHour, .ref td_gunClock, .ref td_gunHour, .ref td_rules]))]) [0] rfl
    have hD9 := hD.sub (ws' := [(td, .inr (8, [.int 0, .int 0, .int td_rounds, .int td_guns, .int td_lines, .ref td_name, .ref td_first, .ref td_gain, .ref td_rough, .ref td_custom, .ref td_part, .ref td_whole, .ref td_roundPerson, .ref td_roundClock, .ref td_roundHour, .ref td_gunClock, .ref td_gunHour, .ref td_rules]))]) [0] (by decide) rfl
    refine W.widen (k := 0) (n := 0) (Nat.le_of_ble_eq_true rfl) (Nat.le_of_ble_eq_true rfl) ?_
    exact W.iret (v := (-1)) hx hb hr (fun t ht hW => ⟨⟨(-1), (), rfl, (by first | rfl | omega | (simp_all; done) | decide), by rw [ht]; exact hP9, hD9⟩, hS.F ht⟩) hS.2.2 dX8_slotOf_13
  · have kc_1 := il_nlt c_1
    have := (by decide : (0 : Int32).toInt = 0)
    refine lv_iload_n hx hb dX8_slotOf_4 rfl (lv_at hl 1 rfl) ?_
    refine lv_aload_n hx hb dX8_slotOf_5 rfl (lv_at hl 0 rfl) ?_
    have hPc := hP.sub (ws' := [(td, .inr (8, [.int 0, .int 0, .int td_rounds, .int td_guns, .int td_lines, .ref td_name, .ref td_first, .ref td_gain, .ref td_rough, .ref td_custom, .ref td_part, .ref td_whole, .ref td_roundPerson, .ref td_roundClock, .ref td_roundHour, .ref td_gunClock, .ref td_gunHour, .ref td_rules]))]) [0] rfl
    have hDc := hD.sub (ws' := [(td, .inr (8, [.int 0, .int 0, .int td_rounds, .int td_guns, .int td_lines, .ref td_name, .ref td_first, .ref td_gain, .ref td_rough, .ref td_custom, .ref td_part, .ref td_whole, .ref td_roundPerson, .ref td_roundClock, .ref td_roundHour, .ref td_gunClock, .ref td_gunHour, .ref td_rules]))]) [0] (by decide) rfl
    have hKc := hK.sub (tys' := []) [] rfl
    have hFc := va_free (wc := [(td, .inr (8, [.int 0, .int 0, .int td_rounds, .int td_guns, .int td_lines, .ref td_name, .ref td_first, .ref td_gain, .ref td_rough, .ref td_custom, .ref td_part, .ref td_whole, .ref td_roundPerson, .ref td_roundClock, .ref td_roundHour, .ref td_gunClock, .ref td_gunHour, .ref td_rules]))]) hD hS hA [0] rfl
    refine va_calli (va_runV (As := []) (rest := [.int vk]) ⟨hx, hb, hml, hown, hT⟩ (c_X8_things l dC dI s.heap.size td td_rounds td_guns td_lines td_name td_first td_gain td_rough td_custom td_part td_whole td_roundPerson td_roundClock td_roundHour td_gunClock td_gunHour td_rules ) (cwV 0 hT (gwV mw_4_135 mw_4_126 mw_4_127 mw_1_8 mw_4_128) rfl rfl rfl (by decide +kernel) ⟨Nat.le_of_ble_eq_true rfl, Nat.le_of_ble_eq_true rfl⟩) ⟨fun a U g mk q => by obtain ⟨q0, q1, qP, qK, qD⟩ := q; exact ⟨q0, q1, qP, va_K.moved (u := U) (U := U.calling g mk a) (Vm.Alike.refl U.vm) qK, qD⟩, va_recv hK hP (ci := 8) (q0 := 0) rfl rfl, fun U hU hW => ⟨rfl, by rw [hU], by rw [hU]; exact hPc, va_K.moved hW.alike hKc, hDc.weaken (fun _ _ _ _ => trivial)⟩⟩ rfl rfl hl.1 rfl (lv_room (Nat.le_of_ble_eq_true rfl)) dX8_slotOf_6 ⟨Nat.le_of_ble_eq_true rfl, Nat.le_of_ble_eq_true rfl⟩) hS (fun q _ h => hFc q h) hFc (fun r_3 u t H1 locs ht hvm hw hB hz1 hk1 hS => ?_)
    obtain ⟨hP1, hD1⟩ := hB
    rw [ht] at hP1
    obtain ⟨hP, hD⟩ := va_join (wr := []) (w1 := [(td, .inr (8, [.int 0, .int 0, .int td_rounds, .int td_guns, .int td_lines, .ref td_name, .ref td_first, .ref td_gain, .ref td_rough, .ref td_custom, .ref td_part, .ref td_whole, .ref td_roundPerson, .ref td_roundClock, .ref td_roundHour, .ref td_gunClock, .ref td_gunHour, .ref td_rules]))]) hP hD [0] [] rfl rfl (by decide) (by decide) hk1 hFc hP1 hD1
    generalize H1 = H at hP hS ⊢
    have hP : va_P (dC, dI) vwCl [(td, .inr (8, [.int 0, .int 0, .int td_rounds, .int td_guns, .int td_lines, .ref td_name, .ref td_first, .ref td_gain, .ref td_rough, .ref td_custom, .ref td_part, .ref td_whole, .ref td_roundPerson, .ref td_roundClock, .ref td_roundHour, .ref td_gunClock, .ref td_gunHour, .ref td_rules]))] H := hP
    have hD : va_D A [(td, .inr (8, [.int 0, .int 0, .int td_rounds, .int td_guns, .int td_lines, .ref td_name, .ref td_first, .ref td_gain, .ref td_rough, .ref td_custom, .ref td_part, .ref td_whole, .ref td_roundPerson, .ref td_roundClock, .ref td_roundHour, .ref td_gunClock, .ref td_gunHour, .ref td_rules]))] := hD
    clear hPc hDc hKc hFc hP1 hD1 hk1 hz1 ht hvm
    have hw : r_3 = 0 := hw
    subst r_3
    refine lv_icmp_lt (tgt := 14) hx hb dX8_slotOf_9 (by decide) (fun c_4 => False.elim (by have := il_lt c_4; have := (by decide : (0 : Int32).toInt = 0); omega)) (fun c_4 => ?_)
    have kc_4 := il_nlt c_4
    have := (by decide : (0 : Int32).toInt = 0)
    refine lv_iconst (v := (-1)) hx hb dX8_slotOf_12 (by decide) ?_
    have hP9 := hP.sub (ws' := [(td, .inr (8, [.int 0, .int 0, .int td_rounds, .int td_guns, .int td_lines, .ref td_name, .ref td_first, .ref td_gain, .ref td_rough, .ref td_custom, .ref td_part, .ref td_whole, .ref td_roundPerson, .ref td_roundClock, .ref td_roundHour, .ref td_gunClock, .ref td_gunHour, .ref td_rules]))]) [0] rfl
    have hD9 := hD.sub (ws' := [(td, .inr (8, [.int 0, .int 0, .int td_rounds, .int td_guns, .int td_lines, .ref td_name, .ref td_first, .ref td_gain, .ref td_rough, .ref td_custom, .ref td_part, .ref td_whole, .ref td_roundPerson, .ref td_roundClock, .ref td_roundHour, .ref td_gunClock, .ref td_gunHour, .ref td_rules]))]) [0] (by decide) rfl
    refine W.widen (k := 0) (n := 0) (Nat.le_of_ble_eq_true rfl) (Nat.le_of_ble_eq_true rfl) ?_
    exact W.iret (v := (-1)) hx hb hr (fun t ht hW => ⟨⟨(-1), (), rfl, (by first | rfl | omega | (simp_all; done) | decide), by rw [ht]; exact hP9, hD9⟩, hS.F ht⟩) hS.2.2 dX8_slotOf_13
abbrev q_X8_find (dC : Nat → ClassId) (dI : Nat → Nat → Nat) (A : Nat → Prop) (td : Nat) (vk : Int32) (vw : Int32) (td_clocks : Int32) (td_people : Int32) (td_rounds : Int32) (td_guns : Int32) (td_lines : Int32) (td_name : Nat) (td_first : Nat) (td_gain : Nat) (td_rough : Nat) (td_custom : Nat) (td_part : Nat) (td_whole : Nat) (td_roundPerson : Nat) (td_roundClock : Nat) (td_roundHour : Nat) (td_gunClock : Nat) (td_gunHour : Nat) (td_rules : Nat) : Array Value → State → Outcome → State → Prop := va_Qi (fun (r : Int32) (_ : Unit) => r = -1) (fun (_ : Unit) (t : State) => va_P (dC, dI) vwCl [(td, .inr (8, [.int td_clocks, .int td_people, .int td_rounds, .int td_guns, .int td_lines, .ref td_name, .ref td_first, .ref td_gain, .ref td_rough, .ref td_custom, .ref td_part, .ref td_whole, .ref td_roundPerson, .ref td_roundClock, .ref td_roundHour, .ref td_gunClock, .ref td_gunHour, .ref td_rules]))] t.heap ∧ va_D A [(td, .inr (8, [.int td_clocks, .int td_people, .int td_rounds, .int td_guns, .int td_lines, .ref td_name, .ref td_first, .ref td_gain, .ref td_rough, .ref td_custom, .ref td_part, .ref td_whole, .ref td_roundPerson, .ref td_roundClock, .ref td_roundHour, .ref td_gunClock, .ref td_gunHour, .ref td_rules]))]) A
set_option maxHeartbeats 4000000 in
set_option maxRecDepth 100000 in
theorem c_X8_find (l : Launch) (dC : Nat → ClassId) (dI : Nat → Nat → Nat) (sz : Nat) (td : Nat) (vk : Int32) (vw : Int32) (td_clocks : Int32) (td_people : Int32) (td_rounds : Int32) (td_guns : Int32) (td_lines : Int32) (td_name : Nat) (td_first : Nat) (td_gain : Nat) (td_rough : Nat) (td_custom : Nat) (td_part : Nat) (td_whole : Nat) (td_roundPerson : Nat) (td_roundClock : Nat) (td_roundHour : Nat) (td_gunClock : Nat) (td_gunHour : Nat) (td_rules : Nat)  : Met l yX8_find (pw_w yX8_find cX8_find 5 (some .int)) ({ frames := 0, cells := 0, slots := 0, locals := 0 }) (va_Pc [.ref td, .int vk, .int 0, .int vw] (fun U => U.heap.size = sz ∧ va_P (dC, dI) vwCl [(td, .inr (8, [.int td_clocks, .int td_people, .int td_rounds, .int td_guns, .int td_lines, .ref td_name, .ref td_first, .ref td_gain, .ref td_rough, .ref td_custom, .ref td_part, .ref td_whole, .ref td_roundPerson, .ref td_roundClock, .ref td_roundHour, .ref td_gunClock, .ref td_gunHour, .ref td_rules]))] U.heap ∧ va_K (dC, dI) vwCl [] U ∧ va_D (fun _ => True) [(td, .inr (8, [.int td_clocks, .int td_people, .int td_rounds, .int td_guns, .int td_lines, .ref td_name, .ref td_first, .ref td_gain, .ref td_rough, .ref td_custom, .ref td_part, .ref td_whole, .ref td_roundPerson, .ref td_roundClock, .ref td_roundHour, .ref td_gunClock, .ref td_gunHour, .ref td_rules]))])) (q_X8_find dC dI (va_A [(td, .inr (8, [.int td_clocks, .int td_people, .int td_rounds, .int td_guns, .int td_lines, .ref td_name, .ref td_first, .ref td_gain, .ref td_rough, .ref td_custom, .ref td_part, .ref td_whole, .ref td_roundPerson, .ref td_roundClock, .ref td_roundHour, .ref td_gunClock, .ref td_gunHour, .ref td_rules]))] sz) td vk vw td_clocks td_people td_rounds td_guns td_lines td_name td_first td_gain td_rough td_custom td_part td_whole td_roundPerson td_roundClock td_roundHour td_gunClock td_gunHour td_rules) 0 0 (va_A [(td, .inr (8, [.int td_clocks, .int td_people, .int td_rounds, .int td_guns, .int td_lines, .ref td_name, .ref td_first, .ref td_gain, .ref td_rough, .ref td_custom, .ref td_part, .ref td_whole, .ref td_roundPerson, .ref td_roundClock, .ref td_roundHour, .ref td_gunClock, .ref td_gunHour, .ref td_rules]))] sz) := by
  refine Met.ofW (cc := cX8_find) (maxL := 5) (ret := (some .int)) (by decide) rfl ?_
  intro p e s m args below meth c s₁ B hml hv
  obtain ⟨rfl, hsz, hP, hK, hD0⟩ := hv
  have hx := B.exec
  have hb := B.bytes
  have hr := B.returns
  have hts := atoms_spec (ws := (pw_w yX8_find cX8_find 5 (some .int))) B.pre
  have hT : ∀ w ∈ pw_T, w.before _ s = true := fun w h => hts w (List.mem_cons_of_mem _ h)
  have hown : s.vm.findClass RX8 = some m.cls := findClass_of_methodNamed B.named
  have hlocks := B.notSynchronized
  subst hsz
  have hD := hD0.self (sz := s.heap.size)
  generalize hAe : va_A [(td, .inr (8, [.int td_clocks, .int td_people, .int td_rounds, .int td_guns, .int td_lines, .ref td_name, .ref td_first, .ref td_gain, .ref td_rough, .ref td_custom, .ref td_part, .ref td_whole, .ref td_roundPerson, .ref td_roundClock, .ref td_roundHour, .ref td_gunClock, .ref td_gunHour, .ref td_rules]))] s.heap.size = A at hD ⊢
  have hA : ∀ q : Nat, s.heap.size ≤ q → A q := fun q h => by rw [← hAe]; exact Or.inr h
  have hS : va_S A s.heap s.heap [] := va_S.rf
  have hP : va_P (dC, dI) vwCl [(td, .inr (8, [.int td_clocks, .int td_people, .int td_rounds, .int td_guns, .int td_lines, .ref td_name, .ref td_first, .ref td_gain, .ref td_rough, .ref td_custom, .ref td_part, .ref td_whole, .ref td_roundPerson, .ref td_roundClock, .ref td_roundHour, .ref td_gunClock, .ref td_gunHour, .ref td_rules]))] s.heap := hP
  have hl := lv_entry ([.ref td, .int vk, .int 0, .int vw]) (n := 5) (Nat.le_of_ble_eq_true rfl)
  rw [lg_entry_eq]
  generalize (lg_sl ([.ref td, .int vk, .int 0, .int vw]) ++ List.replicate (5 - (lg_sl ([.ref td, .int vk, .int 0, .int vw])).length) Slot.unset).toArray = ls at hl ⊢
  have hl : lv_has ls 5 [(0, .ref td), (1, .int vk), (2, .int 0), (3, .int vw)] := hl
  refine lv_iconst (v := 0) hx hb dX8_find_0 (by decide) ?_
  refine lv_istore (lv' := [(4, .int 0), (0, .ref td), (1, .int vk), (2, .int 0), (3, .int vw)]) hx hb dX8_find_1 hl (by decide) rfl (fun ls hl => ?_)
  refine lv_iload hx hb dX8_find_3 (lv_at hl 0 rfl) ?_
  refine lv_iload_n hx hb dX8_find_5 rfl (lv_at hl 3 rfl) ?_
  refine lv_icmp_ge (tgt := 31) hx hb dX8_find_6 (by decide) (fun c_1 => ?_) (fun c_1 => absurd c_1 (by decide))
  refine lv_iconst (v := (-1)) hx hb dX8_find_31 (by decide) ?_
  have hP9 := hP.sub (ws' := [(td, .inr (8, [.int td_clocks, .int td_people, .int td_rounds, .int td_guns, .int td_lines, .ref td_name, .ref td_first, .ref td_gain, .ref td_rough, .ref td_custom, .ref td_part, .ref td_whole, .ref td_roundPerson, .ref td_roundClock, .ref td_roundHour, .ref td_gunClock, .ref td_gunHour, .ref td_rules]))]) [0] rfl
  have hD9 := hD.sub (ws' := [(td, .inr (8, [.int td_clocks, .int td_people, .int td_rounds, .int td_guns, .int td_lines, .ref td_name, .ref td_first, .ref td_gain, .ref td_rough, .ref td_custom, .ref td_part, .ref td_whole, .ref td_roundPerson, .ref td_roundClock, .ref td_roundHour, .ref td_gunClock, .ref td_gunHour, .ref td_rules]))]) [0] (by decide) rfl
  refine W.widen (k := 0) (n := 0) (Nat.le_of_ble_eq_true rfl) (Nat.le_of_ble_eq_true rfl) ?_
  exact W.iret (v := (-1)) hx hb hr (fun t ht hW => ⟨⟨(-1), (), rfl, (by first | rfl | omega | (simp_all; done) | decide), by rw [ht]; exact hP9, hD9⟩, hS.F ht⟩) hS.2.2 dX8_find_32
abbrev q_X10_isWithin (dC : Nat → ClassId) (dI : Nat → Nat → Nat) (A : Nat → Prop) (vx : Int32) (va : Int32) (vb : Int32) : Array Value → State → Outcome → State → Prop := va_Qi (fun (r : Int32) (_ : Unit) => (r = 1 ∧ (va.toInt ≤ vx.toInt ∧ vx.toInt ≤ vb.toInt)) ∨ (r = 0 ∧ (vx.toInt < va.toInt ∨ vb.toInt < vx.toInt))) (fun (_ : Unit) (t : State) => va_P (dC, dI) vwCl [] t.heap ∧ va_D A []) A
set_option maxHeartbeats 4000000 in
set_option maxRecDepth 100000 in
theorem c_X10_isWithin (l : Launch) (dC : Nat → ClassId) (dI : Nat → Nat → Nat) (sz : Nat) (vx : Int32) (va : Int32) (vb : Int32)  : Met l yX10_isWithin (pw_w yX10_isWithin cX10_isWithin 3 (some .boolean)) ({ frames := 0, cells := 0, slots := 0, locals := 0 }) (va_Pc [.int vx, .int va, .int vb] (fun U => U.heap.size = sz ∧ va_P (dC, dI) vwCl [] U.heap ∧ va_K (dC, dI) vwCl [] U ∧ va_D (fun _ => True) [])) (q_X10_isWithin dC dI (va_A [] sz) vx va vb) 0 0 (va_A [] sz) := by
  refine Met.ofW (cc := cX10_isWithin) (maxL := 3) (ret := (some .boolean)) (by decide) rfl ?_
  intro p e s m args below meth c s₁ B hml hv
  obtain ⟨rfl, hsz, hP, hK, hD0⟩ := hv
  have hx := B.exec
  have hb := B.bytes
  have hr := B.returns
  have hts := atoms_spec (ws := (pw_w yX10_isWithin cX10_isWithin 3 (some .boolean))) B.pre
  have hT : ∀ w ∈ pw_T, w.before _ s = true := fun w h => hts w (List.mem_cons_of_mem _ h)
  have hown : s.vm.findClass RX10 = some m.cls := findClass_of_methodNamed B.named
  have hlocks := B.notSynchronized
  subst hsz
  have hD := hD0.self (sz := s.heap.size)
  generalize hAe : va_A [] s.heap.size = A at hD ⊢
  have hA : ∀ q : Nat, s.heap.size ≤ q → A q := fun q h => by rw [← hAe]; exact Or.inr h
  have hS : va_S A s.heap s.heap [] := va_S.rf
  have hP : va_P (dC, dI) vwCl [] s.heap := hP
  have hl := lv_entry ([.int vx, .int va, .int vb]) (n := 3) (Nat.le_of_ble_eq_true rfl)
  rw [lg_entry_eq]
  generalize (lg_sl ([.int vx, .int va, .int vb]) ++ List.replicate (3 - (lg_sl ([.int vx, .int va, .int vb])).length) Slot.unset).toArray = ls at hl ⊢
  have hl : lv_has ls 3 [(0, .int vx), (1, .int va), (2, .int vb)] := hl
  refine lv_iload_n hx hb dX10_isWithin_0 rfl (lv_at hl 0 rfl) ?_
  refine lv_iload_n hx hb dX10_isWithin_1 rfl (lv_at hl 1 rfl) ?_
  refine lv_icmp_lt (tgt := 14) hx hb dX10_isWithin_2 (by decide) (fun c_1 => ?_) (fun c_1 => ?_)
  · have kc_1 := il_lt c_1
    refine lv_iconst (v := 0) hx hb dX10_isWithin_14 (by decide) ?_
    have hP9 := hP.sub (ws' := []) [] rfl
    have hD9 := hD.sub (ws' := []) [] (by decide) rfl
    refine W.widen (k := 0) (n := 0) (Nat.le_of_ble_eq_true rfl) (Nat.le_of_ble_eq_true rfl) ?_
    exact W.zret (v := 0) hx hb hr (by decide) (fun t ht hW => ⟨⟨0, (), rfl, (by first | exact Or.inl ⟨rfl, by omega⟩ | exact Or.inl ⟨Int32.toInt_inj.mp (by omega), by omega⟩ | exact Or.inr (⟨rfl, by omega⟩) | exact Or.inr (⟨Int32.toInt_inj.mp (by omega), by omega⟩)), by rw [ht]; exact hP9, hD9⟩, hS.F ht⟩) hS.2.2 dX10_isWithin_15
  · have kc_1 := il_nlt c_1
    refine lv_iload_n hx hb dX10_isWithin_5 rfl (lv_at hl 0 rfl) ?_
    refine lv_iload_n hx hb dX10_isWithin_6 rfl (lv_at hl 2 rfl) ?_
    refine lv_icmp_gt (tgt := 14) hx hb dX10_isWithin_7 (by decide) (fun c_2 => ?_) (fun c_2 => ?_)
    · have kc_2 := il_lt c_2
      refine lv_iconst (v := 0) hx hb dX10_isWithin_14 (by decide) ?_
      have hP9 := hP.sub (ws' := []) [] rfl
      have hD9 := hD.sub (ws' := []) [] (by decide) rfl
      refine W.widen (k := 0) (n := 0) (Nat.le_of_ble_eq_true rfl) (Nat.le_of_ble_eq_true rfl) ?_
      exact W.zret (v := 0) hx hb hr (by decide) (fun t ht hW => ⟨⟨0, (), rfl, (by first | exact Or.inl ⟨rfl, by omega⟩ | exact Or.inl ⟨Int32.toInt_inj.mp (by omega), by omega⟩ | exact Or.inr (⟨rfl, by omega⟩) | exact Or.inr (⟨Int32.toInt_inj.mp (by omega), by omega⟩)), by rw [ht]; exact hP9, hD9⟩, hS.F ht⟩) hS.2.2 dX10_isWithin_15
    · have kc_2 := il_nlt c_2
      refine lv_iconst (v := 1) hx hb dX10_isWithin_10 (by decide) ?_
      refine lv_goto (tgt := 15) hx hb dX10_isWithin_11 (by decide) ?_
      have hP9 := hP.sub (ws' := []) [] rfl
      have hD9 := hD.sub (ws' := []) [] (by decide) rfl
      refine W.widen (k := 0) (n := 0) (Nat.le_of_ble_eq_true rfl) (Nat.le_of_ble_eq_true rfl) ?_
      exact W.zret (v := 1) hx hb hr (by decide) (fun t ht hW => ⟨⟨1, (), rfl, (by first | exact Or.inl ⟨rfl, by omega⟩ | exact Or.inl ⟨Int32.toInt_inj.mp (by omega), by omega⟩ | exact Or.inr (⟨rfl, by omega⟩) | exact Or.inr (⟨Int32.toInt_inj.mp (by omega), by omega⟩)), by rw [ht]; exact hP9, hD9⟩, hS.F ht⟩) hS.2.2 dX10_isWithin_15
