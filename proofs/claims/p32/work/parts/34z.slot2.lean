
abbrev q_X8_slotOf_2 (dC : Nat → ClassId) (dI : Nat → Nat → Nat) (A : Nat → Prop) (td : Nat) (vk : Int32) (td_clocks : Int32) (td_people : Int32) (td_rounds : Int32) (td_guns : Int32) (td_lines : Int32) (td_name : Nat) (td_first : Nat) (td_gain : Nat) (td_rough : Nat) (td_custom : Nat) (td_part : Nat) (td_whole : Nat) (td_roundPerson : Nat) (td_roundClock : Nat) (td_roundHour : Nat) (td_gunClock : Nat) (td_gunHour : Nat) (td_rules : Nat) : Array Value → State → Outcome → State → Prop := va_Qi (fun (r : Int32) (_ : Unit) => ((-1) ≤ r.toInt ∧ r.toInt ≤ 9) ∧ ((0 ≤ vk.toInt ∧ vk.toInt < td_clocks.toInt + td_people.toInt ∧ 0 ≤ r.toInt) ∨ ((vk.toInt < 0 ∨ td_clocks.toInt + td_people.toInt ≤ vk.toInt) ∧ r.toInt = -1))) (fun (_ : Unit) (t : State) => va_P (dC, dI) vwCl [(td, .inr (8, [.int td_clocks, .int td_people, .int td_rounds, .int td_guns, .int td_lines, .ref td_name, .ref td_first, .ref td_gain, .ref td_rough, .ref td_custom, .ref td_part, .ref td_whole, .ref td_roundPerson, .ref td_roundClock, .ref td_roundHour, .ref td_gunClock, .ref td_gunHour, .ref td_rules]))] t.heap ∧ va_D A [(td, .inr (8, [.int td_clocks, .int td_people, .int td_rounds, .int td_guns, .int td_lines, .ref td_name, .ref td_first, .ref td_gain, .ref td_rough, .ref td_custom, .ref td_part, .ref td_whole, .ref td_roundPerson, .ref td_roundClock, .ref td_roundHour, .ref td_gunClock, .ref td_gunHour, .ref td_rules]))]) A
set_option maxHeartbeats 4000000 in
set_option maxRecDepth 100000 in
theorem c_X8_slotOf_2 (l : Launch) (dC : Nat → ClassId) (dI : Nat → Nat → Nat) (sz : Nat) (td : Nat) (vk : Int32) (td_clocks : Int32) (td_people : Int32) (td_rounds : Int32) (td_guns : Int32) (td_lines : Int32) (td_name : Nat) (td_first : Nat) (td_gain : Nat) (td_rough : Nat) (td_custom : Nat) (td_part : Nat) (td_whole : Nat) (td_roundPerson : Nat) (td_roundClock : Nat) (td_roundHour : Nat) (td_gunClock : Nat) (td_gunHour : Nat) (td_rules : Nat) (h_td_clocks : 0 ≤ td_clocks.toInt ∧ td_clocks.toInt ≤ 5) (h_td_people : 0 ≤ td_people.toInt ∧ td_people.toInt ≤ 5) (h_td_rounds : 0 ≤ td_rounds.toInt ∧ td_rounds.toInt ≤ 12) (h_td_guns : 0 ≤ td_guns.toInt ∧ td_guns.toInt ≤ 3) : Met l yX8_slotOf (pw_w yX8_slotOf cX8_slotOf 2 (some .int)) ({ frames := 1, cells := 0, slots := 0, locals := 20 }) (va_Pc [.ref td, .int vk] (fun U => U.heap.size = sz ∧ va_P (dC, dI) vwCl [(td, .inr (8, [.int td_clocks, .int td_people, .int td_rounds, .int td_guns, .int td_lines, .ref td_name, .ref td_first, .ref td_gain, .ref td_rough, .ref td_custom, .ref td_part, .ref td_whole, .ref td_roundPerson, .ref td_roundClock, .ref td_roundHour, .ref td_gunClock, .ref td_gunHour, .ref td_rules]))] U.heap ∧ va_K (dC, dI) vwCl [] U ∧ va_D (fun _ => True) [(td, .inr (8, [.int td_clocks, .int td_people, .int td_rounds, .int td_guns, .int td_lines, .ref td_name, .ref td_first, .ref td_gain, .ref td_rough, .ref td_custom, .ref td_part, .ref td_whole, .ref td_roundPerson, .ref td_roundClock, .ref td_roundHour, .ref td_gunClock, .ref td_gunHour, .ref td_rules]))])) (q_X8_slotOf_2 dC dI (va_A [(td, .inr (8, [.int td_clocks, .int td_people, .int td_rounds, .int td_guns, .int td_lines, .ref td_name, .ref td_first, .ref td_gain, .ref td_rough, .ref td_custom, .ref td_part, .ref td_whole, .ref td_roundPerson, .ref td_roundClock, .ref td_roundHour, .ref td_gunClock, .ref td_gunHour, .ref td_rules]))] sz) td vk td_clocks td_people td_rounds td_guns td_lines td_name td_first td_gain td_rough td_custom td_part td_whole td_roundPerson td_roundClock td_roundHour td_gunClock td_gunHour td_rules) 0 0 (va_A [(td, .inr (8, [.int td_clocks, .int td_people, .int td_rounds, .int td_guns, .int td_lines, .ref td_name, .ref td_first, .ref td_gain, .ref td_rough, .ref td_custom, .ref td_part, .ref td_whole, .ref td_roundPerson, .ref td_roundClock, .ref td_roundHour, .ref td_gunClock, .ref td_gunHour, .ref td_rules]))] sz) := by
  refine Met.ofW (cc := cX8_slotOf) (maxL := 2) (ret := (some .int)) (by decide) rfl ?_
  intro p e s m args below meth c s₁ B hml hv
  obtain ⟨rfl, hsz, hP, hK, hD0⟩ := hv
  have hx := B.exec
  have hb := B.bytes
  have hr := B.returns
  have hts := atoms_spec (ws := (pw_w yX8_slotOf cX8_slotOf 2 (some .int))) B.pre
  have hT : ∀ w ∈ pw_T, w.before _ s = true := fun w h => hts w (List.mem_cons_of_mem _ h)
  have hown : s.vm.findClass RX8 = some m.cls := findClass_of_methodNamed B.named
  have hlocks := B.notSynchronized
  subst hsz
  have hD := hD0.self (sz := s.heap.size)
  generalize hAe : va_A [(td, .inr (8, [.int td_clocks, .int td_people, .int td_rounds, .int td_guns, .int td_lines, .ref td_name, .ref td_first, .ref td_gain, .ref td_rough, .ref td_custom, .ref td_part, .ref td_whole, .ref td_roundPerson, .ref td_roundClock, .ref td_roundHour, .ref td_gunClock, .ref td_gunHour, .ref td_rules]))] s.heap.size = A at hD ⊢
  have hA : ∀ q : Nat, s.heap.size ≤ q → A q := fun q h => by rw [← hAe]; exact Or.inr h
  have hS : va_S A s.heap s.heap [] := va_S.rf
  have hP : va_P (dC, dI) vwCl [(td, .inr (8, [.int td_clocks, .int td_people, .int td_rounds, .int td_guns, .int td_lines, .ref td_name, .ref td_first, .ref td_gain, .ref td_rough, .ref td_custom, .ref td_part, .ref td_whole, .ref td_roundPerson, .ref td_roundClock, .ref td_roundHour, .ref td_gunClock, .ref td_gunHour, .ref td_rules]))] s.heap := hP
  have hl := lv_entry ([.ref td, .int vk]) (n := 2) (Nat.le_of_ble_eq_true rfl)
  rw [lg_entry_eq]
  generalize (lg_sl ([.ref td, .int vk]) ++ List.replicate (2 - (lg_sl ([.ref td, .int vk])).length) Slot.unset).toArray = ls at hl ⊢
  have hl : lv_has ls 2 [(0, .ref td), (1, .int vk)] := hl
  refine lv_iload_n hx hb dX8_slotOf_0 rfl (lv_at hl 1 rfl) ?_
  refine lv_if_lt (tgt := 12) hx hb dX8_slotOf_1 (by decide) (fun c_1 => ?_) (fun c_1 => ?_)
  · have kc_1 := il_lt c_1
    have := (by decide : (0 : Int32).toInt = 0)
    refine lv_iconst (v := (-1)) hx hb dX8_slotOf_12 (by decide) ?_
    have hP9 := hP.sub (ws' := [(td, .inr (8, [.int td_clocks, .int td_people, .int td_rounds, .int td_guns, .int td_lines, .ref td_name, .ref td_first, .ref td_gain, .ref td_rough, .ref td_custom, .ref td_part, .ref td_whole, .ref td_roundPerson, .ref td_roundClock, .ref td_roundHour, .ref td_gunClock, .ref td_gunHour, .ref td_rules]))]) [0] rfl
    have hD9 := hD.sub (ws' := [(td, .inr (8, [.int td_clocks, .int td_people, .int td_rounds, .int td_guns, .int td_lines, .ref td_name, .ref td_first, .ref td_gain, .ref td_rough, .ref td_custom, .ref td_part, .ref td_whole, .ref td_roundPerson, .ref td_roundClock, .ref td_roundHour, .ref td_gunClock, .ref td_gunHour, .ref td_rules]))]) [0] (by decide) rfl
    have := (by decide : ((-1) : Int32).toInt = -1)
    exact W.iret (v := (-1)) hx hb hr (fun t ht hW => ⟨⟨(-1), (), rfl, (by first | omega | (refine ⟨?_, ?_⟩ <;> omega) | rfl | (intros; omega)), by rw [ht]; exact hP9, hD9⟩, hS.F ht⟩) hS.2.2 dX8_slotOf_13
  · have kc_1 := il_nlt c_1
    have := (by decide : (0 : Int32).toInt = 0)
    refine lv_iload_n hx hb dX8_slotOf_4 rfl (lv_at hl 1 rfl) ?_
    refine lv_aload_n hx hb dX8_slotOf_5 rfl (lv_at hl 0 rfl) ?_
    have hPc := hP.sub (ws' := [(td, .inr (8, [.int td_clocks, .int td_people, .int td_rounds, .int td_guns, .int td_lines, .ref td_name, .ref td_first, .ref td_gain, .ref td_rough, .ref td_custom, .ref td_part, .ref td_whole, .ref td_roundPerson, .ref td_roundClock, .ref td_roundHour, .ref td_gunClock, .ref td_gunHour, .ref td_rules]))]) [0] rfl
    have hDc := hD.sub (ws' := [(td, .inr (8, [.int td_clocks, .int td_people, .int td_rounds, .int td_guns, .int td_lines, .ref td_name, .ref td_first, .ref td_gain, .ref td_rough, .ref td_custom, .ref td_part, .ref td_whole, .ref td_roundPerson, .ref td_roundClock, .ref td_roundHour, .ref td_gunClock, .ref td_gunHour, .ref td_rules]))]) [0] (by decide) rfl
    have hKc := hK.sub (tys' := []) [] rfl
    have hFc := va_free (wc := [(td, .inr (8, [.int td_clocks, .int td_people, .int td_rounds, .int td_guns, .int td_lines, .ref td_name, .ref td_first, .ref td_gain, .ref td_rough, .ref td_custom, .ref td_part, .ref td_whole, .ref td_roundPerson, .ref td_roundClock, .ref td_roundHour, .ref td_gunClock, .ref td_gunHour, .ref td_rules]))]) hD hS hA [0] rfl
    refine va_calli (va_runV (As := []) (rest := [.int vk]) ⟨hx, hb, hml, hown, hT⟩ (c_X8_things l dC dI s.heap.size td td_clocks td_people td_rounds td_guns td_lines td_name td_first td_gain td_rough td_custom td_part td_whole td_roundPerson td_roundClock td_roundHour td_gunClock td_gunHour td_rules (by omega) (by omega) (by omega) (by omega)) (cwV 0 hT (gwV mw_4_135 mw_4_126 mw_4_127 mw_1_8 mw_4_128) rfl rfl rfl (by decide +kernel) ⟨Nat.le_of_ble_eq_true rfl, Nat.le_of_ble_eq_true rfl⟩) ⟨fun a U g mk q => by obtain ⟨q0, q1, qP, qK, qD⟩ := q; exact ⟨q0, q1, qP, va_K.moved (u := U) (U := U.calling g mk a) (Vm.Alike.refl U.vm) qK, qD⟩, va_recv hK hP (ci := 8) (q0 := 0) rfl rfl, fun U hU hW => ⟨rfl, by rw [hU], by rw [hU]; exact hPc, va_K.moved hW.alike hKc, hDc.weaken (fun _ _ _ _ => trivial)⟩⟩ rfl rfl hl.1 rfl (lv_room (Nat.le_of_ble_eq_true rfl)) dX8_slotOf_6 ⟨Nat.le_of_ble_eq_true rfl, Nat.le_of_ble_eq_true rfl⟩) hS (fun q _ h => hFc q h) hFc (fun r_2 u t H1 locs ht hvm hw hB hz1 hk1 hS => ?_)
    obtain ⟨hP1, hD1⟩ := hB
    rw [ht] at hP1
    obtain ⟨hP, hD⟩ := va_join (wr := []) (w1 := [(td, .inr (8, [.int td_clocks, .int td_people, .int td_rounds, .int td_guns, .int td_lines, .ref td_name, .ref td_first, .ref td_gain, .ref td_rough, .ref td_custom, .ref td_part, .ref td_whole, .ref td_roundPerson, .ref td_roundClock, .ref td_roundHour, .ref td_gunClock, .ref td_gunHour, .ref td_rules]))]) hP hD [0] [] rfl rfl (by decide) (by decide) hk1 hFc hP1 hD1
    generalize H1 = H at hP hS ⊢
    have hP : va_P (dC, dI) vwCl [(td, .inr (8, [.int td_clocks, .int td_people, .int td_rounds, .int td_guns, .int td_lines, .ref td_name, .ref td_first, .ref td_gain, .ref td_rough, .ref td_custom, .ref td_part, .ref td_whole, .ref td_roundPerson, .ref td_roundClock, .ref td_roundHour, .ref td_gunClock, .ref td_gunHour, .ref td_rules]))] H := hP
    have hD : va_D A [(td, .inr (8, [.int td_clocks, .int td_people, .int td_rounds, .int td_guns, .int td_lines, .ref td_name, .ref td_first, .ref td_gain, .ref td_rough, .ref td_custom, .ref td_part, .ref td_whole, .ref td_roundPerson, .ref td_roundClock, .ref td_roundHour, .ref td_gunClock, .ref td_gunHour, .ref td_rules]))] := hD
    clear hPc hDc hKc hFc hP1 hD1 hk1 hz1 ht hvm
    have hwr_2 : (0 ≤ r_2.toInt ∧ r_2.toInt ≤ 10) ∧ (r_2.toInt = td_clocks.toInt + td_people.toInt) := hw
    clear hw
    refine lv_icmp_lt (tgt := 14) hx hb dX8_slotOf_9 (by decide) (fun c_3 => ?_) (fun c_3 => ?_)
    · have kc_3 := il_lt c_3
      have := Int32.toInt_lt vk; have := Int32.le_toInt vk
      refine lv_iload_n hx hb dX8_slotOf_14 rfl (lv_at hl 1 rfl) ?_
      refine lv_aload_n hx hb dX8_slotOf_15 rfl (lv_at hl 0 rfl) ?_
      refine va_get (D := (dC, dI)) (ci := 8) (v := .int td_clocks) (C := RX8) (T := TX8) (N := 18) hx hb hT inX8 hown hK hP 0 rfl rfl 0 (by decide) (hT _ mw_1_190) (fun _ h9 => h9) rfl dX8_slotOf_16 ?_
      refine lv_icmp_ge (tgt := 26) hx hb dX8_slotOf_19 (by decide) (fun c_4 => ?_) (fun c_4 => ?_)
      · have kc_4 := il_le c_4
        refine lv_iconst (v := 5) hx hb dX8_slotOf_26 (by decide) ?_
        refine lv_iload_n hx hb dX8_slotOf_27 rfl (lv_at hl 1 rfl) ?_
        refine lv_iadd hx hb dX8_slotOf_28 ?_
        refine lv_topi (fun z_5 ez_5 => ?_)
        have kz_5 : z_5.toInt = 5 + vk.toInt := ti_add ez_5 (by decide) rfl (by omega) (by omega)
        clear ez_5
        refine lv_aload_n hx hb dX8_slotOf_29 rfl (lv_at hl 0 rfl) ?_
        refine va_get (D := (dC, dI)) (ci := 8) (v := .int td_clocks) (C := RX8) (T := TX8) (N := 18) hx hb hT inX8 hown hK hP 0 rfl rfl 0 (by decide) (hT _ mw_1_190) (fun _ h9 => h9) rfl dX8_slotOf_30 ?_
        refine lv_isub hx hb dX8_slotOf_33 ?_
        refine lv_topi (fun z_6 ez_6 => ?_)
        have kz_6 : z_6.toInt = z_5.toInt - td_clocks.toInt := ti_sub ez_6 rfl rfl (by omega) (by omega)
        clear ez_6
        have hP9 := hP.sub (ws' := [(td, .inr (8, [.int td_clocks, .int td_people, .int td_rounds, .int td_guns, .int td_lines, .ref td_name, .ref td_first, .ref td_gain, .ref td_rough, .ref td_custom, .ref td_part, .ref td_whole, .ref td_roundPerson, .ref td_roundClock, .ref td_roundHour, .ref td_gunClock, .ref td_gunHour, .ref td_rules]))]) [0] rfl
        have hD9 := hD.sub (ws' := [(td, .inr (8, [.int td_clocks, .int td_people, .int td_rounds, .int td_guns, .int td_lines, .ref td_name, .ref td_first, .ref td_gain, .ref td_rough, .ref td_custom, .ref td_part, .ref td_whole, .ref td_roundPerson, .ref td_roundClock, .ref td_roundHour, .ref td_gunClock, .ref td_gunHour, .ref td_rules]))]) [0] (by decide) rfl
        exact W.iret (v := z_6) hx hb hr (fun t ht hW => ⟨⟨z_6, (), rfl, (by first | omega | (refine ⟨?_, ?_⟩ <;> omega) | rfl | (intros; omega)), by rw [ht]; exact hP9, hD9⟩, hS.F ht⟩) hS.2.2 dX8_slotOf_34
      · have kc_4 := il_nle c_4
        refine lv_iload_n hx hb dX8_slotOf_22 rfl (lv_at hl 1 rfl) ?_
        refine lv_goto (tgt := 34) hx hb dX8_slotOf_23 (by decide) ?_
        have hP9 := hP.sub (ws' := [(td, .inr (8, [.int td_clocks, .int td_people, .int td_rounds, .int td_guns, .int td_lines, .ref td_name, .ref td_first, .ref td_gain, .ref td_rough, .ref td_custom, .ref td_part, .ref td_whole, .ref td_roundPerson, .ref td_roundClock, .ref td_roundHour, .ref td_gunClock, .ref td_gunHour, .ref td_rules]))]) [0] rfl
        have hD9 := hD.sub (ws' := [(td, .inr (8, [.int td_clocks, .int td_people, .int td_rounds, .int td_guns, .int td_lines, .ref td_name, .ref td_first, .ref td_gain, .ref td_rough, .ref td_custom, .ref td_part, .ref td_whole, .ref td_roundPerson, .ref td_roundClock, .ref td_roundHour, .ref td_gunClock, .ref td_gunHour, .ref td_rules]))]) [0] (by decide) rfl
        exact W.iret (v := vk) hx hb hr (fun t ht hW => ⟨⟨vk, (), rfl, (by first | omega | (refine ⟨?_, ?_⟩ <;> omega) | rfl | (intros; omega)), by rw [ht]; exact hP9, hD9⟩, hS.F ht⟩) hS.2.2 dX8_slotOf_34
    · have kc_3 := il_nlt c_3
      have := Int32.toInt_lt vk; have := Int32.le_toInt vk
      refine lv_iconst (v := (-1)) hx hb dX8_slotOf_12 (by decide) ?_
      have hP9 := hP.sub (ws' := [(td, .inr (8, [.int td_clocks, .int td_people, .int td_rounds, .int td_guns, .int td_lines, .ref td_name, .ref td_first, .ref td_gain, .ref td_rough, .ref td_custom, .ref td_part, .ref td_whole, .ref td_roundPerson, .ref td_roundClock, .ref td_roundHour, .ref td_gunClock, .ref td_gunHour, .ref td_rules]))]) [0] rfl
      have hD9 := hD.sub (ws' := [(td, .inr (8, [.int td_clocks, .int td_people, .int td_rounds, .int td_guns, .int td_lines, .ref td_name, .ref td_first, .ref td_gain, .ref td_rough, .ref td_custom, .ref td_part, .ref td_whole, .ref td_roundPerson, .ref td_roundClock, .ref td_roundHour, .ref td_gunClock, .ref td_gunHour, .ref td_rules]))]) [0] (by decide) rfl
      have := (by decide : ((-1) : Int32).toInt = -1)
      exact W.iret (v := (-1)) hx hb hr (fun t ht hW => ⟨⟨(-1), (), rfl, (by first | omega | (refine ⟨?_, ?_⟩ <;> omega) | rfl | (intros; omega)), by rw [ht]; exact hP9, hD9⟩, hS.F ht⟩) hS.2.2 dX8_slotOf_13
