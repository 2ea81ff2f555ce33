theorem dX3_layDeeds_0 : decode cX3_layDeeds 0 = .ok (.aload_n 0, 1) := by decide +kernel
theorem dX3_layDeeds_1 : decode cX3_layDeeds 1 = .ok (.iconst 0, 1) := by decide +kernel
theorem dX3_layDeeds_2 : decode cX3_layDeeds 2 = .ok (.putfield 63, 3) := by decide +kernel
theorem dX3_layDeeds_5 : decode cX3_layDeeds 5 = .ok (.iconst 0, 1) := by decide +kernel
theorem dX3_layDeeds_6 : decode cX3_layDeeds 6 = .ok (.istore_n 3, 1) := by decide +kernel
theorem dX3_layDeeds_7 : decode cX3_layDeeds 7 = .ok (.iload_n 1, 1) := by decide +kernel
theorem dX3_layDeeds_8 : decode cX3_layDeeds 8 = .ok (.ifCond .eq 43, 3) := by decide +kernel
theorem dX3_layDeeds_51 : decode cX3_layDeeds 51 = .ok (.iconst 0, 1) := by decide +kernel
theorem dX3_layDeeds_52 : decode cX3_layDeeds 52 = .ok (.istore_n 3, 1) := by decide +kernel
theorem dX3_layDeeds_53 : decode cX3_layDeeds 53 = .ok (.iload_n 3, 1) := by decide +kernel
theorem dX3_layDeeds_54 : decode cX3_layDeeds 54 = .ok (.aload_n 0, 1) := by decide +kernel
theorem dX3_layDeeds_55 : decode cX3_layDeeds 55 = .ok (.getfield 34, 3) := by decide +kernel
theorem dX3_layDeeds_58 : decode cX3_layDeeds 58 = .ok (.getfield 80, 3) := by decide +kernel
theorem dX3_layDeeds_61 : decode cX3_layDeeds 61 = .ok (.if_icmp .ge 53, 3) := by decide +kernel
theorem dX3_layDeeds_114 : decode cX3_layDeeds 114 = .ok (.return_, 1) := by decide +kernel
theorem dX3_layDeeds_11 : decode cX3_layDeeds 11 = .ok (.iload_n 3, 1) := by decide +kernel
theorem dX3_layDeeds_12 : decode cX3_layDeeds 12 = .ok (.aload_n 0, 1) := by decide +kernel
theorem dX3_layDeeds_13 : decode cX3_layDeeds 13 = .ok (.getfield 34, 3) := by decide +kernel
theorem dX3_layDeeds_16 : decode cX3_layDeeds 16 = .ok (.getfield 67, 3) := by decide +kernel
theorem dX3_layDeeds_19 : decode cX3_layDeeds 19 = .ok (.if_icmp .ge 32, 3) := by decide +kernel
abbrev q_X3_layDeeds (dC : Nat → ClassId) (dI : Nat → Nat → Nat) (A : Nat → Prop) (pl : Nat) (vg : Int32) (vw : Int32) (td : Nat) (pl_first : Nat) (pl_gain : Nat) (pl_custom : Nat) (pl_ruled : Nat) (pl_deeds : Int32) (pl_deedHour : Nat) (pl_deedPerson : Nat) (pl_deedClock : Nat) (td_lines : Int32) (td_name : Nat) (td_first : Nat) (td_gain : Nat) (td_rough : Nat) (td_custom : Nat) (td_part : Nat) (td_whole : Nat) (td_roundPerson : Nat) (td_roundClock : Nat) (td_roundHour : Nat) (td_gunClock : Nat) (td_gunHour : Nat) (td_rules : Nat) : Array Value → State → Outcome → State → Prop := va_Qv (fun _ : Unit => True) (fun (_ : Unit) (t : State) => va_P (dC, dI) vwCl [(pl, .inr (3, [.ref td, .ref pl_first, .ref pl_gain, .ref pl_custom, .ref pl_ruled, .int 0, .ref pl_deedHour, .ref pl_deedPerson, .ref pl_deedClock])), (td, .inr (8, [.int 0, .int 0, .int 0, .int 0, .int td_lines, .ref td_name, .ref td_first, .ref td_gain, .ref td_rough, .ref td_custom, .ref td_part, .ref td_whole, .ref td_roundPerson, .ref td_roundClock, .ref td_roundHour, .ref td_gunClock, .ref td_gunHour, .ref td_rules]))] t.heap ∧ va_D A [(pl, .inr (3, [.ref td, .ref pl_first, .ref pl_gain, .ref pl_custom, .ref pl_ruled, .int 0, .ref pl_deedHour, .ref pl_deedPerson, .ref pl_deedClock])), (td, .inr (8, [.int 0, .int 0, .int 0, .int 0, .int td_lines, .ref td_name, .ref td_first, .ref td_gain, .ref td_rough, .ref td_custom, .ref td_part, .ref td_whole, .ref td_roundPerson, .ref td_roundClock, .ref td_roundHour, .ref td_gunClock, .ref td_gunHour, .ref td_rules]))]) A
set_option maxHeartbeats 4000000 in
set_option maxRecDepth 100000 in
theorem c_X3_layDeeds (l : Launch) (dC : Nat → ClassId) (dI : Nat → Nat → Nat) (sz : Nat) (pl : Nat) (vg : Int32) (vw : Int32) (td : Nat) (pl_first : Nat) (pl_gain : Nat) (pl_custom : Nat) (pl_ruled : Nat) (pl_deeds : Int32) (pl_deedHour : Nat) (pl_deedPerson : Nat) (pl_deedClock : Nat) (td_lines : Int32) (td_name : Nat) (td_first : Nat) (td_gain : Nat) (td_rough : Nat) (td_custom : Nat) (td_part : Nat) (td_whole : Nat) (td_roundPerson : Nat) (td_roundClock : Nat) (td_roundHour : Nat) (td_gunClock : Nat) (td_gunHour : Nat) (td_rules : Nat)  : Met l yX3_layDeeds (pw_w yX3_layDeeds cX3_layDeeds 4 none) ({ frames := 0, cells := 0, slots := 0, locals := 0 }) (va_Pc [.ref pl, .int vg, .int vw] (fun U => U.heap.size = sz ∧ va_P (dC, dI) vwCl [(pl, .inr (3, [.ref td, .ref pl_first, .ref pl_gain, .ref pl_custom, .ref pl_ruled, .int pl_deeds, .ref pl_deedHour, .ref pl_deedPerson, .ref pl_deedClock])), (td, .inr (8, [.int 0, .int 0, .int 0, .int 0, .int td_lines, .ref td_name, .ref td_first, .ref td_gain, .ref td_rough, .ref td_custom, .ref td_part, .ref td_whole, .ref td_roundPerson, .ref td_roundClock, .ref td_roundHour, .ref td_gunClock, .ref td_gunHour, .ref td_rules]))] U.heap ∧ va_K (dC, dI) vwCl [] U ∧ va_D (fun _ => True) [(pl, .inr (3, [.ref td, .ref pl_first, .ref pl_gain, .ref pl_custom, .ref pl_ruled, .int pl_deeds, .ref pl_deedHour, .ref pl_deedPerson, .ref pl_deedClock])), (td, .inr (8, [.int 0, .int 0, .int 0, .int 0, .int td_lines, .ref td_name, .ref td_first, .ref td_gain, .ref td_rough, .ref td_custom, .ref td_part, .ref td_whole, .ref td_roundPerson, .ref td_roundClock, .ref td_roundHour, .ref td_gunClock, .ref td_gunHour, .ref td_rules]))])) (q_X3_layDeeds dC dI (va_A [(pl, .inr (3, [.ref td, .ref pl_first, .ref pl_gain, .ref pl_custom, .ref pl_ruled, .int pl_deeds, .ref pl_deedHour, .ref pl_deedPerson, .ref pl_deedClock])), (td, .inr (8, [.int 0, .int 0, .int 0, .int 0, .int td_lines, .ref td_name, .ref td_first, .ref td_gain, .ref td_rough, .ref td_custom, .ref td_part, .ref td_whole, .ref td_roundPerson, .ref td_roundClock, .ref td_roundHour, .ref td_gunClock, .ref td_gunHour, .ref td_rules]))] sz) pl vg vw td pl_first pl_gain pl_custom pl_ruled pl_deeds pl_deedHour pl_deedPerson pl_deedClock td_lines td_name td_first td_gain td_rough td_custom td_part td_whole td_roundPerson td_roundClock td_roundHour td_gunClock td_gunHour td_rules) 0 0 (va_A [(pl, .inr (3, [.ref td, .ref pl_first, .ref pl_gain, .ref pl_custom, .ref pl_ruled, .int pl_deeds, .ref pl_deedHour, .ref pl_deedPerson, .ref pl_deedClock])), (td, .inr (8, [.int 0, .int 0, .int 0, .int 0, .int td_lines, .ref td_name, .ref td_first, .ref td_gain, .ref td_rough, .ref td_custom, .ref td_part, .ref td_whole, .ref td_roundPerson, .ref td_roundClock, .ref td_roundHour, .ref td_gunClock, .ref td_gunHour, .ref td_rules]))] sz) := by
  refine Met.ofW (cc := cX3_layDeeds) (maxL := 4) (ret := none) (by decide) rfl ?_
  intro p e s m args below meth c s₁ B hml hv
  obtain ⟨rfl, hsz, hP, hK, hD0⟩ := hv
  have hx := B.exec
  have hb := B.bytes
  have hr := B.returns
  have hts := atoms_spec (ws := (pw_w yX3_layDeeds cX3_layDeeds 4 none)) B.pre
  have hT : ∀ w ∈ pw_T, w.before _ s = true := fun w h => hts w (List.mem_cons_of_mem _ h)
  have hown : s.vm.findClass RX3 = some m.cls := findClass_of_methodNamed B.named
  have hlocks := B.notSynchronized
  subst hsz
  have hD := hD0.self (sz := s.heap.size)
  generalize hAe : va_A [(pl, .inr (3, [.ref td, .ref pl_first, .ref pl_gain, .ref pl_custom, .ref pl_ruled, .int pl_deeds, .ref pl_deedHour, .ref pl_deedPerson, .ref pl_deedClock])), (td, .inr (8, [.int 0, .int 0, .int 0, .int 0, .int td_lines, .ref td_name, .ref td_first, .ref td_gain, .ref td_rough, .ref td_custom, .ref td_part, .ref td_whole, .ref td_roundPerson, .ref td_roundClock, .ref td_roundHour, .ref td_gunClock, .ref td_gunHour, .ref td_rules]))] s.heap.size = A at hD ⊢
  have hA : ∀ q : Nat, s.heap.size ≤ q → A q := fun q h => by rw [← hAe]; exact Or.inr h
  have hS : va_S A s.heap s.heap [] := va_S.rf
  have hP : va_P (dC, dI) vwCl [(pl, .inr (3, [.ref td, .ref pl_first, .ref pl_gain, .ref pl_custom, .ref pl_ruled, .int pl_deeds, .ref pl_deedHour, .ref pl_deedPerson, .ref pl_deedClock])), (td, .inr (8, [.int 0, .int 0, .int 0, .int 0, .int td_lines, .ref td_name, .ref td_first, .ref td_gain, .ref td_rough, .ref td_custom, .ref td_part, .ref td_whole, .ref td_roundPerson, .ref td_roundClock, .ref td_roundHour, .ref td_gunClock, .ref td_gunHour, .ref td_rules]))] s.heap := hP
  have hl := lv_entry ([.ref pl, .int vg, .int vw]) (n := 4) (Nat.le_of_ble_eq_true rfl)
  rw [lg_entry_eq]
  generalize (lg_sl ([.ref pl, .int vg, .int vw]) ++ List.replicate (4 - (lg_sl ([.ref pl, .int vg, .int vw])).length) Slot.unset).toArray = ls at hl ⊢
  have hl : lv_has ls 4 [(0, .ref pl), (1, .int vg), (2, .int vw)] := hl
  refine lv_aload_n hx hb dX3_layDeeds_0 rfl (lv_at hl 0 rfl) ?_
  refine lv_iconst (v := 0) hx hb dX3_layDeeds_1 (by decide) ?_
  refine va_put (D := (dC, dI)) (ci := 3) (v := .int 0) (ty := .int) (C := RX3) (T := TX3) (N := 9) hx hb hT inX3 tyX3 tyX3_ok nmX3 hown hK hP hD hS 0 rfl rfl 5 (by decide) (hT _ mw_2_70) (fun _ h9 => h9) rfl (by decide +kernel) rfl rfl (Nat.le_of_ble_eq_true rfl) dX3_layDeeds_2 (fun H locs hP hD hS => ?_)
  have hP : va_P (dC, dI) vwCl [(pl, .inr (3, [.ref td, .ref pl_first, .ref pl_gain, .ref pl_custom, .ref pl_ruled, .int 0, .ref pl_deedHour, .ref pl_deedPerson, .ref pl_deedClock])), (td, .inr (8, [.int 0, .int 0, .int 0, .int 0, .int td_lines, .ref td_name, .ref td_first, .ref td_gain, .ref td_rough, .ref td_custom, .ref td_part, .ref td_whole, .ref td_roundPerson, .ref td_roundClock, .ref td_roundHour, .ref td_gunClock, .ref td_gunHour, .ref td_rules]))] H := hP
  have hD : va_D A [(pl, .inr (3, [.ref td, .ref pl_first, .ref pl_gain, .ref pl_custom, .ref pl_ruled, .int 0, .ref pl_deedHour, .ref pl_deedPerson, .ref pl_deedClock])), (td, .inr (8, [.int 0, .int 0, .int 0, .int 0, .int td_lines, .ref td_name, .ref td_first, .ref td_gain, .ref td_rough, .ref td_custom, .ref td_part, .ref td_whole, .ref td_roundPerson, .ref td_roundClock, .ref td_roundHour, .ref td_gunClock, .ref td_gunHour, .ref td_rules]))] := hD
  refine lv_iconst (v := 0) hx hb dX3_layDeeds_5 (by decide) ?_
  refine lv_istore_n (lv' := [(3, .int 0), (0, .ref pl), (1, .int vg), (2, .int vw)]) hx hb dX3_layDeeds_6 rfl hl (by decide) rfl (fun ls hl => ?_)
  refine lv_iload_n hx hb dX3_layDeeds_7 rfl (lv_at hl 2 rfl) ?_
  refine lv_if_eq (tgt := 51) hx hb dX3_layDeeds_8 (by decide) (fun c_1 => ?_) (fun c_1 => ?_)
  · have kc_1 := il_eq c_1
    have := (by decide : (0 : Int32).toInt = 0)
    refine lv_iconst (v := 0) hx hb dX3_layDeeds_51 (by decide) ?_
    refine lv_istore_n (lv' := [(3, .int 0), (0, .ref pl), (1, .int vg), (2, .int vw)]) hx hb dX3_layDeeds_52 rfl hl (by decide) rfl (fun ls hl => ?_)
    refine lv_iload_n hx hb dX3_layDeeds_53 rfl (lv_at hl 0 rfl) ?_
    refine lv_aload_n hx hb dX3_layDeeds_54 rfl (lv_at hl 1 rfl) ?_
    refine va_get (D := (dC, dI)) (ci := 3) (v := .ref td) (C := RX3) (T := TX3) (N := 9) hx hb hT inX3 hown hK hP 0 rfl rfl 0 (by decide) (hT _ mw_2_58) (fun _ h9 => h9) rfl dX3_layDeeds_55 ?_
    refine va_get (D := (dC, dI)) (ci := 8) (v := .int 0) (C := RX8) (T := TX8) (N := 18) hx hb hT inX8 hown hK hP 1 rfl rfl 2 (by decide) (hT _ mw_1_197) (fun _ h9 => h9) rfl dX3_layDeeds_58 ?_
    refine lv_icmp_ge (tgt := 114) hx hb dX3_layDeeds_61 (by decide) (fun c_2 => ?_) (fun c_2 => absurd c_2 (by decide))
    have hP9 := hP.sub (ws' := [(pl, .inr (3, [.ref td, .ref pl_first, .ref pl_gain, .ref pl_custom, .ref pl_ruled, .int 0, .ref pl_deedHour, .ref pl_deedPerson, .ref pl_deedClock])), (td, .inr (8, [.int 0, .int 0, .int 0, .int 0, .int td_lines, .ref td_name, .ref td_first, .ref td_gain, .ref td_rough, .ref td_custom, .ref td_part, .ref td_whole, .ref td_roundPerson, .ref td_roundClock, .ref td_roundHour, .ref td_gunClock, .ref td_gunHour, .ref td_rules]))]) [0, 1] rfl
    have hD9 := hD.sub (ws' := [(pl, .inr (3, [.ref td, .ref pl_first, .ref pl_gain, .ref pl_custom, .ref pl_ruled, .int 0, .ref pl_deedHour, .ref pl_deedPerson, .ref pl_deedClock])), (td, .inr (8, [.int 0, .int 0, .int 0, .int 0, .int td_lines, .ref td_name, .ref td_first, .ref td_gain, .ref td_rough, .ref td_custom, .ref td_part, .ref td_whole, .ref td_roundPerson, .ref td_roundClock, .ref td_roundHour, .ref td_gunClock, .ref td_gunHour, .ref td_rules]))]) [0, 1] (by decide) rfl
    refine W.widen (k := 0) (n := 0) (Nat.le_of_ble_eq_true rfl) (Nat.le_of_ble_eq_true rfl) ?_
    exact W.vret hx hb hr (fun t ht hW => ⟨⟨(), rfl, trivial, by rw [ht]; exact hP9, hD9⟩, hS.F ht⟩) hS.2.2 dX3_layDeeds_114
  · have kc_1 := il_ne c_1
    have := (by decide : (0 : Int32).toInt = 0)
    refine lv_iload_n hx hb dX3_layDeeds_11 rfl (lv_at hl 0 rfl) ?_
    refine lv_aload_n hx hb dX3_layDeeds_12 rfl (lv_at hl 1 rfl) ?_
    refine va_get (D := (dC, dI)) (ci := 3) (v := .ref td) (C := RX3) (T := TX3) (N := 9) hx hb hT inX3 hown hK hP 0 rfl rfl 0 (by decide) (hT _ mw_2_58) (fun _ h9 => h9) rfl dX3_layDeeds_13 ?_
    refine va_get (D := (dC, dI)) (ci := 8) (v := .int 0) (C := RX8) (T := TX8) (N := 18) hx hb hT inX8 hown hK hP 1 rfl rfl 3 (by decide) (hT _ mw_1_201) (fun _ h9 => h9) rfl dX3_layDeeds_16 ?_
    refine lv_icmp_ge (tgt := 51) hx hb dX3_layDeeds_19 (by decide) (fun c_3 => ?_) (fun c_3 => absurd c_3 (by decide))
    refine lv_iconst (v := 0) hx hb dX3_layDeeds_51 (by decide) ?_
    refine lv_istore_n (lv' := [(3, .int 0), (0, .ref pl), (1, .int vg), (2, .int vw)]) hx hb dX3_layDeeds_52 rfl hl (by decide) rfl (fun ls hl => ?_)
    refine lv_iload_n hx hb dX3_layDeeds_53 rfl (lv_at hl 0 rfl) ?_
    refine lv_aload_n hx hb dX3_layDeeds_54 rfl (lv_at hl 1 rfl) ?_
    refine va_get (D := (dC, dI)) (ci := 3) (v := .ref td) (C := RX3) (T := TX3) (N := 9) hx hb hT inX3 hown hK hP 0 rfl rfl 0 (by decide) (hT _ mw_2_58) (fun _ h9 => h9) rfl dX3_layDeeds_55 ?_
    refine va_get (D := (dC, dI)) (ci := 8) (v := .int 0) (C := RX8) (T := TX8) (N := 18) hx hb hT inX8 hown hK hP 1 rfl rfl 2 (by decide) (hT _ mw_1_197) (fun _ h9 => h9) rfl dX3_layDeeds_58 ?_
    refine lv_icmp_ge (tgt := 114) hx hb dX3_layDeeds_61 (by decide) (fun c_4 => ?_) (fun c_4 => absurd c_4 (by decide))
    have hP9 := hP.sub (ws' := [(pl, .inr (3, [.ref td, .ref pl_first, .ref pl_gain, .ref pl_custom, .ref pl_ruled, .int 0, .ref pl_deedHour, .ref pl_deedPerson, .ref pl_deedClock])), (td, .inr (8, [.int 0, .int 0, .int 0, .int 0, .int td_lines, .ref td_name, .ref td_first, .ref td_gain, .ref td_rough, .ref td_custom, .ref td_part, .ref td_whole, .ref td_roundPerson, .ref td_roundClock, .ref td_roundHour, .ref td_gunClock, .ref td_gunHour, .ref td_rules]))]) [0, 1] rfl
    have hD9 := hD.sub (ws' := [(pl, .inr (3, [.ref td, .ref pl_first, .ref pl_gain, .ref pl_custom, .ref pl_ruled, .int 0, .ref pl_deedHour, .ref pl_deedPerson, .ref pl_deedClock])), (td, .inr (8, [.int 0, .int 0, .int 0, .int 0, .int td_lines, .ref td_name, .ref td_first, .ref td_gain, .ref td_rough, .ref td_custom, .ref td_part, .ref td_whole, .ref td_roundPerson, .ref td_roundClock, .ref td_roundHour, .ref td_gunClock, .ref td_gunHour, .ref td_rules]))]) [0, 1] (by decide) rfl
    refine W.widen (k := 0) (n := 0) (Nat.le_of_ble_eq_true rfl) (Nat.le_of_ble_eq_true rfl) ?_
    exact W.vret hx hb hr (fun t ht hW => ⟨⟨(), rfl, trivial, by rw [ht]; exact hP9, hD9⟩, hS.F ht⟩) hS.2.2 dX3_layDeeds_114
