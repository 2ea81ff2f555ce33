theorem dX2_write_0 : decode cX2_write 0 = .ok (.aload_n 1, 1) := by decide +kernel
theorem dX2_write_1 : decode cX2_write 1 = .ok (.getfield 18, 3) := by decide +kernel
theorem dX2_write_4 : decode cX2_write 4 = .ok (.iconst 1, 1) := by decide +kernel
theorem dX2_write_5 : decode cX2_write 5 = .ok (.isub, 1) := by decide +kernel
theorem dX2_write_6 : decode cX2_write 6 = .ok (.istore_n 2, 1) := by decide +kernel
theorem dX2_write_7 : decode cX2_write 7 = .ok (.iload_n 2, 1) := by decide +kernel
theorem dX2_write_8 : decode cX2_write 8 = .ok (.ifCond .lt 10, 3) := by decide +kernel
theorem dX2_write_11 : decode cX2_write 11 = .ok (.iload_n 2, 1) := by decide +kernel
theorem dX2_write_12 : decode cX2_write 12 = .ok (.sipush 2000, 3) := by decide +kernel
theorem dX2_write_15 : decode cX2_write 15 = .ok (.if_icmp .lt 4, 3) := by decide +kernel
theorem dX2_write_19 : decode cX2_write 19 = .ok (.aload_n 1, 1) := by decide +kernel
theorem dX2_write_20 : decode cX2_write 20 = .ok (.getfield 24, 3) := by decide +kernel
theorem dX2_write_23 : decode cX2_write 23 = .ok (.getfield 28, 3) := by decide +kernel
theorem dX2_write_26 : decode cX2_write 26 = .ok (.astore_n 3, 1) := by decide +kernel
theorem dX2_write_27 : decode cX2_write 27 = .ok (.aload_n 3, 1) := by decide +kernel
theorem dX2_write_28 : decode cX2_write 28 = .ok (.invokevirtual 34, 3) := by decide +kernel
theorem dX2_write_31 : decode cX2_write 31 = .ok (.istore 4, 2) := by decide +kernel
theorem dX2_write_33 : decode cX2_write 33 = .ok (.ldc 40, 2) := by decide +kernel
theorem dX2_write_35 : decode cX2_write 35 = .ok (.istore 5, 2) := by decide +kernel
theorem dX2_write_37 : decode cX2_write 37 = .ok (.iload 4, 2) := by decide +kernel
theorem dX2_write_39 : decode cX2_write 39 = .ok (.ifCond .ne 8, 3) := by decide +kernel
theorem dX2_write_42 : decode cX2_write 42 = .ok (.ldc 40, 2) := by decide +kernel
theorem dX2_write_44 : decode cX2_write 44 = .ok (.goto 5, 3) := by decide +kernel
theorem dX2_write_49 : decode cX2_write 49 = .ok (.istore 6, 2) := by decide +kernel
theorem dX2_write_51 : decode cX2_write 51 = .ok (.iconst 0, 1) := by decide +kernel
theorem dX2_write_52 : decode cX2_write 52 = .ok (.istore 7, 2) := by decide +kernel
theorem dX2_write_54 : decode cX2_write 54 = .ok (.iload 7, 2) := by decide +kernel
theorem dX2_write_56 : decode cX2_write 56 = .ok (.iload 4, 2) := by decide +kernel
theorem dX2_write_58 : decode cX2_write 58 = .ok (.if_icmp .ge 57, 3) := by decide +kernel
theorem dX2_write_115 : decode cX2_write 115 = .ok (.aload_n 0, 1) := by decide +kernel
theorem dX2_write_116 : decode cX2_write 116 = .ok (.getfield 15, 3) := by decide +kernel
theorem dX2_write_119 : decode cX2_write 119 = .ok (.iload_n 2, 1) := by decide +kernel
theorem dX2_write_120 : decode cX2_write 120 = .ok (.iload 6, 2) := by decide +kernel
theorem dX2_write_122 : decode cX2_write 122 = .ok (.iload 5, 2) := by decide +kernel
theorem dX2_write_124 : decode cX2_write 124 = .ok (.isub, 1) := by decide +kernel
theorem dX2_write_125 : decode cX2_write 125 = .ok (.iastore, 1) := by decide +kernel
theorem dX2_write_126 : decode cX2_write 126 = .ok (.return_, 1) := by decide +kernel
theorem dX5_clear_0 : decode cX5_clear 0 = .ok (.aload_n 0, 1) := by decide +kernel
theorem dX5_clear_1 : decode cX5_clear 1 = .ok (.iconst 0, 1) := by decide +kernel
theorem dX5_clear_2 : decode cX5_clear 2 = .ok (.putfield 31, 3) := by decide +kernel
theorem dX5_clear_5 : decode cX5_clear 5 = .ok (.aload_n 0, 1) := by decide +kernel
theorem dX5_clear_6 : decode cX5_clear 6 = .ok (.iconst (-1), 1) := by decide +kernel
theorem dX5_clear_7 : decode cX5_clear 7 = .ok (.putfield 9, 3) := by decide +kernel
theorem dX5_clear_10 : decode cX5_clear 10 = .ok (.return_, 1) := by decide +kernel
theorem dX5_knownCount_0 : decode cX5_knownCount 0 = .ok (.aload_n 0, 1) := by decide +kernel
theorem dX5_knownCount_1 : decode cX5_knownCount 1 = .ok (.getfield 9, 3) := by decide +kernel
theorem dX5_knownCount_4 : decode cX5_knownCount 4 = .ok (.iconst (-1), 1) := by decide +kernel
theorem dX5_knownCount_5 : decode cX5_knownCount 5 = .ok (.if_icmp .ne 10, 3) := by decide +kernel
theorem dX5_knownCount_8 : decode cX5_knownCount 8 = .ok (.aload_n 0, 1) := by decide +kernel
theorem dX5_knownCount_9 : decode cX5_knownCount 9 = .ok (.getfield 31, 3) := by decide +kernel
theorem dX5_knownCount_12 : decode cX5_knownCount 12 = .ok (.goto 7, 3) := by decide +kernel
theorem dX5_knownCount_19 : decode cX5_knownCount 19 = .ok (.ireturn, 1) := by decide +kernel
theorem dX5_firstWrong_0 : decode cX5_firstWrong 0 = .ok (.aload_n 0, 1) := by decide +kernel
theorem dX5_firstWrong_1 : decode cX5_firstWrong 1 = .ok (.invokevirtual 34, 3) := by decide +kernel
theorem dX5_firstWrong_4 : decode cX5_firstWrong 4 = .ok (.istore_n 2, 1) := by decide +kernel
theorem dX5_firstWrong_5 : decode cX5_firstWrong 5 = .ok (.iconst 0, 1) := by decide +kernel
theorem dX5_firstWrong_6 : decode cX5_firstWrong 6 = .ok (.istore_n 3, 1) := by decide +kernel
theorem dX5_firstWrong_7 : decode cX5_firstWrong 7 = .ok (.iload_n 3, 1) := by decide +kernel
theorem dX5_firstWrong_8 : decode cX5_firstWrong 8 = .ok (.aload_n 0, 1) := by decide +kernel
theorem dX5_firstWrong_9 : decode cX5_firstWrong 9 = .ok (.getfield 31, 3) := by decide +kernel
theorem dX5_firstWrong_12 : decode cX5_firstWrong 12 = .ok (.if_icmp .ge 49, 3) := by decide +kernel
theorem dX5_firstWrong_61 : decode cX5_firstWrong 61 = .ok (.iload_n 2, 1) := by decide +kernel
theorem dX5_firstWrong_62 : decode cX5_firstWrong 62 = .ok (.aload_n 0, 1) := by decide +kernel
theorem dX5_firstWrong_63 : decode cX5_firstWrong 63 = .ok (.invokevirtual 34, 3) := by decide +kernel
theorem dX5_firstWrong_66 : decode cX5_firstWrong 66 = .ok (.if_icmp .ne 7, 3) := by decide +kernel
theorem dX5_firstWrong_69 : decode cX5_firstWrong 69 = .ok (.iconst (-1), 1) := by decide +kernel
theorem dX5_firstWrong_70 : decode cX5_firstWrong 70 = .ok (.goto 4, 3) := by decide +kernel
theorem dX5_firstWrong_74 : decode cX5_firstWrong 74 = .ok (.ireturn, 1) := by decide +kernel
theorem dX9_forget_0 : decode cX9_forget 0 = .ok (.aload_n 0, 1) := by decide +kernel
theorem dX9_forget_1 : decode cX9_forget 1 = .ok (.iconst (-1), 1) := by decide +kernel
theorem dX9_forget_2 : decode cX9_forget 2 = .ok (.putfield 9, 3) := by decide +kernel
theorem dX9_forget_5 : decode cX9_forget 5 = .ok (.return_, 1) := by decide +kernel
theorem dX1_forget_0 : decode cX1_forget 0 = .ok (.aload_n 0, 1) := by decide +kernel
theorem dX1_forget_1 : decode cX1_forget 1 = .ok (.iconst (-1), 1) := by decide +kernel
theorem dX1_forget_2 : decode cX1_forget 2 = .ok (.putfield 31, 3) := by decide +kernel
theorem dX1_forget_5 : decode cX1_forget 5 = .ok (.return_, 1) := by decide +kernel
abbrev q_X2_write (dC : Nat → ClassId) (dI : Nat → Nat → Nat) (A : Nat → Prop) (hi : Nat) (co : Nat) (hi_off : Nat) (hi_apart : Nat) (k_hi_apart : ClassId) (f_hi_apart : Nat → Int32) (pl : Nat) (co_passings : Int32) (co_last : Nat) (co_passed : Nat) (co_keptCount : Nat) (co_watched : Int32) (co_widest : Int32) (co_deed : Int32) (co_week : Int32) (co_off : Nat) (co_since : Nat) (co_kept : Nat) (co_sorted : Nat) (td : Nat) (pl_first : Nat) (pl_gain : Nat) (pl_custom : Nat) (pl_ruled : Nat) (pl_deeds : Int32) (pl_deedHour : Nat) (pl_deedPerson : Nat) (pl_deedClock : Nat) (td_rounds : Int32) (td_guns : Int32) (td_lines : Int32) (td_name : Nat) (td_first : Nat) (td_gain : Nat) (td_rough : Nat) (td_custom : Nat) (td_part : Nat) (td_whole : Nat) (td_roundPerson : Nat) (td_roundClock : Nat) (td_roundHour : Nat) (td_gunClock : Nat) (td_gunHour : Nat) (td_rules : Nat) (vi : Nat) : Array Value → State → Outcome → State → Prop := va_Qv (fun _ : Unit => True) (fun (_ : Unit) (t : State) => ∃ (g_hi_apart : Nat → Int32), va_P (dC, dI) vwCl [(hi, .inr (2, [.ref hi_off, .ref hi_apart])), (hi_apart, .inl (k_hi_apart, 2000, .inl g_hi_apart)), (co, .inr (0, [.ref pl, .int (nI (vi + 1)), .int co_passings, .ref co_last, .ref co_passed, .ref co_keptCount, .int co_watched, .int co_widest, .int co_deed, .int co_week, .ref co_off, .ref co_since, .ref co_kept, .ref co_sorted])), (pl, .inr (3, [.ref td, .ref pl_first, .ref pl_gain, .ref pl_custom, .ref pl_ruled, .int pl_deeds, .ref pl_deedHour, .ref pl_deedPerson, .ref pl_deedClock])), (td, .inr (8, [.int 0, .int 0, .int td_rounds, .int td_guns, .int td_lines, .ref td_name, .ref td_first, .ref td_gain, .ref td_rough, .ref td_custom, .ref td_part, .ref td_whole, .ref td_roundPerson, .ref td_roundClock, .ref td_roundHour, .ref td_gunClock, .ref td_gunHour, .ref td_rules]))] t.heap ∧ va_D A [(hi, .inr (2, [.ref hi_off, .ref hi_apart])), (hi_apart, .inl (k_hi_apart, 2000, .inl g_hi_apart)), (co, .inr (0, [.ref pl, .int (nI (vi + 1)), .int co_passings, .ref co_last, .ref co_passed, .ref co_keptCount, .int co_watched, .int co_widest, .int co_deed, .int co_week, .ref co_off, .ref co_since, .ref co_kept, .ref co_sorted])), (pl, .inr (3, [.ref td, .ref pl_first, .ref pl_gain, .ref pl_custom, .ref pl_ruled, .int pl_deeds, .ref pl_deedHour, .ref pl_deedPerson, .ref pl_deedClock])), (td, .inr (8, [.int 0, .int 0, .int td_rounds, .int td_guns, .int td_lines, .ref td_name, .ref td_first, .ref td_gain, .ref td_rough, .ref td_custom, .ref td_part, .ref td_whole, .ref td_roundPerson, .ref td_roundClock, .ref td_roundHour, .ref td_gunClock, .ref td_gunHour, .ref td_rules]))]) A
set_option maxHeartbeats 4000000 in
set_option maxRecDepth 100000 in
theorem c_X2_write (l : Launch) (dC : Nat → ClassId) (dI : Nat → Nat → Nat) (sz : Nat) (hi : Nat) (co : Nat) (hi_off : Nat) (hi_apart : Nat) (k_hi_apart : ClassId) (f_hi_apart : Nat → Int32) (pl : Nat) (co_passings : Int32) (co_last : Nat) (co_passed : Nat) (co_keptCount : Nat) (co_watched : Int32) (co_widest : Int32) (co_deed : Int32) (co_week : Int32) (co_off : Nat) (co_since : Nat) (co_kept : Nat) (co_sorted : Nat) (td : Nat) (pl_first : Nat) (pl_gain : Nat) (pl_custom : Nat) (pl_ruled : Nat) (pl_deeds : Int32) (pl_deedHour : Nat) (pl_deedPerson : Nat) (pl_deedClock : Nat) (td_rounds : Int32) (td_guns : Int32) (td_lines : Int32) (td_name : Nat) (td_first : Nat) (td_gain : Nat) (td_rough : Nat) (td_custom : Nat) (td_part : Nat) (td_whole : Nat) (td_roundPerson : Nat) (td_roundClock : Nat) (td_roundHour : Nat) (td_gunClock : Nat) (td_gunHour : Nat) (td_rules : Nat) (vi : Nat) (hv : vi < 2000) : Met l yX2_write (pw_w yX2_write cX2_write 10 none) ({ frames := 1, cells := 0, slots := 0, locals := 20 }) (va_Pc [.ref hi, .ref co] (fun U => U.heap.size = sz ∧ va_P (dC, dI) vwCl [(hi, .inr (2, [.ref hi_off, .ref hi_apart])), (hi_apart, .inl (k_hi_apart, 2000, .inl f_hi_apart)), (co, .inr (0, [.ref pl, .int (nI (vi + 1)), .int co_passings, .ref co_last, .ref co_passed, .ref co_keptCount, .int co_watched, .int co_widest, .int co_deed, .int co_week, .ref co_off, .ref co_since, .ref co_kept, .ref co_sorted])), (pl, .inr (3, [.ref td, .ref pl_first, .ref pl_gain, .ref pl_custom, .ref pl_ruled, .int pl_deeds, .ref pl_deedHour, .ref pl_deedPerson, .ref pl_deedClock])), (td, .inr (8, [.int 0, .int 0, .int td_rounds, .int td_guns, .int td_lines, .ref td_name, .ref td_first, .ref td_gain, .ref td_rough, .ref td_custom, .ref td_part, .ref td_whole, .ref td_roundPerson, .ref td_roundClock, .ref td_roundHour, .ref td_gunClock, .ref td_gunHour, .ref td_rules]))] U.heap ∧ va_K (dC, dI) vwCl [(k_hi_apart, .int)] U ∧ va_D (fun _ => True) [(hi, .inr (2, [.ref hi_off, .ref hi_apart])), (hi_apart, .inl (k_hi_apart, 2000, .inl f_hi_apart)), (co, .inr (0, [.ref pl, .int (nI (vi + 1)), .int co_passings, .ref co_last, .ref co_passed, .ref co_keptCount, .int co_watched, .int co_widest, .int co_deed, .int co_week, .ref co_off, .ref co_since, .ref co_kept, .ref co_sorted])), (pl, .inr (3, [.ref td, .ref pl_first, .ref pl_gain, .ref pl_custom, .ref pl_ruled, .int pl_deeds, .ref pl_deedHour, .ref pl_deedPerson, .ref pl_deedClock])), (td, .inr (8, [.int 0, .int 0, .int td_rounds, .int td_guns, .int td_lines, .ref td_name, .ref td_first, .ref td_gain, .ref td_rough, .ref td_custom, .ref td_part, .ref td_whole, .ref td_roundPerson, .ref td_roundClock, .ref td_roundHour, .ref td_gunClock, .ref td_gunHour, .ref td_rules]))])) (q_X2_write dC dI (va_A [(hi, .inr (2, [.ref hi_off, .ref hi_apart])), (hi_apart, .inl (k_hi_apart, 2000, .inl f_hi_apart)), (co, .inr (0, [.ref pl, .int (nI (vi + 1)), .int co_passings, .ref co_last, .ref co_passed, .ref co_keptCount, .int co_watched, .int co_widest, .int co_deed, .int co_week, .ref co_off, .ref co_since, .ref co_kept, .ref co_sorted])), (pl, .inr (3, [.ref td, .ref pl_first, .ref pl_gain, .ref pl_custom, .ref pl_ruled, .int pl_deeds, .ref pl_deedHour, .ref pl_deedPerson, .ref pl_deedClock])), (td, .inr (8, [.int 0, .int 0, .int td_rounds, .int td_guns, .int td_lines, .ref td_name, .ref td_first, .ref td_gain, .ref td_rough, .ref td_custom, .ref td_part, .ref td_whole, .ref td_roundPerson, .ref td_roundClock, .ref td_roundHour, .ref td_gunClock, .ref td_gunHour, .ref td_rules]))] sz) hi co hi_off hi_apart k_hi_apart f_hi_apart pl co_passings co_last co_passed co_keptCount co_watched co_widest co_deed co_week co_off co_since co_kept co_sorted td pl_first pl_gain pl_custom pl_ruled pl_deeds pl_deedHour pl_deedPerson pl_deedClock td_rounds td_guns td_lines td_name td_first td_gain td_rough td_custom td_part td_whole td_roundPerson td_roundClock td_roundHour td_gunClock td_gunHour td_rules vi) 0 0 (va_A [(hi, .inr (2, [.ref hi_off, .ref hi_apart])), (hi_apart, .inl (k_hi_apart, 2000, .inl f_hi_apart)), (co, .inr (0, [.ref pl, .int (nI (vi + 1)), .int co_passings, .ref co_last, .ref co_passed, .ref co_keptCount, .int co_watched, .int co_widest, .int co_deed, .int co_week, .ref co_off, .ref co_since, .ref co_kept, .ref co_sorted])), (pl, .inr (3, [.ref td, .ref pl_first, .ref pl_gain, .ref pl_custom, .ref pl_ruled, .int pl_deeds, .ref pl_deedHour, .ref pl_deedPerson, .ref pl_deedClock])), (td, .inr (8, [.int 0, .int 0, .int td_rounds, .int td_guns, .int td_lines, .ref td_name, .ref td_first, .ref td_gain, .ref td_rough, .ref td_custom, .ref td_part, .ref td_whole, .ref td_roundPerson, .ref td_roundClock, .ref td_roundHour, .ref td_gunClock, .ref td_gunHour, .ref td_rules]))] sz) := by
  refine Met.ofW (cc := cX2_write) (maxL := 10) (ret := none) (by decide) rfl ?_
  intro p e s m args below meth c s₁ B hml hv
  obtain ⟨rfl, hsz, hP, hK, hD0⟩ := hv
  have hx := B.exec
  have hb := B.bytes
  have hr := B.returns
  have hts := atoms_spec (ws := (pw_w yX2_write cX2_write 10 none)) B.pre
  have hT : ∀ w ∈ pw_T, w.before _ s = true := fun w h => hts w (List.mem_cons_of_mem _ h)
  have hown : s.vm.findClass RX2 = some m.cls := findClass_of_methodNamed B.named
  have hlocks := B.notSynchronized
  subst hsz
  have hD := hD0.self (sz := s.heap.size)
  generalize hAe : va_A [(hi, .inr (2, [.ref hi_off, .ref hi_apart])), (hi_apart, .inl (k_hi_apart, 2000, .inl f_hi_apart)), (co, .inr (0, [.ref pl, .int (nI (vi + 1)), .int co_passings, .ref co_last, .ref co_passed, .ref co_keptCount, .int co_watched, .int co_widest, .int co_deed, .int co_week, .ref co_off, .ref co_since, .ref co_kept, .ref co_sorted])), (pl, .inr (3, [.ref td, .ref pl_first, .ref pl_gain, .ref pl_custom, .ref pl_ruled, .int pl_deeds, .ref pl_deedHour, .ref pl_deedPerson, .ref pl_deedClock])), (td, .inr (8, [.int 0, .int 0, .int td_rounds, .int td_guns, .int td_lines, .ref td_name, .ref td_first, .ref td_gain, .ref td_rough, .ref td_custom, .ref td_part, .ref td_whole, .ref td_roundPerson, .ref td_roundClock, .ref td_roundHour, .ref td_gunClock, .ref td_gunHour, .ref td_rules]))] s.heap.size = A at hD ⊢
  have hA : ∀ q : Nat, s.heap.size ≤ q → A q := fun q h => by rw [← hAe]; exact Or.inr h
  have hS : va_S A s.heap s.heap [] := va_S.rf
  have hP : va_P (dC, dI) vwCl [(hi, .inr (2, [.ref hi_off, .ref hi_apart])), (hi_apart, .inl (k_hi_apart, 2000, .inl f_hi_apart)), (co, .inr (0, [.ref pl, .int (nI (vi + 1)), .int co_passings, .ref co_last, .ref co_passed, .ref co_keptCount, .int co_watched, .int co_widest, .int co_deed, .int co_week, .ref co_off, .ref co_since, .ref co_kept, .ref co_sorted])), (pl, .inr (3, [.ref td, .ref pl_first, .ref pl_gain, .ref pl_custom, .ref pl_ruled, .int pl_deeds, .ref pl_deedHour, .ref pl_deedPerson, .ref pl_deedClock])), (td, .inr (8, [.int 0, .int 0, .int td_rounds, .int td_guns, .int td_lines, .ref td_name, .ref td_first, .ref td_gain, .ref td_rough, .ref td_custom, .ref td_part, .ref td_whole, .ref td_roundPerson, .ref td_roundClock, .ref td_roundHour, .ref td_gunClock, .ref td_gunHour, .ref td_rules]))] s.heap := hP
  have hl := lv_entry ([.ref hi, .ref co]) (n := 10) (Nat.le_of_ble_eq_true rfl)
  rw [lg_entry_eq]
  generalize (lg_sl ([.ref hi, .ref co]) ++ List.replicate (10 - (lg_sl ([.ref hi, .ref co])).length) Slot.unset).toArray = ls at hl ⊢
  have hl : lv_has ls 10 [(0, .ref hi), (1, .ref co)] := hl
  refine lv_aload_n hx hb dX2_write_0 rfl (lv_at hl 1 rfl) ?_
  refine va_get (D := (dC, dI)) (ci := 0) (v := .int (nI (vi + 1))) (C := RX0) (T := TX0) (N := 14) hx hb hT inX0 hown hK hP 2 rfl rfl 1 (by decide) (hT _ mw_2_107) (fun _ h9 => h9) rfl dX2_write_1 ?_
  refine lv_iconst (v := 1) hx hb dX2_write_4 (by decide) ?_
  refine lv_isub hx hb dX2_write_5 ?_
  refine lv_topi (fun z_1 ez_1 => ?_)
  obtain rfl : z_1 = nI (vi) := ez_1.trans (nI_pred vi)
  refine lv_istore_n (lv' := [(2, .int (nI (vi))), (0, .ref hi), (1, .ref co)]) hx hb dX2_write_6 rfl hl (by decide) rfl (fun ls hl => ?_)
  refine lv_iload_n hx hb dX2_write_7 rfl (lv_at hl 0 rfl) ?_
  refine lv_if_lt (tgt := 18) hx hb dX2_write_8 (by decide) (fun c_2 => False.elim (by have := il_lt c_2; have := nI_toInt (n := vi) (by omega); have := (by decide : (0 : Int32).toInt = 0); omega)) (fun c_2 => ?_)
  have kc_2 := il_nlt c_2
  have := nI_toInt (n := vi) (by omega); have := (by decide : (0 : Int32).toInt = 0)
  refine lv_iload_n hx hb dX2_write_11 rfl (lv_at hl 0 rfl) ?_
  refine lv_sipush (v := 2000) hx hb dX2_write_12 (by decide) ?_
  refine lv_icmp_lt (tgt := 19) hx hb dX2_write_15 (by decide) (fun c_3 => ?_) (fun c_3 => False.elim (by have := il_nlt c_3; have := nI_toInt (n := vi) (by omega); have := (by decide : (2000 : Int32).toInt = 2000); omega))
  have kc_3 := il_lt c_3
  have := nI_toInt (n := vi) (by omega); have := (by decide : (2000 : Int32).toInt = 2000)
  refine lv_aload_n hx hb dX2_write_19 rfl (lv_at hl 2 rfl) ?_
  refine va_get (D := (dC, dI)) (ci := 0) (v := .ref pl) (C := RX0) (T := TX0) (N := 14) hx hb hT inX0 hown hK hP 2 rfl rfl 0 (by decide) (hT _ mw_2_105) (fun _ h9 => h9) rfl dX2_write_20 ?_
  refine va_get (D := (dC, dI)) (ci := 3) (v := .ref td) (C := RX3) (T := TX3) (N := 9) hx hb hT inX3 hown hK hP 3 rfl rfl 0 (by decide) (hT _ mw_2_59) (fun _ h9 => h9) rfl dX2_write_23 ?_
  refine lv_astore_n (lv' := [(3, .ref td), (2, .int (nI (vi))), (0, .ref hi), (1, .ref co)]) hx hb dX2_write_26 rfl hl (by decide) rfl (fun ls hl => ?_)
  refine lv_aload_n hx hb dX2_write_27 rfl (lv_at hl 0 rfl) ?_
  have hPc := hP.sub (ws' := [(td, .inr (8, [.int 0, .int 0, .int td_rounds, .int td_guns, .int td_lines, .ref td_name, .ref td_first, .ref td_gain, .ref td_rough, .ref td_custom, .ref td_part, .ref td_whole, .ref td_roundPerson, .ref td_roundClock, .ref td_roundHour, .ref td_gunClock, .ref td_gunHour, .ref td_rules]))]) [4] rfl
  have hDc := hD.sub (ws' := [(td, .inr (8, [.int 0, .int 0, .int td_rounds, .int td_guns, .int td_lines, .ref td_name, .ref td_first, .ref td_gain, .ref td_rough, .ref td_custom, .ref td_part, .ref td_whole, .ref td_roundPerson, .ref td_roundClock, .ref td_roundHour, .ref td_gunClock, .ref td_gunHour, .ref td_rules]))]) [4] (by decide) rfl
  have hKc := hK.sub (tys' := []) [] rfl
  have hFc := va_free (wc := [(td, .inr (8, [.int 0, .int 0, .int td_rounds, .int td_guns, .int td_lines, .ref td_name, .ref td_first, .ref td_gain, .ref td_rough, .ref td_custom, .ref td_part, .ref td_whole, .ref td_roundPerson, .ref td_roundClock, .ref td_roundHour, .ref td_gunClock, .ref td_gunHour, .ref td_rules]))]) hD hS hA [4] rfl
  refine va_calli (va_runV (As := []) (rest := []) ⟨hx, hb, hml, hown, hT⟩ (c_X8_things l dC dI s.heap.size td td_rounds td_guns td_lines td_name td_first td_gain td_rough td_custom td_part td_whole td_roundPerson td_roundClock td_roundHour td_gunClock td_gunHour td_rules ) (cwV 0 hT (gwV mw_4_125 mw_4_126 mw_4_127 mw_1_8 mw_4_128) rfl rfl rfl (by decide +kernel) ⟨Nat.le_of_ble_eq_true rfl, Nat.le_of_ble_eq_true rfl⟩) ⟨fun a U g mk q => by obtain ⟨q0, q1, qP, qK, qD⟩ := q; exact ⟨q0, q1, qP, va_K.moved (u := U) (U := U.calling g mk a) (Vm.Alike.refl U.vm) qK, qD⟩, va_recv hK hP (ci := 8) (q0 := 4) rfl rfl, fun U hU hW => ⟨rfl, by rw [hU], by rw [hU]; exact hPc, va_K.moved hW.alike hKc, hDc.weaken (fun _ _ _ _ => trivial)⟩⟩ rfl rfl hl.1 rfl (lv_room (Nat.le_of_ble_eq_true rfl)) dX2_write_28 ⟨Nat.le_of_ble_eq_true rfl, Nat.le_of_ble_eq_true rfl⟩) hS (fun q _ h => hFc q h) hFc (fun r_5 u t H1 locs ht hvm hw hB hz1 hk1 hS => ?_)
  obtain ⟨hP1, hD1⟩ := hB
  rw [ht] at hP1
  obtain ⟨hP, hD⟩ := va_join (wr := [(hi, .inr (2, [.ref hi_off, .ref hi_apart])), (hi_apart, .inl (k_hi_apart, 2000, .inl f_hi_apart)), (co, .inr (0, [.ref pl, .int (nI (vi + 1)), .int co_passings, .ref co_last, .ref co_passed, .ref co_keptCount, .int co_watched, .int co_widest, .int co_deed, .int co_week, .ref co_off, .ref co_since, .ref co_kept, .ref co_sorted])), (pl, .inr (3, [.ref td, .ref pl_first, .ref pl_gain, .ref pl_custom, .ref pl_ruled, .int pl_deeds, .ref pl_deedHour, .ref pl_deedPerson, .ref pl_deedClock]))]) (w1 := [(td, .inr (8, [.int 0, .int 0, .int td_rounds, .int td_guns, .int td_lines, .ref td_name, .ref td_first, .ref td_gain, .ref td_rough, .ref td_custom, .ref td_part, .ref td_whole, .ref td_roundPerson, .ref td_roundClock, .ref td_roundHour, .ref td_gunClock, .ref td_gunHour, .ref td_rules]))]) hP hD [4] [0, 1, 2, 3] rfl rfl (by decide) (by decide) hk1 hFc hP1 hD1
  generalize H1 = H at hP hS ⊢
  have hP : va_P (dC, dI) vwCl [(hi, .inr (2, [.ref hi_off, .ref hi_apart])), (hi_apart, .inl (k_hi_apart, 2000, .inl f_hi_apart)), (co, .inr (0, [.ref pl, .int (nI (vi + 1)), .int co_passings, .ref co_last, .ref co_passed, .ref co_keptCount, .int co_watched, .int co_widest, .int co_deed, .int co_week, .ref co_off, .ref co_since, .ref co_kept, .ref co_sorted])), (pl, .inr (3, [.ref td, .ref pl_first, .ref pl_gain, .ref pl_custom, .ref pl_ruled, .int pl_deeds, .ref pl_deedHour, .ref pl_deedPerson, .ref pl_deedClock])), (td, .inr (8, [.int 0, .int 0, .int td_rounds, .int td_guns, .int td_lines, .ref td_name, .ref td_first, .ref td_gain, .ref td_rough, .ref td_custom, .ref td_part, .ref td_whole, .ref td_roundPerson, .ref td_roundClock, .ref td_roundHour, .ref td_gunClock, .ref td_gunHour, .ref td_rules]))] H := hP
  have hD : va_D A [(hi, .inr (2, [.ref hi_off, .ref hi_apart])), (hi_apart, .inl (k_hi_apart, 2000, .inl f_hi_apart)), (co, .inr (0, [.ref pl, .int (nI (vi + 1)), .int co_passings, .ref co_last, .ref co_passed, .ref co_keptCount, .int co_watched, .int co_widest, .int co_deed, .int co_week, .ref co_off, .ref co_since, .ref co_kept, .ref co_sorted])), (pl, .inr (3, [.ref td, .ref pl_first, .ref pl_gain, .ref pl_custom, .ref pl_ruled, .int pl_deeds, .ref pl_deedHour, .ref pl_deedPerson, .ref pl_deedClock])), (td, .inr (8, [.int 0, .int 0, .int td_rounds, .int td_guns, .int td_lines, .ref td_name, .ref td_first, .ref td_gain, .ref td_rough, .ref td_custom, .ref td_part, .ref td_whole, .ref td_roundPerson, .ref td_roundClock, .ref td_roundHour, .ref td_gunClock, .ref td_gunHour, .ref td_rules]))] := hD
  clear hPc hDc hKc hFc hP1 hD1 hk1 hz1 ht hvm
  have hw : r_5 = 0 := hw
  subst r_5
  refine lv_istore (lv' := [(4, .int 0), (3, .ref td), (2, .int (nI (vi))), (0, .ref hi), (1, .ref co)]) hx hb dX2_write_31 hl (by decide) rfl (fun ls hl => ?_)
  refine lv_ldc (v := 1000000000) hx hb hown (hT _ mw_4_129) dX2_write_33 ?_
  refine lv_istore (lv' := [(5, .int 1000000000), (4, .int 0), (3, .ref td), (2, .int (nI (vi))), (0, .ref hi), (1, .ref co)]) hx hb dX2_write_35 hl (by decide) rfl (fun ls hl => ?_)
  refine lv_iload hx hb dX2_write_37 (lv_at hl 1 rfl) ?_
  refine lv_if_ne (tgt := 47) hx hb dX2_write_39 (by decide) (fun c_6 => absurd c_6 (by decide)) (fun c_6 => ?_)
  refine lv_ldc (v := 1000000000) hx hb hown (hT _ mw_4_129) dX2_write_42 ?_
  refine lv_goto (tgt := 49) hx hb dX2_write_44 (by decide) ?_
  refine lv_istore (lv' := [(6, .int 1000000000), (5, .int 1000000000), (4, .int 0), (3, .ref td), (2, .int (nI (vi))), (0, .ref hi), (1, .ref co)]) hx hb dX2_write_49 hl (by decide) rfl (fun ls hl => ?_)
  refine lv_iconst (v := 0) hx hb dX2_write_51 (by decide) ?_
  refine lv_istore (lv' := [(7, .int 0), (6, .int 1000000000), (5, .int 1000000000), (4, .int 0), (3, .ref td), (2, .int (nI (vi))), (0, .ref hi), (1, .ref co)]) hx hb dX2_write_52 hl (by decide) rfl (fun ls hl => ?_)
  refine lv_iload hx hb dX2_write_54 (lv_at hl 0 rfl) ?_
  refine lv_iload hx hb dX2_write_56 (lv_at hl 3 rfl) ?_
  refine lv_icmp_ge (tgt := 115) hx hb dX2_write_58 (by decide) (fun c_7 => ?_) (fun c_7 => absurd c_7 (by decide))
  refine lv_aload_n hx hb dX2_write_115 rfl (lv_at hl 6 rfl) ?_
  refine va_get (D := (dC, dI)) (ci := 2) (v := .ref hi_apart) (C := RX2) (T := TX2) (N := 2) hx hb hT inX2 hown hK hP 0 rfl rfl 1 (by decide) (hT _ mw_2_165) (fun _ h9 => h9) rfl dX2_write_116 ?_
  refine lv_iload_n hx hb dX2_write_119 rfl (lv_at hl 5 rfl) ?_
  refine lv_iload hx hb dX2_write_120 (lv_at hl 1 rfl) ?_
  refine lv_iload hx hb dX2_write_122 (lv_at hl 2 rfl) ?_
  refine lv_isub hx hb dX2_write_124 ?_
  refine lv_topi (fun z_8 ez_8 => ?_)
  obtain rfl : z_8 = 0 := ez_8.trans (by decide)
  refine va_iast hx hb hK hP hD hS 1 0 rfl rfl (vp_in_nI (n := vi) (N := 2000) (by omega) (by omega)) dX2_write_125 (fun H locs hP hD hS => ?_)
  have hP : va_P (dC, dI) vwCl [(hi, .inr (2, [.ref hi_off, .ref hi_apart])), (hi_apart, .inl (k_hi_apart, 2000, .inl (upd f_hi_apart ((nI (vi)) : Int32).toNatClampNeg (0 : Int32)))), (co, .inr (0, [.ref pl, .int (nI (vi + 1)), .int co_passings, .ref co_last, .ref co_passed, .ref co_keptCount, .int co_watched, .int co_widest, .int co_deed, .int co_week, .ref co_off, .ref co_since, .ref co_kept, .ref co_sorted])), (pl, .inr (3, [.ref td, .ref pl_first, .ref pl_gain, .ref pl_custom, .ref pl_ruled, .int pl_deeds, .ref pl_deedHour, .ref pl_deedPerson, .ref pl_deedClock])), (td, .inr (8, [.int 0, .int 0, .int td_rounds, .int td_guns, .int td_lines, .ref td_name, .ref td_first, .ref td_gain, .ref td_rough, .ref td_custom, .ref td_part, .ref td_whole, .ref td_roundPerson, .ref td_roundClock, .ref td_roundHour, .ref td_gunClock, .ref td_gunHour, .ref td_rules]))] H := hP
  have hD : va_D A [(hi, .inr (2, [.ref hi_off, .ref hi_apart])), (hi_apart, .inl (k_hi_apart, 2000, .inl (upd f_hi_apart ((nI (vi)) : Int32).toNatClampNeg (0 : Int32)))), (co, .inr (0, [.ref pl, .int (nI (vi + 1)), .int co_passings, .ref co_last, .ref co_passed, .ref co_keptCount, .int co_watched, .int co_widest, .int co_deed, .int co_week, .ref co_off, .ref co_since, .ref co_kept, .ref co_sorted])), (pl, .inr (3, [.ref td, .ref pl_first, .ref pl_gain, .ref pl_custom, .ref pl_ruled, .int pl_deeds, .ref pl_deedHour, .ref pl_deedPerson, .ref pl_deedClock])), (td, .inr (8, [.int 0, .int 0, .int td_rounds, .int td_guns, .int td_lines, .ref td_name, .ref td_first, .ref td_gain, .ref td_rough, .ref td_custom, .ref td_part, .ref td_whole, .ref td_roundPerson, .ref td_roundClock, .ref td_roundHour, .ref td_gunClock, .ref td_gunHour, .ref td_rules]))] := hD
  obtain ⟨f_9, ef_9⟩ : ∃ g : Nat → Int32, (upd f_hi_apart ((nI (vi)) : Int32).toNatClampNeg (0 : Int32)) = g := ⟨_, rfl⟩
  rw [ef_9] at hP hD
  clear ef_9
  have hP9 := hP.sub (ws' := [(hi, .inr (2, [.ref hi_off, .ref hi_apart])), (hi_apart, .inl (k_hi_apart, 2000, .inl f_9)), (co, .inr (0, [.ref pl, .int (nI (vi + 1)), .int co_passings, .ref co_last, .ref co_passed, .ref co_keptCount, .int co_watched, .int co_widest, .int co_deed, .int co_week, .ref co_off, .ref co_since, .ref co_kept, .ref co_sorted])), (pl, .inr (3, [.ref td, .ref pl_first, .ref pl_gain, .ref pl_custom, .ref pl_ruled, .int pl_deeds, .ref pl_deedHour, .ref pl_deedPerson, .ref pl_deedClock])), (td, .inr (8, [.int 0, .int 0, .int td_rounds, .int td_guns, .int td_lines, .ref td_name, .ref td_first, .ref td_gain, .ref td_rough, .ref td_custom, .ref td_part, .ref td_whole, .ref td_roundPerson, .ref td_roundClock, .ref td_roundHour, .ref td_gunClock, .ref td_gunHour, .ref td_rules]))]) [0, 1, 2, 3, 4] rfl
  have hD9 := hD.sub (ws' := [(hi, .inr (2, [.ref hi_off, .ref hi_apart])), (hi_apart, .inl (k_hi_apart, 2000, .inl f_9)), (co, .inr (0, [.ref pl, .int (nI (vi + 1)), .int co_passings, .ref co_last, .ref co_passed, .ref co_keptCount, .int co_watched, .int co_widest, .int co_deed, .int co_week, .ref co_off, .ref co_since, .ref co_kept, .ref co_sorted])), (pl, .inr (3, [.ref td, .ref pl_first, .ref pl_gain, .ref pl_custom, .ref pl_ruled, .int pl_deeds, .ref pl_deedHour, .ref pl_deedPerson, .ref pl_deedClock])), (td, .inr (8, [.int 0, .int 0, .int td_rounds, .int td_guns, .int td_lines, .ref td_name, .ref td_first, .ref td_gain, .ref td_rough, .ref td_custom, .ref td_part, .ref td_whole, .ref td_roundPerson, .ref td_roundClock, .ref td_roundHour, .ref td_gunClock, .ref td_gunHour, .ref td_rules]))]) [0, 1, 2, 3, 4] (by decide) rfl
  refine W.widen (k := 0) (n := 0) (Nat.le_of_ble_eq_true rfl) (Nat.le_of_ble_eq_true rfl) ?_
  exact W.vret hx hb hr (fun t ht hW => ⟨⟨(), rfl, trivial, f_9, by rw [ht]; exact hP9, hD9⟩, hS.F ht⟩) hS.2.2 dX2_write_126
abbrev q_X5_clear (dC : Nat → ClassId) (dI : Nat → Nat → Nat) (A : Nat → Prop) (rd : Nat) (rd_count : Int32) (rd_knownFirst : Int32) (rd_slot : Nat) (rd_hour : Nat) (rd_low : Nat) (rd_high : Nat) (rd_byHour : Nat) : Array Value → State → Outcome → State → Prop := va_Qv (fun _ : Unit => True) (fun (_ : Unit) (t : State) => va_P (dC, dI) vwCl [(rd, .inr (5, [.int 0, .int (-1), .ref rd_slot, .ref rd_hour, .ref rd_low, .ref rd_high, .ref rd_byHour]))] t.heap ∧ va_D A [(rd, .inr (5, [.int 0, .int (-1), .ref rd_slot, .ref rd_hour, .ref rd_low, .ref rd_high, .ref rd_byHour]))]) A
set_option maxHeartbeats 4000000 in
set_option maxRecDepth 100000 in
theorem c_X5_clear (l : Launch) (dC : Nat → ClassId) (dI : Nat → Nat → Nat) (sz : Nat) (rd : Nat) (rd_count : Int32) (rd_knownFirst : Int32) (rd_slot : Nat) (rd_hour : Nat) (rd_low : Nat) (rd_high : Nat) (rd_byHour : Nat)  : Met l yX5_clear (pw_w yX5_clear cX5_clear 1 none) ({ frames := 0, cells := 0, slots := 0, locals := 0 }) (va_Pc [.ref rd] (fun U => U.heap.size = sz ∧ va_P (dC, dI) vwCl [(rd, .inr (5, [.int rd_count, .int rd_knownFirst, .ref rd_slot, .ref rd_hour, .ref rd_low, .ref rd_high, .ref rd_byHour]))] U.heap ∧ va_K (dC, dI) vwCl [] U ∧ va_D (fun _ => True) [(rd, .inr (5, [.int rd_count, .int rd_knownFirst, .ref rd_slot, .ref rd_hour, .ref rd_low, .ref rd_high, .ref rd_byHour]))])) (q_X5_clear dC dI (va_A [(rd, .inr (5, [.int rd_count, .int rd_knownFirst, .ref rd_slot, .ref rd_hour, .ref rd_low, .ref rd_high, .ref rd_byHour]))] sz) rd rd_count rd_knownFirst rd_slot rd_hour rd_low rd_high rd_byHour) 0 0 (va_A [(rd, .inr (5, [.int rd_count, .int rd_knownFirst, .ref rd_slot, .ref rd_hour, .ref rd_low, .ref rd_high, .ref rd_byHour]))] sz) := by
  refine Met.ofW (cc := cX5_clear) (maxL := 1) (ret := none) (by decide) rfl ?_
  intro p e s m args below meth c s₁ B hml hv
  obtain ⟨rfl, hsz, hP, hK, hD0⟩ := hv
  have hx := B.exec
  have hb := B.bytes
  have hr := B.returns
  have hts := atoms_spec (ws := (pw_w yX5_clear cX5_clear 1 none)) B.pre
  have hT : ∀ w ∈ pw_T, w.before _ s = true := fun w h => hts w (List.mem_cons_of_mem _ h)
  have hown : s.vm.findClass RX5 = some m.cls := findClass_of_methodNamed B.named
  have hlocks := B.notSynchronized
  subst hsz
  have hD := hD0.self (sz := s.heap.size)
  generalize hAe : va_A [(rd, .inr (5, [.int rd_count, .int rd_knownFirst, .ref rd_slot, .ref rd_hour, .ref rd_low, .ref rd_high, .ref rd_byHour]))] s.heap.size = A at hD ⊢
  have hA : ∀ q : Nat, s.heap.size ≤ q → A q := fun q h => by rw [← hAe]; exact Or.inr h
  have hS : va_S A s.heap s.heap [] := va_S.rf
  have hP : va_P (dC, dI) vwCl [(rd, .inr (5, [.int rd_count, .int rd_knownFirst, .ref rd_slot, .ref rd_hour, .ref rd_low, .ref rd_high, .ref rd_byHour]))] s.heap := hP
  have hl := lv_entry ([.ref rd]) (n := 1) (Nat.le_of_ble_eq_true rfl)
  rw [lg_entry_eq]
  generalize (lg_sl ([.ref rd]) ++ List.replicate (1 - (lg_sl ([.ref rd])).length) Slot.unset).toArray = ls at hl ⊢
  have hl : lv_has ls 1 [(0, .ref rd)] := hl
  refine lv_aload_n hx hb dX5_clear_0 rfl (lv_at hl 0 rfl) ?_
  refine lv_iconst (v := 0) hx hb dX5_clear_1 (by decide) ?_
  refine va_put (D := (dC, dI)) (ci := 5) (v := .int 0) (ty := .int) (C := RX5) (T := TX5) (N := 7) hx hb hT inX5 tyX5 tyX5_ok nmX5 hown hK hP hD hS 0 rfl rfl 0 (by decide) (hT _ mw_2_178) (fun _ h9 => h9) rfl (by decide +kernel) rfl rfl (Nat.le_of_ble_eq_true rfl) dX5_clear_2 (fun H locs hP hD hS => ?_)
  have hP : va_P (dC, dI) vwCl [(rd, .inr (5, [.int 0, .int rd_knownFirst, .ref rd_slot, .ref rd_hour, .ref rd_low, .ref rd_high, .ref rd_byHour]))] H := hP
  have hD : va_D A [(rd, .inr (5, [.int 0, .int rd_knownFirst, .ref rd_slot, .ref rd_hour, .ref rd_low, .ref rd_high, .ref rd_byHour]))] := hD
  refine lv_aload_n hx hb dX5_clear_5 rfl (lv_at hl 0 rfl) ?_
  refine lv_iconst (v := (-1)) hx hb dX5_clear_6 (by decide) ?_
  refine va_put (D := (dC, dI)) (ci := 5) (v := .int (-1)) (ty := .int) (C := RX5) (T := TX5) (N := 7) hx hb hT inX5 tyX5 tyX5_ok nmX5 hown hK hP hD hS 0 rfl rfl 1 (by decide) (hT _ mw_2_180) (fun _ h9 => h9) rfl (by decide +kernel) rfl rfl (Nat.le_of_ble_eq_true rfl) dX5_clear_7 (fun H locs hP hD hS => ?_)
  have hP : va_P (dC, dI) vwCl [(rd, .inr (5, [.int 0, .int (-1), .ref rd_slot, .ref rd_hour, .ref rd_low, .ref rd_high, .ref rd_byHour]))] H := hP
  have hD : va_D A [(rd, .inr (5, [.int 0, .int (-1), .ref rd_slot, .ref rd_hour, .ref rd_low, .ref rd_high, .ref rd_byHour]))] := hD
  have hP9 := hP.sub (ws' := [(rd, .inr (5, [.int 0, .int (-1), .ref rd_slot, .ref rd_hour, .ref rd_low, .ref rd_high, .ref rd_byHour]))]) [0] rfl
  have hD9 := hD.sub (ws' := [(rd, .inr (5, [.int 0, .int (-1), .ref rd_slot, .ref rd_hour, .ref rd_low, .ref rd_high, .ref rd_byHour]))]) [0] (by decide) rfl
  refine W.widen (k := 0) (n := 0) (Nat.le_of_ble_eq_true rfl) (Nat.le_of_ble_eq_true rfl) ?_
  exact W.vret hx hb hr (fun t ht hW => ⟨⟨(), rfl, trivial, by rw [ht]; exact hP9, hD9⟩, hS.F ht⟩) hS.2.2 dX5_clear_10
abbrev q_X5_knownCount (dC : Nat → ClassId) (dI : Nat → Nat → Nat) (A : Nat → Prop) (rd : Nat) (rd_slot : Nat) (rd_hour : Nat) (rd_low : Nat) (rd_high : Nat) (rd_byHour : Nat) : Array Value → State → Outcome → State → Prop := va_Qi (fun (r : Int32) (_ : Unit) => r = 0) (fun (_ : Unit) (t : State) => va_P (dC, dI) vwCl [(rd, .inr (5, [.int 0, .int (-1), .ref rd_slot, .ref rd_hour, .ref rd_low, .ref rd_high, .ref rd_byHour]))] t.heap ∧ va_D A [(rd, .inr (5, [.int 0, .int (-1), .ref rd_slot, .ref rd_hour, .ref rd_low, .ref rd_high, .ref rd_byHour]))]) A
set_option maxHeartbeats 4000000 in
set_option maxRecDepth 100000 in
theorem c_X5_knownCount (l : Launch) (dC : Nat → ClassId) (dI : Nat → Nat → Nat) (sz : Nat) (rd : Nat) (rd_slot : Nat) (rd_hour : Nat) (rd_low : Nat) (rd_high : Nat) (rd_byHour : Nat)  : Met l yX5_knownCount (pw_w yX5_knownCount cX5_knownCount 1 (some .int)) ({ frames := 0, cells := 0, slots := 0, locals := 0 }) (va_Pc [.ref rd] (fun U => U.heap.size = sz ∧ va_P (dC, dI) vwCl [(rd, .inr (5, [.int 0, .int (-1), .ref rd_slot, .ref rd_hour, .ref rd_low, .ref rd_high, .ref rd_byHour]))] U.heap ∧ va_K (dC, dI) vwCl [] U ∧ va_D (fun _ => True) [(rd, .inr (5, [.int 0, .int (-1), .ref rd_slot, .ref rd_hour, .ref rd_low, .ref rd_high, .ref rd_byHour]))])) (q_X5_knownCount dC dI (va_A [(rd, .inr (5, [.int 0, .int (-1), .ref rd_slot, .ref rd_hour, .ref rd_low, .ref rd_high, .ref rd_byHour]))] sz) rd rd_slot rd_hour rd_low rd_high rd_byHour) 0 0 (va_A [(rd, .inr (5, [.int 0, .int (-1), .ref rd_slot, .ref rd_hour, .ref rd_low, .ref rd_high, .ref rd_byHour]))] sz) := by
  refine Met.ofW (cc := cX5_knownCount) (maxL := 1) (ret := (some .int)) (by decide) rfl ?_
  intro p e s m args below meth c s₁ B hml hv
  obtain ⟨rfl, hsz, hP, hK, hD0⟩ := hv
  have hx := B.exec
  have hb := B.bytes
  have hr := B.returns
  have hts := atoms_spec (ws := (pw_w yX5_knownCount cX5_knownCount 1 (some .int))) B.pre
  have hT : ∀ w ∈ pw_T, w.before _ s = true := fun w h => hts w (List.mem_cons_of_mem _ h)
  have hown : s.vm.findClass RX5 = some m.cls := findClass_of_methodNamed B.named
  have hlocks := B.notSynchronized
  subst hsz
  have hD := hD0.self (sz := s.heap.size)
  generalize hAe : va_A [(rd, .inr (5, [.int 0, .int (-1), .ref rd_slot, .ref rd_hour, .ref rd_low, .ref rd_high, .ref rd_byHour]))] s.heap.size = A at hD ⊢
  have hA : ∀ q : Nat, s.heap.size ≤ q → A q := fun q h => by rw [← hAe]; exact Or.inr h
  have hS : va_S A s.heap s.heap [] := va_S.rf
  have hP : va_P (dC, dI) vwCl [(rd, .inr (5, [.int 0, .int (-1), .ref rd_slot, .ref rd_hour, .ref rd_low, .ref rd_high, .ref rd_byHour]))] s.heap := hP
  have hl := lv_entry ([.ref rd]) (n := 1) (Nat.le_of_ble_eq_true rfl)
  rw [lg_entry_eq]
  generalize (lg_sl ([.ref rd]) ++ List.replicate (1 - (lg_sl ([.ref rd])).length) Slot.unset).toArray = ls at hl ⊢
  have hl : lv_has ls 1 [(0, .ref rd)] := hl
  refine lv_aload_n hx hb dX5_knownCount_0 rfl (lv_at hl 0 rfl) ?_
  refine va_get (D := (dC, dI)) (ci := 5) (v := .int (-1)) (C := RX5) (T := TX5) (N := 7) hx hb hT inX5 hown hK hP 0 rfl rfl 1 (by decide) (hT _ mw_2_180) (fun _ h9 => h9) rfl dX5_knownCount_1 ?_
  refine lv_iconst (v := (-1)) hx hb dX5_knownCount_4 (by decide) ?_
  refine lv_icmp_ne (tgt := 15) hx hb dX5_knownCount_5 (by decide) (fun c_1 => absurd c_1 (by decide)) (fun c_1 => ?_)
  refine lv_aload_n hx hb dX5_knownCount_8 rfl (lv_at hl 0 rfl) ?_
  refine va_get (D := (dC, dI)) (ci := 5) (v := .int 0) (C := RX5) (T := TX5) (N := 7) hx hb hT inX5 hown hK hP 0 rfl rfl 0 (by decide) (hT _ mw_2_178) (fun _ h9 => h9) rfl dX5_knownCount_9 ?_
  refine lv_goto (tgt := 19) hx hb dX5_knownCount_12 (by decide) ?_
  have hP9 := hP.sub (ws' := [(rd, .inr (5, [.int 0, .int (-1), .ref rd_slot, .ref rd_hour, .ref rd_low, .ref rd_high, .ref rd_byHour]))]) [0] rfl
  have hD9 := hD.sub (ws' := [(rd, .inr (5, [.int 0, .int (-1), .ref rd_slot, .ref rd_hour, .ref rd_low, .ref rd_high, .ref rd_byHour]))]) [0] (by decide) rfl
  refine W.widen (k := 0) (n := 0) (Nat.le_of_ble_eq_true rfl) (Nat.le_of_ble_eq_true rfl) ?_
  exact W.iret (v := 0) hx hb hr (fun t ht hW => ⟨⟨0, (), rfl, (by first | rfl | omega | (simp_all; done) | decide), by rw [ht]; exact hP9, hD9⟩, hS.F ht⟩) hS.2.2 dX5_knownCount_19
abbrev q_X5_firstWrong (dC : Nat → ClassId) (dI : Nat → Nat → Nat) (A : Nat → Prop) (rd : Nat) (co : Nat) (rd_slot : Nat) (rd_hour : Nat) (rd_low : Nat) (rd_high : Nat) (rd_byHour : Nat) : Array Value → State → Outcome → State → Prop := va_Qi (fun (r : Int32) (_ : Unit) => r = -1) (fun (_ : Unit) (t : State) => va_P (dC, dI) vwCl [(rd, .inr (5, [.int 0, .int (-1), .ref rd_slot, .ref rd_hour, .ref rd_low, .ref rd_high, .ref rd_byHour]))] t.heap ∧ va_D A [(rd, .inr (5, [.int 0, .int (-1), .ref rd_slot, .ref rd_hour, .ref rd_low, .ref rd_high, .ref rd_byHour]))]) A
set_option maxHeartbeats 4000000 in
set_option maxRecDepth 100000 in
theorem c_X5_firstWrong (l : Launch) (dC : Nat → ClassId) (dI : Nat → Nat → Nat) (sz : Nat) (rd : Nat) (co : Nat) (rd_slot : Nat) (rd_hour : Nat) (rd_low : Nat) (rd_high : Nat) (rd_byHour : Nat)  : Met l yX5_firstWrong (pw_w yX5_firstWrong cX5_firstWrong 5 (some .int)) ({ frames := 1, cells := 0, slots := 0, locals := 20 }) (va_Pc [.ref rd, .ref co] (fun U => U.heap.size = sz ∧ va_P (dC, dI) vwCl [(rd, .inr (5, [.int 0, .int (-1), .ref rd_slot, .ref rd_hour, .ref rd_low, .ref rd_high, .ref rd_byHour]))] U.heap ∧ va_K (dC, dI) vwCl [] U ∧ va_D (fun _ => True) [(rd, .inr (5, [.int 0, .int (-1), .ref rd_slot, .ref rd_hour, .ref rd_low, .ref rd_high, .ref rd_byHour]))])) (q_X5_firstWrong dC dI (va_A [(rd, .inr (5, [.int 0, .int (-1), .ref rd_slot, .ref rd_hour, .ref rd_low, .ref rd_high, .ref rd_byHour]))] sz) rd co rd_slot rd_hour rd_low rd_high rd_byHour) 0 0 (va_A [(rd, .inr (5, [.int 0, .int (-1), .ref rd_slot, .ref rd_hour, .ref rd_low, .ref rd_high, .ref rd_byHour]))] sz) := by
  refine Met.ofW (cc := cX5_firstWrong) (maxL := 5) (ret := (some .int)) (by decide) rfl ?_
  intro p e s m args below meth c s₁ B hml hv
  obtain ⟨rfl, hsz, hP, hK, hD0⟩ := hv
  have hx := B.exec
  have hb := B.bytes
  have hr := B.returns
  have hts := atoms_spec (ws := (pw_w yX5_firstWrong cX5_firstWrong 5 (some .int))) B.pre
  have hT : ∀ w ∈ pw_T, w.before _ s = true := fun w h => hts w (List.mem_cons_of_mem _ h)
  have hown : s.vm.findClass RX5 = some m.cls := findClass_of_methodNamed B.named
  have hlocks := B.notSynchronized
  subst hsz
  have hD := hD0.self (sz := s.heap.size)
  generalize hAe : va_A [(rd, .inr (5, [.int 0, .int (-1), .ref rd_slot, .ref rd_hour, .ref rd_low, .ref rd_high, .ref rd_byHour]))] s.heap.size = A at hD ⊢
  have hA : ∀ q : Nat, s.heap.size ≤ q → A q := fun q h => by rw [← hAe]; exact Or.inr h
  have hS : va_S A s.heap s.heap [] := va_S.rf
  have hP : va_P (dC, dI) vwCl [(rd, .inr (5, [.int 0, .int (-1), .ref rd_slot, .ref rd_hour, .ref rd_low, .ref rd_high, .ref rd_byHour]))] s.heap := hP
  have hl := lv_entry ([.ref rd, .ref co]) (n := 5) (Nat.le_of_ble_eq_true rfl)
  rw [lg_entry_eq]
  generalize (lg_sl ([.ref rd, .ref co]) ++ List.replicate (5 - (lg_sl ([.ref rd, .ref co])).length) Slot.unset).toArray = ls at hl ⊢
  have hl : lv_has ls 5 [(0, .ref rd), (1, .ref co)] := hl
  refine lv_aload_n hx hb dX5_firstWrong_0 rfl (lv_at hl 0 rfl) ?_
  have hPc := hP.sub (ws' := [(rd, .inr (5, [.int 0, .int (-1), .ref rd_slot, .ref rd_hour, .ref rd_low, .ref rd_high, .ref rd_byHour]))]) [0] rfl
  have hDc := hD.sub (ws' := [(rd, .inr (5, [.int 0, .int (-1), .ref rd_slot, .ref rd_hour, .ref rd_low, .ref rd_high, .ref rd_byHour]))]) [0] (by decide) rfl
  have hKc := hK.sub (tys' := []) [] rfl
  have hFc := va_free (wc := [(rd, .inr (5, [.int 0, .int (-1), .ref rd_slot, .ref rd_hour, .ref rd_low, .ref rd_high, .ref rd_byHour]))]) hD hS hA [0] rfl
  refine va_calli (va_runV (As := []) (rest := []) ⟨hx, hb, hml, hown, hT⟩ (c_X5_knownCount l dC dI s.heap.size rd rd_slot rd_hour rd_low rd_high rd_byHour ) (cwV 0 hT (gwV mw_5_26 mw_5_27 mw_5_28 mw_1_13 mw_5_29) rfl rfl rfl (by decide +kernel) ⟨Nat.le_of_ble_eq_true rfl, Nat.le_of_ble_eq_true rfl⟩) ⟨fun a U g mk q => by obtain ⟨q0, q1, qP, qK, qD⟩ := q; exact ⟨q0, q1, qP, va_K.moved (u := U) (U := U.calling g mk a) (Vm.Alike.refl U.vm) qK, qD⟩, va_recv hK hP (ci := 5) (q0 := 0) rfl rfl, fun U hU hW => ⟨rfl, by rw [hU], by rw [hU]; exact hPc, va_K.moved hW.alike hKc, hDc.weaken (fun _ _ _ _ => trivial)⟩⟩ rfl rfl hl.1 rfl (lv_room (Nat.le_of_ble_eq_true rfl)) dX5_firstWrong_1 ⟨Nat.le_of_ble_eq_true rfl, Nat.le_of_ble_eq_true rfl⟩) hS (fun q _ h => hFc q h) hFc (fun r_2 u t H1 locs ht hvm hw hB hz1 hk1 hS => ?_)
  obtain ⟨hP1, hD1⟩ := hB
  rw [ht] at hP1
  obtain ⟨hP, hD⟩ := va_join (wr := []) (w1 := [(rd, .inr (5, [.int 0, .int (-1), .ref rd_slot, .ref rd_hour, .ref rd_low, .ref rd_high, .ref rd_byHour]))]) hP hD [0] [] rfl rfl (by decide) (by decide) hk1 hFc hP1 hD1
  generalize H1 = H at hP hS ⊢
  have hP : va_P (dC, dI) vwCl [(rd, .inr (5, [.int 0, .int (-1), .ref rd_slot, .ref rd_hour, .ref rd_low, .ref rd_high, .ref rd_byHour]))] H := hP
  have hD : va_D A [(rd, .inr (5, [.int 0, .int (-1), .ref rd_slot, .ref rd_hour, .ref rd_low, .ref rd_high, .ref rd_byHour]))] := hD
  clear hPc hDc hKc hFc hP1 hD1 hk1 hz1 ht hvm
  have hw : r_2 = 0 := hw
  subst r_2
  refine lv_istore_n (lv' := [(2, .int 0), (0, .ref rd), (1, .ref co)]) hx hb dX5_firstWrong_4 rfl hl (by decide) rfl (fun ls hl => ?_)
  refine lv_iconst (v := 0) hx hb dX5_firstWrong_5 (by decide) ?_
  refine lv_istore_n (lv' := [(3, .int 0), (2, .int 0), (0, .ref rd), (1, .ref co)]) hx hb dX5_firstWrong_6 rfl hl (by decide) rfl (fun ls hl => ?_)
  refine lv_iload_n hx hb dX5_firstWrong_7 rfl (lv_at hl 0 rfl) ?_
  refine lv_aload_n hx hb dX5_firstWrong_8 rfl (lv_at hl 2 rfl) ?_
  refine va_get (D := (dC, dI)) (ci := 5) (v := .int 0) (C := RX5) (T := TX5) (N := 7) hx hb hT inX5 hown hK hP 0 rfl rfl 0 (by decide) (hT _ mw_2_178) (fun _ h9 => h9) rfl dX5_firstWrong_9 ?_
  refine lv_icmp_ge (tgt := 61) hx hb dX5_firstWrong_12 (by decide) (fun c_3 => ?_) (fun c_3 => absurd c_3 (by decide))
  refine lv_iload_n hx hb dX5_firstWrong_61 rfl (lv_at hl 1 rfl) ?_
  refine lv_aload_n hx hb dX5_firstWrong_62 rfl (lv_at hl 2 rfl) ?_
  have hPc := hP.sub (ws' := [(rd, .inr (5, [.int 0, .int (-1), .ref rd_slot, .ref rd_hour, .ref rd_low, .ref rd_high, .ref rd_byHour]))]) [0] rfl
  have hDc := hD.sub (ws' := [(rd, .inr (5, [.int 0, .int (-1), .ref rd_slot, .ref rd_hour, .ref rd_low, .ref rd_high, .ref rd_byHour]))]) [0] (by decide) rfl
  have hKc := hK.sub (tys' := []) [] rfl
  have hFc := va_free (wc := [(rd, .inr (5, [.int 0, .int (-1), .ref rd_slot, .ref rd_hour, .ref rd_low, .ref rd_high, .ref rd_byHour]))]) hD hS hA [0] rfl
  refine va_calli (va_runV (As := []) (rest := [.int 0]) ⟨hx, hb, hml, hown, hT⟩ (c_X5_knownCount l dC dI H.size rd rd_slot rd_hour rd_low rd_high rd_byHour ) (cwV 0 hT (gwV mw_5_26 mw_5_27 mw_5_28 mw_1_13 mw_5_29) rfl rfl rfl (by decide +kernel) ⟨Nat.le_of_ble_eq_true rfl, Nat.le_of_ble_eq_true rfl⟩) ⟨fun a U g mk q => by obtain ⟨q0, q1, qP, qK, qD⟩ := q; exact ⟨q0, q1, qP, va_K.moved (u := U) (U := U.calling g mk a) (Vm.Alike.refl U.vm) qK, qD⟩, va_recv hK hP (ci := 5) (q0 := 0) rfl rfl, fun U hU hW => ⟨rfl, by rw [hU], by rw [hU]; exact hPc, va_K.moved hW.alike hKc, hDc.weaken (fun _ _ _ _ => trivial)⟩⟩ rfl rfl hl.1 rfl (lv_room (Nat.le_of_ble_eq_true rfl)) dX5_firstWrong_63 ⟨Nat.le_of_ble_eq_true rfl, Nat.le_of_ble_eq_true rfl⟩) hS (fun q _ h => hFc q h) hFc (fun r_5 u t H1 locs ht hvm hw hB hz1 hk1 hS => ?_)
  obtain ⟨hP1, hD1⟩ := hB
  rw [ht] at hP1
  obtain ⟨hP, hD⟩ := va_join (wr := []) (w1 := [(rd, .inr (5, [.int 0, .int (-1), .ref rd_slot, .ref rd_hour, .ref rd_low, .ref rd_high, .ref rd_byHour]))]) hP hD [0] [] rfl rfl (by decide) (by decide) hk1 hFc hP1 hD1
  generalize H1 = H at hP hS ⊢
  have hP : va_P (dC, dI) vwCl [(rd, .inr (5, [.int 0, .int (-1), .ref rd_slot, .ref rd_hour, .ref rd_low, .ref rd_high, .ref rd_byHour]))] H := hP
  have hD : va_D A [(rd, .inr (5, [.int 0, .int (-1), .ref rd_slot, .ref rd_hour, .ref rd_low, .ref rd_high, .ref rd_byHour]))] := hD
  clear hPc hDc hKc hFc hP1 hD1 hk1 hz1 ht hvm
  have hw : r_5 = 0 := hw
  subst r_5
  refine lv_icmp_ne (tgt := 73) hx hb dX5_firstWrong_66 (by decide) (fun c_6 => absurd c_6 (by decide)) (fun c_6 => ?_)
  refine lv_iconst (v := (-1)) hx hb dX5_firstWrong_69 (by decide) ?_
  refine lv_goto (tgt := 74) hx hb dX5_firstWrong_70 (by decide) ?_
  have hP9 := hP.sub (ws' := [(rd, .inr (5, [.int 0, .int (-1), .ref rd_slot, .ref rd_hour, .ref rd_low, .ref rd_high, .ref rd_byHour]))]) [0] rfl
  have hD9 := hD.sub (ws' := [(rd, .inr (5, [.int 0, .int (-1), .ref rd_slot, .ref rd_hour, .ref rd_low, .ref rd_high, .ref rd_byHour]))]) [0] (by decide) rfl
  refine W.widen (k := 0) (n := 0) (Nat.le_of_ble_eq_true rfl) (Nat.le_of_ble_eq_true rfl) ?_
  exact W.iret (v := (-1)) hx hb hr (fun t ht hW => ⟨⟨(-1), (), rfl, (by first | rfl | omega | (simp_all; done) | decide), by rw [ht]; exact hP9, hD9⟩, hS.F ht⟩) hS.2.2 dX5_firstWrong_74
abbrev q_X9_forget (dC : Nat → ClassId) (dI : Nat → Nat → Nat) (A : Nat → Prop) (wy : Nat) (wy_slot : Int32) (wy_count : Int32) (wy_seconds : Nat) : Array Value → State → Outcome → State → Prop := va_Qv (fun _ : Unit => True) (fun (_ : Unit) (t : State) => va_P (dC, dI) vwCl [(wy, .inr (9, [.int (-1), .int wy_count, .ref wy_seconds]))] t.heap ∧ va_D A [(wy, .inr (9, [.int (-1), .int wy_count, .ref wy_seconds]))]) A
set_option maxHeartbeats 4000000 in
set_option maxRecDepth 100000 in
theorem c_X9_forget (l : Launch) (dC : Nat → ClassId) (dI : Nat → Nat → Nat) (sz : Nat) (wy : Nat) (wy_slot : Int32) (wy_count : Int32) (wy_seconds : Nat)  : Met l yX9_forget (pw_w yX9_forget cX9_forget 1 none) ({ frames := 0, cells := 0, slots := 0, locals := 0 }) (va_Pc [.ref wy] (fun U => U.heap.size = sz ∧ va_P (dC, dI) vwCl [(wy, .inr (9, [.int wy_slot, .int wy_count, .ref wy_seconds]))] U.heap ∧ va_K (dC, dI) vwCl [] U ∧ va_D (fun _ => True) [(wy, .inr (9, [.int wy_slot, .int wy_count, .ref wy_seconds]))])) (q_X9_forget dC dI (va_A [(wy, .inr (9, [.int wy_slot, .int wy_count, .ref wy_seconds]))] sz) wy wy_slot wy_count wy_seconds) 0 0 (va_A [(wy, .inr (9, [.int wy_slot, .int wy_count, .ref wy_seconds]))] sz) := by
  refine Met.ofW (cc := cX9_forget) (maxL := 1) (ret := none) (by decide) rfl ?_
  intro p e s m args below meth c s₁ B hml hv
  obtain ⟨rfl, hsz, hP, hK, hD0⟩ := hv
  have hx := B.exec
  have hb := B.bytes
  have hr := B.returns
  have hts := atoms_spec (ws := (pw_w yX9_forget cX9_forget 1 none)) B.pre
  have hT : ∀ w ∈ pw_T, w.before _ s = true := fun w h => hts w (List.mem_cons_of_mem _ h)
  have hown : s.vm.findClass RX9 = some m.cls := findClass_of_methodNamed B.named
  have hlocks := B.notSynchronized
  subst hsz
  have hD := hD0.self (sz := s.heap.size)
  generalize hAe : va_A [(wy, .inr (9, [.int wy_slot, .int wy_count, .ref wy_seconds]))] s.heap.size = A at hD ⊢
  have hA : ∀ q : Nat, s.heap.size ≤ q → A q := fun q h => by rw [← hAe]; exact Or.inr h
  have hS : va_S A s.heap s.heap [] := va_S.rf
  have hP : va_P (dC, dI) vwCl [(wy, .inr (9, [.int wy_slot, .int wy_count, .ref wy_seconds]))] s.heap := hP
  have hl := lv_entry ([.ref wy]) (n := 1) (Nat.le_of_ble_eq_true rfl)
  rw [lg_entry_eq]
  generalize (lg_sl ([.ref wy]) ++ List.replicate (1 - (lg_sl ([.ref wy])).length) Slot.unset).toArray = ls at hl ⊢
  have hl : lv_has ls 1 [(0, .ref wy)] := hl
  refine lv_aload_n hx hb dX9_forget_0 rfl (lv_at hl 0 rfl) ?_
  refine lv_iconst (v := (-1)) hx hb dX9_forget_1 (by decide) ?_
  refine va_put (D := (dC, dI)) (ci := 9) (v := .int (-1)) (ty := .int) (C := RX9) (T := TX9) (N := 3) hx hb hT inX9 tyX9 tyX9_ok nmX9 hown hK hP hD hS 0 rfl rfl 0 (by decide) (hT _ mw_2_208) (fun _ h9 => h9) rfl (by decide +kernel) rfl rfl (Nat.le_of_ble_eq_true rfl) dX9_forget_2 (fun H locs hP hD hS => ?_)
  have hP : va_P (dC, dI) vwCl [(wy, .inr (9, [.int (-1), .int wy_count, .ref wy_seconds]))] H := hP
  have hD : va_D A [(wy, .inr (9, [.int (-1), .int wy_count, .ref wy_seconds]))] := hD
  have hP9 := hP.sub (ws' := [(wy, .inr (9, [.int (-1), .int wy_count, .ref wy_seconds]))]) [0] rfl
  have hD9 := hD.sub (ws' := [(wy, .inr (9, [.int (-1), .int wy_count, .ref wy_seconds]))]) [0] (by decide) rfl
  refine W.widen (k := 0) (n := 0) (Nat.le_of_ble_eq_true rfl) (Nat.le_of_ble_eq_true rfl) ?_
  exact W.vret hx hb hr (fun t ht hW => ⟨⟨(), rfl, trivial, by rw [ht]; exact hP9, hD9⟩, hS.F ht⟩) hS.2.2 dX9_forget_5
abbrev q_X1_forget (dC : Nat → ClassId) (dI : Nat → Nat → Nat) (A : Nat → Prop) (xt : Nat) (xt_least : Nat) (xt_leastAt : Nat) (xt_most : Nat) (xt_mostAt : Nat) (xt_person : Int32) (xt_clock : Int32) (xt_hour : Int32) : Array Value → State → Outcome → State → Prop := va_Qv (fun _ : Unit => True) (fun (_ : Unit) (t : State) => va_P (dC, dI) vwCl [(xt, .inr (1, [.ref xt_least, .ref xt_leastAt, .ref xt_most, .ref xt_mostAt, .int xt_person, .int xt_clock, .int (-1)]))] t.heap ∧ va_D A [(xt, .inr (1, [.ref xt_least, .ref xt_leastAt, .ref xt_most, .ref xt_mostAt, .int xt_person, .int xt_clock, .int (-1)]))]) A
set_option maxHeartbeats 4000000 in
set_option maxRecDepth 100000 in
theorem c_X1_forget (l : Launch) (dC : Nat → ClassId) (dI : Nat → Nat → Nat) (sz : Nat) (xt : Nat) (xt_least : Nat) (xt_leastAt : Nat) (xt_most : Nat) (xt_mostAt : Nat) (xt_person : Int32) (xt_clock : Int32) (xt_hour : Int32)  : Met l yX1_forget (pw_w yX1_forget cX1_forget 1 none) ({ frames := 0, cells := 0, slots := 0, locals := 0 }) (va_Pc [.ref xt] (fun U => U.heap.size = sz ∧ va_P (dC, dI) vwCl [(xt, .inr (1, [.ref xt_least, .ref xt_leastAt, .ref xt_most, .ref xt_mostAt, .int xt_person, .int xt_clock, .int xt_hour]))] U.heap ∧ va_K (dC, dI) vwCl [] U ∧ va_D (fun _ => True) [(xt, .inr (1, [.ref xt_least, .ref xt_leastAt, .ref xt_most, .ref xt_mostAt, .int xt_person, .int xt_clock, .int xt_hour]))])) (q_X1_forget dC dI (va_A [(xt, .inr (1, [.ref xt_least, .ref xt_leastAt, .ref xt_most, .ref xt_mostAt, .int xt_person, .int xt_clock, .int xt_hour]))] sz) xt xt_least xt_leastAt xt_most xt_mostAt xt_person xt_clock xt_hour) 0 0 (va_A [(xt, .inr (1, [.ref xt_least, .ref xt_leastAt, .ref xt_most, .ref xt_mostAt, .int xt_person, .int xt_clock, .int xt_hour]))] sz) := by
  refine Met.ofW (cc := cX1_forget) (maxL := 1) (ret := none) (by decide) rfl ?_
  intro p e s m args below meth c s₁ B hml hv
  obtain ⟨rfl, hsz, hP, hK, hD0⟩ := hv
  have hx := B.exec
  have hb := B.bytes
  have hr := B.returns
  have hts := atoms_spec (ws := (pw_w yX1_forget cX1_forget 1 none)) B.pre
  have hT : ∀ w ∈ pw_T, w.before _ s = true := fun w h => hts w (List.mem_cons_of_mem _ h)
  have hown : s.vm.findClass RX1 = some m.cls := findClass_of_methodNamed B.named
  have hlocks := B.notSynchronized
  subst hsz
  have hD := hD0.self (sz := s.heap.size)
  generalize hAe : va_A [(xt, .inr (1, [.ref xt_least, .ref xt_leastAt, .ref xt_most, .ref xt_mostAt, .int xt_person, .int xt_clock, .int xt_hour]))] s.heap.size = A at hD ⊢
  have hA : ∀ q : Nat, s.heap.size ≤ q → A q := fun q h => by rw [← hAe]; exact Or.inr h
  have hS : va_S A s.heap s.heap [] := va_S.rf
  have hP : va_P (dC, dI) vwCl [(xt, .inr (1, [.ref xt_least, .ref xt_leastAt, .ref xt_most, .ref xt_mostAt, .int xt_person, .int xt_clock, .int xt_hour]))] s.heap := hP
  have hl := lv_entry ([.ref xt]) (n := 1) (Nat.le_of_ble_eq_true rfl)
  rw [lg_entry_eq]
  generalize (lg_sl ([.ref xt]) ++ List.replicate (1 - (lg_sl ([.ref xt])).length) Slot.unset).toArray = ls at hl ⊢
  have hl : lv_has ls 1 [(0, .ref xt)] := hl
  refine lv_aload_n hx hb dX1_forget_0 rfl (lv_at hl 0 rfl) ?_
  refine lv_iconst (v := (-1)) hx hb dX1_forget_1 (by decide) ?_
  refine va_put (D := (dC, dI)) (ci := 1) (v := .int (-1)) (ty := .int) (C := RX1) (T := TX1) (N := 7) hx hb hT inX1 tyX1 tyX1_ok nmX1 hown hK hP hD hS 0 rfl rfl 6 (by decide) (hT _ mw_2_237) (fun _ h9 => h9) rfl (by decide +kernel) rfl rfl (Nat.le_of_ble_eq_true rfl) dX1_forget_2 (fun H locs hP hD hS => ?_)
  have hP : va_P (dC, dI) vwCl [(xt, .inr (1, [.ref xt_least, .ref xt_leastAt, .ref xt_most, .ref xt_mostAt, .int xt_person, .int xt_clock, .int (-1)]))] H := hP
  have hD : va_D A [(xt, .inr (1, [.ref xt_least, .ref xt_leastAt, .ref xt_most, .ref xt_mostAt, .int xt_person, .int xt_clock, .int (-1)]))] := hD
  have hP9 := hP.sub (ws' := [(xt, .inr (1, [.ref xt_least, .ref xt_leastAt, .ref xt_most, .ref xt_mostAt, .int xt_person, .int xt_clock, .int (-1)]))]) [0] rfl
  have hD9 := hD.sub (ws' := [(xt, .inr (1, [.ref xt_least, .ref xt_leastAt, .ref xt_most, .ref xt_mostAt, .int xt_person, .int xt_clock, .int (-1)]))]) [0] (by decide) rfl
  refine W.widen (k := 0) (n := 0) (Nat.le_of_ble_eq_true rfl) (Nat.le_of_ble_eq_true rfl) ?_
  exact W.vret hx hb hr (fun t ht hW => ⟨⟨(), rfl, trivial, by rw [ht]; exact hP9, hD9⟩, hS.F ht⟩) hS.2.2 dX1_forget_5
