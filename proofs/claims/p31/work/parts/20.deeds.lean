theorem dX3_isBehind_0 : decode cX3_isBehind 0 = .ok (.aload_n 0, 1) := by decide +kernel
theorem dX3_isBehind_1 : decode cX3_isBehind 1 = .ok (.getfield 25, 3) := by decide +kernel
theorem dX3_isBehind_4 : decode cX3_isBehind 4 = .ok (.iload_n 1, 1) := by decide +kernel
theorem dX3_isBehind_6 : decode cX3_isBehind 6 = .ok (.iload_n 2, 1) := by decide +kernel
theorem dX3_isBehind_35 : decode cX3_isBehind 35 = .ok (.iconst 1, 1) := by decide +kernel
theorem dX3_isBehind_36 : decode cX3_isBehind 36 = .ok (.goto 4, 3) := by decide +kernel
theorem dX3_isBehind_40 : decode cX3_isBehind 40 = .ok (.ireturn, 1) := by decide +kernel
theorem dX3_isBehind_10 : decode cX3_isBehind 10 = .ok (.aload_n 0, 1) := by decide +kernel
theorem dX3_isBehind_11 : decode cX3_isBehind 11 = .ok (.getfield 25, 3) := by decide +kernel
theorem dX3_isBehind_14 : decode cX3_isBehind 14 = .ok (.iload_n 1, 1) := by decide +kernel
theorem dX3_isBehind_16 : decode cX3_isBehind 16 = .ok (.iload_n 2, 1) := by decide +kernel
theorem dX3_isBehind_39 : decode cX3_isBehind 39 = .ok (.iconst 0, 1) := by decide +kernel
theorem dX3_isBehind_20 : decode cX3_isBehind 20 = .ok (.iload_n 3, 1) := by decide +kernel
theorem dX3_isBehind_21 : decode cX3_isBehind 21 = .ok (.iconst (-1), 1) := by decide +kernel
theorem dX3_isBehind_25 : decode cX3_isBehind 25 = .ok (.aload_n 0, 1) := by decide +kernel
theorem dX3_isBehind_26 : decode cX3_isBehind 26 = .ok (.getfield 28, 3) := by decide +kernel
theorem dX3_isBehind_29 : decode cX3_isBehind 29 = .ok (.iload_n 1, 1) := by decide +kernel
theorem dX3_isBehind_31 : decode cX3_isBehind 31 = .ok (.iconst (-1), 1) := by decide +kernel
theorem dX3_isBehind_5 : decode cX3_isBehind 5 = .ok (.iaload, 1) := by decide +kernel
theorem dX3_isBehind_7 : decode cX3_isBehind 7 = .ok (.if_icmp .gt 28, 3) := by decide +kernel
theorem dX3_isBehind_15 : decode cX3_isBehind 15 = .ok (.iaload, 1) := by decide +kernel
theorem dX3_isBehind_17 : decode cX3_isBehind 17 = .ok (.if_icmp .ne 22, 3) := by decide +kernel
theorem dX3_isBehind_22 : decode cX3_isBehind 22 = .ok (.if_icmp .ne 17, 3) := by decide +kernel
theorem dX3_isBehind_30 : decode cX3_isBehind 30 = .ok (.iaload, 1) := by decide +kernel
theorem dX3_isBehind_32 : decode cX3_isBehind 32 = .ok (.if_icmp .eq 7, 3) := by decide +kernel
theorem dX3_addDeed_0 : decode cX3_addDeed 0 = .ok (.aload_n 0, 1) := by decide +kernel
theorem dX3_addDeed_1 : decode cX3_addDeed 1 = .ok (.getfield 63, 3) := by decide +kernel
theorem dX3_addDeed_4 : decode cX3_addDeed 4 = .ok (.bipush 16, 2) := by decide +kernel
theorem dX3_addDeed_10 : decode cX3_addDeed 10 = .ok (.aload_n 0, 1) := by decide +kernel
theorem dX3_addDeed_11 : decode cX3_addDeed 11 = .ok (.getfield 63, 3) := by decide +kernel
theorem dX3_addDeed_14 : decode cX3_addDeed 14 = .ok (.istore 4, 2) := by decide +kernel
theorem dX3_addDeed_16 : decode cX3_addDeed 16 = .ok (.iload 4, 2) := by decide +kernel
theorem dX3_addDeed_21 : decode cX3_addDeed 21 = .ok (.aload_n 0, 1) := by decide +kernel
theorem dX3_addDeed_22 : decode cX3_addDeed 22 = .ok (.iload 4, 2) := by decide +kernel
theorem dX3_addDeed_24 : decode cX3_addDeed 24 = .ok (.iconst 1, 1) := by decide +kernel
theorem dX3_addDeed_26 : decode cX3_addDeed 26 = .ok (.iload_n 1, 1) := by decide +kernel
theorem dX3_addDeed_27 : decode cX3_addDeed 27 = .ok (.iload_n 2, 1) := by decide +kernel
theorem dX3_addDeed_28 : decode cX3_addDeed 28 = .ok (.invokevirtual 92, 3) := by decide +kernel
theorem dX3_addDeed_34 : decode cX3_addDeed 34 = .ok (.aload_n 0, 1) := by decide +kernel
theorem dX3_addDeed_35 : decode cX3_addDeed 35 = .ok (.getfield 25, 3) := by decide +kernel
theorem dX3_addDeed_38 : decode cX3_addDeed 38 = .ok (.iload 4, 2) := by decide +kernel
theorem dX3_addDeed_40 : decode cX3_addDeed 40 = .ok (.aload_n 0, 1) := by decide +kernel
theorem dX3_addDeed_41 : decode cX3_addDeed 41 = .ok (.getfield 25, 3) := by decide +kernel
theorem dX3_addDeed_44 : decode cX3_addDeed 44 = .ok (.iload 4, 2) := by decide +kernel
theorem dX3_addDeed_46 : decode cX3_addDeed 46 = .ok (.iconst 1, 1) := by decide +kernel
theorem dX3_addDeed_50 : decode cX3_addDeed 50 = .ok (.aload_n 0, 1) := by decide +kernel
theorem dX3_addDeed_51 : decode cX3_addDeed 51 = .ok (.getfield 28, 3) := by decide +kernel
theorem dX3_addDeed_54 : decode cX3_addDeed 54 = .ok (.iload 4, 2) := by decide +kernel
theorem dX3_addDeed_56 : decode cX3_addDeed 56 = .ok (.aload_n 0, 1) := by decide +kernel
theorem dX3_addDeed_57 : decode cX3_addDeed 57 = .ok (.getfield 28, 3) := by decide +kernel
theorem dX3_addDeed_60 : decode cX3_addDeed 60 = .ok (.iload 4, 2) := by decide +kernel
theorem dX3_addDeed_62 : decode cX3_addDeed 62 = .ok (.iconst 1, 1) := by decide +kernel
theorem dX3_addDeed_66 : decode cX3_addDeed 66 = .ok (.aload_n 0, 1) := by decide +kernel
theorem dX3_addDeed_67 : decode cX3_addDeed 67 = .ok (.getfield 31, 3) := by decide +kernel
theorem dX3_addDeed_70 : decode cX3_addDeed 70 = .ok (.iload 4, 2) := by decide +kernel
theorem dX3_addDeed_72 : decode cX3_addDeed 72 = .ok (.aload_n 0, 1) := by decide +kernel
theorem dX3_addDeed_73 : decode cX3_addDeed 73 = .ok (.getfield 31, 3) := by decide +kernel
theorem dX3_addDeed_76 : decode cX3_addDeed 76 = .ok (.iload 4, 2) := by decide +kernel
theorem dX3_addDeed_78 : decode cX3_addDeed 78 = .ok (.iconst 1, 1) := by decide +kernel
theorem dX3_addDeed_85 : decode cX3_addDeed 85 = .ok (.goto (-69), 3) := by decide +kernel
theorem dX3_addDeed_88 : decode cX3_addDeed 88 = .ok (.aload_n 0, 1) := by decide +kernel
theorem dX3_addDeed_89 : decode cX3_addDeed 89 = .ok (.getfield 25, 3) := by decide +kernel
theorem dX3_addDeed_92 : decode cX3_addDeed 92 = .ok (.iload 4, 2) := by decide +kernel
theorem dX3_addDeed_94 : decode cX3_addDeed 94 = .ok (.iload_n 1, 1) := by decide +kernel
theorem dX3_addDeed_96 : decode cX3_addDeed 96 = .ok (.aload_n 0, 1) := by decide +kernel
theorem dX3_addDeed_97 : decode cX3_addDeed 97 = .ok (.getfield 28, 3) := by decide +kernel
theorem dX3_addDeed_100 : decode cX3_addDeed 100 = .ok (.iload 4, 2) := by decide +kernel
theorem dX3_addDeed_102 : decode cX3_addDeed 102 = .ok (.iload_n 2, 1) := by decide +kernel
theorem dX3_addDeed_104 : decode cX3_addDeed 104 = .ok (.aload_n 0, 1) := by decide +kernel
theorem dX3_addDeed_105 : decode cX3_addDeed 105 = .ok (.getfield 31, 3) := by decide +kernel
theorem dX3_addDeed_108 : decode cX3_addDeed 108 = .ok (.iload 4, 2) := by decide +kernel
theorem dX3_addDeed_110 : decode cX3_addDeed 110 = .ok (.iload_n 3, 1) := by decide +kernel
theorem dX3_addDeed_112 : decode cX3_addDeed 112 = .ok (.aload_n 0, 1) := by decide +kernel
theorem dX3_addDeed_113 : decode cX3_addDeed 113 = .ok (.dup, 1) := by decide +kernel
theorem dX3_addDeed_114 : decode cX3_addDeed 114 = .ok (.getfield 63, 3) := by decide +kernel
theorem dX3_addDeed_117 : decode cX3_addDeed 117 = .ok (.iconst 1, 1) := by decide +kernel
theorem dX3_addDeed_119 : decode cX3_addDeed 119 = .ok (.putfield 63, 3) := by decide +kernel
theorem dX3_addDeed_122 : decode cX3_addDeed 122 = .ok (.return_, 1) := by decide +kernel
theorem dX3_addDeed_9 : decode cX3_addDeed 9 = .ok (.return_, 1) := by decide +kernel
theorem dX3_addDeed_6 : decode cX3_addDeed 6 = .ok (.if_icmp .lt 4, 3) := by decide +kernel
theorem dX3_addDeed_18 : decode cX3_addDeed 18 = .ok (.ifCond .le 70, 3) := by decide +kernel
theorem dX3_addDeed_95 : decode cX3_addDeed 95 = .ok (.iastore, 1) := by decide +kernel
theorem dX3_addDeed_103 : decode cX3_addDeed 103 = .ok (.iastore, 1) := by decide +kernel
theorem dX3_addDeed_111 : decode cX3_addDeed 111 = .ok (.iastore, 1) := by decide +kernel
theorem dX3_addDeed_118 : decode cX3_addDeed 118 = .ok (.iadd, 1) := by decide +kernel
theorem dX3_addDeed_25 : decode cX3_addDeed 25 = .ok (.isub, 1) := by decide +kernel
theorem dX3_addDeed_31 : decode cX3_addDeed 31 = .ok (.ifCond .eq 57, 3) := by decide +kernel
theorem dX3_addDeed_47 : decode cX3_addDeed 47 = .ok (.isub, 1) := by decide +kernel
theorem dX3_addDeed_48 : decode cX3_addDeed 48 = .ok (.iaload, 1) := by decide +kernel
theorem dX3_addDeed_49 : decode cX3_addDeed 49 = .ok (.iastore, 1) := by decide +kernel
theorem dX3_addDeed_63 : decode cX3_addDeed 63 = .ok (.isub, 1) := by decide +kernel
theorem dX3_addDeed_64 : decode cX3_addDeed 64 = .ok (.iaload, 1) := by decide +kernel
theorem dX3_addDeed_65 : decode cX3_addDeed 65 = .ok (.iastore, 1) := by decide +kernel
theorem dX3_addDeed_79 : decode cX3_addDeed 79 = .ok (.isub, 1) := by decide +kernel
theorem dX3_addDeed_80 : decode cX3_addDeed 80 = .ok (.iaload, 1) := by decide +kernel
theorem dX3_addDeed_81 : decode cX3_addDeed 81 = .ok (.iastore, 1) := by decide +kernel
theorem dX3_addDeed_82 : decode cX3_addDeed 82 = .ok (.iinc 4 (-1), 3) := by decide +kernel
abbrev q_X3_isBehind (dC : Nat → ClassId) (dI : Nat → Nat → Nat) (A : Nat → Prop) (pl : Nat) (vd : Int32) (vh : Int32) (vp : Int32) (pl_told : Nat) (pl_first : Nat) (pl_gain : Nat) (pl_custom : Nat) (pl_ruled : Nat) (pl_deeds : Int32) (pl_deedHour : Nat) (pl_deedPerson : Nat) (pl_deedClock : Nat) (k_pl_deedHour : ClassId) (f_pl_deedHour : Nat → Int32) (k_pl_deedPerson : ClassId) (f_pl_deedPerson : Nat → Int32) : Array Value → State → Outcome → State → Prop := va_Qi (fun (r : Int32) (_ : Unit) => (0 ≤ r.toInt ∧ r.toInt ≤ 1)) (fun (_ : Unit) (t : State) => va_P (dC, dI) vwCl [(pl, .inr (3, [.ref pl_told, .ref pl_first, .ref pl_gain, .ref pl_custom, .ref pl_ruled, .int pl_deeds, .ref pl_deedHour, .ref pl_deedPerson, .ref pl_deedClock])), (pl_deedHour, .inl (k_pl_deedHour, 16, .inl f_pl_deedHour)), (pl_deedPerson, .inl (k_pl_deedPerson, 16, .inl f_pl_deedPerson))] t.heap ∧ va_D A [(pl, .inr (3, [.ref pl_told, .ref pl_first, .ref pl_gain, .ref pl_custom, .ref pl_ruled, .int pl_deeds, .ref pl_deedHour, .ref pl_deedPerson, .ref pl_deedClock])), (pl_deedHour, .inl (k_pl_deedHour, 16, .inl f_pl_deedHour)), (pl_deedPerson, .inl (k_pl_deedPerson, 16, .inl f_pl_deedPerson))]) A
set_option maxHeartbeats 4000000 in
set_option maxRecDepth 100000 in
theorem c_X3_isBehind (l : Launch) (dC : Nat → ClassId) (dI : Nat → Nat → Nat) (sz : Nat) (pl : Nat) (vd : Int32) (vh : Int32) (vp : Int32) (pl_told : Nat) (pl_first : Nat) (pl_gain : Nat) (pl_custom : Nat) (pl_ruled : Nat) (pl_deeds : Int32) (pl_deedHour : Nat) (pl_deedPerson : Nat) (pl_deedClock : Nat) (k_pl_deedHour : ClassId) (f_pl_deedHour : Nat → Int32) (k_pl_deedPerson : ClassId) (f_pl_deedPerson : Nat → Int32) (h_pl_deeds : 0 ≤ pl_deeds.toInt ∧ pl_deeds.toInt ≤ 16) (h_f_pl_deedPerson : Rg f_pl_deedPerson (-1) 4) (h_vd : 0 ≤ vd.toInt ∧ vd.toInt ≤ 15) : Met l yX3_isBehind (pw_w yX3_isBehind cX3_isBehind 4 (some .boolean)) ({ frames := 0, cells := 0, slots := 0, locals := 0 }) (va_Pc [.ref pl, .int vd, .int vh, .int vp] (fun U => U.heap.size = sz ∧ va_P (dC, dI) vwCl [(pl, .inr (3, [.ref pl_told, .ref pl_first, .ref pl_gain, .ref pl_custom, .ref pl_ruled, .int pl_deeds, .ref pl_deedHour, .ref pl_deedPerson, .ref pl_deedClock])), (pl_deedHour, .inl (k_pl_deedHour, 16, .inl f_pl_deedHour)), (pl_deedPerson, .inl (k_pl_deedPerson, 16, .inl f_pl_deedPerson))] U.heap ∧ va_K (dC, dI) vwCl [(k_pl_deedHour, .int), (k_pl_deedPerson, .int)] U ∧ va_D (fun _ => True) [(pl, .inr (3, [.ref pl_told, .ref pl_first, .ref pl_gain, .ref pl_custom, .ref pl_ruled, .int pl_deeds, .ref pl_deedHour, .ref pl_deedPerson, .ref pl_deedClock])), (pl_deedHour, .inl (k_pl_deedHour, 16, .inl f_pl_deedHour)), (pl_deedPerson, .inl (k_pl_deedPerson, 16, .inl f_pl_deedPerson))])) (q_X3_isBehind dC dI (va_A [(pl, .inr (3, [.ref pl_told, .ref pl_first, .ref pl_gain, .ref pl_custom, .ref pl_ruled, .int pl_deeds, .ref pl_deedHour, .ref pl_deedPerson, .ref pl_deedClock])), (pl_deedHour, .inl (k_pl_deedHour, 16, .inl f_pl_deedHour)), (pl_deedPerson, .inl (k_pl_deedPerson, 16, .inl f_pl_deedPerson))] sz) pl vd vh vp pl_told pl_first pl_gain pl_custom pl_ruled pl_deeds pl_deedHour pl_deedPerson pl_deedClock k_pl_deedHour f_pl_deedHour k_pl_deedPerson f_pl_deedPerson) 0 0 (va_A [(pl, .inr (3, [.ref pl_told, .ref pl_first, .ref pl_gain, .ref pl_custom, .ref pl_ruled, .int pl_deeds, .ref pl_deedHour, .ref pl_deedPerson, .ref pl_deedClock])), (pl_deedHour, .inl (k_pl_deedHour, 16, .inl f_pl_deedHour)), (pl_deedPerson, .inl (k_pl_deedPerson, 16, .inl f_pl_deedPerson))] sz) := by
  refine Met.ofW (cc := cX3_isBehind) (maxL := 4) (ret := (some .boolean)) (by decide) rfl ?_
  intro p e s m args below meth c s₁ B hml hv
  obtain ⟨rfl, hsz, hP, hK, hD0⟩ := hv
  have hx := B.exec
  have hb := B.bytes
  have hr := B.returns
  have hts := atoms_spec (ws := (pw_w yX3_isBehind cX3_isBehind 4 (some .boolean))) B.pre
  have hT : ∀ w ∈ pw_T, w.before _ s = true := fun w h => hts w (List.mem_cons_of_mem _ h)
  have hown : s.vm.findClass RX3 = some m.cls := findClass_of_methodNamed B.named
  have hlocks := B.notSynchronized
  subst hsz
  have hD := hD0.self (sz := s.heap.size)
  generalize hAe : va_A [(pl, .inr (3, [.ref pl_told, .ref pl_first, .ref pl_gain, .ref pl_custom, .ref pl_ruled, .int pl_deeds, .ref pl_deedHour, .ref pl_deedPerson, .ref pl_deedClock])), (pl_deedHour, .inl (k_pl_deedHour, 16, .inl f_pl_deedHour)), (pl_deedPerson, .inl (k_pl_deedPerson, 16, .inl f_pl_deedPerson))] s.heap.size = A at hD ⊢
  have hA : ∀ q : Nat, s.heap.size ≤ q → A q := fun q h => by rw [← hAe]; exact Or.inr h
  have hS : va_S A s.heap s.heap [] := va_S.rf
  have hP : va_P (dC, dI) vwCl [(pl, .inr (3, [.ref pl_told, .ref pl_first, .ref pl_gain, .ref pl_custom, .ref pl_ruled, .int pl_deeds, .ref pl_deedHour, .ref pl_deedPerson, .ref pl_deedClock])), (pl_deedHour, .inl (k_pl_deedHour, 16, .inl f_pl_deedHour)), (pl_deedPerson, .inl (k_pl_deedPerson, 16, .inl f_pl_deedPerson))] s.heap := hP
  have hl := lv_entry ([.ref pl, .int vd, .int vh, .int vp]) (n := 4) (Nat.le_of_ble_eq_true rfl)
  rw [lg_entry_eq]
  generalize (lg_sl ([.ref pl, .int vd, .int vh, .int vp]) ++ List.replicate (4 - (lg_sl ([.ref pl, .int vd, .int vh, .int vp])).length) Slot.unset).toArray = ls at hl ⊢
  have hl : lv_has ls 4 [(0, .ref pl), (1, .int vd), (2, .int vh), (3, .int vp)] := hl
  refine lv_aload_n hx hb dX3_isBehind_0 rfl (lv_at hl 0 rfl) ?_
  refine va_get (D := (dC, dI)) (ci := 3) (v := .ref pl_deedHour) (C := RX3) (T := TX3) (N := 9) hx hb hT inX3 hown hK hP 0 rfl rfl 6 (by decide) (hT _ mw_2_72) (fun _ h9 => h9) rfl dX3_isBehind_1 ?_
  refine lv_iload_n hx hb dX3_isBehind_4 rfl (lv_at hl 1 rfl) ?_
  refine va_iald hx hb hK hP 1 0 rfl rfl (vp_in_iff.mpr (by omega)) dX3_isBehind_5 ?_
  refine lv_topi (fun z_1 ez_1 => ?_)
  refine lv_iload_n hx hb dX3_isBehind_6 rfl (lv_at hl 2 rfl) ?_
  refine lv_icmp_gt (tgt := 35) hx hb dX3_isBehind_7 (by decide) (fun c_2 => ?_) (fun c_2 => ?_)
  · have kc_2 := il_lt c_2
    have := Int32.toInt_lt z_1; have := Int32.le_toInt z_1
    have := Int32.toInt_lt vh; have := Int32.le_toInt vh
    refine lv_iconst (v := 1) hx hb dX3_isBehind_35 (by decide) ?_
    refine lv_goto (tgt := 40) hx hb dX3_isBehind_36 (by decide) ?_
    have hP9 := hP.sub (ws' := [(pl, .inr (3, [.ref pl_told, .ref pl_first, .ref pl_gain, .ref pl_custom, .ref pl_ruled, .int pl_deeds, .ref pl_deedHour, .ref pl_deedPerson, .ref pl_deedClock])), (pl_deedHour, .inl (k_pl_deedHour, 16, .inl f_pl_deedHour)), (pl_deedPerson, .inl (k_pl_deedPerson, 16, .inl f_pl_deedPerson))]) [0, 1, 2] rfl
    have hD9 := hD.sub (ws' := [(pl, .inr (3, [.ref pl_told, .ref pl_first, .ref pl_gain, .ref pl_custom, .ref pl_ruled, .int pl_deeds, .ref pl_deedHour, .ref pl_deedPerson, .ref pl_deedClock])), (pl_deedHour, .inl (k_pl_deedHour, 16, .inl f_pl_deedHour)), (pl_deedPerson, .inl (k_pl_deedPerson, 16, .inl f_pl_deedPerson))]) [0, 1, 2] (by decide) rfl
    have := (by decide : (1 : Int32).toInt = 1)
    exact W.zret (v := 1) hx hb hr (by decide) (fun t ht hW => ⟨⟨1, (), rfl, (by first | omega | (refine ⟨?_, ?_⟩ <;> omega) | rfl | (intros; omega)), by rw [ht]; exact hP9, hD9⟩, hS.F ht⟩) hS.2.2 dX3_isBehind_40
  · have kc_2 := il_nlt c_2
    have := Int32.toInt_lt z_1; have := Int32.le_toInt z_1
    have := Int32.toInt_lt vh; have := Int32.le_toInt vh
    refine lv_aload_n hx hb dX3_isBehind_10 rfl (lv_at hl 0 rfl) ?_
    refine va_get (D := (dC, dI)) (ci := 3) (v := .ref pl_deedHour) (C := RX3) (T := TX3) (N := 9) hx hb hT inX3 hown hK hP 0 rfl rfl 6 (by decide) (hT _ mw_2_72) (fun _ h9 => h9) rfl dX3_isBehind_11 ?_
    refine lv_iload_n hx hb dX3_isBehind_14 rfl (lv_at hl 1 rfl) ?_
    refine va_iald hx hb hK hP 1 0 rfl rfl (vp_in_iff.mpr (by omega)) dX3_isBehind_15 ?_
    refine lv_topi (fun z_3 ez_3 => ?_)
    have qz_3 : z_3 = z_1 := ez_3.trans ez_1.symm
    clear ez_3
    subst z_3
    refine lv_iload_n hx hb dX3_isBehind_16 rfl (lv_at hl 2 rfl) ?_
    refine lv_icmp_ne (tgt := 39) hx hb dX3_isBehind_17 (by decide) (fun c_4 => ?_) (fun c_4 => ?_)
    · have kc_4 := il_ne c_4
      refine lv_iconst (v := 0) hx hb dX3_isBehind_39 (by decide) ?_
      have hP9 := hP.sub (ws' := [(pl, .inr (3, [.ref pl_told, .ref pl_first, .ref pl_gain, .ref pl_custom, .ref pl_ruled, .int pl_deeds, .ref pl_deedHour, .ref pl_deedPerson, .ref pl_deedClock])), (pl_deedHour, .inl (k_pl_deedHour, 16, .inl f_pl_deedHour)), (pl_deedPerson, .inl (k_pl_deedPerson, 16, .inl f_pl_deedPerson))]) [0, 1, 2] rfl
      have hD9 := hD.sub (ws' := [(pl, .inr (3, [.ref pl_told, .ref pl_first, .ref pl_gain, .ref pl_custom, .ref pl_ruled, .int pl_deeds, .ref pl_deedHour, .ref pl_deedPerson, .ref pl_deedClock])), (pl_deedHour, .inl (k_pl_deedHour, 16, .inl f_pl_deedHour)), (pl_deedPerson, .inl (k_pl_deedPerson, 16, .inl f_pl_deedPerson))]) [0, 1, 2] (by decide) rfl
      have := (by decide : (0 : Int32).toInt = 0)
      exact W.zret (v := 0) hx hb hr (by decide) (fun t ht hW => ⟨⟨0, (), rfl, (by first | omega | (refine ⟨?_, ?_⟩ <;> omega) | rfl | (intros; omega)), by rw [ht]; exact hP9, hD9⟩, hS.F ht⟩) hS.2.2 dX3_isBehind_40
    · have kc_4 := il_eq c_4
      refine lv_iload_n hx hb dX3_isBehind_20 rfl (lv_at hl 3 rfl) ?_
      refine lv_iconst (v := (-1)) hx hb dX3_isBehind_21 (by decide) ?_
      refine lv_icmp_ne (tgt := 39) hx hb dX3_isBehind_22 (by decide) (fun c_5 => ?_) (fun c_5 => ?_)
      · have kc_5 := il_ne c_5
        have := (by decide : ((-1) : Int32).toInt = -1)
        refine lv_iconst (v := 0) hx hb dX3_isBehind_39 (by decide) ?_
        have hP9 := hP.sub (ws' := [(pl, .inr (3, [.ref pl_told, .ref pl_first, .ref pl_gain, .ref pl_custom, .ref pl_ruled, .int pl_deeds, .ref pl_deedHour, .ref pl_deedPerson, .ref pl_deedClock])), (pl_deedHour, .inl (k_pl_deedHour, 16, .inl f_pl_deedHour)), (pl_deedPerson, .inl (k_pl_deedPerson, 16, .inl f_pl_deedPerson))]) [0, 1, 2] rfl
        have hD9 := hD.sub (ws' := [(pl, .inr (3, [.ref pl_told, .ref pl_first, .ref pl_gain, .ref pl_custom, .ref pl_ruled, .int pl_deeds, .ref pl_deedHour, .ref pl_deedPerson, .ref pl_deedClock])), (pl_deedHour, .inl (k_pl_deedHour, 16, .inl f_pl_deedHour)), (pl_deedPerson, .inl (k_pl_deedPerson, 16, .inl f_pl_deedPerson))]) [0, 1, 2] (by decide) rfl
        have := (by decide : (0 : Int32).toInt = 0)
        exact W.zret (v := 0) hx hb hr (by decide) (fun t ht hW => ⟨⟨0, (), rfl, (by first | omega | (refine ⟨?_, ?_⟩ <;> omega) | rfl | (intros; omega)), by rw [ht]; exact hP9, hD9⟩, hS.F ht⟩) hS.2.2 dX3_isBehind_40
      · have kc_5 := il_eq c_5
        have := (by decide : ((-1) : Int32).toInt = -1)
        refine lv_aload_n hx hb dX3_isBehind_25 rfl (lv_at hl 0 rfl) ?_
        refine va_get (D := (dC, dI)) (ci := 3) (v := .ref pl_deedPerson) (C := RX3) (T := TX3) (N := 9) hx hb hT inX3 hown hK hP 0 rfl rfl 7 (by decide) (hT _ mw_2_74) (fun _ h9 => h9) rfl dX3_isBehind_26 ?_
        refine lv_iload_n hx hb dX3_isBehind_29 rfl (lv_at hl 1 rfl) ?_
        refine va_iald hx hb hK hP 2 1 rfl rfl (vp_in_iff.mpr (by omega)) dX3_isBehind_30 ?_
        refine lv_topi (fun z_6 ez_6 => ?_)
        have kz_6 : (-1) ≤ z_6.toInt ∧ z_6.toInt ≤ 4 := by rw [ez_6]; exact h_f_pl_deedPerson _
        refine lv_iconst (v := (-1)) hx hb dX3_isBehind_31 (by decide) ?_
        refine lv_icmp_eq (tgt := 39) hx hb dX3_isBehind_32 (by decide) (fun c_7 => ?_) (fun c_7 => ?_)
        · have kc_7 := il_eq c_7
          have := (by decide : ((-1) : Int32).toInt = -1)
          refine lv_iconst (v := 0) hx hb dX3_isBehind_39 (by decide) ?_
          have hP9 := hP.sub (ws' := [(pl, .inr (3, [.ref pl_told, .ref pl_first, .ref pl_gain, .ref pl_custom, .ref pl_ruled, .int pl_deeds, .ref pl_deedHour, .ref pl_deedPerson, .ref pl_deedClock])), (pl_deedHour, .inl (k_pl_deedHour, 16, .inl f_pl_deedHour)), (pl_deedPerson, .inl (k_pl_deedPerson, 16, .inl f_pl_deedPerson))]) [0, 1, 2] rfl
          have hD9 := hD.sub (ws' := [(pl, .inr (3, [.ref pl_told, .ref pl_first, .ref pl_gain, .ref pl_custom, .ref pl_ruled, .int pl_deeds, .ref pl_deedHour, .ref pl_deedPerson, .ref pl_deedClock])), (pl_deedHour, .inl (k_pl_deedHour, 16, .inl f_pl_deedHour)), (pl_deedPerson, .inl (k_pl_deedPerson, 16, .inl f_pl_deedPerson))]) [0, 1, 2] (by decide) rfl
          have := (by decide : (0 : Int32).toInt = 0)
          exact W.zret (v := 0) hx hb hr (by decide) (fun t ht hW => ⟨⟨0, (), rfl, (by first | omega | (refine ⟨?_, ?_⟩ <;> omega) | rfl | (intros; omega)), by rw [ht]; exact hP9, hD9⟩, hS.F ht⟩) hS.2.2 dX3_isBehind_40
        · have kc_7 := il_ne c_7
          have := (by decide : ((-1) : Int32).toInt = -1)
          refine lv_iconst (v := 1) hx hb dX3_isBehind_35 (by decide) ?_
          refine lv_goto (tgt := 40) hx hb dX3_isBehind_36 (by decide) ?_
          have hP9 := hP.sub (ws' := [(pl, .inr (3, [.ref pl_told, .ref pl_first, .ref pl_gain, .ref pl_custom, .ref pl_ruled, .int pl_deeds, .ref pl_deedHour, .ref pl_deedPerson, .ref pl_deedClock])), (pl_deedHour, .inl (k_pl_deedHour, 16, .inl f_pl_deedHour)), (pl_deedPerson, .inl (k_pl_deedPerson, 16, .inl f_pl_deedPerson))]) [0, 1, 2] rfl
          have hD9 := hD.sub (ws' := [(pl, .inr (3, [.ref pl_told, .ref pl_first, .ref pl_gain, .ref pl_custom, .ref pl_ruled, .int pl_deeds, .ref pl_deedHour, .ref pl_deedPerson, .ref pl_deedClock])), (pl_deedHour, .inl (k_pl_deedHour, 16, .inl f_pl_deedHour)), (pl_deedPerson, .inl (k_pl_deedPerson, 16, .inl f_pl_deedPerson))]) [0, 1, 2] (by decide) rfl
          have := (by decide : (1 : Int32).toInt = 1)
          exact W.zret (v := 1) hx hb hr (by decide) (fun t ht hW => ⟨⟨1, (), rfl, (by first | omega | (refine ⟨?_, ?_⟩ <;> omega) | rfl | (intros; omega)), by rw [ht]; exact hP9, hD9⟩, hS.F ht⟩) hS.2.2 dX3_isBehind_40
abbrev q_X3_addDeed (dC : Nat → ClassId) (dI : Nat → Nat → Nat) (A : Nat → Prop) (pl : Nat) (vh : Int32) (vp : Int32) (vc : Int32) (pl_told : Nat) (pl_first : Nat) (pl_gain : Nat) (pl_custom : Nat) (pl_ruled : Nat) (pl_deeds : Int32) (pl_deedHour : Nat) (pl_deedPerson : Nat) (pl_deedClock : Nat) (k_pl_deedHour : ClassId) (f_pl_deedHour : Nat → Int32) (k_pl_deedPerson : ClassId) (f_pl_deedPerson : Nat → Int32) (k_pl_deedClock : ClassId) (f_pl_deedClock : Nat → Int32) (kp : Int32) : Array Value → State → Outcome → State → Prop := va_Qv (fun _ : Unit => True) (fun (_ : Unit) (t : State) => ∃ (e_pl_deeds : Int32), ∃ (g_pl_deedHour : Nat → Int32), ∃ (g_pl_deedPerson : Nat → Int32), ∃ (g_pl_deedClock : Nat → Int32), (0 ≤ e_pl_deeds.toInt ∧ e_pl_deeds.toInt ≤ 16) ∧ (Rg g_pl_deedPerson (-1) 4) ∧ (Rg g_pl_deedClock 0 4) ∧ (DP g_pl_deedPerson e_pl_deeds kp) ∧ va_P (dC, dI) vwCl [(pl, .inr (3, [.ref pl_told, .ref pl_first, .ref pl_gain, .ref pl_custom, .ref pl_ruled, .int e_pl_deeds, .ref pl_deedHour, .ref pl_deedPerson, .ref pl_deedClock])), (pl_deedHour, .inl (k_pl_deedHour, 16, .inl g_pl_deedHour)), (pl_deedPerson, .inl (k_pl_deedPerson, 16, .inl g_pl_deedPerson)), (pl_deedClock, .inl (k_pl_deedClock, 16, .inl g_pl_deedClock))] t.heap ∧ va_D A [(pl, .inr (3, [.ref pl_told, .ref pl_first, .ref pl_gain, .ref pl_custom, .ref pl_ruled, .int e_pl_deeds, .ref pl_deedHour, .ref pl_deedPerson, .ref pl_deedClock])), (pl_deedHour, .inl (k_pl_deedHour, 16, .inl g_pl_deedHour)), (pl_deedPerson, .inl (k_pl_deedPerson, 16, .inl g_pl_deedPerson)), (pl_deedClock, .inl (k_pl_deedClock, 16, .inl g_pl_deedClock))]) A
set_option maxHeartbeats 4000000 in
set_option maxRecDepth 100000 in
theorem c_X3_addDeed (l : Launch) (dC : Nat → ClassId) (dI : Nat → Nat → Nat) (sz : Nat) (pl : Nat) (vh : Int32) (vp : Int32) (vc : Int32) (pl_told : Nat) (pl_first : Nat) (pl_gain : Nat) (pl_custom : Nat) (pl_ruled : Nat) (pl_deeds : Int32) (pl_deedHour : Nat) (pl_deedPerson : Nat) (pl_deedClock : Nat) (k_pl_deedHour : ClassId) (f_pl_deedHour : Nat → Int32) (k_pl_deedPerson : ClassId) (f_pl_deedPerson : Nat → Int32) (k_pl_deedClock : ClassId) (f_pl_deedClock : Nat → Int32) (kp : Int32) (h_pl_deeds : 0 ≤ pl_deeds.toInt ∧ pl_deeds.toInt ≤ 16) (h_f_pl_deedPerson : Rg f_pl_deedPerson (-1) 4) (h_f_pl_deedClock : Rg f_pl_deedClock 0 4) (h_vp : (-1) ≤ vp.toInt ∧ vp.toInt ≤ 4) (h_vc : 0 ≤ vc.toInt ∧ vc.toInt ≤ 4) (hvp : vp.toInt < kp.toInt) (hdp : DP f_pl_deedPerson pl_deeds kp) : Met l yX3_addDeed (pw_w yX3_addDeed cX3_addDeed 5 none) ({ frames := 1, cells := 0, slots := 0, locals := 23 }) (va_Pc [.ref pl, .int vh, .int vp, .int vc] (fun U => U.heap.size = sz ∧ va_P (dC, dI) vwCl [(pl, .inr (3, [.ref pl_told, .ref pl_first, .ref pl_gain, .ref pl_custom, .ref pl_ruled, .int pl_deeds, .ref pl_deedHour, .ref pl_deedPerson, .ref pl_deedClock])), (pl_deedHour, .inl (k_pl_deedHour, 16, .inl f_pl_deedHour)), (pl_deedPerson, .inl (k_pl_deedPerson, 16, .inl f_pl_deedPerson)), (pl_deedClock, .inl (k_pl_deedClock, 16, .inl f_pl_deedClock))] U.heap ∧ va_K (dC, dI) vwCl [(k_pl_deedHour, .int), (k_pl_deedPerson, .int), (k_pl_deedClock, .int)] U ∧ va_D (fun _ => True) [(pl, .inr (3, [.ref pl_told, .ref pl_first, .ref pl_gain, .ref pl_custom, .ref pl_ruled, .int pl_deeds, .ref pl_deedHour, .ref pl_deedPerson, .ref pl_deedClock])), (pl_deedHour, .inl (k_pl_deedHour, 16, .inl f_pl_deedHour)), (pl_deedPerson, .inl (k_pl_deedPerson, 16, .inl f_pl_deedPerson)), (pl_deedClock, .inl (k_pl_deedClock, 16, .inl f_pl_deedClock))])) (q_X3_addDeed dC dI (va_A [(pl, .inr (3, [.ref pl_told, .ref pl_first, .ref pl_gain, .ref pl_custom, .ref pl_ruled, .int pl_deeds, .ref pl_deedHour, .ref pl_deedPerson, .ref pl_deedClock])), (pl_deedHour, .inl (k_pl_deedHour, 16, .inl f_pl_deedHour)), (pl_deedPerson, .inl (k_pl_deedPerson, 16, .inl f_pl_deedPerson)), (pl_deedClock, .inl (k_pl_deedClock, 16, .inl f_pl_deedClock))] sz) pl vh vp vc pl_told pl_first pl_gain pl_custom pl_ruled pl_deeds pl_deedHour pl_deedPerson pl_deedClock k_pl_deedHour f_pl_deedHour k_pl_deedPerson f_pl_deedPerson k_pl_deedClock f_pl_deedClock kp) 0 0 (va_A [(pl, .inr (3, [.ref pl_told, .ref pl_first, .ref pl_gain, .ref pl_custom, .ref pl_ruled, .int pl_deeds, .ref pl_deedHour, .ref pl_deedPerson, .ref pl_deedClock])), (pl_deedHour, .inl (k_pl_deedHour, 16, .inl f_pl_deedHour)), (pl_deedPerson, .inl (k_pl_deedPerson, 16, .inl f_pl_deedPerson)), (pl_deedClock, .inl (k_pl_deedClock, 16, .inl f_pl_deedClock))] sz) := by
  refine Met.ofW (cc := cX3_addDeed) (maxL := 5) (ret := none) (by decide) rfl ?_
  intro p e s m args below meth c s₁ B hml hv
  obtain ⟨rfl, hsz, hP, hK, hD0⟩ := hv
  have hx := B.exec
  have hb := B.bytes
  have hr := B.returns
  have hts := atoms_spec (ws := (pw_w yX3_addDeed cX3_addDeed 5 none)) B.pre
  have hT : ∀ w ∈ pw_T, w.before _ s = true := fun w h => hts w (List.mem_cons_of_mem _ h)
  have hown : s.vm.findClass RX3 = some m.cls := findClass_of_methodNamed B.named
  have hlocks := B.notSynchronized
  subst hsz
  have hD := hD0.self (sz := s.heap.size)
  generalize hAe : va_A [(pl, .inr (3, [.ref pl_told, .ref pl_first, .ref pl_gain, .ref pl_custom, .ref pl_ruled, .int pl_deeds, .ref pl_deedHour, .ref pl_deedPerson, .ref pl_deedClock])), (pl_deedHour, .inl (k_pl_deedHour, 16, .inl f_pl_deedHour)), (pl_deedPerson, .inl (k_pl_deedPerson, 16, .inl f_pl_deedPerson)), (pl_deedClock, .inl (k_pl_deedClock, 16, .inl f_pl_deedClock))] s.heap.size = A at hD ⊢
  have hA : ∀ q : Nat, s.heap.size ≤ q → A q := fun q h => by rw [← hAe]; exact Or.inr h
  have hS : va_S A s.heap s.heap [] := va_S.rf
  have hP : va_P (dC, dI) vwCl [(pl, .inr (3, [.ref pl_told, .ref pl_first, .ref pl_gain, .ref pl_custom, .ref pl_ruled, .int pl_deeds, .ref pl_deedHour, .ref pl_deedPerson, .ref pl_deedClock])), (pl_deedHour, .inl (k_pl_deedHour, 16, .inl f_pl_deedHour)), (pl_deedPerson, .inl (k_pl_deedPerson, 16, .inl f_pl_deedPerson)), (pl_deedClock, .inl (k_pl_deedClock, 16, .inl f_pl_deedClock))] s.heap := hP
  have hl := lv_entry ([.ref pl, .int vh, .int vp, .int vc]) (n := 5) (Nat.le_of_ble_eq_true rfl)
  rw [lg_entry_eq]
  generalize (lg_sl ([.ref pl, .int vh, .int vp, .int vc]) ++ List.replicate (5 - (lg_sl ([.ref pl, .int vh, .int vp, .int vc])).length) Slot.unset).toArray = ls at hl ⊢
  have hl : lv_has ls 5 [(0, .ref pl), (1, .int vh), (2, .int vp), (3, .int vc)] := hl
  refine lv_aload_n hx hb dX3_addDeed_0 rfl (lv_at hl 0 rfl) ?_
  refine va_get (D := (dC, dI)) (ci := 3) (v := .int pl_deeds) (C := RX3) (T := TX3) (N := 9) hx hb hT inX3 hown hK hP 0 rfl rfl 5 (by decide) (hT _ mw_2_70) (fun _ h9 => h9) rfl dX3_addDeed_1 ?_
  refine lv_bipush (v := 16) hx hb dX3_addDeed_4 (by decide) ?_
  refine lv_icmp_lt (tgt := 10) hx hb dX3_addDeed_6 (by decide) (fun c_1 => ?_) (fun c_1 => ?_)
  · have kc_1 := il_lt c_1
    have := (by decide : (16 : Int32).toInt = 16)
    refine lv_aload_n hx hb dX3_addDeed_10 rfl (lv_at hl 0 rfl) ?_
    refine va_get (D := (dC, dI)) (ci := 3) (v := .int pl_deeds) (C := RX3) (T := TX3) (N := 9) hx hb hT inX3 hown hK hP 0 rfl rfl 5 (by decide) (hT _ mw_2_70) (fun _ h9 => h9) rfl dX3_addDeed_11 ?_
    refine lv_istore (lv' := [(4, .int pl_deeds), (0, .ref pl), (1, .int vh), (2, .int vp), (3, .int vc)]) hx hb dX3_addDeed_14 hl (by decide) rfl (fun ls hl => ?_)
    have loop_40 : ∀ (fu : Nat), ∀ (g_38_l4 : Int32), ∀ (g_38_f1 : Nat → Int32), ∀ (g_38_f2 : Nat → Int32), ∀ (g_38_f3 : Nat → Int32), (0 ≤ g_38_l4.toInt ∧ g_38_l4.toInt ≤ 15) → (Rg g_38_f2 (-1) 4) → (Rg g_38_f3 0 4) → (DPx g_38_f2 pl_deeds g_38_l4 kp) → (g_38_l4.toInt ≤ pl_deeds.toInt) → (g_38_l4.toInt < (fu : Int)) → ∀ (H : Heap) (locs : List Loc), va_P (dC, dI) vwCl [(pl, .inr (3, [.ref pl_told, .ref pl_first, .ref pl_gain, .ref pl_custom, .ref pl_ruled, .int pl_deeds, .ref pl_deedHour, .ref pl_deedPerson, .ref pl_deedClock])), (pl_deedHour, .inl (k_pl_deedHour, 16, .inl g_38_f1)), (pl_deedPerson, .inl (k_pl_deedPerson, 16, .inl g_38_f2)), (pl_deedClock, .inl (k_pl_deedClock, 16, .inl g_38_f3))] H → va_D A [(pl, .inr (3, [.ref pl_told, .ref pl_first, .ref pl_gain, .ref pl_custom, .ref pl_ruled, .int pl_deeds, .ref pl_deedHour, .ref pl_deedPerson, .ref pl_deedClock])), (pl_deedHour, .inl (k_pl_deedHour, 16, .inl g_38_f1)), (pl_deedPerson, .inl (k_pl_deedPerson, 16, .inl g_38_f2)), (pl_deedClock, .inl (k_pl_deedClock, 16, .inl g_38_f3))] → va_S A s.heap H locs → ∀ (ls : Array Slot), lv_has ls 5 [(4, .int g_38_l4), (0, .ref pl), (1, .int vh), (2, .int vp), (3, .int vc)] → W p l e (headSpec (pw_w yX3_addDeed cX3_addDeed 5 none) ({ frames := 1, cells := 0, slots := 0, locals := 23 })).room s m ([.ref pl, .int vh, .int vp, .int vc] : List Value).toArray below meth c H locs 0 0 (MQ below (q_X3_addDeed dC dI A pl vh vp vc pl_told pl_first pl_gain pl_custom pl_ruled pl_deeds pl_deedHour pl_deedPerson pl_deedClock k_pl_deedHour f_pl_deedHour k_pl_deedPerson f_pl_deedPerson k_pl_deedClock f_pl_deedClock kp) ([.ref pl, .int vh, .int vp, .int vc] : List Value).toArray s 0 0 A) (F0 m 16 ls []) := by
      intro fu
      induction fu with
      | zero => intro g_38_l4 g_38_f1 g_38_f2 g_38_f3 hg_38_l4 hg_38_f2 hg_38_f3 hi_dpx_q_39 hx0 hfu; exact absurd hfu (by omega)
      | succ fu40 ih40 =>
        intro g_38_l4 g_38_f1 g_38_f2 g_38_f3 hg_38_l4 hg_38_f2 hg_38_f3 hi_dpx_q_39 hx0 hfu40 H locs hP hD hS ls hl
        refine lv_iload hx hb dX3_addDeed_16 (lv_at hl 0 rfl) ?_
        have join_57 : ∀ (H : Heap) (locs : List Loc), va_P (dC, dI) vwCl [(pl, .inr (3, [.ref pl_told, .ref pl_first, .ref pl_gain, .ref pl_custom, .ref pl_ruled, .int pl_deeds, .ref pl_deedHour, .ref pl_deedPerson, .ref pl_deedClock])), (pl_deedHour, .inl (k_pl_deedHour, 16, .inl g_38_f1)), (pl_deedPerson, .inl (k_pl_deedPerson, 16, .inl g_38_f2)), (pl_deedClock, .inl (k_pl_deedClock, 16, .inl g_38_f3))] H → va_D A [(pl, .inr (3, [.ref pl_told, .ref pl_first, .ref pl_gain, .ref pl_custom, .ref pl_ruled, .int pl_deeds, .ref pl_deedHour, .ref pl_deedPerson, .ref pl_deedClock])), (pl_deedHour, .inl (k_pl_deedHour, 16, .inl g_38_f1)), (pl_deedPerson, .inl (k_pl_deedPerson, 16, .inl g_38_f2)), (pl_deedClock, .inl (k_pl_deedClock, 16, .inl g_38_f3))] → va_S A s.heap H locs → ∀ (ls : Array Slot), lv_has ls 5 [(4, .int g_38_l4), (0, .ref pl), (1, .int vh), (2, .int vp), (3, .int vc)] → W p l e (headSpec (pw_w yX3_addDeed cX3_addDeed 5 none) ({ frames := 1, cells := 0, slots := 0, locals := 23 })).room s m ([.ref pl, .int vh, .int vp, .int vc] : List Value).toArray below meth c H locs 0 0 (MQ below (q_X3_addDeed dC dI A pl vh vp vc pl_told pl_first pl_gain pl_custom pl_ruled pl_deeds pl_deedHour pl_deedPerson pl_deedClock k_pl_deedHour f_pl_deedHour k_pl_deedPerson f_pl_deedPerson k_pl_deedClock f_pl_deedClock kp) ([.ref pl, .int vh, .int vp, .int vc] : List Value).toArray s 0 0 A) (F0 m 88 ls []) := by
          intro  H locs hP hD hS ls hl
          refine lv_aload_n hx hb dX3_addDeed_88 rfl (lv_at hl 1 rfl) ?_
          refine va_get (D := (dC, dI)) (ci := 3) (v := .ref pl_deedHour) (C := RX3) (T := TX3) (N := 9) hx hb hT inX3 hown hK hP 0 rfl rfl 6 (by decide) (hT _ mw_2_72) (fun _ h9 => h9) rfl dX3_addDeed_89 ?_
          refine lv_iload hx hb dX3_addDeed_92 (lv_at hl 0 rfl) ?_
          refine lv_iload_n hx hb dX3_addDeed_94 rfl (lv_at hl 2 rfl) ?_
          refine va_iast hx hb hK hP hD hS 1 0 rfl rfl (vp_in_iff.mpr (by omega)) dX3_addDeed_95 (fun H locs hP hD hS => ?_)
          have hP : va_P (dC, dI) vwCl [(pl, .inr (3, [.ref pl_told, .ref pl_first, .ref pl_gain, .ref pl_custom, .ref pl_ruled, .int pl_deeds, .ref pl_deedHour, .ref pl_deedPerson, .ref pl_deedClock])), (pl_deedHour, .inl (k_pl_deedHour, 16, .inl (upd g_38_f1 (g_38_l4 : Int32).toNatClampNeg (vh : Int32)))), (pl_deedPerson, .inl (k_pl_deedPerson, 16, .inl g_38_f2)), (pl_deedClock, .inl (k_pl_deedClock, 16, .inl g_38_f3))] H := hP
          have hD : va_D A [(pl, .inr (3, [.ref pl_told, .ref pl_first, .ref pl_gain, .ref pl_custom, .ref pl_ruled, .int pl_deeds, .ref pl_deedHour, .ref pl_deedPerson, .ref pl_deedClock])), (pl_deedHour, .inl (k_pl_deedHour, 16, .inl (upd g_38_f1 (g_38_l4 : Int32).toNatClampNeg (vh : Int32)))), (pl_deedPerson, .inl (k_pl_deedPerson, 16, .inl g_38_f2)), (pl_deedClock, .inl (k_pl_deedClock, 16, .inl g_38_f3))] := hD
          obtain ⟨f_58, ef_58⟩ : ∃ g : Nat → Int32, (upd g_38_f1 (g_38_l4 : Int32).toNatClampNeg (vh : Int32)) = g := ⟨_, rfl⟩
          rw [ef_58] at hP hD
          clear ef_58
          refine lv_aload_n hx hb dX3_addDeed_96 rfl (lv_at hl 1 rfl) ?_
          refine va_get (D := (dC, dI)) (ci := 3) (v := .ref pl_deedPerson) (C := RX3) (T := TX3) (N := 9) hx hb hT inX3 hown hK hP 0 rfl rfl 7 (by decide) (hT _ mw_2_74) (fun _ h9 => h9) rfl dX3_addDeed_97 ?_
          refine lv_iload hx hb dX3_addDeed_100 (lv_at hl 0 rfl) ?_
          refine lv_iload_n hx hb dX3_addDeed_102 rfl (lv_at hl 3 rfl) ?_
          refine va_iast hx hb hK hP hD hS 2 1 rfl rfl (vp_in_iff.mpr (by omega)) dX3_addDeed_103 (fun H locs hP hD hS => ?_)
          have hP : va_P (dC, dI) vwCl [(pl, .inr (3, [.ref pl_told, .ref pl_first, .ref pl_gain, .ref pl_custom, .ref pl_ruled, .int pl_deeds, .ref pl_deedHour, .ref pl_deedPerson, .ref pl_deedClock])), (pl_deedHour, .inl (k_pl_deedHour, 16, .inl f_58)), (pl_deedPerson, .inl (k_pl_deedPerson, 16, .inl (upd g_38_f2 (g_38_l4 : Int32).toNatClampNeg (vp : Int32)))), (pl_deedClock, .inl (k_pl_deedClock, 16, .inl g_38_f3))] H := hP
          have hD : va_D A [(pl, .inr (3, [.ref pl_told, .ref pl_first, .ref pl_gain, .ref pl_custom, .ref pl_ruled, .int pl_deeds, .ref pl_deedHour, .ref pl_deedPerson, .ref pl_deedClock])), (pl_deedHour, .inl (k_pl_deedHour, 16, .inl f_58)), (pl_deedPerson, .inl (k_pl_deedPerson, 16, .inl (upd g_38_f2 (g_38_l4 : Int32).toNatClampNeg (vp : Int32)))), (pl_deedClock, .inl (k_pl_deedClock, 16, .inl g_38_f3))] := hD
          obtain ⟨f_59, hf_59, ef_59⟩ : ∃ g : Nat → Int32, Rg g (-1) 4 ∧ (upd g_38_f2 (g_38_l4 : Int32).toNatClampNeg (vp : Int32)) = g := ⟨_, Rg_upd hg_38_f2 (by omega), rfl⟩
          rw [ef_59] at hP hD
          refine lv_aload_n hx hb dX3_addDeed_104 rfl (lv_at hl 1 rfl) ?_
          refine va_get (D := (dC, dI)) (ci := 3) (v := .ref pl_deedClock) (C := RX3) (T := TX3) (N := 9) hx hb hT inX3 hown hK hP 0 rfl rfl 8 (by decide) (hT _ mw_2_76) (fun _ h9 => h9) rfl dX3_addDeed_105 ?_
          refine lv_iload hx hb dX3_addDeed_108 (lv_at hl 0 rfl) ?_
          refine lv_iload_n hx hb dX3_addDeed_110 rfl (lv_at hl 4 rfl) ?_
          refine va_iast hx hb hK hP hD hS 3 2 rfl rfl (vp_in_iff.mpr (by omega)) dX3_addDeed_111 (fun H locs hP hD hS => ?_)
          have hP : va_P (dC, dI) vwCl [(pl, .inr (3, [.ref pl_told, .ref pl_first, .ref pl_gain, .ref pl_custom, .ref pl_ruled, .int pl_deeds, .ref pl_deedHour, .ref pl_deedPerson, .ref pl_deedClock])), (pl_deedHour, .inl (k_pl_deedHour, 16, .inl f_58)), (pl_deedPerson, .inl (k_pl_deedPerson, 16, .inl f_59)), (pl_deedClock, .inl (k_pl_deedClock, 16, .inl (upd g_38_f3 (g_38_l4 : Int32).toNatClampNeg (vc : Int32))))] H := hP
          have hD : va_D A [(pl, .inr (3, [.ref pl_told, .ref pl_first, .ref pl_gain, .ref pl_custom, .ref pl_ruled, .int pl_deeds, .ref pl_deedHour, .ref pl_deedPerson, .ref pl_deedClock])), (pl_deedHour, .inl (k_pl_deedHour, 16, .inl f_58)), (pl_deedPerson, .inl (k_pl_deedPerson, 16, .inl f_59)), (pl_deedClock, .inl (k_pl_deedClock, 16, .inl (upd g_38_f3 (g_38_l4 : Int32).toNatClampNeg (vc : Int32))))] := hD
          obtain ⟨f_60, hf_60, ef_60⟩ : ∃ g : Nat → Int32, Rg g 0 4 ∧ (upd g_38_f3 (g_38_l4 : Int32).toNatClampNeg (vc : Int32)) = g := ⟨_, Rg_upd hg_38_f3 (by omega), rfl⟩
          rw [ef_60] at hP hD
          clear ef_60
          refine lv_aload_n hx hb dX3_addDeed_112 rfl (lv_at hl 1 rfl) ?_
          refine lv_dup hx hb dX3_addDeed_113 rfl ?_
          refine va_get (D := (dC, dI)) (ci := 3) (v := .int pl_deeds) (C := RX3) (T := TX3) (N := 9) hx hb hT inX3 hown hK hP 0 rfl rfl 5 (by decide) (hT _ mw_2_70) (fun _ h9 => h9) rfl dX3_addDeed_114 ?_
          refine lv_iconst (v := 1) hx hb dX3_addDeed_117 (by decide) ?_
          refine lv_iadd hx hb dX3_addDeed_118 ?_
          refine lv_topi (fun z_61 ez_61 => ?_)
          have kz_61 : z_61.toInt = pl_deeds.toInt + 1 := ti_add ez_61 rfl (by decide) (by omega) (by omega)
          clear ez_61
          refine va_put (D := (dC, dI)) (ci := 3) (v := .int z_61) (ty := .int) (C := RX3) (T := TX3) (N := 9) hx hb hT inX3 tyX3 tyX3_ok nmX3 hown hK hP hD hS 0 rfl rfl 5 (by decide) (hT _ mw_2_70) (fun _ h9 => h9) rfl (by decide +kernel) rfl rfl (Nat.le_of_ble_eq_true rfl) dX3_addDeed_119 (fun H locs hP hD hS => ?_)
          have hP : va_P (dC, dI) vwCl [(pl, .inr (3, [.ref pl_told, .ref pl_first, .ref pl_gain, .ref pl_custom, .ref pl_ruled, .int z_61, .ref pl_deedHour, .ref pl_deedPerson, .ref pl_deedClock])), (pl_deedHour, .inl (k_pl_deedHour, 16, .inl f_58)), (pl_deedPerson, .inl (k_pl_deedPerson, 16, .inl f_59)), (pl_deedClock, .inl (k_pl_deedClock, 16, .inl f_60))] H := hP
          have hD : va_D A [(pl, .inr (3, [.ref pl_told, .ref pl_first, .ref pl_gain, .ref pl_custom, .ref pl_ruled, .int z_61, .ref pl_deedHour, .ref pl_deedPerson, .ref pl_deedClock])), (pl_deedHour, .inl (k_pl_deedHour, 16, .inl f_58)), (pl_deedPerson, .inl (k_pl_deedPerson, 16, .inl f_59)), (pl_deedClock, .inl (k_pl_deedClock, 16, .inl f_60))] := hD
          have hP9 := hP.sub (ws' := [(pl, .inr (3, [.ref pl_told, .ref pl_first, .ref pl_gain, .ref pl_custom, .ref pl_ruled, .int z_61, .ref pl_deedHour, .ref pl_deedPerson, .ref pl_deedClock])), (pl_deedHour, .inl (k_pl_deedHour, 16, .inl f_58)), (pl_deedPerson, .inl (k_pl_deedPerson, 16, .inl f_59)), (pl_deedClock, .inl (k_pl_deedClock, 16, .inl f_60))]) [0, 1, 2, 3] rfl
          have hD9 := hD.sub (ws' := [(pl, .inr (3, [.ref pl_told, .ref pl_first, .ref pl_gain, .ref pl_custom, .ref pl_ruled, .int z_61, .ref pl_deedHour, .ref pl_deedPerson, .ref pl_deedClock])), (pl_deedHour, .inl (k_pl_deedHour, 16, .inl f_58)), (pl_deedPerson, .inl (k_pl_deedPerson, 16, .inl f_59)), (pl_deedClock, .inl (k_pl_deedClock, 16, .inl f_60))]) [0, 1, 2, 3] (by decide) rfl
          exact W.vret hx hb hr (fun t ht hW => ⟨⟨(), rfl, trivial, z_61, f_58, f_59, f_60, (by omega), hf_59, hf_60, (DPx_end hi_dpx_q_39 ef_59 (by omega) (by omega) (by omega) (by omega)), by rw [ht]; exact hP9, hD9⟩, hS.F ht⟩) hS.2.2 dX3_addDeed_122
        refine lv_if_le (tgt := 88) hx hb dX3_addDeed_18 (by decide) (fun c_62 => ?_) (fun c_62 => ?_)
        · have kc_62 := il_le c_62
          have := (by decide : (0 : Int32).toInt = 0)
          exact join_57  _ _ (hP.sub [0, 1, 2, 3] rfl) (hD.sub [0, 1, 2, 3] (by decide) rfl) hS _ (lv_sub hl [0, 1, 2, 3, 4] rfl)
        · have kc_62 := il_nle c_62
          have := (by decide : (0 : Int32).toInt = 0)
          refine lv_aload_n hx hb dX3_addDeed_21 rfl (lv_at hl 1 rfl) ?_
          refine lv_iload hx hb dX3_addDeed_22 (lv_at hl 0 rfl) ?_
          refine lv_iconst (v := 1) hx hb dX3_addDeed_24 (by decide) ?_
          refine lv_isub hx hb dX3_addDeed_25 ?_
          refine lv_topi (fun z_63 ez_63 => ?_)
          have kz_63 : z_63.toInt = g_38_l4.toInt - 1 := ti_sub ez_63 rfl (by decide) (by omega) (by omega)
          clear ez_63
          refine lv_iload_n hx hb dX3_addDeed_26 rfl (lv_at hl 2 rfl) ?_
          refine lv_iload_n hx hb dX3_addDeed_27 rfl (lv_at hl 3 rfl) ?_
          have hPc := hP.sub (ws' := [(pl, .inr (3, [.ref pl_told, .ref pl_first, .ref pl_gain, .ref pl_custom, .ref pl_ruled, .int pl_deeds, .ref pl_deedHour, .ref pl_deedPerson, .ref pl_deedClock])), (pl_deedHour, .inl (k_pl_deedHour, 16, .inl g_38_f1)), (pl_deedPerson, .inl (k_pl_deedPerson, 16, .inl g_38_f2))]) [0, 1, 2] rfl
          have hDc := hD.sub (ws' := [(pl, .inr (3, [.ref pl_told, .ref pl_first, .ref pl_gain, .ref pl_custom, .ref pl_ruled, .int pl_deeds, .ref pl_deedHour, .ref pl_deedPerson, .ref pl_deedClock])), (pl_deedHour, .inl (k_pl_deedHour, 16, .inl g_38_f1)), (pl_deedPerson, .inl (k_pl_deedPerson, 16, .inl g_38_f2))]) [0, 1, 2] (by decide) rfl
          have hKc := hK.sub (tys' := [(k_pl_deedHour, .int), (k_pl_deedPerson, .int)]) [0, 1] rfl
          have hFc := va_free (wc := [(pl, .inr (3, [.ref pl_told, .ref pl_first, .ref pl_gain, .ref pl_custom, .ref pl_ruled, .int pl_deeds, .ref pl_deedHour, .ref pl_deedPerson, .ref pl_deedClock])), (pl_deedHour, .inl (k_pl_deedHour, 16, .inl g_38_f1)), (pl_deedPerson, .inl (k_pl_deedPerson, 16, .inl g_38_f2))]) hD hS hA [0, 1, 2] rfl
          refine va_calli (va_runV (As := [.int z_63, .int vh, .int vp]) (rest := []) ⟨hx, hb, hml, hown, hT⟩ (c_X3_isBehind l dC dI H.size pl z_63 vh vp pl_told pl_first pl_gain pl_custom pl_ruled pl_deeds pl_deedHour pl_deedPerson pl_deedClock k_pl_deedHour g_38_f1 k_pl_deedPerson g_38_f2 (by omega) hg_38_f2 (by omega)) (cwV 3 hT (gwV mw_4_5 mw_4_7 mp_2_14 mw_1_10 mw_4_8) rfl rfl rfl (by decide +kernel) ⟨Nat.le_of_ble_eq_true rfl, Nat.le_of_ble_eq_true rfl⟩) ⟨fun a U g mk q => by obtain ⟨q0, q1, qP, qK, qD⟩ := q; exact ⟨q0, q1, qP, va_K.moved (u := U) (U := U.calling g mk a) (Vm.Alike.refl U.vm) qK, qD⟩, va_recv hK hP (ci := 3) (q0 := 0) rfl rfl, fun U hU hW => ⟨rfl, by rw [hU], by rw [hU]; exact hPc, va_K.moved hW.alike hKc, hDc.weaken (fun _ _ _ _ => trivial)⟩⟩ rfl rfl hl.1 rfl (lv_room (Nat.le_of_ble_eq_true rfl)) dX3_addDeed_28 ⟨Nat.le_of_ble_eq_true rfl, Nat.le_of_ble_eq_true rfl⟩) hS (fun q _ h => hFc q h) hFc (fun r_64 u t H1 locs ht hvm hw hB hz1 hk1 hS => ?_)
          obtain ⟨hP1, hD1⟩ := hB
          rw [ht] at hP1
          obtain ⟨hP, hD⟩ := va_join (wr := [(pl_deedClock, .inl (k_pl_deedClock, 16, .inl g_38_f3))]) (w1 := [(pl, .inr (3, [.ref pl_told, .ref pl_first, .ref pl_gain, .ref pl_custom, .ref pl_ruled, .int pl_deeds, .ref pl_deedHour, .ref pl_deedPerson, .ref pl_deedClock])), (pl_deedHour, .inl (k_pl_deedHour, 16, .inl g_38_f1)), (pl_deedPerson, .inl (k_pl_deedPerson, 16, .inl g_38_f2))]) hP hD [0, 1, 2] [3] rfl rfl (by decide) (by decide) hk1 hFc hP1 hD1
          generalize H1 = H at hP hS ⊢
          have hP : va_P (dC, dI) vwCl [(pl_deedClock, .inl (k_pl_deedClock, 16, .inl g_38_f3)), (pl, .inr (3, [.ref pl_told, .ref pl_first, .ref pl_gain, .ref pl_custom, .ref pl_ruled, .int pl_deeds, .ref pl_deedHour, .ref pl_deedPerson, .ref pl_deedClock])), (pl_deedHour, .inl (k_pl_deedHour, 16, .inl g_38_f1)), (pl_deedPerson, .inl (k_pl_deedPerson, 16, .inl g_38_f2))] H := hP
          have hD : va_D A [(pl_deedClock, .inl (k_pl_deedClock, 16, .inl g_38_f3)), (pl, .inr (3, [.ref pl_told, .ref pl_first, .ref pl_gain, .ref pl_custom, .ref pl_ruled, .int pl_deeds, .ref pl_deedHour, .ref pl_deedPerson, .ref pl_deedClock])), (pl_deedHour, .inl (k_pl_deedHour, 16, .inl g_38_f1)), (pl_deedPerson, .inl (k_pl_deedPerson, 16, .inl g_38_f2))] := hD
          clear hPc hDc hKc hFc hP1 hD1 hk1 hz1 ht hvm
          have hwr_64 : (0 ≤ r_64.toInt ∧ r_64.toInt ≤ 1) := hw
          clear hw
          refine lv_if_eq (tgt := 88) hx hb dX3_addDeed_31 (by decide) (fun c_65 => ?_) (fun c_65 => ?_)
          · have kc_65 := il_eq c_65
            have := (by decide : (0 : Int32).toInt = 0)
            exact join_57  _ _ (hP.sub [1, 2, 3, 0] rfl) (hD.sub [1, 2, 3, 0] (by decide) rfl) hS _ (lv_sub hl [0, 1, 2, 3, 4] rfl)
          · have kc_65 := il_ne c_65
            have := (by decide : (0 : Int32).toInt = 0)
            refine lv_aload_n hx hb dX3_addDeed_34 rfl (lv_at hl 1 rfl) ?_
            refine va_get (D := (dC, dI)) (ci := 3) (v := .ref pl_deedHour) (C := RX3) (T := TX3) (N := 9) hx hb hT inX3 hown hK hP 1 rfl rfl 6 (by decide) (hT _ mw_2_72) (fun _ h9 => h9) rfl dX3_addDeed_35 ?_
            refine lv_iload hx hb dX3_addDeed_38 (lv_at hl 0 rfl) ?_
            refine lv_aload_n hx hb dX3_addDeed_40 rfl (lv_at hl 1 rfl) ?_
            refine va_get (D := (dC, dI)) (ci := 3) (v := .ref pl_deedHour) (C := RX3) (T := TX3) (N := 9) hx hb hT inX3 hown hK hP 1 rfl rfl 6 (by decide) (hT _ mw_2_72) (fun _ h9 => h9) rfl dX3_addDeed_41 ?_
            refine lv_iload hx hb dX3_addDeed_44 (lv_at hl 0 rfl) ?_
            refine lv_iconst (v := 1) hx hb dX3_addDeed_46 (by decide) ?_
            refine lv_isub hx hb dX3_addDeed_47 ?_
            refine lv_topi (fun z_66 ez_66 => ?_)
            have kz_66 : z_66.toInt = g_38_l4.toInt - 1 := ti_sub ez_66 rfl (by decide) (by omega) (by omega)
            clear ez_66
            refine va_iald hx hb hK hP 2 0 rfl rfl (vp_in_iff.mpr (by omega)) dX3_addDeed_48 ?_
            refine lv_topi (fun z_67 ez_67 => ?_)
            refine va_iast hx hb hK hP hD hS 2 0 rfl rfl (vp_in_iff.mpr (by omega)) dX3_addDeed_49 (fun H locs hP hD hS => ?_)
            have hP : va_P (dC, dI) vwCl [(pl_deedClock, .inl (k_pl_deedClock, 16, .inl g_38_f3)), (pl, .inr (3, [.ref pl_told, .ref pl_first, .ref pl_gain, .ref pl_custom, .ref pl_ruled, .int pl_deeds, .ref pl_deedHour, .ref pl_deedPerson, .ref pl_deedClock])), (pl_deedHour, .inl (k_pl_deedHour, 16, .inl (upd g_38_f1 (g_38_l4 : Int32).toNatClampNeg (z_67 : Int32)))), (pl_deedPerson, .inl (k_pl_deedPerson, 16, .inl g_38_f2))] H := hP
            have hD : va_D A [(pl_deedClock, .inl (k_pl_deedClock, 16, .inl g_38_f3)), (pl, .inr (3, [.ref pl_told, .ref pl_first, .ref pl_gain, .ref pl_custom, .ref pl_ruled, .int pl_deeds, .ref pl_deedHour, .ref pl_deedPerson, .ref pl_deedClock])), (pl_deedHour, .inl (k_pl_deedHour, 16, .inl (upd g_38_f1 (g_38_l4 : Int32).toNatClampNeg (z_67 : Int32)))), (pl_deedPerson, .inl (k_pl_deedPerson, 16, .inl g_38_f2))] := hD
            obtain ⟨f_68, ef_68⟩ : ∃ g : Nat → Int32, (upd g_38_f1 (g_38_l4 : Int32).toNatClampNeg (z_67 : Int32)) = g := ⟨_, rfl⟩
            rw [ef_68] at hP hD
            clear ef_68
            refine lv_aload_n hx hb dX3_addDeed_50 rfl (lv_at hl 1 rfl) ?_
            refine va_get (D := (dC, dI)) (ci := 3) (v := .ref pl_deedPerson) (C := RX3) (T := TX3) (N := 9) hx hb hT inX3 hown hK hP 1 rfl rfl 7 (by decide) (hT _ mw_2_74) (fun _ h9 => h9) rfl dX3_addDeed_51 ?_
            refine lv_iload hx hb dX3_addDeed_54 (lv_at hl 0 rfl) ?_
            refine lv_aload_n hx hb dX3_addDeed_56 rfl (lv_at hl 1 rfl) ?_
            refine va_get (D := (dC, dI)) (ci := 3) (v := .ref pl_deedPerson) (C := RX3) (T := TX3) (N := 9) hx hb hT inX3 hown hK hP 1 rfl rfl 7 (by decide) (hT _ mw_2_74) (fun _ h9 => h9) rfl dX3_addDeed_57 ?_
            refine lv_iload hx hb dX3_addDeed_60 (lv_at hl 0 rfl) ?_
            refine lv_iconst (v := 1) hx hb dX3_addDeed_62 (by decide) ?_
            refine lv_isub hx hb dX3_addDeed_63 ?_
            refine lv_topi (fun z_69 ez_69 => ?_)
            have kz_69 : z_69.toInt = g_38_l4.toInt - 1 := ti_sub ez_69 rfl (by decide) (by omega) (by omega)
            clear ez_69
            refine va_iald hx hb hK hP 3 1 rfl rfl (vp_in_iff.mpr (by omega)) dX3_addDeed_64 ?_
            refine lv_topi (fun z_70 ez_70 => ?_)
            have kz_70 : (-1) ≤ z_70.toInt ∧ z_70.toInt ≤ 4 := by rw [ez_70]; exact hg_38_f2 _
            refine va_iast hx hb hK hP hD hS 3 1 rfl rfl (vp_in_iff.mpr (by omega)) dX3_addDeed_65 (fun H locs hP hD hS => ?_)
            have hP : va_P (dC, dI) vwCl [(pl_deedClock, .inl (k_pl_deedClock, 16, .inl g_38_f3)), (pl, .inr (3, [.ref pl_told, .ref pl_first, .ref pl_gain, .ref pl_custom, .ref pl_ruled, .int pl_deeds, .ref pl_deedHour, .ref pl_deedPerson, .ref pl_deedClock])), (pl_deedHour, .inl (k_pl_deedHour, 16, .inl f_68)), (pl_deedPerson, .inl (k_pl_deedPerson, 16, .inl (upd g_38_f2 (g_38_l4 : Int32).toNatClampNeg (z_70 : Int32))))] H := hP
            have hD : va_D A [(pl_deedClock, .inl (k_pl_deedClock, 16, .inl g_38_f3)), (pl, .inr (3, [.ref pl_told, .ref pl_first, .ref pl_gain, .ref pl_custom, .ref pl_ruled, .int pl_deeds, .ref pl_deedHour, .ref pl_deedPerson, .ref pl_deedClock])), (pl_deedHour, .inl (k_pl_deedHour, 16, .inl f_68)), (pl_deedPerson, .inl (k_pl_deedPerson, 16, .inl (upd g_38_f2 (g_38_l4 : Int32).toNatClampNeg (z_70 : Int32))))] := hD
            obtain ⟨f_71, hf_71, ef_71⟩ : ∃ g : Nat → Int32, Rg g (-1) 4 ∧ (upd g_38_f2 (g_38_l4 : Int32).toNatClampNeg (z_70 : Int32)) = g := ⟨_, Rg_upd hg_38_f2 (by omega), rfl⟩
            rw [ef_71] at hP hD
            refine lv_aload_n hx hb dX3_addDeed_66 rfl (lv_at hl 1 rfl) ?_
            refine va_get (D := (dC, dI)) (ci := 3) (v := .ref pl_deedClock) (C := RX3) (T := TX3) (N := 9) hx hb hT inX3 hown hK hP 1 rfl rfl 8 (by decide) (hT _ mw_2_76) (fun _ h9 => h9) rfl dX3_addDeed_67 ?_
            refine lv_iload hx hb dX3_addDeed_70 (lv_at hl 0 rfl) ?_
            refine lv_aload_n hx hb dX3_addDeed_72 rfl (lv_at hl 1 rfl) ?_
            refine va_get (D := (dC, dI)) (ci := 3) (v := .ref pl_deedClock) (C := RX3) (T := TX3) (N := 9) hx hb hT inX3 hown hK hP 1 rfl rfl 8 (by decide) (hT _ mw_2_76) (fun _ h9 => h9) rfl dX3_addDeed_73 ?_
            refine lv_iload hx hb dX3_addDeed_76 (lv_at hl 0 rfl) ?_
            refine lv_iconst (v := 1) hx hb dX3_addDeed_78 (by decide) ?_
            refine lv_isub hx hb dX3_addDeed_79 ?_
            refine lv_topi (fun z_72 ez_72 => ?_)
            have kz_72 : z_72.toInt = g_38_l4.toInt - 1 := ti_sub ez_72 rfl (by decide) (by omega) (by omega)
            clear ez_72
            refine va_iald hx hb hK hP 0 2 rfl rfl (vp_in_iff.mpr (by omega)) dX3_addDeed_80 ?_
            refine lv_topi (fun z_73 ez_73 => ?_)
            have kz_73 : 0 ≤ z_73.toInt ∧ z_73.toInt ≤ 4 := by rw [ez_73]; exact hg_38_f3 _
            refine va_iast hx hb hK hP hD hS 0 2 rfl rfl (vp_in_iff.mpr (by omega)) dX3_addDeed_81 (fun H locs hP hD hS => ?_)
            have hP : va_P (dC, dI) vwCl [(pl_deedClock, .inl (k_pl_deedClock, 16, .inl (upd g_38_f3 (g_38_l4 : Int32).toNatClampNeg (z_73 : Int32)))), (pl, .inr (3, [.ref pl_told, .ref pl_first, .ref pl_gain, .ref pl_custom, .ref pl_ruled, .int pl_deeds, .ref pl_deedHour, .ref pl_deedPerson, .ref pl_deedClock])), (pl_deedHour, .inl (k_pl_deedHour, 16, .inl f_68)), (pl_deedPerson, .inl (k_pl_deedPerson, 16, .inl f_71))] H := hP
            have hD : va_D A [(pl_deedClock, .inl (k_pl_deedClock, 16, .inl (upd g_38_f3 (g_38_l4 : Int32).toNatClampNeg (z_73 : Int32)))), (pl, .inr (3, [.ref pl_told, .ref pl_first, .ref pl_gain, .ref pl_custom, .ref pl_ruled, .int pl_deeds, .ref pl_deedHour, .ref pl_deedPerson, .ref pl_deedClock])), (pl_deedHour, .inl (k_pl_deedHour, 16, .inl f_68)), (pl_deedPerson, .inl (k_pl_deedPerson, 16, .inl f_71))] := hD
            obtain ⟨f_74, hf_74, ef_74⟩ : ∃ g : Nat → Int32, Rg g 0 4 ∧ (upd g_38_f3 (g_38_l4 : Int32).toNatClampNeg (z_73 : Int32)) = g := ⟨_, Rg_upd hg_38_f3 (by omega), rfl⟩
            rw [ef_74] at hP hD
            clear ef_74
            obtain ⟨z_75, ez_75⟩ : ∃ y : Int32, y = g_38_l4 + Int32.ofInt (-1) := ⟨_, rfl⟩
            have kz_75 : z_75.toInt = g_38_l4.toInt + (-1) := ti_add ez_75 rfl (by decide) (by omega) (by omega)
            refine lv_iinc (v := z_75) (lv' := [(4, .int z_75), (0, .ref pl), (1, .int vh), (2, .int vp), (3, .int vc)]) hx hb dX3_addDeed_82 hl (k := 0) rfl (ez_75.symm) (by decide) rfl (fun ls hl => ?_)
            clear ez_75
            refine lv_goto (tgt := 16) hx hb dX3_addDeed_85 (by decide) ?_
            exact ih40 z_75 f_68 f_71 f_74 (by omega) hf_71 hf_74 (DPx_step hi_dpx_q_39 ef_71 (by rw [ez_70]; exact hi_dpx_q_39 _ (by omega) (by omega) (by omega))) (by omega) (by omega) _ _ (hP.sub [1, 2, 3, 0] rfl) (hD.sub [1, 2, 3, 0] (by decide) rfl) hS _ (lv_sub hl [0, 1, 2, 3, 4] rfl)
    exact loop_40 4294967296 pl_deeds f_pl_deedHour f_pl_deedPerson f_pl_deedClock (by omega) h_f_pl_deedPerson h_f_pl_deedClock (DPx_of hdp) (by omega) (by omega) _ _ (hP.sub [0, 1, 2, 3] rfl) (hD.sub [0, 1, 2, 3] (by decide) rfl) hS _ (lv_sub hl [0, 1, 2, 3, 4] rfl)
  · have kc_1 := il_nlt c_1
    have := (by decide : (16 : Int32).toInt = 16)
    have hP9 := hP.sub (ws' := [(pl, .inr (3, [.ref pl_told, .ref pl_first, .ref pl_gain, .ref pl_custom, .ref pl_ruled, .int pl_deeds, .ref pl_deedHour, .ref pl_deedPerson, .ref pl_deedClock])), (pl_deedHour, .inl (k_pl_deedHour, 16, .inl f_pl_deedHour)), (pl_deedPerson, .inl (k_pl_deedPerson, 16, .inl f_pl_deedPerson)), (pl_deedClock, .inl (k_pl_deedClock, 16, .inl f_pl_deedClock))]) [0, 1, 2, 3] rfl
    have hD9 := hD.sub (ws' := [(pl, .inr (3, [.ref pl_told, .ref pl_first, .ref pl_gain, .ref pl_custom, .ref pl_ruled, .int pl_deeds, .ref pl_deedHour, .ref pl_deedPerson, .ref pl_deedClock])), (pl_deedHour, .inl (k_pl_deedHour, 16, .inl f_pl_deedHour)), (pl_deedPerson, .inl (k_pl_deedPerson, 16, .inl f_pl_deedPerson)), (pl_deedClock, .inl (k_pl_deedClock, 16, .inl f_pl_deedClock))]) [0, 1, 2, 3] (by decide) rfl
    exact W.vret hx hb hr (fun t ht hW => ⟨⟨(), rfl, trivial, pl_deeds, f_pl_deedHour, f_pl_deedPerson, f_pl_deedClock, (by omega), h_f_pl_deedPerson, h_f_pl_deedClock, hdp, by rw [ht]; exact hP9, hD9⟩, hS.F ht⟩) hS.2.2 dX3_addDeed_9
