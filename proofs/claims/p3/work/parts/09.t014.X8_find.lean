theorem dX8_find_0 : decode cX8_find 0 = .ok (.iconst 0, 1) := by decide +kernel
theorem dX8_find_1 : decode cX8_find 1 = .ok (.istore 4, 2) := by decide +kernel
theorem dX8_find_3 : decode cX8_find 3 = .ok (.iload 4, 2) := by decide +kernel
theorem dX8_find_5 : decode cX8_find 5 = .ok (.iload_n 2, 1) := by decide +kernel
theorem dX8_find_31 : decode cX8_find 31 = .ok (.iconst (-1), 1) := by decide +kernel
theorem dX8_find_32 : decode cX8_find 32 = .ok (.ireturn, 1) := by decide +kernel
theorem dX8_find_9 : decode cX8_find 9 = .ok (.aload_n 0, 1) := by decide +kernel
theorem dX8_find_10 : decode cX8_find 10 = .ok (.getfield 9, 3) := by decide +kernel
theorem dX8_find_13 : decode cX8_find 13 = .ok (.iload_n 1, 1) := by decide +kernel
theorem dX8_find_14 : decode cX8_find 14 = .ok (.iload 4, 2) := by decide +kernel
theorem dX8_find_18 : decode cX8_find 18 = .ok (.iload_n 3, 1) := by decide +kernel
theorem dX8_find_28 : decode cX8_find 28 = .ok (.goto (-25), 3) := by decide +kernel
theorem dX8_find_22 : decode cX8_find 22 = .ok (.iload 4, 2) := by decide +kernel
theorem dX8_find_24 : decode cX8_find 24 = .ok (.ireturn, 1) := by decide +kernel
theorem dX8_find_6 : decode cX8_find 6 = .ok (.if_icmp .ge 25, 3) := by decide +kernel
theorem dX8_find_16 : decode cX8_find 16 = .ok (.iadd, 1) := by decide +kernel
theorem dX8_find_17 : decode cX8_find 17 = .ok (.iaload, 1) := by decide +kernel
theorem dX8_find_19 : decode cX8_find 19 = .ok (.if_icmp .ne 6, 3) := by decide +kernel
theorem dX8_find_25 : decode cX8_find 25 = .ok (.iinc 4 1, 3) := by decide +kernel
abbrev q_X8_find (dC : Nat → ClassId) (dI : Nat → Nat → Nat) (A : Nat → Prop) (td : Nat) (vf : Int32) (vn : Int32) (vw : Int32) (td_clocks : Int32) (td_people : Int32) (td_rounds : Int32) (td_guns : Int32) (td_lines : Int32) (td_name : Nat) (td_first : Nat) (td_gain : Nat) (td_rough : Nat) (td_custom : Nat) (td_part : Nat) (td_whole : Nat) (td_roundPerson : Nat) (td_roundClock : Nat) (td_roundHour : Nat) (td_gunClock : Nat) (td_gunHour : Nat) (td_rules : Nat) (k_td_name : ClassId) (f_td_name : Nat → Int32) : Array Value → State → Outcome → State → Prop := va_Qi (fun (r : Int32) (_ : Unit) => (-1 ≤ r.toInt ∧ (r.toInt = -1 ∨ r.toInt < vn.toInt)) ∧ r.toInt = pf_find (nx f_td_name vf) vw.toInt vn.toInt.toNat) (fun (_ : Unit) (t : State) => va_P (dC, dI) vwCl [(td, .inr (8, [.int td_clocks, .int td_people, .int td_rounds, .int td_guns, .int td_lines, .ref td_name, .ref td_first, .ref td_gain, .ref td_rough, .ref td_custom, .ref td_part, .ref td_whole, .ref td_roundPerson, .ref td_roundClock, .ref td_roundHour, .ref td_gunClock, .ref td_gunHour, .ref td_rules])), (td_name, .inl (k_td_name, 10, .inl f_td_name))] t.heap ∧ va_D A [(td, .inr (8, [.int td_clocks, .int td_people, .int td_rounds, .int td_guns, .int td_lines, .ref td_name, .ref td_first, .ref td_gain, .ref td_rough, .ref td_custom, .ref td_part, .ref td_whole, .ref td_roundPerson, .ref td_roundClock, .ref td_roundHour, .ref td_gunClock, .ref td_gunHour, .ref td_rules])), (td_name, .inl (k_td_name, 10, .inl f_td_name))]) A
set_option maxHeartbeats 4000000 in
set_option maxRecDepth 100000 in
theorem c_X8_find (l : Launch) (dC : Nat → ClassId) (dI : Nat → Nat → Nat) (sz : Nat) (td : Nat) (vf : Int32) (vn : Int32) (vw : Int32) (td_clocks : Int32) (td_people : Int32) (td_rounds : Int32) (td_guns : Int32) (td_lines : Int32) (td_name : Nat) (td_first : Nat) (td_gain : Nat) (td_rough : Nat) (td_custom : Nat) (td_part : Nat) (td_whole : Nat) (td_roundPerson : Nat) (td_roundClock : Nat) (td_roundHour : Nat) (td_gunClock : Nat) (td_gunHour : Nat) (td_rules : Nat) (k_td_name : ClassId) (f_td_name : Nat → Int32) (h_td_clocks : 0 ≤ td_clocks.toInt ∧ td_clocks.toInt ≤ 5) (h_td_people : 0 ≤ td_people.toInt ∧ td_people.toInt ≤ 5) (h_td_rounds : 0 ≤ td_rounds.toInt ∧ td_rounds.toInt ≤ 12) (h_td_guns : 0 ≤ td_guns.toInt ∧ td_guns.toInt ≤ 3) (h_vf : 0 ≤ vf.toInt ∧ vf.toInt ≤ 10) (h_vn : 0 ≤ vn.toInt ∧ vn.toInt ≤ 10) (hs : vf.toInt + vn.toInt ≤ 10) : Met l yX8_find (pw_w yX8_find cX8_find 5 (some .int)) ({ frames := 0, cells := 0, slots := 0, locals := 0 }) (va_Pc [.ref td, .int vf, .int vn, .int vw] (fun U => U.heap.size = sz ∧ va_P (dC, dI) vwCl [(td, .inr (8, [.int td_clocks, .int td_people, .int td_rounds, .int td_guns, .int td_lines, .ref td_name, .ref td_first, .ref td_gain, .ref td_rough, .ref td_custom, .ref td_part, .ref td_whole, .ref td_roundPerson, .ref td_roundClock, .ref td_roundHour, .ref td_gunClock, .ref td_gunHour, .ref td_rules])), (td_name, .inl (k_td_name, 10, .inl f_td_name))] U.heap ∧ va_K (dC, dI) vwCl [(k_td_name, .int)] U ∧ va_D (fun _ => True) [(td, .inr (8, [.int td_clocks, .int td_people, .int td_rounds, .int td_guns, .int td_lines, .ref td_name, .ref td_first, .ref td_gain, .ref td_rough, .ref td_custom, .ref td_part, .ref td_whole, .ref td_roundPerson, .ref td_roundClock, .ref td_roundHour, .ref td_gunClock, .ref td_gunHour, .ref td_rules])), (td_name, .inl (k_td_name, 10, .inl f_td_name))])) (q_X8_find dC dI (va_A [(td, .inr (8, [.int td_clocks, .int td_people, .int td_rounds, .int td_guns, .int td_lines, .ref td_name, .ref td_first, .ref td_gain, .ref td_rough, .ref td_custom, .ref td_part, .ref td_whole, .ref td_roundPerson, .ref td_roundClock, .ref td_roundHour, .ref td_gunClock, .ref td_gunHour, .ref td_rules])), (td_name, .inl (k_td_name, 10, .inl f_td_name))] sz) td vf vn vw td_clocks td_people td_rounds td_guns td_lines td_name td_first td_gain td_rough td_custom td_part td_whole td_roundPerson td_roundClock td_roundHour td_gunClock td_gunHour td_rules k_td_name f_td_name) 0 0 (va_A [(td, .inr (8, [.int td_clocks, .int td_people, .int td_rounds, .int td_guns, .int td_lines, .ref td_name, .ref td_first, .ref td_gain, .ref td_rough, .ref td_custom, .ref td_part, .ref td_whole, .ref td_roundPerson, .ref td_roundClock, .ref td_roundHour, .ref td_gunClock, .ref td_gunHour, .ref td_rules])), (td_name, .inl (k_td_name, 10, .inl f_td_name))] sz) := by
  refine Met.ofW (cc := cX8_find) (maxL := 5) (ret := (some .int)) (by decide) rfl ?_
  intro p e s m args below meth c s₁ B hml hv
  obtain ⟨rfl, hsz, hP, hK, hD0⟩ := hv
  have hx := B.exec
  have hb := B.bytes
  have hr := B.returns
  have hts := atoms_spec (ws := (pw_w yX8_find cX8_find 5 (some .int))) B.pre
  have hT : ∀ w ∈ pw_T, w.before _ s = true := fun w h => hts w (List.mem_cons_of_mem _ h)
  have hown : s.vm.findClass RX8 = some m.cls := findClass_of_methodNamed B.named
  have hlocks := B.notSynchronized
  subst hsz
  have hD := hD0.self (sz := s.heap.size)
  generalize hAe : va_A [(td, .inr (8, [.int td_clocks, .int td_people, .int td_rounds, .int td_guns, .int td_lines, .ref td_name, .ref td_first, .ref td_gain, .ref td_rough, .ref td_custom, .ref td_part, .ref td_whole, .ref td_roundPerson, .ref td_roundClock, .ref td_roundHour, .ref td_gunClock, .ref td_gunHour, .ref td_rules])), (td_name, .inl (k_td_name, 10, .inl f_td_name))] s.heap.size = A at hD ⊢
  have hA : ∀ q : Nat, s.heap.size ≤ q → A q := fun q h => by rw [← hAe]; exact Or.inr h
  have hS : va_S A s.heap s.heap [] := va_S.rf
  have hP : va_P (dC, dI) vwCl [(td, .inr (8, [.int td_clocks, .int td_people, .int td_rounds, .int td_guns, .int td_lines, .ref td_name, .ref td_first, .ref td_gain, .ref td_rough, .ref td_custom, .ref td_part, .ref td_whole, .ref td_roundPerson, .ref td_roundClock, .ref td_roundHour, .ref td_gunClock, .ref td_gunHour, .ref td_rules])), (td_name, .inl (k_td_name, 10, .inl f_td_name))] s.heap := hP
  have hl := lv_entry ([.ref td, .int vf, .int vn, .int vw]) (n := 5) (Nat.le_of_ble_eq_true rfl)
  rw [lg_entry_eq]
  generalize (lg_sl ([.ref td, .int vf, .int vn, .int vw]) ++ List.replicate (5 - (lg_sl ([.ref td, .int vf, .int vn, .int vw])).length) Slot.unset).toArray = ls at hl ⊢
  have hl : lv_has ls 5 [(0, .ref td), (1, .int vf), (2, .int vn), (3, .int vw)] := hl
  refine lv_iconst (v := 0) hx hb dX8_find_0 (by decide) ?_
  refine lv_istore (lv' := [(4, .int 0), (0, .ref td), (1, .int vf), (2, .int vn), (3, .int vw)]) hx hb dX8_find_1 hl (by decide) rfl (fun ls hl => ?_)
  have loop_9 : ∀ (fu : Nat), ∀ (g_7_l4 : Int32), (0 ≤ g_7_l4.toInt ∧ g_7_l4.toInt ≤ 10) → (FNx f_td_name vf vw g_7_l4) → (10 - g_7_l4.toInt < (fu : Int)) → ∀ (H : Heap) (locs : List Loc), va_P (dC, dI) vwCl [(td, .inr (8, [.int td_clocks, .int td_people, .int td_rounds, .int td_guns, .int td_lines, .ref td_name, .ref td_first, .ref td_gain, .ref td_rough, .ref td_custom, .ref td_part, .ref td_whole, .ref td_roundPerson, .ref td_roundClock, .ref td_roundHour, .ref td_gunClock, .ref td_gunHour, .ref td_rules])), (td_name, .inl (k_td_name, 10, .inl f_td_name))] H → va_D A [(td, .inr (8, [.int td_clocks, .int td_people, .int td_rounds, .int td_guns, .int td_lines, .ref td_name, .ref td_first, .ref td_gain, .ref td_rough, .ref td_custom, .ref td_part, .ref td_whole, .ref td_roundPerson, .ref td_roundClock, .ref td_roundHour, .ref td_gunClock, .ref td_gunHour, .ref td_rules])), (td_name, .inl (k_td_name, 10, .inl f_td_name))] → va_S A s.heap H locs → ∀ (ls : Array Slot), lv_has ls 5 [(4, .int g_7_l4), (0, .ref td), (1, .int vf), (2, .int vn), (3, .int vw)] → W p l e (headSpec (pw_w yX8_find cX8_find 5 (some .int)) ({ frames := 0, cells := 0, slots := 0, locals := 0 })).room s m ([.ref td, .int vf, .int vn, .int vw] : List Value).toArray below meth c H locs 0 0 (MQ below (q_X8_find dC dI A td vf vn vw td_clocks td_people td_rounds td_guns td_lines td_name td_first td_gain td_rough td_custom td_part td_whole td_roundPerson td_roundClock td_roundHour td_gunClock td_gunHour td_rules k_td_name f_td_name) ([.ref td, .int vf, .int vn, .int vw] : List Value).toArray s 0 0 A) (F0 m 3 ls []) := by
    intro fu
    induction fu with
    | zero => intro g_7_l4 hg_7_l4 hi_fn_q_8 hfu; exact absurd hfu (by omega)
    | succ fu9 ih9 =>
      intro g_7_l4 hg_7_l4 hi_fn_q_8 hfu9 H locs hP hD hS ls hl
      refine lv_iload hx hb dX8_find_3 (lv_at hl 0 rfl) ?_
      refine lv_iload_n hx hb dX8_find_5 rfl (lv_at hl 3 rfl) ?_
      refine lv_icmp_ge (tgt := 31) hx hb dX8_find_6 (by decide) (fun c_10 => ?_) (fun c_10 => ?_)
      · have kc_10 := il_le c_10
        refine lv_iconst (v := (-1)) hx hb dX8_find_31 (by decide) ?_
        have hP9 := hP.sub (ws' := [(td, .inr (8, [.int td_clocks, .int td_people, .int td_rounds, .int td_guns, .int td_lines, .ref td_name, .ref td_first, .ref td_gain, .ref td_rough, .ref td_custom, .ref td_part, .ref td_whole, .ref td_roundPerson, .ref td_roundClock, .ref td_roundHour, .ref td_gunClock, .ref td_gunHour, .ref td_rules])), (td_name, .inl (k_td_name, 10, .inl f_td_name))]) [0, 1] rfl
        have hD9 := hD.sub (ws' := [(td, .inr (8, [.int td_clocks, .int td_people, .int td_rounds, .int td_guns, .int td_lines, .ref td_name, .ref td_first, .ref td_gain, .ref td_rough, .ref td_custom, .ref td_part, .ref td_whole, .ref td_roundPerson, .ref td_roundClock, .ref td_roundHour, .ref td_gunClock, .ref td_gunHour, .ref td_rules])), (td_name, .inl (k_td_name, 10, .inl f_td_name))]) [0, 1] (by decide) rfl
        have := (by decide : ((-1) : Int32).toInt = -1)
        exact W.iret (v := (-1)) hx hb hr (fun t ht hW => ⟨⟨(-1), (), rfl, ⟨(by omega), FNx_n hi_fn_q_8 (by omega)⟩, by rw [ht]; exact hP9, hD9⟩, hS.F ht⟩) hS.2.2 dX8_find_32
      · have kc_10 := il_nle c_10
        refine lv_aload_n hx hb dX8_find_9 rfl (lv_at hl 1 rfl) ?_
        refine va_get (D := (dC, dI)) (ci := 8) (v := .ref td_name) (C := RX8) (T := TX8) (N := 18) hx hb hT inX8 hown hK hP 0 rfl rfl 5 (by decide) (hT _ mw_1_207) (fun _ h9 => h9) rfl dX8_find_10 ?_
        refine lv_iload_n hx hb dX8_find_13 rfl (lv_at hl 2 rfl) ?_
        refine lv_iload hx hb dX8_find_14 (lv_at hl 0 rfl) ?_
        refine lv_iadd hx hb dX8_find_16 ?_
        refine lv_topi (fun z_11 ez_11 => ?_)
        have kz_11 : z_11.toInt = vf.toInt + g_7_l4.toInt := ti_add ez_11 rfl rfl (by omega) (by omega)
        clear ez_11
        refine va_iald hx hb hK hP 1 0 rfl rfl (vp_in_iff.mpr (by omega)) dX8_find_17 ?_
        refine lv_topi (fun z_12 ez_12 => ?_)
        refine lv_iload_n hx hb dX8_find_18 rfl (lv_at hl 4 rfl) ?_
        refine lv_icmp_ne (tgt := 25) hx hb dX8_find_19 (by decide) (fun c_13 => ?_) (fun c_13 => ?_)
        · have kc_13 := il_ne c_13
          have := Int32.toInt_lt z_12; have := Int32.le_toInt z_12
          have := Int32.toInt_lt vw; have := Int32.le_toInt vw
          obtain ⟨z_14, ez_14⟩ : ∃ y : Int32, y = g_7_l4 + Int32.ofInt (1) := ⟨_, rfl⟩
          have kz_14 : z_14.toInt = g_7_l4.toInt + (1) := ti_add ez_14 rfl (by decide) (by omega) (by omega)
          refine lv_iinc (v := z_14) (lv' := [(4, .int z_14), (0, .ref td), (1, .int vf), (2, .int vn), (3, .int vw)]) hx hb dX8_find_25 hl (k := 0) rfl (ez_14.symm) (by decide) rfl (fun ls hl => ?_)
          clear ez_14
          refine lv_goto (tgt := 3) hx hb dX8_find_28 (by decide) ?_
          exact ih9 z_14 (by omega) (FNx_s (y := z_11) hi_fn_q_8 (by omega) (by omega) ez_12 (by omega) (by omega)) (by omega) _ _ (hP.sub [0, 1] rfl) (hD.sub [0, 1] (by decide) rfl) hS _ (lv_sub hl [0, 1, 2, 3, 4] rfl)
        · have kc_13 := il_eq c_13
          have := Int32.toInt_lt z_12; have := Int32.le_toInt z_12
          have := Int32.toInt_lt vw; have := Int32.le_toInt vw
          refine lv_iload hx hb dX8_find_22 (lv_at hl 0 rfl) ?_
          have hP9 := hP.sub (ws' := [(td, .inr (8, [.int td_clocks, .int td_people, .int td_rounds, .int td_guns, .int td_lines, .ref td_name, .ref td_first, .ref td_gain, .ref td_rough, .ref td_custom, .ref td_part, .ref td_whole, .ref td_roundPerson, .ref td_roundClock, .ref td_roundHour, .ref td_gunClock, .ref td_gunHour, .ref td_rules])), (td_name, .inl (k_td_name, 10, .inl f_td_name))]) [0, 1] rfl
          have hD9 := hD.sub (ws' := [(td, .inr (8, [.int td_clocks, .int td_people, .int td_rounds, .int td_guns, .int td_lines, .ref td_name, .ref td_first, .ref td_gain, .ref td_rough, .ref td_custom, .ref td_part, .ref td_whole, .ref td_roundPerson, .ref td_roundClock, .ref td_roundHour, .ref td_gunClock, .ref td_gunHour, .ref td_rules])), (td_name, .inl (k_td_name, 10, .inl f_td_name))]) [0, 1] (by decide) rfl
          exact W.iret (v := g_7_l4) hx hb hr (fun t ht hW => ⟨⟨g_7_l4, (), rfl, ⟨(by omega), FNx_y (y := z_11) hi_fn_q_8 (by omega) (by omega) (by omega) ez_12 (by omega)⟩, by rw [ht]; exact hP9, hD9⟩, hS.F ht⟩) hS.2.2 dX8_find_24
  have := (by decide : (0 : Int32).toInt = 0)
  exact loop_9 4294967296 (0 : Int32) (by decide) FNx_0 (by omega) _ _ (hP.sub [0, 1] rfl) (hD.sub [0, 1] (by decide) rfl) hS _ (lv_sub hl [0, 1, 2, 3, 4] rfl)
